/-- as ROK, of a method that answers no truth -/
def ROKV (x : OR) (F : PF) (_ : Int32) (F' : PF) : Prop := (True ∧ F' 44 = 0 ∧ F' 43 = F 43 ∧ x = some (some (F' 42))) ∨ (True ∧ 0 < (F' 44).toInt ∧ x = some none)
abbrev rE (K V : Nat → Int32) (fu : Nat) (t o : Int32) : OR := rS1 K V fu 300 4 t o
def rcond (K V : Nat → Int32) (fu : Nat) (t o : Int32) : OR := if sgn K V t 22 = true then (if o = 40 then rno else rb (rS1 K V fu 300 4 (t + 1) (o + 1)) (fun t1 => rclose K V 23 t1)) else rno
def setS (s : Int32) : Bool := decide (s.toInt = 32 ∨ s.toInt = 12 ∨ s.toInt = 13 ∨ s.toInt = 0 ∨ s.toInt = 2 ∨ s.toInt = 3 ∨ (4 ≤ s.toInt ∧ s.toInt < 12))
def rsig (K V : Nat → Int32) (t : Int32) : Int32 := if K t.toNatClampNeg = 4 then V t.toNatClampNeg else -1
def rsimple3 (K V : Nat → Int32) (fu : Nat) (s : Int32) (t o : Int32) : OR := if s = 12 then ryes t else if s = 13 then ryes t else rS1 K V fu 300 4 t o
def rsimple2 (K V : Nat → Int32) (fu : Nat) (t o : Int32) : OR := if setS (rsig K V t) = true then rsimple3 K V fu (rsig K V t) (t + 1) o else rno
def rsimple1 (K V : Nat → Int32) (fu : Nat) (t o : Int32) : OR := if sgn K V t 24 = true then rb (rS1 K V fu 300 3 t o) (fun t1 => rsimple2 K V fu t1 o) else rsimple2 K V fu t o
def rsimple (K V : Nat → Int32) (fu : Nat) (t o : Int32) : OR := if K t.toNatClampNeg = 1 then (if sgn K V (t + 1) 22 = true then rS1 K V fu 300 1 (t + 1) o else rsimple1 K V fu (t + 1) o) else rno
def rsize (K V : Nat → Int32) (fu : Nat) (t o : Int32) : OR := if sgn K V t 24 = true then (if o = 40 then rno else rb (rS1 K V fu 300 4 (t + 1) (o + 1)) (fun t1 => rclose K V 25 t1)) else rno
def rtell2 (K V : Nat → Int32) (fu : Nat) (pl : Int32) (t o : Int32) : OR := if sgn K V t 32 = true then rS1 K V fu 300 4 (t + 1) o else if pl = 0 then rno else ryes t
def rtell (K V : Nat → Int32) (fu : Nat) (pl : Int32) (t o : Int32) : OR := if K (t + 1).toNatClampNeg = 1 then (if pl = 0 then rtell2 K V fu pl (t + 1 + 1) o else if wdn K V t 1 = true then rsize K V fu (t + 1 + 1) o else if sgn K V (t + 1 + 1) 24 = true then rsize K V fu (t + 1 + 1) o else rtell2 K V fu pl (t + 1 + 1) o) else rno
def rreturns (K V : Nat → Int32) (fu : Nat) (t o : Int32) : OR := if sgn K V (t + 1) 29 = true then rclose K V 29 (t + 1) else rb (rS1 K V fu 300 4 (t + 1) o) (fun t1 => rclose K V 29 t1)
def rh_block (K V : Nat → Int32) (fu : Nat) (r : RR) (t o : Int32) (lp : Int32 → Int32 → OR) : OR := if sgn K V t 26 = true then (if o = 40 then rno else lp (t + 1) (o + 1)) else rno
def rl_block (K V : Nat → Int32) (r : RR) (o : Int32) : Nat → Int32 → OR
  | 0 => fun _ => none
  | n + 1 => fun t => if sgn K V t 27 = true then rclose K V 27 t else rb (r 6 t o) (fun t1 => rl_block K V r o n t1)
def rblock (K V : Nat → Int32) (fu : Nat) (r : RR) (t o : Int32) : OR := if sgn K V t 26 = true then (if o = 40 then rno else rl_block K V r (o + 1) fu (t + 1)) else rno
def rchoice (K V : Nat → Int32) (fu : Nat) (r : RR) (t o : Int32) : OR := if o = 40 then rno else rb (rcond K V fu (t + 1) (o + 1)) (fun t1 => rb (r 5 t1 (o + 1)) (fun t2 => if wdn K V t2 5 = true then r 5 (t2 + 1) (o + 1) else ryes t2))
def rloop (K V : Nat → Int32) (fu : Nat) (r : RR) (t o : Int32) : OR := if o = 40 then rno else rb (rcond K V fu (t + 1) (o + 1)) (fun t1 => r 1 t1 (o + 1))
def rturn (K V : Nat → Int32) (fu : Nat) (r : RR) (t o : Int32) : OR := if o = 40 then rno else rb (r 1 (t + 1) (o + 1)) (fun t1 => if wdn K V t1 6 = true then rb (rcond K V fu (t1 + 1) (o + 1)) (fun t2 => rclose K V 29 t2) else rno)
def rcnt4 (K V : Nat → Int32) (r : RR) (t o : Int32) : OR := if sgn K V t 23 = true then r 1 (t + 1) (o - 1) else rno
def rcnt3 (K V : Nat → Int32) (fu : Nat) (r : RR) (t o : Int32) : OR := if sgn K V t 29 = true then (if sgn K V (t + 1) 23 = true then rcnt4 K V r (t + 1) o else rb (rsimple K V fu (t + 1) o) (fun t1 => rcnt4 K V r t1 o)) else rno
def rcnt2 (K V : Nat → Int32) (fu : Nat) (r : RR) (t o : Int32) : OR := if sgn K V t 29 = true then (if sgn K V (t + 1) 29 = true then rcnt3 K V fu r (t + 1) o else rb (rS1 K V fu 300 4 (t + 1) o) (fun t1 => rcnt3 K V fu r t1 o)) else rno
def rcounted (K V : Nat → Int32) (fu : Nat) (r : RR) (t o : Int32) : OR := if o = 40 then rno else if sgn K V (t + 1) 22 = true then (if o + 1 = 40 then rno else if sgn K V (t + 1 + 1) 29 = true then rcnt2 K V fu r (t + 1 + 1) (o + 1 + 1) else if wdn K V (t + 1 + 1) 0 = true then rb (rtell K V fu 0 (t + 1 + 1) (o + 1 + 1)) (fun t1 => rcnt2 K V fu r t1 (o + 1 + 1)) else rb (rsimple K V fu (t + 1 + 1) (o + 1 + 1)) (fun t1 => rcnt2 K V fu r t1 (o + 1 + 1))) else rno
def rput (K V : Nat → Int32) (fu : Nat) (t o : Int32) : OR := if sgn K V (t + 1) 22 = true then (if o = 40 then rno else rb (rS1 K V fu 300 4 (t + 1 + 1) (o + 1)) (fun t1 => if sgn K V t1 23 = true then rclose K V 29 (t1 + 1) else rno)) else rno
def rleaves (K V : Nat → Int32) (t : Int32) : OR := rclose K V 29 (t + 1)
def rstatement (K V : Nat → Int32) (fu : Nat) (r : RR) (t o : Int32) : OR := if sgn K V t 26 = true then r 0 t o else if sgn K V t 29 = true then rclose K V 29 t else if K t.toNatClampNeg = 1 then rb (rsimple K V fu t o) (fun t1 => rclose K V 29 t1) else if K t.toNatClampNeg = 2 then (if (V t.toNatClampNeg).toInt < 0 ∨ 14 < (V t.toNatClampNeg).toInt then rno else if V t.toNatClampNeg = 0 then rb (rtell K V fu 1 t o) (fun t1 => rclose K V 29 t1) else if V t.toNatClampNeg = 1 then rb (rtell K V fu 1 t o) (fun t1 => rclose K V 29 t1) else if V t.toNatClampNeg = 2 then rno else if V t.toNatClampNeg = 3 then rno else if V t.toNatClampNeg = 4 then r 2 t o else if V t.toNatClampNeg = 5 then rno else if V t.toNatClampNeg = 6 then r 4 t o else if V t.toNatClampNeg = 7 then r 7 t o else if V t.toNatClampNeg = 8 then r 3 t o else if V t.toNatClampNeg = 9 then rleaves K V t else if V t.toNatClampNeg = 10 then rleaves K V t else if V t.toNatClampNeg = 11 then rreturns K V fu t o else if V t.toNatClampNeg = 12 then rput K V fu t o else if V t.toNatClampNeg = 13 then rno else rput K V fu t o) else rno
def rS2 (K V : Nat → Int32) (fu : Nat) : Nat → RR
  | 0 => fun _ _ _ => none
  | d + 1 => fun i t o => if i = 0 then rblock K V fu (rS2 K V fu d) t o else if i = 1 then rS2 K V fu d 5 t o else if i = 2 then rchoice K V fu (rS2 K V fu d) t o else if i = 3 then rcounted K V fu (rS2 K V fu d) t o else if i = 4 then rloop K V fu (rS2 K V fu d) t o else if i = 5 then rS2 K V fu d 6 t o else if i = 6 then rstatement K V fu (rS2 K V fu d) t o else if i = 7 then rturn K V fu (rS2 K V fu d) t o else none
def mRI2 (K V : Nat → Int32) (rc : RC) (r : RR) : Prop := ∀ (i : Nat) (x y : Int32) (F : PF) (G : PG), G 4 = K → G 5 = V → F 44 = 0 → PP (rc i x y F G) (fun r' F' _ => ROK (r i (F 42) (F 43)) F r' F')
theorem pos_i {x : Int32} (h : 0 < x.toInt) : (0 : Int32) < x := i_lt.mpr h
theorem rs2_t {K V : Nat → Int32} {fu : Nat} {s t o : Int32} (h : s = rsig K V t) (hs : s.toInt = 32 ∨ s.toInt = 12 ∨ s.toInt = 13 ∨ s.toInt = 0 ∨ s.toInt = 2 ∨ s.toInt = 3 ∨ (4 ≤ s.toInt ∧ s.toInt < 12)) : rsimple2 K V fu t o = rsimple3 K V fu s (t + 1) o := by
  unfold rsimple2
  rw [← h, if_pos (show setS s = true from decide_eq_true hs)]
theorem rs2_f {K V : Nat → Int32} {fu : Nat} {s t o : Int32} (h : s = rsig K V t) (hs : ¬ (s.toInt = 32 ∨ s.toInt = 12 ∨ s.toInt = 13 ∨ s.toInt = 0 ∨ s.toInt = 2 ∨ s.toInt = 3 ∨ (4 ≤ s.toInt ∧ s.toInt < 12))) : rsimple2 K V fu t o = some none := by
  unfold rsimple2
  rw [← h, if_neg (fun q : setS s = true => hs (of_decide_eq_true q))]
  rfl

theorem mr_value {fu : Nat} {K V : Nat → Int32} (F : PF) (G : PG) (g4 : G 4 = K) (g5 : G 5 = V) (h44 : F 44 = 0) : PP (mf_value fu F G) (fun r' F' _ => ROKV (rS1 K V fu 300 4 (F 42) (F 43)) F r' F') := by
  unfold mf_value
  unfold mb_value_0
  unfold mb_value_10
  unfold mb_value_15
  refine PP.bind (PP.and (mw_expression (fup (fup F 54 (1 : Int32)) 55 (0 : Int32)) G) (mr_expression (fup (fup F 54 (1 : Int32)) 55 (0 : Int32)) G g4 g5 (show (fup (fup F 54 (1 : Int32)) 55 (0 : Int32)) 44 = 0 from h44))) ?_
  rintro r1 F1 G1 ⟨hK1, (⟨rfl, u1a, u1b, u1⟩ | ⟨rfl, u1a, u1⟩)⟩
  · dsimp only
    have g_2 : G1 4 = K := Eq.trans (hK1.2 4 rfl) g4
    have g_3 : G1 5 = V := Eq.trans (hK1.2 5 rfl) g5
    have h_4 : rS1 K V fu 300 4 (F 42) (F 43) = some (some (F1 42)) := u1
    have q_5 : F1 43 = (F 43) := (show F1 43 = (F 43) from u1b)
    unfold mb_value_24
    refine PP.bz (fun _ => ?_)
    unfold mb_value_30
    refine PP.ite (fun c_6 => ?_) (fun c_6 => ?_)
    · skip
      exact absurd (i_pos (show (0 : Int32) < (F1 44) from c_6)) (by rw [u1a]; decide)
    · skip
      unfold mb_value_37
      refine PP.ite (fun c_7 => ?_) (fun c_7 => ?_)
      · skip
        unfold mb_value_51
        unfold mb_value_60
        unfold mb_value_66
        refine PP.ret ?_
        refine Or.inl ⟨trivial, u1a, ?_, (rfl : (rS1 K V fu 300 4 (F 42) (F 43)) = _).trans ?_⟩
        · show (F1 43) = F 43
          first | with_reducible rfl | (simp only [q_5, i_as, fup, Nat.reduceEqDiff, reduceIte, if_false]) | rfl
        · show _ = some (some (F1 42))
          first | with_reducible rfl | (simp only [h_4, q_5, i_as, fup, i_a0, i0m, i10, eq_self, rb_yes, rb_no, ryes, rno, if_true, if_false, f_tt (p := True), reduceIte, Nat.reduceEqDiff]) | rfl
      · skip
        unfold mb_value_44
        refine PP.ite (fun c_8 => ?_) (fun c_8 => ?_)
        · skip
          unfold mb_value_55
          refine PP.bind (mw_reckon (F 60) (fup F1 54 (F 54)) G1) ?_
          intro r9 F9 G9 hK9
          dsimp only
          have g_10 : G9 4 = K := Eq.trans (hK9.2 4 rfl) g_2
          have g_11 : G9 5 = V := Eq.trans (hK9.2 5 rfl) g_3
          have q_12 : F9 42 = (F1 42) := hK9.1 42 rfl
          have q_13 : F9 43 = (F 43) := Eq.trans (hK9.1 43 rfl) (show (F1 43) = (F 43) by simp only [q_5, i_as])
          have q_14 : F9 44 = 0 := Eq.trans (hK9.1 44 rfl) u1a
          unfold mb_value_60
          unfold mb_value_66
          refine PP.ret ?_
          refine Or.inl ⟨trivial, q_14, ?_, (rfl : (rS1 K V fu 300 4 (F 42) (F 43)) = _).trans ?_⟩
          · show (F9 43) = F 43
            first | with_reducible rfl | (simp only [q_5, q_12, q_13, i_as, fup, Nat.reduceEqDiff, reduceIte, if_false]) | rfl
          · show _ = some (some (F9 42))
            first | with_reducible rfl | (simp only [h_4, q_5, q_12, q_13, i_as, fup, i_a0, i0m, i10, eq_self, rb_yes, rb_no, ryes, rno, if_true, if_false, f_tt (p := True), reduceIte, Nat.reduceEqDiff]) | rfl
        · skip
          unfold mb_value_51
          unfold mb_value_60
          unfold mb_value_66
          refine PP.ret ?_
          refine Or.inl ⟨trivial, u1a, ?_, (rfl : (rS1 K V fu 300 4 (F 42) (F 43)) = _).trans ?_⟩
          · show (F1 43) = F 43
            first | with_reducible rfl | (simp only [q_5, i_as, fup, Nat.reduceEqDiff, reduceIte, if_false]) | rfl
          · show _ = some (some (F1 42))
            first | with_reducible rfl | (simp only [h_4, q_5, i_as, fup, i_a0, i0m, i10, eq_self, rb_yes, rb_no, ryes, rno, if_true, if_false, f_tt (p := True), reduceIte, Nat.reduceEqDiff]) | rfl
  · dsimp only
    have g_15 : G1 4 = K := Eq.trans (hK1.2 4 rfl) g4
    have g_16 : G1 5 = V := Eq.trans (hK1.2 5 rfl) g5
    have h_17 : rS1 K V fu 300 4 (F 42) (F 43) = some (none) := u1
    unfold mb_value_24
    refine PP.bz (fun _ => ?_)
    unfold mb_value_30
    refine PP.ite (fun c_18 => ?_) (fun c_18 => ?_)
    · skip
      unfold mb_value_51
      unfold mb_value_60
      unfold mb_value_66
      refine PP.ret ?_
      refine Or.inr ⟨trivial, u1a, (rfl : (rS1 K V fu 300 4 (F 42) (F 43)) = _).trans ?_⟩
      first | with_reducible rfl | (simp only [h_17, i_as, fup, i_a0, i0m, i10, eq_self, rb_yes, rb_no, ryes, rno, if_true, if_false, f_tt (p := True), reduceIte, Nat.reduceEqDiff]) | rfl
    · skip
      exact absurd (pos_i u1a) (show ¬ ((0 : Int32) < (F1 44)) from c_18)
theorem mr_sizeHere {fu : Nat} {K V : Nat → Int32} (F : PF) (G : PG) (g4 : G 4 = K) (g5 : G 5 = V) (h44 : F 44 = 0) : PP (mf_sizeHere fu F G) (fun r' F' _ => ROKV (rS1 K V fu 300 4 (F 42) (F 43)) F r' F') := by
  unfold mf_sizeHere
  unfold mb_sizeHere_0
  refine PP.ix (fun _ => ?_)
  refine PP.bind (PP.and (mw_value F G) (mr_value F G g4 g5 (show F 44 = 0 from h44))) ?_
  rintro r1 F1 G1 ⟨hK1, (⟨-, u1a, u1b, u1⟩ | ⟨-, u1a, u1⟩)⟩
  · dsimp only
    have g_2 : G1 4 = K := Eq.trans (hK1.2 4 rfl) g4
    have g_3 : G1 5 = V := Eq.trans (hK1.2 5 rfl) g5
    have h_4 : rS1 K V fu 300 4 (F 42) (F 43) = some (some (F1 42)) := u1
    have q_5 : F1 43 = (F 43) := (show F1 43 = (F 43) from u1b)
    unfold mb_sizeHere_14
    refine PP.ite (fun c_6 => ?_) (fun c_6 => ?_)
    · skip
      exact absurd (i_pos (show (0 : Int32) < (F1 44) from c_6)) (by rw [u1a]; decide)
    · skip
      unfold mb_sizeHere_22
      refine PP.ite (fun c_7 => ?_) (fun c_7 => ?_)
      · skip
        unfold mb_sizeHere_29
        refine PP.ret ?_
        refine Or.inl ⟨trivial, u1a, ?_, (rfl : (rS1 K V fu 300 4 (F 42) (F 43)) = _).trans ?_⟩
        · show (F1 43) = F 43
          first | with_reducible rfl | (simp only [q_5, i_as, fup, Nat.reduceEqDiff, reduceIte, if_false]) | rfl
        · show _ = some (some (F1 42))
          first | with_reducible rfl | (simp only [h_4, q_5, i_as, fup, i_a0, i0m, i10, eq_self, rb_yes, rb_no, ryes, rno, if_true, if_false, f_tt (p := True), reduceIte, Nat.reduceEqDiff]) | rfl
      · skip
        unfold mb_sizeHere_31
        refine PP.ite (fun c_8 => ?_) (fun c_8 => ?_)
        · skip
          unfold mb_sizeHere_40
          refine PP.ite (fun c_9 => ?_) (fun c_9 => ?_)
          · skip
            unfold mb_sizeHere_54
            refine PP.bind (mw_note (10 : Int32) (G 6 (F 42).toNatClampNeg) F1 G1) ?_
            intro r10 F10 G10 hK10
            dsimp only
            have g_11 : G10 4 = K := Eq.trans (hK10.2 4 rfl) g_2
            have g_12 : G10 5 = V := Eq.trans (hK10.2 5 rfl) g_3
            have q_13 : F10 42 = (F1 42) := hK10.1 42 rfl
            have q_14 : F10 43 = (F 43) := Eq.trans (hK10.1 43 rfl) (show (F1 43) = (F 43) by simp only [q_5, i_as])
            have q_15 : F10 44 = 0 := Eq.trans (hK10.1 44 rfl) u1a
            unfold mb_sizeHere_61
            refine PP.ret ?_
            refine Or.inl ⟨trivial, q_15, ?_, (rfl : (rS1 K V fu 300 4 (F 42) (F 43)) = _).trans ?_⟩
            · show (F10 43) = F 43
              first | with_reducible rfl | (simp only [q_5, q_13, q_14, i_as, fup, Nat.reduceEqDiff, reduceIte, if_false]) | rfl
            · show _ = some (some (F10 42))
              first | with_reducible rfl | (simp only [h_4, q_5, q_13, q_14, i_as, fup, i_a0, i0m, i10, eq_self, rb_yes, rb_no, ryes, rno, if_true, if_false, f_tt (p := True), reduceIte, Nat.reduceEqDiff]) | rfl
          · skip
            unfold mb_sizeHere_45
            refine PP.ite (fun c_16 => ?_) (fun c_16 => ?_)
            · skip
              unfold mb_sizeHere_54
              refine PP.bind (mw_note (10 : Int32) (G 6 (F 42).toNatClampNeg) F1 G1) ?_
              intro r17 F17 G17 hK17
              dsimp only
              have g_18 : G17 4 = K := Eq.trans (hK17.2 4 rfl) g_2
              have g_19 : G17 5 = V := Eq.trans (hK17.2 5 rfl) g_3
              have q_20 : F17 42 = (F1 42) := hK17.1 42 rfl
              have q_21 : F17 43 = (F 43) := Eq.trans (hK17.1 43 rfl) (show (F1 43) = (F 43) by simp only [q_5, i_as])
              have q_22 : F17 44 = 0 := Eq.trans (hK17.1 44 rfl) u1a
              unfold mb_sizeHere_61
              refine PP.ret ?_
              refine Or.inl ⟨trivial, q_22, ?_, (rfl : (rS1 K V fu 300 4 (F 42) (F 43)) = _).trans ?_⟩
              · show (F17 43) = F 43
                first | with_reducible rfl | (simp only [q_5, q_20, q_21, i_as, fup, Nat.reduceEqDiff, reduceIte, if_false]) | rfl
              · show _ = some (some (F17 42))
                first | with_reducible rfl | (simp only [h_4, q_5, q_20, q_21, i_as, fup, i_a0, i0m, i10, eq_self, rb_yes, rb_no, ryes, rno, if_true, if_false, f_tt (p := True), reduceIte, Nat.reduceEqDiff]) | rfl
            · skip
              unfold mb_sizeHere_52
              refine PP.ret ?_
              refine Or.inl ⟨trivial, u1a, ?_, (rfl : (rS1 K V fu 300 4 (F 42) (F 43)) = _).trans ?_⟩
              · show (F1 43) = F 43
                first | with_reducible rfl | (simp only [q_5, i_as, fup, Nat.reduceEqDiff, reduceIte, if_false]) | rfl
              · show _ = some (some (F1 42))
                first | with_reducible rfl | (simp only [h_4, q_5, i_as, fup, i_a0, i0m, i10, eq_self, rb_yes, rb_no, ryes, rno, if_true, if_false, f_tt (p := True), reduceIte, Nat.reduceEqDiff]) | rfl
        · skip
          unfold mb_sizeHere_38
          refine PP.ret ?_
          refine Or.inl ⟨trivial, u1a, ?_, (rfl : (rS1 K V fu 300 4 (F 42) (F 43)) = _).trans ?_⟩
          · show (F1 43) = F 43
            first | with_reducible rfl | (simp only [q_5, i_as, fup, Nat.reduceEqDiff, reduceIte, if_false]) | rfl
          · show _ = some (some (F1 42))
            first | with_reducible rfl | (simp only [h_4, q_5, i_as, fup, i_a0, i0m, i10, eq_self, rb_yes, rb_no, ryes, rno, if_true, if_false, f_tt (p := True), reduceIte, Nat.reduceEqDiff]) | rfl
  · dsimp only
    have g_23 : G1 4 = K := Eq.trans (hK1.2 4 rfl) g4
    have g_24 : G1 5 = V := Eq.trans (hK1.2 5 rfl) g5
    have h_25 : rS1 K V fu 300 4 (F 42) (F 43) = some (none) := u1
    unfold mb_sizeHere_14
    refine PP.ite (fun c_26 => ?_) (fun c_26 => ?_)
    · skip
      unfold mb_sizeHere_29
      refine PP.ret ?_
      refine Or.inr ⟨trivial, u1a, (rfl : (rS1 K V fu 300 4 (F 42) (F 43)) = _).trans ?_⟩
      first | with_reducible rfl | (simp only [h_25, i_as, fup, i_a0, i0m, i10, eq_self, rb_yes, rb_no, ryes, rno, if_true, if_false, f_tt (p := True), reduceIte, Nat.reduceEqDiff]) | rfl
    · skip
      exact absurd (pos_i u1a) (show ¬ ((0 : Int32) < (F1 44)) from c_26)
theorem mr_condition {fu : Nat} {K V : Nat → Int32} (F : PF) (G : PG) (g4 : G 4 = K) (g5 : G 5 = V) (h44 : F 44 = 0) : PP (mf_condition fu F G) (fun r' F' _ => ROK (rcond K V fu (F 42) (F 43)) F r' F') := by
  unfold mf_condition
  unfold mb_condition_0
  refine PP.bind (mp_openSign (22 : Int32) F G) ?_
  rintro r1 F1 G1 (⟨rfl, rfl, rfl, u1⟩ | ⟨rfl, u1, u1b⟩)
  · dsimp only
    have h_2 : sgn K V (F 42) (22 : Int32) = true := by
      rw [← g4, ← g5]
      have q := u1.1
      first | exact q | (simp only [i_as] at q; exact q)
    have h_3 : ¬ (F 43) = 40 := by
      have q : ¬ (F 43) = 40 := u1.2.1
      first | exact q | (simp only [i_as] at q; exact q)
    unfold mb_condition_6
    refine PP.ite (fun c_4 => absurd c_4 (by decide)) (fun _ => ?_)
    unfold mb_condition_9
    refine PP.bind (PP.and (mw_expression (fup (fup F 43 ((F 43) + (1 : Int32))) 42 ((F 42) + (1 : Int32))) G) (mr_expression (fup (fup F 43 ((F 43) + (1 : Int32))) 42 ((F 42) + (1 : Int32))) G g4 g5 (show (fup (fup F 43 ((F 43) + (1 : Int32))) 42 ((F 42) + (1 : Int32))) 44 = 0 from h44))) ?_
    rintro r5 F5 G5 ⟨hK5, (⟨rfl, u5a, u5b, u5⟩ | ⟨rfl, u5a, u5⟩)⟩
    · dsimp only
      have g_6 : G5 4 = K := Eq.trans (hK5.2 4 rfl) g4
      have g_7 : G5 5 = V := Eq.trans (hK5.2 5 rfl) g5
      have h_8 : rS1 K V fu 300 4 ((F 42) + (1 : Int32)) ((F 43) + (1 : Int32)) = some (some (F5 42)) := u5
      have q_9 : F5 43 = ((F 43) + (1 : Int32)) := (show F5 43 = ((F 43) + (1 : Int32)) from u5b)
      unfold mb_condition_13
      refine PP.ite (fun c_10 => absurd c_10 (by decide)) (fun _ => ?_)
      unfold mb_condition_16
      refine PP.bind (mp_closeSign (23 : Int32) F5 G5) ?_
      rintro r11 F11 G11 (⟨rfl, rfl, rfl, u11⟩ | ⟨rfl, u11, u11b⟩)
      · dsimp only
        have h_12 : sgn K V (F5 42) (23 : Int32) = true := by
          rw [← g_6, ← g_7]
          have q := u11.1
          first | exact q | (simp only [q_9, i_as] at q; exact q)
        unfold mb_condition_22
        refine PP.ite (fun c_13 => absurd c_13 (by decide)) (fun _ => ?_)
        unfold mb_condition_25
        unfold mb_condition_30
        refine PP.ret ?_
        refine Or.inl ⟨rfl, u5a, ?_, (rfl : (rcond K V fu (F 42) (F 43)) = _).trans ?_⟩
        · show ((F5 43) - (1 : Int32)) = F 43
          first | with_reducible rfl | (simp only [q_9, i_as, fup, Nat.reduceEqDiff, reduceIte, if_false]) | rfl
        · show _ = some (some ((F5 42) + (1 : Int32)))
          first | with_reducible rfl | (simp only [rcond, rclose, h_2, h_3, h_8, h_12, q_9, i_as, fup, i_a0, i0m, i10, eq_self, rb_yes, rb_no, ryes, rno, if_true, if_false, f_tt (p := True), reduceIte, Nat.reduceEqDiff]) | rfl
      · dsimp only
        have g_14 : G11 4 = K := Eq.trans (u11.2.2.2 4 rfl) g_6
        have g_15 : G11 5 = V := Eq.trans (u11.2.2.2 5 rfl) g_7
        have q_16 : F11 42 = (F5 42) := u11.2.2.1 42 rfl
        have q_17 : F11 43 = ((F 43) + (1 : Int32)) := Eq.trans (u11.2.2.1 43 rfl) (show (F5 43) = ((F 43) + (1 : Int32)) by simp only [q_9, i_as])
        rcases u11b with q | q
        · exact absurd q (show ¬ 0 < (F5 44).toInt by rw [u5a]; decide)
        · skip
          have h_18 : sgn K V (F5 42) (23 : Int32) = false := by
            rw [← g_6, ← g_7]
            have q := q
            first | exact q | (simp only [q_9, i_as] at q; exact q)
          unfold mb_condition_22
          refine PP.ite (fun _ => ?_) (fun c_19 => absurd (by decide) c_19)
          unfold mb_condition_29
          unfold mb_condition_30
          refine PP.ret ?_
          refine Or.inr ⟨rfl, u11.1, (rfl : (rcond K V fu (F 42) (F 43)) = _).trans ?_⟩
          first | with_reducible rfl | (simp only [rcond, rclose, h_2, h_3, h_8, h_18, q_9, q_16, q_17, i_as, fup, i_a0, i0m, i10, eq_self, rb_yes, rb_no, ryes, rno, if_true, if_false, f_tt (p := True), reduceIte, Nat.reduceEqDiff]) | rfl
    · dsimp only
      have g_20 : G5 4 = K := Eq.trans (hK5.2 4 rfl) g4
      have g_21 : G5 5 = V := Eq.trans (hK5.2 5 rfl) g5
      have h_22 : rS1 K V fu 300 4 ((F 42) + (1 : Int32)) ((F 43) + (1 : Int32)) = some (none) := u5
      unfold mb_condition_13
      refine PP.ite (fun _ => ?_) (fun c_23 => absurd (by decide) c_23)
      unfold mb_condition_29
      unfold mb_condition_30
      refine PP.ret ?_
      refine Or.inr ⟨rfl, u5a, (rfl : (rcond K V fu (F 42) (F 43)) = _).trans ?_⟩
      first | with_reducible rfl | (simp only [rcond, rclose, h_2, h_3, h_22, i_as, fup, i_a0, i0m, i10, eq_self, rb_yes, rb_no, ryes, rno, if_true, if_false, f_tt (p := True), reduceIte, Nat.reduceEqDiff]) | rfl
  · dsimp only
    have g_24 : G1 4 = K := Eq.trans (u1.2.2.2 4 rfl) g4
    have g_25 : G1 5 = V := Eq.trans (u1.2.2.2 5 rfl) g5
    have q_26 : F1 42 = (F 42) := u1.2.2.1 42 rfl
    have q_27 : F1 43 = (F 43) := u1.2.2.1 43 rfl
    rcases u1b with q | q | ⟨q, q1⟩
    · exact absurd q (show ¬ 0 < (F 44).toInt by rw [h44]; decide)
    · skip
      have h_28 : sgn K V (F 42) (22 : Int32) = false := by
        rw [← g4, ← g5]
        have q := q
        first | exact q | (simp only [i_as] at q; exact q)
      unfold mb_condition_6
      refine PP.ite (fun _ => ?_) (fun c_29 => absurd (by decide) c_29)
      unfold mb_condition_29
      unfold mb_condition_30
      refine PP.ret ?_
      refine Or.inr ⟨rfl, u1.1, (rfl : (rcond K V fu (F 42) (F 43)) = _).trans ?_⟩
      first | with_reducible rfl | (simp only [rcond, rclose, h_28, q_26, q_27, i_as, fup, i_a0, i0m, i10, eq_self, rb_yes, rb_no, ryes, rno, if_true, if_false, f_tt (p := True), reduceIte, Nat.reduceEqDiff]) | rfl
    · skip
      have h_30 : sgn K V (F 42) (22 : Int32) = true := by
        rw [← g4, ← g5]
        have q := q
        first | exact q | (simp only [i_as] at q; exact q)
      have h_31 : ((F 43) = 40) = True := by
        have q : (F 43) = 40 := q1
        first | exact eq_true q | (simp only [i_as] at q; exact eq_true q)
      unfold mb_condition_6
      refine PP.ite (fun _ => ?_) (fun c_32 => absurd (by decide) c_32)
      unfold mb_condition_29
      unfold mb_condition_30
      refine PP.ret ?_
      refine Or.inr ⟨rfl, u1.1, (rfl : (rcond K V fu (F 42) (F 43)) = _).trans ?_⟩
      first | with_reducible rfl | (simp only [rcond, rclose, h_30, h_31, q_26, q_27, i_as, fup, i_a0, i0m, i10, eq_self, rb_yes, rb_no, ryes, rno, if_true, if_false, f_tt (p := True), reduceIte, Nat.reduceEqDiff]) | rfl
theorem mrj_returns_98 {fu : Nat} {K V : Nat → Int32} {F0 : PF} {R0 : OR} (F : PF) (G : PG) (g4 : G 4 = K) (g5 : G 5 = V) (hA : (F 44 = 0 ∧ F 43 = F0 43 ∧ R0 = rclose K V 29 (F 42))) : PP (mb_returns_98 fu F G) (fun r' F' _ => ROK R0 F0 r' F') := by
  rcases hA with ⟨h44, h43, hR⟩
  · skip
    unfold mb_returns_98
    refine PP.bind (mw_step (17 : Int32) (0 : Int32) (0 : Int32) F G) ?_
    intro r1 F1 G1 hK1
    dsimp only
    have g_2 : G1 4 = K := Eq.trans (hK1.2 4 rfl) g4
    have g_3 : G1 5 = V := Eq.trans (hK1.2 5 rfl) g5
    have q_4 : F1 42 = (F 42) := hK1.1 42 rfl
    have q_5 : F1 43 = (F0 43) := Eq.trans (hK1.1 43 rfl) (show (F 43) = (F0 43) by simp only [h43, i_as])
    have q_6 : F1 44 = 0 := Eq.trans (hK1.1 44 rfl) h44
    unfold mb_returns_106
    refine PP.bind (mp_sign (29 : Int32) F1 G1) ?_
    rintro r7 F7 G7 (⟨rfl, rfl, rfl, u7⟩ | ⟨rfl, u7, u7b⟩)
    · dsimp only
      have h_8 : sgn K V (F 42) (29 : Int32) = true := by
        rw [← g_2, ← g_3]
        have q := u7.1
        first | exact q | (simp only [q_4, q_5, i_as] at q; exact q)
      unfold mb_returns_113
      refine PP.ret ?_
      refine Or.inl ⟨rfl, q_6, ?_, hR.trans ?_⟩
      · show (F1 43) = F0 43
        first | with_reducible rfl | (simp only [h43, q_4, q_5, i_as, fup, Nat.reduceEqDiff, reduceIte, if_false]) | rfl
      · show _ = some (some ((F1 42) + (1 : Int32)))
        first | with_reducible rfl | (simp only [rreturns, rclose, h_8, h43, q_4, q_5, i_as, fup, i_a0, i0m, i10, eq_self, rb_yes, rb_no, ryes, rno, if_true, if_false, f_tt (p := True), reduceIte, Nat.reduceEqDiff]) | rfl
    · dsimp only
      have g_9 : G7 4 = K := Eq.trans (u7.2.2.2 4 rfl) g_2
      have g_10 : G7 5 = V := Eq.trans (u7.2.2.2 5 rfl) g_3
      have q_11 : F7 42 = (F 42) := Eq.trans (u7.2.2.1 42 rfl) (show (F1 42) = (F 42) by simp only [q_4, q_5, i_as])
      have q_12 : F7 43 = (F0 43) := Eq.trans (u7.2.2.1 43 rfl) (show (F1 43) = (F0 43) by simp only [q_4, q_5, i_as])
      rcases u7b with q | q
      · exact absurd q (show ¬ 0 < (F1 44).toInt by rw [q_6]; decide)
      · skip
        have h_13 : sgn K V (F 42) (29 : Int32) = false := by
          rw [← g_2, ← g_3]
          have q := q
          first | exact q | (simp only [q_4, q_5, i_as] at q; exact q)
        unfold mb_returns_113
        refine PP.ret ?_
        refine Or.inr ⟨rfl, u7.1, hR.trans ?_⟩
        first | with_reducible rfl | (simp only [rreturns, rclose, h_13, h43, q_4, q_5, q_11, q_12, i_as, fup, i_a0, i0m, i10, eq_self, rb_yes, rb_no, ryes, rno, if_true, if_false, f_tt (p := True), reduceIte, Nat.reduceEqDiff]) | rfl
theorem mrj_returns_46 {fu : Nat} {K V : Nat → Int32} {F0 : PF} {R0 : OR} (F : PF) (G : PG) (g4 : G 4 = K) (g5 : G 5 = V) (hA : (F 44 = 0 ∧ F 43 = F0 43 ∧ R0 = rclose K V 29 (F 42))) : PP (mb_returns_46 fu F G) (fun r' F' _ => ROK R0 F0 r' F') := by
  rcases hA with ⟨h44, h43, hR⟩
  · skip
    unfold mb_returns_46
    refine PP.bind (mw_step (0 : Int32) (0 : Int32) (0 : Int32) F G) ?_
    intro r1 F1 G1 hK1
    dsimp only
    have g_2 : G1 4 = K := Eq.trans (hK1.2 4 rfl) g4
    have g_3 : G1 5 = V := Eq.trans (hK1.2 5 rfl) g5
    have q_4 : F1 42 = (F 42) := hK1.1 42 rfl
    have q_5 : F1 43 = (F0 43) := Eq.trans (hK1.1 43 rfl) (show (F 43) = (F0 43) by simp only [h43, i_as])
    have q_6 : F1 44 = 0 := Eq.trans (hK1.1 44 rfl) h44
    unfold mb_returns_53
    exact mrj_returns_98 (F0 := F0) (R0 := R0) F1 G1 g_2 g_3 ⟨q_6, (by first | with_reducible rfl | (simp only [h43, q_4, q_5, i_as, fup, Nat.reduceEqDiff, reduceIte, if_false]) | rfl), (hR.trans (by first | with_reducible rfl | (simp only [rreturns, rclose, h43, q_4, q_5, i_as, fup, i_a0, i0m, i10, eq_self, rb_yes, rb_no, ryes, rno, if_true, if_false, f_tt (p := True), reduceIte, Nat.reduceEqDiff]) | rfl))⟩
theorem mrj_returns_89 {fu : Nat} {K V : Nat → Int32} {F0 : PF} {R0 : OR} (F : PF) (G : PG) (g4 : G 4 = K) (g5 : G 5 = V) (hA : (F 44 = 0 ∧ F 43 = F0 43 ∧ R0 = rb (rS1 K V fu 300 4 (F 42) (F 43)) (fun t1 => rclose K V 29 t1))) : PP (mb_returns_89 fu F G) (fun r' F' _ => ROK R0 F0 r' F') := by
  rcases hA with ⟨h44, h43, hR⟩
  · skip
    unfold mb_returns_89
    refine PP.bind (PP.and (mw_expression F G) (mr_expression F G g4 g5 (show F 44 = 0 from h44))) ?_
    rintro r1 F1 G1 ⟨hK1, (⟨rfl, u1a, u1b, u1⟩ | ⟨rfl, u1a, u1⟩)⟩
    · dsimp only
      have g_2 : G1 4 = K := Eq.trans (hK1.2 4 rfl) g4
      have g_3 : G1 5 = V := Eq.trans (hK1.2 5 rfl) g5
      have h_4 : rS1 K V fu 300 4 (F 42) (F0 43) = some (some (F1 42)) := by
        have q : rS1 K V fu 300 4 (F 42) (F 43) = some (some (F1 42)) := u1
        simp only [h43, i_as] at q; exact q
      have q_5 : F1 43 = (F0 43) := by
        have q := (show F1 43 = (F 43) from u1b)
        simp only [h43, i_as] at q; exact q
      unfold mb_returns_93
      refine PP.ite (fun c_6 => absurd c_6 (by decide)) (fun _ => ?_)
      exact mrj_returns_98 (F0 := F0) (R0 := R0) F1 G1 g_2 g_3 ⟨u1a, (by first | with_reducible rfl | (simp only [h43, q_5, i_as, fup, Nat.reduceEqDiff, reduceIte, if_false]) | rfl), (hR.trans (by first | with_reducible rfl | (simp only [rreturns, rclose, h_4, h43, q_5, i_as, fup, i_a0, i0m, i10, eq_self, rb_yes, rb_no, ryes, rno, if_true, if_false, f_tt (p := True), reduceIte, Nat.reduceEqDiff]) | rfl))⟩
    · dsimp only
      have g_7 : G1 4 = K := Eq.trans (hK1.2 4 rfl) g4
      have g_8 : G1 5 = V := Eq.trans (hK1.2 5 rfl) g5
      have h_9 : rS1 K V fu 300 4 (F 42) (F0 43) = some (none) := by
        have q : rS1 K V fu 300 4 (F 42) (F 43) = some (none) := u1
        simp only [h43, i_as] at q; exact q
      unfold mb_returns_93
      refine PP.ite (fun _ => ?_) (fun c_10 => absurd (by decide) c_10)
      unfold mb_returns_96
      refine PP.ret ?_
      refine Or.inr ⟨rfl, u1a, hR.trans ?_⟩
      first | with_reducible rfl | (simp only [rreturns, rclose, h_9, h43, i_as, fup, i_a0, i0m, i10, eq_self, rb_yes, rb_no, ryes, rno, if_true, if_false, f_tt (p := True), reduceIte, Nat.reduceEqDiff]) | rfl
theorem mr_returns {fu : Nat} {K V : Nat → Int32} (F : PF) (G : PG) (g4 : G 4 = K) (g5 : G 5 = V) (h44 : F 44 = 0) : PP (mf_returns fu F G) (fun r' F' _ => ROK (rreturns K V fu (F 42) (F 43)) F r' F') := by
  unfold mf_returns
  unfold mb_returns_0
  unfold mb_returns_10
  refine PP.bind (mp_isSign (29 : Int32) (fup F 42 ((F 42) + (1 : Int32))) G) ?_
  rintro _ _ _ ⟨rfl, rfl, (⟨rfl, u1⟩ | ⟨rfl, u1⟩)⟩
  · dsimp only
    have h_2 : sgn K V ((F 42) + (1 : Int32)) (29 : Int32) = true := by
      rw [← g4, ← g5]
      have q := u1
      first | exact q | (simp only [i_as] at q; exact q)
    unfold mb_returns_16
    refine PP.ite (fun c_3 => absurd c_3 (by decide)) (fun _ => ?_)
    unfold mb_returns_19
    refine PP.ix (fun _ => ?_)
    refine PP.ite (fun c_4 => ?_) (fun c_4 => ?_)
    · skip
      unfold mb_returns_31
      refine PP.ix (fun _ => ?_)
      refine PP.bind (mw_note (8 : Int32) (G 6 ((F 42) + (1 : Int32)).toNatClampNeg) (fup F 42 ((F 42) + (1 : Int32))) G) ?_
      intro r5 F5 G5 hK5
      dsimp only
      have g_6 : G5 4 = K := Eq.trans (hK5.2 4 rfl) g4
      have g_7 : G5 5 = V := Eq.trans (hK5.2 5 rfl) g5
      have q_8 : F5 42 = ((F 42) + (1 : Int32)) := hK5.1 42 rfl
      have q_9 : F5 43 = (F 43) := hK5.1 43 rfl
      have q_10 : F5 44 = 0 := Eq.trans (hK5.1 44 rfl) h44
      exact mrj_returns_46 (F0 := F) (R0 := (rreturns K V fu (F 42) (F 43))) F5 G5 g_6 g_7 ⟨q_10, (by first | with_reducible rfl | (simp only [q_8, q_9, i_as, fup, Nat.reduceEqDiff, reduceIte, if_false]) | rfl), ((rfl : (rreturns K V fu (F 42) (F 43)) = _).trans (by first | with_reducible rfl | (simp only [rreturns, rclose, h_2, q_8, q_9, i_as, fup, i_a0, i0m, i10, eq_self, rb_yes, rb_no, ryes, rno, if_true, if_false, f_tt (p := True), reduceIte, Nat.reduceEqDiff]) | rfl))⟩
    · skip
      exact mrj_returns_46 (F0 := F) (R0 := (rreturns K V fu (F 42) (F 43))) (fup F 42 ((F 42) + (1 : Int32))) G g4 g5 ⟨h44, (by first | with_reducible rfl | (simp only [i_as, fup, Nat.reduceEqDiff, reduceIte, if_false]) | rfl), ((rfl : (rreturns K V fu (F 42) (F 43)) = _).trans (by first | with_reducible rfl | (simp only [rreturns, rclose, h_2, i_as, fup, i_a0, i0m, i10, eq_self, rb_yes, rb_no, ryes, rno, if_true, if_false, f_tt (p := True), reduceIte, Nat.reduceEqDiff]) | rfl))⟩
  · dsimp only
    have h_11 : sgn K V ((F 42) + (1 : Int32)) (29 : Int32) = false := by
      rw [← g4, ← g5]
      have q := u1
      first | exact q | (simp only [i_as] at q; exact q)
    unfold mb_returns_16
    refine PP.ite (fun _ => ?_) (fun c_12 => absurd (by decide) c_12)
    unfold mb_returns_57
    refine PP.ix (fun _ => ?_)
    refine PP.ite (fun c_13 => ?_) (fun c_13 => ?_)
    · skip
      exact mrj_returns_89 (F0 := F) (R0 := (rreturns K V fu (F 42) (F 43))) (fup F 42 ((F 42) + (1 : Int32))) G g4 g5 ⟨h44, (by first | with_reducible rfl | (simp only [i_as, fup, Nat.reduceEqDiff, reduceIte, if_false]) | rfl), ((rfl : (rreturns K V fu (F 42) (F 43)) = _).trans (by first | with_reducible rfl | (simp only [rreturns, rclose, h_11, i_as, fup, i_a0, i0m, i10, eq_self, rb_yes, rb_no, ryes, rno, if_true, if_false, f_tt (p := True), reduceIte, Nat.reduceEqDiff]) | rfl))⟩
    · skip
      unfold mb_returns_69
      refine PP.ix (fun _ => ?_)
      refine PP.bind (mw_rank (7 : Int32) (fup F 42 ((F 42) + (1 : Int32))) G) ?_
      intro r14 F14 G14 hK14
      dsimp only
      have g_15 : G14 4 = K := Eq.trans (hK14.2 4 rfl) g4
      have g_16 : G14 5 = V := Eq.trans (hK14.2 5 rfl) g5
      have q_17 : F14 42 = ((F 42) + (1 : Int32)) := hK14.1 42 rfl
      have q_18 : F14 43 = (F 43) := hK14.1 43 rfl
      have q_19 : F14 44 = 0 := Eq.trans (hK14.1 44 rfl) h44
      unfold mb_returns_86
      refine PP.bind (mw_noteAs (8 : Int32) (G 6 ((F 42) + (1 : Int32)).toNatClampNeg) r14 F14 G14) ?_
      intro r20 F20 G20 hK20
      dsimp only
      have g_21 : G20 4 = K := Eq.trans (hK20.2 4 rfl) g_15
      have g_22 : G20 5 = V := Eq.trans (hK20.2 5 rfl) g_16
      have q_23 : F20 42 = ((F 42) + (1 : Int32)) := Eq.trans (hK20.1 42 rfl) (show (F14 42) = ((F 42) + (1 : Int32)) by simp only [q_17, q_18, i_as])
      have q_24 : F20 43 = (F 43) := Eq.trans (hK20.1 43 rfl) (show (F14 43) = (F 43) by simp only [q_17, q_18, i_as])
      have q_25 : F20 44 = 0 := Eq.trans (hK20.1 44 rfl) q_19
      exact mrj_returns_89 (F0 := F) (R0 := (rreturns K V fu (F 42) (F 43))) F20 G20 g_21 g_22 ⟨q_25, (by first | with_reducible rfl | (simp only [q_17, q_18, q_23, q_24, i_as, fup, Nat.reduceEqDiff, reduceIte, if_false]) | rfl), ((rfl : (rreturns K V fu (F 42) (F 43)) = _).trans (by first | with_reducible rfl | (simp only [rreturns, rclose, h_11, q_17, q_18, q_23, q_24, i_as, fup, i_a0, i0m, i10, eq_self, rb_yes, rb_no, ryes, rno, if_true, if_false, f_tt (p := True), reduceIte, Nat.reduceEqDiff]) | rfl))⟩
theorem mrj_leaves_93 {fu : Nat} {K V : Nat → Int32} {F0 : PF} {R0 : OR} (F : PF) (G : PG) (g4 : G 4 = K) (g5 : G 5 = V) (hA : (F 44 = 0 ∧ F 43 = F0 43 ∧ R0 = rclose K V 29 (F 42))) : PP (mb_leaves_93 fu F G) (fun r' F' _ => ROK R0 F0 r' F') := by
  rcases hA with ⟨h44, h43, hR⟩
  · skip
    unfold mb_leaves_93
    refine PP.bind (mp_sign (29 : Int32) F G) ?_
    rintro r1 F1 G1 (⟨rfl, rfl, rfl, u1⟩ | ⟨rfl, u1, u1b⟩)
    · dsimp only
      have h_2 : sgn K V (F 42) (29 : Int32) = true := by
        rw [← g4, ← g5]
        have q := u1.1
        first | exact q | (simp only [h43, i_as] at q; exact q)
      unfold mb_leaves_99
      refine PP.ret ?_
      refine Or.inl ⟨rfl, h44, ?_, hR.trans ?_⟩
      · show (F 43) = F0 43
        first | with_reducible rfl | (simp only [h43, i_as, fup, Nat.reduceEqDiff, reduceIte, if_false]) | rfl
      · show _ = some (some ((F 42) + (1 : Int32)))
        first | with_reducible rfl | (simp only [rleaves, rclose, h_2, h43, i_as, fup, i_a0, i0m, i10, eq_self, rb_yes, rb_no, ryes, rno, if_true, if_false, f_tt (p := True), reduceIte, Nat.reduceEqDiff]) | rfl
    · dsimp only
      have g_3 : G1 4 = K := Eq.trans (u1.2.2.2 4 rfl) g4
      have g_4 : G1 5 = V := Eq.trans (u1.2.2.2 5 rfl) g5
      have q_5 : F1 42 = (F 42) := u1.2.2.1 42 rfl
      have q_6 : F1 43 = (F0 43) := Eq.trans (u1.2.2.1 43 rfl) (show (F 43) = (F0 43) by simp only [h43, i_as])
      rcases u1b with q | q
      · exact absurd q (show ¬ 0 < (F 44).toInt by rw [h44]; decide)
      · skip
        have h_7 : sgn K V (F 42) (29 : Int32) = false := by
          rw [← g4, ← g5]
          have q := q
          first | exact q | (simp only [h43, i_as] at q; exact q)
        unfold mb_leaves_99
        refine PP.ret ?_
        refine Or.inr ⟨rfl, u1.1, hR.trans ?_⟩
        first | with_reducible rfl | (simp only [rleaves, rclose, h_7, h43, q_5, q_6, i_as, fup, i_a0, i0m, i10, eq_self, rb_yes, rb_no, ryes, rno, if_true, if_false, f_tt (p := True), reduceIte, Nat.reduceEqDiff]) | rfl
theorem mrj_leaves_75 {fu : Nat} {K V : Nat → Int32} {F0 : PF} {R0 : OR} (x1 : Int32) (x2 : Int32) (z0 : Int32) (z1 : Int32) (F : PF) (G : PG) (g4 : G 4 = K) (g5 : G 5 = V) (hA : (F 44 = 0 ∧ F 43 = F0 43 ∧ R0 = rclose K V 29 (F 42))) : PP (mb_leaves_75 fu x1 x2 z0 z1 F G) (fun r' F' _ => ROK R0 F0 r' F') := by
  rcases hA with ⟨h44, h43, hR⟩
  · skip
    unfold mb_leaves_75
    refine PP.ix (fun _ => ?_)
    unfold mb_leaves_76
    refine PP.ite (fun c_1 => ?_) (fun c_1 => ?_)
    · skip
      unfold mb_leaves_88
      exact mrj_leaves_93 (F0 := F0) (R0 := R0) (fup F 64 x2) (gup G 57 z1.toNatClampNeg z0) g4 g5 ⟨h44, (by first | with_reducible rfl | (simp only [h43, i_as, fup, Nat.reduceEqDiff, reduceIte, if_false]) | rfl), (hR.trans (by first | with_reducible rfl | (simp only [rleaves, rclose, h43, i_as, fup, i_a0, i0m, i10, eq_self, rb_yes, rb_no, ryes, rno, if_true, if_false, f_tt (p := True), reduceIte, Nat.reduceEqDiff]) | rfl))⟩
    · skip
      unfold mb_leaves_80
      unfold mb_leaves_85
      exact mrj_leaves_93 (F0 := F0) (R0 := R0) (fup F 63 x2) (gup G 57 z1.toNatClampNeg z0) g4 g5 ⟨h44, (by first | with_reducible rfl | (simp only [h43, i_as, fup, Nat.reduceEqDiff, reduceIte, if_false]) | rfl), (hR.trans (by first | with_reducible rfl | (simp only [rleaves, rclose, h43, i_as, fup, i_a0, i0m, i10, eq_self, rb_yes, rb_no, ryes, rno, if_true, if_false, f_tt (p := True), reduceIte, Nat.reduceEqDiff]) | rfl))⟩
theorem mrj_leaves_29 {fu : Nat} {K V : Nat → Int32} {F0 : PF} {R0 : OR} (x1 : Int32) (F : PF) (G : PG) (g4 : G 4 = K) (g5 : G 5 = V) (hA : (F 44 = 0 ∧ F 43 = F0 43 ∧ R0 = rleaves K V (F 42))) : PP (mb_leaves_29 fu x1 F G) (fun r' F' _ => ROK R0 F0 r' F') := by
  rcases hA with ⟨h44, h43, hR⟩
  · skip
    unfold mb_leaves_29
    unfold mb_leaves_39
    refine PP.bind (mw_step (12 : Int32) (0 : Int32) (0 : Int32) (fup F 42 ((F 42) + (1 : Int32))) G) ?_
    intro r1 F1 G1 hK1
    dsimp only
    have g_2 : G1 4 = K := Eq.trans (hK1.2 4 rfl) g4
    have g_3 : G1 5 = V := Eq.trans (hK1.2 5 rfl) g5
    have q_4 : F1 42 = ((F 42) + (1 : Int32)) := hK1.1 42 rfl
    have q_5 : F1 43 = (F0 43) := Eq.trans (hK1.1 43 rfl) (show (F 43) = (F0 43) by simp only [h43, i_as])
    have q_6 : F1 44 = 0 := Eq.trans (hK1.1 44 rfl) h44
    unfold mb_leaves_47
    refine PP.ite (fun c_7 => ?_) (fun c_7 => ?_)
    · skip
      exact mrj_leaves_93 (F0 := F0) (R0 := R0) F1 G1 g_2 g_3 ⟨q_6, (by first | with_reducible rfl | (simp only [h43, q_4, q_5, i_as, fup, Nat.reduceEqDiff, reduceIte, if_false]) | rfl), (hR.trans (by first | with_reducible rfl | (simp only [rleaves, rclose, h43, q_4, q_5, i_as, fup, i_a0, i0m, i10, eq_self, rb_yes, rb_no, ryes, rno, if_true, if_false, f_tt (p := True), reduceIte, Nat.reduceEqDiff]) | rfl))⟩
    · skip
      unfold mb_leaves_55
      refine PP.ite (fun c_8 => ?_) (fun c_8 => ?_)
      · skip
        unfold mb_leaves_71
        exact mrj_leaves_75 (F0 := F0) (R0 := R0) x1 r1 (F1 64) r1 F1 G1 g_2 g_3 ⟨q_6, (by first | with_reducible rfl | (simp only [h43, q_4, q_5, i_as, fup, Nat.reduceEqDiff, reduceIte, if_false]) | rfl), (hR.trans (by first | with_reducible rfl | (simp only [rleaves, rclose, h43, q_4, q_5, i_as, fup, i_a0, i0m, i10, eq_self, rb_yes, rb_no, ryes, rno, if_true, if_false, f_tt (p := True), reduceIte, Nat.reduceEqDiff]) | rfl))⟩
      · skip
        unfold mb_leaves_64
        exact mrj_leaves_75 (F0 := F0) (R0 := R0) x1 r1 (F1 63) r1 F1 G1 g_2 g_3 ⟨q_6, (by first | with_reducible rfl | (simp only [h43, q_4, q_5, i_as, fup, Nat.reduceEqDiff, reduceIte, if_false]) | rfl), (hR.trans (by first | with_reducible rfl | (simp only [rleaves, rclose, h43, q_4, q_5, i_as, fup, i_a0, i0m, i10, eq_self, rb_yes, rb_no, ryes, rno, if_true, if_false, f_tt (p := True), reduceIte, Nat.reduceEqDiff]) | rfl))⟩
theorem mr_leaves {fu : Nat} {K V : Nat → Int32} (F : PF) (G : PG) (g4 : G 4 = K) (g5 : G 5 = V) (h44 : F 44 = 0) : PP (mf_leaves fu F G) (fun r' F' _ => ROK (rleaves K V (F 42)) F r' F') := by
  unfold mf_leaves
  unfold mb_leaves_0
  refine PP.bind (mp_isWord (9 : Int32) F G) ?_
  rintro _ _ _ ⟨rfl, rfl, (⟨rfl, u1⟩ | ⟨rfl, u1⟩)⟩
  · dsimp only
    have h_2 : wdn K V (F 42) (9 : Int32) = true := by
      rw [← g4, ← g5]
      have q := u1
      first | exact q | (simp only [i_as] at q; exact q)
    unfold mb_leaves_6
    refine PP.ite (fun c_3 => ?_) (fun c_3 => ?_)
    · skip
      unfold mb_leaves_14
      refine PP.ix (fun _ => ?_)
      refine PP.bind (mw_note (9 : Int32) (G 6 (F 42).toNatClampNeg) F G) ?_
      intro r4 F4 G4 hK4
      dsimp only
      have g_5 : G4 4 = K := Eq.trans (hK4.2 4 rfl) g4
      have g_6 : G4 5 = V := Eq.trans (hK4.2 5 rfl) g5
      have q_7 : F4 42 = (F 42) := hK4.1 42 rfl
      have q_8 : F4 43 = (F 43) := hK4.1 43 rfl
      have q_9 : F4 44 = 0 := Eq.trans (hK4.1 44 rfl) h44
      exact mrj_leaves_29 (F0 := F) (R0 := (rleaves K V (F 42))) (1 : Int32) F4 G4 g_5 g_6 ⟨q_9, (by first | with_reducible rfl | (simp only [q_7, q_8, i_as, fup, Nat.reduceEqDiff, reduceIte, if_false]) | rfl), ((rfl : (rleaves K V (F 42)) = _).trans (by first | with_reducible rfl | (simp only [rleaves, rclose, h_2, q_7, q_8, i_as, fup, i_a0, i0m, i10, eq_self, rb_yes, rb_no, ryes, rno, if_true, if_false, f_tt (p := True), reduceIte, Nat.reduceEqDiff]) | rfl))⟩
    · skip
      exact mrj_leaves_29 (F0 := F) (R0 := (rleaves K V (F 42))) (1 : Int32) F G g4 g5 ⟨h44, (by first | with_reducible rfl | (simp only [i_as, fup, Nat.reduceEqDiff, reduceIte, if_false]) | rfl), ((rfl : (rleaves K V (F 42)) = _).trans (by first | with_reducible rfl | (simp only [rleaves, rclose, h_2, i_as, fup, i_a0, i0m, i10, eq_self, rb_yes, rb_no, ryes, rno, if_true, if_false, f_tt (p := True), reduceIte, Nat.reduceEqDiff]) | rfl))⟩
  · dsimp only
    have h_10 : wdn K V (F 42) (9 : Int32) = false := by
      rw [← g4, ← g5]
      have q := u1
      first | exact q | (simp only [i_as] at q; exact q)
    unfold mb_leaves_6
    refine PP.ite (fun c_11 => ?_) (fun c_11 => ?_)
    · skip
      unfold mb_leaves_14
      refine PP.ix (fun _ => ?_)
      refine PP.bind (mw_note (9 : Int32) (G 6 (F 42).toNatClampNeg) F G) ?_
      intro r12 F12 G12 hK12
      dsimp only
      have g_13 : G12 4 = K := Eq.trans (hK12.2 4 rfl) g4
      have g_14 : G12 5 = V := Eq.trans (hK12.2 5 rfl) g5
      have q_15 : F12 42 = (F 42) := hK12.1 42 rfl
      have q_16 : F12 43 = (F 43) := hK12.1 43 rfl
      have q_17 : F12 44 = 0 := Eq.trans (hK12.1 44 rfl) h44
      exact mrj_leaves_29 (F0 := F) (R0 := (rleaves K V (F 42))) (0 : Int32) F12 G12 g_13 g_14 ⟨q_17, (by first | with_reducible rfl | (simp only [q_15, q_16, i_as, fup, Nat.reduceEqDiff, reduceIte, if_false]) | rfl), ((rfl : (rleaves K V (F 42)) = _).trans (by first | with_reducible rfl | (simp only [rleaves, rclose, h_10, q_15, q_16, i_as, fup, i_a0, i0m, i10, eq_self, rb_yes, rb_no, ryes, rno, if_true, if_false, f_tt (p := True), reduceIte, Nat.reduceEqDiff]) | rfl))⟩
    · skip
      exact mrj_leaves_29 (F0 := F) (R0 := (rleaves K V (F 42))) (0 : Int32) F G g4 g5 ⟨h44, (by first | with_reducible rfl | (simp only [i_as, fup, Nat.reduceEqDiff, reduceIte, if_false]) | rfl), ((rfl : (rleaves K V (F 42)) = _).trans (by first | with_reducible rfl | (simp only [rleaves, rclose, h_10, i_as, fup, i_a0, i0m, i10, eq_self, rb_yes, rb_no, ryes, rno, if_true, if_false, f_tt (p := True), reduceIte, Nat.reduceEqDiff]) | rfl))⟩
theorem mrj_simple_628 {fu : Nat} {K V : Nat → Int32} {F0 : PF} {R0 : OR} (F : PF) (G : PG) (g4 : G 4 = K) (g5 : G 5 = V) (hA : (F 44 = 0 ∧ F 43 = F0 43 ∧ R0 = ryes (F 42))) : PP (mb_simple_628 fu F G) (fun r' F' _ => ROK R0 F0 r' F') := by
  rcases hA with ⟨h44, h43, hR⟩
  · skip
    unfold mb_simple_628
    refine PP.ret ?_
    refine Or.inl ⟨rfl, h44, ?_, hR.trans ?_⟩
    · show (F 43) = F0 43
      first | with_reducible rfl | (simp only [h43, i_as, fup, Nat.reduceEqDiff, reduceIte, if_false]) | rfl
    · show _ = some (some (F 42))
      first | with_reducible rfl | (simp only [rsimple, rsimple1, rsimple3, rsig, h43, i_as, fup, i_a0, i0m, i10, eq_self, rb_yes, rb_no, ryes, rno, if_true, if_false, f_tt (p := True), reduceIte, Nat.reduceEqDiff]) | rfl
theorem mrj_simple_621 {fu : Nat} {K V : Nat → Int32} {F0 : PF} {R0 : OR} (x8 : Int32) (z0 : Int32) (F : PF) (G : PG) (g4 : G 4 = K) (g5 : G 5 = V) (hA : (F 44 = 0 ∧ F 43 = F0 43 ∧ R0 = ryes (F 42))) : PP (mb_simple_621 fu x8 z0 F G) (fun r' F' _ => ROK R0 F0 r' F') := by
  rcases hA with ⟨h44, h43, hR⟩
  · skip
    unfold mb_simple_621
    refine PP.bind (mw_step z0 x8 (0 : Int32) F G) ?_
    intro r1 F1 G1 hK1
    dsimp only
    have g_2 : G1 4 = K := Eq.trans (hK1.2 4 rfl) g4
    have g_3 : G1 5 = V := Eq.trans (hK1.2 5 rfl) g5
    have q_4 : F1 42 = (F 42) := hK1.1 42 rfl
    have q_5 : F1 43 = (F0 43) := Eq.trans (hK1.1 43 rfl) (show (F 43) = (F0 43) by simp only [h43, i_as])
    have q_6 : F1 44 = 0 := Eq.trans (hK1.1 44 rfl) h44
    unfold mb_simple_627
    exact mrj_simple_628 (F0 := F0) (R0 := R0) F1 G1 g_2 g_3 ⟨q_6, (by first | with_reducible rfl | (simp only [h43, q_4, q_5, i_as, fup, Nat.reduceEqDiff, reduceIte, if_false]) | rfl), (hR.trans (by first | with_reducible rfl | (simp only [rsimple, rsimple1, rsimple3, rsig, h43, q_4, q_5, i_as, fup, i_a0, i0m, i10, eq_self, rb_yes, rb_no, ryes, rno, if_true, if_false, f_tt (p := True), reduceIte, Nat.reduceEqDiff]) | rfl))⟩
theorem mrj_simple_602 {fu : Nat} {K V : Nat → Int32} {F0 : PF} {R0 : OR} (z0 : Int32) (z1 : Int32) (F : PF) (G : PG) (g4 : G 4 = K) (g5 : G 5 = V) (hA : (F 44 = 0 ∧ F 43 = F0 43 ∧ R0 = ryes (F 42))) : PP (mb_simple_602 fu z0 z1 F G) (fun r' F' _ => ROK R0 F0 r' F') := by
  rcases hA with ⟨h44, h43, hR⟩
  · skip
    unfold mb_simple_602
    refine PP.bind (mw_step z1 z0 (0 : Int32) F G) ?_
    intro r1 F1 G1 hK1
    dsimp only
    have g_2 : G1 4 = K := Eq.trans (hK1.2 4 rfl) g4
    have g_3 : G1 5 = V := Eq.trans (hK1.2 5 rfl) g5
    have q_4 : F1 42 = (F 42) := hK1.1 42 rfl
    have q_5 : F1 43 = (F0 43) := Eq.trans (hK1.1 43 rfl) (show (F 43) = (F0 43) by simp only [h43, i_as])
    have q_6 : F1 44 = 0 := Eq.trans (hK1.1 44 rfl) h44
    unfold mb_simple_606
    exact mrj_simple_628 (F0 := F0) (R0 := R0) F1 G1 g_2 g_3 ⟨q_6, (by first | with_reducible rfl | (simp only [h43, q_4, q_5, i_as, fup, Nat.reduceEqDiff, reduceIte, if_false]) | rfl), (hR.trans (by first | with_reducible rfl | (simp only [rsimple, rsimple1, rsimple3, rsig, h43, q_4, q_5, i_as, fup, i_a0, i0m, i10, eq_self, rb_yes, rb_no, ryes, rno, if_true, if_false, f_tt (p := True), reduceIte, Nat.reduceEqDiff]) | rfl))⟩
theorem mrj_simple_584 {fu : Nat} {K V : Nat → Int32} {F0 : PF} {R0 : OR} (x4 : Int32) (x6 : Int32) (x7 : Int32) (x8 : Int32) (F : PF) (G : PG) (g4 : G 4 = K) (g5 : G 5 = V) (hA : (F 44 = 0 ∧ F 43 = F0 43 ∧ R0 = ryes (F 42))) : PP (mb_simple_584 fu x4 x6 x7 x8 F G) (fun r' F' _ => ROK R0 F0 r' F') := by
  rcases hA with ⟨h44, h43, hR⟩
  · skip
    unfold mb_simple_584
    refine PP.ite (fun c_1 => ?_) (fun c_1 => ?_)
    · skip
      unfold mb_simple_610
      refine PP.ite (fun c_2 => ?_) (fun c_2 => ?_)
      · skip
        unfold mb_simple_620
        exact mrj_simple_621 (F0 := F0) (R0 := R0) x8 (4 : Int32) F G g4 g5 ⟨h44, (by first | with_reducible rfl | (simp only [h43, i_as, fup, Nat.reduceEqDiff, reduceIte, if_false]) | rfl), (hR.trans (by first | with_reducible rfl | (simp only [rsimple, rsimple1, rsimple3, rsig, h43, i_as, fup, i_a0, i0m, i10, eq_self, rb_yes, rb_no, ryes, rno, if_true, if_false, f_tt (p := True), reduceIte, Nat.reduceEqDiff]) | rfl))⟩
      · skip
        unfold mb_simple_616
        exact mrj_simple_621 (F0 := F0) (R0 := R0) x8 (2 : Int32) F G g4 g5 ⟨h44, (by first | with_reducible rfl | (simp only [h43, i_as, fup, Nat.reduceEqDiff, reduceIte, if_false]) | rfl), (hR.trans (by first | with_reducible rfl | (simp only [rsimple, rsimple1, rsimple3, rsig, h43, i_as, fup, i_a0, i0m, i10, eq_self, rb_yes, rb_no, ryes, rno, if_true, if_false, f_tt (p := True), reduceIte, Nat.reduceEqDiff]) | rfl))⟩
    · skip
      unfold mb_simple_589
      refine PP.ite (fun c_3 => ?_) (fun c_3 => ?_)
      · skip
        unfold mb_simple_601
        exact mrj_simple_602 (F0 := F0) (R0 := R0) (0 : Int32) (8 : Int32) F G g4 g5 ⟨h44, (by first | with_reducible rfl | (simp only [h43, i_as, fup, Nat.reduceEqDiff, reduceIte, if_false]) | rfl), (hR.trans (by first | with_reducible rfl | (simp only [rsimple, rsimple1, rsimple3, rsig, h43, i_as, fup, i_a0, i0m, i10, eq_self, rb_yes, rb_no, ryes, rno, if_true, if_false, f_tt (p := True), reduceIte, Nat.reduceEqDiff]) | rfl))⟩
      · skip
        unfold mb_simple_597
        exact mrj_simple_602 (F0 := F0) (R0 := R0) (1 : Int32) (8 : Int32) F G g4 g5 ⟨h44, (by first | with_reducible rfl | (simp only [h43, i_as, fup, Nat.reduceEqDiff, reduceIte, if_false]) | rfl), (hR.trans (by first | with_reducible rfl | (simp only [rsimple, rsimple1, rsimple3, rsig, h43, i_as, fup, i_a0, i0m, i10, eq_self, rb_yes, rb_no, ryes, rno, if_true, if_false, f_tt (p := True), reduceIte, Nat.reduceEqDiff]) | rfl))⟩
theorem mrj_simple_579 {fu : Nat} {K V : Nat → Int32} {F0 : PF} {R0 : OR} (x4 : Int32) (x6 : Int32) (x7 : Int32) (x8 : Int32) (z0 : Int32) (z1 : Int32) (F : PF) (G : PG) (g4 : G 4 = K) (g5 : G 5 = V) (hA : (F 44 = 0 ∧ F 43 = F0 43 ∧ R0 = ryes (F 42))) : PP (mb_simple_579 fu x4 x6 x7 x8 z0 z1 F G) (fun r' F' _ => ROK R0 F0 r' F') := by
  rcases hA with ⟨h44, h43, hR⟩
  · skip
    unfold mb_simple_579
    refine PP.bind (mw_step z1 z0 (0 : Int32) F G) ?_
    intro r1 F1 G1 hK1
    dsimp only
    have g_2 : G1 4 = K := Eq.trans (hK1.2 4 rfl) g4
    have g_3 : G1 5 = V := Eq.trans (hK1.2 5 rfl) g5
    have q_4 : F1 42 = (F 42) := hK1.1 42 rfl
    have q_5 : F1 43 = (F0 43) := Eq.trans (hK1.1 43 rfl) (show (F 43) = (F0 43) by simp only [h43, i_as])
    have q_6 : F1 44 = 0 := Eq.trans (hK1.1 44 rfl) h44
    unfold mb_simple_583
    exact mrj_simple_584 (F0 := F0) (R0 := R0) x4 x6 x7 x8 F1 G1 g_2 g_3 ⟨q_6, (by first | with_reducible rfl | (simp only [h43, q_4, q_5, i_as, fup, Nat.reduceEqDiff, reduceIte, if_false]) | rfl), (hR.trans (by first | with_reducible rfl | (simp only [rsimple, rsimple1, rsimple3, rsig, h43, q_4, q_5, i_as, fup, i_a0, i0m, i10, eq_self, rb_yes, rb_no, ryes, rno, if_true, if_false, f_tt (p := True), reduceIte, Nat.reduceEqDiff]) | rfl))⟩
theorem mrj_simple_461 {fu : Nat} {K V : Nat → Int32} {F0 : PF} {R0 : OR} (x4 : Int32) (x6 : Int32) (x7 : Int32) (x8 : Int32) (z0 : Int32) (F : PF) (G : PG) (g4 : G 4 = K) (g5 : G 5 = V) (hA : (F 44 = 0 ∧ F 43 = F0 43 ∧ R0 = ryes (F 42))) : PP (mb_simple_461 fu x4 x6 x7 x8 z0 F G) (fun r' F' _ => ROK R0 F0 r' F') := by
  rcases hA with ⟨h44, h43, hR⟩
  · skip
    unfold mb_simple_461
    exact mrj_simple_579 (F0 := F0) (R0 := R0) x4 x6 x7 x8 (38 : Int32) z0 F G g4 g5 ⟨h44, (by first | with_reducible rfl | (simp only [h43, i_as, fup, Nat.reduceEqDiff, reduceIte, if_false]) | rfl), (hR.trans (by first | with_reducible rfl | (simp only [rsimple, rsimple1, rsimple3, rsig, h43, i_as, fup, i_a0, i0m, i10, eq_self, rb_yes, rb_no, ryes, rno, if_true, if_false, f_tt (p := True), reduceIte, Nat.reduceEqDiff]) | rfl))⟩
theorem mrj_simple_479 {fu : Nat} {K V : Nat → Int32} {F0 : PF} {R0 : OR} (x4 : Int32) (x6 : Int32) (x7 : Int32) (x8 : Int32) (z0 : Int32) (F : PF) (G : PG) (g4 : G 4 = K) (g5 : G 5 = V) (hA : (F 44 = 0 ∧ F 43 = F0 43 ∧ R0 = ryes (F 42))) : PP (mb_simple_479 fu x4 x6 x7 x8 z0 F G) (fun r' F' _ => ROK R0 F0 r' F') := by
  rcases hA with ⟨h44, h43, hR⟩
  · skip
    unfold mb_simple_479
    exact mrj_simple_579 (F0 := F0) (R0 := R0) x4 x6 x7 x8 (39 : Int32) z0 F G g4 g5 ⟨h44, (by first | with_reducible rfl | (simp only [h43, i_as, fup, Nat.reduceEqDiff, reduceIte, if_false]) | rfl), (hR.trans (by first | with_reducible rfl | (simp only [rsimple, rsimple1, rsimple3, rsig, h43, i_as, fup, i_a0, i0m, i10, eq_self, rb_yes, rb_no, ryes, rno, if_true, if_false, f_tt (p := True), reduceIte, Nat.reduceEqDiff]) | rfl))⟩
theorem mrj_simple_438 {fu : Nat} {K V : Nat → Int32} {F0 : PF} {R0 : OR} (x4 : Int32) (x6 : Int32) (x7 : Int32) (x8 : Int32) (x9 : Int32) (F : PF) (G : PG) (g4 : G 4 = K) (g5 : G 5 = V) (hA : (F 44 = 0 ∧ F 43 = F0 43 ∧ R0 = ryes (F 42))) : PP (mb_simple_438 fu x4 x6 x7 x8 x9 F G) (fun r' F' _ => ROK R0 F0 r' F') := by
  rcases hA with ⟨h44, h43, hR⟩
  · skip
    unfold mb_simple_438
    refine PP.ite (fun c_1 => ?_) (fun c_1 => ?_)
    · skip
      have h_2 : x9 = (32 : Int32) := c_1
      have h_3 := eq_true h_2
      have w_4 : x9.toInt = 32 := i_eq.mp c_1
      exact mrj_simple_584 (F0 := F0) (R0 := R0) x4 x6 x7 x8 F G g4 g5 ⟨h44, (by first | with_reducible rfl | (simp only [h43, i_as, fup, Nat.reduceEqDiff, reduceIte, if_false]) | rfl), (hR.trans (by first | with_reducible rfl | (simp only [rsimple, rsimple1, rsimple3, rsig, h_3, h43, i_as, fup, i_a0, i0m, i10, eq_self, rb_yes, rb_no, ryes, rno, if_true, if_false, f_tt (p := True), reduceIte, Nat.reduceEqDiff]) | rfl))⟩
    · skip
      have h_5 : ¬ x9 = (32 : Int32) := c_1
      have w_6 : ¬ (x9.toInt = 32) := fun q => c_1 (i_eq.mpr q)
      unfold mb_simple_445
      refine PP.ite (fun c_7 => ?_) (fun c_7 => ?_)
      · skip
        have h_8 : x9 = (12 : Int32) := c_7
        have h_9 := eq_true h_8
        have w_10 : x9.toInt = 12 := i_eq.mp c_7
        exact mrj_simple_461 (F0 := F0) (R0 := R0) x4 x6 x7 x8 (10 : Int32) F G g4 g5 ⟨h44, (by first | with_reducible rfl | (simp only [h43, i_as, fup, Nat.reduceEqDiff, reduceIte, if_false]) | rfl), (hR.trans (by first | with_reducible rfl | (simp only [rsimple, rsimple1, rsimple3, rsig, h_5, h_9, h43, i_as, fup, i_a0, i0m, i10, eq_self, rb_yes, rb_no, ryes, rno, if_true, if_false, f_tt (p := True), reduceIte, Nat.reduceEqDiff]) | rfl))⟩
      · skip
        have h_11 : ¬ x9 = (12 : Int32) := c_7
        have w_12 : ¬ (x9.toInt = 12) := fun q => c_7 (i_eq.mpr q)
        unfold mb_simple_455
        refine PP.ite (fun c_13 => ?_) (fun c_13 => ?_)
        · skip
          have h_14 : x9 = (4 : Int32) := c_13
          have h_15 := eq_true h_14
          have w_16 : x9.toInt = 4 := i_eq.mp c_13
          exact mrj_simple_461 (F0 := F0) (R0 := R0) x4 x6 x7 x8 (10 : Int32) F G g4 g5 ⟨h44, (by first | with_reducible rfl | (simp only [h43, i_as, fup, Nat.reduceEqDiff, reduceIte, if_false]) | rfl), (hR.trans (by first | with_reducible rfl | (simp only [rsimple, rsimple1, rsimple3, rsig, h_5, h_11, h_15, h43, i_as, fup, i_a0, i0m, i10, eq_self, rb_yes, rb_no, ryes, rno, if_true, if_false, f_tt (p := True), reduceIte, Nat.reduceEqDiff]) | rfl))⟩
        · skip
          have h_17 : ¬ x9 = (4 : Int32) := c_13
          have w_18 : ¬ (x9.toInt = 4) := fun q => c_13 (i_eq.mpr q)
          unfold mb_simple_466
          refine PP.ite (fun c_19 => ?_) (fun c_19 => ?_)
          · skip
            have h_20 : x9 = (13 : Int32) := c_19
            have h_21 := eq_true h_20
            have w_22 : x9.toInt = 13 := i_eq.mp c_19
            exact mrj_simple_479 (F0 := F0) (R0 := R0) x4 x6 x7 x8 (10 : Int32) F G g4 g5 ⟨h44, (by first | with_reducible rfl | (simp only [h43, i_as, fup, Nat.reduceEqDiff, reduceIte, if_false]) | rfl), (hR.trans (by first | with_reducible rfl | (simp only [rsimple, rsimple1, rsimple3, rsig, h_5, h_11, h_17, h_21, h43, i_as, fup, i_a0, i0m, i10, eq_self, rb_yes, rb_no, ryes, rno, if_true, if_false, f_tt (p := True), reduceIte, Nat.reduceEqDiff]) | rfl))⟩
          · skip
            have h_23 : ¬ x9 = (13 : Int32) := c_19
            have w_24 : ¬ (x9.toInt = 13) := fun q => c_19 (i_eq.mpr q)
            unfold mb_simple_473
            refine PP.ite (fun c_25 => ?_) (fun c_25 => ?_)
            · skip
              have h_26 : x9 = (5 : Int32) := c_25
              have h_27 := eq_true h_26
              have w_28 : x9.toInt = 5 := i_eq.mp c_25
              exact mrj_simple_479 (F0 := F0) (R0 := R0) x4 x6 x7 x8 (10 : Int32) F G g4 g5 ⟨h44, (by first | with_reducible rfl | (simp only [h43, i_as, fup, Nat.reduceEqDiff, reduceIte, if_false]) | rfl), (hR.trans (by first | with_reducible rfl | (simp only [rsimple, rsimple1, rsimple3, rsig, h_5, h_11, h_17, h_23, h_27, h43, i_as, fup, i_a0, i0m, i10, eq_self, rb_yes, rb_no, ryes, rno, if_true, if_false, f_tt (p := True), reduceIte, Nat.reduceEqDiff]) | rfl))⟩
            · skip
              have h_29 : ¬ x9 = (5 : Int32) := c_25
              have w_30 : ¬ (x9.toInt = 5) := fun q => c_25 (i_eq.mpr q)
              unfold mb_simple_484
              refine PP.ite (fun c_31 => ?_) (fun c_31 => ?_)
              · skip
                have h_32 : x9 = (6 : Int32) := c_31
                have h_33 := eq_true h_32
                have w_34 : x9.toInt = 6 := i_eq.mp c_31
                unfold mb_simple_491
                exact mrj_simple_579 (F0 := F0) (R0 := R0) x4 x6 x7 x8 (40 : Int32) (10 : Int32) F G g4 g5 ⟨h44, (by first | with_reducible rfl | (simp only [h43, i_as, fup, Nat.reduceEqDiff, reduceIte, if_false]) | rfl), (hR.trans (by first | with_reducible rfl | (simp only [rsimple, rsimple1, rsimple3, rsig, h_5, h_11, h_17, h_23, h_29, h_33, h43, i_as, fup, i_a0, i0m, i10, eq_self, rb_yes, rb_no, ryes, rno, if_true, if_false, f_tt (p := True), reduceIte, Nat.reduceEqDiff]) | rfl))⟩
              · skip
                have h_35 : ¬ x9 = (6 : Int32) := c_31
                have w_36 : ¬ (x9.toInt = 6) := fun q => c_31 (i_eq.mpr q)
                unfold mb_simple_496
                refine PP.ite (fun c_37 => ?_) (fun c_37 => ?_)
                · skip
                  have h_38 : x9 = (7 : Int32) := c_37
                  have h_39 := eq_true h_38
                  have w_40 : x9.toInt = 7 := i_eq.mp c_37
                  unfold mb_simple_503
                  exact mrj_simple_579 (F0 := F0) (R0 := R0) x4 x6 x7 x8 (41 : Int32) (10 : Int32) F G g4 g5 ⟨h44, (by first | with_reducible rfl | (simp only [h43, i_as, fup, Nat.reduceEqDiff, reduceIte, if_false]) | rfl), (hR.trans (by first | with_reducible rfl | (simp only [rsimple, rsimple1, rsimple3, rsig, h_5, h_11, h_17, h_23, h_29, h_35, h_39, h43, i_as, fup, i_a0, i0m, i10, eq_self, rb_yes, rb_no, ryes, rno, if_true, if_false, f_tt (p := True), reduceIte, Nat.reduceEqDiff]) | rfl))⟩
                · skip
                  have h_41 : ¬ x9 = (7 : Int32) := c_37
                  have w_42 : ¬ (x9.toInt = 7) := fun q => c_37 (i_eq.mpr q)
                  unfold mb_simple_508
                  refine PP.ite (fun c_43 => ?_) (fun c_43 => ?_)
                  · skip
                    have h_44 : x9 = (8 : Int32) := c_43
                    have h_45 := eq_true h_44
                    have w_46 : x9.toInt = 8 := i_eq.mp c_43
                    unfold mb_simple_515
                    exact mrj_simple_579 (F0 := F0) (R0 := R0) x4 x6 x7 x8 (42 : Int32) (10 : Int32) F G g4 g5 ⟨h44, (by first | with_reducible rfl | (simp only [h43, i_as, fup, Nat.reduceEqDiff, reduceIte, if_false]) | rfl), (hR.trans (by first | with_reducible rfl | (simp only [rsimple, rsimple1, rsimple3, rsig, h_5, h_11, h_17, h_23, h_29, h_35, h_41, h_45, h43, i_as, fup, i_a0, i0m, i10, eq_self, rb_yes, rb_no, ryes, rno, if_true, if_false, f_tt (p := True), reduceIte, Nat.reduceEqDiff]) | rfl))⟩
                  · skip
                    have h_47 : ¬ x9 = (8 : Int32) := c_43
                    have w_48 : ¬ (x9.toInt = 8) := fun q => c_43 (i_eq.mpr q)
                    unfold mb_simple_520
                    refine PP.ite (fun c_49 => ?_) (fun c_49 => ?_)
                    · skip
                      have h_50 : x9 = (9 : Int32) := c_49
                      have h_51 := eq_true h_50
                      have w_52 : x9.toInt = 9 := i_eq.mp c_49
                      unfold mb_simple_527
                      exact mrj_simple_579 (F0 := F0) (R0 := R0) x4 x6 x7 x8 (35 : Int32) (10 : Int32) F G g4 g5 ⟨h44, (by first | with_reducible rfl | (simp only [h43, i_as, fup, Nat.reduceEqDiff, reduceIte, if_false]) | rfl), (hR.trans (by first | with_reducible rfl | (simp only [rsimple, rsimple1, rsimple3, rsig, h_5, h_11, h_17, h_23, h_29, h_35, h_41, h_47, h_51, h43, i_as, fup, i_a0, i0m, i10, eq_self, rb_yes, rb_no, ryes, rno, if_true, if_false, f_tt (p := True), reduceIte, Nat.reduceEqDiff]) | rfl))⟩
                    · skip
                      have h_53 : ¬ x9 = (9 : Int32) := c_49
                      have w_54 : ¬ (x9.toInt = 9) := fun q => c_49 (i_eq.mpr q)
                      unfold mb_simple_532
                      refine PP.ite (fun c_55 => ?_) (fun c_55 => ?_)
                      · skip
                        have h_56 : x9 = (10 : Int32) := c_55
                        have h_57 := eq_true h_56
                        have w_58 : x9.toInt = 10 := i_eq.mp c_55
                        unfold mb_simple_539
                        exact mrj_simple_579 (F0 := F0) (R0 := R0) x4 x6 x7 x8 (33 : Int32) (10 : Int32) F G g4 g5 ⟨h44, (by first | with_reducible rfl | (simp only [h43, i_as, fup, Nat.reduceEqDiff, reduceIte, if_false]) | rfl), (hR.trans (by first | with_reducible rfl | (simp only [rsimple, rsimple1, rsimple3, rsig, h_5, h_11, h_17, h_23, h_29, h_35, h_41, h_47, h_53, h_57, h43, i_as, fup, i_a0, i0m, i10, eq_self, rb_yes, rb_no, ryes, rno, if_true, if_false, f_tt (p := True), reduceIte, Nat.reduceEqDiff]) | rfl))⟩
                      · skip
                        have h_59 : ¬ x9 = (10 : Int32) := c_55
                        have w_60 : ¬ (x9.toInt = 10) := fun q => c_55 (i_eq.mpr q)
                        unfold mb_simple_544
                        refine PP.ite (fun c_61 => ?_) (fun c_61 => ?_)
                        · skip
                          have h_62 : x9 = (11 : Int32) := c_61
                          have h_63 := eq_true h_62
                          have w_64 : x9.toInt = 11 := i_eq.mp c_61
                          unfold mb_simple_551
                          exact mrj_simple_579 (F0 := F0) (R0 := R0) x4 x6 x7 x8 (34 : Int32) (10 : Int32) F G g4 g5 ⟨h44, (by first | with_reducible rfl | (simp only [h43, i_as, fup, Nat.reduceEqDiff, reduceIte, if_false]) | rfl), (hR.trans (by first | with_reducible rfl | (simp only [rsimple, rsimple1, rsimple3, rsig, h_5, h_11, h_17, h_23, h_29, h_35, h_41, h_47, h_53, h_59, h_63, h43, i_as, fup, i_a0, i0m, i10, eq_self, rb_yes, rb_no, ryes, rno, if_true, if_false, f_tt (p := True), reduceIte, Nat.reduceEqDiff]) | rfl))⟩
                        · skip
                          have h_65 : ¬ x9 = (11 : Int32) := c_61
                          have w_66 : ¬ (x9.toInt = 11) := fun q => c_61 (i_eq.mpr q)
                          unfold mb_simple_556
                          refine PP.ite (fun c_67 => ?_) (fun c_67 => ?_)
                          · skip
                            have h_68 : x9 = (2 : Int32) := c_67
                            have h_69 := eq_true h_68
                            have w_70 : x9.toInt = 2 := i_eq.mp c_67
                            unfold mb_simple_562
                            exact mrj_simple_579 (F0 := F0) (R0 := R0) x4 x6 x7 x8 (20 : Int32) (10 : Int32) F G g4 g5 ⟨h44, (by first | with_reducible rfl | (simp only [h43, i_as, fup, Nat.reduceEqDiff, reduceIte, if_false]) | rfl), (hR.trans (by first | with_reducible rfl | (simp only [rsimple, rsimple1, rsimple3, rsig, h_5, h_11, h_17, h_23, h_29, h_35, h_41, h_47, h_53, h_59, h_65, h_69, h43, i_as, fup, i_a0, i0m, i10, eq_self, rb_yes, rb_no, ryes, rno, if_true, if_false, f_tt (p := True), reduceIte, Nat.reduceEqDiff]) | rfl))⟩
                          · skip
                            have h_71 : ¬ x9 = (2 : Int32) := c_67
                            have w_72 : ¬ (x9.toInt = 2) := fun q => c_67 (i_eq.mpr q)
                            unfold mb_simple_567
                            refine PP.ite (fun c_73 => ?_) (fun c_73 => ?_)
                            · skip
                              have h_74 : x9 = (3 : Int32) := c_73
                              have h_75 := eq_true h_74
                              have w_76 : x9.toInt = 3 := i_eq.mp c_73
                              unfold mb_simple_573
                              exact mrj_simple_579 (F0 := F0) (R0 := R0) x4 x6 x7 x8 (21 : Int32) (10 : Int32) F G g4 g5 ⟨h44, (by first | with_reducible rfl | (simp only [h43, i_as, fup, Nat.reduceEqDiff, reduceIte, if_false]) | rfl), (hR.trans (by first | with_reducible rfl | (simp only [rsimple, rsimple1, rsimple3, rsig, h_5, h_11, h_17, h_23, h_29, h_35, h_41, h_47, h_53, h_59, h_65, h_71, h_75, h43, i_as, fup, i_a0, i0m, i10, eq_self, rb_yes, rb_no, ryes, rno, if_true, if_false, f_tt (p := True), reduceIte, Nat.reduceEqDiff]) | rfl))⟩
                            · skip
                              have h_77 : ¬ x9 = (3 : Int32) := c_73
                              have w_78 : ¬ (x9.toInt = 3) := fun q => c_73 (i_eq.mpr q)
                              unfold mb_simple_578
                              exact mrj_simple_579 (F0 := F0) (R0 := R0) x4 x6 x7 x8 (1 : Int32) (10 : Int32) F G g4 g5 ⟨h44, (by first | with_reducible rfl | (simp only [h43, i_as, fup, Nat.reduceEqDiff, reduceIte, if_false]) | rfl), (hR.trans (by first | with_reducible rfl | (simp only [rsimple, rsimple1, rsimple3, rsig, h_5, h_11, h_17, h_23, h_29, h_35, h_41, h_47, h_53, h_59, h_65, h_71, h_77, h43, i_as, fup, i_a0, i0m, i10, eq_self, rb_yes, rb_no, ryes, rno, if_true, if_false, f_tt (p := True), reduceIte, Nat.reduceEqDiff]) | rfl))⟩
theorem mrj_simple_404 {fu : Nat} {K V : Nat → Int32} {F0 : PF} {R0 : OR} (x4 : Int32) (x6 : Int32) (x7 : Int32) (x8 : Int32) (x9 : Int32) (F : PF) (G : PG) (g4 : G 4 = K) (g5 : G 5 = V) (hA : (F 44 = 0 ∧ F 43 = F0 43 ∧ R0 = rsimple3 K V fu x9 (F 42) (F 43))) : PP (mb_simple_404 fu x4 x6 x7 x8 x9 F G) (fun r' F' _ => ROK R0 F0 r' F') := by
  rcases hA with ⟨h44, h43, hR⟩
  · skip
    unfold mb_simple_404
    refine PP.ite (fun c_1 => ?_) (fun c_1 => ?_)
    · skip
      have h_2 : x9 = (12 : Int32) := c_1
      have h_3 := eq_true h_2
      have w_4 : x9.toInt = 12 := i_eq.mp c_1
      unfold mb_simple_418
      refine PP.bind (mw_step (0 : Int32) (1 : Int32) (0 : Int32) F G) ?_
      intro r5 F5 G5 hK5
      dsimp only
      have g_6 : G5 4 = K := Eq.trans (hK5.2 4 rfl) g4
      have g_7 : G5 5 = V := Eq.trans (hK5.2 5 rfl) g5
      have q_8 : F5 42 = (F 42) := hK5.1 42 rfl
      have q_9 : F5 43 = (F0 43) := Eq.trans (hK5.1 43 rfl) (show (F 43) = (F0 43) by simp only [h43, i_as])
      have q_10 : F5 44 = 0 := Eq.trans (hK5.1 44 rfl) h44
      unfold mb_simple_425
      exact mrj_simple_438 (F0 := F0) (R0 := R0) x4 x6 x7 x8 x9 F5 G5 g_6 g_7 ⟨q_10, (by first | with_reducible rfl | (simp only [h43, q_8, q_9, i_as, fup, Nat.reduceEqDiff, reduceIte, if_false]) | rfl), (hR.trans (by first | with_reducible rfl | (simp only [rsimple, rsimple1, rsimple3, rsig, h_3, h43, q_8, q_9, i_as, fup, i_a0, i0m, i10, eq_self, rb_yes, rb_no, ryes, rno, if_true, if_false, f_tt (p := True), reduceIte, Nat.reduceEqDiff]) | rfl))⟩
    · skip
      have h_11 : ¬ x9 = (12 : Int32) := c_1
      have w_12 : ¬ (x9.toInt = 12) := fun q => c_1 (i_eq.mpr q)
      unfold mb_simple_411
      refine PP.ite (fun c_13 => ?_) (fun c_13 => ?_)
      · skip
        have h_14 : x9 = (13 : Int32) := c_13
        have h_15 := eq_true h_14
        have w_16 : x9.toInt = 13 := i_eq.mp c_13
        unfold mb_simple_418
        refine PP.bind (mw_step (0 : Int32) (1 : Int32) (0 : Int32) F G) ?_
        intro r17 F17 G17 hK17
        dsimp only
        have g_18 : G17 4 = K := Eq.trans (hK17.2 4 rfl) g4
        have g_19 : G17 5 = V := Eq.trans (hK17.2 5 rfl) g5
        have q_20 : F17 42 = (F 42) := hK17.1 42 rfl
        have q_21 : F17 43 = (F0 43) := Eq.trans (hK17.1 43 rfl) (show (F 43) = (F0 43) by simp only [h43, i_as])
        have q_22 : F17 44 = 0 := Eq.trans (hK17.1 44 rfl) h44
        unfold mb_simple_425
        exact mrj_simple_438 (F0 := F0) (R0 := R0) x4 x6 x7 x8 x9 F17 G17 g_18 g_19 ⟨q_22, (by first | with_reducible rfl | (simp only [h43, q_20, q_21, i_as, fup, Nat.reduceEqDiff, reduceIte, if_false]) | rfl), (hR.trans (by first | with_reducible rfl | (simp only [rsimple, rsimple1, rsimple3, rsig, h_11, h_15, h43, q_20, q_21, i_as, fup, i_a0, i0m, i10, eq_self, rb_yes, rb_no, ryes, rno, if_true, if_false, f_tt (p := True), reduceIte, Nat.reduceEqDiff]) | rfl))⟩
      · skip
        have h_23 : ¬ x9 = (13 : Int32) := c_13
        have w_24 : ¬ (x9.toInt = 13) := fun q => c_13 (i_eq.mpr q)
        unfold mb_simple_429
        refine PP.bind (PP.and (mw_expression F G) (mr_expression F G g4 g5 (show F 44 = 0 from h44))) ?_
        rintro r25 F25 G25 ⟨hK25, (⟨rfl, u25a, u25b, u25⟩ | ⟨rfl, u25a, u25⟩)⟩
        · dsimp only
          have g_26 : G25 4 = K := Eq.trans (hK25.2 4 rfl) g4
          have g_27 : G25 5 = V := Eq.trans (hK25.2 5 rfl) g5
          have h_28 : rS1 K V fu 300 4 (F 42) (F0 43) = some (some (F25 42)) := by
            have q : rS1 K V fu 300 4 (F 42) (F 43) = some (some (F25 42)) := u25
            simp only [h43, i_as] at q; exact q
          have q_29 : F25 43 = (F0 43) := by
            have q := (show F25 43 = (F 43) from u25b)
            simp only [h43, i_as] at q; exact q
          unfold mb_simple_433
          refine PP.ite (fun c_30 => absurd c_30 (by decide)) (fun _ => ?_)
          exact mrj_simple_438 (F0 := F0) (R0 := R0) x4 x6 x7 x8 x9 F25 G25 g_26 g_27 ⟨u25a, (by first | with_reducible rfl | (simp only [h43, q_29, i_as, fup, Nat.reduceEqDiff, reduceIte, if_false]) | rfl), (hR.trans (by first | with_reducible rfl | (simp only [rsimple, rsimple1, rsimple3, rsig, h_11, h_23, h_28, h43, q_29, i_as, fup, i_a0, i0m, i10, eq_self, rb_yes, rb_no, ryes, rno, if_true, if_false, f_tt (p := True), reduceIte, Nat.reduceEqDiff]) | rfl))⟩
        · dsimp only
          have g_31 : G25 4 = K := Eq.trans (hK25.2 4 rfl) g4
          have g_32 : G25 5 = V := Eq.trans (hK25.2 5 rfl) g5
          have h_33 : rS1 K V fu 300 4 (F 42) (F0 43) = some (none) := by
            have q : rS1 K V fu 300 4 (F 42) (F 43) = some (none) := u25
            simp only [h43, i_as] at q; exact q
          unfold mb_simple_433
          refine PP.ite (fun _ => ?_) (fun c_34 => absurd (by decide) c_34)
          unfold mb_simple_436
          refine PP.ret ?_
          refine Or.inr ⟨rfl, u25a, hR.trans ?_⟩
          first | with_reducible rfl | (simp only [rsimple, rsimple1, rsimple3, rsig, h_11, h_23, h_33, h43, i_as, fup, i_a0, i0m, i10, eq_self, rb_yes, rb_no, ryes, rno, if_true, if_false, f_tt (p := True), reduceIte, Nat.reduceEqDiff]) | rfl
theorem mrj_simple_397 {fu : Nat} {K V : Nat → Int32} {F0 : PF} {R0 : OR} (x4 : Int32) (x6 : Int32) (x7 : Int32) (x8 : Int32) (x9 : Int32) (z0 : Int32) (F : PF) (G : PG) (g4 : G 4 = K) (g5 : G 5 = V) (hA : (F 44 = 0 ∧ F 43 = F0 43 ∧ R0 = rsimple3 K V fu x9 (F 42) (F 43))) : PP (mb_simple_397 fu x4 x6 x7 x8 x9 z0 F G) (fun r' F' _ => ROK R0 F0 r' F') := by
  rcases hA with ⟨h44, h43, hR⟩
  · skip
    unfold mb_simple_397
    refine PP.bind (mw_step z0 x8 (0 : Int32) F G) ?_
    intro r1 F1 G1 hK1
    dsimp only
    have g_2 : G1 4 = K := Eq.trans (hK1.2 4 rfl) g4
    have g_3 : G1 5 = V := Eq.trans (hK1.2 5 rfl) g5
    have q_4 : F1 42 = (F 42) := hK1.1 42 rfl
    have q_5 : F1 43 = (F0 43) := Eq.trans (hK1.1 43 rfl) (show (F 43) = (F0 43) by simp only [h43, i_as])
    have q_6 : F1 44 = 0 := Eq.trans (hK1.1 44 rfl) h44
    unfold mb_simple_403
    exact mrj_simple_404 (F0 := F0) (R0 := R0) x4 x6 x7 x8 x9 F1 G1 g_2 g_3 ⟨q_6, (by first | with_reducible rfl | (simp only [h43, q_4, q_5, i_as, fup, Nat.reduceEqDiff, reduceIte, if_false]) | rfl), (hR.trans (by first | with_reducible rfl | (simp only [rsimple, rsimple1, rsimple3, rsig, h43, q_4, q_5, i_as, fup, i_a0, i0m, i10, eq_self, rb_yes, rb_no, ryes, rno, if_true, if_false, f_tt (p := True), reduceIte, Nat.reduceEqDiff]) | rfl))⟩
theorem mrj_simple_330 {fu : Nat} {K V : Nat → Int32} {F0 : PF} {R0 : OR} (x4 : Int32) (x6 : Int32) (x7 : Int32) (x8 : Int32) (x9 : Int32) (z0 : Int32) (F : PF) (G : PG) (g4 : G 4 = K) (g5 : G 5 = V) (hA : (z0 = 1 ∧ F 44 = 0 ∧ F 43 = F0 43 ∧ R0 = rsimple3 K V fu x9 ((F 42) + 1) (F 43)) ∨ (z0 = 0 ∧ F 44 = 0 ∧ F 43 = F0 43 ∧ R0 = rno)) : PP (mb_simple_330 fu x4 x6 x7 x8 x9 z0 F G) (fun r' F' _ => ROK R0 F0 r' F') := by
  rcases hA with ⟨rfl, h44, h43, hR⟩ | ⟨rfl, h44, h43, hR⟩
  · skip
    unfold mb_simple_330
    refine PP.ite (fun c_1 => absurd c_1 (by decide)) (fun _ => ?_)
    unfold mb_simple_343
    unfold mb_simple_353
    refine PP.ite (fun c_2 => ?_) (fun c_2 => ?_)
    · skip
      have h_3 : x9 = (32 : Int32) := c_2
      have h_4 := eq_true h_3
      have w_5 : x9.toInt = 32 := i_eq.mp c_2
      exact mrj_simple_404 (F0 := F0) (R0 := R0) x4 x6 x7 x8 x9 (fup F 42 ((F 42) + (1 : Int32))) G g4 g5 ⟨h44, (by first | with_reducible rfl | (simp only [h43, i_as, fup, Nat.reduceEqDiff, reduceIte, if_false]) | rfl), (hR.trans (by first | with_reducible rfl | (simp only [rsimple, rsimple1, rsimple3, rsig, h_4, h43, i_as, fup, i_a0, i0m, i10, eq_self, rb_yes, rb_no, ryes, rno, if_true, if_false, f_tt (p := True), reduceIte, Nat.reduceEqDiff]) | rfl))⟩
    · skip
      have h_6 : ¬ x9 = (32 : Int32) := c_2
      have w_7 : ¬ (x9.toInt = 32) := fun q => c_2 (i_eq.mpr q)
      unfold mb_simple_360
      refine PP.ite (fun c_8 => ?_) (fun c_8 => ?_)
      · skip
        unfold mb_simple_386
        refine PP.ite (fun c_9 => ?_) (fun c_9 => ?_)
        · skip
          unfold mb_simple_396
          exact mrj_simple_397 (F0 := F0) (R0 := R0) x4 x6 x7 x8 x9 (3 : Int32) (fup F 42 ((F 42) + (1 : Int32))) G g4 g5 ⟨h44, (by first | with_reducible rfl | (simp only [h43, i_as, fup, Nat.reduceEqDiff, reduceIte, if_false]) | rfl), (hR.trans (by first | with_reducible rfl | (simp only [rsimple, rsimple1, rsimple3, rsig, h_6, h43, i_as, fup, i_a0, i0m, i10, eq_self, rb_yes, rb_no, ryes, rno, if_true, if_false, f_tt (p := True), reduceIte, Nat.reduceEqDiff]) | rfl))⟩
        · skip
          unfold mb_simple_392
          exact mrj_simple_397 (F0 := F0) (R0 := R0) x4 x6 x7 x8 x9 (1 : Int32) (fup F 42 ((F 42) + (1 : Int32))) G g4 g5 ⟨h44, (by first | with_reducible rfl | (simp only [h43, i_as, fup, Nat.reduceEqDiff, reduceIte, if_false]) | rfl), (hR.trans (by first | with_reducible rfl | (simp only [rsimple, rsimple1, rsimple3, rsig, h_6, h43, i_as, fup, i_a0, i0m, i10, eq_self, rb_yes, rb_no, ryes, rno, if_true, if_false, f_tt (p := True), reduceIte, Nat.reduceEqDiff]) | rfl))⟩
      · skip
        unfold mb_simple_365
        refine PP.bind (mw_step (9 : Int32) (0 : Int32) (0 : Int32) (fup F 42 ((F 42) + (1 : Int32))) G) ?_
        intro r10 F10 G10 hK10
        dsimp only
        have g_11 : G10 4 = K := Eq.trans (hK10.2 4 rfl) g4
        have g_12 : G10 5 = V := Eq.trans (hK10.2 5 rfl) g5
        have q_13 : F10 42 = ((F 42) + (1 : Int32)) := hK10.1 42 rfl
        have q_14 : F10 43 = (F0 43) := Eq.trans (hK10.1 43 rfl) (show (F 43) = (F0 43) by simp only [h43, i_as])
        have q_15 : F10 44 = 0 := Eq.trans (hK10.1 44 rfl) h44
        unfold mb_simple_373
        refine PP.bind (mw_step (7 : Int32) (0 : Int32) (0 : Int32) F10 G10) ?_
        intro r16 F16 G16 hK16
        dsimp only
        have g_17 : G16 4 = K := Eq.trans (hK16.2 4 rfl) g_11
        have g_18 : G16 5 = V := Eq.trans (hK16.2 5 rfl) g_12
        have q_19 : F16 42 = ((F 42) + (1 : Int32)) := Eq.trans (hK16.1 42 rfl) (show (F10 42) = ((F 42) + (1 : Int32)) by simp only [q_13, q_14, i_as])
        have q_20 : F16 43 = (F0 43) := Eq.trans (hK16.1 43 rfl) (show (F10 43) = (F0 43) by simp only [q_13, q_14, i_as])
        have q_21 : F16 44 = 0 := Eq.trans (hK16.1 44 rfl) q_15
        unfold mb_simple_382
        exact mrj_simple_404 (F0 := F0) (R0 := R0) x4 x6 x7 x8 x9 F16 G16 g_17 g_18 ⟨q_21, (by first | with_reducible rfl | (simp only [h43, q_13, q_14, q_19, q_20, i_as, fup, Nat.reduceEqDiff, reduceIte, if_false]) | rfl), (hR.trans (by first | with_reducible rfl | (simp only [rsimple, rsimple1, rsimple3, rsig, h_6, h43, q_13, q_14, q_19, q_20, i_as, fup, i_a0, i0m, i10, eq_self, rb_yes, rb_no, ryes, rno, if_true, if_false, f_tt (p := True), reduceIte, Nat.reduceEqDiff]) | rfl))⟩
  · skip
    unfold mb_simple_330
    refine PP.ite (fun _ => ?_) (fun c_22 => absurd (by decide) c_22)
    unfold mb_simple_337
    refine PP.bind (mp_fails (2 : Int32) (by decide) F G) ?_
    rintro r23 F23 G23 ⟨rfl, u23⟩
    dsimp only
    have g_24 : G23 4 = K := Eq.trans (u23.2.2.2 4 rfl) g4
    have g_25 : G23 5 = V := Eq.trans (u23.2.2.2 5 rfl) g5
    have q_26 : F23 42 = (F 42) := u23.2.2.1 42 rfl
    have q_27 : F23 43 = (F0 43) := Eq.trans (u23.2.2.1 43 rfl) (show (F 43) = (F0 43) by simp only [h43, i_as])
    unfold mb_simple_342
    refine PP.ret ?_
    refine Or.inr ⟨rfl, u23.1, hR.trans ?_⟩
    first | with_reducible rfl | (simp only [rsimple, rsimple1, rsimple3, rsig, h43, q_26, q_27, i_as, fup, i_a0, i0m, i10, eq_self, rb_yes, rb_no, ryes, rno, if_true, if_false, f_tt (p := True), reduceIte, Nat.reduceEqDiff]) | rfl
theorem mrj_simple_272 {fu : Nat} {K V : Nat → Int32} {F0 : PF} {R0 : OR} (x4 : Int32) (x6 : Int32) (x7 : Int32) (x8 : Int32) (z0 : Int32) (F : PF) (G : PG) (g4 : G 4 = K) (g5 : G 5 = V) (hA : (F 44 = 0 ∧ F 43 = F0 43 ∧ R0 = rsimple2 K V fu (F 42) (F 43) ∧ z0 = rsig K V (F 42))) : PP (mb_simple_272 fu x4 x6 x7 x8 z0 F G) (fun r' F' _ => ROK R0 F0 r' F') := by
  rcases hA with ⟨h44, h43, hR, hx0⟩
  · skip
    unfold mb_simple_272
    refine PP.ite (fun c_1 => ?_) (fun c_1 => ?_)
    · skip
      have h_2 : z0 = (32 : Int32) := c_1
      have h_3 := eq_true h_2
      have w_4 : z0.toInt = 32 := i_eq.mp c_1
      unfold mb_simple_325
      exact mrj_simple_330 (F0 := F0) (R0 := R0) x4 x6 x7 x8 z0 (1 : Int32) F G g4 g5 (Or.inl ⟨rfl, h44, (by first | with_reducible rfl | (simp only [h43, i_as, fup, Nat.reduceEqDiff, reduceIte, if_false]) | rfl), (hR.trans (rs2_t (by assumption) (by omega)))⟩)
    · skip
      have h_5 : ¬ z0 = (32 : Int32) := c_1
      have w_6 : ¬ (z0.toInt = 32) := fun q => c_1 (i_eq.mpr q)
      unfold mb_simple_281
      refine PP.ite (fun c_7 => ?_) (fun c_7 => ?_)
      · skip
        have h_8 : z0 = (12 : Int32) := c_7
        have h_9 := eq_true h_8
        have w_10 : z0.toInt = 12 := i_eq.mp c_7
        unfold mb_simple_325
        exact mrj_simple_330 (F0 := F0) (R0 := R0) x4 x6 x7 x8 z0 (1 : Int32) F G g4 g5 (Or.inl ⟨rfl, h44, (by first | with_reducible rfl | (simp only [h43, i_as, fup, Nat.reduceEqDiff, reduceIte, if_false]) | rfl), (hR.trans (rs2_t (by assumption) (by omega)))⟩)
      · skip
        have h_11 : ¬ z0 = (12 : Int32) := c_7
        have w_12 : ¬ (z0.toInt = 12) := fun q => c_7 (i_eq.mpr q)
        unfold mb_simple_288
        refine PP.ite (fun c_13 => ?_) (fun c_13 => ?_)
        · skip
          have h_14 : z0 = (13 : Int32) := c_13
          have h_15 := eq_true h_14
          have w_16 : z0.toInt = 13 := i_eq.mp c_13
          unfold mb_simple_325
          exact mrj_simple_330 (F0 := F0) (R0 := R0) x4 x6 x7 x8 z0 (1 : Int32) F G g4 g5 (Or.inl ⟨rfl, h44, (by first | with_reducible rfl | (simp only [h43, i_as, fup, Nat.reduceEqDiff, reduceIte, if_false]) | rfl), (hR.trans (rs2_t (by assumption) (by omega)))⟩)
        · skip
          have h_17 : ¬ z0 = (13 : Int32) := c_13
          have w_18 : ¬ (z0.toInt = 13) := fun q => c_13 (i_eq.mpr q)
          unfold mb_simple_295
          refine PP.ite (fun c_19 => ?_) (fun c_19 => ?_)
          · skip
            have h_20 : z0 = (0 : Int32) := c_19
            have h_21 := eq_true h_20
            have w_22 : z0.toInt = 0 := i_eq.mp c_19
            unfold mb_simple_325
            exact mrj_simple_330 (F0 := F0) (R0 := R0) x4 x6 x7 x8 z0 (1 : Int32) F G g4 g5 (Or.inl ⟨rfl, h44, (by first | with_reducible rfl | (simp only [h43, i_as, fup, Nat.reduceEqDiff, reduceIte, if_false]) | rfl), (hR.trans (rs2_t (by assumption) (by omega)))⟩)
          · skip
            have h_23 : ¬ z0 = (0 : Int32) := c_19
            have w_24 : ¬ (z0.toInt = 0) := fun q => c_19 (i_eq.mpr q)
            unfold mb_simple_300
            refine PP.ite (fun c_25 => ?_) (fun c_25 => ?_)
            · skip
              have h_26 : z0 = (2 : Int32) := c_25
              have h_27 := eq_true h_26
              have w_28 : z0.toInt = 2 := i_eq.mp c_25
              unfold mb_simple_325
              exact mrj_simple_330 (F0 := F0) (R0 := R0) x4 x6 x7 x8 z0 (1 : Int32) F G g4 g5 (Or.inl ⟨rfl, h44, (by first | with_reducible rfl | (simp only [h43, i_as, fup, Nat.reduceEqDiff, reduceIte, if_false]) | rfl), (hR.trans (rs2_t (by assumption) (by omega)))⟩)
            · skip
              have h_29 : ¬ z0 = (2 : Int32) := c_25
              have w_30 : ¬ (z0.toInt = 2) := fun q => c_25 (i_eq.mpr q)
              unfold mb_simple_306
              refine PP.ite (fun c_31 => ?_) (fun c_31 => ?_)
              · skip
                have h_32 : z0 = (3 : Int32) := c_31
                have h_33 := eq_true h_32
                have w_34 : z0.toInt = 3 := i_eq.mp c_31
                unfold mb_simple_325
                exact mrj_simple_330 (F0 := F0) (R0 := R0) x4 x6 x7 x8 z0 (1 : Int32) F G g4 g5 (Or.inl ⟨rfl, h44, (by first | with_reducible rfl | (simp only [h43, i_as, fup, Nat.reduceEqDiff, reduceIte, if_false]) | rfl), (hR.trans (rs2_t (by assumption) (by omega)))⟩)
              · skip
                have h_35 : ¬ z0 = (3 : Int32) := c_31
                have w_36 : ¬ (z0.toInt = 3) := fun q => c_31 (i_eq.mpr q)
                unfold mb_simple_312
                refine PP.ite (fun c_37 => ?_) (fun c_37 => ?_)
                · skip
                  have w_38 : z0.toInt < 4 := i_lt.mp c_37
                  unfold mb_simple_329
                  exact mrj_simple_330 (F0 := F0) (R0 := R0) x4 x6 x7 x8 z0 (0 : Int32) F G g4 g5 (Or.inr ⟨rfl, h44, (by first | with_reducible rfl | (simp only [h43, i_as, fup, Nat.reduceEqDiff, reduceIte, if_false]) | rfl), (hR.trans (rs2_f (by assumption) (by omega)))⟩)
                · skip
                  have w_39 : ¬ (z0.toInt < 4) := fun q => c_37 (i_lt.mpr q)
                  unfold mb_simple_318
                  refine PP.ite (fun c_40 => ?_) (fun c_40 => ?_)
                  · skip
                    have w_41 : 12 ≤ z0.toInt := i_le.mp c_40
                    unfold mb_simple_329
                    exact mrj_simple_330 (F0 := F0) (R0 := R0) x4 x6 x7 x8 z0 (0 : Int32) F G g4 g5 (Or.inr ⟨rfl, h44, (by first | with_reducible rfl | (simp only [h43, i_as, fup, Nat.reduceEqDiff, reduceIte, if_false]) | rfl), (hR.trans (rs2_f (by assumption) (by omega)))⟩)
                  · skip
                    have w_42 : ¬ (12 ≤ z0.toInt) := fun q => c_40 (i_le.mpr q)
                    unfold mb_simple_325
                    exact mrj_simple_330 (F0 := F0) (R0 := R0) x4 x6 x7 x8 z0 (1 : Int32) F G g4 g5 (Or.inl ⟨rfl, h44, (by first | with_reducible rfl | (simp only [h43, i_as, fup, Nat.reduceEqDiff, reduceIte, if_false]) | rfl), (hR.trans (rs2_t (by assumption) (by omega)))⟩)
theorem mrj_simple_246 {fu : Nat} {K V : Nat → Int32} {F0 : PF} {R0 : OR} (x4 : Int32) (x6 : Int32) (x7 : Int32) (x8 : Int32) (F : PF) (G : PG) (g4 : G 4 = K) (g5 : G 5 = V) (hA : (F 44 = 0 ∧ F 43 = F0 43 ∧ R0 = rsimple2 K V fu (F 42) (F 43))) : PP (mb_simple_246 fu x4 x6 x7 x8 F G) (fun r' F' _ => ROK R0 F0 r' F') := by
  rcases hA with ⟨h44, h43, hR⟩
  · skip
    unfold mb_simple_246
    refine PP.ix (fun _ => ?_)
    refine PP.ite (fun c_1 => ?_) (fun c_1 => ?_)
    · skip
      have h_2 : K (F 42).toNatClampNeg = (4 : Int32) := by
        rw [← g4]
        have q := c_1
        first | exact q | (simp only [h43, i_as] at q; exact q)
      have h_3 := eq_true h_2
      unfold mb_simple_259
      refine PP.ix (fun _ => ?_)
      exact mrj_simple_272 (F0 := F0) (R0 := R0) x4 x6 x7 x8 (G 5 (F 42).toNatClampNeg) F G g4 g5 ⟨h44, (by first | with_reducible rfl | (simp only [h43, i_as, fup, Nat.reduceEqDiff, reduceIte, if_false]) | rfl), (hR.trans (by first | with_reducible rfl | (simp only [rsimple, rsimple1, rsimple3, rsig, h_3, h43, i_as, fup, i_a0, i0m, i10, eq_self, rb_yes, rb_no, ryes, rno, if_true, if_false, f_tt (p := True), reduceIte, Nat.reduceEqDiff]) | rfl)), (by first | with_reducible rfl | assumption | (simp only [g4, g5, rsimple, rsimple1, rsimple3, rsig, h_3, h43, i_as, fup, i_a0, i0m, i10, eq_self, rb_yes, rb_no, ryes, rno, if_true, if_false, f_tt (p := True), reduceIte, Nat.reduceEqDiff]) | exact sgn_ne (by assumption) (by decide))⟩
    · skip
      have h_4 : ¬ K (F 42).toNatClampNeg = (4 : Int32) := by
        rw [← g4]
        have q := c_1
        first | exact q | (simp only [h43, i_as] at q; exact q)
      unfold mb_simple_271
      exact mrj_simple_272 (F0 := F0) (R0 := R0) x4 x6 x7 x8 (-1 : Int32) F G g4 g5 ⟨h44, (by first | with_reducible rfl | (simp only [h43, i_as, fup, Nat.reduceEqDiff, reduceIte, if_false]) | rfl), (hR.trans (by first | with_reducible rfl | (simp only [rsimple, rsimple1, rsimple3, rsig, h_4, h43, i_as, fup, i_a0, i0m, i10, eq_self, rb_yes, rb_no, ryes, rno, if_true, if_false, f_tt (p := True), reduceIte, Nat.reduceEqDiff]) | rfl)), (by first | with_reducible rfl | assumption | (simp only [g4, g5, rsimple, rsimple1, rsimple3, rsig, h_4, h43, i_as, fup, i_a0, i0m, i10, eq_self, rb_yes, rb_no, ryes, rno, if_true, if_false, f_tt (p := True), reduceIte, Nat.reduceEqDiff]) | exact sgn_ne (by assumption) (by decide))⟩
theorem mrj_simple_229 {fu : Nat} {K V : Nat → Int32} {F0 : PF} {R0 : OR} (x2 : Int32) (x4 : Int32) (x6 : Int32) (x7 : Int32) (z0 : Int32) (F : PF) (G : PG) (g4 : G 4 = K) (g5 : G 5 = V) (hA : (x4 = 1 ∧ F 44 = 0 ∧ F 43 = F0 43 ∧ R0 = rsimple1 K V fu (F 42) (F 43) ∧ sgn K V (F 42) (24 : Int32) = true) ∨ (x4 = 0 ∧ F 44 = 0 ∧ F 43 = F0 43 ∧ R0 = rsimple1 K V fu (F 42) (F 43) ∧ sgn K V (F 42) (24 : Int32) = false)) : PP (mb_simple_229 fu x2 x4 x6 x7 z0 F G) (fun r' F' _ => ROK R0 F0 r' F') := by
  rcases hA with ⟨rfl, h44, h43, hR, hx0⟩ | ⟨rfl, h44, h43, hR, hx0⟩
  · skip
    unfold mb_simple_229
    refine PP.ite (fun c_1 => absurd c_1 (by decide)) (fun _ => ?_)
    unfold mb_simple_236
    refine PP.bind (PP.and (mw_element x2 F G) (mr_element x2 F G g4 g5 (show F 44 = 0 from h44))) ?_
    rintro r2 F2 G2 ⟨hK2, (⟨rfl, u2a, u2b, u2⟩ | ⟨rfl, u2a, u2⟩)⟩
    · dsimp only
      have g_3 : G2 4 = K := Eq.trans (hK2.2 4 rfl) g4
      have g_4 : G2 5 = V := Eq.trans (hK2.2 5 rfl) g5
      have h_5 : rS1 K V fu 300 3 (F 42) (F0 43) = some (some (F2 42)) := by
        have q : rS1 K V fu 300 3 (F 42) (F 43) = some (some (F2 42)) := u2
        simp only [h43, i_as] at q; exact q
      have q_6 : F2 43 = (F0 43) := by
        have q := (show F2 43 = (F 43) from u2b)
        simp only [h43, i_as] at q; exact q
      unfold mb_simple_241
      refine PP.ite (fun c_7 => absurd c_7 (by decide)) (fun _ => ?_)
      exact mrj_simple_246 (F0 := F0) (R0 := R0) (1 : Int32) x6 x7 z0 F2 G2 g_3 g_4 ⟨u2a, (by first | with_reducible rfl | (simp only [h43, q_6, i_as, fup, Nat.reduceEqDiff, reduceIte, if_false]) | rfl), (hR.trans (by first | with_reducible rfl | (simp only [rsimple, rsimple1, rsimple3, rsig, hx0, h_5, h43, q_6, i_as, fup, i_a0, i0m, i10, eq_self, rb_yes, rb_no, ryes, rno, if_true, if_false, f_tt (p := True), reduceIte, Nat.reduceEqDiff]) | rfl))⟩
    · dsimp only
      have g_8 : G2 4 = K := Eq.trans (hK2.2 4 rfl) g4
      have g_9 : G2 5 = V := Eq.trans (hK2.2 5 rfl) g5
      have h_10 : rS1 K V fu 300 3 (F 42) (F0 43) = some (none) := by
        have q : rS1 K V fu 300 3 (F 42) (F 43) = some (none) := u2
        simp only [h43, i_as] at q; exact q
      unfold mb_simple_241
      refine PP.ite (fun _ => ?_) (fun c_11 => absurd (by decide) c_11)
      unfold mb_simple_244
      refine PP.ret ?_
      refine Or.inr ⟨rfl, u2a, hR.trans ?_⟩
      first | with_reducible rfl | (simp only [rsimple, rsimple1, rsimple3, rsig, hx0, h_10, h43, i_as, fup, i_a0, i0m, i10, eq_self, rb_yes, rb_no, ryes, rno, if_true, if_false, f_tt (p := True), reduceIte, Nat.reduceEqDiff]) | rfl
  · skip
    unfold mb_simple_229
    refine PP.ite (fun _ => ?_) (fun c_12 => absurd (by decide) c_12)
    exact mrj_simple_246 (F0 := F0) (R0 := R0) (0 : Int32) x6 x7 z0 F G g4 g5 ⟨h44, (by first | with_reducible rfl | (simp only [h43, i_as, fup, Nat.reduceEqDiff, reduceIte, if_false]) | rfl), (hR.trans (by first | with_reducible rfl | (simp only [rsimple, rsimple1, rsimple3, rsig, hx0, h43, i_as, fup, i_a0, i0m, i10, eq_self, rb_yes, rb_no, ryes, rno, if_true, if_false, f_tt (p := True), reduceIte, Nat.reduceEqDiff]) | rfl))⟩
theorem mrj_simple_212 {fu : Nat} {K V : Nat → Int32} {F0 : PF} {R0 : OR} (x2 : Int32) (x4 : Int32) (x6 : Int32) (z0 : Int32) (F : PF) (G : PG) (g4 : G 4 = K) (g5 : G 5 = V) (hA : (x4 = 1 ∧ F 44 = 0 ∧ F 43 = F0 43 ∧ R0 = rsimple1 K V fu (F 42) (F 43) ∧ sgn K V (F 42) (24 : Int32) = true) ∨ (x4 = 0 ∧ F 44 = 0 ∧ F 43 = F0 43 ∧ R0 = rsimple1 K V fu (F 42) (F 43) ∧ sgn K V (F 42) (24 : Int32) = false)) : PP (mb_simple_212 fu x2 x4 x6 z0 F G) (fun r' F' _ => ROK R0 F0 r' F') := by
  rcases hA with ⟨rfl, h44, h43, hR, hx0⟩ | ⟨rfl, h44, h43, hR, hx0⟩
  · skip
    unfold mb_simple_212
    refine PP.ite (fun c_1 => ?_) (fun c_1 => ?_)
    · skip
      unfold mb_simple_219
      exact mrj_simple_229 (F0 := F0) (R0 := R0) x2 (1 : Int32) x6 z0 (0 : Int32) F G g4 g5 (Or.inl ⟨rfl, h44, (by first | with_reducible rfl | (simp only [h43, i_as, fup, Nat.reduceEqDiff, reduceIte, if_false]) | rfl), (hR.trans (by first | with_reducible rfl | (simp only [rsimple, rsimple1, rsimple3, rsig, hx0, h43, i_as, fup, i_a0, i0m, i10, eq_self, rb_yes, rb_no, ryes, rno, if_true, if_false, f_tt (p := True), reduceIte, Nat.reduceEqDiff]) | rfl)), (by first | with_reducible rfl | assumption | (simp only [g4, g5, rsimple, rsimple1, rsimple3, rsig, hx0, h43, i_as, fup, i_a0, i0m, i10, eq_self, rb_yes, rb_no, ryes, rno, if_true, if_false, f_tt (p := True), reduceIte, Nat.reduceEqDiff]) | exact sgn_ne (by assumption) (by decide))⟩)
    · skip
      unfold mb_simple_223
      refine PP.ix (fun _ => ?_)
      exact mrj_simple_229 (F0 := F0) (R0 := R0) x2 (1 : Int32) x6 z0 (G 20 x2.toNatClampNeg) F G g4 g5 (Or.inl ⟨rfl, h44, (by first | with_reducible rfl | (simp only [h43, i_as, fup, Nat.reduceEqDiff, reduceIte, if_false]) | rfl), (hR.trans (by first | with_reducible rfl | (simp only [rsimple, rsimple1, rsimple3, rsig, hx0, h43, i_as, fup, i_a0, i0m, i10, eq_self, rb_yes, rb_no, ryes, rno, if_true, if_false, f_tt (p := True), reduceIte, Nat.reduceEqDiff]) | rfl)), (by first | with_reducible rfl | assumption | (simp only [g4, g5, rsimple, rsimple1, rsimple3, rsig, hx0, h43, i_as, fup, i_a0, i0m, i10, eq_self, rb_yes, rb_no, ryes, rno, if_true, if_false, f_tt (p := True), reduceIte, Nat.reduceEqDiff]) | exact sgn_ne (by assumption) (by decide))⟩)
  · skip
    unfold mb_simple_212
    refine PP.ite (fun c_2 => ?_) (fun c_2 => ?_)
    · skip
      unfold mb_simple_219
      exact mrj_simple_229 (F0 := F0) (R0 := R0) x2 (0 : Int32) x6 z0 (0 : Int32) F G g4 g5 (Or.inr ⟨rfl, h44, (by first | with_reducible rfl | (simp only [h43, i_as, fup, Nat.reduceEqDiff, reduceIte, if_false]) | rfl), (hR.trans (by first | with_reducible rfl | (simp only [rsimple, rsimple1, rsimple3, rsig, hx0, h43, i_as, fup, i_a0, i0m, i10, eq_self, rb_yes, rb_no, ryes, rno, if_true, if_false, f_tt (p := True), reduceIte, Nat.reduceEqDiff]) | rfl)), (by first | with_reducible rfl | assumption | (simp only [g4, g5, rsimple, rsimple1, rsimple3, rsig, hx0, h43, i_as, fup, i_a0, i0m, i10, eq_self, rb_yes, rb_no, ryes, rno, if_true, if_false, f_tt (p := True), reduceIte, Nat.reduceEqDiff]) | exact sgn_ne (by assumption) (by decide))⟩)
    · skip
      unfold mb_simple_223
      refine PP.ix (fun _ => ?_)
      exact mrj_simple_229 (F0 := F0) (R0 := R0) x2 (0 : Int32) x6 z0 (G 20 x2.toNatClampNeg) F G g4 g5 (Or.inr ⟨rfl, h44, (by first | with_reducible rfl | (simp only [h43, i_as, fup, Nat.reduceEqDiff, reduceIte, if_false]) | rfl), (hR.trans (by first | with_reducible rfl | (simp only [rsimple, rsimple1, rsimple3, rsig, hx0, h43, i_as, fup, i_a0, i0m, i10, eq_self, rb_yes, rb_no, ryes, rno, if_true, if_false, f_tt (p := True), reduceIte, Nat.reduceEqDiff]) | rfl)), (by first | with_reducible rfl | assumption | (simp only [g4, g5, rsimple, rsimple1, rsimple3, rsig, hx0, h43, i_as, fup, i_a0, i0m, i10, eq_self, rb_yes, rb_no, ryes, rno, if_true, if_false, f_tt (p := True), reduceIte, Nat.reduceEqDiff]) | exact sgn_ne (by assumption) (by decide))⟩)
