theorem mrz_block_11 {fu : Nat} {K V : Nat → Int32} (rc : RC) (r : RR) (ihK : mKI2 rc) (ih : mRI2 K V rc r) {F0 : PF} {R0 : OR} : ∀ (n : Nat) (F : PF) (G : PG) (g4 : G 4 = K) (g5 : G 5 = V) (hA : (F 44 = 0 ∧ F 43 = ((F0 43) + (1 : Int32)) ∧ R0 = rl_block K V r (F 43) n (F 42)) ∨ (0 < (F 44).toInt ∧ R0 = rno)), PP (ml_block_11 fu rc n F G) (fun r' F' _ => ROK R0 F0 r' F') := by
  intro n
  induction n with
  | zero =>
    intro F G g4 g5 hA
    exact PP.no
  | succ n ihn =>
    intro F G g4 g5 hA
    show PP (mb_block_11 fu rc (ml_block_11 fu rc n) F G) _
    rcases hA with ⟨h44, h43, hR⟩ | ⟨hf, hR⟩
    · skip
      unfold mb_block_11
      refine PP.ite (fun c_1 => ?_) (fun c_1 => ?_)
      · skip
        unfold mb_block_18
        refine PP.bind (mp_isSign (27 : Int32) F G) ?_
        rintro _ _ _ ⟨rfl, rfl, (⟨rfl, u2⟩ | ⟨rfl, u2⟩)⟩
        · dsimp only
          have h_3 : sgn K V (F 42) (27 : Int32) = true := by
            rw [← g4, ← g5]
            have q := u2
            first | exact q | (simp only [h43, i_as] at q; exact q)
          unfold mb_block_24
          refine PP.ite (fun c_4 => absurd c_4 (by decide)) (fun _ => ?_)
          unfold mb_block_35
          refine PP.bind (mp_closeSign (27 : Int32) F G) ?_
          rintro r5 F5 G5 (⟨rfl, rfl, rfl, u5⟩ | ⟨rfl, u5, u5b⟩)
          · dsimp only
            have h_6 : sgn K V (F 42) (27 : Int32) = true := by
              rw [← g4, ← g5]
              have q := u5.1
              first | exact q | (simp only [h43, i_as] at q; exact q)
            unfold mb_block_41
            refine PP.ret ?_
            refine Or.inl ⟨rfl, h44, ?_, hR.trans ?_⟩
            · show ((F 43) - (1 : Int32)) = F0 43
              first | with_reducible rfl | (simp only [h43, i_as, fup, Nat.reduceEqDiff, reduceIte, if_false]) | rfl
            · show _ = some (some ((F 42) + (1 : Int32)))
              first | with_reducible rfl | (simp only [rblock, rl_block, rclose, h_3, h_6, h43, i_as, fup, i_a0, i0m, i10, eq_self, rb_yes, rb_no, ryes, rno, if_true, if_false, f_tt (p := True), reduceIte, Nat.reduceEqDiff]) | rfl
          · dsimp only
            have g_7 : G5 4 = K := Eq.trans (u5.2.2.2 4 rfl) g4
            have g_8 : G5 5 = V := Eq.trans (u5.2.2.2 5 rfl) g5
            have q_9 : F5 42 = (F 42) := u5.2.2.1 42 rfl
            have q_10 : F5 43 = ((F0 43) + (1 : Int32)) := Eq.trans (u5.2.2.1 43 rfl) (show (F 43) = ((F0 43) + (1 : Int32)) by simp only [h43, i_as])
            rcases u5b with q | q
            · exact absurd q (show ¬ 0 < (F 44).toInt by rw [h44]; decide)
            · skip
              have h_11 : sgn K V (F 42) (27 : Int32) = false := by
                rw [← g4, ← g5]
                have q := q
                first | exact q | (simp only [h43, i_as] at q; exact q)
              exact absurd (h_3.symm.trans h_11) (by decide)
        · dsimp only
          have h_12 : sgn K V (F 42) (27 : Int32) = false := by
            rw [← g4, ← g5]
            have q := u2
            first | exact q | (simp only [h43, i_as] at q; exact q)
          unfold mb_block_24
          refine PP.ite (fun _ => ?_) (fun c_13 => absurd (by decide) c_13)
          unfold mb_block_27
          refine PP.bind (PP.and (ihK 6 0 0 F G) (ih 6 0 0 F G g4 g5 (show F 44 = 0 from h44))) ?_
          rintro r14 F14 G14 ⟨hK14, (⟨rfl, u14a, u14b, u14⟩ | ⟨rfl, u14a, u14⟩)⟩
          · dsimp only
            have g_15 : G14 4 = K := Eq.trans (hK14.2 4 rfl) g4
            have g_16 : G14 5 = V := Eq.trans (hK14.2 5 rfl) g5
            have h_17 : r 6 (F 42) ((F0 43) + (1 : Int32)) = some (some (F14 42)) := by
              have q : r 6 (F 42) (F 43) = some (some (F14 42)) := u14
              simp only [h43, i_as] at q; exact q
            have q_18 : F14 43 = ((F0 43) + (1 : Int32)) := by
              have q := (show F14 43 = (F 43) from u14b)
              simp only [h43, i_as] at q; exact q
            unfold mb_block_31
            exact ihn F14 G14 g_15 g_16 (Or.inl ⟨u14a, (by first | with_reducible rfl | (simp only [h43, q_18, i_as, fup, Nat.reduceEqDiff, reduceIte, if_false]) | rfl), (hR.trans (by first | with_reducible rfl | (simp only [rblock, rl_block, rclose, h_12, h_17, h43, q_18, i_as, fup, i_a0, i0m, i10, eq_self, rb_yes, rb_no, ryes, rno, if_true, if_false, f_tt (p := True), reduceIte, Nat.reduceEqDiff]) | rfl))⟩)
          · dsimp only
            have g_19 : G14 4 = K := Eq.trans (hK14.2 4 rfl) g4
            have g_20 : G14 5 = V := Eq.trans (hK14.2 5 rfl) g5
            have h_21 : r 6 (F 42) ((F0 43) + (1 : Int32)) = some (none) := by
              have q : r 6 (F 42) (F 43) = some (none) := u14
              simp only [h43, i_as] at q; exact q
            unfold mb_block_31
            exact ihn F14 G14 g_19 g_20 (Or.inr ⟨u14a, (hR.trans (by first | with_reducible rfl | (simp only [rblock, rl_block, rclose, h_12, h_21, h43, i_as, fup, i_a0, i0m, i10, eq_self, rb_yes, rb_no, ryes, rno, if_true, if_false, f_tt (p := True), reduceIte, Nat.reduceEqDiff]) | rfl))⟩)
      · skip
        exact absurd h44 (show ¬ ((F 44) = (0 : Int32)) from c_1)
    · skip
      unfold mb_block_11
      refine PP.ite (fun c_22 => ?_) (fun c_22 => ?_)
      · skip
        exact absurd (congrArg Int32.toInt (show (F 44) = (0 : Int32) from c_22)) (by have := hf; have l0 : (0 : Int32).toInt = 0 := rfl; omega)
      · skip
        unfold mb_block_35
        refine PP.bind (mp_closeSign (27 : Int32) F G) ?_
        rintro r23 F23 G23 (⟨rfl, rfl, rfl, u23⟩ | ⟨rfl, u23, u23b⟩)
        · dsimp only
          exact absurd hf u23.2
        · dsimp only
          have g_24 : G23 4 = K := Eq.trans (u23.2.2.2 4 rfl) g4
          have g_25 : G23 5 = V := Eq.trans (u23.2.2.2 5 rfl) g5
          have q_26 : F23 42 = (F 42) := u23.2.2.1 42 rfl
          have q_27 : F23 43 = (F 43) := u23.2.2.1 43 rfl
          unfold mb_block_41
          refine PP.ret ?_
          refine Or.inr ⟨rfl, u23.1, hR.trans ?_⟩
          first | with_reducible rfl | (simp only [rblock, rl_block, rclose, q_26, q_27, i_as, fup, i_a0, i0m, i10, eq_self, rb_yes, rb_no, ryes, rno, if_true, if_false, f_tt (p := True), reduceIte, Nat.reduceEqDiff]) | rfl
theorem mrt_block {fu : Nat} {K V : Nat → Int32} (rc : RC) (r : RR) (ihK : mKI2 rc) (ih : mRI2 K V rc r) (F : PF) (G : PG) (g4 : G 4 = K) (g5 : G 5 = V) (h44 : F 44 = 0) : PP (mh_block fu rc F G) (fun r' F' _ => ROK (rblock K V fu r (F 42) (F 43)) F r' F') := by
  unfold mh_block
  unfold mb_block_0
  refine PP.bind (mp_openSign (26 : Int32) F G) ?_
  rintro r1 F1 G1 (⟨rfl, rfl, rfl, u1⟩ | ⟨rfl, u1, u1b⟩)
  · dsimp only
    have h_2 : sgn K V (F 42) (26 : Int32) = true := by
      rw [← g4, ← g5]
      have q := u1.1
      first | exact q | (simp only [i_as] at q; exact q)
    have h_3 : ¬ (F 43) = 40 := by
      have q : ¬ (F 43) = 40 := u1.2.1
      first | exact q | (simp only [i_as] at q; exact q)
    unfold mb_block_6
    refine PP.ite (fun c_4 => absurd c_4 (by decide)) (fun _ => ?_)
    exact mrz_block_11 rc r ihK ih (F0 := F) (R0 := (rblock K V fu r (F 42) (F 43))) fu (fup (fup F 43 ((F 43) + (1 : Int32))) 42 ((F 42) + (1 : Int32))) G g4 g5 (Or.inl ⟨h44, (by first | with_reducible rfl | (simp only [i_as, fup, Nat.reduceEqDiff, reduceIte, if_false]) | rfl), ((rfl : (rblock K V fu r (F 42) (F 43)) = _).trans (by first | with_reducible rfl | (simp only [rblock, rl_block, rclose, h_2, h_3, i_as, fup, i_a0, i0m, i10, eq_self, rb_yes, rb_no, ryes, rno, if_true, if_false, f_tt (p := True), reduceIte, Nat.reduceEqDiff]) | rfl))⟩)
  · dsimp only
    have g_5 : G1 4 = K := Eq.trans (u1.2.2.2 4 rfl) g4
    have g_6 : G1 5 = V := Eq.trans (u1.2.2.2 5 rfl) g5
    have q_7 : F1 42 = (F 42) := u1.2.2.1 42 rfl
    have q_8 : F1 43 = (F 43) := u1.2.2.1 43 rfl
    rcases u1b with q | q | ⟨q, q1⟩
    · exact absurd q (show ¬ 0 < (F 44).toInt by rw [h44]; decide)
    · skip
      have h_9 : sgn K V (F 42) (26 : Int32) = false := by
        rw [← g4, ← g5]
        have q := q
        first | exact q | (simp only [i_as] at q; exact q)
      unfold mb_block_6
      refine PP.ite (fun _ => ?_) (fun c_10 => absurd (by decide) c_10)
      unfold mb_block_9
      refine PP.ret ?_
      refine Or.inr ⟨rfl, u1.1, (rfl : (rblock K V fu r (F 42) (F 43)) = _).trans ?_⟩
      first | with_reducible rfl | (simp only [rblock, rl_block, rclose, h_9, q_7, q_8, i_as, fup, i_a0, i0m, i10, eq_self, rb_yes, rb_no, ryes, rno, if_true, if_false, f_tt (p := True), reduceIte, Nat.reduceEqDiff]) | rfl
    · skip
      have h_11 : sgn K V (F 42) (26 : Int32) = true := by
        rw [← g4, ← g5]
        have q := q
        first | exact q | (simp only [i_as] at q; exact q)
      have h_12 : ((F 43) = 40) = True := by
        have q : (F 43) = 40 := q1
        first | exact eq_true q | (simp only [i_as] at q; exact eq_true q)
      unfold mb_block_6
      refine PP.ite (fun _ => ?_) (fun c_13 => absurd (by decide) c_13)
      unfold mb_block_9
      refine PP.ret ?_
      refine Or.inr ⟨rfl, u1.1, (rfl : (rblock K V fu r (F 42) (F 43)) = _).trans ?_⟩
      first | with_reducible rfl | (simp only [rblock, rl_block, rclose, h_11, h_12, q_7, q_8, i_as, fup, i_a0, i0m, i10, eq_self, rb_yes, rb_no, ryes, rno, if_true, if_false, f_tt (p := True), reduceIte, Nat.reduceEqDiff]) | rfl
theorem mrt_body {fu : Nat} {K V : Nat → Int32} (rc : RC) (r : RR) (ihK : mKI2 rc) (ih : mRI2 K V rc r) (x1 : Int32) (F : PF) (G : PG) (g4 : G 4 = K) (g5 : G 5 = V) (h44 : F 44 = 0) : PP (mh_body fu rc x1 F G) (fun r' F' _ => ROK (r 5 (F 42) (F 43)) F r' F') := by
  unfold mh_body
  unfold mb_body_0
  unfold mb_body_15
  unfold mb_body_20
  unfold mb_body_30
  refine PP.bind (mw_step (15 : Int32) (0 : Int32) (0 : Int32) (fup (fup (fup F 63 (-1 : Int32)) 64 (-1 : Int32)) 51 ((F 51) + (1 : Int32))) G) ?_
  intro r1 F1 G1 hK1
  dsimp only
  have g_2 : G1 4 = K := Eq.trans (hK1.2 4 rfl) g4
  have g_3 : G1 5 = V := Eq.trans (hK1.2 5 rfl) g5
  have q_4 : F1 42 = (F 42) := hK1.1 42 rfl
  have q_5 : F1 43 = (F 43) := hK1.1 43 rfl
  have q_6 : F1 44 = 0 := Eq.trans (hK1.1 44 rfl) h44
  unfold mb_body_38
  refine PP.bind (PP.and (ihK 5 0 0 F1 G1) (ih 5 0 0 F1 G1 g_2 g_3 (show F1 44 = 0 from q_6))) ?_
  rintro r7 F7 G7 ⟨hK7, (⟨rfl, u7a, u7b, u7⟩ | ⟨rfl, u7a, u7⟩)⟩
  · dsimp only
    have g_8 : G7 4 = K := Eq.trans (hK7.2 4 rfl) g_2
    have g_9 : G7 5 = V := Eq.trans (hK7.2 5 rfl) g_3
    have h_10 : r 5 (F 42) (F 43) = some (some (F7 42)) := by
      have q : r 5 (F1 42) (F1 43) = some (some (F7 42)) := u7
      simp only [q_4, q_5, i_as] at q; exact q
    have q_11 : F7 43 = (F 43) := by
      have q := (show F7 43 = (F1 43) from u7b)
      simp only [q_4, q_5, i_as] at q; exact q
    unfold mb_body_43
    unfold mb_body_55
    refine PP.ite (fun c_12 => ?_) (fun c_12 => ?_)
    · skip
      unfold mb_body_77
      unfold mb_body_85
      unfold mb_body_90
      unfold mb_body_98
      unfold mb_body_103
      refine PP.ret ?_
      refine Or.inl ⟨rfl, u7a, ?_, (rfl : (r 5 (F 42) (F 43)) = _).trans ?_⟩
      · show (F7 43) = F 43
        first | with_reducible rfl | (simp only [q_4, q_5, q_11, i_as, fup, Nat.reduceEqDiff, reduceIte, if_false]) | rfl
      · show _ = some (some (F7 42))
        first | with_reducible rfl | (simp only [h_10, q_4, q_5, q_11, i_as, fup, i_a0, i0m, i10, eq_self, rb_yes, rb_no, ryes, rno, if_true, if_false, f_tt (p := True), reduceIte, Nat.reduceEqDiff]) | rfl
    · skip
      unfold mb_body_60
      refine PP.bind (mw_settle (F7 64) x1 (fup F7 51 ((F7 51) - (1 : Int32))) G7) ?_
      intro r13 F13 G13 hK13
      dsimp only
      have g_14 : G13 4 = K := Eq.trans (hK13.2 4 rfl) g_8
      have g_15 : G13 5 = V := Eq.trans (hK13.2 5 rfl) g_9
      have q_16 : F13 42 = (F7 42) := hK13.1 42 rfl
      have q_17 : F13 43 = (F 43) := Eq.trans (hK13.1 43 rfl) (show (F7 43) = (F 43) by simp only [q_11, i_as])
      have q_18 : F13 44 = 0 := Eq.trans (hK13.1 44 rfl) u7a
      unfold mb_body_69
      unfold mb_body_74
      unfold mb_body_90
      unfold mb_body_98
      unfold mb_body_103
      refine PP.ret ?_
      refine Or.inl ⟨rfl, q_18, ?_, (rfl : (r 5 (F 42) (F 43)) = _).trans ?_⟩
      · show (F13 43) = F 43
        first | with_reducible rfl | (simp only [q_4, q_5, q_11, q_16, q_17, i_as, fup, Nat.reduceEqDiff, reduceIte, if_false]) | rfl
      · show _ = some (some (F13 42))
        first | with_reducible rfl | (simp only [h_10, q_4, q_5, q_11, q_16, q_17, i_as, fup, i_a0, i0m, i10, eq_self, rb_yes, rb_no, ryes, rno, if_true, if_false, f_tt (p := True), reduceIte, Nat.reduceEqDiff]) | rfl
  · dsimp only
    have g_19 : G7 4 = K := Eq.trans (hK7.2 4 rfl) g_2
    have g_20 : G7 5 = V := Eq.trans (hK7.2 5 rfl) g_3
    have h_21 : r 5 (F 42) (F 43) = some (none) := by
      have q : r 5 (F1 42) (F1 43) = some (none) := u7
      simp only [q_4, q_5, i_as] at q; exact q
    unfold mb_body_43
    unfold mb_body_55
    refine PP.ite (fun c_22 => ?_) (fun c_22 => ?_)
    · skip
      unfold mb_body_77
      unfold mb_body_85
      unfold mb_body_90
      unfold mb_body_98
      unfold mb_body_103
      refine PP.ret ?_
      refine Or.inr ⟨rfl, u7a, (rfl : (r 5 (F 42) (F 43)) = _).trans ?_⟩
      first | with_reducible rfl | (simp only [h_21, q_4, q_5, i_as, fup, i_a0, i0m, i10, eq_self, rb_yes, rb_no, ryes, rno, if_true, if_false, f_tt (p := True), reduceIte, Nat.reduceEqDiff]) | rfl
    · skip
      unfold mb_body_60
      refine PP.bind (mw_settle (F7 64) x1 (fup F7 51 ((F7 51) - (1 : Int32))) G7) ?_
      intro r23 F23 G23 hK23
      dsimp only
      have g_24 : G23 4 = K := Eq.trans (hK23.2 4 rfl) g_19
      have g_25 : G23 5 = V := Eq.trans (hK23.2 5 rfl) g_20
      have q_26 : F23 42 = (F7 42) := hK23.1 42 rfl
      have q_27 : F23 43 = (F7 43) := hK23.1 43 rfl
      have q_28 : 0 < (F23 44).toInt := by rw [show F23 44 = (F7 44) from hK23.1 44 rfl]; exact u7a
      unfold mb_body_69
      unfold mb_body_74
      unfold mb_body_90
      unfold mb_body_98
      unfold mb_body_103
      refine PP.ret ?_
      refine Or.inr ⟨rfl, q_28, (rfl : (r 5 (F 42) (F 43)) = _).trans ?_⟩
      first | with_reducible rfl | (simp only [h_21, q_4, q_5, q_26, q_27, i_as, fup, i_a0, i0m, i10, eq_self, rb_yes, rb_no, ryes, rno, if_true, if_false, f_tt (p := True), reduceIte, Nat.reduceEqDiff]) | rfl
theorem mrt_choice {fu : Nat} {K V : Nat → Int32} (rc : RC) (r : RR) (ihK : mKI2 rc) (ih : mRI2 K V rc r) (F : PF) (G : PG) (g4 : G 4 = K) (g5 : G 5 = V) (h44 : F 44 = 0) : PP (mh_choice fu rc F G) (fun r' F' _ => ROK (rchoice K V fu r (F 42) (F 43)) F r' F') := by
  unfold mh_choice
  unfold mb_choice_0
  refine PP.bind (mp_opens F G) ?_
  rintro r1 F1 G1 (⟨rfl, rfl, rfl, u1⟩ | ⟨rfl, u1, u1b⟩)
  · dsimp only
    have h_2 : ¬ (F 43) = 40 := by
      have q : ¬ (F 43) = 40 := u1
      first | exact q | (simp only [i_as] at q; exact q)
    unfold mb_choice_4
    refine PP.ite (fun c_3 => absurd c_3 (by decide)) (fun _ => ?_)
    unfold mb_choice_7
    refine PP.bind (PP.and (mw_condition (fup (fup F 43 ((F 43) + (1 : Int32))) 42 ((F 42) + (1 : Int32))) G) (mr_condition (fup (fup F 43 ((F 43) + (1 : Int32))) 42 ((F 42) + (1 : Int32))) G g4 g5 (show (fup (fup F 43 ((F 43) + (1 : Int32))) 42 ((F 42) + (1 : Int32))) 44 = 0 from h44))) ?_
    rintro r4 F4 G4 ⟨hK4, (⟨rfl, u4a, u4b, u4⟩ | ⟨rfl, u4a, u4⟩)⟩
    · dsimp only
      have g_5 : G4 4 = K := Eq.trans (hK4.2 4 rfl) g4
      have g_6 : G4 5 = V := Eq.trans (hK4.2 5 rfl) g5
      have h_7 : rcond K V fu ((F 42) + (1 : Int32)) ((F 43) + (1 : Int32)) = some (some (F4 42)) := u4
      have q_8 : F4 43 = ((F 43) + (1 : Int32)) := (show F4 43 = ((F 43) + (1 : Int32)) from u4b)
      unfold mb_choice_11
      refine PP.ite (fun c_9 => absurd c_9 (by decide)) (fun _ => ?_)
      unfold mb_choice_16
      refine PP.bind (mw_step (13 : Int32) (0 : Int32) (0 : Int32) F4 G4) ?_
      intro r10 F10 G10 hK10
      dsimp only
      have g_11 : G10 4 = K := Eq.trans (hK10.2 4 rfl) g_5
      have g_12 : G10 5 = V := Eq.trans (hK10.2 5 rfl) g_6
      have q_13 : F10 42 = (F4 42) := hK10.1 42 rfl
      have q_14 : F10 43 = ((F 43) + (1 : Int32)) := Eq.trans (hK10.1 43 rfl) (show (F4 43) = ((F 43) + (1 : Int32)) by simp only [q_8, i_as])
      have q_15 : F10 44 = 0 := Eq.trans (hK10.1 44 rfl) u4a
      unfold mb_choice_24
      refine PP.bind (PP.and (ihK 5 0 0 F10 G10) (ih 5 0 0 F10 G10 g_11 g_12 (show F10 44 = 0 from q_15))) ?_
      rintro r16 F16 G16 ⟨hK16, (⟨rfl, u16a, u16b, u16⟩ | ⟨rfl, u16a, u16⟩)⟩
      · dsimp only
        have g_17 : G16 4 = K := Eq.trans (hK16.2 4 rfl) g_11
        have g_18 : G16 5 = V := Eq.trans (hK16.2 5 rfl) g_12
        have h_19 : r 5 (F4 42) ((F 43) + (1 : Int32)) = some (some (F16 42)) := by
          have q : r 5 (F10 42) (F10 43) = some (some (F16 42)) := u16
          simp only [q_13, q_14, i_as] at q; exact q
        have q_20 : F16 43 = ((F 43) + (1 : Int32)) := by
          have q := (show F16 43 = (F10 43) from u16b)
          simp only [q_13, q_14, i_as] at q; exact q
        unfold mb_choice_29
        refine PP.ite (fun c_21 => absurd c_21 (by decide)) (fun _ => ?_)
        unfold mb_choice_34
        refine PP.ite (fun c_22 => ?_) (fun c_22 => ?_)
        · skip
          unfold mb_choice_41
          refine PP.bind (mp_isWord (5 : Int32) F16 G16) ?_
          rintro _ _ _ ⟨rfl, rfl, (⟨rfl, u23⟩ | ⟨rfl, u23⟩)⟩
          · dsimp only
            have h_24 : wdn K V (F16 42) (5 : Int32) = true := by
              rw [← g_17, ← g_18]
              have q := u23
              first | exact q | (simp only [q_20, i_as] at q; exact q)
            unfold mb_choice_46
            refine PP.ite (fun c_25 => absurd c_25 (by decide)) (fun _ => ?_)
            unfold mb_choice_49
            unfold mb_choice_59
            refine PP.bind (mw_step (12 : Int32) (0 : Int32) (0 : Int32) (fup F16 42 ((F16 42) + (1 : Int32))) G16) ?_
            intro r26 F26 G26 hK26
            dsimp only
            have g_27 : G26 4 = K := Eq.trans (hK26.2 4 rfl) g_17
            have g_28 : G26 5 = V := Eq.trans (hK26.2 5 rfl) g_18
            have q_29 : F26 42 = ((F16 42) + (1 : Int32)) := hK26.1 42 rfl
            have q_30 : F26 43 = ((F 43) + (1 : Int32)) := Eq.trans (hK26.1 43 rfl) (show (F16 43) = ((F 43) + (1 : Int32)) by simp only [q_20, i_as])
            have q_31 : F26 44 = 0 := Eq.trans (hK26.1 44 rfl) u16a
            unfold mb_choice_67
            refine PP.ix (fun _ => ?_)
            unfold mb_choice_78
            refine PP.bind (PP.and (ihK 5 0 0 F26 (gup G26 57 r10.toNatClampNeg (F26 60))) (ih 5 0 0 F26 (gup G26 57 r10.toNatClampNeg (F26 60)) g_27 g_28 (show F26 44 = 0 from q_31))) ?_
            rintro r32 F32 G32 ⟨hK32, (⟨rfl, u32a, u32b, u32⟩ | ⟨rfl, u32a, u32⟩)⟩
            · dsimp only
              have g_33 : G32 4 = K := Eq.trans (hK32.2 4 rfl) g_27
              have g_34 : G32 5 = V := Eq.trans (hK32.2 5 rfl) g_28
              have h_35 : r 5 ((F16 42) + (1 : Int32)) ((F 43) + (1 : Int32)) = some (some (F32 42)) := by
                have q : r 5 (F26 42) (F26 43) = some (some (F32 42)) := u32
                simp only [q_29, q_30, i_as] at q; exact q
              have q_36 : F32 43 = ((F 43) + (1 : Int32)) := by
                have q := (show F32 43 = (F26 43) from u32b)
                simp only [q_29, q_30, i_as] at q; exact q
              unfold mb_choice_82
              refine PP.ite (fun c_37 => absurd c_37 (by decide)) (fun _ => ?_)
              unfold mb_choice_87
              refine PP.ix (fun _ => ?_)
              unfold mb_choice_97
              unfold mb_choice_110
              unfold mb_choice_120
              refine PP.ite (fun c_38 => ?_) (fun c_38 => ?_)
              · skip
                unfold mb_choice_127
                unfold mb_choice_132
                refine PP.ret ?_
                refine Or.inl ⟨rfl, u32a, ?_, (rfl : (rchoice K V fu r (F 42) (F 43)) = _).trans ?_⟩
                · show ((F32 43) - (1 : Int32)) = F 43
                  first | with_reducible rfl | (simp only [q_8, q_13, q_14, q_20, q_29, q_30, q_36, i_as, fup, Nat.reduceEqDiff, reduceIte, if_false]) | rfl
                · show _ = some (some (F32 42))
                  first | with_reducible rfl | (simp only [rchoice, h_2, h_7, h_19, h_24, h_35, q_8, q_13, q_14, q_20, q_29, q_30, q_36, i_as, fup, i_a0, i0m, i10, eq_self, rb_yes, rb_no, ryes, rno, if_true, if_false, f_tt (p := True), reduceIte, Nat.reduceEqDiff]) | rfl
              · skip
                exact absurd u32a (show ¬ ((F32 44) = (0 : Int32)) from c_38)
            · dsimp only
              have g_39 : G32 4 = K := Eq.trans (hK32.2 4 rfl) g_27
              have g_40 : G32 5 = V := Eq.trans (hK32.2 5 rfl) g_28
              have h_41 : r 5 ((F16 42) + (1 : Int32)) ((F 43) + (1 : Int32)) = some (none) := by
                have q : r 5 (F26 42) (F26 43) = some (none) := u32
                simp only [q_29, q_30, i_as] at q; exact q
              unfold mb_choice_82
              refine PP.ite (fun _ => ?_) (fun c_42 => absurd (by decide) c_42)
              unfold mb_choice_85
              refine PP.ret ?_
              refine Or.inr ⟨rfl, u32a, (rfl : (rchoice K V fu r (F 42) (F 43)) = _).trans ?_⟩
              first | with_reducible rfl | (simp only [rchoice, h_2, h_7, h_19, h_24, h_41, q_8, q_13, q_14, q_20, q_29, q_30, i_as, fup, i_a0, i0m, i10, eq_self, rb_yes, rb_no, ryes, rno, if_true, if_false, f_tt (p := True), reduceIte, Nat.reduceEqDiff]) | rfl
          · dsimp only
            have h_43 : wdn K V (F16 42) (5 : Int32) = false := by
              rw [← g_17, ← g_18]
              have q := u23
              first | exact q | (simp only [q_20, i_as] at q; exact q)
            unfold mb_choice_46
            refine PP.ite (fun _ => ?_) (fun c_44 => absurd (by decide) c_44)
            unfold mb_choice_100
            refine PP.ix (fun _ => ?_)
            unfold mb_choice_110
            unfold mb_choice_120
            refine PP.ite (fun c_45 => ?_) (fun c_45 => ?_)
            · skip
              unfold mb_choice_127
              unfold mb_choice_132
              refine PP.ret ?_
              refine Or.inl ⟨rfl, u16a, ?_, (rfl : (rchoice K V fu r (F 42) (F 43)) = _).trans ?_⟩
              · show ((F16 43) - (1 : Int32)) = F 43
                first | with_reducible rfl | (simp only [q_8, q_13, q_14, q_20, i_as, fup, Nat.reduceEqDiff, reduceIte, if_false]) | rfl
              · show _ = some (some (F16 42))
                first | with_reducible rfl | (simp only [rchoice, h_2, h_7, h_19, h_43, q_8, q_13, q_14, q_20, i_as, fup, i_a0, i0m, i10, eq_self, rb_yes, rb_no, ryes, rno, if_true, if_false, f_tt (p := True), reduceIte, Nat.reduceEqDiff]) | rfl
            · skip
              exact absurd u16a (show ¬ ((F16 44) = (0 : Int32)) from c_45)
        · skip
          exact absurd u16a (show ¬ ((F16 44) = (0 : Int32)) from c_22)
      · dsimp only
        have g_46 : G16 4 = K := Eq.trans (hK16.2 4 rfl) g_11
        have g_47 : G16 5 = V := Eq.trans (hK16.2 5 rfl) g_12
        have h_48 : r 5 (F4 42) ((F 43) + (1 : Int32)) = some (none) := by
          have q : r 5 (F10 42) (F10 43) = some (none) := u16
          simp only [q_13, q_14, i_as] at q; exact q
        unfold mb_choice_29
        refine PP.ite (fun _ => ?_) (fun c_49 => absurd (by decide) c_49)
        unfold mb_choice_32
        refine PP.ret ?_
        refine Or.inr ⟨rfl, u16a, (rfl : (rchoice K V fu r (F 42) (F 43)) = _).trans ?_⟩
        first | with_reducible rfl | (simp only [rchoice, h_2, h_7, h_48, q_8, q_13, q_14, i_as, fup, i_a0, i0m, i10, eq_self, rb_yes, rb_no, ryes, rno, if_true, if_false, f_tt (p := True), reduceIte, Nat.reduceEqDiff]) | rfl
    · dsimp only
      have g_50 : G4 4 = K := Eq.trans (hK4.2 4 rfl) g4
      have g_51 : G4 5 = V := Eq.trans (hK4.2 5 rfl) g5
      have h_52 : rcond K V fu ((F 42) + (1 : Int32)) ((F 43) + (1 : Int32)) = some (none) := u4
      unfold mb_choice_11
      refine PP.ite (fun _ => ?_) (fun c_53 => absurd (by decide) c_53)
      unfold mb_choice_14
      refine PP.ret ?_
      refine Or.inr ⟨rfl, u4a, (rfl : (rchoice K V fu r (F 42) (F 43)) = _).trans ?_⟩
      first | with_reducible rfl | (simp only [rchoice, h_2, h_52, i_as, fup, i_a0, i0m, i10, eq_self, rb_yes, rb_no, ryes, rno, if_true, if_false, f_tt (p := True), reduceIte, Nat.reduceEqDiff]) | rfl
  · dsimp only
    have g_54 : G1 4 = K := Eq.trans (u1.2.2.2 4 rfl) g4
    have g_55 : G1 5 = V := Eq.trans (u1.2.2.2 5 rfl) g5
    have q_56 : F1 42 = (F 42) := u1.2.2.1 42 rfl
    have q_57 : F1 43 = (F 43) := u1.2.2.1 43 rfl
    have h_58 : ((F 43) = 40) = True := by
      have q : (F 43) = 40 := u1b
      first | exact eq_true q | (simp only [i_as] at q; exact eq_true q)
    unfold mb_choice_4
    refine PP.ite (fun _ => ?_) (fun c_59 => absurd (by decide) c_59)
    unfold mb_choice_14
    refine PP.ret ?_
    refine Or.inr ⟨rfl, u1.1, (rfl : (rchoice K V fu r (F 42) (F 43)) = _).trans ?_⟩
    first | with_reducible rfl | (simp only [rchoice, h_58, q_56, q_57, i_as, fup, i_a0, i0m, i10, eq_self, rb_yes, rb_no, ryes, rno, if_true, if_false, f_tt (p := True), reduceIte, Nat.reduceEqDiff]) | rfl
theorem mrj_counted_226 {fu : Nat} {K V : Nat → Int32} (rc : RC) (r : RR) (ihK : mKI2 rc) (ih : mRI2 K V rc r) {F0 : PF} {R0 : OR} (x1 : Int32) (x6 : Int32) (F : PF) (G : PG) (g4 : G 4 = K) (g5 : G 5 = V) (hA : (F 44 = 0 ∧ F 43 = ((F0 43) + (1 : Int32)) ∧ R0 = ryes (F 42))) : PP (mb_counted_226 fu rc x1 x6 F G) (fun r' F' _ => ROK R0 F0 r' F') := by
  rcases hA with ⟨h44, h43, hR⟩
  · skip
    unfold mb_counted_226
    refine PP.bind (mw_settle x6 (F 60) F G) ?_
    intro r1 F1 G1 hK1
    dsimp only
    have g_2 : G1 4 = K := Eq.trans (hK1.2 4 rfl) g4
    have g_3 : G1 5 = V := Eq.trans (hK1.2 5 rfl) g5
    have q_4 : F1 42 = (F 42) := hK1.1 42 rfl
    have q_5 : F1 43 = ((F0 43) + (1 : Int32)) := Eq.trans (hK1.1 43 rfl) (show (F 43) = ((F0 43) + (1 : Int32)) by simp only [h43, i_as])
    have q_6 : F1 44 = 0 := Eq.trans (hK1.1 44 rfl) h44
    unfold mb_counted_236
    refine PP.bind (mw_ends x1 F1 G1) ?_
    intro r7 F7 G7 hK7
    dsimp only
    have g_8 : G7 4 = K := Eq.trans (hK7.2 4 rfl) g_2
    have g_9 : G7 5 = V := Eq.trans (hK7.2 5 rfl) g_3
    have q_10 : F7 42 = (F 42) := Eq.trans (hK7.1 42 rfl) (show (F1 42) = (F 42) by simp only [q_4, q_5, i_as])
    have q_11 : F7 43 = ((F0 43) + (1 : Int32)) := Eq.trans (hK7.1 43 rfl) (show (F1 43) = ((F0 43) + (1 : Int32)) by simp only [q_4, q_5, i_as])
    have q_12 : F7 44 = 0 := Eq.trans (hK7.1 44 rfl) q_6
    unfold mb_counted_241
    unfold mb_counted_251
    refine PP.ret ?_
    refine Or.inl ⟨rfl, q_12, ?_, hR.trans ?_⟩
    · show ((F7 43) - (1 : Int32)) = F0 43
      first | with_reducible rfl | (simp only [h43, q_4, q_5, q_10, q_11, i_as, fup, Nat.reduceEqDiff, reduceIte, if_false]) | rfl
    · show _ = some (some (F7 42))
      first | with_reducible rfl | (simp only [rcounted, rcnt2, rcnt3, rcnt4, h43, q_4, q_5, q_10, q_11, i_as, fup, i_a0, i0m, i10, eq_self, rb_yes, rb_no, ryes, rno, if_true, if_false, f_tt (p := True), reduceIte, Nat.reduceEqDiff]) | rfl
theorem mrj_counted_153 {fu : Nat} {K V : Nat → Int32} (rc : RC) (r : RR) (ihK : mKI2 rc) (ih : mRI2 K V rc r) {F0 : PF} {R0 : OR} (x1 : Int32) (x2 : Int32) (x3 : Int32) (x4 : Int32) (x5 : Int32) (F : PF) (G : PG) (g4 : G 4 = K) (g5 : G 5 = V) (hA : (F 44 = 0 ∧ F 43 = (((F0 43) + (1 : Int32)) + (1 : Int32)) ∧ R0 = rcnt4 K V r (F 42) (F 43))) : PP (mb_counted_153 fu rc x1 x2 x3 x4 x5 F G) (fun r' F' _ => ROK R0 F0 r' F') := by
  rcases hA with ⟨h44, h43, hR⟩
  · skip
    unfold mb_counted_153
    refine PP.bind (mp_closeSign (23 : Int32) F G) ?_
    rintro r1 F1 G1 (⟨rfl, rfl, rfl, u1⟩ | ⟨rfl, u1, u1b⟩)
    · dsimp only
      have h_2 : sgn K V (F 42) (23 : Int32) = true := by
        rw [← g4, ← g5]
        have q := u1.1
        first | exact q | (simp only [h43, i_as] at q; exact q)
      unfold mb_counted_159
      refine PP.ite (fun c_3 => absurd c_3 (by decide)) (fun _ => ?_)
      unfold mb_counted_164
      refine PP.bind (mw_step (12 : Int32) x2 (0 : Int32) (fup (fup F 42 ((F 42) + (1 : Int32))) 43 ((F 43) - (1 : Int32))) G) ?_
      intro r4 F4 G4 hK4
      dsimp only
      have g_5 : G4 4 = K := Eq.trans (hK4.2 4 rfl) g4
      have g_6 : G4 5 = V := Eq.trans (hK4.2 5 rfl) g5
      have q_7 : F4 42 = ((F 42) + (1 : Int32)) := hK4.1 42 rfl
      have q_8 : F4 43 = ((F0 43) + (1 : Int32)) := Eq.trans (hK4.1 43 rfl) (show ((F 43) - (1 : Int32)) = ((F0 43) + (1 : Int32)) by simp only [h43, i_as])
      have q_9 : F4 44 = 0 := Eq.trans (hK4.1 44 rfl) h44
      unfold mb_counted_172
      refine PP.ix (fun _ => ?_)
      unfold mb_counted_184
      refine PP.bind (PP.and (ihK 1 x5 0 F4 (gup G4 57 x4.toNatClampNeg (F4 60))) (ih 1 x5 0 F4 (gup G4 57 x4.toNatClampNeg (F4 60)) g_5 g_6 (show F4 44 = 0 from q_9))) ?_
      rintro r10 F10 G10 ⟨hK10, (⟨rfl, u10a, u10b, u10⟩ | ⟨rfl, u10a, u10⟩)⟩
      · dsimp only
        have g_11 : G10 4 = K := Eq.trans (hK10.2 4 rfl) g_5
        have g_12 : G10 5 = V := Eq.trans (hK10.2 5 rfl) g_6
        have h_13 : r 1 ((F 42) + (1 : Int32)) ((F0 43) + (1 : Int32)) = some (some (F10 42)) := by
          have q : r 1 (F4 42) (F4 43) = some (some (F10 42)) := u10
          simp only [q_7, q_8, i_as] at q; exact q
        have q_14 : F10 43 = ((F0 43) + (1 : Int32)) := by
          have q := (show F10 43 = (F4 43) from u10b)
          simp only [q_7, q_8, i_as] at q; exact q
        unfold mb_counted_190
        refine PP.ite (fun c_15 => absurd c_15 (by decide)) (fun _ => ?_)
        unfold mb_counted_195
        refine PP.bind (mw_step (12 : Int32) x5 (0 : Int32) F10 G10) ?_
        intro r16 F16 G16 hK16
        dsimp only
        have g_17 : G16 4 = K := Eq.trans (hK16.2 4 rfl) g_11
        have g_18 : G16 5 = V := Eq.trans (hK16.2 5 rfl) g_12
        have q_19 : F16 42 = (F10 42) := hK16.1 42 rfl
        have q_20 : F16 43 = ((F0 43) + (1 : Int32)) := Eq.trans (hK16.1 43 rfl) (show (F10 43) = ((F0 43) + (1 : Int32)) by simp only [q_14, i_as])
        have q_21 : F16 44 = 0 := Eq.trans (hK16.1 44 rfl) u10a
        unfold mb_counted_210
        refine PP.ite (fun c_22 => ?_) (fun c_22 => ?_)
        · skip
          exact mrj_counted_226 rc r ihK ih (F0 := F0) (R0 := R0) x1 (F10 65) F16 G16 g_17 g_18 ⟨q_21, (by first | with_reducible rfl | (simp only [h43, q_7, q_8, q_14, q_19, q_20, i_as, fup, Nat.reduceEqDiff, reduceIte, if_false]) | rfl), (hR.trans (by first | with_reducible rfl | (simp only [rcounted, rcnt2, rcnt3, rcnt4, h_2, h_13, h43, q_7, q_8, q_14, q_19, q_20, i_as, fup, i_a0, i0m, i10, eq_self, rb_yes, rb_no, ryes, rno, if_true, if_false, f_tt (p := True), reduceIte, Nat.reduceEqDiff]) | rfl))⟩
        · skip
          unfold mb_counted_216
          refine PP.ix (fun _ => ?_)
          exact mrj_counted_226 rc r ihK ih (F0 := F0) (R0 := R0) x1 (F10 65) F16 (gup G16 57 x3.toNatClampNeg (F16 60)) g_17 g_18 ⟨q_21, (by first | with_reducible rfl | (simp only [h43, q_7, q_8, q_14, q_19, q_20, i_as, fup, Nat.reduceEqDiff, reduceIte, if_false]) | rfl), (hR.trans (by first | with_reducible rfl | (simp only [rcounted, rcnt2, rcnt3, rcnt4, h_2, h_13, h43, q_7, q_8, q_14, q_19, q_20, i_as, fup, i_a0, i0m, i10, eq_self, rb_yes, rb_no, ryes, rno, if_true, if_false, f_tt (p := True), reduceIte, Nat.reduceEqDiff]) | rfl))⟩
      · dsimp only
        have g_23 : G10 4 = K := Eq.trans (hK10.2 4 rfl) g_5
        have g_24 : G10 5 = V := Eq.trans (hK10.2 5 rfl) g_6
        have h_25 : r 1 ((F 42) + (1 : Int32)) ((F0 43) + (1 : Int32)) = some (none) := by
          have q : r 1 (F4 42) (F4 43) = some (none) := u10
          simp only [q_7, q_8, i_as] at q; exact q
        unfold mb_counted_190
        refine PP.ite (fun _ => ?_) (fun c_26 => absurd (by decide) c_26)
        unfold mb_counted_193
        refine PP.ret ?_
        refine Or.inr ⟨rfl, u10a, hR.trans ?_⟩
        first | with_reducible rfl | (simp only [rcounted, rcnt2, rcnt3, rcnt4, h_2, h_25, h43, q_7, q_8, i_as, fup, i_a0, i0m, i10, eq_self, rb_yes, rb_no, ryes, rno, if_true, if_false, f_tt (p := True), reduceIte, Nat.reduceEqDiff]) | rfl
    · dsimp only
      have g_27 : G1 4 = K := Eq.trans (u1.2.2.2 4 rfl) g4
      have g_28 : G1 5 = V := Eq.trans (u1.2.2.2 5 rfl) g5
      have q_29 : F1 42 = (F 42) := u1.2.2.1 42 rfl
      have q_30 : F1 43 = (((F0 43) + (1 : Int32)) + (1 : Int32)) := Eq.trans (u1.2.2.1 43 rfl) (show (F 43) = (((F0 43) + (1 : Int32)) + (1 : Int32)) by simp only [h43, i_as])
      rcases u1b with q | q
      · exact absurd q (show ¬ 0 < (F 44).toInt by rw [h44]; decide)
      · skip
        have h_31 : sgn K V (F 42) (23 : Int32) = false := by
          rw [← g4, ← g5]
          have q := q
          first | exact q | (simp only [h43, i_as] at q; exact q)
        unfold mb_counted_159
        refine PP.ite (fun _ => ?_) (fun c_32 => absurd (by decide) c_32)
        unfold mb_counted_162
        refine PP.ret ?_
        refine Or.inr ⟨rfl, u1.1, hR.trans ?_⟩
        first | with_reducible rfl | (simp only [rcounted, rcnt2, rcnt3, rcnt4, h_31, h43, q_29, q_30, i_as, fup, i_a0, i0m, i10, eq_self, rb_yes, rb_no, ryes, rno, if_true, if_false, f_tt (p := True), reduceIte, Nat.reduceEqDiff]) | rfl
theorem mrj_counted_108 {fu : Nat} {K V : Nat → Int32} (rc : RC) (r : RR) (ihK : mKI2 rc) (ih : mRI2 K V rc r) {F0 : PF} {R0 : OR} (x1 : Int32) (x2 : Int32) (x3 : Int32) (F : PF) (G : PG) (g4 : G 4 = K) (g5 : G 5 = V) (hA : (F 44 = 0 ∧ F 43 = (((F0 43) + (1 : Int32)) + (1 : Int32)) ∧ R0 = rcnt3 K V fu r (F 42) (F 43))) : PP (mb_counted_108 fu rc x1 x2 x3 F G) (fun r' F' _ => ROK R0 F0 r' F') := by
  rcases hA with ⟨h44, h43, hR⟩
  · skip
    unfold mb_counted_108
    refine PP.bind (mp_sign (29 : Int32) F G) ?_
    rintro r1 F1 G1 (⟨rfl, rfl, rfl, u1⟩ | ⟨rfl, u1, u1b⟩)
    · dsimp only
      have h_2 : sgn K V (F 42) (29 : Int32) = true := by
        rw [← g4, ← g5]
        have q := u1.1
        first | exact q | (simp only [h43, i_as] at q; exact q)
      unfold mb_counted_114
      refine PP.ite (fun c_3 => absurd c_3 (by decide)) (fun _ => ?_)
      unfold mb_counted_119
      refine PP.bind (mw_step (12 : Int32) (0 : Int32) (0 : Int32) (fup F 42 ((F 42) + (1 : Int32))) G) ?_
      intro r4 F4 G4 hK4
      dsimp only
      have g_5 : G4 4 = K := Eq.trans (hK4.2 4 rfl) g4
      have g_6 : G4 5 = V := Eq.trans (hK4.2 5 rfl) g5
      have q_7 : F4 42 = ((F 42) + (1 : Int32)) := hK4.1 42 rfl
      have q_8 : F4 43 = (((F0 43) + (1 : Int32)) + (1 : Int32)) := Eq.trans (hK4.1 43 rfl) (show (F 43) = (((F0 43) + (1 : Int32)) + (1 : Int32)) by simp only [h43, i_as])
      have q_9 : F4 44 = 0 := Eq.trans (hK4.1 44 rfl) h44
      unfold mb_counted_127
      refine PP.bind (mp_isSign (23 : Int32) F4 G4) ?_
      rintro _ _ _ ⟨rfl, rfl, (⟨rfl, u10⟩ | ⟨rfl, u10⟩)⟩
      · dsimp only
        have h_11 : sgn K V ((F 42) + (1 : Int32)) (23 : Int32) = true := by
          rw [← g_5, ← g_6]
          have q := u10
          first | exact q | (simp only [q_7, q_8, i_as] at q; exact q)
        unfold mb_counted_141
        refine PP.ite (fun c_12 => absurd c_12 (by decide)) (fun _ => ?_)
        exact mrj_counted_153 rc r ihK ih (F0 := F0) (R0 := R0) x1 x2 x3 r4 (F4 60) F4 G4 g_5 g_6 ⟨q_9, (by first | with_reducible rfl | (simp only [h43, q_7, q_8, i_as, fup, Nat.reduceEqDiff, reduceIte, if_false]) | rfl), (hR.trans (by first | with_reducible rfl | (simp only [rcounted, rcnt2, rcnt3, rcnt4, h_2, h_11, h43, q_7, q_8, i_as, fup, i_a0, i0m, i10, eq_self, rb_yes, rb_no, ryes, rno, if_true, if_false, f_tt (p := True), reduceIte, Nat.reduceEqDiff]) | rfl))⟩
      · dsimp only
        have h_13 : sgn K V ((F 42) + (1 : Int32)) (23 : Int32) = false := by
          rw [← g_5, ← g_6]
          have q := u10
          first | exact q | (simp only [q_7, q_8, i_as] at q; exact q)
        unfold mb_counted_141
        refine PP.ite (fun _ => ?_) (fun c_14 => absurd (by decide) c_14)
        unfold mb_counted_144
        refine PP.bind (PP.and (mw_simple F4 G4) (mr_simple F4 G4 g_5 g_6 (show F4 44 = 0 from q_9))) ?_
        rintro r15 F15 G15 ⟨hK15, (⟨rfl, u15a, u15b, u15⟩ | ⟨rfl, u15a, u15⟩)⟩
        · dsimp only
          have g_16 : G15 4 = K := Eq.trans (hK15.2 4 rfl) g_5
          have g_17 : G15 5 = V := Eq.trans (hK15.2 5 rfl) g_6
          have h_18 : rsimple K V fu ((F 42) + (1 : Int32)) (((F0 43) + (1 : Int32)) + (1 : Int32)) = some (some (F15 42)) := by
            have q : rsimple K V fu (F4 42) (F4 43) = some (some (F15 42)) := u15
            simp only [q_7, q_8, i_as] at q; exact q
          have q_19 : F15 43 = (((F0 43) + (1 : Int32)) + (1 : Int32)) := by
            have q := (show F15 43 = (F4 43) from u15b)
            simp only [q_7, q_8, i_as] at q; exact q
          unfold mb_counted_148
          refine PP.ite (fun c_20 => absurd c_20 (by decide)) (fun _ => ?_)
          exact mrj_counted_153 rc r ihK ih (F0 := F0) (R0 := R0) x1 x2 x3 r4 (F4 60) F15 G15 g_16 g_17 ⟨u15a, (by first | with_reducible rfl | (simp only [h43, q_7, q_8, q_19, i_as, fup, Nat.reduceEqDiff, reduceIte, if_false]) | rfl), (hR.trans (by first | with_reducible rfl | (simp only [rcounted, rcnt2, rcnt3, rcnt4, h_2, h_13, h_18, h43, q_7, q_8, q_19, i_as, fup, i_a0, i0m, i10, eq_self, rb_yes, rb_no, ryes, rno, if_true, if_false, f_tt (p := True), reduceIte, Nat.reduceEqDiff]) | rfl))⟩
        · dsimp only
          have g_21 : G15 4 = K := Eq.trans (hK15.2 4 rfl) g_5
          have g_22 : G15 5 = V := Eq.trans (hK15.2 5 rfl) g_6
          have h_23 : rsimple K V fu ((F 42) + (1 : Int32)) (((F0 43) + (1 : Int32)) + (1 : Int32)) = some (none) := by
            have q : rsimple K V fu (F4 42) (F4 43) = some (none) := u15
            simp only [q_7, q_8, i_as] at q; exact q
          unfold mb_counted_148
          refine PP.ite (fun _ => ?_) (fun c_24 => absurd (by decide) c_24)
          unfold mb_counted_151
          refine PP.ret ?_
          refine Or.inr ⟨rfl, u15a, hR.trans ?_⟩
          first | with_reducible rfl | (simp only [rcounted, rcnt2, rcnt3, rcnt4, h_2, h_13, h_23, h43, q_7, q_8, i_as, fup, i_a0, i0m, i10, eq_self, rb_yes, rb_no, ryes, rno, if_true, if_false, f_tt (p := True), reduceIte, Nat.reduceEqDiff]) | rfl
    · dsimp only
      have g_25 : G1 4 = K := Eq.trans (u1.2.2.2 4 rfl) g4
      have g_26 : G1 5 = V := Eq.trans (u1.2.2.2 5 rfl) g5
      have q_27 : F1 42 = (F 42) := u1.2.2.1 42 rfl
      have q_28 : F1 43 = (((F0 43) + (1 : Int32)) + (1 : Int32)) := Eq.trans (u1.2.2.1 43 rfl) (show (F 43) = (((F0 43) + (1 : Int32)) + (1 : Int32)) by simp only [h43, i_as])
      rcases u1b with q | q
      · exact absurd q (show ¬ 0 < (F 44).toInt by rw [h44]; decide)
      · skip
        have h_29 : sgn K V (F 42) (29 : Int32) = false := by
          rw [← g4, ← g5]
          have q := q
          first | exact q | (simp only [h43, i_as] at q; exact q)
        unfold mb_counted_114
        refine PP.ite (fun _ => ?_) (fun c_30 => absurd (by decide) c_30)
        unfold mb_counted_117
        refine PP.ret ?_
        refine Or.inr ⟨rfl, u1.1, hR.trans ?_⟩
        first | with_reducible rfl | (simp only [rcounted, rcnt2, rcnt3, rcnt4, h_29, h43, q_27, q_28, i_as, fup, i_a0, i0m, i10, eq_self, rb_yes, rb_no, ryes, rno, if_true, if_false, f_tt (p := True), reduceIte, Nat.reduceEqDiff]) | rfl
theorem mrj_counted_63 {fu : Nat} {K V : Nat → Int32} (rc : RC) (r : RR) (ihK : mKI2 rc) (ih : mRI2 K V rc r) {F0 : PF} {R0 : OR} (x1 : Int32) (F : PF) (G : PG) (g4 : G 4 = K) (g5 : G 5 = V) (hA : (F 44 = 0 ∧ F 43 = (((F0 43) + (1 : Int32)) + (1 : Int32)) ∧ R0 = rcnt2 K V fu r (F 42) (F 43))) : PP (mb_counted_63 fu rc x1 F G) (fun r' F' _ => ROK R0 F0 r' F') := by
  rcases hA with ⟨h44, h43, hR⟩
  · skip
    unfold mb_counted_63
    refine PP.bind (mp_sign (29 : Int32) F G) ?_
    rintro r1 F1 G1 (⟨rfl, rfl, rfl, u1⟩ | ⟨rfl, u1, u1b⟩)
    · dsimp only
      have h_2 : sgn K V (F 42) (29 : Int32) = true := by
        rw [← g4, ← g5]
        have q := u1.1
        first | exact q | (simp only [h43, i_as] at q; exact q)
      unfold mb_counted_69
      refine PP.ite (fun c_3 => absurd c_3 (by decide)) (fun _ => ?_)
      unfold mb_counted_74
      refine PP.bind (mp_isSign (29 : Int32) (fup F 42 ((F 42) + (1 : Int32))) G) ?_
      rintro _ _ _ ⟨rfl, rfl, (⟨rfl, u4⟩ | ⟨rfl, u4⟩)⟩
      · dsimp only
        have h_5 : sgn K V ((F 42) + (1 : Int32)) (29 : Int32) = true := by
          rw [← g4, ← g5]
          have q := u4
          first | exact q | (simp only [h43, i_as] at q; exact q) | (simp only [h43, i_as, fup, Nat.reduceEqDiff, reduceIte, if_false] at q; exact q)
        unfold mb_counted_87
        refine PP.ite (fun c_6 => absurd c_6 (by decide)) (fun _ => ?_)
        exact mrj_counted_108 rc r ihK ih (F0 := F0) (R0 := R0) x1 (F 60) (-1 : Int32) (fup F 42 ((F 42) + (1 : Int32))) G g4 g5 ⟨h44, (by first | with_reducible rfl | (simp only [h43, i_as, fup, Nat.reduceEqDiff, reduceIte, if_false]) | rfl), (hR.trans (by first | with_reducible rfl | (simp only [rcounted, rcnt2, rcnt3, rcnt4, h_2, h_5, h43, i_as, fup, i_a0, i0m, i10, eq_self, rb_yes, rb_no, ryes, rno, if_true, if_false, f_tt (p := True), reduceIte, Nat.reduceEqDiff]) | rfl))⟩
      · dsimp only
        have h_7 : sgn K V ((F 42) + (1 : Int32)) (29 : Int32) = false := by
          rw [← g4, ← g5]
          have q := u4
          first | exact q | (simp only [h43, i_as] at q; exact q) | (simp only [h43, i_as, fup, Nat.reduceEqDiff, reduceIte, if_false] at q; exact q)
        unfold mb_counted_87
        refine PP.ite (fun _ => ?_) (fun c_8 => absurd (by decide) c_8)
        unfold mb_counted_90
        refine PP.bind (PP.and (mw_expression (fup F 42 ((F 42) + (1 : Int32))) G) (mr_expression (fup F 42 ((F 42) + (1 : Int32))) G g4 g5 (show (fup F 42 ((F 42) + (1 : Int32))) 44 = 0 from h44))) ?_
        rintro r9 F9 G9 ⟨hK9, (⟨rfl, u9a, u9b, u9⟩ | ⟨rfl, u9a, u9⟩)⟩
        · dsimp only
          have g_10 : G9 4 = K := Eq.trans (hK9.2 4 rfl) g4
          have g_11 : G9 5 = V := Eq.trans (hK9.2 5 rfl) g5
          have h_12 : rS1 K V fu 300 4 ((F 42) + (1 : Int32)) (((F0 43) + (1 : Int32)) + (1 : Int32)) = some (some (F9 42)) := by
            have q : rS1 K V fu 300 4 ((F 42) + (1 : Int32)) (F 43) = some (some (F9 42)) := u9
            simp only [h43, i_as] at q; exact q
          have q_13 : F9 43 = (((F0 43) + (1 : Int32)) + (1 : Int32)) := by
            have q := (show F9 43 = (F 43) from u9b)
            simp only [h43, i_as] at q; exact q
          unfold mb_counted_94
          refine PP.ite (fun c_14 => absurd c_14 (by decide)) (fun _ => ?_)
          unfold mb_counted_99
          refine PP.bind (mw_step (13 : Int32) (0 : Int32) (0 : Int32) F9 G9) ?_
          intro r15 F15 G15 hK15
          dsimp only
          have g_16 : G15 4 = K := Eq.trans (hK15.2 4 rfl) g_10
          have g_17 : G15 5 = V := Eq.trans (hK15.2 5 rfl) g_11
          have q_18 : F15 42 = (F9 42) := hK15.1 42 rfl
          have q_19 : F15 43 = (((F0 43) + (1 : Int32)) + (1 : Int32)) := Eq.trans (hK15.1 43 rfl) (show (F9 43) = (((F0 43) + (1 : Int32)) + (1 : Int32)) by simp only [q_13, i_as])
          have q_20 : F15 44 = 0 := Eq.trans (hK15.1 44 rfl) u9a
          unfold mb_counted_107
          exact mrj_counted_108 rc r ihK ih (F0 := F0) (R0 := R0) x1 (F 60) r15 F15 G15 g_16 g_17 ⟨q_20, (by first | with_reducible rfl | (simp only [h43, q_13, q_18, q_19, i_as, fup, Nat.reduceEqDiff, reduceIte, if_false]) | rfl), (hR.trans (by first | with_reducible rfl | (simp only [rcounted, rcnt2, rcnt3, rcnt4, h_2, h_7, h_12, h43, q_13, q_18, q_19, i_as, fup, i_a0, i0m, i10, eq_self, rb_yes, rb_no, ryes, rno, if_true, if_false, f_tt (p := True), reduceIte, Nat.reduceEqDiff]) | rfl))⟩
        · dsimp only
          have g_21 : G9 4 = K := Eq.trans (hK9.2 4 rfl) g4
          have g_22 : G9 5 = V := Eq.trans (hK9.2 5 rfl) g5
          have h_23 : rS1 K V fu 300 4 ((F 42) + (1 : Int32)) (((F0 43) + (1 : Int32)) + (1 : Int32)) = some (none) := by
            have q : rS1 K V fu 300 4 ((F 42) + (1 : Int32)) (F 43) = some (none) := u9
            simp only [h43, i_as] at q; exact q
          unfold mb_counted_94
          refine PP.ite (fun _ => ?_) (fun c_24 => absurd (by decide) c_24)
          unfold mb_counted_97
          refine PP.ret ?_
          refine Or.inr ⟨rfl, u9a, hR.trans ?_⟩
          first | with_reducible rfl | (simp only [rcounted, rcnt2, rcnt3, rcnt4, h_2, h_7, h_23, h43, i_as, fup, i_a0, i0m, i10, eq_self, rb_yes, rb_no, ryes, rno, if_true, if_false, f_tt (p := True), reduceIte, Nat.reduceEqDiff]) | rfl
    · dsimp only
      have g_25 : G1 4 = K := Eq.trans (u1.2.2.2 4 rfl) g4
      have g_26 : G1 5 = V := Eq.trans (u1.2.2.2 5 rfl) g5
      have q_27 : F1 42 = (F 42) := u1.2.2.1 42 rfl
      have q_28 : F1 43 = (((F0 43) + (1 : Int32)) + (1 : Int32)) := Eq.trans (u1.2.2.1 43 rfl) (show (F 43) = (((F0 43) + (1 : Int32)) + (1 : Int32)) by simp only [h43, i_as])
      rcases u1b with q | q
      · exact absurd q (show ¬ 0 < (F 44).toInt by rw [h44]; decide)
      · skip
        have h_29 : sgn K V (F 42) (29 : Int32) = false := by
          rw [← g4, ← g5]
          have q := q
          first | exact q | (simp only [h43, i_as] at q; exact q)
        unfold mb_counted_69
        refine PP.ite (fun _ => ?_) (fun c_30 => absurd (by decide) c_30)
        unfold mb_counted_72
        refine PP.ret ?_
        refine Or.inr ⟨rfl, u1.1, hR.trans ?_⟩
        first | with_reducible rfl | (simp only [rcounted, rcnt2, rcnt3, rcnt4, h_29, h43, q_27, q_28, i_as, fup, i_a0, i0m, i10, eq_self, rb_yes, rb_no, ryes, rno, if_true, if_false, f_tt (p := True), reduceIte, Nat.reduceEqDiff]) | rfl
theorem mrt_counted {fu : Nat} {K V : Nat → Int32} (rc : RC) (r : RR) (ihK : mKI2 rc) (ih : mRI2 K V rc r) (F : PF) (G : PG) (g4 : G 4 = K) (g5 : G 5 = V) (h44 : F 44 = 0) : PP (mh_counted fu rc F G) (fun r' F' _ => ROK (rcounted K V fu r (F 42) (F 43)) F r' F') := by
  unfold mh_counted
  unfold mb_counted_0
  refine PP.bind (mp_opens F G) ?_
  rintro r1 F1 G1 (⟨rfl, rfl, rfl, u1⟩ | ⟨rfl, u1, u1b⟩)
  · dsimp only
    have h_2 : ¬ (F 43) = 40 := by
      have q : ¬ (F 43) = 40 := u1
      first | exact q | (simp only [i_as] at q; exact q)
    unfold mb_counted_4
    refine PP.ite (fun c_3 => absurd c_3 (by decide)) (fun _ => ?_)
    unfold mb_counted_7
    refine PP.bind (mp_openSign (22 : Int32) (fup (fup F 43 ((F 43) + (1 : Int32))) 42 ((F 42) + (1 : Int32))) G) ?_
    rintro r4 F4 G4 (⟨rfl, rfl, rfl, u4⟩ | ⟨rfl, u4, u4b⟩)
    · dsimp only
      have h_5 : sgn K V ((F 42) + (1 : Int32)) (22 : Int32) = true := by
        rw [← g4, ← g5]
        have q := u4.1
        first | exact q | (simp only [i_as] at q; exact q)
      have h_6 : ¬ ((F 43) + (1 : Int32)) = 40 := by
        have q : ¬ ((F 43) + (1 : Int32)) = 40 := u4.2.1
        first | exact q | (simp only [i_as] at q; exact q)
      unfold mb_counted_13
      refine PP.ite (fun c_7 => absurd c_7 (by decide)) (fun _ => ?_)
      unfold mb_counted_18
      refine PP.bind (mw_begins (fup (fup (fup (fup F 43 ((F 43) + (1 : Int32))) 42 ((F 42) + (1 : Int32))) 43 (((F 43) + (1 : Int32)) + (1 : Int32))) 42 (((F 42) + (1 : Int32)) + (1 : Int32))) G) ?_
      intro r8 F8 G8 hK8
      dsimp only
      have g_9 : G8 4 = K := Eq.trans (hK8.2 4 rfl) g4
      have g_10 : G8 5 = V := Eq.trans (hK8.2 5 rfl) g5
      have q_11 : F8 42 = (((F 42) + (1 : Int32)) + (1 : Int32)) := hK8.1 42 rfl
      have q_12 : F8 43 = (((F 43) + (1 : Int32)) + (1 : Int32)) := hK8.1 43 rfl
      have q_13 : F8 44 = 0 := Eq.trans (hK8.1 44 rfl) h44
      unfold mb_counted_27
      refine PP.bind (mp_isSign (29 : Int32) F8 G8) ?_
      rintro _ _ _ ⟨rfl, rfl, (⟨rfl, u14⟩ | ⟨rfl, u14⟩)⟩
      · dsimp only
        have h_15 : sgn K V (((F 42) + (1 : Int32)) + (1 : Int32)) (29 : Int32) = true := by
          rw [← g_9, ← g_10]
          have q := u14
          first | exact q | (simp only [q_11, q_12, i_as] at q; exact q)
        unfold mb_counted_33
        refine PP.ite (fun c_16 => absurd c_16 (by decide)) (fun _ => ?_)
        exact mrj_counted_63 rc r ihK ih (F0 := F) (R0 := (rcounted K V fu r (F 42) (F 43))) (F 15) F8 G8 g_9 g_10 ⟨q_13, (by first | with_reducible rfl | (simp only [q_11, q_12, i_as, fup, Nat.reduceEqDiff, reduceIte, if_false]) | rfl), ((rfl : (rcounted K V fu r (F 42) (F 43)) = _).trans (by first | with_reducible rfl | (simp only [rcounted, rcnt2, rcnt3, rcnt4, h_2, h_5, h_6, h_15, q_11, q_12, i_as, fup, i_a0, i0m, i10, eq_self, rb_yes, rb_no, ryes, rno, if_true, if_false, f_tt (p := True), reduceIte, Nat.reduceEqDiff]) | rfl))⟩
      · dsimp only
        have h_17 : sgn K V (((F 42) + (1 : Int32)) + (1 : Int32)) (29 : Int32) = false := by
          rw [← g_9, ← g_10]
          have q := u14
          first | exact q | (simp only [q_11, q_12, i_as] at q; exact q)
        unfold mb_counted_33
        refine PP.ite (fun _ => ?_) (fun c_18 => absurd (by decide) c_18)
        unfold mb_counted_36
        refine PP.bind (mp_isWord (0 : Int32) F8 G8) ?_
        rintro _ _ _ ⟨rfl, rfl, (⟨rfl, u19⟩ | ⟨rfl, u19⟩)⟩
        · dsimp only
          have h_20 : wdn K V (((F 42) + (1 : Int32)) + (1 : Int32)) (0 : Int32) = true := by
            rw [← g_9, ← g_10]
            have q := u19
            first | exact q | (simp only [q_11, q_12, i_as] at q; exact q)
          unfold mb_counted_41
          refine PP.ite (fun c_21 => absurd c_21 (by decide)) (fun _ => ?_)
          unfold mb_counted_44
          refine PP.bind (PP.and (mw_tellHere (0 : Int32) F8 G8) (mr_tellHere (0 : Int32) F8 G8 g_9 g_10 (show F8 44 = 0 from q_13))) ?_
          rintro r22 F22 G22 ⟨hK22, (⟨rfl, u22a, u22b, u22⟩ | ⟨rfl, u22a, u22⟩)⟩
          · dsimp only
            have g_23 : G22 4 = K := Eq.trans (hK22.2 4 rfl) g_9
            have g_24 : G22 5 = V := Eq.trans (hK22.2 5 rfl) g_10
            have h_25 : rtell K V fu (0 : Int32) (((F 42) + (1 : Int32)) + (1 : Int32)) (((F 43) + (1 : Int32)) + (1 : Int32)) = some (some (F22 42)) := by
              have q : rtell K V fu (0 : Int32) (F8 42) (F8 43) = some (some (F22 42)) := u22
              simp only [q_11, q_12, i_as] at q; exact q
            have q_26 : F22 43 = (((F 43) + (1 : Int32)) + (1 : Int32)) := by
              have q := (show F22 43 = (F8 43) from u22b)
              simp only [q_11, q_12, i_as] at q; exact q
            unfold mb_counted_49
            unfold mb_counted_56
            refine PP.ite (fun c_27 => absurd c_27 (by decide)) (fun _ => ?_)
            exact mrj_counted_63 rc r ihK ih (F0 := F) (R0 := (rcounted K V fu r (F 42) (F 43))) (F 15) F22 G22 g_23 g_24 ⟨u22a, (by first | with_reducible rfl | (simp only [q_11, q_12, q_26, i_as, fup, Nat.reduceEqDiff, reduceIte, if_false]) | rfl), ((rfl : (rcounted K V fu r (F 42) (F 43)) = _).trans (by first | with_reducible rfl | (simp only [rcounted, rcnt2, rcnt3, rcnt4, h_2, h_5, h_6, h_17, h_20, h_25, q_11, q_12, q_26, i_as, fup, i_a0, i0m, i10, eq_self, rb_yes, rb_no, ryes, rno, if_true, if_false, f_tt (p := True), reduceIte, Nat.reduceEqDiff]) | rfl))⟩
          · dsimp only
            have g_28 : G22 4 = K := Eq.trans (hK22.2 4 rfl) g_9
            have g_29 : G22 5 = V := Eq.trans (hK22.2 5 rfl) g_10
            have h_30 : rtell K V fu (0 : Int32) (((F 42) + (1 : Int32)) + (1 : Int32)) (((F 43) + (1 : Int32)) + (1 : Int32)) = some (none) := by
              have q : rtell K V fu (0 : Int32) (F8 42) (F8 43) = some (none) := u22
              simp only [q_11, q_12, i_as] at q; exact q
            unfold mb_counted_49
            unfold mb_counted_56
            refine PP.ite (fun _ => ?_) (fun c_31 => absurd (by decide) c_31)
            unfold mb_counted_61
            refine PP.ret ?_
            refine Or.inr ⟨rfl, u22a, (rfl : (rcounted K V fu r (F 42) (F 43)) = _).trans ?_⟩
            first | with_reducible rfl | (simp only [rcounted, rcnt2, rcnt3, rcnt4, h_2, h_5, h_6, h_17, h_20, h_30, q_11, q_12, i_as, fup, i_a0, i0m, i10, eq_self, rb_yes, rb_no, ryes, rno, if_true, if_false, f_tt (p := True), reduceIte, Nat.reduceEqDiff]) | rfl
        · dsimp only
          have h_32 : wdn K V (((F 42) + (1 : Int32)) + (1 : Int32)) (0 : Int32) = false := by
            rw [← g_9, ← g_10]
            have q := u19
            first | exact q | (simp only [q_11, q_12, i_as] at q; exact q)
          unfold mb_counted_41
          refine PP.ite (fun _ => ?_) (fun c_33 => absurd (by decide) c_33)
          unfold mb_counted_52
          refine PP.bind (PP.and (mw_simple F8 G8) (mr_simple F8 G8 g_9 g_10 (show F8 44 = 0 from q_13))) ?_
          rintro r34 F34 G34 ⟨hK34, (⟨rfl, u34a, u34b, u34⟩ | ⟨rfl, u34a, u34⟩)⟩
          · dsimp only
            have g_35 : G34 4 = K := Eq.trans (hK34.2 4 rfl) g_9
            have g_36 : G34 5 = V := Eq.trans (hK34.2 5 rfl) g_10
            have h_37 : rsimple K V fu (((F 42) + (1 : Int32)) + (1 : Int32)) (((F 43) + (1 : Int32)) + (1 : Int32)) = some (some (F34 42)) := by
              have q : rsimple K V fu (F8 42) (F8 43) = some (some (F34 42)) := u34
              simp only [q_11, q_12, i_as] at q; exact q
            have q_38 : F34 43 = (((F 43) + (1 : Int32)) + (1 : Int32)) := by
              have q := (show F34 43 = (F8 43) from u34b)
              simp only [q_11, q_12, i_as] at q; exact q
            unfold mb_counted_56
            refine PP.ite (fun c_39 => absurd c_39 (by decide)) (fun _ => ?_)
            exact mrj_counted_63 rc r ihK ih (F0 := F) (R0 := (rcounted K V fu r (F 42) (F 43))) (F 15) F34 G34 g_35 g_36 ⟨u34a, (by first | with_reducible rfl | (simp only [q_11, q_12, q_38, i_as, fup, Nat.reduceEqDiff, reduceIte, if_false]) | rfl), ((rfl : (rcounted K V fu r (F 42) (F 43)) = _).trans (by first | with_reducible rfl | (simp only [rcounted, rcnt2, rcnt3, rcnt4, h_2, h_5, h_6, h_17, h_32, h_37, q_11, q_12, q_38, i_as, fup, i_a0, i0m, i10, eq_self, rb_yes, rb_no, ryes, rno, if_true, if_false, f_tt (p := True), reduceIte, Nat.reduceEqDiff]) | rfl))⟩
          · dsimp only
            have g_40 : G34 4 = K := Eq.trans (hK34.2 4 rfl) g_9
            have g_41 : G34 5 = V := Eq.trans (hK34.2 5 rfl) g_10
            have h_42 : rsimple K V fu (((F 42) + (1 : Int32)) + (1 : Int32)) (((F 43) + (1 : Int32)) + (1 : Int32)) = some (none) := by
              have q : rsimple K V fu (F8 42) (F8 43) = some (none) := u34
              simp only [q_11, q_12, i_as] at q; exact q
            unfold mb_counted_56
            refine PP.ite (fun _ => ?_) (fun c_43 => absurd (by decide) c_43)
            unfold mb_counted_61
            refine PP.ret ?_
            refine Or.inr ⟨rfl, u34a, (rfl : (rcounted K V fu r (F 42) (F 43)) = _).trans ?_⟩
            first | with_reducible rfl | (simp only [rcounted, rcnt2, rcnt3, rcnt4, h_2, h_5, h_6, h_17, h_32, h_42, q_11, q_12, i_as, fup, i_a0, i0m, i10, eq_self, rb_yes, rb_no, ryes, rno, if_true, if_false, f_tt (p := True), reduceIte, Nat.reduceEqDiff]) | rfl
    · dsimp only
      have g_44 : G4 4 = K := Eq.trans (u4.2.2.2 4 rfl) g4
      have g_45 : G4 5 = V := Eq.trans (u4.2.2.2 5 rfl) g5
      have q_46 : F4 42 = ((F 42) + (1 : Int32)) := u4.2.2.1 42 rfl
      have q_47 : F4 43 = ((F 43) + (1 : Int32)) := u4.2.2.1 43 rfl
      rcases u4b with q | q | ⟨q, q1⟩
      · exact absurd q (show ¬ 0 < (F 44).toInt by rw [h44]; decide)
      · skip
        have h_48 : sgn K V ((F 42) + (1 : Int32)) (22 : Int32) = false := by
          rw [← g4, ← g5]
          have q := q
          first | exact q | (simp only [i_as] at q; exact q)
        unfold mb_counted_13
        refine PP.ite (fun _ => ?_) (fun c_49 => absurd (by decide) c_49)
        unfold mb_counted_16
        refine PP.ret ?_
        refine Or.inr ⟨rfl, u4.1, (rfl : (rcounted K V fu r (F 42) (F 43)) = _).trans ?_⟩
        first | with_reducible rfl | (simp only [rcounted, rcnt2, rcnt3, rcnt4, h_2, h_48, q_46, q_47, i_as, fup, i_a0, i0m, i10, eq_self, rb_yes, rb_no, ryes, rno, if_true, if_false, f_tt (p := True), reduceIte, Nat.reduceEqDiff]) | rfl
      · skip
        have h_50 : sgn K V ((F 42) + (1 : Int32)) (22 : Int32) = true := by
          rw [← g4, ← g5]
          have q := q
          first | exact q | (simp only [i_as] at q; exact q)
        have h_51 : (((F 43) + (1 : Int32)) = 40) = True := by
          have q : ((F 43) + (1 : Int32)) = 40 := q1
          first | exact eq_true q | (simp only [i_as] at q; exact eq_true q)
        unfold mb_counted_13
        refine PP.ite (fun _ => ?_) (fun c_52 => absurd (by decide) c_52)
        unfold mb_counted_16
        refine PP.ret ?_
        refine Or.inr ⟨rfl, u4.1, (rfl : (rcounted K V fu r (F 42) (F 43)) = _).trans ?_⟩
        first | with_reducible rfl | (simp only [rcounted, rcnt2, rcnt3, rcnt4, h_2, h_50, h_51, q_46, q_47, i_as, fup, i_a0, i0m, i10, eq_self, rb_yes, rb_no, ryes, rno, if_true, if_false, f_tt (p := True), reduceIte, Nat.reduceEqDiff]) | rfl
  · dsimp only
    have g_53 : G1 4 = K := Eq.trans (u1.2.2.2 4 rfl) g4
    have g_54 : G1 5 = V := Eq.trans (u1.2.2.2 5 rfl) g5
    have q_55 : F1 42 = (F 42) := u1.2.2.1 42 rfl
    have q_56 : F1 43 = (F 43) := u1.2.2.1 43 rfl
    have h_57 : ((F 43) = 40) = True := by
      have q : (F 43) = 40 := u1b
      first | exact eq_true q | (simp only [i_as] at q; exact eq_true q)
    unfold mb_counted_4
    refine PP.ite (fun _ => ?_) (fun c_58 => absurd (by decide) c_58)
    unfold mb_counted_16
    refine PP.ret ?_
    refine Or.inr ⟨rfl, u1.1, (rfl : (rcounted K V fu r (F 42) (F 43)) = _).trans ?_⟩
    first | with_reducible rfl | (simp only [rcounted, rcnt2, rcnt3, rcnt4, h_57, q_55, q_56, i_as, fup, i_a0, i0m, i10, eq_self, rb_yes, rb_no, ryes, rno, if_true, if_false, f_tt (p := True), reduceIte, Nat.reduceEqDiff]) | rfl
theorem mrt_loop {fu : Nat} {K V : Nat → Int32} (rc : RC) (r : RR) (ihK : mKI2 rc) (ih : mRI2 K V rc r) (F : PF) (G : PG) (g4 : G 4 = K) (g5 : G 5 = V) (h44 : F 44 = 0) : PP (mh_loop fu rc F G) (fun r' F' _ => ROK (rloop K V fu r (F 42) (F 43)) F r' F') := by
  unfold mh_loop
  unfold mb_loop_0
  refine PP.bind (mp_opens F G) ?_
  rintro r1 F1 G1 (⟨rfl, rfl, rfl, u1⟩ | ⟨rfl, u1, u1b⟩)
  · dsimp only
    have h_2 : ¬ (F 43) = 40 := by
      have q : ¬ (F 43) = 40 := u1
      first | exact q | (simp only [i_as] at q; exact q)
    unfold mb_loop_9
    refine PP.ite (fun c_3 => absurd c_3 (by decide)) (fun _ => ?_)
    unfold mb_loop_12
    refine PP.bind (PP.and (mw_condition (fup (fup F 43 ((F 43) + (1 : Int32))) 42 ((F 42) + (1 : Int32))) G) (mr_condition (fup (fup F 43 ((F 43) + (1 : Int32))) 42 ((F 42) + (1 : Int32))) G g4 g5 (show (fup (fup F 43 ((F 43) + (1 : Int32))) 42 ((F 42) + (1 : Int32))) 44 = 0 from h44))) ?_
    rintro r4 F4 G4 ⟨hK4, (⟨rfl, u4a, u4b, u4⟩ | ⟨rfl, u4a, u4⟩)⟩
    · dsimp only
      have g_5 : G4 4 = K := Eq.trans (hK4.2 4 rfl) g4
      have g_6 : G4 5 = V := Eq.trans (hK4.2 5 rfl) g5
      have h_7 : rcond K V fu ((F 42) + (1 : Int32)) ((F 43) + (1 : Int32)) = some (some (F4 42)) := u4
      have q_8 : F4 43 = ((F 43) + (1 : Int32)) := (show F4 43 = ((F 43) + (1 : Int32)) from u4b)
      unfold mb_loop_16
      refine PP.ite (fun c_9 => absurd c_9 (by decide)) (fun _ => ?_)
      unfold mb_loop_21
      refine PP.bind (mw_step (13 : Int32) (0 : Int32) (0 : Int32) F4 G4) ?_
      intro r10 F10 G10 hK10
      dsimp only
      have g_11 : G10 4 = K := Eq.trans (hK10.2 4 rfl) g_5
      have g_12 : G10 5 = V := Eq.trans (hK10.2 5 rfl) g_6
      have q_13 : F10 42 = (F4 42) := hK10.1 42 rfl
      have q_14 : F10 43 = ((F 43) + (1 : Int32)) := Eq.trans (hK10.1 43 rfl) (show (F4 43) = ((F 43) + (1 : Int32)) by simp only [q_8, i_as])
      have q_15 : F10 44 = 0 := Eq.trans (hK10.1 44 rfl) u4a
      unfold mb_loop_29
      refine PP.bind (PP.and (ihK 1 (F 60) 0 F10 G10) (ih 1 (F 60) 0 F10 G10 g_11 g_12 (show F10 44 = 0 from q_15))) ?_
      rintro r16 F16 G16 ⟨hK16, (⟨rfl, u16a, u16b, u16⟩ | ⟨rfl, u16a, u16⟩)⟩
      · dsimp only
        have g_17 : G16 4 = K := Eq.trans (hK16.2 4 rfl) g_11
        have g_18 : G16 5 = V := Eq.trans (hK16.2 5 rfl) g_12
        have h_19 : r 1 (F4 42) ((F 43) + (1 : Int32)) = some (some (F16 42)) := by
          have q : r 1 (F10 42) (F10 43) = some (some (F16 42)) := u16
          simp only [q_13, q_14, i_as] at q; exact q
        have q_20 : F16 43 = ((F 43) + (1 : Int32)) := by
          have q := (show F16 43 = (F10 43) from u16b)
          simp only [q_13, q_14, i_as] at q; exact q
        unfold mb_loop_35
        refine PP.ite (fun c_21 => absurd c_21 (by decide)) (fun _ => ?_)
        unfold mb_loop_40
        refine PP.bind (mw_step (12 : Int32) (F 60) (0 : Int32) F16 G16) ?_
        intro r22 F22 G22 hK22
        dsimp only
        have g_23 : G22 4 = K := Eq.trans (hK22.2 4 rfl) g_17
        have g_24 : G22 5 = V := Eq.trans (hK22.2 5 rfl) g_18
        have q_25 : F22 42 = (F16 42) := hK22.1 42 rfl
        have q_26 : F22 43 = ((F 43) + (1 : Int32)) := Eq.trans (hK22.1 43 rfl) (show (F16 43) = ((F 43) + (1 : Int32)) by simp only [q_20, i_as])
        have q_27 : F22 44 = 0 := Eq.trans (hK22.1 44 rfl) u16a
        unfold mb_loop_53
        refine PP.ix (fun _ => ?_)
        unfold mb_loop_64
        refine PP.bind (mw_settle (F16 65) (F22 60) F22 (gup G22 57 r10.toNatClampNeg (F22 60))) ?_
        intro r28 F28 G28 hK28
        dsimp only
        have g_29 : G28 4 = K := Eq.trans (hK28.2 4 rfl) g_23
        have g_30 : G28 5 = V := Eq.trans (hK28.2 5 rfl) g_24
        have q_31 : F28 42 = (F16 42) := Eq.trans (hK28.1 42 rfl) (show (F22 42) = (F16 42) by simp only [q_25, q_26, i_as])
        have q_32 : F28 43 = ((F 43) + (1 : Int32)) := Eq.trans (hK28.1 43 rfl) (show (F22 43) = ((F 43) + (1 : Int32)) by simp only [q_25, q_26, i_as])
        have q_33 : F28 44 = 0 := Eq.trans (hK28.1 44 rfl) q_27
        unfold mb_loop_73
        unfold mb_loop_83
        refine PP.ret ?_
        refine Or.inl ⟨rfl, q_33, ?_, (rfl : (rloop K V fu r (F 42) (F 43)) = _).trans ?_⟩
        · show ((F28 43) - (1 : Int32)) = F 43
          first | with_reducible rfl | (simp only [q_8, q_13, q_14, q_20, q_25, q_26, q_31, q_32, i_as, fup, Nat.reduceEqDiff, reduceIte, if_false]) | rfl
        · show _ = some (some (F28 42))
          first | with_reducible rfl | (simp only [rloop, h_2, h_7, h_19, q_8, q_13, q_14, q_20, q_25, q_26, q_31, q_32, i_as, fup, i_a0, i0m, i10, eq_self, rb_yes, rb_no, ryes, rno, if_true, if_false, f_tt (p := True), reduceIte, Nat.reduceEqDiff]) | rfl
      · dsimp only
        have g_34 : G16 4 = K := Eq.trans (hK16.2 4 rfl) g_11
        have g_35 : G16 5 = V := Eq.trans (hK16.2 5 rfl) g_12
        have h_36 : r 1 (F4 42) ((F 43) + (1 : Int32)) = some (none) := by
          have q : r 1 (F10 42) (F10 43) = some (none) := u16
          simp only [q_13, q_14, i_as] at q; exact q
        unfold mb_loop_35
        refine PP.ite (fun _ => ?_) (fun c_37 => absurd (by decide) c_37)
        unfold mb_loop_38
        refine PP.ret ?_
        refine Or.inr ⟨rfl, u16a, (rfl : (rloop K V fu r (F 42) (F 43)) = _).trans ?_⟩
        first | with_reducible rfl | (simp only [rloop, h_2, h_7, h_36, q_8, q_13, q_14, i_as, fup, i_a0, i0m, i10, eq_self, rb_yes, rb_no, ryes, rno, if_true, if_false, f_tt (p := True), reduceIte, Nat.reduceEqDiff]) | rfl
    · dsimp only
      have g_38 : G4 4 = K := Eq.trans (hK4.2 4 rfl) g4
      have g_39 : G4 5 = V := Eq.trans (hK4.2 5 rfl) g5
      have h_40 : rcond K V fu ((F 42) + (1 : Int32)) ((F 43) + (1 : Int32)) = some (none) := u4
      unfold mb_loop_16
      refine PP.ite (fun _ => ?_) (fun c_41 => absurd (by decide) c_41)
      unfold mb_loop_19
      refine PP.ret ?_
      refine Or.inr ⟨rfl, u4a, (rfl : (rloop K V fu r (F 42) (F 43)) = _).trans ?_⟩
      first | with_reducible rfl | (simp only [rloop, h_2, h_40, i_as, fup, i_a0, i0m, i10, eq_self, rb_yes, rb_no, ryes, rno, if_true, if_false, f_tt (p := True), reduceIte, Nat.reduceEqDiff]) | rfl
  · dsimp only
    have g_42 : G1 4 = K := Eq.trans (u1.2.2.2 4 rfl) g4
    have g_43 : G1 5 = V := Eq.trans (u1.2.2.2 5 rfl) g5
    have q_44 : F1 42 = (F 42) := u1.2.2.1 42 rfl
    have q_45 : F1 43 = (F 43) := u1.2.2.1 43 rfl
    have h_46 : ((F 43) = 40) = True := by
      have q : (F 43) = 40 := u1b
      first | exact eq_true q | (simp only [i_as] at q; exact eq_true q)
    unfold mb_loop_9
    refine PP.ite (fun _ => ?_) (fun c_47 => absurd (by decide) c_47)
    unfold mb_loop_19
    refine PP.ret ?_
    refine Or.inr ⟨rfl, u1.1, (rfl : (rloop K V fu r (F 42) (F 43)) = _).trans ?_⟩
    first | with_reducible rfl | (simp only [rloop, h_46, q_44, q_45, i_as, fup, i_a0, i0m, i10, eq_self, rb_yes, rb_no, ryes, rno, if_true, if_false, f_tt (p := True), reduceIte, Nat.reduceEqDiff]) | rfl
theorem mrt_scoped {fu : Nat} {K V : Nat → Int32} (rc : RC) (r : RR) (ihK : mKI2 rc) (ih : mRI2 K V rc r) (F : PF) (G : PG) (g4 : G 4 = K) (g5 : G 5 = V) (h44 : F 44 = 0) : PP (mh_scoped fu rc F G) (fun r' F' _ => ROK (r 6 (F 42) (F 43)) F r' F') := by
  unfold mh_scoped
  unfold mb_scoped_0
  refine PP.bind (mw_begins F G) ?_
  intro r1 F1 G1 hK1
  dsimp only
  have g_2 : G1 4 = K := Eq.trans (hK1.2 4 rfl) g4
  have g_3 : G1 5 = V := Eq.trans (hK1.2 5 rfl) g5
  have q_4 : F1 42 = (F 42) := hK1.1 42 rfl
  have q_5 : F1 43 = (F 43) := hK1.1 43 rfl
  have q_6 : F1 44 = 0 := Eq.trans (hK1.1 44 rfl) h44
  unfold mb_scoped_9
  refine PP.bind (PP.and (ihK 6 0 0 F1 G1) (ih 6 0 0 F1 G1 g_2 g_3 (show F1 44 = 0 from q_6))) ?_
  rintro r7 F7 G7 ⟨hK7, (⟨rfl, u7a, u7b, u7⟩ | ⟨rfl, u7a, u7⟩)⟩
  · dsimp only
    have g_8 : G7 4 = K := Eq.trans (hK7.2 4 rfl) g_2
    have g_9 : G7 5 = V := Eq.trans (hK7.2 5 rfl) g_3
    have h_10 : r 6 (F 42) (F 43) = some (some (F7 42)) := by
      have q : r 6 (F1 42) (F1 43) = some (some (F7 42)) := u7
      simp only [q_4, q_5, i_as] at q; exact q
    have q_11 : F7 43 = (F 43) := by
      have q := (show F7 43 = (F1 43) from u7b)
      simp only [q_4, q_5, i_as] at q; exact q
    unfold mb_scoped_13
    refine PP.bind (mw_ends (F 15) F7 G7) ?_
    intro r12 F12 G12 hK12
    dsimp only
    have g_13 : G12 4 = K := Eq.trans (hK12.2 4 rfl) g_8
    have g_14 : G12 5 = V := Eq.trans (hK12.2 5 rfl) g_9
    have q_15 : F12 42 = (F7 42) := hK12.1 42 rfl
    have q_16 : F12 43 = (F 43) := Eq.trans (hK12.1 43 rfl) (show (F7 43) = (F 43) by simp only [q_11, i_as])
    have q_17 : F12 44 = 0 := Eq.trans (hK12.1 44 rfl) u7a
    unfold mb_scoped_19
    refine PP.ret ?_
    refine Or.inl ⟨rfl, q_17, ?_, (rfl : (r 6 (F 42) (F 43)) = _).trans ?_⟩
    · show (F12 43) = F 43
      first | with_reducible rfl | (simp only [q_4, q_5, q_11, q_15, q_16, i_as, fup, Nat.reduceEqDiff, reduceIte, if_false]) | rfl
    · show _ = some (some (F12 42))
      first | with_reducible rfl | (simp only [h_10, q_4, q_5, q_11, q_15, q_16, i_as, fup, i_a0, i0m, i10, eq_self, rb_yes, rb_no, ryes, rno, if_true, if_false, f_tt (p := True), reduceIte, Nat.reduceEqDiff]) | rfl
  · dsimp only
    have g_18 : G7 4 = K := Eq.trans (hK7.2 4 rfl) g_2
    have g_19 : G7 5 = V := Eq.trans (hK7.2 5 rfl) g_3
    have h_20 : r 6 (F 42) (F 43) = some (none) := by
      have q : r 6 (F1 42) (F1 43) = some (none) := u7
      simp only [q_4, q_5, i_as] at q; exact q
    unfold mb_scoped_13
    refine PP.bind (mw_ends (F 15) F7 G7) ?_
    intro r21 F21 G21 hK21
    dsimp only
    have g_22 : G21 4 = K := Eq.trans (hK21.2 4 rfl) g_18
    have g_23 : G21 5 = V := Eq.trans (hK21.2 5 rfl) g_19
    have q_24 : F21 42 = (F7 42) := hK21.1 42 rfl
    have q_25 : F21 43 = (F7 43) := hK21.1 43 rfl
    have q_26 : 0 < (F21 44).toInt := by rw [show F21 44 = (F7 44) from hK21.1 44 rfl]; exact u7a
    unfold mb_scoped_19
    refine PP.ret ?_
    refine Or.inr ⟨rfl, q_26, (rfl : (r 6 (F 42) (F 43)) = _).trans ?_⟩
    first | with_reducible rfl | (simp only [h_20, q_4, q_5, q_24, q_25, i_as, fup, i_a0, i0m, i10, eq_self, rb_yes, rb_no, ryes, rno, if_true, if_false, f_tt (p := True), reduceIte, Nat.reduceEqDiff]) | rfl
theorem mrt_statement {fu : Nat} {K V : Nat → Int32} (rc : RC) (r : RR) (ihK : mKI2 rc) (ih : mRI2 K V rc r) (F : PF) (G : PG) (g4 : G 4 = K) (g5 : G 5 = V) (h44 : F 44 = 0) : PP (mh_statement fu rc F G) (fun r' F' _ => ROK (rstatement K V fu r (F 42) (F 43)) F r' F') := by
  unfold mh_statement
  unfold mb_statement_0
  refine PP.bind (mp_isSign (26 : Int32) F G) ?_
  rintro _ _ _ ⟨rfl, rfl, (⟨rfl, u1⟩ | ⟨rfl, u1⟩)⟩
  · dsimp only
    have h_2 : sgn K V (F 42) (26 : Int32) = true := by
      rw [← g4, ← g5]
      have q := u1
      first | exact q | (simp only [i_as] at q; exact q)
    unfold mb_statement_6
    refine PP.ite (fun c_3 => absurd c_3 (by decide)) (fun _ => ?_)
    unfold mb_statement_9
    refine PP.bind (mw_begins F G) ?_
    intro r4 F4 G4 hK4
    dsimp only
    have g_5 : G4 4 = K := Eq.trans (hK4.2 4 rfl) g4
    have g_6 : G4 5 = V := Eq.trans (hK4.2 5 rfl) g5
    have q_7 : F4 42 = (F 42) := hK4.1 42 rfl
    have q_8 : F4 43 = (F 43) := hK4.1 43 rfl
    have q_9 : F4 44 = 0 := Eq.trans (hK4.1 44 rfl) h44
    unfold mb_statement_18
    refine PP.bind (PP.and (ihK 0 0 0 F4 G4) (ih 0 0 0 F4 G4 g_5 g_6 (show F4 44 = 0 from q_9))) ?_
    rintro r10 F10 G10 ⟨hK10, (⟨rfl, u10a, u10b, u10⟩ | ⟨rfl, u10a, u10⟩)⟩
    · dsimp only
      have g_11 : G10 4 = K := Eq.trans (hK10.2 4 rfl) g_5
      have g_12 : G10 5 = V := Eq.trans (hK10.2 5 rfl) g_6
      have h_13 : r 0 (F 42) (F 43) = some (some (F10 42)) := by
        have q : r 0 (F4 42) (F4 43) = some (some (F10 42)) := u10
        simp only [q_7, q_8, i_as] at q; exact q
      have q_14 : F10 43 = (F 43) := by
        have q := (show F10 43 = (F4 43) from u10b)
        simp only [q_7, q_8, i_as] at q; exact q
      unfold mb_statement_22
      refine PP.bind (mw_ends (F 15) F10 G10) ?_
      intro r15 F15 G15 hK15
      dsimp only
      have g_16 : G15 4 = K := Eq.trans (hK15.2 4 rfl) g_11
      have g_17 : G15 5 = V := Eq.trans (hK15.2 5 rfl) g_12
      have q_18 : F15 42 = (F10 42) := hK15.1 42 rfl
      have q_19 : F15 43 = (F 43) := Eq.trans (hK15.1 43 rfl) (show (F10 43) = (F 43) by simp only [q_14, i_as])
      have q_20 : F15 44 = 0 := Eq.trans (hK15.1 44 rfl) u10a
      unfold mb_statement_28
      refine PP.ret ?_
      refine Or.inl ⟨rfl, q_20, ?_, (rfl : (rstatement K V fu r (F 42) (F 43)) = _).trans ?_⟩
      · show (F15 43) = F 43
        first | with_reducible rfl | (simp only [q_7, q_8, q_14, q_18, q_19, i_as, fup, Nat.reduceEqDiff, reduceIte, if_false]) | rfl
      · show _ = some (some (F15 42))
        first | with_reducible rfl | (simp only [rstatement, rput, rclose, h_2, h_13, q_7, q_8, q_14, q_18, q_19, i_as, fup, i_a0, i0m, i10, eq_self, rb_yes, rb_no, ryes, rno, if_true, if_false, f_tt (p := True), reduceIte, Nat.reduceEqDiff]) | rfl
    · dsimp only
      have g_21 : G10 4 = K := Eq.trans (hK10.2 4 rfl) g_5
      have g_22 : G10 5 = V := Eq.trans (hK10.2 5 rfl) g_6
      have h_23 : r 0 (F 42) (F 43) = some (none) := by
        have q : r 0 (F4 42) (F4 43) = some (none) := u10
        simp only [q_7, q_8, i_as] at q; exact q
      unfold mb_statement_22
      refine PP.bind (mw_ends (F 15) F10 G10) ?_
      intro r24 F24 G24 hK24
      dsimp only
      have g_25 : G24 4 = K := Eq.trans (hK24.2 4 rfl) g_21
      have g_26 : G24 5 = V := Eq.trans (hK24.2 5 rfl) g_22
      have q_27 : F24 42 = (F10 42) := hK24.1 42 rfl
      have q_28 : F24 43 = (F10 43) := hK24.1 43 rfl
      have q_29 : 0 < (F24 44).toInt := by rw [show F24 44 = (F10 44) from hK24.1 44 rfl]; exact u10a
      unfold mb_statement_28
      refine PP.ret ?_
      refine Or.inr ⟨rfl, q_29, (rfl : (rstatement K V fu r (F 42) (F 43)) = _).trans ?_⟩
      first | with_reducible rfl | (simp only [rstatement, rput, rclose, h_2, h_23, q_7, q_8, q_27, q_28, i_as, fup, i_a0, i0m, i10, eq_self, rb_yes, rb_no, ryes, rno, if_true, if_false, f_tt (p := True), reduceIte, Nat.reduceEqDiff]) | rfl
  · dsimp only
    have h_30 : sgn K V (F 42) (26 : Int32) = false := by
      rw [← g4, ← g5]
      have q := u1
      first | exact q | (simp only [i_as] at q; exact q)
    unfold mb_statement_6
    refine PP.ite (fun _ => ?_) (fun c_31 => absurd (by decide) c_31)
    unfold mb_statement_30
    refine PP.bind (mp_isSign (29 : Int32) F G) ?_
    rintro _ _ _ ⟨rfl, rfl, (⟨rfl, u32⟩ | ⟨rfl, u32⟩)⟩
    · dsimp only
      have h_33 : sgn K V (F 42) (29 : Int32) = true := by
        rw [← g4, ← g5]
        have q := u32
        first | exact q | (simp only [i_as] at q; exact q)
      unfold mb_statement_36
      refine PP.ite (fun c_34 => absurd c_34 (by decide)) (fun _ => ?_)
      unfold mb_statement_39
      refine PP.bind (mp_sign (29 : Int32) F G) ?_
      rintro r35 F35 G35 (⟨rfl, rfl, rfl, u35⟩ | ⟨rfl, u35, u35b⟩)
      · dsimp only
        have h_36 : sgn K V (F 42) (29 : Int32) = true := by
          rw [← g4, ← g5]
          have q := u35.1
          first | exact q | (simp only [i_as] at q; exact q)
        unfold mb_statement_45
        refine PP.ret ?_
        refine Or.inl ⟨rfl, h44, ?_, (rfl : (rstatement K V fu r (F 42) (F 43)) = _).trans ?_⟩
        · show (F 43) = F 43
          first | with_reducible rfl | (simp only [i_as, fup, Nat.reduceEqDiff, reduceIte, if_false]) | rfl
        · show _ = some (some ((F 42) + (1 : Int32)))
          first | with_reducible rfl | (simp only [rstatement, rput, rclose, h_30, h_33, h_36, i_as, fup, i_a0, i0m, i10, eq_self, rb_yes, rb_no, ryes, rno, if_true, if_false, f_tt (p := True), reduceIte, Nat.reduceEqDiff]) | rfl
      · dsimp only
        have g_37 : G35 4 = K := Eq.trans (u35.2.2.2 4 rfl) g4
        have g_38 : G35 5 = V := Eq.trans (u35.2.2.2 5 rfl) g5
        have q_39 : F35 42 = (F 42) := u35.2.2.1 42 rfl
        have q_40 : F35 43 = (F 43) := u35.2.2.1 43 rfl
        rcases u35b with q | q
        · exact absurd q (show ¬ 0 < (F 44).toInt by rw [h44]; decide)
        · skip
          have h_41 : sgn K V (F 42) (29 : Int32) = false := by
            rw [← g4, ← g5]
            have q := q
            first | exact q | (simp only [i_as] at q; exact q)
          exact absurd (h_33.symm.trans h_41) (by decide)
    · dsimp only
      have h_42 : sgn K V (F 42) (29 : Int32) = false := by
        rw [← g4, ← g5]
        have q := u32
        first | exact q | (simp only [i_as] at q; exact q)
      unfold mb_statement_36
      refine PP.ite (fun _ => ?_) (fun c_43 => absurd (by decide) c_43)
      unfold mb_statement_46
      refine PP.ix (fun _ => ?_)
      refine PP.ite (fun c_44 => ?_) (fun c_44 => ?_)
      · skip
        have h_45 : K (F 42).toNatClampNeg = (1 : Int32) := by
          rw [← g4]
          have q := c_44
          first | exact q | (simp only [i_as] at q; exact q)
        have h_46 := eq_true h_45
        unfold mb_statement_59
        refine PP.bind (PP.and (mw_simple F G) (mr_simple F G g4 g5 (show F 44 = 0 from h44))) ?_
        rintro r47 F47 G47 ⟨hK47, (⟨rfl, u47a, u47b, u47⟩ | ⟨rfl, u47a, u47⟩)⟩
        · dsimp only
          have g_48 : G47 4 = K := Eq.trans (hK47.2 4 rfl) g4
          have g_49 : G47 5 = V := Eq.trans (hK47.2 5 rfl) g5
          have h_50 : rsimple K V fu (F 42) (F 43) = some (some (F47 42)) := u47
          have q_51 : F47 43 = (F 43) := (show F47 43 = (F 43) from u47b)
          unfold mb_statement_63
          refine PP.ite (fun c_52 => absurd c_52 (by decide)) (fun _ => ?_)
          unfold mb_statement_66
          refine PP.bind (mp_sign (29 : Int32) F47 G47) ?_
          rintro r53 F53 G53 (⟨rfl, rfl, rfl, u53⟩ | ⟨rfl, u53, u53b⟩)
          · dsimp only
            have h_54 : sgn K V (F47 42) (29 : Int32) = true := by
              rw [← g_48, ← g_49]
              have q := u53.1
              first | exact q | (simp only [q_51, i_as] at q; exact q)
            unfold mb_statement_72
            refine PP.ite (fun c_55 => absurd c_55 (by decide)) (fun _ => ?_)
            unfold mb_statement_75
            unfold mb_statement_80
            refine PP.ret ?_
            refine Or.inl ⟨rfl, u47a, ?_, (rfl : (rstatement K V fu r (F 42) (F 43)) = _).trans ?_⟩
            · show (F47 43) = F 43
              first | with_reducible rfl | (simp only [q_51, i_as, fup, Nat.reduceEqDiff, reduceIte, if_false]) | rfl
            · show _ = some (some ((F47 42) + (1 : Int32)))
              first | with_reducible rfl | (simp only [rstatement, rput, rclose, h_30, h_42, h_46, h_50, h_54, q_51, i_as, fup, i_a0, i0m, i10, eq_self, rb_yes, rb_no, ryes, rno, if_true, if_false, f_tt (p := True), reduceIte, Nat.reduceEqDiff]) | rfl
          · dsimp only
            have g_56 : G53 4 = K := Eq.trans (u53.2.2.2 4 rfl) g_48
            have g_57 : G53 5 = V := Eq.trans (u53.2.2.2 5 rfl) g_49
            have q_58 : F53 42 = (F47 42) := u53.2.2.1 42 rfl
            have q_59 : F53 43 = (F 43) := Eq.trans (u53.2.2.1 43 rfl) (show (F47 43) = (F 43) by simp only [q_51, i_as])
            rcases u53b with q | q
            · exact absurd q (show ¬ 0 < (F47 44).toInt by rw [u47a]; decide)
            · skip
              have h_60 : sgn K V (F47 42) (29 : Int32) = false := by
                rw [← g_48, ← g_49]
                have q := q
                first | exact q | (simp only [q_51, i_as] at q; exact q)
              unfold mb_statement_72
              refine PP.ite (fun _ => ?_) (fun c_61 => absurd (by decide) c_61)
              unfold mb_statement_79
              unfold mb_statement_80
              refine PP.ret ?_
              refine Or.inr ⟨rfl, u53.1, (rfl : (rstatement K V fu r (F 42) (F 43)) = _).trans ?_⟩
              first | with_reducible rfl | (simp only [rstatement, rput, rclose, h_30, h_42, h_46, h_50, h_60, q_51, q_58, q_59, i_as, fup, i_a0, i0m, i10, eq_self, rb_yes, rb_no, ryes, rno, if_true, if_false, f_tt (p := True), reduceIte, Nat.reduceEqDiff]) | rfl
        · dsimp only
          have g_62 : G47 4 = K := Eq.trans (hK47.2 4 rfl) g4
          have g_63 : G47 5 = V := Eq.trans (hK47.2 5 rfl) g5
          have h_64 : rsimple K V fu (F 42) (F 43) = some (none) := u47
          unfold mb_statement_63
          refine PP.ite (fun _ => ?_) (fun c_65 => absurd (by decide) c_65)
          unfold mb_statement_79
          unfold mb_statement_80
          refine PP.ret ?_
          refine Or.inr ⟨rfl, u47a, (rfl : (rstatement K V fu r (F 42) (F 43)) = _).trans ?_⟩
          first | with_reducible rfl | (simp only [rstatement, rput, rclose, h_30, h_42, h_46, h_64, i_as, fup, i_a0, i0m, i10, eq_self, rb_yes, rb_no, ryes, rno, if_true, if_false, f_tt (p := True), reduceIte, Nat.reduceEqDiff]) | rfl
      · skip
        have h_66 : ¬ K (F 42).toNatClampNeg = (1 : Int32) := by
          rw [← g4]
          have q := c_44
          first | exact q | (simp only [i_as] at q; exact q)
        unfold mb_statement_81
        refine PP.ix (fun _ => ?_)
        refine PP.ite (fun c_67 => ?_) (fun c_67 => ?_)
        · skip
          have h_68 : K (F 42).toNatClampNeg = (2 : Int32) := by
            rw [← g4]
            have q := c_67
            first | exact q | (simp only [i_as] at q; exact q)
          have h_69 := eq_true h_68
          unfold mb_statement_100
          refine PP.ix (fun _ => ?_)
          refine PP.ite (fun c_70 => ?_) (fun c_70 => ?_)
          · have e_71 : (G 5 (F 42).toNatClampNeg).toInt < 0 ∨ 14 < (G 5 (F 42).toNatClampNeg).toInt := c_70
            have h_72 : (V (F 42).toNatClampNeg).toInt < 0 ∨ 14 < (V (F 42).toNatClampNeg).toInt := by
              rw [← g5]
              have q := e_71
              first | exact q | (simp only [i_as] at q; exact q)
            unfold mb_statement_306
            refine PP.bind (mp_fails (2 : Int32) (by decide) F G) ?_
            rintro r73 F73 G73 ⟨rfl, u73⟩
            dsimp only
            have g_74 : G73 4 = K := Eq.trans (u73.2.2.2 4 rfl) g4
            have g_75 : G73 5 = V := Eq.trans (u73.2.2.2 5 rfl) g5
            have q_76 : F73 42 = (F 42) := u73.2.2.1 42 rfl
            have q_77 : F73 43 = (F 43) := u73.2.2.1 43 rfl
            unfold mb_statement_311
            refine PP.ret ?_
            refine Or.inr ⟨rfl, u73.1, (rfl : (rstatement K V fu r (F 42) (F 43)) = _).trans ?_⟩
            first | with_reducible rfl | (simp only [rstatement, rput, rclose, h_30, h_42, h_66, h_69, h_72, q_76, q_77, i_as, fup, i_a0, i0m, i10, eq_self, rb_yes, rb_no, ryes, rno, if_true, if_false, f_tt (p := True), reduceIte, Nat.reduceEqDiff]) | rfl
          have e_78 : ¬ ((G 5 (F 42).toNatClampNeg).toInt < 0 ∨ 14 < (G 5 (F 42).toNatClampNeg).toInt) := c_70
          have h_79 : ¬ ((V (F 42).toNatClampNeg).toInt < 0 ∨ 14 < (V (F 42).toNatClampNeg).toInt) := by
            rw [← g5]
            have q := e_78
            first | exact q | (simp only [i_as] at q; exact q)
          refine PP.ite (fun c_80 => ?_) (fun c_80 => ?_)
          · skip
            have h_81 : V (F 42).toNatClampNeg = (0 : Int32) := by
              rw [← g5]
              have q := c_80
              first | exact q | (simp only [i_as] at q; exact q)
            have h_82 := eq_true h_81
            unfold mb_statement_184
            refine PP.bind (PP.and (mw_tellHere (1 : Int32) F G) (mr_tellHere (1 : Int32) F G g4 g5 (show F 44 = 0 from h44))) ?_
            rintro r83 F83 G83 ⟨hK83, (⟨rfl, u83a, u83b, u83⟩ | ⟨rfl, u83a, u83⟩)⟩
            · dsimp only
              have g_84 : G83 4 = K := Eq.trans (hK83.2 4 rfl) g4
              have g_85 : G83 5 = V := Eq.trans (hK83.2 5 rfl) g5
              have h_86 : rtell K V fu (1 : Int32) (F 42) (F 43) = some (some (F83 42)) := u83
              have q_87 : F83 43 = (F 43) := (show F83 43 = (F 43) from u83b)
              unfold mb_statement_189
              refine PP.ite (fun c_88 => absurd c_88 (by decide)) (fun _ => ?_)
              unfold mb_statement_192
              refine PP.bind (mp_sign (29 : Int32) F83 G83) ?_
              rintro r89 F89 G89 (⟨rfl, rfl, rfl, u89⟩ | ⟨rfl, u89, u89b⟩)
              · dsimp only
                have h_90 : sgn K V (F83 42) (29 : Int32) = true := by
                  rw [← g_84, ← g_85]
                  have q := u89.1
                  first | exact q | (simp only [q_87, i_as] at q; exact q)
                unfold mb_statement_198
                refine PP.ite (fun c_91 => absurd c_91 (by decide)) (fun _ => ?_)
                unfold mb_statement_201
                unfold mb_statement_206
                refine PP.ret ?_
                refine Or.inl ⟨rfl, u83a, ?_, (rfl : (rstatement K V fu r (F 42) (F 43)) = _).trans ?_⟩
                · show (F83 43) = F 43
                  first | with_reducible rfl | (simp only [q_87, i_as, fup, Nat.reduceEqDiff, reduceIte, if_false]) | rfl
                · show _ = some (some ((F83 42) + (1 : Int32)))
                  first | with_reducible rfl | (simp only [rstatement, rput, rclose, h_30, h_42, h_66, h_69, h_79, h_82, h_86, h_90, q_87, i_as, fup, i_a0, i0m, i10, eq_self, rb_yes, rb_no, ryes, rno, if_true, if_false, f_tt (p := True), reduceIte, Nat.reduceEqDiff]) | rfl
              · dsimp only
                have g_92 : G89 4 = K := Eq.trans (u89.2.2.2 4 rfl) g_84
                have g_93 : G89 5 = V := Eq.trans (u89.2.2.2 5 rfl) g_85
                have q_94 : F89 42 = (F83 42) := u89.2.2.1 42 rfl
                have q_95 : F89 43 = (F 43) := Eq.trans (u89.2.2.1 43 rfl) (show (F83 43) = (F 43) by simp only [q_87, i_as])
                rcases u89b with q | q
                · exact absurd q (show ¬ 0 < (F83 44).toInt by rw [u83a]; decide)
                · skip
                  have h_96 : sgn K V (F83 42) (29 : Int32) = false := by
                    rw [← g_84, ← g_85]
                    have q := q
                    first | exact q | (simp only [q_87, i_as] at q; exact q)
                  unfold mb_statement_198
                  refine PP.ite (fun _ => ?_) (fun c_97 => absurd (by decide) c_97)
                  unfold mb_statement_205
                  unfold mb_statement_206
                  refine PP.ret ?_
                  refine Or.inr ⟨rfl, u89.1, (rfl : (rstatement K V fu r (F 42) (F 43)) = _).trans ?_⟩
                  first | with_reducible rfl | (simp only [rstatement, rput, rclose, h_30, h_42, h_66, h_69, h_79, h_82, h_86, h_96, q_87, q_94, q_95, i_as, fup, i_a0, i0m, i10, eq_self, rb_yes, rb_no, ryes, rno, if_true, if_false, f_tt (p := True), reduceIte, Nat.reduceEqDiff]) | rfl
            · dsimp only
              have g_98 : G83 4 = K := Eq.trans (hK83.2 4 rfl) g4
              have g_99 : G83 5 = V := Eq.trans (hK83.2 5 rfl) g5
              have h_100 : rtell K V fu (1 : Int32) (F 42) (F 43) = some (none) := u83
              unfold mb_statement_189
              refine PP.ite (fun _ => ?_) (fun c_101 => absurd (by decide) c_101)
              unfold mb_statement_205
              unfold mb_statement_206
              refine PP.ret ?_
              refine Or.inr ⟨rfl, u83a, (rfl : (rstatement K V fu r (F 42) (F 43)) = _).trans ?_⟩
              first | with_reducible rfl | (simp only [rstatement, rput, rclose, h_30, h_42, h_66, h_69, h_79, h_82, h_100, i_as, fup, i_a0, i0m, i10, eq_self, rb_yes, rb_no, ryes, rno, if_true, if_false, f_tt (p := True), reduceIte, Nat.reduceEqDiff]) | rfl
          have h_102 : ¬ V (F 42).toNatClampNeg = (0 : Int32) := by
            rw [← g5]
            have q := c_80
            first | exact q | (simp only [i_as] at q; exact q)
          refine PP.ite (fun c_103 => ?_) (fun c_103 => ?_)
          · skip
            have h_104 : V (F 42).toNatClampNeg = (1 : Int32) := by
              rw [← g5]
              have q := c_103
              first | exact q | (simp only [i_as] at q; exact q)
            have h_105 := eq_true h_104
            unfold mb_statement_184
            refine PP.bind (PP.and (mw_tellHere (1 : Int32) F G) (mr_tellHere (1 : Int32) F G g4 g5 (show F 44 = 0 from h44))) ?_
            rintro r106 F106 G106 ⟨hK106, (⟨rfl, u106a, u106b, u106⟩ | ⟨rfl, u106a, u106⟩)⟩
            · dsimp only
              have g_107 : G106 4 = K := Eq.trans (hK106.2 4 rfl) g4
              have g_108 : G106 5 = V := Eq.trans (hK106.2 5 rfl) g5
              have h_109 : rtell K V fu (1 : Int32) (F 42) (F 43) = some (some (F106 42)) := u106
              have q_110 : F106 43 = (F 43) := (show F106 43 = (F 43) from u106b)
              unfold mb_statement_189
              refine PP.ite (fun c_111 => absurd c_111 (by decide)) (fun _ => ?_)
              unfold mb_statement_192
              refine PP.bind (mp_sign (29 : Int32) F106 G106) ?_
              rintro r112 F112 G112 (⟨rfl, rfl, rfl, u112⟩ | ⟨rfl, u112, u112b⟩)
              · dsimp only
                have h_113 : sgn K V (F106 42) (29 : Int32) = true := by
                  rw [← g_107, ← g_108]
                  have q := u112.1
                  first | exact q | (simp only [q_110, i_as] at q; exact q)
                unfold mb_statement_198
                refine PP.ite (fun c_114 => absurd c_114 (by decide)) (fun _ => ?_)
                unfold mb_statement_201
                unfold mb_statement_206
                refine PP.ret ?_
                refine Or.inl ⟨rfl, u106a, ?_, (rfl : (rstatement K V fu r (F 42) (F 43)) = _).trans ?_⟩
                · show (F106 43) = F 43
                  first | with_reducible rfl | (simp only [q_110, i_as, fup, Nat.reduceEqDiff, reduceIte, if_false]) | rfl
                · show _ = some (some ((F106 42) + (1 : Int32)))
                  first | with_reducible rfl | (simp only [rstatement, rput, rclose, h_30, h_42, h_66, h_69, h_79, h_102, h_105, h_109, h_113, q_110, i_as, fup, i_a0, i0m, i10, eq_self, rb_yes, rb_no, ryes, rno, if_true, if_false, f_tt (p := True), reduceIte, Nat.reduceEqDiff]) | rfl
              · dsimp only
                have g_115 : G112 4 = K := Eq.trans (u112.2.2.2 4 rfl) g_107
                have g_116 : G112 5 = V := Eq.trans (u112.2.2.2 5 rfl) g_108
                have q_117 : F112 42 = (F106 42) := u112.2.2.1 42 rfl
                have q_118 : F112 43 = (F 43) := Eq.trans (u112.2.2.1 43 rfl) (show (F106 43) = (F 43) by simp only [q_110, i_as])
                rcases u112b with q | q
                · exact absurd q (show ¬ 0 < (F106 44).toInt by rw [u106a]; decide)
                · skip
                  have h_119 : sgn K V (F106 42) (29 : Int32) = false := by
                    rw [← g_107, ← g_108]
                    have q := q
                    first | exact q | (simp only [q_110, i_as] at q; exact q)
                  unfold mb_statement_198
                  refine PP.ite (fun _ => ?_) (fun c_120 => absurd (by decide) c_120)
                  unfold mb_statement_205
                  unfold mb_statement_206
                  refine PP.ret ?_
                  refine Or.inr ⟨rfl, u112.1, (rfl : (rstatement K V fu r (F 42) (F 43)) = _).trans ?_⟩
                  first | with_reducible rfl | (simp only [rstatement, rput, rclose, h_30, h_42, h_66, h_69, h_79, h_102, h_105, h_109, h_119, q_110, q_117, q_118, i_as, fup, i_a0, i0m, i10, eq_self, rb_yes, rb_no, ryes, rno, if_true, if_false, f_tt (p := True), reduceIte, Nat.reduceEqDiff]) | rfl
            · dsimp only
              have g_121 : G106 4 = K := Eq.trans (hK106.2 4 rfl) g4
              have g_122 : G106 5 = V := Eq.trans (hK106.2 5 rfl) g5
              have h_123 : rtell K V fu (1 : Int32) (F 42) (F 43) = some (none) := u106
              unfold mb_statement_189
              refine PP.ite (fun _ => ?_) (fun c_124 => absurd (by decide) c_124)
              unfold mb_statement_205
              unfold mb_statement_206
              refine PP.ret ?_
              refine Or.inr ⟨rfl, u106a, (rfl : (rstatement K V fu r (F 42) (F 43)) = _).trans ?_⟩
              first | with_reducible rfl | (simp only [rstatement, rput, rclose, h_30, h_42, h_66, h_69, h_79, h_102, h_105, h_123, i_as, fup, i_a0, i0m, i10, eq_self, rb_yes, rb_no, ryes, rno, if_true, if_false, f_tt (p := True), reduceIte, Nat.reduceEqDiff]) | rfl
          have h_125 : ¬ V (F 42).toNatClampNeg = (1 : Int32) := by
            rw [← g5]
            have q := c_103
            first | exact q | (simp only [i_as] at q; exact q)
          refine PP.ite (fun c_126 => ?_) (fun c_126 => ?_)
          · skip
            have h_127 : V (F 42).toNatClampNeg = (2 : Int32) := by
              rw [← g5]
              have q := c_126
              first | exact q | (simp only [i_as] at q; exact q)
            have h_128 := eq_true h_127
            unfold mb_statement_306
            refine PP.bind (mp_fails (2 : Int32) (by decide) F G) ?_
            rintro r129 F129 G129 ⟨rfl, u129⟩
            dsimp only
            have g_130 : G129 4 = K := Eq.trans (u129.2.2.2 4 rfl) g4
            have g_131 : G129 5 = V := Eq.trans (u129.2.2.2 5 rfl) g5
            have q_132 : F129 42 = (F 42) := u129.2.2.1 42 rfl
            have q_133 : F129 43 = (F 43) := u129.2.2.1 43 rfl
            unfold mb_statement_311
            refine PP.ret ?_
            refine Or.inr ⟨rfl, u129.1, (rfl : (rstatement K V fu r (F 42) (F 43)) = _).trans ?_⟩
            first | with_reducible rfl | (simp only [rstatement, rput, rclose, h_30, h_42, h_66, h_69, h_79, h_102, h_125, h_128, q_132, q_133, i_as, fup, i_a0, i0m, i10, eq_self, rb_yes, rb_no, ryes, rno, if_true, if_false, f_tt (p := True), reduceIte, Nat.reduceEqDiff]) | rfl
          have h_134 : ¬ V (F 42).toNatClampNeg = (2 : Int32) := by
            rw [← g5]
            have q := c_126
            first | exact q | (simp only [i_as] at q; exact q)
          refine PP.ite (fun c_135 => ?_) (fun c_135 => ?_)
          · skip
            have h_136 : V (F 42).toNatClampNeg = (3 : Int32) := by
              rw [← g5]
              have q := c_135
              first | exact q | (simp only [i_as] at q; exact q)
            have h_137 := eq_true h_136
            unfold mb_statement_306
            refine PP.bind (mp_fails (2 : Int32) (by decide) F G) ?_
            rintro r138 F138 G138 ⟨rfl, u138⟩
            dsimp only
            have g_139 : G138 4 = K := Eq.trans (u138.2.2.2 4 rfl) g4
            have g_140 : G138 5 = V := Eq.trans (u138.2.2.2 5 rfl) g5
            have q_141 : F138 42 = (F 42) := u138.2.2.1 42 rfl
            have q_142 : F138 43 = (F 43) := u138.2.2.1 43 rfl
            unfold mb_statement_311
            refine PP.ret ?_
            refine Or.inr ⟨rfl, u138.1, (rfl : (rstatement K V fu r (F 42) (F 43)) = _).trans ?_⟩
            first | with_reducible rfl | (simp only [rstatement, rput, rclose, h_30, h_42, h_66, h_69, h_79, h_102, h_125, h_134, h_137, q_141, q_142, i_as, fup, i_a0, i0m, i10, eq_self, rb_yes, rb_no, ryes, rno, if_true, if_false, f_tt (p := True), reduceIte, Nat.reduceEqDiff]) | rfl
          have h_143 : ¬ V (F 42).toNatClampNeg = (3 : Int32) := by
            rw [← g5]
            have q := c_135
            first | exact q | (simp only [i_as] at q; exact q)
          refine PP.ite (fun c_144 => ?_) (fun c_144 => ?_)
          · skip
            have h_145 : V (F 42).toNatClampNeg = (4 : Int32) := by
              rw [← g5]
              have q := c_144
              first | exact q | (simp only [i_as] at q; exact q)
            have h_146 := eq_true h_145
            unfold mb_statement_207
            refine PP.bind (PP.and (ihK 2 0 0 F G) (ih 2 0 0 F G g4 g5 (show F 44 = 0 from h44))) ?_
            rintro r147 F147 G147 ⟨hK147, (⟨rfl, u147a, u147b, u147⟩ | ⟨rfl, u147a, u147⟩)⟩
            · dsimp only
              have g_148 : G147 4 = K := Eq.trans (hK147.2 4 rfl) g4
              have g_149 : G147 5 = V := Eq.trans (hK147.2 5 rfl) g5
              have h_150 : r 2 (F 42) (F 43) = some (some (F147 42)) := u147
              have q_151 : F147 43 = (F 43) := (show F147 43 = (F 43) from u147b)
              unfold mb_statement_211
              refine PP.ret ?_
              refine Or.inl ⟨rfl, u147a, ?_, (rfl : (rstatement K V fu r (F 42) (F 43)) = _).trans ?_⟩
              · show (F147 43) = F 43
                first | with_reducible rfl | (simp only [q_151, i_as, fup, Nat.reduceEqDiff, reduceIte, if_false]) | rfl
              · show _ = some (some (F147 42))
                first | with_reducible rfl | (simp only [rstatement, rput, rclose, h_30, h_42, h_66, h_69, h_79, h_102, h_125, h_134, h_143, h_146, h_150, q_151, i_as, fup, i_a0, i0m, i10, eq_self, rb_yes, rb_no, ryes, rno, if_true, if_false, f_tt (p := True), reduceIte, Nat.reduceEqDiff]) | rfl
            · dsimp only
              have g_152 : G147 4 = K := Eq.trans (hK147.2 4 rfl) g4
              have g_153 : G147 5 = V := Eq.trans (hK147.2 5 rfl) g5
              have h_154 : r 2 (F 42) (F 43) = some (none) := u147
              unfold mb_statement_211
              refine PP.ret ?_
              refine Or.inr ⟨rfl, u147a, (rfl : (rstatement K V fu r (F 42) (F 43)) = _).trans ?_⟩
              first | with_reducible rfl | (simp only [rstatement, rput, rclose, h_30, h_42, h_66, h_69, h_79, h_102, h_125, h_134, h_143, h_146, h_154, i_as, fup, i_a0, i0m, i10, eq_self, rb_yes, rb_no, ryes, rno, if_true, if_false, f_tt (p := True), reduceIte, Nat.reduceEqDiff]) | rfl
          have h_155 : ¬ V (F 42).toNatClampNeg = (4 : Int32) := by
            rw [← g5]
            have q := c_144
            first | exact q | (simp only [i_as] at q; exact q)
          refine PP.ite (fun c_156 => ?_) (fun c_156 => ?_)
          · skip
            have h_157 : V (F 42).toNatClampNeg = (5 : Int32) := by
              rw [← g5]
              have q := c_156
              first | exact q | (simp only [i_as] at q; exact q)
            have h_158 := eq_true h_157
            unfold mb_statement_306
            refine PP.bind (mp_fails (2 : Int32) (by decide) F G) ?_
            rintro r159 F159 G159 ⟨rfl, u159⟩
            dsimp only
            have g_160 : G159 4 = K := Eq.trans (u159.2.2.2 4 rfl) g4
            have g_161 : G159 5 = V := Eq.trans (u159.2.2.2 5 rfl) g5
            have q_162 : F159 42 = (F 42) := u159.2.2.1 42 rfl
            have q_163 : F159 43 = (F 43) := u159.2.2.1 43 rfl
            unfold mb_statement_311
            refine PP.ret ?_
            refine Or.inr ⟨rfl, u159.1, (rfl : (rstatement K V fu r (F 42) (F 43)) = _).trans ?_⟩
            first | with_reducible rfl | (simp only [rstatement, rput, rclose, h_30, h_42, h_66, h_69, h_79, h_102, h_125, h_134, h_143, h_155, h_158, q_162, q_163, i_as, fup, i_a0, i0m, i10, eq_self, rb_yes, rb_no, ryes, rno, if_true, if_false, f_tt (p := True), reduceIte, Nat.reduceEqDiff]) | rfl
          have h_164 : ¬ V (F 42).toNatClampNeg = (5 : Int32) := by
            rw [← g5]
            have q := c_156
            first | exact q | (simp only [i_as] at q; exact q)
          refine PP.ite (fun c_165 => ?_) (fun c_165 => ?_)
          · skip
            have h_166 : V (F 42).toNatClampNeg = (6 : Int32) := by
              rw [← g5]
              have q := c_165
              first | exact q | (simp only [i_as] at q; exact q)
            have h_167 := eq_true h_166
            unfold mb_statement_212
            refine PP.bind (PP.and (ihK 4 0 0 F G) (ih 4 0 0 F G g4 g5 (show F 44 = 0 from h44))) ?_
            rintro r168 F168 G168 ⟨hK168, (⟨rfl, u168a, u168b, u168⟩ | ⟨rfl, u168a, u168⟩)⟩
            · dsimp only
              have g_169 : G168 4 = K := Eq.trans (hK168.2 4 rfl) g4
              have g_170 : G168 5 = V := Eq.trans (hK168.2 5 rfl) g5
              have h_171 : r 4 (F 42) (F 43) = some (some (F168 42)) := u168
              have q_172 : F168 43 = (F 43) := (show F168 43 = (F 43) from u168b)
              unfold mb_statement_216
              refine PP.ret ?_
              refine Or.inl ⟨rfl, u168a, ?_, (rfl : (rstatement K V fu r (F 42) (F 43)) = _).trans ?_⟩
              · show (F168 43) = F 43
                first | with_reducible rfl | (simp only [q_172, i_as, fup, Nat.reduceEqDiff, reduceIte, if_false]) | rfl
              · show _ = some (some (F168 42))
                first | with_reducible rfl | (simp only [rstatement, rput, rclose, h_30, h_42, h_66, h_69, h_79, h_102, h_125, h_134, h_143, h_155, h_164, h_167, h_171, q_172, i_as, fup, i_a0, i0m, i10, eq_self, rb_yes, rb_no, ryes, rno, if_true, if_false, f_tt (p := True), reduceIte, Nat.reduceEqDiff]) | rfl
            · dsimp only
              have g_173 : G168 4 = K := Eq.trans (hK168.2 4 rfl) g4
              have g_174 : G168 5 = V := Eq.trans (hK168.2 5 rfl) g5
              have h_175 : r 4 (F 42) (F 43) = some (none) := u168
              unfold mb_statement_216
              refine PP.ret ?_
              refine Or.inr ⟨rfl, u168a, (rfl : (rstatement K V fu r (F 42) (F 43)) = _).trans ?_⟩
              first | with_reducible rfl | (simp only [rstatement, rput, rclose, h_30, h_42, h_66, h_69, h_79, h_102, h_125, h_134, h_143, h_155, h_164, h_167, h_175, i_as, fup, i_a0, i0m, i10, eq_self, rb_yes, rb_no, ryes, rno, if_true, if_false, f_tt (p := True), reduceIte, Nat.reduceEqDiff]) | rfl
          have h_176 : ¬ V (F 42).toNatClampNeg = (6 : Int32) := by
            rw [← g5]
            have q := c_165
            first | exact q | (simp only [i_as] at q; exact q)
          refine PP.ite (fun c_177 => ?_) (fun c_177 => ?_)
          · skip
            have h_178 : V (F 42).toNatClampNeg = (7 : Int32) := by
              rw [← g5]
              have q := c_177
              first | exact q | (simp only [i_as] at q; exact q)
            have h_179 := eq_true h_178
            unfold mb_statement_217
            refine PP.bind (PP.and (ihK 7 0 0 F G) (ih 7 0 0 F G g4 g5 (show F 44 = 0 from h44))) ?_
            rintro r180 F180 G180 ⟨hK180, (⟨rfl, u180a, u180b, u180⟩ | ⟨rfl, u180a, u180⟩)⟩
            · dsimp only
              have g_181 : G180 4 = K := Eq.trans (hK180.2 4 rfl) g4
              have g_182 : G180 5 = V := Eq.trans (hK180.2 5 rfl) g5
              have h_183 : r 7 (F 42) (F 43) = some (some (F180 42)) := u180
              have q_184 : F180 43 = (F 43) := (show F180 43 = (F 43) from u180b)
              unfold mb_statement_221
              refine PP.ret ?_
              refine Or.inl ⟨rfl, u180a, ?_, (rfl : (rstatement K V fu r (F 42) (F 43)) = _).trans ?_⟩
              · show (F180 43) = F 43
                first | with_reducible rfl | (simp only [q_184, i_as, fup, Nat.reduceEqDiff, reduceIte, if_false]) | rfl
              · show _ = some (some (F180 42))
                first | with_reducible rfl | (simp only [rstatement, rput, rclose, h_30, h_42, h_66, h_69, h_79, h_102, h_125, h_134, h_143, h_155, h_164, h_176, h_179, h_183, q_184, i_as, fup, i_a0, i0m, i10, eq_self, rb_yes, rb_no, ryes, rno, if_true, if_false, f_tt (p := True), reduceIte, Nat.reduceEqDiff]) | rfl
            · dsimp only
              have g_185 : G180 4 = K := Eq.trans (hK180.2 4 rfl) g4
              have g_186 : G180 5 = V := Eq.trans (hK180.2 5 rfl) g5
              have h_187 : r 7 (F 42) (F 43) = some (none) := u180
              unfold mb_statement_221
              refine PP.ret ?_
              refine Or.inr ⟨rfl, u180a, (rfl : (rstatement K V fu r (F 42) (F 43)) = _).trans ?_⟩
              first | with_reducible rfl | (simp only [rstatement, rput, rclose, h_30, h_42, h_66, h_69, h_79, h_102, h_125, h_134, h_143, h_155, h_164, h_176, h_179, h_187, i_as, fup, i_a0, i0m, i10, eq_self, rb_yes, rb_no, ryes, rno, if_true, if_false, f_tt (p := True), reduceIte, Nat.reduceEqDiff]) | rfl
          have h_188 : ¬ V (F 42).toNatClampNeg = (7 : Int32) := by
            rw [← g5]
            have q := c_177
            first | exact q | (simp only [i_as] at q; exact q)
          refine PP.ite (fun c_189 => ?_) (fun c_189 => ?_)
          · skip
            have h_190 : V (F 42).toNatClampNeg = (8 : Int32) := by
              rw [← g5]
              have q := c_189
              first | exact q | (simp only [i_as] at q; exact q)
            have h_191 := eq_true h_190
            unfold mb_statement_222
            refine PP.bind (PP.and (ihK 3 0 0 F G) (ih 3 0 0 F G g4 g5 (show F 44 = 0 from h44))) ?_
            rintro r192 F192 G192 ⟨hK192, (⟨rfl, u192a, u192b, u192⟩ | ⟨rfl, u192a, u192⟩)⟩
            · dsimp only
              have g_193 : G192 4 = K := Eq.trans (hK192.2 4 rfl) g4
              have g_194 : G192 5 = V := Eq.trans (hK192.2 5 rfl) g5
              have h_195 : r 3 (F 42) (F 43) = some (some (F192 42)) := u192
              have q_196 : F192 43 = (F 43) := (show F192 43 = (F 43) from u192b)
              unfold mb_statement_226
              refine PP.ret ?_
              refine Or.inl ⟨rfl, u192a, ?_, (rfl : (rstatement K V fu r (F 42) (F 43)) = _).trans ?_⟩
              · show (F192 43) = F 43
                first | with_reducible rfl | (simp only [q_196, i_as, fup, Nat.reduceEqDiff, reduceIte, if_false]) | rfl
              · show _ = some (some (F192 42))
                first | with_reducible rfl | (simp only [rstatement, rput, rclose, h_30, h_42, h_66, h_69, h_79, h_102, h_125, h_134, h_143, h_155, h_164, h_176, h_188, h_191, h_195, q_196, i_as, fup, i_a0, i0m, i10, eq_self, rb_yes, rb_no, ryes, rno, if_true, if_false, f_tt (p := True), reduceIte, Nat.reduceEqDiff]) | rfl
            · dsimp only
              have g_197 : G192 4 = K := Eq.trans (hK192.2 4 rfl) g4
              have g_198 : G192 5 = V := Eq.trans (hK192.2 5 rfl) g5
              have h_199 : r 3 (F 42) (F 43) = some (none) := u192
              unfold mb_statement_226
              refine PP.ret ?_
              refine Or.inr ⟨rfl, u192a, (rfl : (rstatement K V fu r (F 42) (F 43)) = _).trans ?_⟩
              first | with_reducible rfl | (simp only [rstatement, rput, rclose, h_30, h_42, h_66, h_69, h_79, h_102, h_125, h_134, h_143, h_155, h_164, h_176, h_188, h_191, h_199, i_as, fup, i_a0, i0m, i10, eq_self, rb_yes, rb_no, ryes, rno, if_true, if_false, f_tt (p := True), reduceIte, Nat.reduceEqDiff]) | rfl
          have h_200 : ¬ V (F 42).toNatClampNeg = (8 : Int32) := by
            rw [← g5]
            have q := c_189
            first | exact q | (simp only [i_as] at q; exact q)
          refine PP.ite (fun c_201 => ?_) (fun c_201 => ?_)
          · skip
            have h_202 : V (F 42).toNatClampNeg = (9 : Int32) := by
              rw [← g5]
              have q := c_201
              first | exact q | (simp only [i_as] at q; exact q)
            have h_203 := eq_true h_202
            unfold mb_statement_227
            refine PP.bind (PP.and (mw_leaves F G) (mr_leaves F G g4 g5 (show F 44 = 0 from h44))) ?_
            rintro r204 F204 G204 ⟨hK204, (⟨rfl, u204a, u204b, u204⟩ | ⟨rfl, u204a, u204⟩)⟩
            · dsimp only
              have g_205 : G204 4 = K := Eq.trans (hK204.2 4 rfl) g4
              have g_206 : G204 5 = V := Eq.trans (hK204.2 5 rfl) g5
              have q_207 : F204 43 = (F 43) := hK204.1 43 rfl
              have h_208 : rleaves K V (F 42) = some (some (F204 42)) := u204
              have q_209 : F204 43 = (F 43) := (show F204 43 = (F 43) from u204b)
              unfold mb_statement_231
              refine PP.ret ?_
              refine Or.inl ⟨rfl, u204a, ?_, (rfl : (rstatement K V fu r (F 42) (F 43)) = _).trans ?_⟩
              · show (F204 43) = F 43
                first | with_reducible rfl | (simp only [q_209, i_as, fup, Nat.reduceEqDiff, reduceIte, if_false]) | rfl
              · show _ = some (some (F204 42))
                first | with_reducible rfl | (simp only [rstatement, rput, rclose, h_30, h_42, h_66, h_69, h_79, h_102, h_125, h_134, h_143, h_155, h_164, h_176, h_188, h_200, h_203, h_208, q_209, i_as, fup, i_a0, i0m, i10, eq_self, rb_yes, rb_no, ryes, rno, if_true, if_false, f_tt (p := True), reduceIte, Nat.reduceEqDiff]) | rfl
            · dsimp only
              have g_210 : G204 4 = K := Eq.trans (hK204.2 4 rfl) g4
              have g_211 : G204 5 = V := Eq.trans (hK204.2 5 rfl) g5
              have q_212 : F204 43 = (F 43) := hK204.1 43 rfl
              have h_213 : rleaves K V (F 42) = some (none) := u204
              unfold mb_statement_231
              refine PP.ret ?_
              refine Or.inr ⟨rfl, u204a, (rfl : (rstatement K V fu r (F 42) (F 43)) = _).trans ?_⟩
              first | with_reducible rfl | (simp only [rstatement, rput, rclose, h_30, h_42, h_66, h_69, h_79, h_102, h_125, h_134, h_143, h_155, h_164, h_176, h_188, h_200, h_203, h_213, q_212, i_as, fup, i_a0, i0m, i10, eq_self, rb_yes, rb_no, ryes, rno, if_true, if_false, f_tt (p := True), reduceIte, Nat.reduceEqDiff]) | rfl
          have h_214 : ¬ V (F 42).toNatClampNeg = (9 : Int32) := by
            rw [← g5]
            have q := c_201
            first | exact q | (simp only [i_as] at q; exact q)
          refine PP.ite (fun c_215 => ?_) (fun c_215 => ?_)
          · skip
            have h_216 : V (F 42).toNatClampNeg = (10 : Int32) := by
              rw [← g5]
              have q := c_215
              first | exact q | (simp only [i_as] at q; exact q)
            have h_217 := eq_true h_216
            unfold mb_statement_227
            refine PP.bind (PP.and (mw_leaves F G) (mr_leaves F G g4 g5 (show F 44 = 0 from h44))) ?_
            rintro r218 F218 G218 ⟨hK218, (⟨rfl, u218a, u218b, u218⟩ | ⟨rfl, u218a, u218⟩)⟩
            · dsimp only
              have g_219 : G218 4 = K := Eq.trans (hK218.2 4 rfl) g4
              have g_220 : G218 5 = V := Eq.trans (hK218.2 5 rfl) g5
              have q_221 : F218 43 = (F 43) := hK218.1 43 rfl
              have h_222 : rleaves K V (F 42) = some (some (F218 42)) := u218
              have q_223 : F218 43 = (F 43) := (show F218 43 = (F 43) from u218b)
              unfold mb_statement_231
              refine PP.ret ?_
              refine Or.inl ⟨rfl, u218a, ?_, (rfl : (rstatement K V fu r (F 42) (F 43)) = _).trans ?_⟩
              · show (F218 43) = F 43
                first | with_reducible rfl | (simp only [q_223, i_as, fup, Nat.reduceEqDiff, reduceIte, if_false]) | rfl
              · show _ = some (some (F218 42))
                first | with_reducible rfl | (simp only [rstatement, rput, rclose, h_30, h_42, h_66, h_69, h_79, h_102, h_125, h_134, h_143, h_155, h_164, h_176, h_188, h_200, h_214, h_217, h_222, q_223, i_as, fup, i_a0, i0m, i10, eq_self, rb_yes, rb_no, ryes, rno, if_true, if_false, f_tt (p := True), reduceIte, Nat.reduceEqDiff]) | rfl
            · dsimp only
              have g_224 : G218 4 = K := Eq.trans (hK218.2 4 rfl) g4
              have g_225 : G218 5 = V := Eq.trans (hK218.2 5 rfl) g5
              have q_226 : F218 43 = (F 43) := hK218.1 43 rfl
              have h_227 : rleaves K V (F 42) = some (none) := u218
              unfold mb_statement_231
              refine PP.ret ?_
              refine Or.inr ⟨rfl, u218a, (rfl : (rstatement K V fu r (F 42) (F 43)) = _).trans ?_⟩
              first | with_reducible rfl | (simp only [rstatement, rput, rclose, h_30, h_42, h_66, h_69, h_79, h_102, h_125, h_134, h_143, h_155, h_164, h_176, h_188, h_200, h_214, h_217, h_227, q_226, i_as, fup, i_a0, i0m, i10, eq_self, rb_yes, rb_no, ryes, rno, if_true, if_false, f_tt (p := True), reduceIte, Nat.reduceEqDiff]) | rfl
          have h_228 : ¬ V (F 42).toNatClampNeg = (10 : Int32) := by
            rw [← g5]
            have q := c_215
            first | exact q | (simp only [i_as] at q; exact q)
          refine PP.ite (fun c_229 => ?_) (fun c_229 => ?_)
          · skip
            have h_230 : V (F 42).toNatClampNeg = (11 : Int32) := by
              rw [← g5]
              have q := c_229
              first | exact q | (simp only [i_as] at q; exact q)
            have h_231 := eq_true h_230
            unfold mb_statement_232
            refine PP.bind (PP.and (mw_returns F G) (mr_returns F G g4 g5 (show F 44 = 0 from h44))) ?_
            rintro r232 F232 G232 ⟨hK232, (⟨rfl, u232a, u232b, u232⟩ | ⟨rfl, u232a, u232⟩)⟩
            · dsimp only
              have g_233 : G232 4 = K := Eq.trans (hK232.2 4 rfl) g4
              have g_234 : G232 5 = V := Eq.trans (hK232.2 5 rfl) g5
              have h_235 : rreturns K V fu (F 42) (F 43) = some (some (F232 42)) := u232
              have q_236 : F232 43 = (F 43) := (show F232 43 = (F 43) from u232b)
              unfold mb_statement_236
              refine PP.ret ?_
              refine Or.inl ⟨rfl, u232a, ?_, (rfl : (rstatement K V fu r (F 42) (F 43)) = _).trans ?_⟩
              · show (F232 43) = F 43
                first | with_reducible rfl | (simp only [q_236, i_as, fup, Nat.reduceEqDiff, reduceIte, if_false]) | rfl
              · show _ = some (some (F232 42))
                first | with_reducible rfl | (simp only [rstatement, rput, rclose, h_30, h_42, h_66, h_69, h_79, h_102, h_125, h_134, h_143, h_155, h_164, h_176, h_188, h_200, h_214, h_228, h_231, h_235, q_236, i_as, fup, i_a0, i0m, i10, eq_self, rb_yes, rb_no, ryes, rno, if_true, if_false, f_tt (p := True), reduceIte, Nat.reduceEqDiff]) | rfl
            · dsimp only
              have g_237 : G232 4 = K := Eq.trans (hK232.2 4 rfl) g4
              have g_238 : G232 5 = V := Eq.trans (hK232.2 5 rfl) g5
              have h_239 : rreturns K V fu (F 42) (F 43) = some (none) := u232
              unfold mb_statement_236
              refine PP.ret ?_
              refine Or.inr ⟨rfl, u232a, (rfl : (rstatement K V fu r (F 42) (F 43)) = _).trans ?_⟩
              first | with_reducible rfl | (simp only [rstatement, rput, rclose, h_30, h_42, h_66, h_69, h_79, h_102, h_125, h_134, h_143, h_155, h_164, h_176, h_188, h_200, h_214, h_228, h_231, h_239, i_as, fup, i_a0, i0m, i10, eq_self, rb_yes, rb_no, ryes, rno, if_true, if_false, f_tt (p := True), reduceIte, Nat.reduceEqDiff]) | rfl
          have h_240 : ¬ V (F 42).toNatClampNeg = (11 : Int32) := by
            rw [← g5]
            have q := c_229
            first | exact q | (simp only [i_as] at q; exact q)
          refine PP.ite (fun c_241 => ?_) (fun c_241 => ?_)
          · skip
            have h_242 : V (F 42).toNatClampNeg = (12 : Int32) := by
              rw [← g5]
              have q := c_241
              first | exact q | (simp only [i_as] at q; exact q)
            have h_243 := eq_true h_242
            unfold mb_statement_237
            refine PP.bind (mp_isWord (12 : Int32) F G) ?_
            rintro _ _ _ ⟨rfl, rfl, (⟨rfl, u244⟩ | ⟨rfl, u244⟩)⟩
            · dsimp only
              have h_245 : wdn K V (F 42) (12 : Int32) = true := by
                rw [← g4, ← g5]
                have q := u244
                first | exact q | (simp only [i_as] at q; exact q)
              unfold mb_statement_243
              refine PP.ite (fun c_246 => absurd c_246 (by decide)) (fun _ => ?_)
              unfold mb_statement_246
              unfold mb_statement_253
              unfold mb_statement_264
              refine PP.bind (mp_openSign (22 : Int32) (fup F 42 ((F 42) + (1 : Int32))) G) ?_
              rintro r247 F247 G247 (⟨rfl, rfl, rfl, u247⟩ | ⟨rfl, u247, u247b⟩)
              · dsimp only
                have h_248 : sgn K V ((F 42) + (1 : Int32)) (22 : Int32) = true := by
                  rw [← g4, ← g5]
                  have q := u247.1
                  first | exact q | (simp only [i_as] at q; exact q)
                have h_249 : ¬ (F 43) = 40 := by
                  have q : ¬ (F 43) = 40 := u247.2.1
                  first | exact q | (simp only [i_as] at q; exact q)
                unfold mb_statement_270
                refine PP.ite (fun c_250 => absurd c_250 (by decide)) (fun _ => ?_)
                unfold mb_statement_273
                refine PP.bind (PP.and (mw_expression (fup (fup (fup F 42 ((F 42) + (1 : Int32))) 43 ((F 43) + (1 : Int32))) 42 (((F 42) + (1 : Int32)) + (1 : Int32))) G) (mr_expression (fup (fup (fup F 42 ((F 42) + (1 : Int32))) 43 ((F 43) + (1 : Int32))) 42 (((F 42) + (1 : Int32)) + (1 : Int32))) G g4 g5 (show (fup (fup (fup F 42 ((F 42) + (1 : Int32))) 43 ((F 43) + (1 : Int32))) 42 (((F 42) + (1 : Int32)) + (1 : Int32))) 44 = 0 from h44))) ?_
                rintro r251 F251 G251 ⟨hK251, (⟨rfl, u251a, u251b, u251⟩ | ⟨rfl, u251a, u251⟩)⟩
                · dsimp only
                  have g_252 : G251 4 = K := Eq.trans (hK251.2 4 rfl) g4
                  have g_253 : G251 5 = V := Eq.trans (hK251.2 5 rfl) g5
                  have h_254 : rS1 K V fu 300 4 (((F 42) + (1 : Int32)) + (1 : Int32)) ((F 43) + (1 : Int32)) = some (some (F251 42)) := u251
                  have q_255 : F251 43 = ((F 43) + (1 : Int32)) := (show F251 43 = ((F 43) + (1 : Int32)) from u251b)
                  unfold mb_statement_277
                  refine PP.ite (fun c_256 => absurd c_256 (by decide)) (fun _ => ?_)
                  unfold mb_statement_280
                  refine PP.bind (mp_closeSign (23 : Int32) F251 G251) ?_
                  rintro r257 F257 G257 (⟨rfl, rfl, rfl, u257⟩ | ⟨rfl, u257, u257b⟩)
                  · dsimp only
                    have h_258 : sgn K V (F251 42) (23 : Int32) = true := by
                      rw [← g_252, ← g_253]
                      have q := u257.1
                      first | exact q | (simp only [q_255, i_as] at q; exact q)
                    unfold mb_statement_286
                    refine PP.ite (fun c_259 => absurd c_259 (by decide)) (fun _ => ?_)
                    unfold mb_statement_291
                    refine PP.bind (mw_step (19 : Int32) (0 : Int32) (0 : Int32) (fup (fup F251 42 ((F251 42) + (1 : Int32))) 43 ((F251 43) - (1 : Int32))) G251) ?_
                    intro r260 F260 G260 hK260
                    dsimp only
                    have g_261 : G260 4 = K := Eq.trans (hK260.2 4 rfl) g_252
                    have g_262 : G260 5 = V := Eq.trans (hK260.2 5 rfl) g_253
                    have q_263 : F260 42 = ((F251 42) + (1 : Int32)) := hK260.1 42 rfl
                    have q_264 : F260 43 = (F 43) := Eq.trans (hK260.1 43 rfl) (show ((F251 43) - (1 : Int32)) = (F 43) by simp only [q_255, i_as])
                    have q_265 : F260 44 = 0 := Eq.trans (hK260.1 44 rfl) u251a
                    unfold mb_statement_298
                    refine PP.bind (mp_sign (29 : Int32) F260 G260) ?_
                    rintro r266 F266 G266 (⟨rfl, rfl, rfl, u266⟩ | ⟨rfl, u266, u266b⟩)
                    · dsimp only
                      have h_267 : sgn K V ((F251 42) + (1 : Int32)) (29 : Int32) = true := by
                        rw [← g_261, ← g_262]
                        have q := u266.1
                        first | exact q | (simp only [q_263, q_264, i_as] at q; exact q)
                      unfold mb_statement_305
                      refine PP.ret ?_
                      refine Or.inl ⟨rfl, q_265, ?_, (rfl : (rstatement K V fu r (F 42) (F 43)) = _).trans ?_⟩
                      · show (F260 43) = F 43
                        first | with_reducible rfl | (simp only [q_255, q_263, q_264, i_as, fup, Nat.reduceEqDiff, reduceIte, if_false]) | rfl
                      · show _ = some (some ((F260 42) + (1 : Int32)))
                        first | with_reducible rfl | (simp only [rstatement, rput, rclose, h_30, h_42, h_66, h_69, h_79, h_102, h_125, h_134, h_143, h_155, h_164, h_176, h_188, h_200, h_214, h_228, h_240, h_243, h_245, h_248, h_249, h_254, h_258, h_267, q_255, q_263, q_264, i_as, fup, i_a0, i0m, i10, eq_self, rb_yes, rb_no, ryes, rno, if_true, if_false, f_tt (p := True), reduceIte, Nat.reduceEqDiff]) | rfl
                    · dsimp only
                      have g_268 : G266 4 = K := Eq.trans (u266.2.2.2 4 rfl) g_261
                      have g_269 : G266 5 = V := Eq.trans (u266.2.2.2 5 rfl) g_262
                      have q_270 : F266 42 = ((F251 42) + (1 : Int32)) := Eq.trans (u266.2.2.1 42 rfl) (show (F260 42) = ((F251 42) + (1 : Int32)) by simp only [q_263, q_264, i_as])
                      have q_271 : F266 43 = (F 43) := Eq.trans (u266.2.2.1 43 rfl) (show (F260 43) = (F 43) by simp only [q_263, q_264, i_as])
                      rcases u266b with q | q
                      · exact absurd q (show ¬ 0 < (F260 44).toInt by rw [q_265]; decide)
                      · skip
                        have h_272 : sgn K V ((F251 42) + (1 : Int32)) (29 : Int32) = false := by
                          rw [← g_261, ← g_262]
                          have q := q
                          first | exact q | (simp only [q_263, q_264, i_as] at q; exact q)
                        unfold mb_statement_305
                        refine PP.ret ?_
                        refine Or.inr ⟨rfl, u266.1, (rfl : (rstatement K V fu r (F 42) (F 43)) = _).trans ?_⟩
                        first | with_reducible rfl | (simp only [rstatement, rput, rclose, h_30, h_42, h_66, h_69, h_79, h_102, h_125, h_134, h_143, h_155, h_164, h_176, h_188, h_200, h_214, h_228, h_240, h_243, h_245, h_248, h_249, h_254, h_258, h_272, q_255, q_263, q_264, q_270, q_271, i_as, fup, i_a0, i0m, i10, eq_self, rb_yes, rb_no, ryes, rno, if_true, if_false, f_tt (p := True), reduceIte, Nat.reduceEqDiff]) | rfl
                  · dsimp only
                    have g_273 : G257 4 = K := Eq.trans (u257.2.2.2 4 rfl) g_252
                    have g_274 : G257 5 = V := Eq.trans (u257.2.2.2 5 rfl) g_253
                    have q_275 : F257 42 = (F251 42) := u257.2.2.1 42 rfl
                    have q_276 : F257 43 = ((F 43) + (1 : Int32)) := Eq.trans (u257.2.2.1 43 rfl) (show (F251 43) = ((F 43) + (1 : Int32)) by simp only [q_255, i_as])
                    rcases u257b with q | q
                    · exact absurd q (show ¬ 0 < (F251 44).toInt by rw [u251a]; decide)
                    · skip
                      have h_277 : sgn K V (F251 42) (23 : Int32) = false := by
                        rw [← g_252, ← g_253]
                        have q := q
                        first | exact q | (simp only [q_255, i_as] at q; exact q)
                      unfold mb_statement_286
                      refine PP.ite (fun _ => ?_) (fun c_278 => absurd (by decide) c_278)
                      unfold mb_statement_289
                      refine PP.ret ?_
                      refine Or.inr ⟨rfl, u257.1, (rfl : (rstatement K V fu r (F 42) (F 43)) = _).trans ?_⟩
                      first | with_reducible rfl | (simp only [rstatement, rput, rclose, h_30, h_42, h_66, h_69, h_79, h_102, h_125, h_134, h_143, h_155, h_164, h_176, h_188, h_200, h_214, h_228, h_240, h_243, h_245, h_248, h_249, h_254, h_277, q_255, q_275, q_276, i_as, fup, i_a0, i0m, i10, eq_self, rb_yes, rb_no, ryes, rno, if_true, if_false, f_tt (p := True), reduceIte, Nat.reduceEqDiff]) | rfl
                · dsimp only
                  have g_279 : G251 4 = K := Eq.trans (hK251.2 4 rfl) g4
                  have g_280 : G251 5 = V := Eq.trans (hK251.2 5 rfl) g5
                  have h_281 : rS1 K V fu 300 4 (((F 42) + (1 : Int32)) + (1 : Int32)) ((F 43) + (1 : Int32)) = some (none) := u251
                  unfold mb_statement_277
                  refine PP.ite (fun _ => ?_) (fun c_282 => absurd (by decide) c_282)
                  unfold mb_statement_289
                  refine PP.ret ?_
                  refine Or.inr ⟨rfl, u251a, (rfl : (rstatement K V fu r (F 42) (F 43)) = _).trans ?_⟩
                  first | with_reducible rfl | (simp only [rstatement, rput, rclose, h_30, h_42, h_66, h_69, h_79, h_102, h_125, h_134, h_143, h_155, h_164, h_176, h_188, h_200, h_214, h_228, h_240, h_243, h_245, h_248, h_249, h_281, i_as, fup, i_a0, i0m, i10, eq_self, rb_yes, rb_no, ryes, rno, if_true, if_false, f_tt (p := True), reduceIte, Nat.reduceEqDiff]) | rfl
              · dsimp only
                have g_283 : G247 4 = K := Eq.trans (u247.2.2.2 4 rfl) g4
                have g_284 : G247 5 = V := Eq.trans (u247.2.2.2 5 rfl) g5
                have q_285 : F247 42 = ((F 42) + (1 : Int32)) := u247.2.2.1 42 rfl
                have q_286 : F247 43 = (F 43) := u247.2.2.1 43 rfl
                rcases u247b with q | q | ⟨q, q1⟩
                · exact absurd q (show ¬ 0 < (F 44).toInt by rw [h44]; decide)
                · skip
                  have h_287 : sgn K V ((F 42) + (1 : Int32)) (22 : Int32) = false := by
                    rw [← g4, ← g5]
                    have q := q
                    first | exact q | (simp only [i_as] at q; exact q)
                  unfold mb_statement_270
                  refine PP.ite (fun _ => ?_) (fun c_288 => absurd (by decide) c_288)
                  unfold mb_statement_289
                  refine PP.ret ?_
                  refine Or.inr ⟨rfl, u247.1, (rfl : (rstatement K V fu r (F 42) (F 43)) = _).trans ?_⟩
                  first | with_reducible rfl | (simp only [rstatement, rput, rclose, h_30, h_42, h_66, h_69, h_79, h_102, h_125, h_134, h_143, h_155, h_164, h_176, h_188, h_200, h_214, h_228, h_240, h_243, h_245, h_287, q_285, q_286, i_as, fup, i_a0, i0m, i10, eq_self, rb_yes, rb_no, ryes, rno, if_true, if_false, f_tt (p := True), reduceIte, Nat.reduceEqDiff]) | rfl
                · skip
                  have h_289 : sgn K V ((F 42) + (1 : Int32)) (22 : Int32) = true := by
                    rw [← g4, ← g5]
                    have q := q
                    first | exact q | (simp only [i_as] at q; exact q)
                  have h_290 : ((F 43) = 40) = True := by
                    have q : (F 43) = 40 := q1
                    first | exact eq_true q | (simp only [i_as] at q; exact eq_true q)
                  unfold mb_statement_270
                  refine PP.ite (fun _ => ?_) (fun c_291 => absurd (by decide) c_291)
                  unfold mb_statement_289
                  refine PP.ret ?_
                  refine Or.inr ⟨rfl, u247.1, (rfl : (rstatement K V fu r (F 42) (F 43)) = _).trans ?_⟩
                  first | with_reducible rfl | (simp only [rstatement, rput, rclose, h_30, h_42, h_66, h_69, h_79, h_102, h_125, h_134, h_143, h_155, h_164, h_176, h_188, h_200, h_214, h_228, h_240, h_243, h_245, h_289, h_290, q_285, q_286, i_as, fup, i_a0, i0m, i10, eq_self, rb_yes, rb_no, ryes, rno, if_true, if_false, f_tt (p := True), reduceIte, Nat.reduceEqDiff]) | rfl
            · dsimp only
              have h_292 : wdn K V (F 42) (12 : Int32) = false := by
                rw [← g4, ← g5]
                have q := u244
                first | exact q | (simp only [i_as] at q; exact q)
              unfold mb_statement_243
              refine PP.ite (fun _ => ?_) (fun c_293 => absurd (by decide) c_293)
              unfold mb_statement_251
              unfold mb_statement_253
              unfold mb_statement_264
              refine PP.bind (mp_openSign (22 : Int32) (fup F 42 ((F 42) + (1 : Int32))) G) ?_
              rintro r294 F294 G294 (⟨rfl, rfl, rfl, u294⟩ | ⟨rfl, u294, u294b⟩)
              · dsimp only
                have h_295 : sgn K V ((F 42) + (1 : Int32)) (22 : Int32) = true := by
                  rw [← g4, ← g5]
                  have q := u294.1
                  first | exact q | (simp only [i_as] at q; exact q)
                have h_296 : ¬ (F 43) = 40 := by
                  have q : ¬ (F 43) = 40 := u294.2.1
                  first | exact q | (simp only [i_as] at q; exact q)
                unfold mb_statement_270
                refine PP.ite (fun c_297 => absurd c_297 (by decide)) (fun _ => ?_)
                unfold mb_statement_273
                refine PP.bind (PP.and (mw_expression (fup (fup (fup F 42 ((F 42) + (1 : Int32))) 43 ((F 43) + (1 : Int32))) 42 (((F 42) + (1 : Int32)) + (1 : Int32))) G) (mr_expression (fup (fup (fup F 42 ((F 42) + (1 : Int32))) 43 ((F 43) + (1 : Int32))) 42 (((F 42) + (1 : Int32)) + (1 : Int32))) G g4 g5 (show (fup (fup (fup F 42 ((F 42) + (1 : Int32))) 43 ((F 43) + (1 : Int32))) 42 (((F 42) + (1 : Int32)) + (1 : Int32))) 44 = 0 from h44))) ?_
                rintro r298 F298 G298 ⟨hK298, (⟨rfl, u298a, u298b, u298⟩ | ⟨rfl, u298a, u298⟩)⟩
                · dsimp only
                  have g_299 : G298 4 = K := Eq.trans (hK298.2 4 rfl) g4
                  have g_300 : G298 5 = V := Eq.trans (hK298.2 5 rfl) g5
                  have h_301 : rS1 K V fu 300 4 (((F 42) + (1 : Int32)) + (1 : Int32)) ((F 43) + (1 : Int32)) = some (some (F298 42)) := u298
                  have q_302 : F298 43 = ((F 43) + (1 : Int32)) := (show F298 43 = ((F 43) + (1 : Int32)) from u298b)
                  unfold mb_statement_277
                  refine PP.ite (fun c_303 => absurd c_303 (by decide)) (fun _ => ?_)
                  unfold mb_statement_280
                  refine PP.bind (mp_closeSign (23 : Int32) F298 G298) ?_
                  rintro r304 F304 G304 (⟨rfl, rfl, rfl, u304⟩ | ⟨rfl, u304, u304b⟩)
                  · dsimp only
                    have h_305 : sgn K V (F298 42) (23 : Int32) = true := by
                      rw [← g_299, ← g_300]
                      have q := u304.1
                      first | exact q | (simp only [q_302, i_as] at q; exact q)
                    unfold mb_statement_286
                    refine PP.ite (fun c_306 => absurd c_306 (by decide)) (fun _ => ?_)
                    unfold mb_statement_291
                    refine PP.bind (mw_step (20 : Int32) (0 : Int32) (0 : Int32) (fup (fup F298 42 ((F298 42) + (1 : Int32))) 43 ((F298 43) - (1 : Int32))) G298) ?_
                    intro r307 F307 G307 hK307
                    dsimp only
                    have g_308 : G307 4 = K := Eq.trans (hK307.2 4 rfl) g_299
                    have g_309 : G307 5 = V := Eq.trans (hK307.2 5 rfl) g_300
                    have q_310 : F307 42 = ((F298 42) + (1 : Int32)) := hK307.1 42 rfl
                    have q_311 : F307 43 = (F 43) := Eq.trans (hK307.1 43 rfl) (show ((F298 43) - (1 : Int32)) = (F 43) by simp only [q_302, i_as])
                    have q_312 : F307 44 = 0 := Eq.trans (hK307.1 44 rfl) u298a
                    unfold mb_statement_298
                    refine PP.bind (mp_sign (29 : Int32) F307 G307) ?_
                    rintro r313 F313 G313 (⟨rfl, rfl, rfl, u313⟩ | ⟨rfl, u313, u313b⟩)
                    · dsimp only
                      have h_314 : sgn K V ((F298 42) + (1 : Int32)) (29 : Int32) = true := by
                        rw [← g_308, ← g_309]
                        have q := u313.1
                        first | exact q | (simp only [q_310, q_311, i_as] at q; exact q)
                      unfold mb_statement_305
                      refine PP.ret ?_
                      refine Or.inl ⟨rfl, q_312, ?_, (rfl : (rstatement K V fu r (F 42) (F 43)) = _).trans ?_⟩
                      · show (F307 43) = F 43
                        first | with_reducible rfl | (simp only [q_302, q_310, q_311, i_as, fup, Nat.reduceEqDiff, reduceIte, if_false]) | rfl
                      · show _ = some (some ((F307 42) + (1 : Int32)))
                        first | with_reducible rfl | (simp only [rstatement, rput, rclose, h_30, h_42, h_66, h_69, h_79, h_102, h_125, h_134, h_143, h_155, h_164, h_176, h_188, h_200, h_214, h_228, h_240, h_243, h_292, h_295, h_296, h_301, h_305, h_314, q_302, q_310, q_311, i_as, fup, i_a0, i0m, i10, eq_self, rb_yes, rb_no, ryes, rno, if_true, if_false, f_tt (p := True), reduceIte, Nat.reduceEqDiff]) | rfl
                    · dsimp only
                      have g_315 : G313 4 = K := Eq.trans (u313.2.2.2 4 rfl) g_308
                      have g_316 : G313 5 = V := Eq.trans (u313.2.2.2 5 rfl) g_309
                      have q_317 : F313 42 = ((F298 42) + (1 : Int32)) := Eq.trans (u313.2.2.1 42 rfl) (show (F307 42) = ((F298 42) + (1 : Int32)) by simp only [q_310, q_311, i_as])
                      have q_318 : F313 43 = (F 43) := Eq.trans (u313.2.2.1 43 rfl) (show (F307 43) = (F 43) by simp only [q_310, q_311, i_as])
                      rcases u313b with q | q
                      · exact absurd q (show ¬ 0 < (F307 44).toInt by rw [q_312]; decide)
                      · skip
                        have h_319 : sgn K V ((F298 42) + (1 : Int32)) (29 : Int32) = false := by
                          rw [← g_308, ← g_309]
                          have q := q
                          first | exact q | (simp only [q_310, q_311, i_as] at q; exact q)
                        unfold mb_statement_305
                        refine PP.ret ?_
                        refine Or.inr ⟨rfl, u313.1, (rfl : (rstatement K V fu r (F 42) (F 43)) = _).trans ?_⟩
                        first | with_reducible rfl | (simp only [rstatement, rput, rclose, h_30, h_42, h_66, h_69, h_79, h_102, h_125, h_134, h_143, h_155, h_164, h_176, h_188, h_200, h_214, h_228, h_240, h_243, h_292, h_295, h_296, h_301, h_305, h_319, q_302, q_310, q_311, q_317, q_318, i_as, fup, i_a0, i0m, i10, eq_self, rb_yes, rb_no, ryes, rno, if_true, if_false, f_tt (p := True), reduceIte, Nat.reduceEqDiff]) | rfl
                  · dsimp only
                    have g_320 : G304 4 = K := Eq.trans (u304.2.2.2 4 rfl) g_299
                    have g_321 : G304 5 = V := Eq.trans (u304.2.2.2 5 rfl) g_300
                    have q_322 : F304 42 = (F298 42) := u304.2.2.1 42 rfl
                    have q_323 : F304 43 = ((F 43) + (1 : Int32)) := Eq.trans (u304.2.2.1 43 rfl) (show (F298 43) = ((F 43) + (1 : Int32)) by simp only [q_302, i_as])
                    rcases u304b with q | q
                    · exact absurd q (show ¬ 0 < (F298 44).toInt by rw [u298a]; decide)
                    · skip
                      have h_324 : sgn K V (F298 42) (23 : Int32) = false := by
                        rw [← g_299, ← g_300]
                        have q := q
                        first | exact q | (simp only [q_302, i_as] at q; exact q)
                      unfold mb_statement_286
                      refine PP.ite (fun _ => ?_) (fun c_325 => absurd (by decide) c_325)
                      unfold mb_statement_289
                      refine PP.ret ?_
                      refine Or.inr ⟨rfl, u304.1, (rfl : (rstatement K V fu r (F 42) (F 43)) = _).trans ?_⟩
                      first | with_reducible rfl | (simp only [rstatement, rput, rclose, h_30, h_42, h_66, h_69, h_79, h_102, h_125, h_134, h_143, h_155, h_164, h_176, h_188, h_200, h_214, h_228, h_240, h_243, h_292, h_295, h_296, h_301, h_324, q_302, q_322, q_323, i_as, fup, i_a0, i0m, i10, eq_self, rb_yes, rb_no, ryes, rno, if_true, if_false, f_tt (p := True), reduceIte, Nat.reduceEqDiff]) | rfl
                · dsimp only
                  have g_326 : G298 4 = K := Eq.trans (hK298.2 4 rfl) g4
                  have g_327 : G298 5 = V := Eq.trans (hK298.2 5 rfl) g5
                  have h_328 : rS1 K V fu 300 4 (((F 42) + (1 : Int32)) + (1 : Int32)) ((F 43) + (1 : Int32)) = some (none) := u298
                  unfold mb_statement_277
                  refine PP.ite (fun _ => ?_) (fun c_329 => absurd (by decide) c_329)
                  unfold mb_statement_289
                  refine PP.ret ?_
                  refine Or.inr ⟨rfl, u298a, (rfl : (rstatement K V fu r (F 42) (F 43)) = _).trans ?_⟩
                  first | with_reducible rfl | (simp only [rstatement, rput, rclose, h_30, h_42, h_66, h_69, h_79, h_102, h_125, h_134, h_143, h_155, h_164, h_176, h_188, h_200, h_214, h_228, h_240, h_243, h_292, h_295, h_296, h_328, i_as, fup, i_a0, i0m, i10, eq_self, rb_yes, rb_no, ryes, rno, if_true, if_false, f_tt (p := True), reduceIte, Nat.reduceEqDiff]) | rfl
              · dsimp only
                have g_330 : G294 4 = K := Eq.trans (u294.2.2.2 4 rfl) g4
                have g_331 : G294 5 = V := Eq.trans (u294.2.2.2 5 rfl) g5
                have q_332 : F294 42 = ((F 42) + (1 : Int32)) := u294.2.2.1 42 rfl
                have q_333 : F294 43 = (F 43) := u294.2.2.1 43 rfl
                rcases u294b with q | q | ⟨q, q1⟩
                · exact absurd q (show ¬ 0 < (F 44).toInt by rw [h44]; decide)
                · skip
                  have h_334 : sgn K V ((F 42) + (1 : Int32)) (22 : Int32) = false := by
                    rw [← g4, ← g5]
                    have q := q
                    first | exact q | (simp only [i_as] at q; exact q)
                  unfold mb_statement_270
                  refine PP.ite (fun _ => ?_) (fun c_335 => absurd (by decide) c_335)
                  unfold mb_statement_289
                  refine PP.ret ?_
                  refine Or.inr ⟨rfl, u294.1, (rfl : (rstatement K V fu r (F 42) (F 43)) = _).trans ?_⟩
                  first | with_reducible rfl | (simp only [rstatement, rput, rclose, h_30, h_42, h_66, h_69, h_79, h_102, h_125, h_134, h_143, h_155, h_164, h_176, h_188, h_200, h_214, h_228, h_240, h_243, h_292, h_334, q_332, q_333, i_as, fup, i_a0, i0m, i10, eq_self, rb_yes, rb_no, ryes, rno, if_true, if_false, f_tt (p := True), reduceIte, Nat.reduceEqDiff]) | rfl
                · skip
                  have h_336 : sgn K V ((F 42) + (1 : Int32)) (22 : Int32) = true := by
                    rw [← g4, ← g5]
                    have q := q
                    first | exact q | (simp only [i_as] at q; exact q)
                  have h_337 : ((F 43) = 40) = True := by
                    have q : (F 43) = 40 := q1
                    first | exact eq_true q | (simp only [i_as] at q; exact eq_true q)
                  unfold mb_statement_270
                  refine PP.ite (fun _ => ?_) (fun c_338 => absurd (by decide) c_338)
                  unfold mb_statement_289
                  refine PP.ret ?_
                  refine Or.inr ⟨rfl, u294.1, (rfl : (rstatement K V fu r (F 42) (F 43)) = _).trans ?_⟩
                  first | with_reducible rfl | (simp only [rstatement, rput, rclose, h_30, h_42, h_66, h_69, h_79, h_102, h_125, h_134, h_143, h_155, h_164, h_176, h_188, h_200, h_214, h_228, h_240, h_243, h_292, h_336, h_337, q_332, q_333, i_as, fup, i_a0, i0m, i10, eq_self, rb_yes, rb_no, ryes, rno, if_true, if_false, f_tt (p := True), reduceIte, Nat.reduceEqDiff]) | rfl
          have h_339 : ¬ V (F 42).toNatClampNeg = (12 : Int32) := by
            rw [← g5]
            have q := c_241
            first | exact q | (simp only [i_as] at q; exact q)
          refine PP.ite (fun c_340 => ?_) (fun c_340 => ?_)
          · skip
            have h_341 : V (F 42).toNatClampNeg = (13 : Int32) := by
              rw [← g5]
              have q := c_340
              first | exact q | (simp only [i_as] at q; exact q)
            have h_342 := eq_true h_341
            unfold mb_statement_306
            refine PP.bind (mp_fails (2 : Int32) (by decide) F G) ?_
            rintro r343 F343 G343 ⟨rfl, u343⟩
            dsimp only
            have g_344 : G343 4 = K := Eq.trans (u343.2.2.2 4 rfl) g4
            have g_345 : G343 5 = V := Eq.trans (u343.2.2.2 5 rfl) g5
            have q_346 : F343 42 = (F 42) := u343.2.2.1 42 rfl
            have q_347 : F343 43 = (F 43) := u343.2.2.1 43 rfl
            unfold mb_statement_311
            refine PP.ret ?_
            refine Or.inr ⟨rfl, u343.1, (rfl : (rstatement K V fu r (F 42) (F 43)) = _).trans ?_⟩
            first | with_reducible rfl | (simp only [rstatement, rput, rclose, h_30, h_42, h_66, h_69, h_79, h_102, h_125, h_134, h_143, h_155, h_164, h_176, h_188, h_200, h_214, h_228, h_240, h_339, h_342, q_346, q_347, i_as, fup, i_a0, i0m, i10, eq_self, rb_yes, rb_no, ryes, rno, if_true, if_false, f_tt (p := True), reduceIte, Nat.reduceEqDiff]) | rfl
          have h_348 : ¬ V (F 42).toNatClampNeg = (13 : Int32) := by
            rw [← g5]
            have q := c_340
            first | exact q | (simp only [i_as] at q; exact q)
          unfold mb_statement_237
          refine PP.bind (mp_isWord (12 : Int32) F G) ?_
          rintro _ _ _ ⟨rfl, rfl, (⟨rfl, u349⟩ | ⟨rfl, u349⟩)⟩
          · dsimp only
            have h_350 : wdn K V (F 42) (12 : Int32) = true := by
              rw [← g4, ← g5]
              have q := u349
              first | exact q | (simp only [i_as] at q; exact q)
            unfold mb_statement_243
            refine PP.ite (fun c_351 => absurd c_351 (by decide)) (fun _ => ?_)
            unfold mb_statement_246
            unfold mb_statement_253
            unfold mb_statement_264
            refine PP.bind (mp_openSign (22 : Int32) (fup F 42 ((F 42) + (1 : Int32))) G) ?_
            rintro r352 F352 G352 (⟨rfl, rfl, rfl, u352⟩ | ⟨rfl, u352, u352b⟩)
            · dsimp only
              have h_353 : sgn K V ((F 42) + (1 : Int32)) (22 : Int32) = true := by
                rw [← g4, ← g5]
                have q := u352.1
                first | exact q | (simp only [i_as] at q; exact q)
              have h_354 : ¬ (F 43) = 40 := by
                have q : ¬ (F 43) = 40 := u352.2.1
                first | exact q | (simp only [i_as] at q; exact q)
              unfold mb_statement_270
              refine PP.ite (fun c_355 => absurd c_355 (by decide)) (fun _ => ?_)
              unfold mb_statement_273
              refine PP.bind (PP.and (mw_expression (fup (fup (fup F 42 ((F 42) + (1 : Int32))) 43 ((F 43) + (1 : Int32))) 42 (((F 42) + (1 : Int32)) + (1 : Int32))) G) (mr_expression (fup (fup (fup F 42 ((F 42) + (1 : Int32))) 43 ((F 43) + (1 : Int32))) 42 (((F 42) + (1 : Int32)) + (1 : Int32))) G g4 g5 (show (fup (fup (fup F 42 ((F 42) + (1 : Int32))) 43 ((F 43) + (1 : Int32))) 42 (((F 42) + (1 : Int32)) + (1 : Int32))) 44 = 0 from h44))) ?_
              rintro r356 F356 G356 ⟨hK356, (⟨rfl, u356a, u356b, u356⟩ | ⟨rfl, u356a, u356⟩)⟩
              · dsimp only
                have g_357 : G356 4 = K := Eq.trans (hK356.2 4 rfl) g4
                have g_358 : G356 5 = V := Eq.trans (hK356.2 5 rfl) g5
                have h_359 : rS1 K V fu 300 4 (((F 42) + (1 : Int32)) + (1 : Int32)) ((F 43) + (1 : Int32)) = some (some (F356 42)) := u356
                have q_360 : F356 43 = ((F 43) + (1 : Int32)) := (show F356 43 = ((F 43) + (1 : Int32)) from u356b)
                unfold mb_statement_277
                refine PP.ite (fun c_361 => absurd c_361 (by decide)) (fun _ => ?_)
                unfold mb_statement_280
                refine PP.bind (mp_closeSign (23 : Int32) F356 G356) ?_
                rintro r362 F362 G362 (⟨rfl, rfl, rfl, u362⟩ | ⟨rfl, u362, u362b⟩)
                · dsimp only
                  have h_363 : sgn K V (F356 42) (23 : Int32) = true := by
                    rw [← g_357, ← g_358]
                    have q := u362.1
                    first | exact q | (simp only [q_360, i_as] at q; exact q)
                  unfold mb_statement_286
                  refine PP.ite (fun c_364 => absurd c_364 (by decide)) (fun _ => ?_)
                  unfold mb_statement_291
                  refine PP.bind (mw_step (19 : Int32) (0 : Int32) (0 : Int32) (fup (fup F356 42 ((F356 42) + (1 : Int32))) 43 ((F356 43) - (1 : Int32))) G356) ?_
                  intro r365 F365 G365 hK365
                  dsimp only
                  have g_366 : G365 4 = K := Eq.trans (hK365.2 4 rfl) g_357
                  have g_367 : G365 5 = V := Eq.trans (hK365.2 5 rfl) g_358
                  have q_368 : F365 42 = ((F356 42) + (1 : Int32)) := hK365.1 42 rfl
                  have q_369 : F365 43 = (F 43) := Eq.trans (hK365.1 43 rfl) (show ((F356 43) - (1 : Int32)) = (F 43) by simp only [q_360, i_as])
                  have q_370 : F365 44 = 0 := Eq.trans (hK365.1 44 rfl) u356a
                  unfold mb_statement_298
                  refine PP.bind (mp_sign (29 : Int32) F365 G365) ?_
                  rintro r371 F371 G371 (⟨rfl, rfl, rfl, u371⟩ | ⟨rfl, u371, u371b⟩)
                  · dsimp only
                    have h_372 : sgn K V ((F356 42) + (1 : Int32)) (29 : Int32) = true := by
                      rw [← g_366, ← g_367]
                      have q := u371.1
                      first | exact q | (simp only [q_368, q_369, i_as] at q; exact q)
                    unfold mb_statement_305
                    refine PP.ret ?_
                    refine Or.inl ⟨rfl, q_370, ?_, (rfl : (rstatement K V fu r (F 42) (F 43)) = _).trans ?_⟩
                    · show (F365 43) = F 43
                      first | with_reducible rfl | (simp only [q_360, q_368, q_369, i_as, fup, Nat.reduceEqDiff, reduceIte, if_false]) | rfl
                    · show _ = some (some ((F365 42) + (1 : Int32)))
                      first | with_reducible rfl | (simp only [rstatement, rput, rclose, h_30, h_42, h_66, h_69, h_79, h_102, h_125, h_134, h_143, h_155, h_164, h_176, h_188, h_200, h_214, h_228, h_240, h_339, h_348, h_350, h_353, h_354, h_359, h_363, h_372, q_360, q_368, q_369, i_as, fup, i_a0, i0m, i10, eq_self, rb_yes, rb_no, ryes, rno, if_true, if_false, f_tt (p := True), reduceIte, Nat.reduceEqDiff]) | rfl
                  · dsimp only
                    have g_373 : G371 4 = K := Eq.trans (u371.2.2.2 4 rfl) g_366
                    have g_374 : G371 5 = V := Eq.trans (u371.2.2.2 5 rfl) g_367
                    have q_375 : F371 42 = ((F356 42) + (1 : Int32)) := Eq.trans (u371.2.2.1 42 rfl) (show (F365 42) = ((F356 42) + (1 : Int32)) by simp only [q_368, q_369, i_as])
                    have q_376 : F371 43 = (F 43) := Eq.trans (u371.2.2.1 43 rfl) (show (F365 43) = (F 43) by simp only [q_368, q_369, i_as])
                    rcases u371b with q | q
                    · exact absurd q (show ¬ 0 < (F365 44).toInt by rw [q_370]; decide)
                    · skip
                      have h_377 : sgn K V ((F356 42) + (1 : Int32)) (29 : Int32) = false := by
                        rw [← g_366, ← g_367]
                        have q := q
                        first | exact q | (simp only [q_368, q_369, i_as] at q; exact q)
                      unfold mb_statement_305
                      refine PP.ret ?_
                      refine Or.inr ⟨rfl, u371.1, (rfl : (rstatement K V fu r (F 42) (F 43)) = _).trans ?_⟩
                      first | with_reducible rfl | (simp only [rstatement, rput, rclose, h_30, h_42, h_66, h_69, h_79, h_102, h_125, h_134, h_143, h_155, h_164, h_176, h_188, h_200, h_214, h_228, h_240, h_339, h_348, h_350, h_353, h_354, h_359, h_363, h_377, q_360, q_368, q_369, q_375, q_376, i_as, fup, i_a0, i0m, i10, eq_self, rb_yes, rb_no, ryes, rno, if_true, if_false, f_tt (p := True), reduceIte, Nat.reduceEqDiff]) | rfl
                · dsimp only
                  have g_378 : G362 4 = K := Eq.trans (u362.2.2.2 4 rfl) g_357
                  have g_379 : G362 5 = V := Eq.trans (u362.2.2.2 5 rfl) g_358
                  have q_380 : F362 42 = (F356 42) := u362.2.2.1 42 rfl
                  have q_381 : F362 43 = ((F 43) + (1 : Int32)) := Eq.trans (u362.2.2.1 43 rfl) (show (F356 43) = ((F 43) + (1 : Int32)) by simp only [q_360, i_as])
                  rcases u362b with q | q
                  · exact absurd q (show ¬ 0 < (F356 44).toInt by rw [u356a]; decide)
                  · skip
                    have h_382 : sgn K V (F356 42) (23 : Int32) = false := by
                      rw [← g_357, ← g_358]
                      have q := q
                      first | exact q | (simp only [q_360, i_as] at q; exact q)
                    unfold mb_statement_286
                    refine PP.ite (fun _ => ?_) (fun c_383 => absurd (by decide) c_383)
                    unfold mb_statement_289
                    refine PP.ret ?_
                    refine Or.inr ⟨rfl, u362.1, (rfl : (rstatement K V fu r (F 42) (F 43)) = _).trans ?_⟩
                    first | with_reducible rfl | (simp only [rstatement, rput, rclose, h_30, h_42, h_66, h_69, h_79, h_102, h_125, h_134, h_143, h_155, h_164, h_176, h_188, h_200, h_214, h_228, h_240, h_339, h_348, h_350, h_353, h_354, h_359, h_382, q_360, q_380, q_381, i_as, fup, i_a0, i0m, i10, eq_self, rb_yes, rb_no, ryes, rno, if_true, if_false, f_tt (p := True), reduceIte, Nat.reduceEqDiff]) | rfl
              · dsimp only
                have g_384 : G356 4 = K := Eq.trans (hK356.2 4 rfl) g4
                have g_385 : G356 5 = V := Eq.trans (hK356.2 5 rfl) g5
                have h_386 : rS1 K V fu 300 4 (((F 42) + (1 : Int32)) + (1 : Int32)) ((F 43) + (1 : Int32)) = some (none) := u356
                unfold mb_statement_277
                refine PP.ite (fun _ => ?_) (fun c_387 => absurd (by decide) c_387)
                unfold mb_statement_289
                refine PP.ret ?_
                refine Or.inr ⟨rfl, u356a, (rfl : (rstatement K V fu r (F 42) (F 43)) = _).trans ?_⟩
                first | with_reducible rfl | (simp only [rstatement, rput, rclose, h_30, h_42, h_66, h_69, h_79, h_102, h_125, h_134, h_143, h_155, h_164, h_176, h_188, h_200, h_214, h_228, h_240, h_339, h_348, h_350, h_353, h_354, h_386, i_as, fup, i_a0, i0m, i10, eq_self, rb_yes, rb_no, ryes, rno, if_true, if_false, f_tt (p := True), reduceIte, Nat.reduceEqDiff]) | rfl
            · dsimp only
              have g_388 : G352 4 = K := Eq.trans (u352.2.2.2 4 rfl) g4
              have g_389 : G352 5 = V := Eq.trans (u352.2.2.2 5 rfl) g5
              have q_390 : F352 42 = ((F 42) + (1 : Int32)) := u352.2.2.1 42 rfl
              have q_391 : F352 43 = (F 43) := u352.2.2.1 43 rfl
              rcases u352b with q | q | ⟨q, q1⟩
              · exact absurd q (show ¬ 0 < (F 44).toInt by rw [h44]; decide)
              · skip
                have h_392 : sgn K V ((F 42) + (1 : Int32)) (22 : Int32) = false := by
                  rw [← g4, ← g5]
                  have q := q
                  first | exact q | (simp only [i_as] at q; exact q)
                unfold mb_statement_270
                refine PP.ite (fun _ => ?_) (fun c_393 => absurd (by decide) c_393)
                unfold mb_statement_289
                refine PP.ret ?_
                refine Or.inr ⟨rfl, u352.1, (rfl : (rstatement K V fu r (F 42) (F 43)) = _).trans ?_⟩
                first | with_reducible rfl | (simp only [rstatement, rput, rclose, h_30, h_42, h_66, h_69, h_79, h_102, h_125, h_134, h_143, h_155, h_164, h_176, h_188, h_200, h_214, h_228, h_240, h_339, h_348, h_350, h_392, q_390, q_391, i_as, fup, i_a0, i0m, i10, eq_self, rb_yes, rb_no, ryes, rno, if_true, if_false, f_tt (p := True), reduceIte, Nat.reduceEqDiff]) | rfl
              · skip
                have h_394 : sgn K V ((F 42) + (1 : Int32)) (22 : Int32) = true := by
                  rw [← g4, ← g5]
                  have q := q
                  first | exact q | (simp only [i_as] at q; exact q)
                have h_395 : ((F 43) = 40) = True := by
                  have q : (F 43) = 40 := q1
                  first | exact eq_true q | (simp only [i_as] at q; exact eq_true q)
                unfold mb_statement_270
                refine PP.ite (fun _ => ?_) (fun c_396 => absurd (by decide) c_396)
                unfold mb_statement_289
                refine PP.ret ?_
                refine Or.inr ⟨rfl, u352.1, (rfl : (rstatement K V fu r (F 42) (F 43)) = _).trans ?_⟩
                first | with_reducible rfl | (simp only [rstatement, rput, rclose, h_30, h_42, h_66, h_69, h_79, h_102, h_125, h_134, h_143, h_155, h_164, h_176, h_188, h_200, h_214, h_228, h_240, h_339, h_348, h_350, h_394, h_395, q_390, q_391, i_as, fup, i_a0, i0m, i10, eq_self, rb_yes, rb_no, ryes, rno, if_true, if_false, f_tt (p := True), reduceIte, Nat.reduceEqDiff]) | rfl
          · dsimp only
            have h_397 : wdn K V (F 42) (12 : Int32) = false := by
              rw [← g4, ← g5]
              have q := u349
              first | exact q | (simp only [i_as] at q; exact q)
            unfold mb_statement_243
            refine PP.ite (fun _ => ?_) (fun c_398 => absurd (by decide) c_398)
            unfold mb_statement_251
            unfold mb_statement_253
            unfold mb_statement_264
            refine PP.bind (mp_openSign (22 : Int32) (fup F 42 ((F 42) + (1 : Int32))) G) ?_
            rintro r399 F399 G399 (⟨rfl, rfl, rfl, u399⟩ | ⟨rfl, u399, u399b⟩)
            · dsimp only
              have h_400 : sgn K V ((F 42) + (1 : Int32)) (22 : Int32) = true := by
                rw [← g4, ← g5]
                have q := u399.1
                first | exact q | (simp only [i_as] at q; exact q)
              have h_401 : ¬ (F 43) = 40 := by
                have q : ¬ (F 43) = 40 := u399.2.1
                first | exact q | (simp only [i_as] at q; exact q)
              unfold mb_statement_270
              refine PP.ite (fun c_402 => absurd c_402 (by decide)) (fun _ => ?_)
              unfold mb_statement_273
              refine PP.bind (PP.and (mw_expression (fup (fup (fup F 42 ((F 42) + (1 : Int32))) 43 ((F 43) + (1 : Int32))) 42 (((F 42) + (1 : Int32)) + (1 : Int32))) G) (mr_expression (fup (fup (fup F 42 ((F 42) + (1 : Int32))) 43 ((F 43) + (1 : Int32))) 42 (((F 42) + (1 : Int32)) + (1 : Int32))) G g4 g5 (show (fup (fup (fup F 42 ((F 42) + (1 : Int32))) 43 ((F 43) + (1 : Int32))) 42 (((F 42) + (1 : Int32)) + (1 : Int32))) 44 = 0 from h44))) ?_
              rintro r403 F403 G403 ⟨hK403, (⟨rfl, u403a, u403b, u403⟩ | ⟨rfl, u403a, u403⟩)⟩
              · dsimp only
                have g_404 : G403 4 = K := Eq.trans (hK403.2 4 rfl) g4
                have g_405 : G403 5 = V := Eq.trans (hK403.2 5 rfl) g5
                have h_406 : rS1 K V fu 300 4 (((F 42) + (1 : Int32)) + (1 : Int32)) ((F 43) + (1 : Int32)) = some (some (F403 42)) := u403
                have q_407 : F403 43 = ((F 43) + (1 : Int32)) := (show F403 43 = ((F 43) + (1 : Int32)) from u403b)
                unfold mb_statement_277
                refine PP.ite (fun c_408 => absurd c_408 (by decide)) (fun _ => ?_)
                unfold mb_statement_280
                refine PP.bind (mp_closeSign (23 : Int32) F403 G403) ?_
                rintro r409 F409 G409 (⟨rfl, rfl, rfl, u409⟩ | ⟨rfl, u409, u409b⟩)
                · dsimp only
                  have h_410 : sgn K V (F403 42) (23 : Int32) = true := by
                    rw [← g_404, ← g_405]
                    have q := u409.1
                    first | exact q | (simp only [q_407, i_as] at q; exact q)
                  unfold mb_statement_286
                  refine PP.ite (fun c_411 => absurd c_411 (by decide)) (fun _ => ?_)
                  unfold mb_statement_291
                  refine PP.bind (mw_step (20 : Int32) (0 : Int32) (0 : Int32) (fup (fup F403 42 ((F403 42) + (1 : Int32))) 43 ((F403 43) - (1 : Int32))) G403) ?_
                  intro r412 F412 G412 hK412
                  dsimp only
                  have g_413 : G412 4 = K := Eq.trans (hK412.2 4 rfl) g_404
                  have g_414 : G412 5 = V := Eq.trans (hK412.2 5 rfl) g_405
                  have q_415 : F412 42 = ((F403 42) + (1 : Int32)) := hK412.1 42 rfl
                  have q_416 : F412 43 = (F 43) := Eq.trans (hK412.1 43 rfl) (show ((F403 43) - (1 : Int32)) = (F 43) by simp only [q_407, i_as])
                  have q_417 : F412 44 = 0 := Eq.trans (hK412.1 44 rfl) u403a
                  unfold mb_statement_298
                  refine PP.bind (mp_sign (29 : Int32) F412 G412) ?_
                  rintro r418 F418 G418 (⟨rfl, rfl, rfl, u418⟩ | ⟨rfl, u418, u418b⟩)
                  · dsimp only
                    have h_419 : sgn K V ((F403 42) + (1 : Int32)) (29 : Int32) = true := by
                      rw [← g_413, ← g_414]
                      have q := u418.1
                      first | exact q | (simp only [q_415, q_416, i_as] at q; exact q)
                    unfold mb_statement_305
                    refine PP.ret ?_
                    refine Or.inl ⟨rfl, q_417, ?_, (rfl : (rstatement K V fu r (F 42) (F 43)) = _).trans ?_⟩
                    · show (F412 43) = F 43
                      first | with_reducible rfl | (simp only [q_407, q_415, q_416, i_as, fup, Nat.reduceEqDiff, reduceIte, if_false]) | rfl
                    · show _ = some (some ((F412 42) + (1 : Int32)))
                      first | with_reducible rfl | (simp only [rstatement, rput, rclose, h_30, h_42, h_66, h_69, h_79, h_102, h_125, h_134, h_143, h_155, h_164, h_176, h_188, h_200, h_214, h_228, h_240, h_339, h_348, h_397, h_400, h_401, h_406, h_410, h_419, q_407, q_415, q_416, i_as, fup, i_a0, i0m, i10, eq_self, rb_yes, rb_no, ryes, rno, if_true, if_false, f_tt (p := True), reduceIte, Nat.reduceEqDiff]) | rfl
                  · dsimp only
                    have g_420 : G418 4 = K := Eq.trans (u418.2.2.2 4 rfl) g_413
                    have g_421 : G418 5 = V := Eq.trans (u418.2.2.2 5 rfl) g_414
                    have q_422 : F418 42 = ((F403 42) + (1 : Int32)) := Eq.trans (u418.2.2.1 42 rfl) (show (F412 42) = ((F403 42) + (1 : Int32)) by simp only [q_415, q_416, i_as])
                    have q_423 : F418 43 = (F 43) := Eq.trans (u418.2.2.1 43 rfl) (show (F412 43) = (F 43) by simp only [q_415, q_416, i_as])
                    rcases u418b with q | q
                    · exact absurd q (show ¬ 0 < (F412 44).toInt by rw [q_417]; decide)
                    · skip
                      have h_424 : sgn K V ((F403 42) + (1 : Int32)) (29 : Int32) = false := by
                        rw [← g_413, ← g_414]
                        have q := q
                        first | exact q | (simp only [q_415, q_416, i_as] at q; exact q)
                      unfold mb_statement_305
                      refine PP.ret ?_
                      refine Or.inr ⟨rfl, u418.1, (rfl : (rstatement K V fu r (F 42) (F 43)) = _).trans ?_⟩
                      first | with_reducible rfl | (simp only [rstatement, rput, rclose, h_30, h_42, h_66, h_69, h_79, h_102, h_125, h_134, h_143, h_155, h_164, h_176, h_188, h_200, h_214, h_228, h_240, h_339, h_348, h_397, h_400, h_401, h_406, h_410, h_424, q_407, q_415, q_416, q_422, q_423, i_as, fup, i_a0, i0m, i10, eq_self, rb_yes, rb_no, ryes, rno, if_true, if_false, f_tt (p := True), reduceIte, Nat.reduceEqDiff]) | rfl
                · dsimp only
                  have g_425 : G409 4 = K := Eq.trans (u409.2.2.2 4 rfl) g_404
                  have g_426 : G409 5 = V := Eq.trans (u409.2.2.2 5 rfl) g_405
                  have q_427 : F409 42 = (F403 42) := u409.2.2.1 42 rfl
                  have q_428 : F409 43 = ((F 43) + (1 : Int32)) := Eq.trans (u409.2.2.1 43 rfl) (show (F403 43) = ((F 43) + (1 : Int32)) by simp only [q_407, i_as])
                  rcases u409b with q | q
                  · exact absurd q (show ¬ 0 < (F403 44).toInt by rw [u403a]; decide)
                  · skip
                    have h_429 : sgn K V (F403 42) (23 : Int32) = false := by
                      rw [← g_404, ← g_405]
                      have q := q
                      first | exact q | (simp only [q_407, i_as] at q; exact q)
                    unfold mb_statement_286
                    refine PP.ite (fun _ => ?_) (fun c_430 => absurd (by decide) c_430)
                    unfold mb_statement_289
                    refine PP.ret ?_
                    refine Or.inr ⟨rfl, u409.1, (rfl : (rstatement K V fu r (F 42) (F 43)) = _).trans ?_⟩
                    first | with_reducible rfl | (simp only [rstatement, rput, rclose, h_30, h_42, h_66, h_69, h_79, h_102, h_125, h_134, h_143, h_155, h_164, h_176, h_188, h_200, h_214, h_228, h_240, h_339, h_348, h_397, h_400, h_401, h_406, h_429, q_407, q_427, q_428, i_as, fup, i_a0, i0m, i10, eq_self, rb_yes, rb_no, ryes, rno, if_true, if_false, f_tt (p := True), reduceIte, Nat.reduceEqDiff]) | rfl
              · dsimp only
                have g_431 : G403 4 = K := Eq.trans (hK403.2 4 rfl) g4
                have g_432 : G403 5 = V := Eq.trans (hK403.2 5 rfl) g5
                have h_433 : rS1 K V fu 300 4 (((F 42) + (1 : Int32)) + (1 : Int32)) ((F 43) + (1 : Int32)) = some (none) := u403
                unfold mb_statement_277
                refine PP.ite (fun _ => ?_) (fun c_434 => absurd (by decide) c_434)
                unfold mb_statement_289
                refine PP.ret ?_
                refine Or.inr ⟨rfl, u403a, (rfl : (rstatement K V fu r (F 42) (F 43)) = _).trans ?_⟩
                first | with_reducible rfl | (simp only [rstatement, rput, rclose, h_30, h_42, h_66, h_69, h_79, h_102, h_125, h_134, h_143, h_155, h_164, h_176, h_188, h_200, h_214, h_228, h_240, h_339, h_348, h_397, h_400, h_401, h_433, i_as, fup, i_a0, i0m, i10, eq_self, rb_yes, rb_no, ryes, rno, if_true, if_false, f_tt (p := True), reduceIte, Nat.reduceEqDiff]) | rfl
            · dsimp only
              have g_435 : G399 4 = K := Eq.trans (u399.2.2.2 4 rfl) g4
              have g_436 : G399 5 = V := Eq.trans (u399.2.2.2 5 rfl) g5
              have q_437 : F399 42 = ((F 42) + (1 : Int32)) := u399.2.2.1 42 rfl
              have q_438 : F399 43 = (F 43) := u399.2.2.1 43 rfl
              rcases u399b with q | q | ⟨q, q1⟩
              · exact absurd q (show ¬ 0 < (F 44).toInt by rw [h44]; decide)
              · skip
                have h_439 : sgn K V ((F 42) + (1 : Int32)) (22 : Int32) = false := by
                  rw [← g4, ← g5]
                  have q := q
                  first | exact q | (simp only [i_as] at q; exact q)
                unfold mb_statement_270
                refine PP.ite (fun _ => ?_) (fun c_440 => absurd (by decide) c_440)
                unfold mb_statement_289
                refine PP.ret ?_
                refine Or.inr ⟨rfl, u399.1, (rfl : (rstatement K V fu r (F 42) (F 43)) = _).trans ?_⟩
                first | with_reducible rfl | (simp only [rstatement, rput, rclose, h_30, h_42, h_66, h_69, h_79, h_102, h_125, h_134, h_143, h_155, h_164, h_176, h_188, h_200, h_214, h_228, h_240, h_339, h_348, h_397, h_439, q_437, q_438, i_as, fup, i_a0, i0m, i10, eq_self, rb_yes, rb_no, ryes, rno, if_true, if_false, f_tt (p := True), reduceIte, Nat.reduceEqDiff]) | rfl
              · skip
                have h_441 : sgn K V ((F 42) + (1 : Int32)) (22 : Int32) = true := by
                  rw [← g4, ← g5]
                  have q := q
                  first | exact q | (simp only [i_as] at q; exact q)
                have h_442 : ((F 43) = 40) = True := by
                  have q : (F 43) = 40 := q1
                  first | exact eq_true q | (simp only [i_as] at q; exact eq_true q)
                unfold mb_statement_270
                refine PP.ite (fun _ => ?_) (fun c_443 => absurd (by decide) c_443)
                unfold mb_statement_289
                refine PP.ret ?_
                refine Or.inr ⟨rfl, u399.1, (rfl : (rstatement K V fu r (F 42) (F 43)) = _).trans ?_⟩
                first | with_reducible rfl | (simp only [rstatement, rput, rclose, h_30, h_42, h_66, h_69, h_79, h_102, h_125, h_134, h_143, h_155, h_164, h_176, h_188, h_200, h_214, h_228, h_240, h_339, h_348, h_397, h_441, h_442, q_437, q_438, i_as, fup, i_a0, i0m, i10, eq_self, rb_yes, rb_no, ryes, rno, if_true, if_false, f_tt (p := True), reduceIte, Nat.reduceEqDiff]) | rfl
        · skip
          have h_444 : ¬ K (F 42).toNatClampNeg = (2 : Int32) := by
            rw [← g4]
            have q := c_67
            first | exact q | (simp only [i_as] at q; exact q)
          unfold mb_statement_94
          refine PP.bind (mp_fails (2 : Int32) (by decide) F G) ?_
          rintro r445 F445 G445 ⟨rfl, u445⟩
          dsimp only
          have g_446 : G445 4 = K := Eq.trans (u445.2.2.2 4 rfl) g4
          have g_447 : G445 5 = V := Eq.trans (u445.2.2.2 5 rfl) g5
          have q_448 : F445 42 = (F 42) := u445.2.2.1 42 rfl
          have q_449 : F445 43 = (F 43) := u445.2.2.1 43 rfl
          unfold mb_statement_99
          refine PP.ret ?_
          refine Or.inr ⟨rfl, u445.1, (rfl : (rstatement K V fu r (F 42) (F 43)) = _).trans ?_⟩
          first | with_reducible rfl | (simp only [rstatement, rput, rclose, h_30, h_42, h_66, h_444, q_448, q_449, i_as, fup, i_a0, i0m, i10, eq_self, rb_yes, rb_no, ryes, rno, if_true, if_false, f_tt (p := True), reduceIte, Nat.reduceEqDiff]) | rfl
