theorem mrz_block_11 {fu : Nat} {K V : Nat → Int32} (rc : RC) (r : RR) (ihK : mKI2 rc) (ih : mRI2 K V rc r) {F0 : PF} {R0 : OR} : ∀ (n : Nat) (F : PF) (G : PG) (g4 : G 4 = K) (g5 : G 5 = V) (hA : (F 44 = 0 ∧ F 43 = ((F0 43) + (1 : Int32)) ∧ R0 = rl_block K V r (F 43) n (F 42)) ∨ (0 < (F 44).toInt ∧ R0 = rno)), PP (ml_block_11 fu rc n F G) (fun r' F' _ => ROK R0 F0 r' F') := by
  intro n
  induction n with
  | zero =>
    intro F G g4 g5 hA
    exact PP.no
  | succ n ihn =>
    intro F G g4 g5 hA
    show PP (mb_block_11 fu rc (ml_block_11 fu rc n) F G) _
    rcases hA with ⟨h44, h43, hR⟩ | ⟨hf, hR⟩
    · skip
      unfold mb_block_11
      refine PP.ite (fun c_1 => ?_) (fun c_1 => ?_)
      · skip
        unfold mb_block_18
        refine PP.bind (mp_isSign (27 : Int32) F G) ?_
        rintro _ _ _ ⟨rfl, rfl, (⟨rfl, h2⟩ | ⟨rfl, h2⟩)⟩
        · dsimp only
          have h_3 : sgn K V (F 42) (27 : Int32) = true := by
            rw [← g4, ← g5]
            have q := h2
            first | exact q | (simp only [h43, i_as] at q; exact q) | (simp only [h43, i_as] at q ⊢; exact q)
          unfold mb_block_24
          refine PP.ite (fun c_4 => absurd c_4 (by decide)) (fun _ => ?_)
          unfold mb_block_35
          refine PP.bind (mp_closeSign (27 : Int32) F G) ?_
          rintro r5 F5 G5 (⟨rfl, rfl, rfl, h5⟩ | ⟨rfl, h5, h5b⟩)
          · dsimp only
            have h_6 : sgn K V (F 42) (27 : Int32) = true := by
              rw [← g4, ← g5]
              have q := h5.1
              first | exact q | (simp only [h43, i_as] at q; exact q) | (simp only [h43, i_as] at q ⊢; exact q)
            unfold mb_block_41
            refine PP.ret ?_
            refine Or.inl ⟨rfl, h44, ?_, hR.trans ?_⟩
            · show ((F 43) - (1 : Int32)) = F0 43
              first | rfl | (simp only [h43, i_as])
            · show _ = some (some ((F 42) + (1 : Int32)))
              first | rfl | (simp only [rblock, rl_block, rclose, h_3, h_6, h43, i_as, i10, eq_self, rb_yes, rb_no, ryes, rno, if_true, if_false, f_tt (p := True), reduceIte])
          · dsimp only
            have g_7 : G5 4 = K := Eq.trans (h5.2.2.2 4 rfl) g4
            have g_8 : G5 5 = V := Eq.trans (h5.2.2.2 5 rfl) g5
            have q_9 : F5 42 = (F 42) := h5.2.2.1 42 rfl
            have q_10 : F5 43 = ((F0 43) + (1 : Int32)) := Eq.trans (h5.2.2.1 43 rfl) (show (F 43) = ((F0 43) + (1 : Int32)) by simp only [h43, i_as])
            rcases h5b with q | q
            · exact absurd q (by rw [h44]; decide)
            · skip
              have h_11 : sgn K V (F 42) (27 : Int32) = false := by
                rw [← g4, ← g5]
                have q := q
                first | exact q | (simp only [h43, i_as] at q; exact q) | (simp only [h43, i_as] at q ⊢; exact q)
              unfold mb_block_41
              refine PP.ret ?_
              refine Or.inr ⟨rfl, h5.1, hR.trans ?_⟩
              first | rfl | (simp only [rblock, rl_block, rclose, h_3, h_11, q_9, q_10, i_as, i10, eq_self, rb_yes, rb_no, ryes, rno, if_true, if_false, f_tt (p := True), reduceIte])
        · dsimp only
          have h_12 : sgn K V (F 42) (27 : Int32) = false := by
            rw [← g4, ← g5]
            have q := h2
            first | exact q | (simp only [h43, i_as] at q; exact q) | (simp only [h43, i_as] at q ⊢; exact q)
          unfold mb_block_24
          refine PP.ite (fun _ => ?_) (fun c_13 => absurd (by decide) c_13)
          unfold mb_block_27
          refine PP.bind (PP.and (ihK 6 0 0 F G) (ih 6 0 0 F G g4 g5 (show F 44 = 0 from h44))) ?_
          rintro r14 F14 G14 ⟨hK14, (⟨rfl, h14a, h14b, h14⟩ | ⟨rfl, h14a, h14⟩)⟩
          · dsimp only
            have g_15 : G14 4 = K := Eq.trans (hK14.2 4 rfl) g4
            have g_16 : G14 5 = V := Eq.trans (hK14.2 5 rfl) g5
            have h_17 : r 6 (F 42) ((F0 43) + (1 : Int32)) = some (some (F14 42)) := by
              have q : r 6 (F 42) (F 43) = some (some (F14 42)) := h14
              simp only [h43, i_as] at q; exact q
            have q_18 : F14 43 = ((F0 43) + (1 : Int32)) := by
              have q := (show F14 43 = (F 43) from h14b)
              simp only [h43, i_as] at q; exact q
            unfold mb_block_31
            exact ihn F14 G14 g_15 g_16 (Or.inl ⟨h14a, (by first | rfl | (simp only [q_18, i_as])), (hR.trans (by first | rfl | (simp only [rblock, rl_block, rclose, h_12, h_17, q_18, i_as, i10, eq_self, rb_yes, rb_no, ryes, rno, if_true, if_false, f_tt (p := True), reduceIte])))⟩)
          · dsimp only
            have g_19 : G14 4 = K := Eq.trans (hK14.2 4 rfl) g4
            have g_20 : G14 5 = V := Eq.trans (hK14.2 5 rfl) g5
            have h_21 : r 6 (F 42) ((F0 43) + (1 : Int32)) = some (none) := by
              have q : r 6 (F 42) (F 43) = some (none) := h14
              simp only [h43, i_as] at q; exact q
            unfold mb_block_31
            exact ihn F14 G14 g_19 g_20 (Or.inr ⟨h14a, (hR.trans (by first | rfl | (simp only [rblock, rl_block, rclose, h_12, h_21, i_as, i10, eq_self, rb_yes, rb_no, ryes, rno, if_true, if_false, f_tt (p := True), reduceIte])))⟩)
      · skip
        exact absurd h44 (show ¬ ((F 44) = (0 : Int32)) from c_1)
    · skip
      unfold mb_block_11
      refine PP.ite (fun c_22 => ?_) (fun c_22 => ?_)
      · skip
        exact absurd (congrArg Int32.toInt (show (F 44) = (0 : Int32) from c_22)) (by have := hf; have l0 : (0 : Int32).toInt = 0 := rfl; omega)
      · skip
        unfold mb_block_35
        refine PP.bind (mp_closeSign (27 : Int32) F G) ?_
        rintro r23 F23 G23 (⟨rfl, rfl, rfl, h23⟩ | ⟨rfl, h23, h23b⟩)
        · dsimp only
          exact absurd hf h23.2
        · dsimp only
          have g_24 : G23 4 = K := Eq.trans (h23.2.2.2 4 rfl) g4
          have g_25 : G23 5 = V := Eq.trans (h23.2.2.2 5 rfl) g5
          have q_26 : F23 42 = (F 42) := h23.2.2.1 42 rfl
          have q_27 : F23 43 = (F 43) := h23.2.2.1 43 rfl
          unfold mb_block_41
          refine PP.ret ?_
          refine Or.inr ⟨rfl, h23.1, hR.trans ?_⟩
          first | rfl | (simp only [rblock, rl_block, rclose, q_26, q_27, i_as, i10, eq_self, rb_yes, rb_no, ryes, rno, if_true, if_false, f_tt (p := True), reduceIte])
theorem mrt_block {fu : Nat} {K V : Nat → Int32} (rc : RC) (r : RR) (ihK : mKI2 rc) (ih : mRI2 K V rc r) (F : PF) (G : PG) (g4 : G 4 = K) (g5 : G 5 = V) (h44 : F 44 = 0) : PP (mh_block fu rc F G) (fun r' F' _ => ROK (rblock K V fu r (F 42) (F 43)) F r' F') := by
  unfold mh_block
  unfold mb_block_0
  refine PP.bind (mp_openSign (26 : Int32) F G) ?_
  rintro r1 F1 G1 (⟨rfl, rfl, rfl, h1⟩ | ⟨rfl, h1, h1b⟩)
  · dsimp only
    have h_2 : sgn K V (F 42) (26 : Int32) = true := by
      rw [← g4, ← g5]
      have q := h1.1
      first | exact q | (simp only [i_as] at q; exact q) | (simp only [i_as] at q ⊢; exact q)
    have h_3 : ¬ (F 43) = 40 := h1.2.1
    unfold mb_block_6
    refine PP.ite (fun c_4 => absurd c_4 (by decide)) (fun _ => ?_)
    exact mrz_block_11 rc r ihK ih (F0 := F) (R0 := (rblock K V fu r (F 42) (F 43))) fu (fup (fup F 43 ((F 43) + (1 : Int32))) 42 ((F 42) + (1 : Int32))) G g4 g5 (Or.inl ⟨h44, (by first | rfl | (simp only [i_as])), ((rfl : (rblock K V fu r (F 42) (F 43)) = _).trans (by first | rfl | (simp only [rblock, rl_block, rclose, h_2, h_3, i_as, i10, eq_self, rb_yes, rb_no, ryes, rno, if_true, if_false, f_tt (p := True), reduceIte])))⟩)
  · dsimp only
    have g_5 : G1 4 = K := Eq.trans (h1.2.2.2 4 rfl) g4
    have g_6 : G1 5 = V := Eq.trans (h1.2.2.2 5 rfl) g5
    have q_7 : F1 42 = (F 42) := h1.2.2.1 42 rfl
    have q_8 : F1 43 = (F 43) := h1.2.2.1 43 rfl
    rcases h1b with q | q | ⟨q, q1⟩
    · exact absurd q (by rw [h44]; decide)
    · skip
      have h_9 : sgn K V (F 42) (26 : Int32) = false := by
        rw [← g4, ← g5]
        have q := q
        first | exact q | (simp only [i_as] at q; exact q) | (simp only [i_as] at q ⊢; exact q)
      unfold mb_block_6
      refine PP.ite (fun _ => ?_) (fun c_10 => absurd (by decide) c_10)
      unfold mb_block_9
      refine PP.ret ?_
      refine Or.inr ⟨rfl, h1.1, (rfl : (rblock K V fu r (F 42) (F 43)) = _).trans ?_⟩
      first | rfl | (simp only [rblock, rl_block, rclose, h_9, q_7, q_8, i_as, i10, eq_self, rb_yes, rb_no, ryes, rno, if_true, if_false, f_tt (p := True), reduceIte])
    · skip
      have h_11 : sgn K V (F 42) (26 : Int32) = true := by
        rw [← g4, ← g5]
        have q := q
        first | exact q | (simp only [i_as] at q; exact q) | (simp only [i_as] at q ⊢; exact q)
      have h_12 : (F 43) = 40 := q1
      unfold mb_block_6
      refine PP.ite (fun _ => ?_) (fun c_13 => absurd (by decide) c_13)
      unfold mb_block_9
      refine PP.ret ?_
      refine Or.inr ⟨rfl, h1.1, (rfl : (rblock K V fu r (F 42) (F 43)) = _).trans ?_⟩
      first | rfl | (simp only [rblock, rl_block, rclose, h_11, h_12, q_7, q_8, i_as, i10, eq_self, rb_yes, rb_no, ryes, rno, if_true, if_false, f_tt (p := True), reduceIte])
theorem mrt_body {fu : Nat} {K V : Nat → Int32} (rc : RC) (r : RR) (ihK : mKI2 rc) (ih : mRI2 K V rc r) (x1 : Int32) (F : PF) (G : PG) (g4 : G 4 = K) (g5 : G 5 = V) (h44 : F 44 = 0) : PP (mh_body fu rc x1 F G) (fun r' F' _ => ROK (r 5 (F 42) (F 43)) F r' F') := by
  unfold mh_body
  unfold mb_body_0
  unfold mb_body_15
  unfold mb_body_20
  unfold mb_body_30
  refine PP.bind (mw_step (15 : Int32) (0 : Int32) (0 : Int32) (fup (fup (fup F 63 (-1 : Int32)) 64 (-1 : Int32)) 51 ((F 51) + (1 : Int32))) G) ?_
  intro r1 F1 G1 hK1
  dsimp only
  have g_2 : G1 4 = K := Eq.trans (hK1.2 4 rfl) g4
  have g_3 : G1 5 = V := Eq.trans (hK1.2 5 rfl) g5
  have q_4 : F1 42 = (F 42) := hK1.1 42 rfl
  have q_5 : F1 43 = (F 43) := hK1.1 43 rfl
  have q_6 : F1 44 = 0 := Eq.trans (hK1.1 44 rfl) h44
  unfold mb_body_38
  refine PP.bind (PP.and (ihK 5 0 0 F1 G1) (ih 5 0 0 F1 G1 g_2 g_3 (show F1 44 = 0 from q_6))) ?_
  rintro r7 F7 G7 ⟨hK7, (⟨rfl, h7a, h7b, h7⟩ | ⟨rfl, h7a, h7⟩)⟩
  · dsimp only
    have g_8 : G7 4 = K := Eq.trans (hK7.2 4 rfl) g_2
    have g_9 : G7 5 = V := Eq.trans (hK7.2 5 rfl) g_3
    have h_10 : r 5 (F 42) (F 43) = some (some (F7 42)) := by
      have q : r 5 (F1 42) (F1 43) = some (some (F7 42)) := h7
      simp only [q_4, q_5, i_as] at q; exact q
    have q_11 : F7 43 = (F 43) := by
      have q := (show F7 43 = (F1 43) from h7b)
      simp only [q_4, q_5, i_as] at q; exact q
    unfold mb_body_43
    unfold mb_body_55
    refine PP.ite (fun c_12 => ?_) (fun c_12 => ?_)
    · skip
      unfold mb_body_77
      unfold mb_body_85
      unfold mb_body_90
      unfold mb_body_98
      unfold mb_body_103
      refine PP.ret ?_
      refine Or.inl ⟨rfl, h7a, ?_, (rfl : (r 5 (F 42) (F 43)) = _).trans ?_⟩
      · show (F7 43) = F 43
        first | rfl | (simp only [q_11, i_as])
      · show _ = some (some (F7 42))
        first | rfl | (simp only [h_10, q_11, i_as, i10, eq_self, rb_yes, rb_no, ryes, rno, if_true, if_false, f_tt (p := True), reduceIte])
    · skip
      unfold mb_body_60
      refine PP.bind (mw_settle (F7 64) x1 (fup F7 51 ((F7 51) - (1 : Int32))) G7) ?_
      intro r13 F13 G13 hK13
      dsimp only
      have g_14 : G13 4 = K := Eq.trans (hK13.2 4 rfl) g_8
      have g_15 : G13 5 = V := Eq.trans (hK13.2 5 rfl) g_9
      have q_16 : F13 42 = (F7 42) := hK13.1 42 rfl
      have q_17 : F13 43 = (F 43) := Eq.trans (hK13.1 43 rfl) (show (F7 43) = (F 43) by simp only [q_11, i_as])
      have q_18 : F13 44 = 0 := Eq.trans (hK13.1 44 rfl) h7a
      unfold mb_body_69
      unfold mb_body_74
      unfold mb_body_90
      unfold mb_body_98
      unfold mb_body_103
      refine PP.ret ?_
      refine Or.inl ⟨rfl, q_18, ?_, (rfl : (r 5 (F 42) (F 43)) = _).trans ?_⟩
      · show (F13 43) = F 43
        first | rfl | (simp only [q_16, q_17, i_as])
      · show _ = some (some (F13 42))
        first | rfl | (simp only [h_10, q_16, q_17, i_as, i10, eq_self, rb_yes, rb_no, ryes, rno, if_true, if_false, f_tt (p := True), reduceIte])
  · dsimp only
    have g_19 : G7 4 = K := Eq.trans (hK7.2 4 rfl) g_2
    have g_20 : G7 5 = V := Eq.trans (hK7.2 5 rfl) g_3
    have h_21 : r 5 (F 42) (F 43) = some (none) := by
      have q : r 5 (F1 42) (F1 43) = some (none) := h7
      simp only [q_4, q_5, i_as] at q; exact q
    unfold mb_body_43
    unfold mb_body_55
    refine PP.ite (fun c_22 => ?_) (fun c_22 => ?_)
    · skip
      unfold mb_body_77
      unfold mb_body_85
      unfold mb_body_90
      unfold mb_body_98
      unfold mb_body_103
      refine PP.ret ?_
      refine Or.inr ⟨rfl, h7a, (rfl : (r 5 (F 42) (F 43)) = _).trans ?_⟩
      first | rfl | (simp only [h_21, i_as, i10, eq_self, rb_yes, rb_no, ryes, rno, if_true, if_false, f_tt (p := True), reduceIte])
    · skip
      unfold mb_body_60
      refine PP.bind (mw_settle (F7 64) x1 (fup F7 51 ((F7 51) - (1 : Int32))) G7) ?_
      intro r23 F23 G23 hK23
      dsimp only
      have g_24 : G23 4 = K := Eq.trans (hK23.2 4 rfl) g_19
      have g_25 : G23 5 = V := Eq.trans (hK23.2 5 rfl) g_20
      have q_26 : F23 42 = (F7 42) := hK23.1 42 rfl
      have q_27 : F23 43 = (F7 43) := hK23.1 43 rfl
      have q_28 : 0 < (F23 44).toInt := by rw [show F23 44 = (F7 44) from hK23.1 44 rfl]; exact h7a
      unfold mb_body_69
      unfold mb_body_74
      unfold mb_body_90
      unfold mb_body_98
      unfold mb_body_103
      refine PP.ret ?_
      refine Or.inr ⟨rfl, q_28, (rfl : (r 5 (F 42) (F 43)) = _).trans ?_⟩
      first | rfl | (simp only [h_21, q_26, q_27, i_as, i10, eq_self, rb_yes, rb_no, ryes, rno, if_true, if_false, f_tt (p := True), reduceIte])
theorem mrt_choice {fu : Nat} {K V : Nat → Int32} (rc : RC) (r : RR) (ihK : mKI2 rc) (ih : mRI2 K V rc r) (F : PF) (G : PG) (g4 : G 4 = K) (g5 : G 5 = V) (h44 : F 44 = 0) : PP (mh_choice fu rc F G) (fun r' F' _ => ROK (rchoice K V fu r (F 42) (F 43)) F r' F') := by
  unfold mh_choice
  unfold mb_choice_0
  refine PP.bind (mp_opens F G) ?_
  rintro r1 F1 G1 (⟨rfl, rfl, rfl, h1⟩ | ⟨rfl, h1, h1b⟩)
  · dsimp only
    have h_2 : ¬ (F 43) = 40 := h1
    unfold mb_choice_4
    refine PP.ite (fun c_3 => absurd c_3 (by decide)) (fun _ => ?_)
    unfold mb_choice_7
    refine PP.bind (PP.and (mw_condition (fup (fup F 43 ((F 43) + (1 : Int32))) 42 ((F 42) + (1 : Int32))) G) (mr_condition (fup (fup F 43 ((F 43) + (1 : Int32))) 42 ((F 42) + (1 : Int32))) G g4 g5 (show (fup (fup F 43 ((F 43) + (1 : Int32))) 42 ((F 42) + (1 : Int32))) 44 = 0 from h44))) ?_
    rintro r4 F4 G4 ⟨hK4, (⟨rfl, h4a, h4b, h4⟩ | ⟨rfl, h4a, h4⟩)⟩
    · dsimp only
      have g_5 : G4 4 = K := Eq.trans (hK4.2 4 rfl) g4
      have g_6 : G4 5 = V := Eq.trans (hK4.2 5 rfl) g5
      have h_7 : rcond K V fu ((F 42) + (1 : Int32)) ((F 43) + (1 : Int32)) = some (some (F4 42)) := h4
      have q_8 : F4 43 = ((F 43) + (1 : Int32)) := (show F4 43 = ((F 43) + (1 : Int32)) from h4b)
      unfold mb_choice_11
      refine PP.ite (fun c_9 => absurd c_9 (by decide)) (fun _ => ?_)
      unfold mb_choice_16
      refine PP.bind (mw_step (13 : Int32) (0 : Int32) (0 : Int32) F4 G4) ?_
      intro r10 F10 G10 hK10
      dsimp only
      have g_11 : G10 4 = K := Eq.trans (hK10.2 4 rfl) g_5
      have g_12 : G10 5 = V := Eq.trans (hK10.2 5 rfl) g_6
      have q_13 : F10 42 = (F4 42) := hK10.1 42 rfl
      have q_14 : F10 43 = ((F 43) + (1 : Int32)) := Eq.trans (hK10.1 43 rfl) (show (F4 43) = ((F 43) + (1 : Int32)) by simp only [q_8, i_as])
      have q_15 : F10 44 = 0 := Eq.trans (hK10.1 44 rfl) h4a
      unfold mb_choice_24
      refine PP.bind (PP.and (ihK 5 0 0 F10 G10) (ih 5 0 0 F10 G10 g_11 g_12 (show F10 44 = 0 from q_15))) ?_
      rintro r16 F16 G16 ⟨hK16, (⟨rfl, h16a, h16b, h16⟩ | ⟨rfl, h16a, h16⟩)⟩
      · dsimp only
        have g_17 : G16 4 = K := Eq.trans (hK16.2 4 rfl) g_11
        have g_18 : G16 5 = V := Eq.trans (hK16.2 5 rfl) g_12
        have h_19 : r 5 (F4 42) ((F 43) + (1 : Int32)) = some (some (F16 42)) := by
          have q : r 5 (F10 42) (F10 43) = some (some (F16 42)) := h16
          simp only [q_13, q_14, i_as] at q; exact q
        have q_20 : F16 43 = ((F 43) + (1 : Int32)) := by
          have q := (show F16 43 = (F10 43) from h16b)
          simp only [q_13, q_14, i_as] at q; exact q
        unfold mb_choice_29
        refine PP.ite (fun c_21 => absurd c_21 (by decide)) (fun _ => ?_)
        unfold mb_choice_34
        refine PP.ite (fun c_22 => ?_) (fun c_22 => ?_)
        · skip
          unfold mb_choice_41
          refine PP.bind (mp_isWord (5 : Int32) F16 G16) ?_
          rintro _ _ _ ⟨rfl, rfl, (⟨rfl, h23⟩ | ⟨rfl, h23⟩)⟩
          · dsimp only
            have h_24 : wdn K V (F16 42) (5 : Int32) = true := by
              rw [← g_17, ← g_18]
              have q := h23
              first | exact q | (simp only [q_20, i_as] at q; exact q) | (simp only [q_20, i_as] at q ⊢; exact q)
            unfold mb_choice_46
            refine PP.ite (fun c_25 => absurd c_25 (by decide)) (fun _ => ?_)
            unfold mb_choice_49
            unfold mb_choice_59
            refine PP.bind (mw_step (12 : Int32) (0 : Int32) (0 : Int32) (fup F16 42 ((F16 42) + (1 : Int32))) G16) ?_
            intro r26 F26 G26 hK26
            dsimp only
            have g_27 : G26 4 = K := Eq.trans (hK26.2 4 rfl) g_17
            have g_28 : G26 5 = V := Eq.trans (hK26.2 5 rfl) g_18
            have q_29 : F26 42 = ((F16 42) + (1 : Int32)) := hK26.1 42 rfl
            have q_30 : F26 43 = ((F 43) + (1 : Int32)) := Eq.trans (hK26.1 43 rfl) (show (F16 43) = ((F 43) + (1 : Int32)) by simp only [q_20, i_as])
            have q_31 : F26 44 = 0 := Eq.trans (hK26.1 44 rfl) h16a
            unfold mb_choice_67
            refine PP.ix (fun _ => ?_)
            unfold mb_choice_78
            refine PP.bind (PP.and (ihK 5 0 0 F26 (gup G26 57 r10.toNatClampNeg (F26 60))) (ih 5 0 0 F26 (gup G26 57 r10.toNatClampNeg (F26 60)) g_27 g_28 (show F26 44 = 0 from q_31))) ?_
            rintro r32 F32 G32 ⟨hK32, (⟨rfl, h32a, h32b, h32⟩ | ⟨rfl, h32a, h32⟩)⟩
            · dsimp only
              have g_33 : G32 4 = K := Eq.trans (hK32.2 4 rfl) g_27
              have g_34 : G32 5 = V := Eq.trans (hK32.2 5 rfl) g_28
              have h_35 : r 5 ((F16 42) + (1 : Int32)) ((F 43) + (1 : Int32)) = some (some (F32 42)) := by
                have q : r 5 (F26 42) (F26 43) = some (some (F32 42)) := h32
                simp only [q_29, q_30, i_as] at q; exact q
              have q_36 : F32 43 = ((F 43) + (1 : Int32)) := by
                have q := (show F32 43 = (F26 43) from h32b)
                simp only [q_29, q_30, i_as] at q; exact q
              unfold mb_choice_82
              refine PP.ite (fun c_37 => absurd c_37 (by decide)) (fun _ => ?_)
              unfold mb_choice_87
              refine PP.ix (fun _ => ?_)
              unfold mb_choice_97
              unfold mb_choice_110
              unfold mb_choice_120
              refine PP.ite (fun c_38 => ?_) (fun c_38 => ?_)
              · skip
                unfold mb_choice_127
                unfold mb_choice_132
                refine PP.ret ?_
                refine Or.inl ⟨rfl, h32a, ?_, (rfl : (rchoice K V fu r (F 42) (F 43)) = _).trans ?_⟩
                · show ((F32 43) - (1 : Int32)) = F 43
                  first | rfl | (simp only [q_36, i_as])
                · show _ = some (some (F32 42))
                  first | rfl | (simp only [rchoice, h_2, h_7, h_19, h_24, h_35, q_36, i_as, i10, eq_self, rb_yes, rb_no, ryes, rno, if_true, if_false, f_tt (p := True), reduceIte])
              · skip
                exact absurd h32a (show ¬ ((F32 44) = (0 : Int32)) from c_38)
            · dsimp only
              have g_39 : G32 4 = K := Eq.trans (hK32.2 4 rfl) g_27
              have g_40 : G32 5 = V := Eq.trans (hK32.2 5 rfl) g_28
              have h_41 : r 5 ((F16 42) + (1 : Int32)) ((F 43) + (1 : Int32)) = some (none) := by
                have q : r 5 (F26 42) (F26 43) = some (none) := h32
                simp only [q_29, q_30, i_as] at q; exact q
              unfold mb_choice_82
              refine PP.ite (fun _ => ?_) (fun c_42 => absurd (by decide) c_42)
              unfold mb_choice_85
              refine PP.ret ?_
              refine Or.inr ⟨rfl, h32a, (rfl : (rchoice K V fu r (F 42) (F 43)) = _).trans ?_⟩
              first | rfl | (simp only [rchoice, h_2, h_7, h_19, h_24, h_41, i_as, i10, eq_self, rb_yes, rb_no, ryes, rno, if_true, if_false, f_tt (p := True), reduceIte])
          · dsimp only
            have h_43 : wdn K V (F16 42) (5 : Int32) = false := by
              rw [← g_17, ← g_18]
              have q := h23
              first | exact q | (simp only [q_20, i_as] at q; exact q) | (simp only [q_20, i_as] at q ⊢; exact q)
            unfold mb_choice_46
            refine PP.ite (fun _ => ?_) (fun c_44 => absurd (by decide) c_44)
            unfold mb_choice_100
            refine PP.ix (fun _ => ?_)
            unfold mb_choice_110
            unfold mb_choice_120
            refine PP.ite (fun c_45 => ?_) (fun c_45 => ?_)
            · skip
              unfold mb_choice_127
              unfold mb_choice_132
              refine PP.ret ?_
              refine Or.inl ⟨rfl, h16a, ?_, (rfl : (rchoice K V fu r (F 42) (F 43)) = _).trans ?_⟩
              · show ((F16 43) - (1 : Int32)) = F 43
                first | rfl | (simp only [q_20, i_as])
              · show _ = some (some (F16 42))
                first | rfl | (simp only [rchoice, h_2, h_7, h_19, h_43, q_20, i_as, i10, eq_self, rb_yes, rb_no, ryes, rno, if_true, if_false, f_tt (p := True), reduceIte])
            · skip
              exact absurd h16a (show ¬ ((F16 44) = (0 : Int32)) from c_45)
        · skip
          exact absurd h16a (show ¬ ((F16 44) = (0 : Int32)) from c_22)
      · dsimp only
        have g_46 : G16 4 = K := Eq.trans (hK16.2 4 rfl) g_11
        have g_47 : G16 5 = V := Eq.trans (hK16.2 5 rfl) g_12
        have h_48 : r 5 (F4 42) ((F 43) + (1 : Int32)) = some (none) := by
          have q : r 5 (F10 42) (F10 43) = some (none) := h16
          simp only [q_13, q_14, i_as] at q; exact q
        unfold mb_choice_29
        refine PP.ite (fun _ => ?_) (fun c_49 => absurd (by decide) c_49)
        unfold mb_choice_32
        refine PP.ret ?_
        refine Or.inr ⟨rfl, h16a, (rfl : (rchoice K V fu r (F 42) (F 43)) = _).trans ?_⟩
        first | rfl | (simp only [rchoice, h_2, h_7, h_48, i_as, i10, eq_self, rb_yes, rb_no, ryes, rno, if_true, if_false, f_tt (p := True), reduceIte])
    · dsimp only
      have g_50 : G4 4 = K := Eq.trans (hK4.2 4 rfl) g4
      have g_51 : G4 5 = V := Eq.trans (hK4.2 5 rfl) g5
      have h_52 : rcond K V fu ((F 42) + (1 : Int32)) ((F 43) + (1 : Int32)) = some (none) := h4
      unfold mb_choice_11
      refine PP.ite (fun _ => ?_) (fun c_53 => absurd (by decide) c_53)
      unfold mb_choice_14
      refine PP.ret ?_
      refine Or.inr ⟨rfl, h4a, (rfl : (rchoice K V fu r (F 42) (F 43)) = _).trans ?_⟩
      first | rfl | (simp only [rchoice, h_2, h_52, i_as, i10, eq_self, rb_yes, rb_no, ryes, rno, if_true, if_false, f_tt (p := True), reduceIte])
  · dsimp only
    have g_54 : G1 4 = K := Eq.trans (h1.2.2.2 4 rfl) g4
    have g_55 : G1 5 = V := Eq.trans (h1.2.2.2 5 rfl) g5
    have q_56 : F1 42 = (F 42) := h1.2.2.1 42 rfl
    have q_57 : F1 43 = (F 43) := h1.2.2.1 43 rfl
    have h_58 : (F 43) = 40 := h1b
    unfold mb_choice_4
    refine PP.ite (fun _ => ?_) (fun c_59 => absurd (by decide) c_59)
    unfold mb_choice_14
    refine PP.ret ?_
    refine Or.inr ⟨rfl, h1.1, (rfl : (rchoice K V fu r (F 42) (F 43)) = _).trans ?_⟩
    first | rfl | (simp only [rchoice, h_58, q_56, q_57, i_as, i10, eq_self, rb_yes, rb_no, ryes, rno, if_true, if_false, f_tt (p := True), reduceIte])
theorem mrj_counted_226 {fu : Nat} {K V : Nat → Int32} (rc : RC) (r : RR) (ihK : mKI2 rc) (ih : mRI2 K V rc r) {F0 : PF} {R0 : OR} (x1 : Int32) (x6 : Int32) (F : PF) (G : PG) (g4 : G 4 = K) (g5 : G 5 = V) (hA : (F 44 = 0 ∧ F 43 = ((F0 43) + (1 : Int32)) ∧ R0 = ryes (F 42))) : PP (mb_counted_226 fu rc x1 x6 F G) (fun r' F' _ => ROK R0 F0 r' F') := by
  rcases hA with ⟨h44, h43, hR⟩
  · skip
    unfold mb_counted_226
    refine PP.bind (mw_settle x6 (F 60) F G) ?_
    intro r1 F1 G1 hK1
    dsimp only
    have g_2 : G1 4 = K := Eq.trans (hK1.2 4 rfl) g4
    have g_3 : G1 5 = V := Eq.trans (hK1.2 5 rfl) g5
    have q_4 : F1 42 = (F 42) := hK1.1 42 rfl
    have q_5 : F1 43 = ((F0 43) + (1 : Int32)) := Eq.trans (hK1.1 43 rfl) (show (F 43) = ((F0 43) + (1 : Int32)) by simp only [h43, i_as])
    have q_6 : F1 44 = 0 := Eq.trans (hK1.1 44 rfl) h44
    unfold mb_counted_236
    refine PP.bind (mw_ends x1 F1 G1) ?_
    intro r7 F7 G7 hK7
    dsimp only
    have g_8 : G7 4 = K := Eq.trans (hK7.2 4 rfl) g_2
    have g_9 : G7 5 = V := Eq.trans (hK7.2 5 rfl) g_3
    have q_10 : F7 42 = (F 42) := Eq.trans (hK7.1 42 rfl) (show (F1 42) = (F 42) by simp only [q_4, q_5, i_as])
    have q_11 : F7 43 = ((F0 43) + (1 : Int32)) := Eq.trans (hK7.1 43 rfl) (show (F1 43) = ((F0 43) + (1 : Int32)) by simp only [q_4, q_5, i_as])
    have q_12 : F7 44 = 0 := Eq.trans (hK7.1 44 rfl) q_6
    unfold mb_counted_241
    unfold mb_counted_251
    refine PP.ret ?_
    refine Or.inl ⟨rfl, q_12, ?_, hR.trans ?_⟩
    · show ((F7 43) - (1 : Int32)) = F0 43
      first | rfl | (simp only [q_10, q_11, i_as])
    · show _ = some (some (F7 42))
      first | rfl | (simp only [rcounted, rcnt2, rcnt3, rcnt4, q_10, q_11, i_as, i10, eq_self, rb_yes, rb_no, ryes, rno, if_true, if_false, f_tt (p := True), reduceIte])
theorem mrj_counted_153 {fu : Nat} {K V : Nat → Int32} (rc : RC) (r : RR) (ihK : mKI2 rc) (ih : mRI2 K V rc r) {F0 : PF} {R0 : OR} (x1 : Int32) (x2 : Int32) (x3 : Int32) (x4 : Int32) (x5 : Int32) (F : PF) (G : PG) (g4 : G 4 = K) (g5 : G 5 = V) (hA : (F 44 = 0 ∧ F 43 = (((F0 43) + (1 : Int32)) + (1 : Int32)) ∧ R0 = rcnt4 K V r (F 42) (F 43))) : PP (mb_counted_153 fu rc x1 x2 x3 x4 x5 F G) (fun r' F' _ => ROK R0 F0 r' F') := by
  rcases hA with ⟨h44, h43, hR⟩
  · skip
    unfold mb_counted_153
    refine PP.bind (mp_closeSign (23 : Int32) F G) ?_
    rintro r1 F1 G1 (⟨rfl, rfl, rfl, h1⟩ | ⟨rfl, h1, h1b⟩)
    · dsimp only
      have h_2 : sgn K V (F 42) (23 : Int32) = true := by
        rw [← g4, ← g5]
        have q := h1.1
        first | exact q | (simp only [h43, i_as] at q; exact q) | (simp only [h43, i_as] at q ⊢; exact q)
      unfold mb_counted_159
      refine PP.ite (fun c_3 => absurd c_3 (by decide)) (fun _ => ?_)
      unfold mb_counted_164
      refine PP.bind (mw_step (12 : Int32) x2 (0 : Int32) (fup (fup F 42 ((F 42) + (1 : Int32))) 43 ((F 43) - (1 : Int32))) G) ?_
      intro r4 F4 G4 hK4
      dsimp only
      have g_5 : G4 4 = K := Eq.trans (hK4.2 4 rfl) g4
      have g_6 : G4 5 = V := Eq.trans (hK4.2 5 rfl) g5
      have q_7 : F4 42 = ((F 42) + (1 : Int32)) := hK4.1 42 rfl
      have q_8 : F4 43 = ((((F0 43) + (1 : Int32)) + (1 : Int32)) - (1 : Int32)) := Eq.trans (hK4.1 43 rfl) (show ((F 43) - (1 : Int32)) = ((((F0 43) + (1 : Int32)) + (1 : Int32)) - (1 : Int32)) by simp only [h43, i_as])
      have q_9 : F4 44 = 0 := Eq.trans (hK4.1 44 rfl) h44
      unfold mb_counted_172
      refine PP.ix (fun _ => ?_)
      unfold mb_counted_184
      refine PP.bind (PP.and (ihK 1 x5 0 F4 (gup G4 57 x4.toNatClampNeg (F4 60))) (ih 1 x5 0 F4 (gup G4 57 x4.toNatClampNeg (F4 60)) g_5 g_6 (show F4 44 = 0 from q_9))) ?_
      rintro r10 F10 G10 ⟨hK10, (⟨rfl, h10a, h10b, h10⟩ | ⟨rfl, h10a, h10⟩)⟩
      · dsimp only
        have g_11 : G10 4 = K := Eq.trans (hK10.2 4 rfl) g_5
        have g_12 : G10 5 = V := Eq.trans (hK10.2 5 rfl) g_6
        have h_13 : r 1 ((F 42) + (1 : Int32)) ((((F0 43) + (1 : Int32)) + (1 : Int32)) - (1 : Int32)) = some (some (F10 42)) := by
          have q : r 1 (F4 42) (F4 43) = some (some (F10 42)) := h10
          simp only [q_7, q_8, i_as] at q; exact q
        have q_14 : F10 43 = ((((F0 43) + (1 : Int32)) + (1 : Int32)) - (1 : Int32)) := by
          have q := (show F10 43 = (F4 43) from h10b)
          simp only [q_7, q_8, i_as] at q; exact q
        unfold mb_counted_190
        refine PP.ite (fun c_15 => absurd c_15 (by decide)) (fun _ => ?_)
        unfold mb_counted_195
        refine PP.bind (mw_step (12 : Int32) x5 (0 : Int32) F10 G10) ?_
        intro r16 F16 G16 hK16
        dsimp only
        have g_17 : G16 4 = K := Eq.trans (hK16.2 4 rfl) g_11
        have g_18 : G16 5 = V := Eq.trans (hK16.2 5 rfl) g_12
        have q_19 : F16 42 = (F10 42) := hK16.1 42 rfl
        have q_20 : F16 43 = ((((F0 43) + (1 : Int32)) + (1 : Int32)) - (1 : Int32)) := Eq.trans (hK16.1 43 rfl) (show (F10 43) = ((((F0 43) + (1 : Int32)) + (1 : Int32)) - (1 : Int32)) by simp only [q_14, i_as])
        have q_21 : F16 44 = 0 := Eq.trans (hK16.1 44 rfl) h10a
        unfold mb_counted_210
        refine PP.ite (fun c_22 => ?_) (fun c_22 => ?_)
        · skip
          exact mrj_counted_226 rc r ihK ih (F0 := F0) (R0 := R0) x1 (F10 65) F16 G16 g_17 g_18 ⟨q_21, (by first | rfl | (simp only [q_19, q_20, i_as])), (hR.trans (by first | rfl | (simp only [rcounted, rcnt2, rcnt3, rcnt4, h_2, h_13, q_19, q_20, i_as, i10, eq_self, rb_yes, rb_no, ryes, rno, if_true, if_false, f_tt (p := True), reduceIte])))⟩
        · skip
          unfold mb_counted_216
          refine PP.ix (fun _ => ?_)
          exact mrj_counted_226 rc r ihK ih (F0 := F0) (R0 := R0) x1 (F10 65) F16 (gup G16 57 x3.toNatClampNeg (F16 60)) g_17 g_18 ⟨q_21, (by first | rfl | (simp only [q_19, q_20, i_as])), (hR.trans (by first | rfl | (simp only [rcounted, rcnt2, rcnt3, rcnt4, h_2, h_13, q_19, q_20, i_as, i10, eq_self, rb_yes, rb_no, ryes, rno, if_true, if_false, f_tt (p := True), reduceIte])))⟩
      · dsimp only
        have g_23 : G10 4 = K := Eq.trans (hK10.2 4 rfl) g_5
        have g_24 : G10 5 = V := Eq.trans (hK10.2 5 rfl) g_6
        have h_25 : r 1 ((F 42) + (1 : Int32)) ((((F0 43) + (1 : Int32)) + (1 : Int32)) - (1 : Int32)) = some (none) := by
          have q : r 1 (F4 42) (F4 43) = some (none) := h10
          simp only [q_7, q_8, i_as] at q; exact q
        unfold mb_counted_190
        refine PP.ite (fun _ => ?_) (fun c_26 => absurd (by decide) c_26)
        unfold mb_counted_193
        refine PP.ret ?_
        refine Or.inr ⟨rfl, h10a, hR.trans ?_⟩
        first | rfl | (simp only [rcounted, rcnt2, rcnt3, rcnt4, h_2, h_25, i_as, i10, eq_self, rb_yes, rb_no, ryes, rno, if_true, if_false, f_tt (p := True), reduceIte])
    · dsimp only
      have g_27 : G1 4 = K := Eq.trans (h1.2.2.2 4 rfl) g4
      have g_28 : G1 5 = V := Eq.trans (h1.2.2.2 5 rfl) g5
      have q_29 : F1 42 = (F 42) := h1.2.2.1 42 rfl
      have q_30 : F1 43 = (((F0 43) + (1 : Int32)) + (1 : Int32)) := Eq.trans (h1.2.2.1 43 rfl) (show (F 43) = (((F0 43) + (1 : Int32)) + (1 : Int32)) by simp only [h43, i_as])
      rcases h1b with q | q
      · exact absurd q (by rw [h44]; decide)
      · skip
        have h_31 : sgn K V (F 42) (23 : Int32) = false := by
          rw [← g4, ← g5]
          have q := q
          first | exact q | (simp only [h43, i_as] at q; exact q) | (simp only [h43, i_as] at q ⊢; exact q)
        unfold mb_counted_159
        refine PP.ite (fun _ => ?_) (fun c_32 => absurd (by decide) c_32)
        unfold mb_counted_162
        refine PP.ret ?_
        refine Or.inr ⟨rfl, h1.1, hR.trans ?_⟩
        first | rfl | (simp only [rcounted, rcnt2, rcnt3, rcnt4, h_31, q_29, q_30, i_as, i10, eq_self, rb_yes, rb_no, ryes, rno, if_true, if_false, f_tt (p := True), reduceIte])
theorem mrj_counted_108 {fu : Nat} {K V : Nat → Int32} (rc : RC) (r : RR) (ihK : mKI2 rc) (ih : mRI2 K V rc r) {F0 : PF} {R0 : OR} (x1 : Int32) (x2 : Int32) (x3 : Int32) (F : PF) (G : PG) (g4 : G 4 = K) (g5 : G 5 = V) (hA : (F 44 = 0 ∧ F 43 = (((F0 43) + (1 : Int32)) + (1 : Int32)) ∧ R0 = rcnt3 K V fu r (F 42) (F 43))) : PP (mb_counted_108 fu rc x1 x2 x3 F G) (fun r' F' _ => ROK R0 F0 r' F') := by
  rcases hA with ⟨h44, h43, hR⟩
  · skip
    unfold mb_counted_108
    refine PP.bind (mp_sign (29 : Int32) F G) ?_
    rintro r1 F1 G1 (⟨rfl, rfl, rfl, h1⟩ | ⟨rfl, h1, h1b⟩)
    · dsimp only
      have h_2 : sgn K V (F 42) (29 : Int32) = true := by
        rw [← g4, ← g5]
        have q := h1.1
        first | exact q | (simp only [h43, i_as] at q; exact q) | (simp only [h43, i_as] at q ⊢; exact q)
      unfold mb_counted_114
      refine PP.ite (fun c_3 => absurd c_3 (by decide)) (fun _ => ?_)
      unfold mb_counted_119
      refine PP.bind (mw_step (12 : Int32) (0 : Int32) (0 : Int32) (fup F 42 ((F 42) + (1 : Int32))) G) ?_
      intro r4 F4 G4 hK4
      dsimp only
      have g_5 : G4 4 = K := Eq.trans (hK4.2 4 rfl) g4
      have g_6 : G4 5 = V := Eq.trans (hK4.2 5 rfl) g5
      have q_7 : F4 42 = ((F 42) + (1 : Int32)) := hK4.1 42 rfl
      have q_8 : F4 43 = (((F0 43) + (1 : Int32)) + (1 : Int32)) := Eq.trans (hK4.1 43 rfl) (show (F 43) = (((F0 43) + (1 : Int32)) + (1 : Int32)) by simp only [h43, i_as])
      have q_9 : F4 44 = 0 := Eq.trans (hK4.1 44 rfl) h44
      unfold mb_counted_127
      refine PP.bind (mp_isSign (23 : Int32) F4 G4) ?_
      rintro _ _ _ ⟨rfl, rfl, (⟨rfl, h10⟩ | ⟨rfl, h10⟩)⟩
      · dsimp only
        have h_11 : sgn K V ((F 42) + (1 : Int32)) (23 : Int32) = true := by
          rw [← g_5, ← g_6]
          have q := h10
          first | exact q | (simp only [q_7, q_8, i_as] at q; exact q) | (simp only [q_7, q_8, i_as] at q ⊢; exact q)
        unfold mb_counted_141
        refine PP.ite (fun c_12 => absurd c_12 (by decide)) (fun _ => ?_)
        exact mrj_counted_153 rc r ihK ih (F0 := F0) (R0 := R0) x1 x2 x3 r4 (F4 60) F4 G4 g_5 g_6 ⟨q_9, (by first | rfl | (simp only [q_7, q_8, i_as])), (hR.trans (by first | rfl | (simp only [rcounted, rcnt2, rcnt3, rcnt4, h_2, h_11, q_7, q_8, i_as, i10, eq_self, rb_yes, rb_no, ryes, rno, if_true, if_false, f_tt (p := True), reduceIte])))⟩
      · dsimp only
        have h_13 : sgn K V ((F 42) + (1 : Int32)) (23 : Int32) = false := by
          rw [← g_5, ← g_6]
          have q := h10
          first | exact q | (simp only [q_7, q_8, i_as] at q; exact q) | (simp only [q_7, q_8, i_as] at q ⊢; exact q)
        unfold mb_counted_141
        refine PP.ite (fun _ => ?_) (fun c_14 => absurd (by decide) c_14)
        unfold mb_counted_144
        refine PP.bind (PP.and (mw_simple F4 G4) (mr_simple F4 G4 g_5 g_6 (show F4 44 = 0 from q_9))) ?_
        rintro r15 F15 G15 ⟨hK15, (⟨rfl, h15a, h15b, h15⟩ | ⟨rfl, h15a, h15⟩)⟩
        · dsimp only
          have g_16 : G15 4 = K := Eq.trans (hK15.2 4 rfl) g_5
          have g_17 : G15 5 = V := Eq.trans (hK15.2 5 rfl) g_6
          have h_18 : rsimple K V fu ((F 42) + (1 : Int32)) (((F0 43) + (1 : Int32)) + (1 : Int32)) = some (some (F15 42)) := by
            have q : rsimple K V fu (F4 42) (F4 43) = some (some (F15 42)) := h15
            simp only [q_7, q_8, i_as] at q; exact q
          have q_19 : F15 43 = (((F0 43) + (1 : Int32)) + (1 : Int32)) := by
            have q := (show F15 43 = (F4 43) from h15b)
            simp only [q_7, q_8, i_as] at q; exact q
          unfold mb_counted_148
          refine PP.ite (fun c_20 => absurd c_20 (by decide)) (fun _ => ?_)
          exact mrj_counted_153 rc r ihK ih (F0 := F0) (R0 := R0) x1 x2 x3 r4 (F4 60) F15 G15 g_16 g_17 ⟨h15a, (by first | rfl | (simp only [q_19, i_as])), (hR.trans (by first | rfl | (simp only [rcounted, rcnt2, rcnt3, rcnt4, h_2, h_13, h_18, q_19, i_as, i10, eq_self, rb_yes, rb_no, ryes, rno, if_true, if_false, f_tt (p := True), reduceIte])))⟩
        · dsimp only
          have g_21 : G15 4 = K := Eq.trans (hK15.2 4 rfl) g_5
          have g_22 : G15 5 = V := Eq.trans (hK15.2 5 rfl) g_6
          have h_23 : rsimple K V fu ((F 42) + (1 : Int32)) (((F0 43) + (1 : Int32)) + (1 : Int32)) = some (none) := by
            have q : rsimple K V fu (F4 42) (F4 43) = some (none) := h15
            simp only [q_7, q_8, i_as] at q; exact q
          unfold mb_counted_148
          refine PP.ite (fun _ => ?_) (fun c_24 => absurd (by decide) c_24)
          unfold mb_counted_151
          refine PP.ret ?_
          refine Or.inr ⟨rfl, h15a, hR.trans ?_⟩
          first | rfl | (simp only [rcounted, rcnt2, rcnt3, rcnt4, h_2, h_13, h_23, i_as, i10, eq_self, rb_yes, rb_no, ryes, rno, if_true, if_false, f_tt (p := True), reduceIte])
    · dsimp only
      have g_25 : G1 4 = K := Eq.trans (h1.2.2.2 4 rfl) g4
      have g_26 : G1 5 = V := Eq.trans (h1.2.2.2 5 rfl) g5
      have q_27 : F1 42 = (F 42) := h1.2.2.1 42 rfl
      have q_28 : F1 43 = (((F0 43) + (1 : Int32)) + (1 : Int32)) := Eq.trans (h1.2.2.1 43 rfl) (show (F 43) = (((F0 43) + (1 : Int32)) + (1 : Int32)) by simp only [h43, i_as])
      rcases h1b with q | q
      · exact absurd q (by rw [h44]; decide)
      · skip
        have h_29 : sgn K V (F 42) (29 : Int32) = false := by
          rw [← g4, ← g5]
          have q := q
          first | exact q | (simp only [h43, i_as] at q; exact q) | (simp only [h43, i_as] at q ⊢; exact q)
        unfold mb_counted_114
        refine PP.ite (fun _ => ?_) (fun c_30 => absurd (by decide) c_30)
        unfold mb_counted_117
        refine PP.ret ?_
        refine Or.inr ⟨rfl, h1.1, hR.trans ?_⟩
        first | rfl | (simp only [rcounted, rcnt2, rcnt3, rcnt4, h_29, q_27, q_28, i_as, i10, eq_self, rb_yes, rb_no, ryes, rno, if_true, if_false, f_tt (p := True), reduceIte])
theorem mrj_counted_63 {fu : Nat} {K V : Nat → Int32} (rc : RC) (r : RR) (ihK : mKI2 rc) (ih : mRI2 K V rc r) {F0 : PF} {R0 : OR} (x1 : Int32) (F : PF) (G : PG) (g4 : G 4 = K) (g5 : G 5 = V) (hA : (F 44 = 0 ∧ F 43 = (((F0 43) + (1 : Int32)) + (1 : Int32)) ∧ R0 = rcnt2 K V fu r (F 42) (F 43))) : PP (mb_counted_63 fu rc x1 F G) (fun r' F' _ => ROK R0 F0 r' F') := by
  rcases hA with ⟨h44, h43, hR⟩
  · skip
    unfold mb_counted_63
    refine PP.bind (mp_sign (29 : Int32) F G) ?_
    rintro r1 F1 G1 (⟨rfl, rfl, rfl, h1⟩ | ⟨rfl, h1, h1b⟩)
    · dsimp only
      have h_2 : sgn K V (F 42) (29 : Int32) = true := by
        rw [← g4, ← g5]
        have q := h1.1
        first | exact q | (simp only [h43, i_as] at q; exact q) | (simp only [h43, i_as] at q ⊢; exact q)
      unfold mb_counted_69
      refine PP.ite (fun c_3 => absurd c_3 (by decide)) (fun _ => ?_)
      unfold mb_counted_74
      refine PP.bind (mp_isSign (29 : Int32) (fup F 42 ((F 42) + (1 : Int32))) G) ?_
      rintro _ _ _ ⟨rfl, rfl, (⟨rfl, h4⟩ | ⟨rfl, h4⟩)⟩
      · dsimp only
        have h_5 : sgn K V ((F 42) + (1 : Int32)) (29 : Int32) = true := by
          rw [← g4, ← g5]
          have q := h4
          first | exact q | (simp only [h43, i_as] at q; exact q) | (simp only [h43, i_as] at q ⊢; exact q)
        unfold mb_counted_87
        refine PP.ite (fun c_6 => absurd c_6 (by decide)) (fun _ => ?_)
        exact mrj_counted_108 rc r ihK ih (F0 := F0) (R0 := R0) x1 (F 60) (-1 : Int32) (fup F 42 ((F 42) + (1 : Int32))) G g4 g5 ⟨h44, (by first | rfl | (simp only [h43, i_as])), (hR.trans (by first | rfl | (simp only [rcounted, rcnt2, rcnt3, rcnt4, h_2, h_5, h43, i_as, i10, eq_self, rb_yes, rb_no, ryes, rno, if_true, if_false, f_tt (p := True), reduceIte])))⟩
      · dsimp only
        have h_7 : sgn K V ((F 42) + (1 : Int32)) (29 : Int32) = false := by
          rw [← g4, ← g5]
          have q := h4
          first | exact q | (simp only [h43, i_as] at q; exact q) | (simp only [h43, i_as] at q ⊢; exact q)
        unfold mb_counted_87
        refine PP.ite (fun _ => ?_) (fun c_8 => absurd (by decide) c_8)
        unfold mb_counted_90
        refine PP.bind (PP.and (mw_expression (fup F 42 ((F 42) + (1 : Int32))) G) (mr_expression (fup F 42 ((F 42) + (1 : Int32))) G g4 g5 (show (fup F 42 ((F 42) + (1 : Int32))) 44 = 0 from h44))) ?_
        rintro r9 F9 G9 ⟨hK9, (⟨rfl, h9a, h9b, h9⟩ | ⟨rfl, h9a, h9⟩)⟩
        · dsimp only
          have g_10 : G9 4 = K := Eq.trans (hK9.2 4 rfl) g4
          have g_11 : G9 5 = V := Eq.trans (hK9.2 5 rfl) g5
          have h_12 : rS1 K V fu 300 4 ((F 42) + (1 : Int32)) (((F0 43) + (1 : Int32)) + (1 : Int32)) = some (some (F9 42)) := by
            have q : rS1 K V fu 300 4 ((F 42) + (1 : Int32)) (F 43) = some (some (F9 42)) := h9
            simp only [h43, i_as] at q; exact q
          have q_13 : F9 43 = (((F0 43) + (1 : Int32)) + (1 : Int32)) := by
            have q := (show F9 43 = (F 43) from h9b)
            simp only [h43, i_as] at q; exact q
          unfold mb_counted_94
          refine PP.ite (fun c_14 => absurd c_14 (by decide)) (fun _ => ?_)
          unfold mb_counted_99
          refine PP.bind (mw_step (13 : Int32) (0 : Int32) (0 : Int32) F9 G9) ?_
          intro r15 F15 G15 hK15
          dsimp only
          have g_16 : G15 4 = K := Eq.trans (hK15.2 4 rfl) g_10
          have g_17 : G15 5 = V := Eq.trans (hK15.2 5 rfl) g_11
          have q_18 : F15 42 = (F9 42) := hK15.1 42 rfl
          have q_19 : F15 43 = (((F0 43) + (1 : Int32)) + (1 : Int32)) := Eq.trans (hK15.1 43 rfl) (show (F9 43) = (((F0 43) + (1 : Int32)) + (1 : Int32)) by simp only [q_13, i_as])
          have q_20 : F15 44 = 0 := Eq.trans (hK15.1 44 rfl) h9a
          unfold mb_counted_107
          exact mrj_counted_108 rc r ihK ih (F0 := F0) (R0 := R0) x1 (F 60) r15 F15 G15 g_16 g_17 ⟨q_20, (by first | rfl | (simp only [q_18, q_19, i_as])), (hR.trans (by first | rfl | (simp only [rcounted, rcnt2, rcnt3, rcnt4, h_2, h_7, h_12, q_18, q_19, i_as, i10, eq_self, rb_yes, rb_no, ryes, rno, if_true, if_false, f_tt (p := True), reduceIte])))⟩
        · dsimp only
          have g_21 : G9 4 = K := Eq.trans (hK9.2 4 rfl) g4
          have g_22 : G9 5 = V := Eq.trans (hK9.2 5 rfl) g5
          have h_23 : rS1 K V fu 300 4 ((F 42) + (1 : Int32)) (((F0 43) + (1 : Int32)) + (1 : Int32)) = some (none) := by
            have q : rS1 K V fu 300 4 ((F 42) + (1 : Int32)) (F 43) = some (none) := h9
            simp only [h43, i_as] at q; exact q
          unfold mb_counted_94
          refine PP.ite (fun _ => ?_) (fun c_24 => absurd (by decide) c_24)
          unfold mb_counted_97
          refine PP.ret ?_
          refine Or.inr ⟨rfl, h9a, hR.trans ?_⟩
          first | rfl | (simp only [rcounted, rcnt2, rcnt3, rcnt4, h_2, h_7, h_23, i_as, i10, eq_self, rb_yes, rb_no, ryes, rno, if_true, if_false, f_tt (p := True), reduceIte])
    · dsimp only
      have g_25 : G1 4 = K := Eq.trans (h1.2.2.2 4 rfl) g4
      have g_26 : G1 5 = V := Eq.trans (h1.2.2.2 5 rfl) g5
      have q_27 : F1 42 = (F 42) := h1.2.2.1 42 rfl
      have q_28 : F1 43 = (((F0 43) + (1 : Int32)) + (1 : Int32)) := Eq.trans (h1.2.2.1 43 rfl) (show (F 43) = (((F0 43) + (1 : Int32)) + (1 : Int32)) by simp only [h43, i_as])
      rcases h1b with q | q
      · exact absurd q (by rw [h44]; decide)
      · skip
        have h_29 : sgn K V (F 42) (29 : Int32) = false := by
          rw [← g4, ← g5]
          have q := q
          first | exact q | (simp only [h43, i_as] at q; exact q) | (simp only [h43, i_as] at q ⊢; exact q)
        unfold mb_counted_69
        refine PP.ite (fun _ => ?_) (fun c_30 => absurd (by decide) c_30)
        unfold mb_counted_72
        refine PP.ret ?_
        refine Or.inr ⟨rfl, h1.1, hR.trans ?_⟩
        first | rfl | (simp only [rcounted, rcnt2, rcnt3, rcnt4, h_29, q_27, q_28, i_as, i10, eq_self, rb_yes, rb_no, ryes, rno, if_true, if_false, f_tt (p := True), reduceIte])
theorem mrt_counted {fu : Nat} {K V : Nat → Int32} (rc : RC) (r : RR) (ihK : mKI2 rc) (ih : mRI2 K V rc r) (F : PF) (G : PG) (g4 : G 4 = K) (g5 : G 5 = V) (h44 : F 44 = 0) : PP (mh_counted fu rc F G) (fun r' F' _ => ROK (rcounted K V fu r (F 42) (F 43)) F r' F') := by
  unfold mh_counted
  unfold mb_counted_0
  refine PP.bind (mp_opens F G) ?_
  rintro r1 F1 G1 (⟨rfl, rfl, rfl, h1⟩ | ⟨rfl, h1, h1b⟩)
  · dsimp only
    have h_2 : ¬ (F 43) = 40 := h1
    unfold mb_counted_4
    refine PP.ite (fun c_3 => absurd c_3 (by decide)) (fun _ => ?_)
    unfold mb_counted_7
    refine PP.bind (mp_openSign (22 : Int32) (fup (fup F 43 ((F 43) + (1 : Int32))) 42 ((F 42) + (1 : Int32))) G) ?_
    rintro r4 F4 G4 (⟨rfl, rfl, rfl, h4⟩ | ⟨rfl, h4, h4b⟩)
    · dsimp only
      have h_5 : sgn K V ((F 42) + (1 : Int32)) (22 : Int32) = true := by
        rw [← g4, ← g5]
        have q := h4.1
        first | exact q | (simp only [i_as] at q; exact q) | (simp only [i_as] at q ⊢; exact q)
      have h_6 : ¬ ((F 43) + (1 : Int32)) = 40 := h4.2.1
      unfold mb_counted_13
      refine PP.ite (fun c_7 => absurd c_7 (by decide)) (fun _ => ?_)
      unfold mb_counted_18
      refine PP.bind (mw_begins (fup (fup (fup (fup F 43 ((F 43) + (1 : Int32))) 42 ((F 42) + (1 : Int32))) 43 (((F 43) + (1 : Int32)) + (1 : Int32))) 42 (((F 42) + (1 : Int32)) + (1 : Int32))) G) ?_
      intro r8 F8 G8 hK8
      dsimp only
      have g_9 : G8 4 = K := Eq.trans (hK8.2 4 rfl) g4
      have g_10 : G8 5 = V := Eq.trans (hK8.2 5 rfl) g5
      have q_11 : F8 42 = (((F 42) + (1 : Int32)) + (1 : Int32)) := hK8.1 42 rfl
      have q_12 : F8 43 = (((F 43) + (1 : Int32)) + (1 : Int32)) := hK8.1 43 rfl
      have q_13 : F8 44 = 0 := Eq.trans (hK8.1 44 rfl) h44
      unfold mb_counted_27
      refine PP.bind (mp_isSign (29 : Int32) F8 G8) ?_
      rintro _ _ _ ⟨rfl, rfl, (⟨rfl, h14⟩ | ⟨rfl, h14⟩)⟩
      · dsimp only
        have h_15 : sgn K V (((F 42) + (1 : Int32)) + (1 : Int32)) (29 : Int32) = true := by
          rw [← g_9, ← g_10]
          have q := h14
          first | exact q | (simp only [q_11, q_12, i_as] at q; exact q) | (simp only [q_11, q_12, i_as] at q ⊢; exact q)
        unfold mb_counted_33
        refine PP.ite (fun c_16 => absurd c_16 (by decide)) (fun _ => ?_)
        exact mrj_counted_63 rc r ihK ih (F0 := F) (R0 := (rcounted K V fu r (F 42) (F 43))) (F 15) F8 G8 g_9 g_10 ⟨q_13, (by first | rfl | (simp only [q_11, q_12, i_as])), ((rfl : (rcounted K V fu r (F 42) (F 43)) = _).trans (by first | rfl | (simp only [rcounted, rcnt2, rcnt3, rcnt4, h_2, h_5, h_6, h_15, q_11, q_12, i_as, i10, eq_self, rb_yes, rb_no, ryes, rno, if_true, if_false, f_tt (p := True), reduceIte])))⟩
      · dsimp only
        have h_17 : sgn K V (((F 42) + (1 : Int32)) + (1 : Int32)) (29 : Int32) = false := by
          rw [← g_9, ← g_10]
          have q := h14
          first | exact q | (simp only [q_11, q_12, i_as] at q; exact q) | (simp only [q_11, q_12, i_as] at q ⊢; exact q)
        unfold mb_counted_33
        refine PP.ite (fun _ => ?_) (fun c_18 => absurd (by decide) c_18)
        unfold mb_counted_36
        refine PP.bind (mp_isWord (0 : Int32) F8 G8) ?_
        rintro _ _ _ ⟨rfl, rfl, (⟨rfl, h19⟩ | ⟨rfl, h19⟩)⟩
        · dsimp only
          have h_20 : wdn K V (((F 42) + (1 : Int32)) + (1 : Int32)) (0 : Int32) = true := by
            rw [← g_9, ← g_10]
            have q := h19
            first | exact q | (simp only [q_11, q_12, i_as] at q; exact q) | (simp only [q_11, q_12, i_as] at q ⊢; exact q)
          unfold mb_counted_41
          refine PP.ite (fun c_21 => absurd c_21 (by decide)) (fun _ => ?_)
          unfold mb_counted_44
          refine PP.bind (PP.and (mw_tellHere (0 : Int32) F8 G8) (mr_tellHere (0 : Int32) F8 G8 g_9 g_10 (show F8 44 = 0 from q_13))) ?_
          rintro r22 F22 G22 ⟨hK22, (⟨rfl, h22a, h22b, h22⟩ | ⟨rfl, h22a, h22⟩)⟩
          · dsimp only
            have g_23 : G22 4 = K := Eq.trans (hK22.2 4 rfl) g_9
            have g_24 : G22 5 = V := Eq.trans (hK22.2 5 rfl) g_10
            have h_25 : rtell K V fu (0 : Int32) (((F 42) + (1 : Int32)) + (1 : Int32)) (((F 43) + (1 : Int32)) + (1 : Int32)) = some (some (F22 42)) := by
              have q : rtell K V fu (0 : Int32) (F8 42) (F8 43) = some (some (F22 42)) := h22
              simp only [q_11, q_12, i_as] at q; exact q
            have q_26 : F22 43 = (((F 43) + (1 : Int32)) + (1 : Int32)) := by
              have q := (show F22 43 = (F8 43) from h22b)
              simp only [q_11, q_12, i_as] at q; exact q
            unfold mb_counted_49
            unfold mb_counted_56
            refine PP.ite (fun c_27 => absurd c_27 (by decide)) (fun _ => ?_)
            exact mrj_counted_63 rc r ihK ih (F0 := F) (R0 := (rcounted K V fu r (F 42) (F 43))) (F 15) F22 G22 g_23 g_24 ⟨h22a, (by first | rfl | (simp only [q_26, i_as])), ((rfl : (rcounted K V fu r (F 42) (F 43)) = _).trans (by first | rfl | (simp only [rcounted, rcnt2, rcnt3, rcnt4, h_2, h_5, h_6, h_17, h_20, h_25, q_26, i_as, i10, eq_self, rb_yes, rb_no, ryes, rno, if_true, if_false, f_tt (p := True), reduceIte])))⟩
          · dsimp only
            have g_28 : G22 4 = K := Eq.trans (hK22.2 4 rfl) g_9
            have g_29 : G22 5 = V := Eq.trans (hK22.2 5 rfl) g_10
            have h_30 : rtell K V fu (0 : Int32) (((F 42) + (1 : Int32)) + (1 : Int32)) (((F 43) + (1 : Int32)) + (1 : Int32)) = some (none) := by
              have q : rtell K V fu (0 : Int32) (F8 42) (F8 43) = some (none) := h22
              simp only [q_11, q_12, i_as] at q; exact q
            unfold mb_counted_49
            unfold mb_counted_56
            refine PP.ite (fun _ => ?_) (fun c_31 => absurd (by decide) c_31)
            unfold mb_counted_61
            refine PP.ret ?_
            refine Or.inr ⟨rfl, h22a, (rfl : (rcounted K V fu r (F 42) (F 43)) = _).trans ?_⟩
            first | rfl | (simp only [rcounted, rcnt2, rcnt3, rcnt4, h_2, h_5, h_6, h_17, h_20, h_30, i_as, i10, eq_self, rb_yes, rb_no, ryes, rno, if_true, if_false, f_tt (p := True), reduceIte])
        · dsimp only
          have h_32 : wdn K V (((F 42) + (1 : Int32)) + (1 : Int32)) (0 : Int32) = false := by
            rw [← g_9, ← g_10]
            have q := h19
            first | exact q | (simp only [q_11, q_12, i_as] at q; exact q) | (simp only [q_11, q_12, i_as] at q ⊢; exact q)
          unfold mb_counted_41
          refine PP.ite (fun _ => ?_) (fun c_33 => absurd (by decide) c_33)
          unfold mb_counted_52
          refine PP.bind (PP.and (mw_simple F8 G8) (mr_simple F8 G8 g_9 g_10 (show F8 44 = 0 from q_13))) ?_
          rintro r34 F34 G34 ⟨hK34, (⟨rfl, h34a, h34b, h34⟩ | ⟨rfl, h34a, h34⟩)⟩
          · dsimp only
            have g_35 : G34 4 = K := Eq.trans (hK34.2 4 rfl) g_9
            have g_36 : G34 5 = V := Eq.trans (hK34.2 5 rfl) g_10
            have h_37 : rsimple K V fu (((F 42) + (1 : Int32)) + (1 : Int32)) (((F 43) + (1 : Int32)) + (1 : Int32)) = some (some (F34 42)) := by
              have q : rsimple K V fu (F8 42) (F8 43) = some (some (F34 42)) := h34
              simp only [q_11, q_12, i_as] at q; exact q
            have q_38 : F34 43 = (((F 43) + (1 : Int32)) + (1 : Int32)) := by
              have q := (show F34 43 = (F8 43) from h34b)
              simp only [q_11, q_12, i_as] at q; exact q
            unfold mb_counted_56
            refine PP.ite (fun c_39 => absurd c_39 (by decide)) (fun _ => ?_)
            exact mrj_counted_63 rc r ihK ih (F0 := F) (R0 := (rcounted K V fu r (F 42) (F 43))) (F 15) F34 G34 g_35 g_36 ⟨h34a, (by first | rfl | (simp only [q_38, i_as])), ((rfl : (rcounted K V fu r (F 42) (F 43)) = _).trans (by first | rfl | (simp only [rcounted, rcnt2, rcnt3, rcnt4, h_2, h_5, h_6, h_17, h_32, h_37, q_38, i_as, i10, eq_self, rb_yes, rb_no, ryes, rno, if_true, if_false, f_tt (p := True), reduceIte])))⟩
          · dsimp only
            have g_40 : G34 4 = K := Eq.trans (hK34.2 4 rfl) g_9
            have g_41 : G34 5 = V := Eq.trans (hK34.2 5 rfl) g_10
            have h_42 : rsimple K V fu (((F 42) + (1 : Int32)) + (1 : Int32)) (((F 43) + (1 : Int32)) + (1 : Int32)) = some (none) := by
              have q : rsimple K V fu (F8 42) (F8 43) = some (none) := h34
              simp only [q_11, q_12, i_as] at q; exact q
            unfold mb_counted_56
            refine PP.ite (fun _ => ?_) (fun c_43 => absurd (by decide) c_43)
            unfold mb_counted_61
            refine PP.ret ?_
            refine Or.inr ⟨rfl, h34a, (rfl : (rcounted K V fu r (F 42) (F 43)) = _).trans ?_⟩
            first | rfl | (simp only [rcounted, rcnt2, rcnt3, rcnt4, h_2, h_5, h_6, h_17, h_32, h_42, i_as, i10, eq_self, rb_yes, rb_no, ryes, rno, if_true, if_false, f_tt (p := True), reduceIte])
    · dsimp only
      have g_44 : G4 4 = K := Eq.trans (h4.2.2.2 4 rfl) g4
      have g_45 : G4 5 = V := Eq.trans (h4.2.2.2 5 rfl) g5
      have q_46 : F4 42 = ((F 42) + (1 : Int32)) := h4.2.2.1 42 rfl
      have q_47 : F4 43 = ((F 43) + (1 : Int32)) := h4.2.2.1 43 rfl
      rcases h4b with q | q | ⟨q, q1⟩
      · exact absurd q (by rw [h44]; decide)
      · skip
        have h_48 : sgn K V ((F 42) + (1 : Int32)) (22 : Int32) = false := by
          rw [← g4, ← g5]
          have q := q
          first | exact q | (simp only [i_as] at q; exact q) | (simp only [i_as] at q ⊢; exact q)
        unfold mb_counted_13
        refine PP.ite (fun _ => ?_) (fun c_49 => absurd (by decide) c_49)
        unfold mb_counted_16
        refine PP.ret ?_
        refine Or.inr ⟨rfl, h4.1, (rfl : (rcounted K V fu r (F 42) (F 43)) = _).trans ?_⟩
        first | rfl | (simp only [rcounted, rcnt2, rcnt3, rcnt4, h_2, h_48, q_46, q_47, i_as, i10, eq_self, rb_yes, rb_no, ryes, rno, if_true, if_false, f_tt (p := True), reduceIte])
      · skip
        have h_50 : sgn K V ((F 42) + (1 : Int32)) (22 : Int32) = true := by
          rw [← g4, ← g5]
          have q := q
          first | exact q | (simp only [i_as] at q; exact q) | (simp only [i_as] at q ⊢; exact q)
        have h_51 : ((F 43) + (1 : Int32)) = 40 := q1
        unfold mb_counted_13
        refine PP.ite (fun _ => ?_) (fun c_52 => absurd (by decide) c_52)
        unfold mb_counted_16
        refine PP.ret ?_
        refine Or.inr ⟨rfl, h4.1, (rfl : (rcounted K V fu r (F 42) (F 43)) = _).trans ?_⟩
        first | rfl | (simp only [rcounted, rcnt2, rcnt3, rcnt4, h_2, h_50, h_51, q_46, q_47, i_as, i10, eq_self, rb_yes, rb_no, ryes, rno, if_true, if_false, f_tt (p := True), reduceIte])
  · dsimp only
    have g_53 : G1 4 = K := Eq.trans (h1.2.2.2 4 rfl) g4
    have g_54 : G1 5 = V := Eq.trans (h1.2.2.2 5 rfl) g5
    have q_55 : F1 42 = (F 42) := h1.2.2.1 42 rfl
    have q_56 : F1 43 = (F 43) := h1.2.2.1 43 rfl
    have h_57 : (F 43) = 40 := h1b
    unfold mb_counted_4
    refine PP.ite (fun _ => ?_) (fun c_58 => absurd (by decide) c_58)
    unfold mb_counted_16
    refine PP.ret ?_
    refine Or.inr ⟨rfl, h1.1, (rfl : (rcounted K V fu r (F 42) (F 43)) = _).trans ?_⟩
    first | rfl | (simp only [rcounted, rcnt2, rcnt3, rcnt4, h_57, q_55, q_56, i_as, i10, eq_self, rb_yes, rb_no, ryes, rno, if_true, if_false, f_tt (p := True), reduceIte])
theorem mrt_loop {fu : Nat} {K V : Nat → Int32} (rc : RC) (r : RR) (ihK : mKI2 rc) (ih : mRI2 K V rc r) (F : PF) (G : PG) (g4 : G 4 = K) (g5 : G 5 = V) (h44 : F 44 = 0) : PP (mh_loop fu rc F G) (fun r' F' _ => ROK (rloop K V fu r (F 42) (F 43)) F r' F') := by
  unfold mh_loop
  unfold mb_loop_0
  refine PP.bind (mp_opens F G) ?_
  rintro r1 F1 G1 (⟨rfl, rfl, rfl, h1⟩ | ⟨rfl, h1, h1b⟩)
  · dsimp only
    have h_2 : ¬ (F 43) = 40 := h1
    unfold mb_loop_9
    refine PP.ite (fun c_3 => absurd c_3 (by decide)) (fun _ => ?_)
    unfold mb_loop_12
    refine PP.bind (PP.and (mw_condition (fup (fup F 43 ((F 43) + (1 : Int32))) 42 ((F 42) + (1 : Int32))) G) (mr_condition (fup (fup F 43 ((F 43) + (1 : Int32))) 42 ((F 42) + (1 : Int32))) G g4 g5 (show (fup (fup F 43 ((F 43) + (1 : Int32))) 42 ((F 42) + (1 : Int32))) 44 = 0 from h44))) ?_
    rintro r4 F4 G4 ⟨hK4, (⟨rfl, h4a, h4b, h4⟩ | ⟨rfl, h4a, h4⟩)⟩
    · dsimp only
      have g_5 : G4 4 = K := Eq.trans (hK4.2 4 rfl) g4
      have g_6 : G4 5 = V := Eq.trans (hK4.2 5 rfl) g5
      have h_7 : rcond K V fu ((F 42) + (1 : Int32)) ((F 43) + (1 : Int32)) = some (some (F4 42)) := h4
      have q_8 : F4 43 = ((F 43) + (1 : Int32)) := (show F4 43 = ((F 43) + (1 : Int32)) from h4b)
      unfold mb_loop_16
      refine PP.ite (fun c_9 => absurd c_9 (by decide)) (fun _ => ?_)
      unfold mb_loop_21
      refine PP.bind (mw_step (13 : Int32) (0 : Int32) (0 : Int32) F4 G4) ?_
      intro r10 F10 G10 hK10
      dsimp only
      have g_11 : G10 4 = K := Eq.trans (hK10.2 4 rfl) g_5
      have g_12 : G10 5 = V := Eq.trans (hK10.2 5 rfl) g_6
      have q_13 : F10 42 = (F4 42) := hK10.1 42 rfl
      have q_14 : F10 43 = ((F 43) + (1 : Int32)) := Eq.trans (hK10.1 43 rfl) (show (F4 43) = ((F 43) + (1 : Int32)) by simp only [q_8, i_as])
      have q_15 : F10 44 = 0 := Eq.trans (hK10.1 44 rfl) h4a
      unfold mb_loop_29
      refine PP.bind (PP.and (ihK 1 (F 60) 0 F10 G10) (ih 1 (F 60) 0 F10 G10 g_11 g_12 (show F10 44 = 0 from q_15))) ?_
      rintro r16 F16 G16 ⟨hK16, (⟨rfl, h16a, h16b, h16⟩ | ⟨rfl, h16a, h16⟩)⟩
      · dsimp only
        have g_17 : G16 4 = K := Eq.trans (hK16.2 4 rfl) g_11
        have g_18 : G16 5 = V := Eq.trans (hK16.2 5 rfl) g_12
        have h_19 : r 1 (F4 42) ((F 43) + (1 : Int32)) = some (some (F16 42)) := by
          have q : r 1 (F10 42) (F10 43) = some (some (F16 42)) := h16
          simp only [q_13, q_14, i_as] at q; exact q
        have q_20 : F16 43 = ((F 43) + (1 : Int32)) := by
          have q := (show F16 43 = (F10 43) from h16b)
          simp only [q_13, q_14, i_as] at q; exact q
        unfold mb_loop_35
        refine PP.ite (fun c_21 => absurd c_21 (by decide)) (fun _ => ?_)
        unfold mb_loop_40
        refine PP.bind (mw_step (12 : Int32) (F 60) (0 : Int32) F16 G16) ?_
        intro r22 F22 G22 hK22
        dsimp only
        have g_23 : G22 4 = K := Eq.trans (hK22.2 4 rfl) g_17
        have g_24 : G22 5 = V := Eq.trans (hK22.2 5 rfl) g_18
        have q_25 : F22 42 = (F16 42) := hK22.1 42 rfl
        have q_26 : F22 43 = ((F 43) + (1 : Int32)) := Eq.trans (hK22.1 43 rfl) (show (F16 43) = ((F 43) + (1 : Int32)) by simp only [q_20, i_as])
        have q_27 : F22 44 = 0 := Eq.trans (hK22.1 44 rfl) h16a
        unfold mb_loop_53
        refine PP.ix (fun _ => ?_)
        unfold mb_loop_64
        refine PP.bind (mw_settle (F16 65) (F22 60) F22 (gup G22 57 r10.toNatClampNeg (F22 60))) ?_
        intro r28 F28 G28 hK28
        dsimp only
        have g_29 : G28 4 = K := Eq.trans (hK28.2 4 rfl) g_23
        have g_30 : G28 5 = V := Eq.trans (hK28.2 5 rfl) g_24
        have q_31 : F28 42 = (F16 42) := Eq.trans (hK28.1 42 rfl) (show (F22 42) = (F16 42) by simp only [q_25, q_26, i_as])
        have q_32 : F28 43 = ((F 43) + (1 : Int32)) := Eq.trans (hK28.1 43 rfl) (show (F22 43) = ((F 43) + (1 : Int32)) by simp only [q_25, q_26, i_as])
        have q_33 : F28 44 = 0 := Eq.trans (hK28.1 44 rfl) q_27
        unfold mb_loop_73
        unfold mb_loop_83
        refine PP.ret ?_
        refine Or.inl ⟨rfl, q_33, ?_, (rfl : (rloop K V fu r (F 42) (F 43)) = _).trans ?_⟩
        · show ((F28 43) - (1 : Int32)) = F 43
          first | rfl | (simp only [q_31, q_32, i_as])
        · show _ = some (some (F28 42))
          first | rfl | (simp only [rloop, h_2, h_7, h_19, q_31, q_32, i_as, i10, eq_self, rb_yes, rb_no, ryes, rno, if_true, if_false, f_tt (p := True), reduceIte])
      · dsimp only
        have g_34 : G16 4 = K := Eq.trans (hK16.2 4 rfl) g_11
        have g_35 : G16 5 = V := Eq.trans (hK16.2 5 rfl) g_12
        have h_36 : r 1 (F4 42) ((F 43) + (1 : Int32)) = some (none) := by
          have q : r 1 (F10 42) (F10 43) = some (none) := h16
          simp only [q_13, q_14, i_as] at q; exact q
        unfold mb_loop_35
        refine PP.ite (fun _ => ?_) (fun c_37 => absurd (by decide) c_37)
        unfold mb_loop_38
        refine PP.ret ?_
        refine Or.inr ⟨rfl, h16a, (rfl : (rloop K V fu r (F 42) (F 43)) = _).trans ?_⟩
        first | rfl | (simp only [rloop, h_2, h_7, h_36, i_as, i10, eq_self, rb_yes, rb_no, ryes, rno, if_true, if_false, f_tt (p := True), reduceIte])
    · dsimp only
      have g_38 : G4 4 = K := Eq.trans (hK4.2 4 rfl) g4
      have g_39 : G4 5 = V := Eq.trans (hK4.2 5 rfl) g5
      have h_40 : rcond K V fu ((F 42) + (1 : Int32)) ((F 43) + (1 : Int32)) = some (none) := h4
      unfold mb_loop_16
      refine PP.ite (fun _ => ?_) (fun c_41 => absurd (by decide) c_41)
      unfold mb_loop_19
      refine PP.ret ?_
      refine Or.inr ⟨rfl, h4a, (rfl : (rloop K V fu r (F 42) (F 43)) = _).trans ?_⟩
      first | rfl | (simp only [rloop, h_2, h_40, i_as, i10, eq_self, rb_yes, rb_no, ryes, rno, if_true, if_false, f_tt (p := True), reduceIte])
  · dsimp only
    have g_42 : G1 4 = K := Eq.trans (h1.2.2.2 4 rfl) g4
    have g_43 : G1 5 = V := Eq.trans (h1.2.2.2 5 rfl) g5
    have q_44 : F1 42 = (F 42) := h1.2.2.1 42 rfl
    have q_45 : F1 43 = (F 43) := h1.2.2.1 43 rfl
    have h_46 : (F 43) = 40 := h1b
    unfold mb_loop_9
    refine PP.ite (fun _ => ?_) (fun c_47 => absurd (by decide) c_47)
    unfold mb_loop_19
    refine PP.ret ?_
    refine Or.inr ⟨rfl, h1.1, (rfl : (rloop K V fu r (F 42) (F 43)) = _).trans ?_⟩
    first | rfl | (simp only [rloop, h_46, q_44, q_45, i_as, i10, eq_self, rb_yes, rb_no, ryes, rno, if_true, if_false, f_tt (p := True), reduceIte])
theorem mrt_scoped {fu : Nat} {K V : Nat → Int32} (rc : RC) (r : RR) (ihK : mKI2 rc) (ih : mRI2 K V rc r) (F : PF) (G : PG) (g4 : G 4 = K) (g5 : G 5 = V) (h44 : F 44 = 0) : PP (mh_scoped fu rc F G) (fun r' F' _ => ROK (r 6 (F 42) (F 43)) F r' F') := by
  unfold mh_scoped
  unfold mb_scoped_0
  refine PP.bind (mw_begins F G) ?_
  intro r1 F1 G1 hK1
  dsimp only
  have g_2 : G1 4 = K := Eq.trans (hK1.2 4 rfl) g4
  have g_3 : G1 5 = V := Eq.trans (hK1.2 5 rfl) g5
  have q_4 : F1 42 = (F 42) := hK1.1 42 rfl
  have q_5 : F1 43 = (F 43) := hK1.1 43 rfl
  have q_6 : F1 44 = 0 := Eq.trans (hK1.1 44 rfl) h44
  unfold mb_scoped_9
  refine PP.bind (PP.and (ihK 6 0 0 F1 G1) (ih 6 0 0 F1 G1 g_2 g_3 (show F1 44 = 0 from q_6))) ?_
  rintro r7 F7 G7 ⟨hK7, (⟨rfl, h7a, h7b, h7⟩ | ⟨rfl, h7a, h7⟩)⟩
  · dsimp only
    have g_8 : G7 4 = K := Eq.trans (hK7.2 4 rfl) g_2
    have g_9 : G7 5 = V := Eq.trans (hK7.2 5 rfl) g_3
    have h_10 : r 6 (F 42) (F 43) = some (some (F7 42)) := by
      have q : r 6 (F1 42) (F1 43) = some (some (F7 42)) := h7
      simp only [q_4, q_5, i_as] at q; exact q
    have q_11 : F7 43 = (F 43) := by
      have q := (show F7 43 = (F1 43) from h7b)
      simp only [q_4, q_5, i_as] at q; exact q
    unfold mb_scoped_13
    refine PP.bind (mw_ends (F 15) F7 G7) ?_
    intro r12 F12 G12 hK12
    dsimp only
    have g_13 : G12 4 = K := Eq.trans (hK12.2 4 rfl) g_8
    have g_14 : G12 5 = V := Eq.trans (hK12.2 5 rfl) g_9
    have q_15 : F12 42 = (F7 42) := hK12.1 42 rfl
    have q_16 : F12 43 = (F 43) := Eq.trans (hK12.1 43 rfl) (show (F7 43) = (F 43) by simp only [q_11, i_as])
    have q_17 : F12 44 = 0 := Eq.trans (hK12.1 44 rfl) h7a
    unfold mb_scoped_19
    refine PP.ret ?_
    refine Or.inl ⟨rfl, q_17, ?_, (rfl : (r 6 (F 42) (F 43)) = _).trans ?_⟩
    · show (F12 43) = F 43
      first | rfl | (simp only [q_15, q_16, i_as])
    · show _ = some (some (F12 42))
      first | rfl | (simp only [h_10, q_15, q_16, i_as, i10, eq_self, rb_yes, rb_no, ryes, rno, if_true, if_false, f_tt (p := True), reduceIte])
  · dsimp only
    have g_18 : G7 4 = K := Eq.trans (hK7.2 4 rfl) g_2
    have g_19 : G7 5 = V := Eq.trans (hK7.2 5 rfl) g_3
    have h_20 : r 6 (F 42) (F 43) = some (none) := by
      have q : r 6 (F1 42) (F1 43) = some (none) := h7
      simp only [q_4, q_5, i_as] at q; exact q
    unfold mb_scoped_13
    refine PP.bind (mw_ends (F 15) F7 G7) ?_
    intro r21 F21 G21 hK21
    dsimp only
    have g_22 : G21 4 = K := Eq.trans (hK21.2 4 rfl) g_18
    have g_23 : G21 5 = V := Eq.trans (hK21.2 5 rfl) g_19
    have q_24 : F21 42 = (F7 42) := hK21.1 42 rfl
    have q_25 : F21 43 = (F7 43) := hK21.1 43 rfl
    have q_26 : 0 < (F21 44).toInt := by rw [show F21 44 = (F7 44) from hK21.1 44 rfl]; exact h7a
    unfold mb_scoped_19
    refine PP.ret ?_
    refine Or.inr ⟨rfl, q_26, (rfl : (r 6 (F 42) (F 43)) = _).trans ?_⟩
    first | rfl | (simp only [h_20, q_24, q_25, i_as, i10, eq_self, rb_yes, rb_no, ryes, rno, if_true, if_false, f_tt (p := True), reduceIte])
theorem mrt_statement {fu : Nat} {K V : Nat → Int32} (rc : RC) (r : RR) (ihK : mKI2 rc) (ih : mRI2 K V rc r) (F : PF) (G : PG) (g4 : G 4 = K) (g5 : G 5 = V) (h44 : F 44 = 0) : PP (mh_statement fu rc F G) (fun r' F' _ => ROK (rstatement K V fu r (F 42) (F 43)) F r' F') := by
  unfold mh_statement
  unfold mb_statement_0
  refine PP.bind (mp_isSign (26 : Int32) F G) ?_
  rintro _ _ _ ⟨rfl, rfl, (⟨rfl, h1⟩ | ⟨rfl, h1⟩)⟩
  · dsimp only
    have h_2 : sgn K V (F 42) (26 : Int32) = true := by
      rw [← g4, ← g5]
      have q := h1
      first | exact q | (simp only [i_as] at q; exact q) | (simp only [i_as] at q ⊢; exact q)
    unfold mb_statement_6
    refine PP.ite (fun c_3 => absurd c_3 (by decide)) (fun _ => ?_)
    unfold mb_statement_9
    refine PP.bind (mw_begins F G) ?_
    intro r4 F4 G4 hK4
    dsimp only
    have g_5 : G4 4 = K := Eq.trans (hK4.2 4 rfl) g4
    have g_6 : G4 5 = V := Eq.trans (hK4.2 5 rfl) g5
    have q_7 : F4 42 = (F 42) := hK4.1 42 rfl
    have q_8 : F4 43 = (F 43) := hK4.1 43 rfl
    have q_9 : F4 44 = 0 := Eq.trans (hK4.1 44 rfl) h44
    unfold mb_statement_18
    refine PP.bind (PP.and (ihK 0 0 0 F4 G4) (ih 0 0 0 F4 G4 g_5 g_6 (show F4 44 = 0 from q_9))) ?_
    rintro r10 F10 G10 ⟨hK10, (⟨rfl, h10a, h10b, h10⟩ | ⟨rfl, h10a, h10⟩)⟩
    · dsimp only
      have g_11 : G10 4 = K := Eq.trans (hK10.2 4 rfl) g_5
      have g_12 : G10 5 = V := Eq.trans (hK10.2 5 rfl) g_6
      have h_13 : r 0 (F 42) (F 43) = some (some (F10 42)) := by
        have q : r 0 (F4 42) (F4 43) = some (some (F10 42)) := h10
        simp only [q_7, q_8, i_as] at q; exact q
      have q_14 : F10 43 = (F 43) := by
        have q := (show F10 43 = (F4 43) from h10b)
        simp only [q_7, q_8, i_as] at q; exact q
      unfold mb_statement_22
      refine PP.bind (mw_ends (F 15) F10 G10) ?_
      intro r15 F15 G15 hK15
      dsimp only
      have g_16 : G15 4 = K := Eq.trans (hK15.2 4 rfl) g_11
      have g_17 : G15 5 = V := Eq.trans (hK15.2 5 rfl) g_12
      have q_18 : F15 42 = (F10 42) := hK15.1 42 rfl
      have q_19 : F15 43 = (F 43) := Eq.trans (hK15.1 43 rfl) (show (F10 43) = (F 43) by simp only [q_14, i_as])
      have q_20 : F15 44 = 0 := Eq.trans (hK15.1 44 rfl) h10a
      unfold mb_statement_28
      refine PP.ret ?_
      refine Or.inl ⟨rfl, q_20, ?_, (rfl : (rstatement K V fu r (F 42) (F 43)) = _).trans ?_⟩
      · show (F15 43) = F 43
        first | rfl | (simp only [q_18, q_19, i_as])
      · show _ = some (some (F15 42))
        first | rfl | (simp only [rstatement, rput, rclose, h_2, h_13, q_18, q_19, i_as, i10, eq_self, rb_yes, rb_no, ryes, rno, if_true, if_false, f_tt (p := True), reduceIte])
    · dsimp only
      have g_21 : G10 4 = K := Eq.trans (hK10.2 4 rfl) g_5
      have g_22 : G10 5 = V := Eq.trans (hK10.2 5 rfl) g_6
      have h_23 : r 0 (F 42) (F 43) = some (none) := by
        have q : r 0 (F4 42) (F4 43) = some (none) := h10
        simp only [q_7, q_8, i_as] at q; exact q
      unfold mb_statement_22
      refine PP.bind (mw_ends (F 15) F10 G10) ?_
      intro r24 F24 G24 hK24
      dsimp only
      have g_25 : G24 4 = K := Eq.trans (hK24.2 4 rfl) g_21
      have g_26 : G24 5 = V := Eq.trans (hK24.2 5 rfl) g_22
      have q_27 : F24 42 = (F10 42) := hK24.1 42 rfl
      have q_28 : F24 43 = (F10 43) := hK24.1 43 rfl
      have q_29 : 0 < (F24 44).toInt := by rw [show F24 44 = (F10 44) from hK24.1 44 rfl]; exact h10a
      unfold mb_statement_28
      refine PP.ret ?_
      refine Or.inr ⟨rfl, q_29, (rfl : (rstatement K V fu r (F 42) (F 43)) = _).trans ?_⟩
      first | rfl | (simp only [rstatement, rput, rclose, h_2, h_23, q_27, q_28, i_as, i10, eq_self, rb_yes, rb_no, ryes, rno, if_true, if_false, f_tt (p := True), reduceIte])
  · dsimp only
    have h_30 : sgn K V (F 42) (26 : Int32) = false := by
      rw [← g4, ← g5]
      have q := h1
      first | exact q | (simp only [i_as] at q; exact q) | (simp only [i_as] at q ⊢; exact q)
    unfold mb_statement_6
    refine PP.ite (fun _ => ?_) (fun c_31 => absurd (by decide) c_31)
    unfold mb_statement_30
    refine PP.bind (mp_isSign (29 : Int32) F G) ?_
    rintro _ _ _ ⟨rfl, rfl, (⟨rfl, h32⟩ | ⟨rfl, h32⟩)⟩
    · dsimp only
      have h_33 : sgn K V (F 42) (29 : Int32) = true := by
        rw [← g4, ← g5]
        have q := h32
        first | exact q | (simp only [i_as] at q; exact q) | (simp only [i_as] at q ⊢; exact q)
      unfold mb_statement_36
      refine PP.ite (fun c_34 => absurd c_34 (by decide)) (fun _ => ?_)
      unfold mb_statement_39
      refine PP.bind (mp_sign (29 : Int32) F G) ?_
      rintro r35 F35 G35 (⟨rfl, rfl, rfl, h35⟩ | ⟨rfl, h35, h35b⟩)
      · dsimp only
        have h_36 : sgn K V (F 42) (29 : Int32) = true := by
          rw [← g4, ← g5]
          have q := h35.1
          first | exact q | (simp only [i_as] at q; exact q) | (simp only [i_as] at q ⊢; exact q)
        unfold mb_statement_45
        refine PP.ret ?_
        refine Or.inl ⟨rfl, h44, ?_, (rfl : (rstatement K V fu r (F 42) (F 43)) = _).trans ?_⟩
        · show (F 43) = F 43
          first | rfl | (simp only [i_as])
        · show _ = some (some ((F 42) + (1 : Int32)))
          first | rfl | (simp only [rstatement, rput, rclose, h_30, h_33, h_36, i_as, i10, eq_self, rb_yes, rb_no, ryes, rno, if_true, if_false, f_tt (p := True), reduceIte])
      · dsimp only
        have g_37 : G35 4 = K := Eq.trans (h35.2.2.2 4 rfl) g4
        have g_38 : G35 5 = V := Eq.trans (h35.2.2.2 5 rfl) g5
        have q_39 : F35 42 = (F 42) := h35.2.2.1 42 rfl
        have q_40 : F35 43 = (F 43) := h35.2.2.1 43 rfl
        rcases h35b with q | q
        · exact absurd q (by rw [h44]; decide)
        · skip
          have h_41 : sgn K V (F 42) (29 : Int32) = false := by
            rw [← g4, ← g5]
            have q := q
            first | exact q | (simp only [i_as] at q; exact q) | (simp only [i_as] at q ⊢; exact q)
          unfold mb_statement_45
          refine PP.ret ?_
          refine Or.inr ⟨rfl, h35.1, (rfl : (rstatement K V fu r (F 42) (F 43)) = _).trans ?_⟩
          first | rfl | (simp only [rstatement, rput, rclose, h_30, h_33, h_41, q_39, q_40, i_as, i10, eq_self, rb_yes, rb_no, ryes, rno, if_true, if_false, f_tt (p := True), reduceIte])
    · dsimp only
      have h_42 : sgn K V (F 42) (29 : Int32) = false := by
        rw [← g4, ← g5]
        have q := h32
        first | exact q | (simp only [i_as] at q; exact q) | (simp only [i_as] at q ⊢; exact q)
      unfold mb_statement_36
      refine PP.ite (fun _ => ?_) (fun c_43 => absurd (by decide) c_43)
      unfold mb_statement_46
      refine PP.ix (fun _ => ?_)
      refine PP.ite (fun c_44 => ?_) (fun c_44 => ?_)
      · skip
        have h_45 : K (F 42).toNatClampNeg = (1 : Int32) := by
          rw [← g4, ← g5]
          have q := c_44
          first | exact q | (simp only [i_as] at q; exact q) | (simp only [i_as] at q ⊢; exact q)
        unfold mb_statement_59
        refine PP.bind (PP.and (mw_simple F G) (mr_simple F G g4 g5 (show F 44 = 0 from h44))) ?_
        rintro r46 F46 G46 ⟨hK46, (⟨rfl, h46a, h46b, h46⟩ | ⟨rfl, h46a, h46⟩)⟩
        · dsimp only
          have g_47 : G46 4 = K := Eq.trans (hK46.2 4 rfl) g4
          have g_48 : G46 5 = V := Eq.trans (hK46.2 5 rfl) g5
          have h_49 : rsimple K V fu (F 42) (F 43) = some (some (F46 42)) := h46
          have q_50 : F46 43 = (F 43) := (show F46 43 = (F 43) from h46b)
          unfold mb_statement_63
          refine PP.ite (fun c_51 => absurd c_51 (by decide)) (fun _ => ?_)
          unfold mb_statement_66
          refine PP.bind (mp_sign (29 : Int32) F46 G46) ?_
          rintro r52 F52 G52 (⟨rfl, rfl, rfl, h52⟩ | ⟨rfl, h52, h52b⟩)
          · dsimp only
            have h_53 : sgn K V (F46 42) (29 : Int32) = true := by
              rw [← g_47, ← g_48]
              have q := h52.1
              first | exact q | (simp only [q_50, i_as] at q; exact q) | (simp only [q_50, i_as] at q ⊢; exact q)
            unfold mb_statement_72
            refine PP.ite (fun c_54 => absurd c_54 (by decide)) (fun _ => ?_)
            unfold mb_statement_75
            unfold mb_statement_80
            refine PP.ret ?_
            refine Or.inl ⟨rfl, h46a, ?_, (rfl : (rstatement K V fu r (F 42) (F 43)) = _).trans ?_⟩
            · show (F46 43) = F 43
              first | rfl | (simp only [q_50, i_as])
            · show _ = some (some ((F46 42) + (1 : Int32)))
              first | rfl | (simp only [rstatement, rput, rclose, h_30, h_42, h_45, h_49, h_53, q_50, i_as, i10, eq_self, rb_yes, rb_no, ryes, rno, if_true, if_false, f_tt (p := True), reduceIte])
          · dsimp only
            have g_55 : G52 4 = K := Eq.trans (h52.2.2.2 4 rfl) g_47
            have g_56 : G52 5 = V := Eq.trans (h52.2.2.2 5 rfl) g_48
            have q_57 : F52 42 = (F46 42) := h52.2.2.1 42 rfl
            have q_58 : F52 43 = (F 43) := Eq.trans (h52.2.2.1 43 rfl) (show (F46 43) = (F 43) by simp only [q_50, i_as])
            rcases h52b with q | q
            · exact absurd q (by rw [h46a]; decide)
            · skip
              have h_59 : sgn K V (F46 42) (29 : Int32) = false := by
                rw [← g_47, ← g_48]
                have q := q
                first | exact q | (simp only [q_50, i_as] at q; exact q) | (simp only [q_50, i_as] at q ⊢; exact q)
              unfold mb_statement_72
              refine PP.ite (fun _ => ?_) (fun c_60 => absurd (by decide) c_60)
              unfold mb_statement_79
              unfold mb_statement_80
              refine PP.ret ?_
              refine Or.inr ⟨rfl, h52.1, (rfl : (rstatement K V fu r (F 42) (F 43)) = _).trans ?_⟩
              first | rfl | (simp only [rstatement, rput, rclose, h_30, h_42, h_45, h_49, h_59, q_57, q_58, i_as, i10, eq_self, rb_yes, rb_no, ryes, rno, if_true, if_false, f_tt (p := True), reduceIte])
        · dsimp only
          have g_61 : G46 4 = K := Eq.trans (hK46.2 4 rfl) g4
          have g_62 : G46 5 = V := Eq.trans (hK46.2 5 rfl) g5
          have h_63 : rsimple K V fu (F 42) (F 43) = some (none) := h46
          unfold mb_statement_63
          refine PP.ite (fun _ => ?_) (fun c_64 => absurd (by decide) c_64)
          unfold mb_statement_79
          unfold mb_statement_80
          refine PP.ret ?_
          refine Or.inr ⟨rfl, h46a, (rfl : (rstatement K V fu r (F 42) (F 43)) = _).trans ?_⟩
          first | rfl | (simp only [rstatement, rput, rclose, h_30, h_42, h_45, h_63, i_as, i10, eq_self, rb_yes, rb_no, ryes, rno, if_true, if_false, f_tt (p := True), reduceIte])
      · skip
        have h_65 : ¬ K (F 42).toNatClampNeg = (1 : Int32) := by
          rw [← g4, ← g5]
          have q := c_44
          first | exact q | (simp only [i_as] at q; exact q) | (simp only [i_as] at q ⊢; exact q)
        unfold mb_statement_81
        refine PP.ix (fun _ => ?_)
        refine PP.ite (fun c_66 => ?_) (fun c_66 => ?_)
        · skip
          have h_67 : K (F 42).toNatClampNeg = (2 : Int32) := by
            rw [← g4, ← g5]
            have q := c_66
            first | exact q | (simp only [i_as] at q; exact q) | (simp only [i_as] at q ⊢; exact q)
          unfold mb_statement_100
          refine PP.ix (fun _ => ?_)
          refine PP.ite (fun c_68 => ?_) (fun c_68 => ?_)
          · have e_69 : (G 5 (F 42).toNatClampNeg).toInt < 0 ∨ 14 < (G 5 (F 42).toNatClampNeg).toInt := c_68
            have h_70 : (V (F 42).toNatClampNeg).toInt < 0 ∨ 14 < (V (F 42).toNatClampNeg).toInt := by
              rw [← g4, ← g5]
              have q := e_69
              first | exact q | (simp only [i_as] at q; exact q) | (simp only [i_as] at q ⊢; exact q)
            unfold mb_statement_306
            refine PP.bind (mp_fails (2 : Int32) (by decide) F G) ?_
            rintro r71 F71 G71 ⟨rfl, h71⟩
            dsimp only
            have g_72 : G71 4 = K := Eq.trans (h71.2.2.2 4 rfl) g4
            have g_73 : G71 5 = V := Eq.trans (h71.2.2.2 5 rfl) g5
            have q_74 : F71 42 = (F 42) := h71.2.2.1 42 rfl
            have q_75 : F71 43 = (F 43) := h71.2.2.1 43 rfl
            unfold mb_statement_311
            refine PP.ret ?_
            refine Or.inr ⟨rfl, h71.1, (rfl : (rstatement K V fu r (F 42) (F 43)) = _).trans ?_⟩
            first | rfl | (simp only [rstatement, rput, rclose, h_30, h_42, h_65, h_67, h_70, q_74, q_75, i_as, i10, eq_self, rb_yes, rb_no, ryes, rno, if_true, if_false, f_tt (p := True), reduceIte])
          have e_76 : ¬ ((G 5 (F 42).toNatClampNeg).toInt < 0 ∨ 14 < (G 5 (F 42).toNatClampNeg).toInt) := c_68
          have h_77 : ¬ ((V (F 42).toNatClampNeg).toInt < 0 ∨ 14 < (V (F 42).toNatClampNeg).toInt) := by
            rw [← g4, ← g5]
            have q := e_76
            first | exact q | (simp only [i_as] at q; exact q) | (simp only [i_as] at q ⊢; exact q)
          refine PP.ite (fun c_78 => ?_) (fun c_78 => ?_)
          · skip
            have h_79 : V (F 42).toNatClampNeg = (0 : Int32) := by
              rw [← g4, ← g5]
              have q := c_78
              first | exact q | (simp only [i_as] at q; exact q) | (simp only [i_as] at q ⊢; exact q)
            unfold mb_statement_184
            refine PP.bind (PP.and (mw_tellHere (1 : Int32) F G) (mr_tellHere (1 : Int32) F G g4 g5 (show F 44 = 0 from h44))) ?_
            rintro r80 F80 G80 ⟨hK80, (⟨rfl, h80a, h80b, h80⟩ | ⟨rfl, h80a, h80⟩)⟩
            · dsimp only
              have g_81 : G80 4 = K := Eq.trans (hK80.2 4 rfl) g4
              have g_82 : G80 5 = V := Eq.trans (hK80.2 5 rfl) g5
              have h_83 : rtell K V fu (1 : Int32) (F 42) (F 43) = some (some (F80 42)) := h80
              have q_84 : F80 43 = (F 43) := (show F80 43 = (F 43) from h80b)
              unfold mb_statement_189
              refine PP.ite (fun c_85 => absurd c_85 (by decide)) (fun _ => ?_)
              unfold mb_statement_192
              refine PP.bind (mp_sign (29 : Int32) F80 G80) ?_
              rintro r86 F86 G86 (⟨rfl, rfl, rfl, h86⟩ | ⟨rfl, h86, h86b⟩)
              · dsimp only
                have h_87 : sgn K V (F80 42) (29 : Int32) = true := by
                  rw [← g_81, ← g_82]
                  have q := h86.1
                  first | exact q | (simp only [q_84, i_as] at q; exact q) | (simp only [q_84, i_as] at q ⊢; exact q)
                unfold mb_statement_198
                refine PP.ite (fun c_88 => absurd c_88 (by decide)) (fun _ => ?_)
                unfold mb_statement_201
                unfold mb_statement_206
                refine PP.ret ?_
                refine Or.inl ⟨rfl, h80a, ?_, (rfl : (rstatement K V fu r (F 42) (F 43)) = _).trans ?_⟩
                · show (F80 43) = F 43
                  first | rfl | (simp only [q_84, i_as])
                · show _ = some (some ((F80 42) + (1 : Int32)))
                  first | rfl | (simp only [rstatement, rput, rclose, h_30, h_42, h_65, h_67, h_77, h_79, h_83, h_87, q_84, i_as, i10, eq_self, rb_yes, rb_no, ryes, rno, if_true, if_false, f_tt (p := True), reduceIte])
              · dsimp only
                have g_89 : G86 4 = K := Eq.trans (h86.2.2.2 4 rfl) g_81
                have g_90 : G86 5 = V := Eq.trans (h86.2.2.2 5 rfl) g_82
                have q_91 : F86 42 = (F80 42) := h86.2.2.1 42 rfl
                have q_92 : F86 43 = (F 43) := Eq.trans (h86.2.2.1 43 rfl) (show (F80 43) = (F 43) by simp only [q_84, i_as])
                rcases h86b with q | q
                · exact absurd q (by rw [h80a]; decide)
                · skip
                  have h_93 : sgn K V (F80 42) (29 : Int32) = false := by
                    rw [← g_81, ← g_82]
                    have q := q
                    first | exact q | (simp only [q_84, i_as] at q; exact q) | (simp only [q_84, i_as] at q ⊢; exact q)
                  unfold mb_statement_198
                  refine PP.ite (fun _ => ?_) (fun c_94 => absurd (by decide) c_94)
                  unfold mb_statement_205
                  unfold mb_statement_206
                  refine PP.ret ?_
                  refine Or.inr ⟨rfl, h86.1, (rfl : (rstatement K V fu r (F 42) (F 43)) = _).trans ?_⟩
                  first | rfl | (simp only [rstatement, rput, rclose, h_30, h_42, h_65, h_67, h_77, h_79, h_83, h_93, q_91, q_92, i_as, i10, eq_self, rb_yes, rb_no, ryes, rno, if_true, if_false, f_tt (p := True), reduceIte])
            · dsimp only
              have g_95 : G80 4 = K := Eq.trans (hK80.2 4 rfl) g4
              have g_96 : G80 5 = V := Eq.trans (hK80.2 5 rfl) g5
              have h_97 : rtell K V fu (1 : Int32) (F 42) (F 43) = some (none) := h80
              unfold mb_statement_189
              refine PP.ite (fun _ => ?_) (fun c_98 => absurd (by decide) c_98)
              unfold mb_statement_205
              unfold mb_statement_206
              refine PP.ret ?_
              refine Or.inr ⟨rfl, h80a, (rfl : (rstatement K V fu r (F 42) (F 43)) = _).trans ?_⟩
              first | rfl | (simp only [rstatement, rput, rclose, h_30, h_42, h_65, h_67, h_77, h_79, h_97, i_as, i10, eq_self, rb_yes, rb_no, ryes, rno, if_true, if_false, f_tt (p := True), reduceIte])
          have h_99 : ¬ V (F 42).toNatClampNeg = (0 : Int32) := by
            rw [← g4, ← g5]
            have q := c_78
            first | exact q | (simp only [i_as] at q; exact q) | (simp only [i_as] at q ⊢; exact q)
          refine PP.ite (fun c_100 => ?_) (fun c_100 => ?_)
          · skip
            have h_101 : V (F 42).toNatClampNeg = (1 : Int32) := by
              rw [← g4, ← g5]
              have q := c_100
              first | exact q | (simp only [i_as] at q; exact q) | (simp only [i_as] at q ⊢; exact q)
            unfold mb_statement_184
            refine PP.bind (PP.and (mw_tellHere (1 : Int32) F G) (mr_tellHere (1 : Int32) F G g4 g5 (show F 44 = 0 from h44))) ?_
            rintro r102 F102 G102 ⟨hK102, (⟨rfl, h102a, h102b, h102⟩ | ⟨rfl, h102a, h102⟩)⟩
            · dsimp only
              have g_103 : G102 4 = K := Eq.trans (hK102.2 4 rfl) g4
              have g_104 : G102 5 = V := Eq.trans (hK102.2 5 rfl) g5
              have h_105 : rtell K V fu (1 : Int32) (F 42) (F 43) = some (some (F102 42)) := h102
              have q_106 : F102 43 = (F 43) := (show F102 43 = (F 43) from h102b)
              unfold mb_statement_189
              refine PP.ite (fun c_107 => absurd c_107 (by decide)) (fun _ => ?_)
              unfold mb_statement_192
              refine PP.bind (mp_sign (29 : Int32) F102 G102) ?_
              rintro r108 F108 G108 (⟨rfl, rfl, rfl, h108⟩ | ⟨rfl, h108, h108b⟩)
              · dsimp only
                have h_109 : sgn K V (F102 42) (29 : Int32) = true := by
                  rw [← g_103, ← g_104]
                  have q := h108.1
                  first | exact q | (simp only [q_106, i_as] at q; exact q) | (simp only [q_106, i_as] at q ⊢; exact q)
                unfold mb_statement_198
                refine PP.ite (fun c_110 => absurd c_110 (by decide)) (fun _ => ?_)
                unfold mb_statement_201
                unfold mb_statement_206
                refine PP.ret ?_
                refine Or.inl ⟨rfl, h102a, ?_, (rfl : (rstatement K V fu r (F 42) (F 43)) = _).trans ?_⟩
                · show (F102 43) = F 43
                  first | rfl | (simp only [q_106, i_as])
                · show _ = some (some ((F102 42) + (1 : Int32)))
                  first | rfl | (simp only [rstatement, rput, rclose, h_30, h_42, h_65, h_67, h_77, h_99, h_101, h_105, h_109, q_106, i_as, i10, eq_self, rb_yes, rb_no, ryes, rno, if_true, if_false, f_tt (p := True), reduceIte])
              · dsimp only
                have g_111 : G108 4 = K := Eq.trans (h108.2.2.2 4 rfl) g_103
                have g_112 : G108 5 = V := Eq.trans (h108.2.2.2 5 rfl) g_104
                have q_113 : F108 42 = (F102 42) := h108.2.2.1 42 rfl
                have q_114 : F108 43 = (F 43) := Eq.trans (h108.2.2.1 43 rfl) (show (F102 43) = (F 43) by simp only [q_106, i_as])
                rcases h108b with q | q
                · exact absurd q (by rw [h102a]; decide)
                · skip
                  have h_115 : sgn K V (F102 42) (29 : Int32) = false := by
                    rw [← g_103, ← g_104]
                    have q := q
                    first | exact q | (simp only [q_106, i_as] at q; exact q) | (simp only [q_106, i_as] at q ⊢; exact q)
                  unfold mb_statement_198
                  refine PP.ite (fun _ => ?_) (fun c_116 => absurd (by decide) c_116)
                  unfold mb_statement_205
                  unfold mb_statement_206
                  refine PP.ret ?_
                  refine Or.inr ⟨rfl, h108.1, (rfl : (rstatement K V fu r (F 42) (F 43)) = _).trans ?_⟩
                  first | rfl | (simp only [rstatement, rput, rclose, h_30, h_42, h_65, h_67, h_77, h_99, h_101, h_105, h_115, q_113, q_114, i_as, i10, eq_self, rb_yes, rb_no, ryes, rno, if_true, if_false, f_tt (p := True), reduceIte])
            · dsimp only
              have g_117 : G102 4 = K := Eq.trans (hK102.2 4 rfl) g4
              have g_118 : G102 5 = V := Eq.trans (hK102.2 5 rfl) g5
              have h_119 : rtell K V fu (1 : Int32) (F 42) (F 43) = some (none) := h102
              unfold mb_statement_189
              refine PP.ite (fun _ => ?_) (fun c_120 => absurd (by decide) c_120)
              unfold mb_statement_205
              unfold mb_statement_206
              refine PP.ret ?_
              refine Or.inr ⟨rfl, h102a, (rfl : (rstatement K V fu r (F 42) (F 43)) = _).trans ?_⟩
              first | rfl | (simp only [rstatement, rput, rclose, h_30, h_42, h_65, h_67, h_77, h_99, h_101, h_119, i_as, i10, eq_self, rb_yes, rb_no, ryes, rno, if_true, if_false, f_tt (p := True), reduceIte])
          have h_121 : ¬ V (F 42).toNatClampNeg = (1 : Int32) := by
            rw [← g4, ← g5]
            have q := c_100
            first | exact q | (simp only [i_as] at q; exact q) | (simp only [i_as] at q ⊢; exact q)
          refine PP.ite (fun c_122 => ?_) (fun c_122 => ?_)
          · skip
            have h_123 : V (F 42).toNatClampNeg = (2 : Int32) := by
              rw [← g4, ← g5]
              have q := c_122
              first | exact q | (simp only [i_as] at q; exact q) | (simp only [i_as] at q ⊢; exact q)
            unfold mb_statement_306
            refine PP.bind (mp_fails (2 : Int32) (by decide) F G) ?_
            rintro r124 F124 G124 ⟨rfl, h124⟩
            dsimp only
            have g_125 : G124 4 = K := Eq.trans (h124.2.2.2 4 rfl) g4
            have g_126 : G124 5 = V := Eq.trans (h124.2.2.2 5 rfl) g5
            have q_127 : F124 42 = (F 42) := h124.2.2.1 42 rfl
            have q_128 : F124 43 = (F 43) := h124.2.2.1 43 rfl
            unfold mb_statement_311
            refine PP.ret ?_
            refine Or.inr ⟨rfl, h124.1, (rfl : (rstatement K V fu r (F 42) (F 43)) = _).trans ?_⟩
            first | rfl | (simp only [rstatement, rput, rclose, h_30, h_42, h_65, h_67, h_77, h_99, h_121, h_123, q_127, q_128, i_as, i10, eq_self, rb_yes, rb_no, ryes, rno, if_true, if_false, f_tt (p := True), reduceIte])
          have h_129 : ¬ V (F 42).toNatClampNeg = (2 : Int32) := by
            rw [← g4, ← g5]
            have q := c_122
            first | exact q | (simp only [i_as] at q; exact q) | (simp only [i_as] at q ⊢; exact q)
          refine PP.ite (fun c_130 => ?_) (fun c_130 => ?_)
          · skip
            have h_131 : V (F 42).toNatClampNeg = (3 : Int32) := by
              rw [← g4, ← g5]
              have q := c_130
              first | exact q | (simp only [i_as] at q; exact q) | (simp only [i_as] at q ⊢; exact q)
            unfold mb_statement_306
            refine PP.bind (mp_fails (2 : Int32) (by decide) F G) ?_
            rintro r132 F132 G132 ⟨rfl, h132⟩
            dsimp only
            have g_133 : G132 4 = K := Eq.trans (h132.2.2.2 4 rfl) g4
            have g_134 : G132 5 = V := Eq.trans (h132.2.2.2 5 rfl) g5
            have q_135 : F132 42 = (F 42) := h132.2.2.1 42 rfl
            have q_136 : F132 43 = (F 43) := h132.2.2.1 43 rfl
            unfold mb_statement_311
            refine PP.ret ?_
            refine Or.inr ⟨rfl, h132.1, (rfl : (rstatement K V fu r (F 42) (F 43)) = _).trans ?_⟩
            first | rfl | (simp only [rstatement, rput, rclose, h_30, h_42, h_65, h_67, h_77, h_99, h_121, h_129, h_131, q_135, q_136, i_as, i10, eq_self, rb_yes, rb_no, ryes, rno, if_true, if_false, f_tt (p := True), reduceIte])
          have h_137 : ¬ V (F 42).toNatClampNeg = (3 : Int32) := by
            rw [← g4, ← g5]
            have q := c_130
            first | exact q | (simp only [i_as] at q; exact q) | (simp only [i_as] at q ⊢; exact q)
          refine PP.ite (fun c_138 => ?_) (fun c_138 => ?_)
          · skip
            have h_139 : V (F 42).toNatClampNeg = (4 : Int32) := by
              rw [← g4, ← g5]
              have q := c_138
              first | exact q | (simp only [i_as] at q; exact q) | (simp only [i_as] at q ⊢; exact q)
            unfold mb_statement_207
            refine PP.bind (PP.and (ihK 2 0 0 F G) (ih 2 0 0 F G g4 g5 (show F 44 = 0 from h44))) ?_
            rintro r140 F140 G140 ⟨hK140, (⟨rfl, h140a, h140b, h140⟩ | ⟨rfl, h140a, h140⟩)⟩
            · dsimp only
              have g_141 : G140 4 = K := Eq.trans (hK140.2 4 rfl) g4
              have g_142 : G140 5 = V := Eq.trans (hK140.2 5 rfl) g5
              have h_143 : r 2 (F 42) (F 43) = some (some (F140 42)) := h140
              have q_144 : F140 43 = (F 43) := (show F140 43 = (F 43) from h140b)
              unfold mb_statement_211
              refine PP.ret ?_
              refine Or.inl ⟨rfl, h140a, ?_, (rfl : (rstatement K V fu r (F 42) (F 43)) = _).trans ?_⟩
              · show (F140 43) = F 43
                first | rfl | (simp only [q_144, i_as])
              · show _ = some (some (F140 42))
                first | rfl | (simp only [rstatement, rput, rclose, h_30, h_42, h_65, h_67, h_77, h_99, h_121, h_129, h_137, h_139, h_143, q_144, i_as, i10, eq_self, rb_yes, rb_no, ryes, rno, if_true, if_false, f_tt (p := True), reduceIte])
            · dsimp only
              have g_145 : G140 4 = K := Eq.trans (hK140.2 4 rfl) g4
              have g_146 : G140 5 = V := Eq.trans (hK140.2 5 rfl) g5
              have h_147 : r 2 (F 42) (F 43) = some (none) := h140
              unfold mb_statement_211
              refine PP.ret ?_
              refine Or.inr ⟨rfl, h140a, (rfl : (rstatement K V fu r (F 42) (F 43)) = _).trans ?_⟩
              first | rfl | (simp only [rstatement, rput, rclose, h_30, h_42, h_65, h_67, h_77, h_99, h_121, h_129, h_137, h_139, h_147, i_as, i10, eq_self, rb_yes, rb_no, ryes, rno, if_true, if_false, f_tt (p := True), reduceIte])
          have h_148 : ¬ V (F 42).toNatClampNeg = (4 : Int32) := by
            rw [← g4, ← g5]
            have q := c_138
            first | exact q | (simp only [i_as] at q; exact q) | (simp only [i_as] at q ⊢; exact q)
          refine PP.ite (fun c_149 => ?_) (fun c_149 => ?_)
          · skip
            have h_150 : V (F 42).toNatClampNeg = (5 : Int32) := by
              rw [← g4, ← g5]
              have q := c_149
              first | exact q | (simp only [i_as] at q; exact q) | (simp only [i_as] at q ⊢; exact q)
            unfold mb_statement_306
            refine PP.bind (mp_fails (2 : Int32) (by decide) F G) ?_
            rintro r151 F151 G151 ⟨rfl, h151⟩
            dsimp only
            have g_152 : G151 4 = K := Eq.trans (h151.2.2.2 4 rfl) g4
            have g_153 : G151 5 = V := Eq.trans (h151.2.2.2 5 rfl) g5
            have q_154 : F151 42 = (F 42) := h151.2.2.1 42 rfl
            have q_155 : F151 43 = (F 43) := h151.2.2.1 43 rfl
            unfold mb_statement_311
            refine PP.ret ?_
            refine Or.inr ⟨rfl, h151.1, (rfl : (rstatement K V fu r (F 42) (F 43)) = _).trans ?_⟩
            first | rfl | (simp only [rstatement, rput, rclose, h_30, h_42, h_65, h_67, h_77, h_99, h_121, h_129, h_137, h_148, h_150, q_154, q_155, i_as, i10, eq_self, rb_yes, rb_no, ryes, rno, if_true, if_false, f_tt (p := True), reduceIte])
          have h_156 : ¬ V (F 42).toNatClampNeg = (5 : Int32) := by
            rw [← g4, ← g5]
            have q := c_149
            first | exact q | (simp only [i_as] at q; exact q) | (simp only [i_as] at q ⊢; exact q)
          refine PP.ite (fun c_157 => ?_) (fun c_157 => ?_)
          · skip
            have h_158 : V (F 42).toNatClampNeg = (6 : Int32) := by
              rw [← g4, ← g5]
              have q := c_157
              first | exact q | (simp only [i_as] at q; exact q) | (simp only [i_as] at q ⊢; exact q)
            unfold mb_statement_212
            refine PP.bind (PP.and (ihK 4 0 0 F G) (ih 4 0 0 F G g4 g5 (show F 44 = 0 from h44))) ?_
            rintro r159 F159 G159 ⟨hK159, (⟨rfl, h159a, h159b, h159⟩ | ⟨rfl, h159a, h159⟩)⟩
            · dsimp only
              have g_160 : G159 4 = K := Eq.trans (hK159.2 4 rfl) g4
              have g_161 : G159 5 = V := Eq.trans (hK159.2 5 rfl) g5
              have h_162 : r 4 (F 42) (F 43) = some (some (F159 42)) := h159
              have q_163 : F159 43 = (F 43) := (show F159 43 = (F 43) from h159b)
              unfold mb_statement_216
              refine PP.ret ?_
              refine Or.inl ⟨rfl, h159a, ?_, (rfl : (rstatement K V fu r (F 42) (F 43)) = _).trans ?_⟩
              · show (F159 43) = F 43
                first | rfl | (simp only [q_163, i_as])
              · show _ = some (some (F159 42))
                first | rfl | (simp only [rstatement, rput, rclose, h_30, h_42, h_65, h_67, h_77, h_99, h_121, h_129, h_137, h_148, h_156, h_158, h_162, q_163, i_as, i10, eq_self, rb_yes, rb_no, ryes, rno, if_true, if_false, f_tt (p := True), reduceIte])
            · dsimp only
              have g_164 : G159 4 = K := Eq.trans (hK159.2 4 rfl) g4
              have g_165 : G159 5 = V := Eq.trans (hK159.2 5 rfl) g5
              have h_166 : r 4 (F 42) (F 43) = some (none) := h159
              unfold mb_statement_216
              refine PP.ret ?_
              refine Or.inr ⟨rfl, h159a, (rfl : (rstatement K V fu r (F 42) (F 43)) = _).trans ?_⟩
              first | rfl | (simp only [rstatement, rput, rclose, h_30, h_42, h_65, h_67, h_77, h_99, h_121, h_129, h_137, h_148, h_156, h_158, h_166, i_as, i10, eq_self, rb_yes, rb_no, ryes, rno, if_true, if_false, f_tt (p := True), reduceIte])
          have h_167 : ¬ V (F 42).toNatClampNeg = (6 : Int32) := by
            rw [← g4, ← g5]
            have q := c_157
            first | exact q | (simp only [i_as] at q; exact q) | (simp only [i_as] at q ⊢; exact q)
          refine PP.ite (fun c_168 => ?_) (fun c_168 => ?_)
          · skip
            have h_169 : V (F 42).toNatClampNeg = (7 : Int32) := by
              rw [← g4, ← g5]
              have q := c_168
              first | exact q | (simp only [i_as] at q; exact q) | (simp only [i_as] at q ⊢; exact q)
            unfold mb_statement_217
            refine PP.bind (PP.and (ihK 7 0 0 F G) (ih 7 0 0 F G g4 g5 (show F 44 = 0 from h44))) ?_
            rintro r170 F170 G170 ⟨hK170, (⟨rfl, h170a, h170b, h170⟩ | ⟨rfl, h170a, h170⟩)⟩
            · dsimp only
              have g_171 : G170 4 = K := Eq.trans (hK170.2 4 rfl) g4
              have g_172 : G170 5 = V := Eq.trans (hK170.2 5 rfl) g5
              have h_173 : r 7 (F 42) (F 43) = some (some (F170 42)) := h170
              have q_174 : F170 43 = (F 43) := (show F170 43 = (F 43) from h170b)
              unfold mb_statement_221
              refine PP.ret ?_
              refine Or.inl ⟨rfl, h170a, ?_, (rfl : (rstatement K V fu r (F 42) (F 43)) = _).trans ?_⟩
              · show (F170 43) = F 43
                first | rfl | (simp only [q_174, i_as])
              · show _ = some (some (F170 42))
                first | rfl | (simp only [rstatement, rput, rclose, h_30, h_42, h_65, h_67, h_77, h_99, h_121, h_129, h_137, h_148, h_156, h_167, h_169, h_173, q_174, i_as, i10, eq_self, rb_yes, rb_no, ryes, rno, if_true, if_false, f_tt (p := True), reduceIte])
            · dsimp only
              have g_175 : G170 4 = K := Eq.trans (hK170.2 4 rfl) g4
              have g_176 : G170 5 = V := Eq.trans (hK170.2 5 rfl) g5
              have h_177 : r 7 (F 42) (F 43) = some (none) := h170
              unfold mb_statement_221
              refine PP.ret ?_
              refine Or.inr ⟨rfl, h170a, (rfl : (rstatement K V fu r (F 42) (F 43)) = _).trans ?_⟩
              first | rfl | (simp only [rstatement, rput, rclose, h_30, h_42, h_65, h_67, h_77, h_99, h_121, h_129, h_137, h_148, h_156, h_167, h_169, h_177, i_as, i10, eq_self, rb_yes, rb_no, ryes, rno, if_true, if_false, f_tt (p := True), reduceIte])
          have h_178 : ¬ V (F 42).toNatClampNeg = (7 : Int32) := by
            rw [← g4, ← g5]
            have q := c_168
            first | exact q | (simp only [i_as] at q; exact q) | (simp only [i_as] at q ⊢; exact q)
          refine PP.ite (fun c_179 => ?_) (fun c_179 => ?_)
          · skip
            have h_180 : V (F 42).toNatClampNeg = (8 : Int32) := by
              rw [← g4, ← g5]
              have q := c_179
              first | exact q | (simp only [i_as] at q; exact q) | (simp only [i_as] at q ⊢; exact q)
            unfold mb_statement_222
            refine PP.bind (PP.and (ihK 3 0 0 F G) (ih 3 0 0 F G g4 g5 (show F 44 = 0 from h44))) ?_
            rintro r181 F181 G181 ⟨hK181, (⟨rfl, h181a, h181b, h181⟩ | ⟨rfl, h181a, h181⟩)⟩
            · dsimp only
              have g_182 : G181 4 = K := Eq.trans (hK181.2 4 rfl) g4
              have g_183 : G181 5 = V := Eq.trans (hK181.2 5 rfl) g5
              have h_184 : r 3 (F 42) (F 43) = some (some (F181 42)) := h181
              have q_185 : F181 43 = (F 43) := (show F181 43 = (F 43) from h181b)
              unfold mb_statement_226
              refine PP.ret ?_
              refine Or.inl ⟨rfl, h181a, ?_, (rfl : (rstatement K V fu r (F 42) (F 43)) = _).trans ?_⟩
              · show (F181 43) = F 43
                first | rfl | (simp only [q_185, i_as])
              · show _ = some (some (F181 42))
                first | rfl | (simp only [rstatement, rput, rclose, h_30, h_42, h_65, h_67, h_77, h_99, h_121, h_129, h_137, h_148, h_156, h_167, h_178, h_180, h_184, q_185, i_as, i10, eq_self, rb_yes, rb_no, ryes, rno, if_true, if_false, f_tt (p := True), reduceIte])
            · dsimp only
              have g_186 : G181 4 = K := Eq.trans (hK181.2 4 rfl) g4
              have g_187 : G181 5 = V := Eq.trans (hK181.2 5 rfl) g5
              have h_188 : r 3 (F 42) (F 43) = some (none) := h181
              unfold mb_statement_226
              refine PP.ret ?_
              refine Or.inr ⟨rfl, h181a, (rfl : (rstatement K V fu r (F 42) (F 43)) = _).trans ?_⟩
              first | rfl | (simp only [rstatement, rput, rclose, h_30, h_42, h_65, h_67, h_77, h_99, h_121, h_129, h_137, h_148, h_156, h_167, h_178, h_180, h_188, i_as, i10, eq_self, rb_yes, rb_no, ryes, rno, if_true, if_false, f_tt (p := True), reduceIte])
          have h_189 : ¬ V (F 42).toNatClampNeg = (8 : Int32) := by
            rw [← g4, ← g5]
            have q := c_179
            first | exact q | (simp only [i_as] at q; exact q) | (simp only [i_as] at q ⊢; exact q)
          refine PP.ite (fun c_190 => ?_) (fun c_190 => ?_)
          · skip
            have h_191 : V (F 42).toNatClampNeg = (9 : Int32) := by
              rw [← g4, ← g5]
              have q := c_190
              first | exact q | (simp only [i_as] at q; exact q) | (simp only [i_as] at q ⊢; exact q)
            unfold mb_statement_227
            refine PP.bind (PP.and (mw_leaves F G) (mr_leaves F G g4 g5 (show F 44 = 0 from h44))) ?_
            rintro r192 F192 G192 ⟨hK192, (⟨rfl, h192a, h192b, h192⟩ | ⟨rfl, h192a, h192⟩)⟩
            · dsimp only
              have g_193 : G192 4 = K := Eq.trans (hK192.2 4 rfl) g4
              have g_194 : G192 5 = V := Eq.trans (hK192.2 5 rfl) g5
              have q_195 : F192 43 = (F 43) := hK192.1 43 rfl
              have h_196 : rclose K V 29 ((F 42) + 1) = some (some (F192 42)) := h192
              have q_197 : F192 43 = (F 43) := (show F192 43 = (F 43) from h192b)
              unfold mb_statement_231
              refine PP.ret ?_
              refine Or.inl ⟨rfl, h192a, ?_, (rfl : (rstatement K V fu r (F 42) (F 43)) = _).trans ?_⟩
              · show (F192 43) = F 43
                first | rfl | (simp only [q_197, i_as])
              · show _ = some (some (F192 42))
                first | rfl | (simp only [rstatement, rput, rclose, h_30, h_42, h_65, h_67, h_77, h_99, h_121, h_129, h_137, h_148, h_156, h_167, h_178, h_189, h_191, h_196, q_197, i_as, i10, eq_self, rb_yes, rb_no, ryes, rno, if_true, if_false, f_tt (p := True), reduceIte])
            · dsimp only
              have g_198 : G192 4 = K := Eq.trans (hK192.2 4 rfl) g4
              have g_199 : G192 5 = V := Eq.trans (hK192.2 5 rfl) g5
              have q_200 : F192 43 = (F 43) := hK192.1 43 rfl
              have h_201 : rclose K V 29 ((F 42) + 1) = some (none) := h192
              unfold mb_statement_231
              refine PP.ret ?_
              refine Or.inr ⟨rfl, h192a, (rfl : (rstatement K V fu r (F 42) (F 43)) = _).trans ?_⟩
              first | rfl | (simp only [rstatement, rput, rclose, h_30, h_42, h_65, h_67, h_77, h_99, h_121, h_129, h_137, h_148, h_156, h_167, h_178, h_189, h_191, h_201, q_200, i_as, i10, eq_self, rb_yes, rb_no, ryes, rno, if_true, if_false, f_tt (p := True), reduceIte])
          have h_202 : ¬ V (F 42).toNatClampNeg = (9 : Int32) := by
            rw [← g4, ← g5]
            have q := c_190
            first | exact q | (simp only [i_as] at q; exact q) | (simp only [i_as] at q ⊢; exact q)
          refine PP.ite (fun c_203 => ?_) (fun c_203 => ?_)
          · skip
            have h_204 : V (F 42).toNatClampNeg = (10 : Int32) := by
              rw [← g4, ← g5]
              have q := c_203
              first | exact q | (simp only [i_as] at q; exact q) | (simp only [i_as] at q ⊢; exact q)
            unfold mb_statement_227
            refine PP.bind (PP.and (mw_leaves F G) (mr_leaves F G g4 g5 (show F 44 = 0 from h44))) ?_
            rintro r205 F205 G205 ⟨hK205, (⟨rfl, h205a, h205b, h205⟩ | ⟨rfl, h205a, h205⟩)⟩
            · dsimp only
              have g_206 : G205 4 = K := Eq.trans (hK205.2 4 rfl) g4
              have g_207 : G205 5 = V := Eq.trans (hK205.2 5 rfl) g5
              have q_208 : F205 43 = (F 43) := hK205.1 43 rfl
              have h_209 : rclose K V 29 ((F 42) + 1) = some (some (F205 42)) := h205
              have q_210 : F205 43 = (F 43) := (show F205 43 = (F 43) from h205b)
              unfold mb_statement_231
              refine PP.ret ?_
              refine Or.inl ⟨rfl, h205a, ?_, (rfl : (rstatement K V fu r (F 42) (F 43)) = _).trans ?_⟩
              · show (F205 43) = F 43
                first | rfl | (simp only [q_210, i_as])
              · show _ = some (some (F205 42))
                first | rfl | (simp only [rstatement, rput, rclose, h_30, h_42, h_65, h_67, h_77, h_99, h_121, h_129, h_137, h_148, h_156, h_167, h_178, h_189, h_202, h_204, h_209, q_210, i_as, i10, eq_self, rb_yes, rb_no, ryes, rno, if_true, if_false, f_tt (p := True), reduceIte])
            · dsimp only
              have g_211 : G205 4 = K := Eq.trans (hK205.2 4 rfl) g4
              have g_212 : G205 5 = V := Eq.trans (hK205.2 5 rfl) g5
              have q_213 : F205 43 = (F 43) := hK205.1 43 rfl
              have h_214 : rclose K V 29 ((F 42) + 1) = some (none) := h205
              unfold mb_statement_231
              refine PP.ret ?_
              refine Or.inr ⟨rfl, h205a, (rfl : (rstatement K V fu r (F 42) (F 43)) = _).trans ?_⟩
              first | rfl | (simp only [rstatement, rput, rclose, h_30, h_42, h_65, h_67, h_77, h_99, h_121, h_129, h_137, h_148, h_156, h_167, h_178, h_189, h_202, h_204, h_214, q_213, i_as, i10, eq_self, rb_yes, rb_no, ryes, rno, if_true, if_false, f_tt (p := True), reduceIte])
          have h_215 : ¬ V (F 42).toNatClampNeg = (10 : Int32) := by
            rw [← g4, ← g5]
            have q := c_203
            first | exact q | (simp only [i_as] at q; exact q) | (simp only [i_as] at q ⊢; exact q)
          refine PP.ite (fun c_216 => ?_) (fun c_216 => ?_)
          · skip
            have h_217 : V (F 42).toNatClampNeg = (11 : Int32) := by
              rw [← g4, ← g5]
              have q := c_216
              first | exact q | (simp only [i_as] at q; exact q) | (simp only [i_as] at q ⊢; exact q)
            unfold mb_statement_232
            refine PP.bind (PP.and (mw_returns F G) (mr_returns F G g4 g5 (show F 44 = 0 from h44))) ?_
            rintro r218 F218 G218 ⟨hK218, (⟨rfl, h218a, h218b, h218⟩ | ⟨rfl, h218a, h218⟩)⟩
            · dsimp only
              have g_219 : G218 4 = K := Eq.trans (hK218.2 4 rfl) g4
              have g_220 : G218 5 = V := Eq.trans (hK218.2 5 rfl) g5
              have h_221 : rreturns K V fu (F 42) (F 43) = some (some (F218 42)) := h218
              have q_222 : F218 43 = (F 43) := (show F218 43 = (F 43) from h218b)
              unfold mb_statement_236
              refine PP.ret ?_
              refine Or.inl ⟨rfl, h218a, ?_, (rfl : (rstatement K V fu r (F 42) (F 43)) = _).trans ?_⟩
              · show (F218 43) = F 43
                first | rfl | (simp only [q_222, i_as])
              · show _ = some (some (F218 42))
                first | rfl | (simp only [rstatement, rput, rclose, h_30, h_42, h_65, h_67, h_77, h_99, h_121, h_129, h_137, h_148, h_156, h_167, h_178, h_189, h_202, h_215, h_217, h_221, q_222, i_as, i10, eq_self, rb_yes, rb_no, ryes, rno, if_true, if_false, f_tt (p := True), reduceIte])
            · dsimp only
              have g_223 : G218 4 = K := Eq.trans (hK218.2 4 rfl) g4
              have g_224 : G218 5 = V := Eq.trans (hK218.2 5 rfl) g5
              have h_225 : rreturns K V fu (F 42) (F 43) = some (none) := h218
              unfold mb_statement_236
              refine PP.ret ?_
              refine Or.inr ⟨rfl, h218a, (rfl : (rstatement K V fu r (F 42) (F 43)) = _).trans ?_⟩
              first | rfl | (simp only [rstatement, rput, rclose, h_30, h_42, h_65, h_67, h_77, h_99, h_121, h_129, h_137, h_148, h_156, h_167, h_178, h_189, h_202, h_215, h_217, h_225, i_as, i10, eq_self, rb_yes, rb_no, ryes, rno, if_true, if_false, f_tt (p := True), reduceIte])
          have h_226 : ¬ V (F 42).toNatClampNeg = (11 : Int32) := by
            rw [← g4, ← g5]
            have q := c_216
            first | exact q | (simp only [i_as] at q; exact q) | (simp only [i_as] at q ⊢; exact q)
          refine PP.ite (fun c_227 => ?_) (fun c_227 => ?_)
          · skip
            have h_228 : V (F 42).toNatClampNeg = (12 : Int32) := by
              rw [← g4, ← g5]
              have q := c_227
              first | exact q | (simp only [i_as] at q; exact q) | (simp only [i_as] at q ⊢; exact q)
            unfold mb_statement_237
            refine PP.bind (mp_isWord (12 : Int32) F G) ?_
            rintro _ _ _ ⟨rfl, rfl, (⟨rfl, h229⟩ | ⟨rfl, h229⟩)⟩
            · dsimp only
              have h_230 : wdn K V (F 42) (12 : Int32) = true := by
                rw [← g4, ← g5]
                have q := h229
                first | exact q | (simp only [i_as] at q; exact q) | (simp only [i_as] at q ⊢; exact q)
              unfold mb_statement_243
              refine PP.ite (fun c_231 => absurd c_231 (by decide)) (fun _ => ?_)
              unfold mb_statement_246
              unfold mb_statement_253
              unfold mb_statement_264
              refine PP.bind (mp_openSign (22 : Int32) (fup F 42 ((F 42) + (1 : Int32))) G) ?_
              rintro r232 F232 G232 (⟨rfl, rfl, rfl, h232⟩ | ⟨rfl, h232, h232b⟩)
              · dsimp only
                have h_233 : sgn K V ((F 42) + (1 : Int32)) (22 : Int32) = true := by
                  rw [← g4, ← g5]
                  have q := h232.1
                  first | exact q | (simp only [i_as] at q; exact q) | (simp only [i_as] at q ⊢; exact q)
                have h_234 : ¬ (F 43) = 40 := h232.2.1
                unfold mb_statement_270
                refine PP.ite (fun c_235 => absurd c_235 (by decide)) (fun _ => ?_)
                unfold mb_statement_273
                refine PP.bind (PP.and (mw_expression (fup (fup (fup F 42 ((F 42) + (1 : Int32))) 43 ((F 43) + (1 : Int32))) 42 (((F 42) + (1 : Int32)) + (1 : Int32))) G) (mr_expression (fup (fup (fup F 42 ((F 42) + (1 : Int32))) 43 ((F 43) + (1 : Int32))) 42 (((F 42) + (1 : Int32)) + (1 : Int32))) G g4 g5 (show (fup (fup (fup F 42 ((F 42) + (1 : Int32))) 43 ((F 43) + (1 : Int32))) 42 (((F 42) + (1 : Int32)) + (1 : Int32))) 44 = 0 from h44))) ?_
                rintro r236 F236 G236 ⟨hK236, (⟨rfl, h236a, h236b, h236⟩ | ⟨rfl, h236a, h236⟩)⟩
                · dsimp only
                  have g_237 : G236 4 = K := Eq.trans (hK236.2 4 rfl) g4
                  have g_238 : G236 5 = V := Eq.trans (hK236.2 5 rfl) g5
                  have h_239 : rS1 K V fu 300 4 (((F 42) + (1 : Int32)) + (1 : Int32)) ((F 43) + (1 : Int32)) = some (some (F236 42)) := h236
                  have q_240 : F236 43 = ((F 43) + (1 : Int32)) := (show F236 43 = ((F 43) + (1 : Int32)) from h236b)
                  unfold mb_statement_277
                  refine PP.ite (fun c_241 => absurd c_241 (by decide)) (fun _ => ?_)
                  unfold mb_statement_280
                  refine PP.bind (mp_closeSign (23 : Int32) F236 G236) ?_
                  rintro r242 F242 G242 (⟨rfl, rfl, rfl, h242⟩ | ⟨rfl, h242, h242b⟩)
                  · dsimp only
                    have h_243 : sgn K V (F236 42) (23 : Int32) = true := by
                      rw [← g_237, ← g_238]
                      have q := h242.1
                      first | exact q | (simp only [q_240, i_as] at q; exact q) | (simp only [q_240, i_as] at q ⊢; exact q)
                    unfold mb_statement_286
                    refine PP.ite (fun c_244 => absurd c_244 (by decide)) (fun _ => ?_)
                    unfold mb_statement_291
                    refine PP.bind (mw_step (19 : Int32) (0 : Int32) (0 : Int32) (fup (fup F236 42 ((F236 42) + (1 : Int32))) 43 ((F236 43) - (1 : Int32))) G236) ?_
                    intro r245 F245 G245 hK245
                    dsimp only
                    have g_246 : G245 4 = K := Eq.trans (hK245.2 4 rfl) g_237
                    have g_247 : G245 5 = V := Eq.trans (hK245.2 5 rfl) g_238
                    have q_248 : F245 42 = ((F236 42) + (1 : Int32)) := hK245.1 42 rfl
                    have q_249 : F245 43 = (F 43) := Eq.trans (hK245.1 43 rfl) (show ((F236 43) - (1 : Int32)) = (F 43) by simp only [q_240, i_as])
                    have q_250 : F245 44 = 0 := Eq.trans (hK245.1 44 rfl) h236a
                    unfold mb_statement_298
                    refine PP.bind (mp_sign (29 : Int32) F245 G245) ?_
                    rintro r251 F251 G251 (⟨rfl, rfl, rfl, h251⟩ | ⟨rfl, h251, h251b⟩)
                    · dsimp only
                      have h_252 : sgn K V ((F236 42) + (1 : Int32)) (29 : Int32) = true := by
                        rw [← g_246, ← g_247]
                        have q := h251.1
                        first | exact q | (simp only [q_248, q_249, i_as] at q; exact q) | (simp only [q_248, q_249, i_as] at q ⊢; exact q)
                      unfold mb_statement_305
                      refine PP.ret ?_
                      refine Or.inl ⟨rfl, q_250, ?_, (rfl : (rstatement K V fu r (F 42) (F 43)) = _).trans ?_⟩
                      · show (F245 43) = F 43
                        first | rfl | (simp only [q_248, q_249, i_as])
                      · show _ = some (some ((F245 42) + (1 : Int32)))
                        first | rfl | (simp only [rstatement, rput, rclose, h_30, h_42, h_65, h_67, h_77, h_99, h_121, h_129, h_137, h_148, h_156, h_167, h_178, h_189, h_202, h_215, h_226, h_228, h_230, h_233, h_234, h_239, h_243, h_252, q_248, q_249, i_as, i10, eq_self, rb_yes, rb_no, ryes, rno, if_true, if_false, f_tt (p := True), reduceIte])
                    · dsimp only
                      have g_253 : G251 4 = K := Eq.trans (h251.2.2.2 4 rfl) g_246
                      have g_254 : G251 5 = V := Eq.trans (h251.2.2.2 5 rfl) g_247
                      have q_255 : F251 42 = ((F236 42) + (1 : Int32)) := Eq.trans (h251.2.2.1 42 rfl) (show (F245 42) = ((F236 42) + (1 : Int32)) by simp only [q_248, q_249, i_as])
                      have q_256 : F251 43 = (F 43) := Eq.trans (h251.2.2.1 43 rfl) (show (F245 43) = (F 43) by simp only [q_248, q_249, i_as])
                      rcases h251b with q | q
                      · exact absurd q (by rw [q_250]; decide)
                      · skip
                        have h_257 : sgn K V ((F236 42) + (1 : Int32)) (29 : Int32) = false := by
                          rw [← g_246, ← g_247]
                          have q := q
                          first | exact q | (simp only [q_248, q_249, i_as] at q; exact q) | (simp only [q_248, q_249, i_as] at q ⊢; exact q)
                        unfold mb_statement_305
                        refine PP.ret ?_
                        refine Or.inr ⟨rfl, h251.1, (rfl : (rstatement K V fu r (F 42) (F 43)) = _).trans ?_⟩
                        first | rfl | (simp only [rstatement, rput, rclose, h_30, h_42, h_65, h_67, h_77, h_99, h_121, h_129, h_137, h_148, h_156, h_167, h_178, h_189, h_202, h_215, h_226, h_228, h_230, h_233, h_234, h_239, h_243, h_257, q_255, q_256, i_as, i10, eq_self, rb_yes, rb_no, ryes, rno, if_true, if_false, f_tt (p := True), reduceIte])
                  · dsimp only
                    have g_258 : G242 4 = K := Eq.trans (h242.2.2.2 4 rfl) g_237
                    have g_259 : G242 5 = V := Eq.trans (h242.2.2.2 5 rfl) g_238
                    have q_260 : F242 42 = (F236 42) := h242.2.2.1 42 rfl
                    have q_261 : F242 43 = ((F 43) + (1 : Int32)) := Eq.trans (h242.2.2.1 43 rfl) (show (F236 43) = ((F 43) + (1 : Int32)) by simp only [q_240, i_as])
                    rcases h242b with q | q
                    · exact absurd q (by rw [h236a]; decide)
                    · skip
                      have h_262 : sgn K V (F236 42) (23 : Int32) = false := by
                        rw [← g_237, ← g_238]
                        have q := q
                        first | exact q | (simp only [q_240, i_as] at q; exact q) | (simp only [q_240, i_as] at q ⊢; exact q)
                      unfold mb_statement_286
                      refine PP.ite (fun _ => ?_) (fun c_263 => absurd (by decide) c_263)
                      unfold mb_statement_289
                      refine PP.ret ?_
                      refine Or.inr ⟨rfl, h242.1, (rfl : (rstatement K V fu r (F 42) (F 43)) = _).trans ?_⟩
                      first | rfl | (simp only [rstatement, rput, rclose, h_30, h_42, h_65, h_67, h_77, h_99, h_121, h_129, h_137, h_148, h_156, h_167, h_178, h_189, h_202, h_215, h_226, h_228, h_230, h_233, h_234, h_239, h_262, q_260, q_261, i_as, i10, eq_self, rb_yes, rb_no, ryes, rno, if_true, if_false, f_tt (p := True), reduceIte])
                · dsimp only
                  have g_264 : G236 4 = K := Eq.trans (hK236.2 4 rfl) g4
                  have g_265 : G236 5 = V := Eq.trans (hK236.2 5 rfl) g5
                  have h_266 : rS1 K V fu 300 4 (((F 42) + (1 : Int32)) + (1 : Int32)) ((F 43) + (1 : Int32)) = some (none) := h236
                  unfold mb_statement_277
                  refine PP.ite (fun _ => ?_) (fun c_267 => absurd (by decide) c_267)
                  unfold mb_statement_289
                  refine PP.ret ?_
                  refine Or.inr ⟨rfl, h236a, (rfl : (rstatement K V fu r (F 42) (F 43)) = _).trans ?_⟩
                  first | rfl | (simp only [rstatement, rput, rclose, h_30, h_42, h_65, h_67, h_77, h_99, h_121, h_129, h_137, h_148, h_156, h_167, h_178, h_189, h_202, h_215, h_226, h_228, h_230, h_233, h_234, h_266, i_as, i10, eq_self, rb_yes, rb_no, ryes, rno, if_true, if_false, f_tt (p := True), reduceIte])
              · dsimp only
                have g_268 : G232 4 = K := Eq.trans (h232.2.2.2 4 rfl) g4
                have g_269 : G232 5 = V := Eq.trans (h232.2.2.2 5 rfl) g5
                have q_270 : F232 42 = ((F 42) + (1 : Int32)) := h232.2.2.1 42 rfl
                have q_271 : F232 43 = (F 43) := h232.2.2.1 43 rfl
                rcases h232b with q | q | ⟨q, q1⟩
                · exact absurd q (by rw [h44]; decide)
                · skip
                  have h_272 : sgn K V ((F 42) + (1 : Int32)) (22 : Int32) = false := by
                    rw [← g4, ← g5]
                    have q := q
                    first | exact q | (simp only [i_as] at q; exact q) | (simp only [i_as] at q ⊢; exact q)
                  unfold mb_statement_270
                  refine PP.ite (fun _ => ?_) (fun c_273 => absurd (by decide) c_273)
                  unfold mb_statement_289
                  refine PP.ret ?_
                  refine Or.inr ⟨rfl, h232.1, (rfl : (rstatement K V fu r (F 42) (F 43)) = _).trans ?_⟩
                  first | rfl | (simp only [rstatement, rput, rclose, h_30, h_42, h_65, h_67, h_77, h_99, h_121, h_129, h_137, h_148, h_156, h_167, h_178, h_189, h_202, h_215, h_226, h_228, h_230, h_272, q_270, q_271, i_as, i10, eq_self, rb_yes, rb_no, ryes, rno, if_true, if_false, f_tt (p := True), reduceIte])
                · skip
                  have h_274 : sgn K V ((F 42) + (1 : Int32)) (22 : Int32) = true := by
                    rw [← g4, ← g5]
                    have q := q
                    first | exact q | (simp only [i_as] at q; exact q) | (simp only [i_as] at q ⊢; exact q)
                  have h_275 : (F 43) = 40 := q1
                  unfold mb_statement_270
                  refine PP.ite (fun _ => ?_) (fun c_276 => absurd (by decide) c_276)
                  unfold mb_statement_289
                  refine PP.ret ?_
                  refine Or.inr ⟨rfl, h232.1, (rfl : (rstatement K V fu r (F 42) (F 43)) = _).trans ?_⟩
                  first | rfl | (simp only [rstatement, rput, rclose, h_30, h_42, h_65, h_67, h_77, h_99, h_121, h_129, h_137, h_148, h_156, h_167, h_178, h_189, h_202, h_215, h_226, h_228, h_230, h_274, h_275, q_270, q_271, i_as, i10, eq_self, rb_yes, rb_no, ryes, rno, if_true, if_false, f_tt (p := True), reduceIte])
            · dsimp only
              have h_277 : wdn K V (F 42) (12 : Int32) = false := by
                rw [← g4, ← g5]
                have q := h229
                first | exact q | (simp only [i_as] at q; exact q) | (simp only [i_as] at q ⊢; exact q)
              unfold mb_statement_243
              refine PP.ite (fun _ => ?_) (fun c_278 => absurd (by decide) c_278)
              unfold mb_statement_251
              unfold mb_statement_253
              unfold mb_statement_264
              refine PP.bind (mp_openSign (22 : Int32) (fup F 42 ((F 42) + (1 : Int32))) G) ?_
              rintro r279 F279 G279 (⟨rfl, rfl, rfl, h279⟩ | ⟨rfl, h279, h279b⟩)
              · dsimp only
                have h_280 : sgn K V ((F 42) + (1 : Int32)) (22 : Int32) = true := by
                  rw [← g4, ← g5]
                  have q := h279.1
                  first | exact q | (simp only [i_as] at q; exact q) | (simp only [i_as] at q ⊢; exact q)
                have h_281 : ¬ (F 43) = 40 := h279.2.1
                unfold mb_statement_270
                refine PP.ite (fun c_282 => absurd c_282 (by decide)) (fun _ => ?_)
                unfold mb_statement_273
                refine PP.bind (PP.and (mw_expression (fup (fup (fup F 42 ((F 42) + (1 : Int32))) 43 ((F 43) + (1 : Int32))) 42 (((F 42) + (1 : Int32)) + (1 : Int32))) G) (mr_expression (fup (fup (fup F 42 ((F 42) + (1 : Int32))) 43 ((F 43) + (1 : Int32))) 42 (((F 42) + (1 : Int32)) + (1 : Int32))) G g4 g5 (show (fup (fup (fup F 42 ((F 42) + (1 : Int32))) 43 ((F 43) + (1 : Int32))) 42 (((F 42) + (1 : Int32)) + (1 : Int32))) 44 = 0 from h44))) ?_
                rintro r283 F283 G283 ⟨hK283, (⟨rfl, h283a, h283b, h283⟩ | ⟨rfl, h283a, h283⟩)⟩
                · dsimp only
                  have g_284 : G283 4 = K := Eq.trans (hK283.2 4 rfl) g4
                  have g_285 : G283 5 = V := Eq.trans (hK283.2 5 rfl) g5
                  have h_286 : rS1 K V fu 300 4 (((F 42) + (1 : Int32)) + (1 : Int32)) ((F 43) + (1 : Int32)) = some (some (F283 42)) := h283
                  have q_287 : F283 43 = ((F 43) + (1 : Int32)) := (show F283 43 = ((F 43) + (1 : Int32)) from h283b)
                  unfold mb_statement_277
                  refine PP.ite (fun c_288 => absurd c_288 (by decide)) (fun _ => ?_)
                  unfold mb_statement_280
                  refine PP.bind (mp_closeSign (23 : Int32) F283 G283) ?_
                  rintro r289 F289 G289 (⟨rfl, rfl, rfl, h289⟩ | ⟨rfl, h289, h289b⟩)
                  · dsimp only
                    have h_290 : sgn K V (F283 42) (23 : Int32) = true := by
                      rw [← g_284, ← g_285]
                      have q := h289.1
                      first | exact q | (simp only [q_287, i_as] at q; exact q) | (simp only [q_287, i_as] at q ⊢; exact q)
                    unfold mb_statement_286
                    refine PP.ite (fun c_291 => absurd c_291 (by decide)) (fun _ => ?_)
                    unfold mb_statement_291
                    refine PP.bind (mw_step (20 : Int32) (0 : Int32) (0 : Int32) (fup (fup F283 42 ((F283 42) + (1 : Int32))) 43 ((F283 43) - (1 : Int32))) G283) ?_
                    intro r292 F292 G292 hK292
                    dsimp only
                    have g_293 : G292 4 = K := Eq.trans (hK292.2 4 rfl) g_284
                    have g_294 : G292 5 = V := Eq.trans (hK292.2 5 rfl) g_285
                    have q_295 : F292 42 = ((F283 42) + (1 : Int32)) := hK292.1 42 rfl
                    have q_296 : F292 43 = (F 43) := Eq.trans (hK292.1 43 rfl) (show ((F283 43) - (1 : Int32)) = (F 43) by simp only [q_287, i_as])
                    have q_297 : F292 44 = 0 := Eq.trans (hK292.1 44 rfl) h283a
                    unfold mb_statement_298
                    refine PP.bind (mp_sign (29 : Int32) F292 G292) ?_
                    rintro r298 F298 G298 (⟨rfl, rfl, rfl, h298⟩ | ⟨rfl, h298, h298b⟩)
                    · dsimp only
                      have h_299 : sgn K V ((F283 42) + (1 : Int32)) (29 : Int32) = true := by
                        rw [← g_293, ← g_294]
                        have q := h298.1
                        first | exact q | (simp only [q_295, q_296, i_as] at q; exact q) | (simp only [q_295, q_296, i_as] at q ⊢; exact q)
                      unfold mb_statement_305
                      refine PP.ret ?_
                      refine Or.inl ⟨rfl, q_297, ?_, (rfl : (rstatement K V fu r (F 42) (F 43)) = _).trans ?_⟩
                      · show (F292 43) = F 43
                        first | rfl | (simp only [q_295, q_296, i_as])
                      · show _ = some (some ((F292 42) + (1 : Int32)))
                        first | rfl | (simp only [rstatement, rput, rclose, h_30, h_42, h_65, h_67, h_77, h_99, h_121, h_129, h_137, h_148, h_156, h_167, h_178, h_189, h_202, h_215, h_226, h_228, h_277, h_280, h_281, h_286, h_290, h_299, q_295, q_296, i_as, i10, eq_self, rb_yes, rb_no, ryes, rno, if_true, if_false, f_tt (p := True), reduceIte])
                    · dsimp only
                      have g_300 : G298 4 = K := Eq.trans (h298.2.2.2 4 rfl) g_293
                      have g_301 : G298 5 = V := Eq.trans (h298.2.2.2 5 rfl) g_294
                      have q_302 : F298 42 = ((F283 42) + (1 : Int32)) := Eq.trans (h298.2.2.1 42 rfl) (show (F292 42) = ((F283 42) + (1 : Int32)) by simp only [q_295, q_296, i_as])
                      have q_303 : F298 43 = (F 43) := Eq.trans (h298.2.2.1 43 rfl) (show (F292 43) = (F 43) by simp only [q_295, q_296, i_as])
                      rcases h298b with q | q
                      · exact absurd q (by rw [q_297]; decide)
                      · skip
                        have h_304 : sgn K V ((F283 42) + (1 : Int32)) (29 : Int32) = false := by
                          rw [← g_293, ← g_294]
                          have q := q
                          first | exact q | (simp only [q_295, q_296, i_as] at q; exact q) | (simp only [q_295, q_296, i_as] at q ⊢; exact q)
                        unfold mb_statement_305
                        refine PP.ret ?_
                        refine Or.inr ⟨rfl, h298.1, (rfl : (rstatement K V fu r (F 42) (F 43)) = _).trans ?_⟩
                        first | rfl | (simp only [rstatement, rput, rclose, h_30, h_42, h_65, h_67, h_77, h_99, h_121, h_129, h_137, h_148, h_156, h_167, h_178, h_189, h_202, h_215, h_226, h_228, h_277, h_280, h_281, h_286, h_290, h_304, q_302, q_303, i_as, i10, eq_self, rb_yes, rb_no, ryes, rno, if_true, if_false, f_tt (p := True), reduceIte])
                  · dsimp only
                    have g_305 : G289 4 = K := Eq.trans (h289.2.2.2 4 rfl) g_284
                    have g_306 : G289 5 = V := Eq.trans (h289.2.2.2 5 rfl) g_285
                    have q_307 : F289 42 = (F283 42) := h289.2.2.1 42 rfl
                    have q_308 : F289 43 = ((F 43) + (1 : Int32)) := Eq.trans (h289.2.2.1 43 rfl) (show (F283 43) = ((F 43) + (1 : Int32)) by simp only [q_287, i_as])
                    rcases h289b with q | q
                    · exact absurd q (by rw [h283a]; decide)
                    · skip
                      have h_309 : sgn K V (F283 42) (23 : Int32) = false := by
                        rw [← g_284, ← g_285]
                        have q := q
                        first | exact q | (simp only [q_287, i_as] at q; exact q) | (simp only [q_287, i_as] at q ⊢; exact q)
                      unfold mb_statement_286
                      refine PP.ite (fun _ => ?_) (fun c_310 => absurd (by decide) c_310)
                      unfold mb_statement_289
                      refine PP.ret ?_
                      refine Or.inr ⟨rfl, h289.1, (rfl : (rstatement K V fu r (F 42) (F 43)) = _).trans ?_⟩
                      first | rfl | (simp only [rstatement, rput, rclose, h_30, h_42, h_65, h_67, h_77, h_99, h_121, h_129, h_137, h_148, h_156, h_167, h_178, h_189, h_202, h_215, h_226, h_228, h_277, h_280, h_281, h_286, h_309, q_307, q_308, i_as, i10, eq_self, rb_yes, rb_no, ryes, rno, if_true, if_false, f_tt (p := True), reduceIte])
                · dsimp only
                  have g_311 : G283 4 = K := Eq.trans (hK283.2 4 rfl) g4
                  have g_312 : G283 5 = V := Eq.trans (hK283.2 5 rfl) g5
                  have h_313 : rS1 K V fu 300 4 (((F 42) + (1 : Int32)) + (1 : Int32)) ((F 43) + (1 : Int32)) = some (none) := h283
                  unfold mb_statement_277
                  refine PP.ite (fun _ => ?_) (fun c_314 => absurd (by decide) c_314)
                  unfold mb_statement_289
                  refine PP.ret ?_
                  refine Or.inr ⟨rfl, h283a, (rfl : (rstatement K V fu r (F 42) (F 43)) = _).trans ?_⟩
                  first | rfl | (simp only [rstatement, rput, rclose, h_30, h_42, h_65, h_67, h_77, h_99, h_121, h_129, h_137, h_148, h_156, h_167, h_178, h_189, h_202, h_215, h_226, h_228, h_277, h_280, h_281, h_313, i_as, i10, eq_self, rb_yes, rb_no, ryes, rno, if_true, if_false, f_tt (p := True), reduceIte])
              · dsimp only
                have g_315 : G279 4 = K := Eq.trans (h279.2.2.2 4 rfl) g4
                have g_316 : G279 5 = V := Eq.trans (h279.2.2.2 5 rfl) g5
                have q_317 : F279 42 = ((F 42) + (1 : Int32)) := h279.2.2.1 42 rfl
                have q_318 : F279 43 = (F 43) := h279.2.2.1 43 rfl
                rcases h279b with q | q | ⟨q, q1⟩
                · exact absurd q (by rw [h44]; decide)
                · skip
                  have h_319 : sgn K V ((F 42) + (1 : Int32)) (22 : Int32) = false := by
                    rw [← g4, ← g5]
                    have q := q
                    first | exact q | (simp only [i_as] at q; exact q) | (simp only [i_as] at q ⊢; exact q)
                  unfold mb_statement_270
                  refine PP.ite (fun _ => ?_) (fun c_320 => absurd (by decide) c_320)
                  unfold mb_statement_289
                  refine PP.ret ?_
                  refine Or.inr ⟨rfl, h279.1, (rfl : (rstatement K V fu r (F 42) (F 43)) = _).trans ?_⟩
                  first | rfl | (simp only [rstatement, rput, rclose, h_30, h_42, h_65, h_67, h_77, h_99, h_121, h_129, h_137, h_148, h_156, h_167, h_178, h_189, h_202, h_215, h_226, h_228, h_277, h_319, q_317, q_318, i_as, i10, eq_self, rb_yes, rb_no, ryes, rno, if_true, if_false, f_tt (p := True), reduceIte])
                · skip
                  have h_321 : sgn K V ((F 42) + (1 : Int32)) (22 : Int32) = true := by
                    rw [← g4, ← g5]
                    have q := q
                    first | exact q | (simp only [i_as] at q; exact q) | (simp only [i_as] at q ⊢; exact q)
                  have h_322 : (F 43) = 40 := q1
                  unfold mb_statement_270
                  refine PP.ite (fun _ => ?_) (fun c_323 => absurd (by decide) c_323)
                  unfold mb_statement_289
                  refine PP.ret ?_
                  refine Or.inr ⟨rfl, h279.1, (rfl : (rstatement K V fu r (F 42) (F 43)) = _).trans ?_⟩
                  first | rfl | (simp only [rstatement, rput, rclose, h_30, h_42, h_65, h_67, h_77, h_99, h_121, h_129, h_137, h_148, h_156, h_167, h_178, h_189, h_202, h_215, h_226, h_228, h_277, h_321, h_322, q_317, q_318, i_as, i10, eq_self, rb_yes, rb_no, ryes, rno, if_true, if_false, f_tt (p := True), reduceIte])
          have h_324 : ¬ V (F 42).toNatClampNeg = (12 : Int32) := by
            rw [← g4, ← g5]
            have q := c_227
            first | exact q | (simp only [i_as] at q; exact q) | (simp only [i_as] at q ⊢; exact q)
          refine PP.ite (fun c_325 => ?_) (fun c_325 => ?_)
          · skip
            have h_326 : V (F 42).toNatClampNeg = (13 : Int32) := by
              rw [← g4, ← g5]
              have q := c_325
              first | exact q | (simp only [i_as] at q; exact q) | (simp only [i_as] at q ⊢; exact q)
            unfold mb_statement_306
            refine PP.bind (mp_fails (2 : Int32) (by decide) F G) ?_
            rintro r327 F327 G327 ⟨rfl, h327⟩
            dsimp only
            have g_328 : G327 4 = K := Eq.trans (h327.2.2.2 4 rfl) g4
            have g_329 : G327 5 = V := Eq.trans (h327.2.2.2 5 rfl) g5
            have q_330 : F327 42 = (F 42) := h327.2.2.1 42 rfl
            have q_331 : F327 43 = (F 43) := h327.2.2.1 43 rfl
            unfold mb_statement_311
            refine PP.ret ?_
            refine Or.inr ⟨rfl, h327.1, (rfl : (rstatement K V fu r (F 42) (F 43)) = _).trans ?_⟩
            first | rfl | (simp only [rstatement, rput, rclose, h_30, h_42, h_65, h_67, h_77, h_99, h_121, h_129, h_137, h_148, h_156, h_167, h_178, h_189, h_202, h_215, h_226, h_324, h_326, q_330, q_331, i_as, i10, eq_self, rb_yes, rb_no, ryes, rno, if_true, if_false, f_tt (p := True), reduceIte])
          have h_332 : ¬ V (F 42).toNatClampNeg = (13 : Int32) := by
            rw [← g4, ← g5]
            have q := c_325
            first | exact q | (simp only [i_as] at q; exact q) | (simp only [i_as] at q ⊢; exact q)
          unfold mb_statement_237
          refine PP.bind (mp_isWord (12 : Int32) F G) ?_
          rintro _ _ _ ⟨rfl, rfl, (⟨rfl, h333⟩ | ⟨rfl, h333⟩)⟩
          · dsimp only
            have h_334 : wdn K V (F 42) (12 : Int32) = true := by
              rw [← g4, ← g5]
              have q := h333
              first | exact q | (simp only [i_as] at q; exact q) | (simp only [i_as] at q ⊢; exact q)
            unfold mb_statement_243
            refine PP.ite (fun c_335 => absurd c_335 (by decide)) (fun _ => ?_)
            unfold mb_statement_246
            unfold mb_statement_253
            unfold mb_statement_264
            refine PP.bind (mp_openSign (22 : Int32) (fup F 42 ((F 42) + (1 : Int32))) G) ?_
            rintro r336 F336 G336 (⟨rfl, rfl, rfl, h336⟩ | ⟨rfl, h336, h336b⟩)
            · dsimp only
              have h_337 : sgn K V ((F 42) + (1 : Int32)) (22 : Int32) = true := by
                rw [← g4, ← g5]
                have q := h336.1
                first | exact q | (simp only [i_as] at q; exact q) | (simp only [i_as] at q ⊢; exact q)
              have h_338 : ¬ (F 43) = 40 := h336.2.1
              unfold mb_statement_270
              refine PP.ite (fun c_339 => absurd c_339 (by decide)) (fun _ => ?_)
              unfold mb_statement_273
              refine PP.bind (PP.and (mw_expression (fup (fup (fup F 42 ((F 42) + (1 : Int32))) 43 ((F 43) + (1 : Int32))) 42 (((F 42) + (1 : Int32)) + (1 : Int32))) G) (mr_expression (fup (fup (fup F 42 ((F 42) + (1 : Int32))) 43 ((F 43) + (1 : Int32))) 42 (((F 42) + (1 : Int32)) + (1 : Int32))) G g4 g5 (show (fup (fup (fup F 42 ((F 42) + (1 : Int32))) 43 ((F 43) + (1 : Int32))) 42 (((F 42) + (1 : Int32)) + (1 : Int32))) 44 = 0 from h44))) ?_
              rintro r340 F340 G340 ⟨hK340, (⟨rfl, h340a, h340b, h340⟩ | ⟨rfl, h340a, h340⟩)⟩
              · dsimp only
                have g_341 : G340 4 = K := Eq.trans (hK340.2 4 rfl) g4
                have g_342 : G340 5 = V := Eq.trans (hK340.2 5 rfl) g5
                have h_343 : rS1 K V fu 300 4 (((F 42) + (1 : Int32)) + (1 : Int32)) ((F 43) + (1 : Int32)) = some (some (F340 42)) := h340
                have q_344 : F340 43 = ((F 43) + (1 : Int32)) := (show F340 43 = ((F 43) + (1 : Int32)) from h340b)
                unfold mb_statement_277
                refine PP.ite (fun c_345 => absurd c_345 (by decide)) (fun _ => ?_)
                unfold mb_statement_280
                refine PP.bind (mp_closeSign (23 : Int32) F340 G340) ?_
                rintro r346 F346 G346 (⟨rfl, rfl, rfl, h346⟩ | ⟨rfl, h346, h346b⟩)
                · dsimp only
                  have h_347 : sgn K V (F340 42) (23 : Int32) = true := by
                    rw [← g_341, ← g_342]
                    have q := h346.1
                    first | exact q | (simp only [q_344, i_as] at q; exact q) | (simp only [q_344, i_as] at q ⊢; exact q)
                  unfold mb_statement_286
                  refine PP.ite (fun c_348 => absurd c_348 (by decide)) (fun _ => ?_)
                  unfold mb_statement_291
                  refine PP.bind (mw_step (19 : Int32) (0 : Int32) (0 : Int32) (fup (fup F340 42 ((F340 42) + (1 : Int32))) 43 ((F340 43) - (1 : Int32))) G340) ?_
                  intro r349 F349 G349 hK349
                  dsimp only
                  have g_350 : G349 4 = K := Eq.trans (hK349.2 4 rfl) g_341
                  have g_351 : G349 5 = V := Eq.trans (hK349.2 5 rfl) g_342
                  have q_352 : F349 42 = ((F340 42) + (1 : Int32)) := hK349.1 42 rfl
                  have q_353 : F349 43 = (F 43) := Eq.trans (hK349.1 43 rfl) (show ((F340 43) - (1 : Int32)) = (F 43) by simp only [q_344, i_as])
                  have q_354 : F349 44 = 0 := Eq.trans (hK349.1 44 rfl) h340a
                  unfold mb_statement_298
                  refine PP.bind (mp_sign (29 : Int32) F349 G349) ?_
                  rintro r355 F355 G355 (⟨rfl, rfl, rfl, h355⟩ | ⟨rfl, h355, h355b⟩)
                  · dsimp only
                    have h_356 : sgn K V ((F340 42) + (1 : Int32)) (29 : Int32) = true := by
                      rw [← g_350, ← g_351]
                      have q := h355.1
                      first | exact q | (simp only [q_352, q_353, i_as] at q; exact q) | (simp only [q_352, q_353, i_as] at q ⊢; exact q)
                    unfold mb_statement_305
                    refine PP.ret ?_
                    refine Or.inl ⟨rfl, q_354, ?_, (rfl : (rstatement K V fu r (F 42) (F 43)) = _).trans ?_⟩
                    · show (F349 43) = F 43
                      first | rfl | (simp only [q_352, q_353, i_as])
                    · show _ = some (some ((F349 42) + (1 : Int32)))
                      first | rfl | (simp only [rstatement, rput, rclose, h_30, h_42, h_65, h_67, h_77, h_99, h_121, h_129, h_137, h_148, h_156, h_167, h_178, h_189, h_202, h_215, h_226, h_324, h_332, h_334, h_337, h_338, h_343, h_347, h_356, q_352, q_353, i_as, i10, eq_self, rb_yes, rb_no, ryes, rno, if_true, if_false, f_tt (p := True), reduceIte])
                  · dsimp only
                    have g_357 : G355 4 = K := Eq.trans (h355.2.2.2 4 rfl) g_350
                    have g_358 : G355 5 = V := Eq.trans (h355.2.2.2 5 rfl) g_351
                    have q_359 : F355 42 = ((F340 42) + (1 : Int32)) := Eq.trans (h355.2.2.1 42 rfl) (show (F349 42) = ((F340 42) + (1 : Int32)) by simp only [q_352, q_353, i_as])
                    have q_360 : F355 43 = (F 43) := Eq.trans (h355.2.2.1 43 rfl) (show (F349 43) = (F 43) by simp only [q_352, q_353, i_as])
                    rcases h355b with q | q
                    · exact absurd q (by rw [q_354]; decide)
                    · skip
                      have h_361 : sgn K V ((F340 42) + (1 : Int32)) (29 : Int32) = false := by
                        rw [← g_350, ← g_351]
                        have q := q
                        first | exact q | (simp only [q_352, q_353, i_as] at q; exact q) | (simp only [q_352, q_353, i_as] at q ⊢; exact q)
                      unfold mb_statement_305
                      refine PP.ret ?_
                      refine Or.inr ⟨rfl, h355.1, (rfl : (rstatement K V fu r (F 42) (F 43)) = _).trans ?_⟩
                      first | rfl | (simp only [rstatement, rput, rclose, h_30, h_42, h_65, h_67, h_77, h_99, h_121, h_129, h_137, h_148, h_156, h_167, h_178, h_189, h_202, h_215, h_226, h_324, h_332, h_334, h_337, h_338, h_343, h_347, h_361, q_359, q_360, i_as, i10, eq_self, rb_yes, rb_no, ryes, rno, if_true, if_false, f_tt (p := True), reduceIte])
                · dsimp only
                  have g_362 : G346 4 = K := Eq.trans (h346.2.2.2 4 rfl) g_341
                  have g_363 : G346 5 = V := Eq.trans (h346.2.2.2 5 rfl) g_342
                  have q_364 : F346 42 = (F340 42) := h346.2.2.1 42 rfl
                  have q_365 : F346 43 = ((F 43) + (1 : Int32)) := Eq.trans (h346.2.2.1 43 rfl) (show (F340 43) = ((F 43) + (1 : Int32)) by simp only [q_344, i_as])
                  rcases h346b with q | q
                  · exact absurd q (by rw [h340a]; decide)
                  · skip
                    have h_366 : sgn K V (F340 42) (23 : Int32) = false := by
                      rw [← g_341, ← g_342]
                      have q := q
                      first | exact q | (simp only [q_344, i_as] at q; exact q) | (simp only [q_344, i_as] at q ⊢; exact q)
                    unfold mb_statement_286
                    refine PP.ite (fun _ => ?_) (fun c_367 => absurd (by decide) c_367)
                    unfold mb_statement_289
                    refine PP.ret ?_
                    refine Or.inr ⟨rfl, h346.1, (rfl : (rstatement K V fu r (F 42) (F 43)) = _).trans ?_⟩
                    first | rfl | (simp only [rstatement, rput, rclose, h_30, h_42, h_65, h_67, h_77, h_99, h_121, h_129, h_137, h_148, h_156, h_167, h_178, h_189, h_202, h_215, h_226, h_324, h_332, h_334, h_337, h_338, h_343, h_366, q_364, q_365, i_as, i10, eq_self, rb_yes, rb_no, ryes, rno, if_true, if_false, f_tt (p := True), reduceIte])
              · dsimp only
                have g_368 : G340 4 = K := Eq.trans (hK340.2 4 rfl) g4
                have g_369 : G340 5 = V := Eq.trans (hK340.2 5 rfl) g5
                have h_370 : rS1 K V fu 300 4 (((F 42) + (1 : Int32)) + (1 : Int32)) ((F 43) + (1 : Int32)) = some (none) := h340
                unfold mb_statement_277
                refine PP.ite (fun _ => ?_) (fun c_371 => absurd (by decide) c_371)
                unfold mb_statement_289
                refine PP.ret ?_
                refine Or.inr ⟨rfl, h340a, (rfl : (rstatement K V fu r (F 42) (F 43)) = _).trans ?_⟩
                first | rfl | (simp only [rstatement, rput, rclose, h_30, h_42, h_65, h_67, h_77, h_99, h_121, h_129, h_137, h_148, h_156, h_167, h_178, h_189, h_202, h_215, h_226, h_324, h_332, h_334, h_337, h_338, h_370, i_as, i10, eq_self, rb_yes, rb_no, ryes, rno, if_true, if_false, f_tt (p := True), reduceIte])
            · dsimp only
              have g_372 : G336 4 = K := Eq.trans (h336.2.2.2 4 rfl) g4
              have g_373 : G336 5 = V := Eq.trans (h336.2.2.2 5 rfl) g5
              have q_374 : F336 42 = ((F 42) + (1 : Int32)) := h336.2.2.1 42 rfl
              have q_375 : F336 43 = (F 43) := h336.2.2.1 43 rfl
              rcases h336b with q | q | ⟨q, q1⟩
              · exact absurd q (by rw [h44]; decide)
              · skip
                have h_376 : sgn K V ((F 42) + (1 : Int32)) (22 : Int32) = false := by
                  rw [← g4, ← g5]
                  have q := q
                  first | exact q | (simp only [i_as] at q; exact q) | (simp only [i_as] at q ⊢; exact q)
                unfold mb_statement_270
                refine PP.ite (fun _ => ?_) (fun c_377 => absurd (by decide) c_377)
                unfold mb_statement_289
                refine PP.ret ?_
                refine Or.inr ⟨rfl, h336.1, (rfl : (rstatement K V fu r (F 42) (F 43)) = _).trans ?_⟩
                first | rfl | (simp only [rstatement, rput, rclose, h_30, h_42, h_65, h_67, h_77, h_99, h_121, h_129, h_137, h_148, h_156, h_167, h_178, h_189, h_202, h_215, h_226, h_324, h_332, h_334, h_376, q_374, q_375, i_as, i10, eq_self, rb_yes, rb_no, ryes, rno, if_true, if_false, f_tt (p := True), reduceIte])
              · skip
                have h_378 : sgn K V ((F 42) + (1 : Int32)) (22 : Int32) = true := by
                  rw [← g4, ← g5]
                  have q := q
                  first | exact q | (simp only [i_as] at q; exact q) | (simp only [i_as] at q ⊢; exact q)
                have h_379 : (F 43) = 40 := q1
                unfold mb_statement_270
                refine PP.ite (fun _ => ?_) (fun c_380 => absurd (by decide) c_380)
                unfold mb_statement_289
                refine PP.ret ?_
                refine Or.inr ⟨rfl, h336.1, (rfl : (rstatement K V fu r (F 42) (F 43)) = _).trans ?_⟩
                first | rfl | (simp only [rstatement, rput, rclose, h_30, h_42, h_65, h_67, h_77, h_99, h_121, h_129, h_137, h_148, h_156, h_167, h_178, h_189, h_202, h_215, h_226, h_324, h_332, h_334, h_378, h_379, q_374, q_375, i_as, i10, eq_self, rb_yes, rb_no, ryes, rno, if_true, if_false, f_tt (p := True), reduceIte])
          · dsimp only
            have h_381 : wdn K V (F 42) (12 : Int32) = false := by
              rw [← g4, ← g5]
              have q := h333
              first | exact q | (simp only [i_as] at q; exact q) | (simp only [i_as] at q ⊢; exact q)
            unfold mb_statement_243
            refine PP.ite (fun _ => ?_) (fun c_382 => absurd (by decide) c_382)
            unfold mb_statement_251
            unfold mb_statement_253
            unfold mb_statement_264
            refine PP.bind (mp_openSign (22 : Int32) (fup F 42 ((F 42) + (1 : Int32))) G) ?_
            rintro r383 F383 G383 (⟨rfl, rfl, rfl, h383⟩ | ⟨rfl, h383, h383b⟩)
            · dsimp only
              have h_384 : sgn K V ((F 42) + (1 : Int32)) (22 : Int32) = true := by
                rw [← g4, ← g5]
                have q := h383.1
                first | exact q | (simp only [i_as] at q; exact q) | (simp only [i_as] at q ⊢; exact q)
              have h_385 : ¬ (F 43) = 40 := h383.2.1
              unfold mb_statement_270
              refine PP.ite (fun c_386 => absurd c_386 (by decide)) (fun _ => ?_)
              unfold mb_statement_273
              refine PP.bind (PP.and (mw_expression (fup (fup (fup F 42 ((F 42) + (1 : Int32))) 43 ((F 43) + (1 : Int32))) 42 (((F 42) + (1 : Int32)) + (1 : Int32))) G) (mr_expression (fup (fup (fup F 42 ((F 42) + (1 : Int32))) 43 ((F 43) + (1 : Int32))) 42 (((F 42) + (1 : Int32)) + (1 : Int32))) G g4 g5 (show (fup (fup (fup F 42 ((F 42) + (1 : Int32))) 43 ((F 43) + (1 : Int32))) 42 (((F 42) + (1 : Int32)) + (1 : Int32))) 44 = 0 from h44))) ?_
              rintro r387 F387 G387 ⟨hK387, (⟨rfl, h387a, h387b, h387⟩ | ⟨rfl, h387a, h387⟩)⟩
              · dsimp only
                have g_388 : G387 4 = K := Eq.trans (hK387.2 4 rfl) g4
                have g_389 : G387 5 = V := Eq.trans (hK387.2 5 rfl) g5
                have h_390 : rS1 K V fu 300 4 (((F 42) + (1 : Int32)) + (1 : Int32)) ((F 43) + (1 : Int32)) = some (some (F387 42)) := h387
                have q_391 : F387 43 = ((F 43) + (1 : Int32)) := (show F387 43 = ((F 43) + (1 : Int32)) from h387b)
                unfold mb_statement_277
                refine PP.ite (fun c_392 => absurd c_392 (by decide)) (fun _ => ?_)
                unfold mb_statement_280
                refine PP.bind (mp_closeSign (23 : Int32) F387 G387) ?_
                rintro r393 F393 G393 (⟨rfl, rfl, rfl, h393⟩ | ⟨rfl, h393, h393b⟩)
                · dsimp only
                  have h_394 : sgn K V (F387 42) (23 : Int32) = true := by
                    rw [← g_388, ← g_389]
                    have q := h393.1
                    first | exact q | (simp only [q_391, i_as] at q; exact q) | (simp only [q_391, i_as] at q ⊢; exact q)
                  unfold mb_statement_286
                  refine PP.ite (fun c_395 => absurd c_395 (by decide)) (fun _ => ?_)
                  unfold mb_statement_291
                  refine PP.bind (mw_step (20 : Int32) (0 : Int32) (0 : Int32) (fup (fup F387 42 ((F387 42) + (1 : Int32))) 43 ((F387 43) - (1 : Int32))) G387) ?_
                  intro r396 F396 G396 hK396
                  dsimp only
                  have g_397 : G396 4 = K := Eq.trans (hK396.2 4 rfl) g_388
                  have g_398 : G396 5 = V := Eq.trans (hK396.2 5 rfl) g_389
                  have q_399 : F396 42 = ((F387 42) + (1 : Int32)) := hK396.1 42 rfl
                  have q_400 : F396 43 = (F 43) := Eq.trans (hK396.1 43 rfl) (show ((F387 43) - (1 : Int32)) = (F 43) by simp only [q_391, i_as])
                  have q_401 : F396 44 = 0 := Eq.trans (hK396.1 44 rfl) h387a
                  unfold mb_statement_298
                  refine PP.bind (mp_sign (29 : Int32) F396 G396) ?_
                  rintro r402 F402 G402 (⟨rfl, rfl, rfl, h402⟩ | ⟨rfl, h402, h402b⟩)
                  · dsimp only
                    have h_403 : sgn K V ((F387 42) + (1 : Int32)) (29 : Int32) = true := by
                      rw [← g_397, ← g_398]
                      have q := h402.1
                      first | exact q | (simp only [q_399, q_400, i_as] at q; exact q) | (simp only [q_399, q_400, i_as] at q ⊢; exact q)
                    unfold mb_statement_305
                    refine PP.ret ?_
                    refine Or.inl ⟨rfl, q_401, ?_, (rfl : (rstatement K V fu r (F 42) (F 43)) = _).trans ?_⟩
                    · show (F396 43) = F 43
                      first | rfl | (simp only [q_399, q_400, i_as])
                    · show _ = some (some ((F396 42) + (1 : Int32)))
                      first | rfl | (simp only [rstatement, rput, rclose, h_30, h_42, h_65, h_67, h_77, h_99, h_121, h_129, h_137, h_148, h_156, h_167, h_178, h_189, h_202, h_215, h_226, h_324, h_332, h_381, h_384, h_385, h_390, h_394, h_403, q_399, q_400, i_as, i10, eq_self, rb_yes, rb_no, ryes, rno, if_true, if_false, f_tt (p := True), reduceIte])
                  · dsimp only
                    have g_404 : G402 4 = K := Eq.trans (h402.2.2.2 4 rfl) g_397
                    have g_405 : G402 5 = V := Eq.trans (h402.2.2.2 5 rfl) g_398
                    have q_406 : F402 42 = ((F387 42) + (1 : Int32)) := Eq.trans (h402.2.2.1 42 rfl) (show (F396 42) = ((F387 42) + (1 : Int32)) by simp only [q_399, q_400, i_as])
                    have q_407 : F402 43 = (F 43) := Eq.trans (h402.2.2.1 43 rfl) (show (F396 43) = (F 43) by simp only [q_399, q_400, i_as])
                    rcases h402b with q | q
                    · exact absurd q (by rw [q_401]; decide)
                    · skip
                      have h_408 : sgn K V ((F387 42) + (1 : Int32)) (29 : Int32) = false := by
                        rw [← g_397, ← g_398]
                        have q := q
                        first | exact q | (simp only [q_399, q_400, i_as] at q; exact q) | (simp only [q_399, q_400, i_as] at q ⊢; exact q)
                      unfold mb_statement_305
                      refine PP.ret ?_
                      refine Or.inr ⟨rfl, h402.1, (rfl : (rstatement K V fu r (F 42) (F 43)) = _).trans ?_⟩
                      first | rfl | (simp only [rstatement, rput, rclose, h_30, h_42, h_65, h_67, h_77, h_99, h_121, h_129, h_137, h_148, h_156, h_167, h_178, h_189, h_202, h_215, h_226, h_324, h_332, h_381, h_384, h_385, h_390, h_394, h_408, q_406, q_407, i_as, i10, eq_self, rb_yes, rb_no, ryes, rno, if_true, if_false, f_tt (p := True), reduceIte])
                · dsimp only
                  have g_409 : G393 4 = K := Eq.trans (h393.2.2.2 4 rfl) g_388
                  have g_410 : G393 5 = V := Eq.trans (h393.2.2.2 5 rfl) g_389
                  have q_411 : F393 42 = (F387 42) := h393.2.2.1 42 rfl
                  have q_412 : F393 43 = ((F 43) + (1 : Int32)) := Eq.trans (h393.2.2.1 43 rfl) (show (F387 43) = ((F 43) + (1 : Int32)) by simp only [q_391, i_as])
                  rcases h393b with q | q
                  · exact absurd q (by rw [h387a]; decide)
                  · skip
                    have h_413 : sgn K V (F387 42) (23 : Int32) = false := by
                      rw [← g_388, ← g_389]
                      have q := q
                      first | exact q | (simp only [q_391, i_as] at q; exact q) | (simp only [q_391, i_as] at q ⊢; exact q)
                    unfold mb_statement_286
                    refine PP.ite (fun _ => ?_) (fun c_414 => absurd (by decide) c_414)
                    unfold mb_statement_289
                    refine PP.ret ?_
                    refine Or.inr ⟨rfl, h393.1, (rfl : (rstatement K V fu r (F 42) (F 43)) = _).trans ?_⟩
                    first | rfl | (simp only [rstatement, rput, rclose, h_30, h_42, h_65, h_67, h_77, h_99, h_121, h_129, h_137, h_148, h_156, h_167, h_178, h_189, h_202, h_215, h_226, h_324, h_332, h_381, h_384, h_385, h_390, h_413, q_411, q_412, i_as, i10, eq_self, rb_yes, rb_no, ryes, rno, if_true, if_false, f_tt (p := True), reduceIte])
              · dsimp only
                have g_415 : G387 4 = K := Eq.trans (hK387.2 4 rfl) g4
                have g_416 : G387 5 = V := Eq.trans (hK387.2 5 rfl) g5
                have h_417 : rS1 K V fu 300 4 (((F 42) + (1 : Int32)) + (1 : Int32)) ((F 43) + (1 : Int32)) = some (none) := h387
                unfold mb_statement_277
                refine PP.ite (fun _ => ?_) (fun c_418 => absurd (by decide) c_418)
                unfold mb_statement_289
                refine PP.ret ?_
                refine Or.inr ⟨rfl, h387a, (rfl : (rstatement K V fu r (F 42) (F 43)) = _).trans ?_⟩
                first | rfl | (simp only [rstatement, rput, rclose, h_30, h_42, h_65, h_67, h_77, h_99, h_121, h_129, h_137, h_148, h_156, h_167, h_178, h_189, h_202, h_215, h_226, h_324, h_332, h_381, h_384, h_385, h_417, i_as, i10, eq_self, rb_yes, rb_no, ryes, rno, if_true, if_false, f_tt (p := True), reduceIte])
            · dsimp only
              have g_419 : G383 4 = K := Eq.trans (h383.2.2.2 4 rfl) g4
              have g_420 : G383 5 = V := Eq.trans (h383.2.2.2 5 rfl) g5
              have q_421 : F383 42 = ((F 42) + (1 : Int32)) := h383.2.2.1 42 rfl
              have q_422 : F383 43 = (F 43) := h383.2.2.1 43 rfl
              rcases h383b with q | q | ⟨q, q1⟩
              · exact absurd q (by rw [h44]; decide)
              · skip
                have h_423 : sgn K V ((F 42) + (1 : Int32)) (22 : Int32) = false := by
                  rw [← g4, ← g5]
                  have q := q
                  first | exact q | (simp only [i_as] at q; exact q) | (simp only [i_as] at q ⊢; exact q)
                unfold mb_statement_270
                refine PP.ite (fun _ => ?_) (fun c_424 => absurd (by decide) c_424)
                unfold mb_statement_289
                refine PP.ret ?_
                refine Or.inr ⟨rfl, h383.1, (rfl : (rstatement K V fu r (F 42) (F 43)) = _).trans ?_⟩
                first | rfl | (simp only [rstatement, rput, rclose, h_30, h_42, h_65, h_67, h_77, h_99, h_121, h_129, h_137, h_148, h_156, h_167, h_178, h_189, h_202, h_215, h_226, h_324, h_332, h_381, h_423, q_421, q_422, i_as, i10, eq_self, rb_yes, rb_no, ryes, rno, if_true, if_false, f_tt (p := True), reduceIte])
              · skip
                have h_425 : sgn K V ((F 42) + (1 : Int32)) (22 : Int32) = true := by
                  rw [← g4, ← g5]
                  have q := q
                  first | exact q | (simp only [i_as] at q; exact q) | (simp only [i_as] at q ⊢; exact q)
                have h_426 : (F 43) = 40 := q1
                unfold mb_statement_270
                refine PP.ite (fun _ => ?_) (fun c_427 => absurd (by decide) c_427)
                unfold mb_statement_289
                refine PP.ret ?_
                refine Or.inr ⟨rfl, h383.1, (rfl : (rstatement K V fu r (F 42) (F 43)) = _).trans ?_⟩
                first | rfl | (simp only [rstatement, rput, rclose, h_30, h_42, h_65, h_67, h_77, h_99, h_121, h_129, h_137, h_148, h_156, h_167, h_178, h_189, h_202, h_215, h_226, h_324, h_332, h_381, h_425, h_426, q_421, q_422, i_as, i10, eq_self, rb_yes, rb_no, ryes, rno, if_true, if_false, f_tt (p := True), reduceIte])
        · skip
          have h_428 : ¬ K (F 42).toNatClampNeg = (2 : Int32) := by
            rw [← g4, ← g5]
            have q := c_66
            first | exact q | (simp only [i_as] at q; exact q) | (simp only [i_as] at q ⊢; exact q)
          unfold mb_statement_94
          refine PP.bind (mp_fails (2 : Int32) (by decide) F G) ?_
          rintro r429 F429 G429 ⟨rfl, h429⟩
          dsimp only
          have g_430 : G429 4 = K := Eq.trans (h429.2.2.2 4 rfl) g4
          have g_431 : G429 5 = V := Eq.trans (h429.2.2.2 5 rfl) g5
          have q_432 : F429 42 = (F 42) := h429.2.2.1 42 rfl
          have q_433 : F429 43 = (F 43) := h429.2.2.1 43 rfl
          unfold mb_statement_99
          refine PP.ret ?_
          refine Or.inr ⟨rfl, h429.1, (rfl : (rstatement K V fu r (F 42) (F 43)) = _).trans ?_⟩
          first | rfl | (simp only [rstatement, rput, rclose, h_30, h_42, h_65, h_428, q_432, q_433, i_as, i10, eq_self, rb_yes, rb_no, ryes, rno, if_true, if_false, f_tt (p := True), reduceIte])
