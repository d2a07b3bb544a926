theorem mrt_turnLoop {fu : Nat} {K V : Nat → Int32} (rc : RC) (r : RR) (ihK : mKI2 rc) (ih : mRI2 K V rc r) (F : PF) (G : PG) (g4 : G 4 = K) (g5 : G 5 = V) (h44 : F 44 = 0) : PP (mh_turnLoop fu rc F G) (fun r' F' _ => ROK (rturn K V fu r (F 42) (F 43)) F r' F') := by
  unfold mh_turnLoop
  unfold mb_turnLoop_0
  refine PP.bind (mp_opens F G) ?_
  rintro r1 F1 G1 (⟨rfl, rfl, rfl, u1⟩ | ⟨rfl, u1, u1b⟩)
  · dsimp only
    have h_2 : ¬ (F 43) = 40 := by
      have q : ¬ (F 43) = 40 := u1
      first | exact q | (simp only [i_as] at q; exact q)
    unfold mb_turnLoop_9
    refine PP.ite (fun c_3 => absurd c_3 (by decide)) (fun _ => ?_)
    unfold mb_turnLoop_12
    refine PP.bind (PP.and (ihK 1 (-1 : Int32) 0 (fup (fup F 43 ((F 43) + (1 : Int32))) 42 ((F 42) + (1 : Int32))) G) (ih 1 (-1 : Int32) 0 (fup (fup F 43 ((F 43) + (1 : Int32))) 42 ((F 42) + (1 : Int32))) G g4 g5 (show (fup (fup F 43 ((F 43) + (1 : Int32))) 42 ((F 42) + (1 : Int32))) 44 = 0 from h44))) ?_
    rintro r4 F4 G4 ⟨hK4, (⟨rfl, u4a, u4b, u4⟩ | ⟨rfl, u4a, u4⟩)⟩
    · dsimp only
      have g_5 : G4 4 = K := Eq.trans (hK4.2 4 rfl) g4
      have g_6 : G4 5 = V := Eq.trans (hK4.2 5 rfl) g5
      have h_7 : r 1 ((F 42) + (1 : Int32)) ((F 43) + (1 : Int32)) = some (some (F4 42)) := u4
      have q_8 : F4 43 = ((F 43) + (1 : Int32)) := (show F4 43 = ((F 43) + (1 : Int32)) from u4b)
      unfold mb_turnLoop_17
      refine PP.ite (fun c_9 => absurd c_9 (by decide)) (fun _ => ?_)
      unfold mb_turnLoop_22
      refine PP.bind (mw_settle (F4 66) (F4 60) F4 G4) ?_
      intro r10 F10 G10 hK10
      dsimp only
      have g_11 : G10 4 = K := Eq.trans (hK10.2 4 rfl) g_5
      have g_12 : G10 5 = V := Eq.trans (hK10.2 5 rfl) g_6
      have q_13 : F10 42 = (F4 42) := hK10.1 42 rfl
      have q_14 : F10 43 = ((F 43) + (1 : Int32)) := Eq.trans (hK10.1 43 rfl) (show (F4 43) = ((F 43) + (1 : Int32)) by simp only [q_8, i_as])
      have q_15 : F10 44 = 0 := Eq.trans (hK10.1 44 rfl) u4a
      unfold mb_turnLoop_41
      refine PP.bind (mp_word (6 : Int32) (1 : Int32) F10 G10 q_15) ?_
      rintro r16 F16 G16 (⟨rfl, rfl, rfl, u16⟩ | ⟨rfl, u16, (⟨u16b, -, -⟩ | ⟨-, u16c⟩)⟩)
      · dsimp only
        have h_17 : wdn K V (F4 42) (6 : Int32) = true := by
          rw [← g_11, ← g_12]
          have q := u16
          first | exact q | (simp only [q_13, q_14, i_as] at q; exact q)
        unfold mb_turnLoop_48
        refine PP.ite (fun c_18 => absurd c_18 (by decide)) (fun _ => ?_)
        unfold mb_turnLoop_51
        refine PP.bind (PP.and (mw_condition (fup F10 42 ((F10 42) + (1 : Int32))) G10) (mr_condition (fup F10 42 ((F10 42) + (1 : Int32))) G10 g_11 g_12 (show (fup F10 42 ((F10 42) + (1 : Int32))) 44 = 0 from q_15))) ?_
        rintro r19 F19 G19 ⟨hK19, (⟨rfl, u19a, u19b, u19⟩ | ⟨rfl, u19a, u19⟩)⟩
        · dsimp only
          have g_20 : G19 4 = K := Eq.trans (hK19.2 4 rfl) g_11
          have g_21 : G19 5 = V := Eq.trans (hK19.2 5 rfl) g_12
          have h_22 : rcond K V fu ((F4 42) + (1 : Int32)) ((F 43) + (1 : Int32)) = some (some (F19 42)) := by
            have q : rcond K V fu ((F10 42) + (1 : Int32)) (F10 43) = some (some (F19 42)) := u19
            simp only [q_13, q_14, i_as] at q; exact q
          have q_23 : F19 43 = ((F 43) + (1 : Int32)) := by
            have q := (show F19 43 = (F10 43) from u19b)
            simp only [q_13, q_14, i_as] at q; exact q
          unfold mb_turnLoop_55
          refine PP.ite (fun c_24 => absurd c_24 (by decide)) (fun _ => ?_)
          unfold mb_turnLoop_60
          refine PP.bind (mw_step (14 : Int32) (F 60) (0 : Int32) F19 G19) ?_
          intro r25 F25 G25 hK25
          dsimp only
          have g_26 : G25 4 = K := Eq.trans (hK25.2 4 rfl) g_20
          have g_27 : G25 5 = V := Eq.trans (hK25.2 5 rfl) g_21
          have q_28 : F25 42 = (F19 42) := hK25.1 42 rfl
          have q_29 : F25 43 = ((F 43) + (1 : Int32)) := Eq.trans (hK25.1 43 rfl) (show (F19 43) = ((F 43) + (1 : Int32)) by simp only [q_23, i_as])
          have q_30 : F25 44 = 0 := Eq.trans (hK25.1 44 rfl) u19a
          unfold mb_turnLoop_68
          refine PP.bind (mw_settle (F4 65) (F25 60) F25 G25) ?_
          intro r31 F31 G31 hK31
          dsimp only
          have g_32 : G31 4 = K := Eq.trans (hK31.2 4 rfl) g_26
          have g_33 : G31 5 = V := Eq.trans (hK31.2 5 rfl) g_27
          have q_34 : F31 42 = (F19 42) := Eq.trans (hK31.1 42 rfl) (show (F25 42) = (F19 42) by simp only [q_28, q_29, i_as])
          have q_35 : F31 43 = ((F 43) + (1 : Int32)) := Eq.trans (hK31.1 43 rfl) (show (F25 43) = ((F 43) + (1 : Int32)) by simp only [q_28, q_29, i_as])
          have q_36 : F31 44 = 0 := Eq.trans (hK31.1 44 rfl) q_30
          unfold mb_turnLoop_78
          unfold mb_turnLoop_88
          refine PP.bind (mp_sign (29 : Int32) (fup F31 43 ((F31 43) - (1 : Int32))) G31) ?_
          rintro r37 F37 G37 (⟨rfl, rfl, rfl, u37⟩ | ⟨rfl, u37, u37b⟩)
          · dsimp only
            have h_38 : sgn K V (F19 42) (29 : Int32) = true := by
              rw [← g_32, ← g_33]
              have q := u37.1
              first | exact q | (simp only [q_34, q_35, i_as] at q; exact q) | (simp only [q_34, q_35, i_as, fup, Nat.reduceEqDiff, reduceIte, if_false] at q; exact q)
            unfold mb_turnLoop_94
            refine PP.ret ?_
            refine Or.inl ⟨rfl, q_36, ?_, (rfl : (rturn K V fu r (F 42) (F 43)) = _).trans ?_⟩
            · show ((F31 43) - (1 : Int32)) = F 43
              first | with_reducible rfl | (simp only [q_8, q_13, q_14, q_23, q_28, q_29, q_34, q_35, i_as, fup, Nat.reduceEqDiff, reduceIte, if_false]) | rfl
            · show _ = some (some ((F31 42) + (1 : Int32)))
              first | with_reducible rfl | (simp only [rturn, rclose, h_2, h_7, h_17, h_22, h_38, q_8, q_13, q_14, q_23, q_28, q_29, q_34, q_35, i_as, fup, i_a0, i0m, i10, eq_self, rb_yes, rb_no, ryes, rno, if_true, if_false, f_tt (p := True), reduceIte, Nat.reduceEqDiff]) | rfl
          · dsimp only
            have g_39 : G37 4 = K := Eq.trans (u37.2.2.2 4 rfl) g_32
            have g_40 : G37 5 = V := Eq.trans (u37.2.2.2 5 rfl) g_33
            have q_41 : F37 42 = (F19 42) := Eq.trans (u37.2.2.1 42 rfl) (show (F31 42) = (F19 42) by simp only [q_34, q_35, i_as])
            have q_42 : F37 43 = (F 43) := Eq.trans (u37.2.2.1 43 rfl) (show ((F31 43) - (1 : Int32)) = (F 43) by simp only [q_34, q_35, i_as])
            rcases u37b with q | q
            · exact absurd q (show ¬ 0 < (F31 44).toInt by rw [q_36]; decide)
            · skip
              have h_43 : sgn K V (F19 42) (29 : Int32) = false := by
                rw [← g_32, ← g_33]
                have q := q
                first | exact q | (simp only [q_34, q_35, i_as] at q; exact q) | (simp only [q_34, q_35, i_as, fup, Nat.reduceEqDiff, reduceIte, if_false] at q; exact q)
              unfold mb_turnLoop_94
              refine PP.ret ?_
              refine Or.inr ⟨rfl, u37.1, (rfl : (rturn K V fu r (F 42) (F 43)) = _).trans ?_⟩
              first | with_reducible rfl | (simp only [rturn, rclose, h_2, h_7, h_17, h_22, h_43, q_8, q_13, q_14, q_23, q_28, q_29, q_34, q_35, q_41, q_42, i_as, fup, i_a0, i0m, i10, eq_self, rb_yes, rb_no, ryes, rno, if_true, if_false, f_tt (p := True), reduceIte, Nat.reduceEqDiff]) | rfl
        · dsimp only
          have g_44 : G19 4 = K := Eq.trans (hK19.2 4 rfl) g_11
          have g_45 : G19 5 = V := Eq.trans (hK19.2 5 rfl) g_12
          have h_46 : rcond K V fu ((F4 42) + (1 : Int32)) ((F 43) + (1 : Int32)) = some (none) := by
            have q : rcond K V fu ((F10 42) + (1 : Int32)) (F10 43) = some (none) := u19
            simp only [q_13, q_14, i_as] at q; exact q
          unfold mb_turnLoop_55
          refine PP.ite (fun _ => ?_) (fun c_47 => absurd (by decide) c_47)
          unfold mb_turnLoop_58
          refine PP.ret ?_
          refine Or.inr ⟨rfl, u19a, (rfl : (rturn K V fu r (F 42) (F 43)) = _).trans ?_⟩
          first | with_reducible rfl | (simp only [rturn, rclose, h_2, h_7, h_17, h_46, q_8, q_13, q_14, i_as, fup, i_a0, i0m, i10, eq_self, rb_yes, rb_no, ryes, rno, if_true, if_false, f_tt (p := True), reduceIte, Nat.reduceEqDiff]) | rfl
      · exact absurd u16b (by decide)
      · dsimp only
        have g_48 : G16 4 = K := Eq.trans (u16c.2.2.2 4 rfl) g_11
        have g_49 : G16 5 = V := Eq.trans (u16c.2.2.2 5 rfl) g_12
        have q_50 : F16 42 = (F4 42) := Eq.trans (u16c.2.2.1 42 rfl) (show (F10 42) = (F4 42) by simp only [q_13, q_14, i_as])
        have q_51 : F16 43 = ((F 43) + (1 : Int32)) := Eq.trans (u16c.2.2.1 43 rfl) (show (F10 43) = ((F 43) + (1 : Int32)) by simp only [q_13, q_14, i_as])
        have h_52 : wdn K V (F4 42) (6 : Int32) = false := by
          rw [← g_11, ← g_12]
          have q := u16
          first | exact q | (simp only [q_13, q_14, i_as] at q; exact q)
        unfold mb_turnLoop_48
        refine PP.ite (fun _ => ?_) (fun c_53 => absurd (by decide) c_53)
        unfold mb_turnLoop_58
        refine PP.ret ?_
        refine Or.inr ⟨rfl, u16c.1, (rfl : (rturn K V fu r (F 42) (F 43)) = _).trans ?_⟩
        first | with_reducible rfl | (simp only [rturn, rclose, h_2, h_7, h_52, q_8, q_13, q_14, q_50, q_51, i_as, fup, i_a0, i0m, i10, eq_self, rb_yes, rb_no, ryes, rno, if_true, if_false, f_tt (p := True), reduceIte, Nat.reduceEqDiff]) | rfl
    · dsimp only
      have g_54 : G4 4 = K := Eq.trans (hK4.2 4 rfl) g4
      have g_55 : G4 5 = V := Eq.trans (hK4.2 5 rfl) g5
      have h_56 : r 1 ((F 42) + (1 : Int32)) ((F 43) + (1 : Int32)) = some (none) := u4
      unfold mb_turnLoop_17
      refine PP.ite (fun _ => ?_) (fun c_57 => absurd (by decide) c_57)
      unfold mb_turnLoop_20
      refine PP.ret ?_
      refine Or.inr ⟨rfl, u4a, (rfl : (rturn K V fu r (F 42) (F 43)) = _).trans ?_⟩
      first | with_reducible rfl | (simp only [rturn, rclose, h_2, h_56, i_as, fup, i_a0, i0m, i10, eq_self, rb_yes, rb_no, ryes, rno, if_true, if_false, f_tt (p := True), reduceIte, Nat.reduceEqDiff]) | rfl
  · dsimp only
    have g_58 : G1 4 = K := Eq.trans (u1.2.2.2 4 rfl) g4
    have g_59 : G1 5 = V := Eq.trans (u1.2.2.2 5 rfl) g5
    have q_60 : F1 42 = (F 42) := u1.2.2.1 42 rfl
    have q_61 : F1 43 = (F 43) := u1.2.2.1 43 rfl
    have h_62 : ((F 43) = 40) = True := by
      have q : (F 43) = 40 := u1b
      first | exact eq_true q | (simp only [i_as] at q; exact eq_true q)
    unfold mb_turnLoop_9
    refine PP.ite (fun _ => ?_) (fun c_63 => absurd (by decide) c_63)
    unfold mb_turnLoop_20
    refine PP.ret ?_
    refine Or.inr ⟨rfl, u1.1, (rfl : (rturn K V fu r (F 42) (F 43)) = _).trans ?_⟩
    first | with_reducible rfl | (simp only [rturn, rclose, h_62, q_60, q_61, i_as, fup, i_a0, i0m, i10, eq_self, rb_yes, rb_no, ryes, rno, if_true, if_false, f_tt (p := True), reduceIte, Nat.reduceEqDiff]) | rfl
theorem mrS2 {fu : Nat} {K V : Nat → Int32} : ∀ d : Nat, mRI2 K V (mS2 fu d) (rS2 K V fu d) := by
  intro d
  induction d with
  | zero => exact fun _ _ _ _ _ _ _ _ => PP.no
  | succ d ih =>
    intro i x y F G g4 g5 h44
    exact PP.ite (fun e => by subst e; exact mrt_block (mS2 fu d) (rS2 K V fu d) (mwS2 d) ih F G g4 g5 h44) (fun _ => PP.ite (fun e => by subst e; exact mrt_body (mS2 fu d) (rS2 K V fu d) (mwS2 d) ih x F G g4 g5 h44) (fun _ => PP.ite (fun e => by subst e; exact mrt_choice (mS2 fu d) (rS2 K V fu d) (mwS2 d) ih F G g4 g5 h44) (fun _ => PP.ite (fun e => by subst e; exact mrt_counted (mS2 fu d) (rS2 K V fu d) (mwS2 d) ih F G g4 g5 h44) (fun _ => PP.ite (fun e => by subst e; exact mrt_loop (mS2 fu d) (rS2 K V fu d) (mwS2 d) ih F G g4 g5 h44) (fun _ => PP.ite (fun e => by subst e; exact mrt_scoped (mS2 fu d) (rS2 K V fu d) (mwS2 d) ih F G g4 g5 h44) (fun _ => PP.ite (fun e => by subst e; exact mrt_statement (mS2 fu d) (rS2 K V fu d) (mwS2 d) ih F G g4 g5 h44) (fun _ => PP.ite (fun e => by subst e; exact mrt_turnLoop (mS2 fu d) (rS2 K V fu d) (mwS2 d) ih F G g4 g5 h44) (fun _ => PP.no))))))))
theorem mr_block {fu : Nat} {K V : Nat → Int32} (F : PF) (G : PG) (g4 : G 4 = K) (g5 : G 5 = V) (h44 : F 44 = 0) : PP (mf_block fu F G) (fun r' F' _ => ROK (rS2 K V fu 300 0 (F 42) (F 43)) F r' F') := mrS2 300 0 0 0 F G g4 g5 h44
theorem mr_body {fu : Nat} {K V : Nat → Int32} (x : Int32) (F : PF) (G : PG) (g4 : G 4 = K) (g5 : G 5 = V) (h44 : F 44 = 0) : PP (mf_body fu x F G) (fun r' F' _ => ROK (rS2 K V fu 300 1 (F 42) (F 43)) F r' F') := mrS2 300 1 x 0 F G g4 g5 h44
theorem mr_choice {fu : Nat} {K V : Nat → Int32} (F : PF) (G : PG) (g4 : G 4 = K) (g5 : G 5 = V) (h44 : F 44 = 0) : PP (mf_choice fu F G) (fun r' F' _ => ROK (rS2 K V fu 300 2 (F 42) (F 43)) F r' F') := mrS2 300 2 0 0 F G g4 g5 h44
theorem mr_counted {fu : Nat} {K V : Nat → Int32} (F : PF) (G : PG) (g4 : G 4 = K) (g5 : G 5 = V) (h44 : F 44 = 0) : PP (mf_counted fu F G) (fun r' F' _ => ROK (rS2 K V fu 300 3 (F 42) (F 43)) F r' F') := mrS2 300 3 0 0 F G g4 g5 h44
theorem mr_loop {fu : Nat} {K V : Nat → Int32} (F : PF) (G : PG) (g4 : G 4 = K) (g5 : G 5 = V) (h44 : F 44 = 0) : PP (mf_loop fu F G) (fun r' F' _ => ROK (rS2 K V fu 300 4 (F 42) (F 43)) F r' F') := mrS2 300 4 0 0 F G g4 g5 h44
theorem mr_scoped {fu : Nat} {K V : Nat → Int32} (F : PF) (G : PG) (g4 : G 4 = K) (g5 : G 5 = V) (h44 : F 44 = 0) : PP (mf_scoped fu F G) (fun r' F' _ => ROK (rS2 K V fu 300 5 (F 42) (F 43)) F r' F') := mrS2 300 5 0 0 F G g4 g5 h44
theorem mr_statement {fu : Nat} {K V : Nat → Int32} (F : PF) (G : PG) (g4 : G 4 = K) (g5 : G 5 = V) (h44 : F 44 = 0) : PP (mf_statement fu F G) (fun r' F' _ => ROK (rS2 K V fu 300 6 (F 42) (F 43)) F r' F') := mrS2 300 6 0 0 F G g4 g5 h44
theorem mr_turnLoop {fu : Nat} {K V : Nat → Int32} (F : PF) (G : PG) (g4 : G 4 = K) (g5 : G 5 = V) (h44 : F 44 = 0) : PP (mf_turnLoop fu F G) (fun r' F' _ => ROK (rS2 K V fu 300 7 (F 42) (F 43)) F r' F') := mrS2 300 7 0 0 F G g4 g5 h44
