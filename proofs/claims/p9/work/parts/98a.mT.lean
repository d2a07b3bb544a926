theorem mtt_expression {fu : Nat} {X : TX} {L : List Nat} (rc : RC) (ihK : mKI1 rc) (ihM : mMOI rc) (ihT : mTI X L rc) (F : PF) (G : PG) (hT : TP X L F G) : PP (mh_expression fu rc F G) (fun r' F' G' => TQ X 4 0 0 F G r' F' G') := by
  unfold mh_expression
  have t14 := hT.2.2.2.1
  have t24 := hT.2.2.2.2.1
  have t43 : 0 ≤ (F 43).toInt ∧ (F 43).toInt ≤ 40 := ⟨hT.2.2.2.2.2.1, hT.2.2.2.2.2.2.1⟩
  have t70 := hT.2.2.2.2.2.2.2.1
  unfold mb_expression_0
  refine PP.bind (PP.and (ihK 2 0 0 F G) (PP.and (ihM 2 0 0 F G) (ihT 2 0 0 F G (TP.kx hT (KX.rf : KX [42, 43, 44, 45, 47, 48, 49, 55, 60, 62, 70] [56, 57, 58, 59, 67, 68, 69] F G F G) (fun q => ((MO.rf : MO F F)).1 q) rfl (show 0 ≤ (F 43).toInt ∧ (F 43).toInt ≤ 40 by first | exact t43 | (simp only [i_as]; exact t43)) (show 0 ≤ (F 70).toInt by first | exact t70 | (simp only [i_as]; exact t70)) (show 0 ≤ (F 60).toInt from hT.2.2.2.2.2.2.2.2))))) ?_
  rintro r1 F1 G1 ⟨hK1, hM1, (rfl | rfl), u1⟩
  · dsimp only
    unfold mb_expression_4
    refine PP.ite (fun _ => ?_) (fun c_2 => absurd (by decide) c_2)
    unfold mb_expression_7
    refine PP.ret ?_
    exact ⟨Or.inl rfl, fun h => absurd h (by decide)⟩
  · dsimp only
    obtain ⟨u1a, u1b, u1c, u1d, u1e⟩ := u1 rfl
    have k_3 : KX [42, 43, 44, 45, 47, 48, 49, 55, 60, 62, 70] [56, 57, 58, 59, 67, 68, 69] F G F1 G1 := (KX.tr (KX.rf : KX [42, 43, 44, 45, 47, 48, 49, 55, 60, 62, 70] [56, 57, 58, 59, 67, 68, 69] F G F G) hK1 rfl rfl)
    have k_4 : MO F F1 := (MO.tr (MO.rf : MO F F) hM1)
    have q_5 : F1 43 = (F 43) := u1a
    have q_6 : F1 70 = (F 70) := u1b
    have q_7 : F 70 = F 70 := (show (F 70) = F 70 by first | rfl | (simp only [i_as]))
    have k_8 : PKp F G G1 := PKp.tr (show PKp F G G from (fun _ _ => ⟨rfl, rfl⟩ : PKp F G G)) u1d q_7
    unfold mb_expression_4
    refine PP.ite (fun c_9 => absurd c_9 (by decide)) (fun _ => ?_)
    unfold mb_expression_9
    refine PP.bind (mp_isSign (30 : Int32) F1 G1) ?_
    rintro _ _ _ ⟨rfl, rfl, (⟨rfl, u10⟩ | ⟨rfl, u10⟩)⟩
    · dsimp only
      unfold mb_expression_15
      refine PP.ite (fun c_11 => absurd c_11 (by decide)) (fun _ => ?_)
      unfold mb_expression_20
      refine PP.bind (mp_opens F1 G1) ?_
      rintro r12 F12 G12 (⟨rfl, rfl, rfl, u12⟩ | ⟨rfl, u12, u12b⟩)
      · dsimp only
        have o_13 : ¬ F 43 = 40 := by
          have q : ¬ (F1 43) = 40 := u12
          first | exact q | (simp only [q_5, q_6, i_as] at q; exact q)
        unfold mb_expression_24
        refine PP.ite (fun c_14 => absurd c_14 (by decide)) (fun _ => ?_)
        unfold mb_expression_29
        refine PP.bind (mq_step (13 : Int32) (0 : Int32) (0 : Int32) (fup (fup F1 43 ((F1 43) + (1 : Int32))) 42 ((F1 42) + (1 : Int32))) G1) ?_
        rintro _ F15 G15 ⟨hK15, rfl, e15, g15, n15⟩
        dsimp only
        have k_16 : KX [42, 43, 44, 45, 47, 48, 49, 55, 60, 62, 70] [56, 57, 58, 59, 67, 68, 69] F G F15 G15 := (KX.tr (KX.f (k := 42) rfl (KX.f (k := 43) rfl k_3)) hK15 rfl rfl)
        have k_17 : MO F F15 := (MO.tr (MO.f (k := 42) (by decide) (by decide) (MO.f (k := 43) (by decide) (by decide) k_4)) (MO.kx hK15 rfl rfl))
        have q_18 : F15 42 = ((F1 42) + (1 : Int32)) := hK15.1 42 rfl
        have q_19 : F15 43 = ((F 43) + (1 : Int32)) := Eq.trans (hK15.1 43 rfl) (show ((F1 43) + (1 : Int32)) = ((F 43) + (1 : Int32)) by simp only [q_5, q_6, i_as])
        have q_20 : F15 70 = (F 70) := Eq.trans (hK15.1 70 rfl) (show (F1 70) = (F 70) by simp only [q_5, q_6, i_as])
        have k_21 : PKp F G G15 := PKp.kx (show PKp F G G1 from k_8) hK15 rfl rfl
        unfold mb_expression_37
        refine PP.bind (PP.and (ihK 4 0 0 F15 G15) (PP.and (ihM 4 0 0 F15 G15) (ihT 4 0 0 F15 G15 (TP.kx hT k_16 (fun q => (k_17).1 q) rfl (show 0 ≤ (F15 43).toInt ∧ (F15 43).toInt ≤ 40 by first | exact (o_inc t43 o_13).2 | (simp only [q_18, q_19, q_20, q_5, q_6, i_as]; exact (o_inc t43 o_13).2)) (show 0 ≤ (F15 70).toInt by first | exact t70 | (simp only [q_18, q_19, q_20, q_5, q_6, i_as]; exact t70)) (show 0 ≤ (F15 60).toInt from (inc60 n15 e15)))))) ?_
        rintro r22 F22 G22 ⟨hK22, hM22, (rfl | rfl), u22⟩
        · dsimp only
          unfold mb_expression_42
          refine PP.ite (fun _ => ?_) (fun c_23 => absurd (by decide) c_23)
          unfold mb_expression_54
          refine PP.ret ?_
          exact ⟨Or.inl rfl, fun h => absurd h (by decide)⟩
        · dsimp only
          obtain ⟨u22a, u22b, u22c, u22d, u22e⟩ := u22 rfl
          have k_24 : KX [42, 43, 44, 45, 47, 48, 49, 55, 60, 62, 70] [56, 57, 58, 59, 67, 68, 69] F G F22 G22 := (KX.tr k_16 hK22 rfl rfl)
          have k_25 : MO F F22 := (MO.tr k_17 hM22)
          have q_26 : F22 43 = ((F 43) + (1 : Int32)) := Eq.trans u22a (show (F15 43) = ((F 43) + (1 : Int32)) by simp only [q_18, q_19, q_20, q_5, q_6, i_as])
          have q_27 : F22 70 = (F 70) := Eq.trans u22b (show (F15 70) = (F 70) by simp only [q_18, q_19, q_20, q_5, q_6, i_as])
          have q_28 : F15 70 = F 70 := (show (F15 70) = F 70 by first | rfl | (simp only [q_18, q_19, q_20, q_5, q_6, i_as]))
          have k_29 : PKp F G G22 := PKp.tr (show PKp F G G15 from k_21) u22d q_28
          unfold mb_expression_42
          refine PP.ite (fun c_30 => absurd c_30 (by decide)) (fun _ => ?_)
          unfold mb_expression_45
          refine PP.bind (mp_sign (31 : Int32) F22 G22) ?_
          rintro r31 F31 G31 (⟨rfl, rfl, rfl, u31⟩ | ⟨rfl, u31, u31b⟩)
          · dsimp only
            unfold mb_expression_51
            refine PP.ite (fun c_32 => absurd c_32 (by decide)) (fun _ => ?_)
            unfold mb_expression_56
            refine PP.bind (mq_step (12 : Int32) (0 : Int32) (0 : Int32) (fup F22 42 ((F22 42) + (1 : Int32))) G22) ?_
            rintro _ F33 G33 ⟨hK33, rfl, e33, g33, n33⟩
            dsimp only
            have k_34 : KX [42, 43, 44, 45, 47, 48, 49, 55, 60, 62, 70] [56, 57, 58, 59, 67, 68, 69] F G F33 G33 := (KX.tr (KX.f (k := 42) rfl k_24) hK33 rfl rfl)
            have k_35 : MO F F33 := (MO.tr (MO.f (k := 42) (by decide) (by decide) k_25) (MO.kx hK33 rfl rfl))
            have q_36 : F33 42 = ((F22 42) + (1 : Int32)) := hK33.1 42 rfl
            have q_37 : F33 43 = ((F 43) + (1 : Int32)) := Eq.trans (hK33.1 43 rfl) (show (F22 43) = ((F 43) + (1 : Int32)) by simp only [q_26, q_27, q_5, q_6, q_18, q_19, q_20, i_as])
            have q_38 : F33 70 = (F 70) := Eq.trans (hK33.1 70 rfl) (show (F22 70) = (F 70) by simp only [q_26, q_27, q_5, q_6, q_18, q_19, q_20, i_as])
            have k_39 : PKp F G G33 := PKp.kx (show PKp F G G22 from k_29) hK33 rfl rfl
            unfold mb_expression_64
            refine PP.ix (fun _ => ?_)
            unfold mb_expression_75
            refine PP.bind (PP.and (ihK 4 0 0 F33 (gup G33 57 (F1 60).toNatClampNeg (F33 60))) (PP.and (ihM 4 0 0 F33 (gup G33 57 (F1 60).toNatClampNeg (F33 60))) (ihT 4 0 0 F33 (gup G33 57 (F1 60).toNatClampNeg (F33 60)) (TP.kx hT (KX.g (k := 57) rfl k_34) (fun q => (k_35).1 q) rfl (show 0 ≤ (F33 43).toInt ∧ (F33 43).toInt ≤ 40 by first | exact (o_inc t43 o_13).2 | (simp only [q_36, q_37, q_38, q_5, q_6, q_18, q_19, q_20, q_26, q_27, i_as]; exact (o_inc t43 o_13).2)) (show 0 ≤ (F33 70).toInt by first | exact t70 | (simp only [q_36, q_37, q_38, q_5, q_6, q_18, q_19, q_20, q_26, q_27, i_as]; exact t70)) (show 0 ≤ (F33 60).toInt from (inc60 n33 e33)))))) ?_
            rintro r40 F40 G40 ⟨hK40, hM40, (rfl | rfl), u40⟩
            · dsimp only
              unfold mb_expression_79
              refine PP.ite (fun _ => ?_) (fun c_41 => absurd (by decide) c_41)
              unfold mb_expression_82
              refine PP.ret ?_
              exact ⟨Or.inl rfl, fun h => absurd h (by decide)⟩
            · dsimp only
              obtain ⟨u40a, u40b, u40c, u40d, u40e⟩ := u40 rfl
              have k_42 : KX [42, 43, 44, 45, 47, 48, 49, 55, 60, 62, 70] [56, 57, 58, 59, 67, 68, 69] F G F40 G40 := (KX.tr (KX.g (k := 57) rfl k_34) hK40 rfl rfl)
              have k_43 : MO F F40 := (MO.tr k_35 hM40)
              have q_44 : F40 43 = ((F 43) + (1 : Int32)) := Eq.trans u40a (show (F33 43) = ((F 43) + (1 : Int32)) by simp only [q_36, q_37, q_38, q_5, q_6, q_18, q_19, q_20, q_26, q_27, i_as])
              have q_45 : F40 70 = (F 70) := Eq.trans u40b (show (F33 70) = (F 70) by simp only [q_36, q_37, q_38, q_5, q_6, q_18, q_19, q_20, q_26, q_27, i_as])
              have q_46 : F33 70 = F 70 := (show (F33 70) = F 70 by first | rfl | (simp only [q_36, q_37, q_38, q_5, q_6, q_18, q_19, q_20, q_26, q_27, i_as]))
              have k_47 : PKp F G G40 := PKp.tr (show PKp F G (gup G33 57 (F1 60).toNatClampNeg (F33 60)) from k_39) u40d q_46
              unfold mb_expression_79
              refine PP.ite (fun c_48 => absurd c_48 (by decide)) (fun _ => ?_)
              unfold mb_expression_84
              refine PP.ix (fun _ => ?_)
              unfold mb_expression_94
              unfold mb_expression_104
              refine PP.ret ?_
              refine ⟨Or.inr rfl, fun _ => ⟨(show ((F40 43) - (1 : Int32)) = F 43 by first | rfl | (simp only [q_44, q_45, q_5, q_6, q_18, q_19, q_20, q_26, q_27, q_36, q_37, q_38, i_as])), (show (F40 70) = F 70 by first | rfl | (simp only [q_44, q_45, q_5, q_6, q_18, q_19, q_20, q_26, q_27, q_36, q_37, q_38, i_as])), (show 0 ≤ (F40 60).toInt from u40c), k_47, fun hl => ?_⟩⟩
              show TE X F G (fup F40 43 ((F40 43) - (1 : Int32))) (gup G40 57 (F22 60).toNatClampNeg (F40 60)) 0 (fun s => 0 :: s)
              have l_49 : LV F33 := LV.mo hK40 hM40 rfl rfl (show LV F40 from hl)
              have l_50 : LV (fup F22 42 ((F22 42) + (1 : Int32))) := LV.mo hK33 (MO.kx hK33 rfl rfl) rfl rfl (show LV F33 from l_49)
              have l_51 : LV F15 := LV.mo hK22 hM22 rfl rfl (show LV F22 from l_50)
              have l_52 : LV (fup (fup F1 43 ((F1 43) + (1 : Int32))) 42 ((F1 42) + (1 : Int32))) := LV.mo hK15 (MO.kx hK15 rfl rfl) rfl rfl (show LV F15 from l_51)
              have l_53 : LV F := LV.mo hK1 hM1 rfl rfl (show LV F1 from l_52)
              have l0 : LV F := l_53
              intro A s d hA hb
              have E0 : EX X F G A F G s d [] := EX.rf hA
              have lb : s.length ≤ 568 := by have := bd.len hb t43.2; omega
              have E54 : EX X F G A F1 G1 (0 :: s) d [] := EX.tr E0 (fun A1 hA1 => (show TE X F G F1 G1 0 (fun s => 0 :: s) from u1e (show LV F1 from l_52)) A1 _ _ hA1 (bd.mv (e := 0) (c := 0) hb (show F 54 = F 54 from (show KX [42, 43, 44, 45, 47, 48, 49, 55, 60, 62, 70] [56, 57, 58, 59, 67, 68, 69] F G F G from (KX.rf : KX [42, 43, 44, 45, 47, 48, 49, 55, 60, 62, 70] [56, 57, 58, 59, 67, 68, 69] F G F G)).1 54 rfl) (show (F 43).toInt = (F 43).toInt + 0 by rw [show F 43 = F 43 from by first | rfl | (simp only [q_44, q_45, q_5, q_6, q_18, q_19, q_20, q_26, q_27, q_36, q_37, q_38, i_as, fup, Nat.reduceEqDiff, reduceIte, if_false])]; omega) (by (try simp only [List.length_cons]); omega) (by omega)))
              have E55 : EX X F G A (fup (fup F1 43 ((F1 43) + (1 : Int32))) 42 ((F1 42) + (1 : Int32))) G1 (0 :: s) d [] := EX.st E54 rfl (fun _ _ _ => rfl)
              have E56 : EX X F G A F15 G15 s d [(sN F1, s, d)] := EX.cnd E55 n15 e15 g15 (by have := lb; (try simp only [List.length_cons]); omega) (Or.inl rfl) d (Or.inr rfl)
              have E57 : EX X F G A F22 G22 (0 :: s) d [(sN F1, s, d)] := EX.tr E56 (fun A1 hA1 => (show TE X F15 G15 F22 G22 0 (fun s => 0 :: s) from u22e (show LV F22 from l_50)) A1 _ _ hA1 (bd.mv (e := 1) (c := 0) hb (show F15 54 = F 54 from (show KX [42, 43, 44, 45, 47, 48, 49, 55, 60, 62, 70] [56, 57, 58, 59, 67, 68, 69] F G F15 G15 from k_16).1 54 rfl) (show (F15 43).toInt = (F 43).toInt + 1 by rw [show F15 43 = F 43 + 1 from by first | rfl | (simp only [q_44, q_45, q_5, q_6, q_18, q_19, q_20, q_26, q_27, q_36, q_37, q_38, i_as, fup, Nat.reduceEqDiff, reduceIte, if_false])]; exact (o_inc t43 o_13).1) (by (try simp only [List.length_cons]); omega) (by omega)))
              have E58 : EX X F G A (fup F22 42 ((F22 42) + (1 : Int32))) G22 (0 :: s) d [(sN F1, s, d)] := EX.st E57 rfl (fun _ _ _ => rfl)
              have E59 : EX X F G A F33 G33 s d [(sN F22, 0 :: s, d), (sN F1, s, d)] := EX.gos E58 n33 e33 g33 (by have := lb; (try simp only [List.length_cons]); omega) s d d (Or.inr rfl)
              have E60 : EX X F G A F33 (gup G33 57 (F1 60).toNatClampNeg (F33 60)) s d [(sN F22, 0 :: s, d)] := EX.patch (p := sN F1) (l1 := [(sN F22, 0 :: s, d)]) (l2 := []) E59 (inc60 n33 e33)
              have E61 : EX X F G A F40 G40 (0 :: s) d [(sN F22, 0 :: s, d)] := EX.tr E60 (fun A1 hA1 => (show TE X F33 (gup G33 57 (F1 60).toNatClampNeg (F33 60)) F40 G40 0 (fun s => 0 :: s) from u40e (show LV F40 from hl)) A1 _ _ hA1 (bd.mv (e := 1) (c := 0) hb (show F33 54 = F 54 from (show KX [42, 43, 44, 45, 47, 48, 49, 55, 60, 62, 70] [56, 57, 58, 59, 67, 68, 69] F G F33 (gup G33 57 (F1 60).toNatClampNeg (F33 60)) from (KX.g (k := 57) rfl k_34)).1 54 rfl) (show (F33 43).toInt = (F 43).toInt + 1 by rw [show F33 43 = F 43 + 1 from by first | rfl | (simp only [q_44, q_45, q_5, q_6, q_18, q_19, q_20, q_26, q_27, q_36, q_37, q_38, i_as, fup, Nat.reduceEqDiff, reduceIte, if_false])]; exact (o_inc t43 o_13).1) (by (try simp only [List.length_cons]); omega) (by omega)))
              have E62 : EX X F G A F40 (gup G40 57 (F22 60).toNatClampNeg (F40 60)) (0 :: s) d [] := EX.patch (p := sN F22) (l1 := []) (l2 := []) E61 u40c
              exact EX.st E62 rfl (fun _ _ _ => rfl)
          · dsimp only
            unfold mb_expression_51
            refine PP.ite (fun _ => ?_) (fun c_63 => absurd (by decide) c_63)
            unfold mb_expression_54
            refine PP.ret ?_
            exact ⟨Or.inl rfl, fun h => absurd h (by decide)⟩
      · dsimp only
        unfold mb_expression_24
        refine PP.ite (fun _ => ?_) (fun c_64 => absurd (by decide) c_64)
        unfold mb_expression_27
        refine PP.ret ?_
        exact ⟨Or.inl rfl, fun h => absurd h (by decide)⟩
    · dsimp only
      unfold mb_expression_15
      refine PP.ite (fun _ => ?_) (fun c_65 => absurd (by decide) c_65)
      unfold mb_expression_18
      refine PP.ret ?_
      refine ⟨Or.inr rfl, fun _ => ⟨(show (F1 43) = F 43 by first | rfl | (simp only [q_5, q_6, i_as])), (show (F1 70) = F 70 by first | rfl | (simp only [q_5, q_6, i_as])), (show 0 ≤ (F1 60).toInt from u1c), k_8, fun hl => ?_⟩⟩
      show TE X F G F1 G1 0 (fun s => 0 :: s)
      have l_66 : LV F := LV.mo hK1 hM1 rfl rfl (show LV F1 from hl)
      have l0 : LV F := l_66
      intro A s d hA hb
      have E0 : EX X F G A F G s d [] := EX.rf hA
      have lb : s.length ≤ 568 := by have := bd.len hb t43.2; omega
      have E67 : EX X F G A F1 G1 (0 :: s) d [] := EX.tr E0 (fun A1 hA1 => (show TE X F G F1 G1 0 (fun s => 0 :: s) from u1e (show LV F1 from hl)) A1 _ _ hA1 (bd.mv (e := 0) (c := 0) hb (show F 54 = F 54 from (show KX [42, 43, 44, 45, 47, 48, 49, 55, 60, 62, 70] [56, 57, 58, 59, 67, 68, 69] F G F G from (KX.rf : KX [42, 43, 44, 45, 47, 48, 49, 55, 60, 62, 70] [56, 57, 58, 59, 67, 68, 69] F G F G)).1 54 rfl) (show (F 43).toInt = (F 43).toInt + 0 by rw [show F 43 = F 43 from by first | rfl | (simp only [q_5, q_6, i_as, fup, Nat.reduceEqDiff, reduceIte, if_false])]; omega) (by (try simp only [List.length_cons]); omega) (by omega)))
      exact EX.st E67 rfl (fun _ _ _ => rfl)
theorem mtt_plain {fu : Nat} {X : TX} {L : List Nat} (rc : RC) (ihK : mKI1 rc) (ihM : mMOI rc) (ihT : mTI X L rc) (F : PF) (G : PG) (hT : TP X L F G) : PP (mh_plain fu rc F G) (fun r' F' G' => TQ X 8 0 0 F G r' F' G') := by
  unfold mh_plain
  have t14 := hT.2.2.2.1
  have t24 := hT.2.2.2.2.1
  have t43 : 0 ≤ (F 43).toInt ∧ (F 43).toInt ≤ 40 := ⟨hT.2.2.2.2.2.1, hT.2.2.2.2.2.2.1⟩
  have t70 := hT.2.2.2.2.2.2.2.1
  unfold mb_plain_0
  refine PP.ix (fun _ => ?_)
  refine PP.ite (fun c_1 => ?_) (fun c_1 => ?_)
  · skip
    unfold mb_plain_13
    refine PP.ix (fun _ => ?_)
    refine PP.bind (mq_step (0 : Int32) (G 5 (F 42).toNatClampNeg) (0 : Int32) F G) ?_
    rintro _ F2 G2 ⟨hK2, rfl, e2, g2, n2⟩
    dsimp only
    have k_3 : KX [42, 43, 44, 45, 47, 48, 49, 55, 60, 62, 70] [56, 57, 58, 59, 67, 68, 69] F G F2 G2 := (KX.tr (KX.rf : KX [42, 43, 44, 45, 47, 48, 49, 55, 60, 62, 70] [56, 57, 58, 59, 67, 68, 69] F G F G) hK2 rfl rfl)
    have k_4 : MO F F2 := (MO.tr (MO.rf : MO F F) (MO.kx hK2 rfl rfl))
    have q_5 : F2 42 = (F 42) := hK2.1 42 rfl
    have q_6 : F2 43 = (F 43) := hK2.1 43 rfl
    have q_7 : F2 70 = (F 70) := hK2.1 70 rfl
    have k_8 : PKp F G G2 := PKp.kx (show PKp F G G from (fun _ _ => ⟨rfl, rfl⟩ : PKp F G G)) hK2 rfl rfl
    unfold mb_plain_28
    unfold mb_plain_39
    refine PP.ret ?_
    refine ⟨Or.inr rfl, fun _ => ⟨(show (F2 43) = F 43 by first | rfl | (simp only [q_5, q_6, q_7, i_as])), (show (F2 70) = F 70 by first | rfl | (simp only [q_5, q_6, q_7, i_as])), (show 0 ≤ (F2 60).toInt from (inc60 n2 e2)), k_8, fun hl => ?_⟩⟩
    show TE X F G (fup F2 42 ((F2 42) + (1 : Int32))) G2 8 (fun s => 0 :: s)
    have l_9 : LV F := LV.mo hK2 (MO.kx hK2 rfl rfl) rfl rfl (show LV F2 from hl)
    have l0 : LV F := l_9
    intro A s d hA hb
    have E0 : EX X F G A F G s d [] := EX.rf hA
    have lb : s.length ≤ 568 := by have := bd.len hb t43.2; omega
    have E10 : EX X F G A F2 G2 (0 :: s) d [] := EX.stp E0 n2 e2 g2 (by have := lb; (try simp only [List.length_cons]); omega) (fun _ => Or.inl ⟨rfl, rfl⟩)
    exact EX.st E10 rfl (fun _ _ _ => rfl)
  · skip
    unfold mb_plain_41
    refine PP.bind (mp_isSign (22 : Int32) F G) ?_
    rintro _ _ _ ⟨rfl, rfl, (⟨rfl, u11⟩ | ⟨rfl, u11⟩)⟩
    · dsimp only
      unfold mb_plain_47
      refine PP.ite (fun c_12 => absurd c_12 (by decide)) (fun _ => ?_)
      unfold mb_plain_50
      refine PP.bind (mp_opens F G) ?_
      rintro r13 F13 G13 (⟨rfl, rfl, rfl, u13⟩ | ⟨rfl, u13, u13b⟩)
      · dsimp only
        have o_14 : ¬ F 43 = 40 := by
          have q : ¬ (F 43) = 40 := u13
          first | exact q | (simp only [i_as] at q; exact q)
        unfold mb_plain_54
        refine PP.ite (fun c_15 => absurd c_15 (by decide)) (fun _ => ?_)
        unfold mb_plain_57
        refine PP.bind (PP.and (ihK 4 0 0 (fup (fup F 43 ((F 43) + (1 : Int32))) 42 ((F 42) + (1 : Int32))) G) (PP.and (ihM 4 0 0 (fup (fup F 43 ((F 43) + (1 : Int32))) 42 ((F 42) + (1 : Int32))) G) (ihT 4 0 0 (fup (fup F 43 ((F 43) + (1 : Int32))) 42 ((F 42) + (1 : Int32))) G (TP.kx hT (KX.f (k := 42) rfl (KX.f (k := 43) rfl (KX.rf : KX [42, 43, 44, 45, 47, 48, 49, 55, 60, 62, 70] [56, 57, 58, 59, 67, 68, 69] F G F G))) (fun q => ((MO.f (k := 42) (by decide) (by decide) (MO.f (k := 43) (by decide) (by decide) (MO.rf : MO F F)))).1 q) rfl (show 0 ≤ ((F 43) + (1 : Int32)).toInt ∧ ((F 43) + (1 : Int32)).toInt ≤ 40 by first | exact (o_inc t43 o_14).2 | (simp only [i_as]; exact (o_inc t43 o_14).2)) (show 0 ≤ (F 70).toInt by first | exact t70 | (simp only [i_as]; exact t70)) (show 0 ≤ (F 60).toInt from hT.2.2.2.2.2.2.2.2))))) ?_
        rintro r16 F16 G16 ⟨hK16, hM16, (rfl | rfl), u16⟩
        · dsimp only
          unfold mb_plain_61
          refine PP.ite (fun _ => ?_) (fun c_17 => absurd (by decide) c_17)
          unfold mb_plain_77
          unfold mb_plain_78
          refine PP.ret ?_
          exact ⟨Or.inl rfl, fun h => absurd h (by decide)⟩
        · dsimp only
          obtain ⟨u16a, u16b, u16c, u16d, u16e⟩ := u16 rfl
          have k_18 : KX [42, 43, 44, 45, 47, 48, 49, 55, 60, 62, 70] [56, 57, 58, 59, 67, 68, 69] F G F16 G16 := (KX.tr (KX.f (k := 42) rfl (KX.f (k := 43) rfl (KX.rf : KX [42, 43, 44, 45, 47, 48, 49, 55, 60, 62, 70] [56, 57, 58, 59, 67, 68, 69] F G F G))) hK16 rfl rfl)
          have k_19 : MO F F16 := (MO.tr (MO.f (k := 42) (by decide) (by decide) (MO.f (k := 43) (by decide) (by decide) (MO.rf : MO F F))) hM16)
          have q_20 : F16 43 = ((F 43) + (1 : Int32)) := u16a
          have q_21 : F16 70 = (F 70) := u16b
          have q_22 : (fup (fup F 43 ((F 43) + (1 : Int32))) 42 ((F 42) + (1 : Int32))) 70 = F 70 := (show (F 70) = F 70 by first | rfl | (simp only [i_as]))
          have k_23 : PKp F G G16 := PKp.tr (show PKp F G G from (fun _ _ => ⟨rfl, rfl⟩ : PKp F G G)) u16d q_22
          unfold mb_plain_61
          refine PP.ite (fun c_24 => absurd c_24 (by decide)) (fun _ => ?_)
          unfold mb_plain_64
          refine PP.bind (mp_closeSign (23 : Int32) F16 G16) ?_
          rintro r25 F25 G25 (⟨rfl, rfl, rfl, u25⟩ | ⟨rfl, u25, u25b⟩)
          · dsimp only
            unfold mb_plain_70
            refine PP.ite (fun c_26 => absurd c_26 (by decide)) (fun _ => ?_)
            unfold mb_plain_73
            unfold mb_plain_78
            refine PP.ret ?_
            refine ⟨Or.inr rfl, fun _ => ⟨(show ((F16 43) - (1 : Int32)) = F 43 by first | rfl | (simp only [q_20, q_21, i_as])), (show (F16 70) = F 70 by first | rfl | (simp only [q_20, q_21, i_as])), (show 0 ≤ (F16 60).toInt from u16c), k_23, fun hl => ?_⟩⟩
            show TE X F G (fup (fup F16 42 ((F16 42) + (1 : Int32))) 43 ((F16 43) - (1 : Int32))) G16 8 (fun s => 0 :: s)
            have l_27 : LV (fup (fup F 43 ((F 43) + (1 : Int32))) 42 ((F 42) + (1 : Int32))) := LV.mo hK16 hM16 rfl rfl (show LV F16 from hl)
            have l0 : LV F := l_27
            intro A s d hA hb
            have E0 : EX X F G A F G s d [] := EX.rf hA
            have lb : s.length ≤ 568 := by have := bd.len hb t43.2; omega
            have E28 : EX X F G A (fup (fup F 43 ((F 43) + (1 : Int32))) 42 ((F 42) + (1 : Int32))) G s d [] := EX.st E0 rfl (fun _ _ _ => rfl)
            have E29 : EX X F G A F16 G16 (0 :: s) d [] := EX.tr E28 (fun A1 hA1 => (show TE X (fup (fup F 43 ((F 43) + (1 : Int32))) 42 ((F 42) + (1 : Int32))) G F16 G16 0 (fun s => 0 :: s) from u16e (show LV F16 from hl)) A1 _ _ hA1 (bd.mv (e := 1) (c := 0) hb (show (fup (fup F 43 ((F 43) + (1 : Int32))) 42 ((F 42) + (1 : Int32))) 54 = F 54 from (show KX [42, 43, 44, 45, 47, 48, 49, 55, 60, 62, 70] [56, 57, 58, 59, 67, 68, 69] F G (fup (fup F 43 ((F 43) + (1 : Int32))) 42 ((F 42) + (1 : Int32))) G from (KX.f (k := 42) rfl (KX.f (k := 43) rfl (KX.rf : KX [42, 43, 44, 45, 47, 48, 49, 55, 60, 62, 70] [56, 57, 58, 59, 67, 68, 69] F G F G)))).1 54 rfl) (show ((fup (fup F 43 ((F 43) + (1 : Int32))) 42 ((F 42) + (1 : Int32))) 43).toInt = (F 43).toInt + 1 by rw [show (fup (fup F 43 ((F 43) + (1 : Int32))) 42 ((F 42) + (1 : Int32))) 43 = F 43 + 1 from by first | rfl | (simp only [q_20, q_21, i_as, fup, Nat.reduceEqDiff, reduceIte, if_false])]; exact (o_inc t43 o_14).1) (by (try simp only [List.length_cons]); omega) (by omega)))
            exact EX.st E29 rfl (fun _ _ _ => rfl)
          · dsimp only
            unfold mb_plain_70
            refine PP.ite (fun _ => ?_) (fun c_30 => absurd (by decide) c_30)
            unfold mb_plain_77
            unfold mb_plain_78
            refine PP.ret ?_
            exact ⟨Or.inl rfl, fun h => absurd h (by decide)⟩
      · dsimp only
        unfold mb_plain_54
        refine PP.ite (fun _ => ?_) (fun c_31 => absurd (by decide) c_31)
        unfold mb_plain_77
        unfold mb_plain_78
        refine PP.ret ?_
        exact ⟨Or.inl rfl, fun h => absurd h (by decide)⟩
    · dsimp only
      unfold mb_plain_47
      refine PP.ite (fun _ => ?_) (fun c_32 => absurd (by decide) c_32)
      unfold mb_plain_79
      refine PP.bind (mp_isWord (13 : Int32) F G) ?_
      rintro _ _ _ ⟨rfl, rfl, (⟨rfl, u33⟩ | ⟨rfl, u33⟩)⟩
      · dsimp only
        unfold mb_plain_85
        refine PP.ite (fun c_34 => absurd c_34 (by decide)) (fun _ => ?_)
        unfold mb_plain_88
        refine PP.ite (fun c_35 => ?_) (fun c_35 => ?_)
        · skip
          have m_36 : F 54 = 0 := Eq.trans (Eq.symm ((show KX [42, 43, 44, 45, 47, 48, 49, 55, 60, 62, 70] [56, 57, 58, 59, 67, 68, 69] F G F G from (KX.rf : KX [42, 43, 44, 45, 47, 48, 49, 55, 60, 62, 70] [56, 57, 58, 59, 67, 68, 69] F G F G)).1 54 rfl)) (show (F 54) = 0 from c_35)
          unfold mb_plain_115
          unfold mb_plain_125
          refine PP.bind (mp_openSign (22 : Int32) (fup F 42 ((F 42) + (1 : Int32))) G) ?_
          rintro r37 F37 G37 (⟨rfl, rfl, rfl, u37⟩ | ⟨rfl, u37, u37b⟩)
          · dsimp only
            have o_38 : ¬ F 43 = 40 := by
              have q : ¬ (F 43) = 40 := u37.2.1
              first | exact q | (simp only [i_as] at q; exact q)
            unfold mb_plain_131
            refine PP.ite (fun c_39 => absurd c_39 (by decide)) (fun _ => ?_)
            unfold mb_plain_134
            refine PP.bind (mp_closeSign (23 : Int32) (fup (fup (fup F 42 ((F 42) + (1 : Int32))) 43 ((F 43) + (1 : Int32))) 42 (((F 42) + (1 : Int32)) + (1 : Int32))) G) ?_
            rintro r40 F40 G40 (⟨rfl, rfl, rfl, u40⟩ | ⟨rfl, u40, u40b⟩)
            · dsimp only
              unfold mb_plain_140
              refine PP.ite (fun c_41 => absurd c_41 (by decide)) (fun _ => ?_)
              unfold mb_plain_145
              refine PP.bind (mq_step (21 : Int32) (0 : Int32) (0 : Int32) (fup (fup (fup (fup (fup F 42 ((F 42) + (1 : Int32))) 43 ((F 43) + (1 : Int32))) 42 (((F 42) + (1 : Int32)) + (1 : Int32))) 42 ((((F 42) + (1 : Int32)) + (1 : Int32)) + (1 : Int32))) 43 (((F 43) + (1 : Int32)) - (1 : Int32))) G) ?_
              rintro _ F42 G42 ⟨hK42, rfl, e42, g42, n42⟩
              dsimp only
              have k_43 : KX [42, 43, 44, 45, 47, 48, 49, 55, 60, 62, 70] [56, 57, 58, 59, 67, 68, 69] F G F42 G42 := (KX.tr (KX.f (k := 43) rfl (KX.f (k := 42) rfl (KX.f (k := 42) rfl (KX.f (k := 43) rfl (KX.f (k := 42) rfl (KX.rf : KX [42, 43, 44, 45, 47, 48, 49, 55, 60, 62, 70] [56, 57, 58, 59, 67, 68, 69] F G F G)))))) hK42 rfl rfl)
              have k_44 : MO F F42 := (MO.tr (MO.f (k := 43) (by decide) (by decide) (MO.f (k := 42) (by decide) (by decide) (MO.f (k := 42) (by decide) (by decide) (MO.f (k := 43) (by decide) (by decide) (MO.f (k := 42) (by decide) (by decide) (MO.rf : MO F F)))))) (MO.kx hK42 rfl rfl))
              have q_45 : F42 42 = ((((F 42) + (1 : Int32)) + (1 : Int32)) + (1 : Int32)) := hK42.1 42 rfl
              have q_46 : F42 43 = (F 43) := Eq.trans (hK42.1 43 rfl) (show (((F 43) + (1 : Int32)) - (1 : Int32)) = (F 43) by simp only [i_as])
              have q_47 : F42 70 = (F 70) := hK42.1 70 rfl
              have k_48 : PKp F G G42 := PKp.kx (show PKp F G G from (fun _ _ => ⟨rfl, rfl⟩ : PKp F G G)) hK42 rfl rfl
              unfold mb_plain_153
              refine PP.ret ?_
              refine ⟨Or.inr rfl, fun _ => ⟨(show (F42 43) = F 43 by first | rfl | (simp only [q_45, q_46, q_47, i_as])), (show (F42 70) = F 70 by first | rfl | (simp only [q_45, q_46, q_47, i_as])), (show 0 ≤ (F42 60).toInt from (inc60 n42 e42)), k_48, fun hl => ?_⟩⟩
              show TE X F G F42 G42 8 (fun s => 0 :: s)
              have l_49 : LV (fup (fup (fup (fup (fup F 42 ((F 42) + (1 : Int32))) 43 ((F 43) + (1 : Int32))) 42 (((F 42) + (1 : Int32)) + (1 : Int32))) 42 ((((F 42) + (1 : Int32)) + (1 : Int32)) + (1 : Int32))) 43 (((F 43) + (1 : Int32)) - (1 : Int32))) := LV.mo hK42 (MO.kx hK42 rfl rfl) rfl rfl (show LV F42 from hl)
              have l0 : LV F := l_49
              intro A s d hA hb
              have hm : X.1 = false := hT.m.1 m_36
              have E0 : EX X F G A F G s d [] := EX.rf hA
              have lb : s.length ≤ 568 := by have := bd.len hb t43.2; omega
              have E50 : EX X F G A (fup (fup (fup (fup (fup F 42 ((F 42) + (1 : Int32))) 43 ((F 43) + (1 : Int32))) 42 (((F 42) + (1 : Int32)) + (1 : Int32))) 42 ((((F 42) + (1 : Int32)) + (1 : Int32)) + (1 : Int32))) 43 (((F 43) + (1 : Int32)) - (1 : Int32))) G s d [] := EX.st E0 rfl (fun _ _ _ => rfl)
              have E51 : EX X F G A F42 G42 (0 :: s) d [] := EX.stp E50 n42 e42 g42 (by have := lb; (try simp only [List.length_cons]); omega) (fun _ => Or.inr (Or.inr (Or.inr (Or.inr ⟨hm, Or.inr (Or.inr (Or.inr (Or.inr (Or.inr (Or.inr (Or.inr (Or.inr (Or.inr (Or.inr (Or.inr (Or.inl ⟨rfl, rfl⟩)))))))))))⟩))))
              exact EX.st E51 rfl (fun _ _ _ => rfl)
            · dsimp only
              unfold mb_plain_140
              refine PP.ite (fun _ => ?_) (fun c_52 => absurd (by decide) c_52)
              unfold mb_plain_143
              refine PP.ret ?_
              exact ⟨Or.inl rfl, fun h => absurd h (by decide)⟩
          · dsimp only
            unfold mb_plain_131
            refine PP.ite (fun _ => ?_) (fun c_53 => absurd (by decide) c_53)
            unfold mb_plain_143
            refine PP.ret ?_
            exact ⟨Or.inl rfl, fun h => absurd h (by decide)⟩
        · skip
          have m_54 : ¬ F 54 = 0 := fun q => (show ¬ (F 54) = 0 from c_35) (Eq.trans ((show KX [42, 43, 44, 45, 47, 48, 49, 55, 60, 62, 70] [56, 57, 58, 59, 67, 68, 69] F G F G from (KX.rf : KX [42, 43, 44, 45, 47, 48, 49, 55, 60, 62, 70] [56, 57, 58, 59, 67, 68, 69] F G F G)).1 54 rfl) q)
          unfold mb_plain_95
          refine PP.ix (fun _ => ?_)
          refine PP.bind (PP.and (mp_note (10 : Int32) (G 6 (F 42).toNatClampNeg) (by decide) F G) (mm_note (10 : Int32) (G 6 (F 42).toNatClampNeg) (by decide) F G)) ?_
          rintro r55 F55 G55 ⟨⟨hK55, rfl, u55, -⟩, hM55⟩
          dsimp only
          have k_56 : KX [42, 43, 44, 45, 47, 48, 49, 55, 60, 62, 70] [56, 57, 58, 59, 67, 68, 69] F G F55 G := (KX.tr (KX.rf : KX [42, 43, 44, 45, 47, 48, 49, 55, 60, 62, 70] [56, 57, 58, 59, 67, 68, 69] F G F G) hK55 rfl rfl)
          have k_57 : MO F F55 := (MO.tr (MO.rf : MO F F) hM55)
          have q_58 : F55 42 = (F 42) := hK55.1 42 rfl
          have q_59 : F55 43 = (F 43) := hK55.1 43 rfl
          have q_60 : F55 70 = (F 70) := hK55.1 70 rfl
          have k_61 : PKp F G G := PKp.kx (show PKp F G G from (fun _ _ => ⟨rfl, rfl⟩ : PKp F G G)) hK55 rfl rfl
          unfold mb_plain_110
          unfold mb_plain_115
          unfold mb_plain_125
          refine PP.bind (mp_openSign (22 : Int32) (fup (fup F55 55 (1 : Int32)) 42 ((F55 42) + (1 : Int32))) G) ?_
          rintro r62 F62 G62 (⟨rfl, rfl, rfl, u62⟩ | ⟨rfl, u62, u62b⟩)
          · dsimp only
            have o_63 : ¬ F 43 = 40 := by
              have q : ¬ (F55 43) = 40 := u62.2.1
              first | exact q | (simp only [q_58, q_59, q_60, i_as] at q; exact q)
            unfold mb_plain_131
            refine PP.ite (fun c_64 => absurd c_64 (by decide)) (fun _ => ?_)
            unfold mb_plain_134
            refine PP.bind (mp_closeSign (23 : Int32) (fup (fup (fup (fup F55 55 (1 : Int32)) 42 ((F55 42) + (1 : Int32))) 43 ((F55 43) + (1 : Int32))) 42 (((F55 42) + (1 : Int32)) + (1 : Int32))) G) ?_
            rintro r65 F65 G65 (⟨rfl, rfl, rfl, u65⟩ | ⟨rfl, u65, u65b⟩)
            · dsimp only
              unfold mb_plain_140
              refine PP.ite (fun c_66 => absurd c_66 (by decide)) (fun _ => ?_)
              unfold mb_plain_145
              refine PP.bind (mq_step (21 : Int32) (0 : Int32) (0 : Int32) (fup (fup (fup (fup (fup (fup F55 55 (1 : Int32)) 42 ((F55 42) + (1 : Int32))) 43 ((F55 43) + (1 : Int32))) 42 (((F55 42) + (1 : Int32)) + (1 : Int32))) 42 ((((F55 42) + (1 : Int32)) + (1 : Int32)) + (1 : Int32))) 43 (((F55 43) + (1 : Int32)) - (1 : Int32))) G) ?_
              rintro _ F67 G67 ⟨hK67, rfl, e67, g67, n67⟩
              dsimp only
              have k_68 : KX [42, 43, 44, 45, 47, 48, 49, 55, 60, 62, 70] [56, 57, 58, 59, 67, 68, 69] F G F67 G67 := (KX.tr (KX.f (k := 43) rfl (KX.f (k := 42) rfl (KX.f (k := 42) rfl (KX.f (k := 43) rfl (KX.f (k := 42) rfl (KX.f (k := 55) rfl k_56)))))) hK67 rfl rfl)
              have k_69 : MO F F67 := (MO.tr (MO.f (k := 43) (by decide) (by decide) (MO.f (k := 42) (by decide) (by decide) (MO.f (k := 42) (by decide) (by decide) (MO.f (k := 43) (by decide) (by decide) (MO.f (k := 42) (by decide) (by decide) (MO.f55 k_57)))))) (MO.kx hK67 rfl rfl))
              have q_70 : F67 42 = ((((F 42) + (1 : Int32)) + (1 : Int32)) + (1 : Int32)) := Eq.trans (hK67.1 42 rfl) (show ((((F55 42) + (1 : Int32)) + (1 : Int32)) + (1 : Int32)) = ((((F 42) + (1 : Int32)) + (1 : Int32)) + (1 : Int32)) by simp only [q_58, q_59, q_60, i_as])
              have q_71 : F67 43 = (F 43) := Eq.trans (hK67.1 43 rfl) (show (((F55 43) + (1 : Int32)) - (1 : Int32)) = (F 43) by simp only [q_58, q_59, q_60, i_as])
              have q_72 : F67 70 = (F 70) := Eq.trans (hK67.1 70 rfl) (show (F55 70) = (F 70) by simp only [q_58, q_59, q_60, i_as])
              have k_73 : PKp F G G67 := PKp.kx (show PKp F G G from k_61) hK67 rfl rfl
              unfold mb_plain_153
              refine PP.ret ?_
              refine ⟨Or.inr rfl, fun _ => ⟨(show (F67 43) = F 43 by first | rfl | (simp only [q_70, q_71, q_72, q_58, q_59, q_60, i_as])), (show (F67 70) = F 70 by first | rfl | (simp only [q_70, q_71, q_72, q_58, q_59, q_60, i_as])), (show 0 ≤ (F67 60).toInt from (inc60 n67 e67)), k_73, fun hl => ?_⟩⟩
              show TE X F G F67 G67 8 (fun s => 0 :: s)
              have l_74 : LV (fup (fup (fup (fup (fup (fup F55 55 (1 : Int32)) 42 ((F55 42) + (1 : Int32))) 43 ((F55 43) + (1 : Int32))) 42 (((F55 42) + (1 : Int32)) + (1 : Int32))) 42 ((((F55 42) + (1 : Int32)) + (1 : Int32)) + (1 : Int32))) 43 (((F55 43) + (1 : Int32)) - (1 : Int32))) := LV.mo hK67 (MO.kx hK67 rfl rfl) rfl rfl (show LV F67 from hl)
              exact absurd (show (1 : Int32) = 0 from (show LV (fup F55 55 (1 : Int32)) from l_74).2.2 (fun q => m_54 (Eq.trans (Eq.symm ((show KX [42, 43, 44, 45, 47, 48, 49, 55, 60, 62, 70] [56, 57, 58, 59, 67, 68, 69] F G F55 G from k_56).1 54 rfl)) q))) (by decide)
            · dsimp only
              unfold mb_plain_140
              refine PP.ite (fun _ => ?_) (fun c_75 => absurd (by decide) c_75)
              unfold mb_plain_143
              refine PP.ret ?_
              exact ⟨Or.inl rfl, fun h => absurd h (by decide)⟩
          · dsimp only
            unfold mb_plain_131
            refine PP.ite (fun _ => ?_) (fun c_76 => absurd (by decide) c_76)
            unfold mb_plain_143
            refine PP.ret ?_
            exact ⟨Or.inl rfl, fun h => absurd h (by decide)⟩
      · dsimp only
        unfold mb_plain_85
        refine PP.ite (fun _ => ?_) (fun c_77 => absurd (by decide) c_77)
        unfold mb_plain_156
        refine PP.ix (fun _ => ?_)
        refine PP.ite (fun c_78 => ?_) (fun c_78 => ?_)
        · skip
          unfold mb_plain_175
          unfold mb_plain_190
          refine PP.ite (fun c_79 => ?_) (fun c_79 => ?_)
          · skip
            have m_80 : F 54 = 0 := Eq.trans (Eq.symm ((show KX [42, 43, 44, 45, 47, 48, 49, 55, 60, 62, 70] [56, 57, 58, 59, 67, 68, 69] F G (fup F 42 ((F 42) + (1 : Int32))) G from (KX.f (k := 42) rfl (KX.rf : KX [42, 43, 44, 45, 47, 48, 49, 55, 60, 62, 70] [56, 57, 58, 59, 67, 68, 69] F G F G))).1 54 rfl)) (show (F 54) = 0 from c_79)
            unfold mb_plain_205
            refine PP.bind (PP.and (ihK 6 (F 42) 0 (fup F 42 ((F 42) + (1 : Int32))) G) (PP.and (ihM 6 (F 42) 0 (fup F 42 ((F 42) + (1 : Int32))) G) (ihT 6 (F 42) 0 (fup F 42 ((F 42) + (1 : Int32))) G (TP.kx hT (KX.f (k := 42) rfl (KX.rf : KX [42, 43, 44, 45, 47, 48, 49, 55, 60, 62, 70] [56, 57, 58, 59, 67, 68, 69] F G F G)) (fun q => ((MO.f (k := 42) (by decide) (by decide) (MO.rf : MO F F))).1 q) rfl (show 0 ≤ (F 43).toInt ∧ (F 43).toInt ≤ 40 by first | exact t43 | (simp only [i_as]; exact t43)) (show 0 ≤ (F 70).toInt by first | exact t70 | (simp only [i_as]; exact t70)) (show 0 ≤ (F 60).toInt from hT.2.2.2.2.2.2.2.2))))) ?_
            rintro r81 F81 G81 ⟨hK81, hM81, (rfl | rfl), u81⟩
            · dsimp only
              unfold mb_plain_210
              refine PP.ret ?_
              exact ⟨Or.inl rfl, fun h => absurd h (by decide)⟩
            · dsimp only
              obtain ⟨u81a, u81b, u81c, u81d, u81e⟩ := u81 rfl
              have k_82 : KX [42, 43, 44, 45, 47, 48, 49, 55, 60, 62, 70] [56, 57, 58, 59, 67, 68, 69] F G F81 G81 := (KX.tr (KX.f (k := 42) rfl (KX.rf : KX [42, 43, 44, 45, 47, 48, 49, 55, 60, 62, 70] [56, 57, 58, 59, 67, 68, 69] F G F G)) hK81 rfl rfl)
              have k_83 : MO F F81 := (MO.tr (MO.f (k := 42) (by decide) (by decide) (MO.rf : MO F F)) hM81)
              have q_84 : F81 43 = (F 43) := u81a
              have q_85 : F81 70 = (F 70) := u81b
              have q_86 : (fup F 42 ((F 42) + (1 : Int32))) 70 = F 70 := (show (F 70) = F 70 by first | rfl | (simp only [i_as]))
              have k_87 : PKp F G G81 := PKp.tr (show PKp F G G from (fun _ _ => ⟨rfl, rfl⟩ : PKp F G G)) u81d q_86
              unfold mb_plain_210
              refine PP.ret ?_
              refine ⟨Or.inr rfl, fun _ => ⟨(show (F81 43) = F 43 by first | rfl | (simp only [q_84, q_85, i_as])), (show (F81 70) = F 70 by first | rfl | (simp only [q_84, q_85, i_as])), (show 0 ≤ (F81 60).toInt from u81c), k_87, fun hl => ?_⟩⟩
              show TE X F G F81 G81 8 (fun s => 0 :: s)
              have l_88 : LV (fup F 42 ((F 42) + (1 : Int32))) := LV.mo hK81 hM81 rfl rfl (show LV F81 from hl)
              have l0 : LV F := l_88
              intro A s d hA hb
              have hm : X.1 = false := hT.m.1 m_80
              have E0 : EX X F G A F G s d [] := EX.rf hA
              have lb : s.length ≤ 568 := by have := bd.len hb t43.2; omega
              have E89 : EX X F G A (fup F 42 ((F 42) + (1 : Int32))) G s d [] := EX.st E0 rfl (fun _ _ _ => rfl)
              have E90 : EX X F G A F81 G81 (0 :: s) d [] := EX.tr E89 (fun A1 hA1 => ((show (fup F 42 ((F 42) + (1 : Int32))) 54 = 0 → TE X (fup F 42 ((F 42) + (1 : Int32))) G F81 G81 8 (fun s => 0 :: s) from u81e (show LV F81 from hl)) (Eq.trans (show (fup F 42 ((F 42) + (1 : Int32))) 54 = F 54 from (show KX [42, 43, 44, 45, 47, 48, 49, 55, 60, 62, 70] [56, 57, 58, 59, 67, 68, 69] F G (fup F 42 ((F 42) + (1 : Int32))) G from (KX.f (k := 42) rfl (KX.rf : KX [42, 43, 44, 45, 47, 48, 49, 55, 60, 62, 70] [56, 57, 58, 59, 67, 68, 69] F G F G))).1 54 rfl) m_80)) A1 _ _ hA1 (bd.mv (e := 0) (c := 0) hb (show (fup F 42 ((F 42) + (1 : Int32))) 54 = F 54 from (show KX [42, 43, 44, 45, 47, 48, 49, 55, 60, 62, 70] [56, 57, 58, 59, 67, 68, 69] F G (fup F 42 ((F 42) + (1 : Int32))) G from (KX.f (k := 42) rfl (KX.rf : KX [42, 43, 44, 45, 47, 48, 49, 55, 60, 62, 70] [56, 57, 58, 59, 67, 68, 69] F G F G))).1 54 rfl) (show ((fup F 42 ((F 42) + (1 : Int32))) 43).toInt = (F 43).toInt + 0 by rw [show (fup F 42 ((F 42) + (1 : Int32))) 43 = F 43 from by first | rfl | (simp only [q_84, q_85, i_as, fup, Nat.reduceEqDiff, reduceIte, if_false])]; omega) (by (try simp only [List.length_cons]); omega) (by omega)))
              exact EX.st E90 rfl (fun _ _ _ => rfl)
          · skip
            have m_91 : ¬ F 54 = 0 := fun q => (show ¬ (F 54) = 0 from c_79) (Eq.trans ((show KX [42, 43, 44, 45, 47, 48, 49, 55, 60, 62, 70] [56, 57, 58, 59, 67, 68, 69] F G (fup F 42 ((F 42) + (1 : Int32))) G from (KX.f (k := 42) rfl (KX.rf : KX [42, 43, 44, 45, 47, 48, 49, 55, 60, 62, 70] [56, 57, 58, 59, 67, 68, 69] F G F G))).1 54 rfl) q)
            unfold mb_plain_197
            refine PP.bind (PP.and (ihK 5 (F 42) 0 (fup F 42 ((F 42) + (1 : Int32))) G) (PP.and (ihM 5 (F 42) 0 (fup F 42 ((F 42) + (1 : Int32))) G) (ihT 5 (F 42) 0 (fup F 42 ((F 42) + (1 : Int32))) G (TP.kx hT (KX.f (k := 42) rfl (KX.rf : KX [42, 43, 44, 45, 47, 48, 49, 55, 60, 62, 70] [56, 57, 58, 59, 67, 68, 69] F G F G)) (fun q => ((MO.f (k := 42) (by decide) (by decide) (MO.rf : MO F F))).1 q) rfl (show 0 ≤ (F 43).toInt ∧ (F 43).toInt ≤ 40 by first | exact t43 | (simp only [i_as]; exact t43)) (show 0 ≤ (F 70).toInt by first | exact t70 | (simp only [i_as]; exact t70)) (show 0 ≤ (F 60).toInt from hT.2.2.2.2.2.2.2.2))))) ?_
            rintro r92 F92 G92 ⟨hK92, hM92, (rfl | rfl), u92⟩
            · dsimp only
              unfold mb_plain_202
              unfold mb_plain_210
              refine PP.ret ?_
              exact ⟨Or.inl rfl, fun h => absurd h (by decide)⟩
            · dsimp only
              obtain ⟨u92a, u92b, u92c, u92d, u92e⟩ := u92 rfl
              have k_93 : KX [42, 43, 44, 45, 47, 48, 49, 55, 60, 62, 70] [56, 57, 58, 59, 67, 68, 69] F G F92 G92 := (KX.tr (KX.f (k := 42) rfl (KX.rf : KX [42, 43, 44, 45, 47, 48, 49, 55, 60, 62, 70] [56, 57, 58, 59, 67, 68, 69] F G F G)) hK92 rfl rfl)
              have k_94 : MO F F92 := (MO.tr (MO.f (k := 42) (by decide) (by decide) (MO.rf : MO F F)) hM92)
              have q_95 : F92 43 = (F 43) := u92a
              have q_96 : F92 70 = (F 70) := u92b
              have q_97 : (fup F 42 ((F 42) + (1 : Int32))) 70 = F 70 := (show (F 70) = F 70 by first | rfl | (simp only [i_as]))
              have k_98 : PKp F G G92 := PKp.tr (show PKp F G G from (fun _ _ => ⟨rfl, rfl⟩ : PKp F G G)) u92d q_97
              unfold mb_plain_202
              unfold mb_plain_210
              refine PP.ret ?_
              refine ⟨Or.inr rfl, fun _ => ⟨(show (F92 43) = F 43 by first | rfl | (simp only [q_95, q_96, i_as])), (show (F92 70) = F 70 by first | rfl | (simp only [q_95, q_96, i_as])), (show 0 ≤ (F92 60).toInt from u92c), k_98, fun hl => ?_⟩⟩
              show TE X F G F92 G92 8 (fun s => 0 :: s)
              have l_99 : LV (fup F 42 ((F 42) + (1 : Int32))) := LV.mo hK92 hM92 rfl rfl (show LV F92 from hl)
              have l0 : LV F := l_99
              intro A s d hA hb
              have E0 : EX X F G A F G s d [] := EX.rf hA
              have lb : s.length ≤ 568 := by have := bd.len hb t43.2; omega
              have E100 : EX X F G A (fup F 42 ((F 42) + (1 : Int32))) G s d [] := EX.st E0 rfl (fun _ _ _ => rfl)
              have E101 : EX X F G A F92 G92 (0 :: s) d [] := EX.tr E100 (fun A1 hA1 => ((show ¬ (fup F 42 ((F 42) + (1 : Int32))) 54 = 0 → TE X (fup F 42 ((F 42) + (1 : Int32))) G F92 G92 8 (fun s => 0 :: s) from u92e (show LV F92 from hl)) (fun q => m_91 (Eq.trans (Eq.symm (show (fup F 42 ((F 42) + (1 : Int32))) 54 = F 54 from (show KX [42, 43, 44, 45, 47, 48, 49, 55, 60, 62, 70] [56, 57, 58, 59, 67, 68, 69] F G (fup F 42 ((F 42) + (1 : Int32))) G from (KX.f (k := 42) rfl (KX.rf : KX [42, 43, 44, 45, 47, 48, 49, 55, 60, 62, 70] [56, 57, 58, 59, 67, 68, 69] F G F G))).1 54 rfl)) q))) A1 _ _ hA1 (bd.mv (e := 0) (c := 0) hb (show (fup F 42 ((F 42) + (1 : Int32))) 54 = F 54 from (show KX [42, 43, 44, 45, 47, 48, 49, 55, 60, 62, 70] [56, 57, 58, 59, 67, 68, 69] F G (fup F 42 ((F 42) + (1 : Int32))) G from (KX.f (k := 42) rfl (KX.rf : KX [42, 43, 44, 45, 47, 48, 49, 55, 60, 62, 70] [56, 57, 58, 59, 67, 68, 69] F G F G))).1 54 rfl) (show ((fup F 42 ((F 42) + (1 : Int32))) 43).toInt = (F 43).toInt + 0 by rw [show (fup F 42 ((F 42) + (1 : Int32))) 43 = F 43 from by first | rfl | (simp only [q_95, q_96, i_as, fup, Nat.reduceEqDiff, reduceIte, if_false])]; omega) (by (try simp only [List.length_cons]); omega) (by omega)))
              exact EX.st E101 rfl (fun _ _ _ => rfl)
        · skip
          unfold mb_plain_169
          refine PP.bind (mp_fails (2 : Int32) (by decide) F G) ?_
          rintro r102 F102 G102 ⟨rfl, u102⟩
          dsimp only
          unfold mb_plain_174
          refine PP.ret ?_
          exact ⟨Or.inl rfl, fun h => absurd h (by decide)⟩
theorem mtz_operand_63 {fu : Nat} {X : TX} {L : List Nat} {px py : Int32} (rc : RC) (ihK : mKI1 rc) (ihM : mMOI rc) (ihT : mTI X L rc) {F0 : PF} {G0 : PG} (hT : TP X L F0 G0) : ∀ (n : Nat) (x1 : Int32) (x3 : Int32) (F : PF) (G : PG) (hA : (KX [42, 43, 44, 45, 47, 48, 49, 55, 60, 62, 70] [56, 57, 58, 59, 67, 68, 69] F0 G0 F G ∧ MO F0 F ∧ F 43 = (F0 43) ∧ F 70 = F0 70 ∧ 0 ≤ (F 60).toInt ∧ PKp F0 G0 G ∧ (LV F → ∀ (A : AN) (s : SH) (d : Nat), A (sN F0) = (s, d, false) → bd 8 F0 s → EX X F0 G0 A F G (0 :: s) d []))), PP (ml_operand_63 fu rc n x1 x3 F G) (fun r' F' G' => TQ X 7 px py F0 G0 r' F' G') := by
  intro n
  induction n with
  | zero =>
    intro x1 x3 F G hA
    exact PP.no
  | succ n ihn =>
    intro x1 x3 F G hA
    show PP (mb_operand_63 fu rc (ml_operand_63 fu rc n) x1 x3 F G) _
    have t14 := hT.2.2.2.1
    have t24 := hT.2.2.2.2.1
    have t43 : 0 ≤ (F0 43).toInt ∧ (F0 43).toInt ≤ 40 := ⟨hT.2.2.2.2.2.1, hT.2.2.2.2.2.2.1⟩
    have t70 := hT.2.2.2.2.2.2.2.1
    rcases hA with ⟨hK, hM, h43, h70, h60, hPK, hL⟩
    · skip
      unfold mb_operand_63
      refine PP.ite (fun c_1 => ?_) (fun c_1 => ?_)
      · skip
        have w_2 := i_lt.mp c_1
        unfold mb_operand_88
        refine PP.ret ?_
        refine ⟨Or.inr rfl, fun _ => ⟨(show (F 43) = F0 43 by first | rfl | (simp only [h43, h70, i_as])), (show (F 70) = F0 70 by first | rfl | (simp only [h43, h70, i_as])), (show 0 ≤ (F 60).toInt from h60), hPK, fun hl => ?_⟩⟩
        show TE X F0 G0 F G 8 (fun s => 0 :: s)
        have hE0 := hL hl
        have l0 : LV F := hl
        have l0f : LV F0 := LV.mo hK hM rfl rfl l0
        intro A s d hA hb
        have E0 := hE0 A s d hA hb
        have lb : s.length ≤ 568 := by have := bd.len hb t43.2; omega
        exact EX.st E0 rfl (fun _ _ _ => rfl)
      · skip
        have w_3 := mt i_lt.mpr c_1
        unfold mb_operand_68
        refine PP.ix (fun _ => ?_)
        refine PP.bind (mq_step (11 : Int32) (G 5 x3.toNatClampNeg) (0 : Int32) F G) ?_
        rintro _ F4 G4 ⟨hK4, rfl, e4, g4, n4⟩
        dsimp only
        have k_5 : KX [42, 43, 44, 45, 47, 48, 49, 55, 60, 62, 70] [56, 57, 58, 59, 67, 68, 69] F0 G0 F4 G4 := (KX.tr hK hK4 rfl rfl)
        have k_6 : MO F0 F4 := (MO.tr hM (MO.kx hK4 rfl rfl))
        have q_7 : F4 42 = (F 42) := hK4.1 42 rfl
        have q_8 : F4 43 = (F0 43) := Eq.trans (hK4.1 43 rfl) (show (F 43) = (F0 43) by simp only [h43, h70, i_as])
        have q_9 : F4 70 = (F0 70) := Eq.trans (hK4.1 70 rfl) (show (F 70) = (F0 70) by simp only [h43, h70, i_as])
        have k_10 : PKp F0 G0 G4 := PKp.kx (show PKp F0 G0 G from hPK) hK4 rfl rfl
        unfold mb_operand_81
        have hL11 : LV F4 → ∀ (A : AN) (s : SH) (d : Nat), A (sN F0) = (s, d, false) → bd 8 F0 s → EX X F0 G0 A F4 G4 (0 :: s) d [] := by
          intro hl
          have l_12 : LV F := LV.mo hK4 (MO.kx hK4 rfl rfl) rfl rfl (show LV F4 from hl)
          have hE0 := hL l_12
          have l0 : LV F := l_12
          have l0f : LV F0 := LV.mo hK hM rfl rfl l0
          intro A s d hA hb
          have E0 := hE0 A s d hA hb
          have lb : s.length ≤ 568 := by have := bd.len hb t43.2; omega
          have E13 : EX X F0 G0 A F4 G4 (0 :: s) d [] := EX.stp E0 n4 e4 g4 (by have := lb; (try simp only [List.length_cons]); omega) (fun _ => Or.inr (Or.inr (Or.inl ⟨rfl, _, rfl, rfl⟩)))
          exact EX.st E13 rfl (fun _ _ _ => rfl)
        exact ihn x1 (x3 + (-1 : Int32)) F4 G4 ⟨k_5, k_6, (show (F4 43) = (F0 43) by first | rfl | (simp only [q_7, q_8, q_9, h43, h70, i_as])), (show (F4 70) = F0 70 by first | rfl | (simp only [q_7, q_8, q_9, h43, h70, i_as])), (show 0 ≤ (F4 60).toInt from (inc60 n4 e4)), k_10, hL11⟩
theorem mtz_operand_5 {fu : Nat} {X : TX} {L : List Nat} {px py : Int32} (rc : RC) (ihK : mKI1 rc) (ihM : mMOI rc) (ihT : mTI X L rc) {F0 : PF} {G0 : PG} (hT : TP X L F0 G0) : ∀ (n : Nat) (x1 : Int32) (F : PF) (G : PG) (hA : (KX [42, 43, 44, 45, 47, 48, 49, 55, 60, 62, 70] [56, 57, 58, 59, 67, 68, 69] F0 G0 F G ∧ MO F0 F ∧ F 43 = (F0 43) ∧ F 70 = F0 70 ∧ 0 ≤ (F 60).toInt ∧ PKp F0 G0 G ∧ (LV F → ∀ (A : AN) (s : SH) (d : Nat), A (sN F0) = (s, d, false) → bd 8 F0 s → EX X F0 G0 A F G s d []))), PP (ml_operand_5 fu rc n x1 F G) (fun r' F' G' => TQ X 7 px py F0 G0 r' F' G') := by
  intro n
  induction n with
  | zero =>
    intro x1 F G hA
    exact PP.no
  | succ n ihn =>
    intro x1 F G hA
    show PP (mb_operand_5 fu rc (ml_operand_5 fu rc n) x1 F G) _
    have t14 := hT.2.2.2.1
    have t24 := hT.2.2.2.2.1
    have t43 : 0 ≤ (F0 43).toInt ∧ (F0 43).toInt ≤ 40 := ⟨hT.2.2.2.2.2.1, hT.2.2.2.2.2.2.1⟩
    have t70 := hT.2.2.2.2.2.2.2.1
    rcases hA with ⟨hK, hM, h43, h70, h60, hPK, hL⟩
    · skip
      unfold mb_operand_5
      refine PP.bind (mp_isSign (39 : Int32) F G) ?_
      rintro _ _ _ ⟨rfl, rfl, (⟨rfl, u1⟩ | ⟨rfl, u1⟩)⟩
      · dsimp only
        unfold mb_operand_11
        refine PP.ite (fun c_2 => absurd c_2 (by decide)) (fun _ => ?_)
        unfold mb_operand_32
        unfold mb_operand_42
        have hL3 : LV (fup F 42 ((F 42) + (1 : Int32))) → ∀ (A : AN) (s : SH) (d : Nat), A (sN F0) = (s, d, false) → bd 8 F0 s → EX X F0 G0 A (fup F 42 ((F 42) + (1 : Int32))) G s d [] := by
          intro hl
          have hE0 := hL hl
          have l0 : LV F := hl
          have l0f : LV F0 := LV.mo hK hM rfl rfl l0
          intro A s d hA hb
          have E0 := hE0 A s d hA hb
          have lb : s.length ≤ 568 := by have := bd.len hb t43.2; omega
          exact EX.st E0 rfl (fun _ _ _ => rfl)
        exact ihn x1 (fup F 42 ((F 42) + (1 : Int32))) G ⟨(KX.f (k := 42) rfl hK), (MO.f (k := 42) (by decide) (by decide) hM), (show (F 43) = (F0 43) by first | rfl | (simp only [h43, h70, i_as])), (show (F 70) = F0 70 by first | rfl | (simp only [h43, h70, i_as])), (show 0 ≤ (F 60).toInt from h60), hPK, hL3⟩
      · dsimp only
        unfold mb_operand_11
        refine PP.ite (fun _ => ?_) (fun c_4 => absurd (by decide) c_4)
        unfold mb_operand_14
        refine PP.bind (mp_isSign (43 : Int32) F G) ?_
        rintro _ _ _ ⟨rfl, rfl, (⟨rfl, u5⟩ | ⟨rfl, u5⟩)⟩
        · dsimp only
          unfold mb_operand_20
          refine PP.ite (fun c_6 => absurd c_6 (by decide)) (fun _ => ?_)
          unfold mb_operand_32
          unfold mb_operand_42
          have hL7 : LV (fup F 42 ((F 42) + (1 : Int32))) → ∀ (A : AN) (s : SH) (d : Nat), A (sN F0) = (s, d, false) → bd 8 F0 s → EX X F0 G0 A (fup F 42 ((F 42) + (1 : Int32))) G s d [] := by
            intro hl
            have hE0 := hL hl
            have l0 : LV F := hl
            have l0f : LV F0 := LV.mo hK hM rfl rfl l0
            intro A s d hA hb
            have E0 := hE0 A s d hA hb
            have lb : s.length ≤ 568 := by have := bd.len hb t43.2; omega
            exact EX.st E0 rfl (fun _ _ _ => rfl)
          exact ihn x1 (fup F 42 ((F 42) + (1 : Int32))) G ⟨(KX.f (k := 42) rfl hK), (MO.f (k := 42) (by decide) (by decide) hM), (show (F 43) = (F0 43) by first | rfl | (simp only [h43, h70, i_as])), (show (F 70) = F0 70 by first | rfl | (simp only [h43, h70, i_as])), (show 0 ≤ (F 60).toInt from h60), hPK, hL7⟩
        · dsimp only
          unfold mb_operand_20
          refine PP.ite (fun _ => ?_) (fun c_8 => absurd (by decide) c_8)
          unfold mb_operand_23
          refine PP.bind (mp_isSign (44 : Int32) F G) ?_
          rintro _ _ _ ⟨rfl, rfl, (⟨rfl, u9⟩ | ⟨rfl, u9⟩)⟩
          · dsimp only
            unfold mb_operand_29
            refine PP.ite (fun c_10 => absurd c_10 (by decide)) (fun _ => ?_)
            unfold mb_operand_32
            unfold mb_operand_42
            have hL11 : LV (fup F 42 ((F 42) + (1 : Int32))) → ∀ (A : AN) (s : SH) (d : Nat), A (sN F0) = (s, d, false) → bd 8 F0 s → EX X F0 G0 A (fup F 42 ((F 42) + (1 : Int32))) G s d [] := by
              intro hl
              have hE0 := hL hl
              have l0 : LV F := hl
              have l0f : LV F0 := LV.mo hK hM rfl rfl l0
              intro A s d hA hb
              have E0 := hE0 A s d hA hb
              have lb : s.length ≤ 568 := by have := bd.len hb t43.2; omega
              exact EX.st E0 rfl (fun _ _ _ => rfl)
            exact ihn x1 (fup F 42 ((F 42) + (1 : Int32))) G ⟨(KX.f (k := 42) rfl hK), (MO.f (k := 42) (by decide) (by decide) hM), (show (F 43) = (F0 43) by first | rfl | (simp only [h43, h70, i_as])), (show (F 70) = F0 70 by first | rfl | (simp only [h43, h70, i_as])), (show 0 ≤ (F 60).toInt from h60), hPK, hL11⟩
          · dsimp only
            unfold mb_operand_29
            refine PP.ite (fun _ => ?_) (fun c_12 => absurd (by decide) c_12)
            unfold mb_operand_45
            refine PP.bind (PP.and (ihK 8 0 0 F G) (PP.and (ihM 8 0 0 F G) (ihT 8 0 0 F G (TP.kx hT hK (fun q => (hM).1 q) rfl (show 0 ≤ (F 43).toInt ∧ (F 43).toInt ≤ 40 by first | exact t43 | (simp only [h43, h70, i_as]; exact t43)) (show 0 ≤ (F 70).toInt by first | exact t70 | (simp only [h43, h70, i_as]; exact t70)) (show 0 ≤ (F 60).toInt from h60))))) ?_
            rintro r13 F13 G13 ⟨hK13, hM13, (rfl | rfl), u13⟩
            · dsimp only
              unfold mb_operand_54
              refine PP.ite (fun _ => ?_) (fun c_14 => absurd (by decide) c_14)
              unfold mb_operand_57
              refine PP.ret ?_
              exact ⟨Or.inl rfl, fun h => absurd h (by decide)⟩
            · dsimp only
              obtain ⟨u13a, u13b, u13c, u13d, u13e⟩ := u13 rfl
              have k_15 : KX [42, 43, 44, 45, 47, 48, 49, 55, 60, 62, 70] [56, 57, 58, 59, 67, 68, 69] F0 G0 F13 G13 := (KX.tr hK hK13 rfl rfl)
              have k_16 : MO F0 F13 := (MO.tr hM hM13)
              have q_17 : F13 43 = (F0 43) := Eq.trans u13a (show (F 43) = (F0 43) by simp only [h43, h70, i_as])
              have q_18 : F13 70 = (F0 70) := Eq.trans u13b (show (F 70) = (F0 70) by simp only [h43, h70, i_as])
              have q_19 : F 70 = F0 70 := (show (F 70) = F0 70 by first | rfl | (simp only [h43, h70, i_as]))
              have k_20 : PKp F0 G0 G13 := PKp.tr (show PKp F0 G0 G from hPK) u13d q_19
              unfold mb_operand_54
              refine PP.ite (fun c_21 => absurd c_21 (by decide)) (fun _ => ?_)
              unfold mb_operand_59
              have hL22 : LV F13 → ∀ (A : AN) (s : SH) (d : Nat), A (sN F0) = (s, d, false) → bd 8 F0 s → EX X F0 G0 A F13 G13 (0 :: s) d [] := by
                intro hl
                have l_23 : LV F := LV.mo hK13 hM13 rfl rfl (show LV F13 from hl)
                have hE0 := hL l_23
                have l0 : LV F := l_23
                have l0f : LV F0 := LV.mo hK hM rfl rfl l0
                intro A s d hA hb
                have E0 := hE0 A s d hA hb
                have lb : s.length ≤ 568 := by have := bd.len hb t43.2; omega
                have E24 : EX X F0 G0 A F13 G13 (0 :: s) d [] := EX.tr E0 (fun A1 hA1 => (show TE X F G F13 G13 8 (fun s => 0 :: s) from u13e (show LV F13 from hl)) A1 _ _ hA1 (bd.mv (e := 0) (c := 0) hb (show F 54 = F0 54 from (show KX [42, 43, 44, 45, 47, 48, 49, 55, 60, 62, 70] [56, 57, 58, 59, 67, 68, 69] F0 G0 F G from hK).1 54 rfl) (show (F 43).toInt = (F0 43).toInt + 0 by rw [show F 43 = F0 43 from by first | rfl | (simp only [q_17, q_18, h43, h70, i_as, fup, Nat.reduceEqDiff, reduceIte, if_false])]; omega) (by (try simp only [List.length_cons]); omega) (by omega)))
                exact EX.st E24 rfl (fun _ _ _ => rfl)
              exact mtz_operand_63 (px := px) (py := py) rc ihK ihM ihT hT fu x1 ((F 42) - (1 : Int32)) F13 G13 ⟨k_15, k_16, (show (F13 43) = (F0 43) by first | rfl | (simp only [q_17, q_18, h43, h70, i_as])), (show (F13 70) = F0 70 by first | rfl | (simp only [q_17, q_18, h43, h70, i_as])), (show 0 ≤ (F13 60).toInt from u13c), k_20, hL22⟩
theorem mtt_operand {fu : Nat} {X : TX} {L : List Nat} (rc : RC) (ihK : mKI1 rc) (ihM : mMOI rc) (ihT : mTI X L rc) (F : PF) (G : PG) (hT : TP X L F G) : PP (mh_operand fu rc F G) (fun r' F' G' => TQ X 7 0 0 F G r' F' G') := by
  unfold mh_operand
  have t14 := hT.2.2.2.1
  have t24 := hT.2.2.2.2.1
  have t43 : 0 ≤ (F 43).toInt ∧ (F 43).toInt ≤ 40 := ⟨hT.2.2.2.2.2.1, hT.2.2.2.2.2.2.1⟩
  have t70 := hT.2.2.2.2.2.2.2.1
  unfold mb_operand_0
  have hL1 : LV F → ∀ (A : AN) (s : SH) (d : Nat), A (sN F) = (s, d, false) → bd 8 F s → EX X F G A F G s d [] := by
    intro hl
    have l0 : LV F := hl
    intro A s d hA hb
    have E0 : EX X F G A F G s d [] := EX.rf hA
    have lb : s.length ≤ 568 := by have := bd.len hb t43.2; omega
    exact EX.st E0 rfl (fun _ _ _ => rfl)
  exact mtz_operand_5 (px := 0) (py := 0) rc ihK ihM ihT hT fu (F 42) F G ⟨(KX.rf : KX [42, 43, 44, 45, 47, 48, 49, 55, 60, 62, 70] [56, 57, 58, 59, 67, 68, 69] F G F G), (MO.rf : MO F F), (show (F 43) = (F 43) by first | rfl | (simp only [i_as])), (show (F 70) = F 70 by first | rfl | (simp only [i_as])), (show 0 ≤ (F 60).toInt from hT.2.2.2.2.2.2.2.2), (fun _ _ => ⟨rfl, rfl⟩ : PKp F G G), hL1⟩
theorem mtt_element {fu : Nat} {X : TX} {L : List Nat} (rc : RC) (ihK : mKI1 rc) (ihM : mMOI rc) (ihT : mTI X L rc) (x1 : Int32) (F : PF) (G : PG) (hT : TP X L F G) : PP (mh_element fu rc x1 F G) (fun r' F' G' => TQ X 3 x1 0 F G r' F' G') := by
  unfold mh_element
  have t14 := hT.2.2.2.1
  have t24 := hT.2.2.2.2.1
  have t43 : 0 ≤ (F 43).toInt ∧ (F 43).toInt ≤ 40 := ⟨hT.2.2.2.2.2.1, hT.2.2.2.2.2.2.1⟩
  have t70 := hT.2.2.2.2.2.2.2.1
  unfold mb_element_0
  refine PP.ix (fun _ => ?_)
  refine PP.ite (fun c_1 => ?_) (fun c_1 => ?_)
  · skip
    unfold mb_element_15
    unfold mb_element_25
    refine PP.ite (fun c_2 => ?_) (fun c_2 => ?_)
    · skip
      unfold mb_element_31
      unfold mb_element_41
      refine PP.ite (fun c_3 => ?_) (fun c_3 => ?_)
      · skip
        unfold mb_element_61
        unfold mb_element_62
        refine PP.bind (mp_openSign (24 : Int32) F G) ?_
        rintro r4 F4 G4 (⟨rfl, rfl, rfl, u4⟩ | ⟨rfl, u4, u4b⟩)
        · dsimp only
          have o_5 : ¬ F 43 = 40 := by
            have q : ¬ (F 43) = 40 := u4.2.1
            first | exact q | (simp only [i_as] at q; exact q)
          unfold mb_element_70
          refine PP.ite (fun c_6 => absurd c_6 (by decide)) (fun _ => ?_)
          unfold mb_element_73
          refine PP.bind (PP.and (ihK 4 0 0 (fup (fup F 43 ((F 43) + (1 : Int32))) 42 ((F 42) + (1 : Int32))) G) (PP.and (ihM 4 0 0 (fup (fup F 43 ((F 43) + (1 : Int32))) 42 ((F 42) + (1 : Int32))) G) (ihT 4 0 0 (fup (fup F 43 ((F 43) + (1 : Int32))) 42 ((F 42) + (1 : Int32))) G (TP.kx hT (KX.f (k := 42) rfl (KX.f (k := 43) rfl (KX.rf : KX [42, 43, 44, 45, 47, 48, 49, 55, 60, 62, 70] [56, 57, 58, 59, 67, 68, 69] F G F G))) (fun q => ((MO.f (k := 42) (by decide) (by decide) (MO.f (k := 43) (by decide) (by decide) (MO.rf : MO F F)))).1 q) rfl (show 0 ≤ ((F 43) + (1 : Int32)).toInt ∧ ((F 43) + (1 : Int32)).toInt ≤ 40 by first | exact (o_inc t43 o_5).2 | (simp only [i_as]; exact (o_inc t43 o_5).2)) (show 0 ≤ (F 70).toInt by first | exact t70 | (simp only [i_as]; exact t70)) (show 0 ≤ (F 60).toInt from hT.2.2.2.2.2.2.2.2))))) ?_
          rintro r7 F7 G7 ⟨hK7, hM7, (rfl | rfl), u7⟩
          · dsimp only
            unfold mb_element_77
            refine PP.ite (fun _ => ?_) (fun c_8 => absurd (by decide) c_8)
            unfold mb_element_89
            refine PP.ret ?_
            exact ⟨Or.inl rfl, fun h => absurd h (by decide)⟩
          · dsimp only
            obtain ⟨u7a, u7b, u7c, u7d, u7e⟩ := u7 rfl
            have k_9 : KX [42, 43, 44, 45, 47, 48, 49, 55, 60, 62, 70] [56, 57, 58, 59, 67, 68, 69] F G F7 G7 := (KX.tr (KX.f (k := 42) rfl (KX.f (k := 43) rfl (KX.rf : KX [42, 43, 44, 45, 47, 48, 49, 55, 60, 62, 70] [56, 57, 58, 59, 67, 68, 69] F G F G))) hK7 rfl rfl)
            have k_10 : MO F F7 := (MO.tr (MO.f (k := 42) (by decide) (by decide) (MO.f (k := 43) (by decide) (by decide) (MO.rf : MO F F))) hM7)
            have q_11 : F7 43 = ((F 43) + (1 : Int32)) := u7a
            have q_12 : F7 70 = (F 70) := u7b
            have q_13 : (fup (fup F 43 ((F 43) + (1 : Int32))) 42 ((F 42) + (1 : Int32))) 70 = F 70 := (show (F 70) = F 70 by first | rfl | (simp only [i_as]))
            have k_14 : PKp F G G7 := PKp.tr (show PKp F G G from (fun _ _ => ⟨rfl, rfl⟩ : PKp F G G)) u7d q_13
            unfold mb_element_77
            refine PP.ite (fun c_15 => absurd c_15 (by decide)) (fun _ => ?_)
            unfold mb_element_80
            refine PP.bind (mp_closeSign (25 : Int32) F7 G7) ?_
            rintro r16 F16 G16 (⟨rfl, rfl, rfl, u16⟩ | ⟨rfl, u16, u16b⟩)
            · dsimp only
              unfold mb_element_86
              refine PP.ite (fun c_17 => absurd c_17 (by decide)) (fun _ => ?_)
              unfold mb_element_91
              refine PP.bind (mq_step (6 : Int32) (0 : Int32) (1 : Int32) (fup (fup F7 42 ((F7 42) + (1 : Int32))) 43 ((F7 43) - (1 : Int32))) G7) ?_
              rintro _ F18 G18 ⟨hK18, rfl, e18, g18, n18⟩
              dsimp only
              have k_19 : KX [42, 43, 44, 45, 47, 48, 49, 55, 60, 62, 70] [56, 57, 58, 59, 67, 68, 69] F G F18 G18 := (KX.tr (KX.f (k := 43) rfl (KX.f (k := 42) rfl k_9)) hK18 rfl rfl)
              have k_20 : MO F F18 := (MO.tr (MO.f (k := 43) (by decide) (by decide) (MO.f (k := 42) (by decide) (by decide) k_10)) (MO.kx hK18 rfl rfl))
              have q_21 : F18 42 = ((F7 42) + (1 : Int32)) := hK18.1 42 rfl
              have q_22 : F18 43 = (F 43) := Eq.trans (hK18.1 43 rfl) (show ((F7 43) - (1 : Int32)) = (F 43) by simp only [q_11, q_12, i_as])
              have q_23 : F18 70 = (F 70) := Eq.trans (hK18.1 70 rfl) (show (F7 70) = (F 70) by simp only [q_11, q_12, i_as])
              have k_24 : PKp F G G18 := PKp.kx (show PKp F G G7 from k_14) hK18 rfl rfl
              unfold mb_element_100
              refine PP.ite (fun _ => ?_) (fun c_25 => absurd (by decide) c_25)
              unfold mb_element_120
              unfold mb_element_121
              refine PP.ix (fun _ => ?_)
              unfold mb_element_123
              refine PP.ret ?_
              refine ⟨Or.inr rfl, fun _ => ⟨(show (F18 43) = F 43 by first | rfl | (simp only [q_21, q_22, q_23, q_11, q_12, i_as])), (show (F18 70) = F 70 by first | rfl | (simp only [q_21, q_22, q_23, q_11, q_12, i_as])), (show 0 ≤ (F18 60).toInt from (inc60 n18 e18)), k_24, fun hl => ?_⟩⟩
              show F 54 = 0 → EOK F G x1 → TE X F G F18 (gup G18 59 (F7 60).toNatClampNeg (((2 : Int32) * (G 6 (F 42).toNatClampNeg)) + (0 : Int32))) 8 (fun s => 1 :: s)
              intro h54 hE
              have l_26 : LV (fup (fup F7 42 ((F7 42) + (1 : Int32))) 43 ((F7 43) - (1 : Int32))) := LV.mo hK18 (MO.kx hK18 rfl rfl) rfl rfl (show LV F18 from hl)
              have l_27 : LV (fup (fup F 43 ((F 43) + (1 : Int32))) 42 ((F 42) + (1 : Int32))) := LV.mo hK7 hM7 rfl rfl (show LV F7 from l_26)
              have l0 : LV F := l_27
              exact absurd hE.1 (by rw [c_1]; decide)
            · dsimp only
              unfold mb_element_86
              refine PP.ite (fun _ => ?_) (fun c_28 => absurd (by decide) c_28)
              unfold mb_element_89
              refine PP.ret ?_
              exact ⟨Or.inl rfl, fun h => absurd h (by decide)⟩
        · dsimp only
          unfold mb_element_70
          refine PP.ite (fun _ => ?_) (fun c_29 => absurd (by decide) c_29)
          unfold mb_element_89
          refine PP.ret ?_
          exact ⟨Or.inl rfl, fun h => absurd h (by decide)⟩
      · skip
        unfold mb_element_48
        refine PP.ix (fun _ => ?_)
        refine PP.ite (fun c_30 => ?_) (fun c_30 => ?_)
        · skip
          unfold mb_element_61
          unfold mb_element_62
          refine PP.bind (mp_openSign (24 : Int32) F G) ?_
          rintro r31 F31 G31 (⟨rfl, rfl, rfl, u31⟩ | ⟨rfl, u31, u31b⟩)
          · dsimp only
            have o_32 : ¬ F 43 = 40 := by
              have q : ¬ (F 43) = 40 := u31.2.1
              first | exact q | (simp only [i_as] at q; exact q)
            unfold mb_element_70
            refine PP.ite (fun c_33 => absurd c_33 (by decide)) (fun _ => ?_)
            unfold mb_element_73
            refine PP.bind (PP.and (ihK 4 0 0 (fup (fup F 43 ((F 43) + (1 : Int32))) 42 ((F 42) + (1 : Int32))) G) (PP.and (ihM 4 0 0 (fup (fup F 43 ((F 43) + (1 : Int32))) 42 ((F 42) + (1 : Int32))) G) (ihT 4 0 0 (fup (fup F 43 ((F 43) + (1 : Int32))) 42 ((F 42) + (1 : Int32))) G (TP.kx hT (KX.f (k := 42) rfl (KX.f (k := 43) rfl (KX.rf : KX [42, 43, 44, 45, 47, 48, 49, 55, 60, 62, 70] [56, 57, 58, 59, 67, 68, 69] F G F G))) (fun q => ((MO.f (k := 42) (by decide) (by decide) (MO.f (k := 43) (by decide) (by decide) (MO.rf : MO F F)))).1 q) rfl (show 0 ≤ ((F 43) + (1 : Int32)).toInt ∧ ((F 43) + (1 : Int32)).toInt ≤ 40 by first | exact (o_inc t43 o_32).2 | (simp only [i_as]; exact (o_inc t43 o_32).2)) (show 0 ≤ (F 70).toInt by first | exact t70 | (simp only [i_as]; exact t70)) (show 0 ≤ (F 60).toInt from hT.2.2.2.2.2.2.2.2))))) ?_
            rintro r34 F34 G34 ⟨hK34, hM34, (rfl | rfl), u34⟩
            · dsimp only
              unfold mb_element_77
              refine PP.ite (fun _ => ?_) (fun c_35 => absurd (by decide) c_35)
              unfold mb_element_89
              refine PP.ret ?_
              exact ⟨Or.inl rfl, fun h => absurd h (by decide)⟩
            · dsimp only
              obtain ⟨u34a, u34b, u34c, u34d, u34e⟩ := u34 rfl
              have k_36 : KX [42, 43, 44, 45, 47, 48, 49, 55, 60, 62, 70] [56, 57, 58, 59, 67, 68, 69] F G F34 G34 := (KX.tr (KX.f (k := 42) rfl (KX.f (k := 43) rfl (KX.rf : KX [42, 43, 44, 45, 47, 48, 49, 55, 60, 62, 70] [56, 57, 58, 59, 67, 68, 69] F G F G))) hK34 rfl rfl)
              have k_37 : MO F F34 := (MO.tr (MO.f (k := 42) (by decide) (by decide) (MO.f (k := 43) (by decide) (by decide) (MO.rf : MO F F))) hM34)
              have q_38 : F34 43 = ((F 43) + (1 : Int32)) := u34a
              have q_39 : F34 70 = (F 70) := u34b
              have q_40 : (fup (fup F 43 ((F 43) + (1 : Int32))) 42 ((F 42) + (1 : Int32))) 70 = F 70 := (show (F 70) = F 70 by first | rfl | (simp only [i_as]))
              have k_41 : PKp F G G34 := PKp.tr (show PKp F G G from (fun _ _ => ⟨rfl, rfl⟩ : PKp F G G)) u34d q_40
              unfold mb_element_77
              refine PP.ite (fun c_42 => absurd c_42 (by decide)) (fun _ => ?_)
              unfold mb_element_80
              refine PP.bind (mp_closeSign (25 : Int32) F34 G34) ?_
              rintro r43 F43 G43 (⟨rfl, rfl, rfl, u43⟩ | ⟨rfl, u43, u43b⟩)
              · dsimp only
                unfold mb_element_86
                refine PP.ite (fun c_44 => absurd c_44 (by decide)) (fun _ => ?_)
                unfold mb_element_91
                refine PP.bind (mq_step (6 : Int32) (0 : Int32) (1 : Int32) (fup (fup F34 42 ((F34 42) + (1 : Int32))) 43 ((F34 43) - (1 : Int32))) G34) ?_
                rintro _ F45 G45 ⟨hK45, rfl, e45, g45, n45⟩
                dsimp only
                have k_46 : KX [42, 43, 44, 45, 47, 48, 49, 55, 60, 62, 70] [56, 57, 58, 59, 67, 68, 69] F G F45 G45 := (KX.tr (KX.f (k := 43) rfl (KX.f (k := 42) rfl k_36)) hK45 rfl rfl)
                have k_47 : MO F F45 := (MO.tr (MO.f (k := 43) (by decide) (by decide) (MO.f (k := 42) (by decide) (by decide) k_37)) (MO.kx hK45 rfl rfl))
                have q_48 : F45 42 = ((F34 42) + (1 : Int32)) := hK45.1 42 rfl
                have q_49 : F45 43 = (F 43) := Eq.trans (hK45.1 43 rfl) (show ((F34 43) - (1 : Int32)) = (F 43) by simp only [q_38, q_39, i_as])
                have q_50 : F45 70 = (F 70) := Eq.trans (hK45.1 70 rfl) (show (F34 70) = (F 70) by simp only [q_38, q_39, i_as])
                have k_51 : PKp F G G45 := PKp.kx (show PKp F G G34 from k_41) hK45 rfl rfl
                unfold mb_element_100
                refine PP.ite (fun _ => ?_) (fun c_52 => absurd (by decide) c_52)
                unfold mb_element_120
                unfold mb_element_121
                refine PP.ix (fun _ => ?_)
                unfold mb_element_123
                refine PP.ret ?_
                refine ⟨Or.inr rfl, fun _ => ⟨(show (F45 43) = F 43 by first | rfl | (simp only [q_48, q_49, q_50, q_38, q_39, i_as])), (show (F45 70) = F 70 by first | rfl | (simp only [q_48, q_49, q_50, q_38, q_39, i_as])), (show 0 ≤ (F45 60).toInt from (inc60 n45 e45)), k_51, fun hl => ?_⟩⟩
                show F 54 = 0 → EOK F G x1 → TE X F G F45 (gup G45 59 (F34 60).toNatClampNeg (((2 : Int32) * (G 6 (F 42).toNatClampNeg)) + (0 : Int32))) 8 (fun s => 1 :: s)
                intro h54 hE
                have l_53 : LV (fup (fup F34 42 ((F34 42) + (1 : Int32))) 43 ((F34 43) - (1 : Int32))) := LV.mo hK45 (MO.kx hK45 rfl rfl) rfl rfl (show LV F45 from hl)
                have l_54 : LV (fup (fup F 43 ((F 43) + (1 : Int32))) 42 ((F 42) + (1 : Int32))) := LV.mo hK34 hM34 rfl rfl (show LV F34 from l_53)
                have l0 : LV F := l_54
                exact absurd hE.1 (by rw [c_1]; decide)
              · dsimp only
                unfold mb_element_86
                refine PP.ite (fun _ => ?_) (fun c_55 => absurd (by decide) c_55)
                unfold mb_element_89
                refine PP.ret ?_
                exact ⟨Or.inl rfl, fun h => absurd h (by decide)⟩
          · dsimp only
            unfold mb_element_70
            refine PP.ite (fun _ => ?_) (fun c_56 => absurd (by decide) c_56)
            unfold mb_element_89
            refine PP.ret ?_
            exact ⟨Or.inl rfl, fun h => absurd h (by decide)⟩
        · skip
          unfold mb_element_57
          unfold mb_element_62
          refine PP.bind (mp_openSign (24 : Int32) F G) ?_
          rintro r57 F57 G57 (⟨rfl, rfl, rfl, u57⟩ | ⟨rfl, u57, u57b⟩)
          · dsimp only
            have o_58 : ¬ F 43 = 40 := by
              have q : ¬ (F 43) = 40 := u57.2.1
              first | exact q | (simp only [i_as] at q; exact q)
            unfold mb_element_70
            refine PP.ite (fun c_59 => absurd c_59 (by decide)) (fun _ => ?_)
            unfold mb_element_73
            refine PP.bind (PP.and (ihK 4 0 0 (fup (fup F 43 ((F 43) + (1 : Int32))) 42 ((F 42) + (1 : Int32))) G) (PP.and (ihM 4 0 0 (fup (fup F 43 ((F 43) + (1 : Int32))) 42 ((F 42) + (1 : Int32))) G) (ihT 4 0 0 (fup (fup F 43 ((F 43) + (1 : Int32))) 42 ((F 42) + (1 : Int32))) G (TP.kx hT (KX.f (k := 42) rfl (KX.f (k := 43) rfl (KX.rf : KX [42, 43, 44, 45, 47, 48, 49, 55, 60, 62, 70] [56, 57, 58, 59, 67, 68, 69] F G F G))) (fun q => ((MO.f (k := 42) (by decide) (by decide) (MO.f (k := 43) (by decide) (by decide) (MO.rf : MO F F)))).1 q) rfl (show 0 ≤ ((F 43) + (1 : Int32)).toInt ∧ ((F 43) + (1 : Int32)).toInt ≤ 40 by first | exact (o_inc t43 o_58).2 | (simp only [i_as]; exact (o_inc t43 o_58).2)) (show 0 ≤ (F 70).toInt by first | exact t70 | (simp only [i_as]; exact t70)) (show 0 ≤ (F 60).toInt from hT.2.2.2.2.2.2.2.2))))) ?_
            rintro r60 F60 G60 ⟨hK60, hM60, (rfl | rfl), u60⟩
            · dsimp only
              unfold mb_element_77
              refine PP.ite (fun _ => ?_) (fun c_61 => absurd (by decide) c_61)
              unfold mb_element_89
              refine PP.ret ?_
              exact ⟨Or.inl rfl, fun h => absurd h (by decide)⟩
            · dsimp only
              obtain ⟨u60a, u60b, u60c, u60d, u60e⟩ := u60 rfl
              have k_62 : KX [42, 43, 44, 45, 47, 48, 49, 55, 60, 62, 70] [56, 57, 58, 59, 67, 68, 69] F G F60 G60 := (KX.tr (KX.f (k := 42) rfl (KX.f (k := 43) rfl (KX.rf : KX [42, 43, 44, 45, 47, 48, 49, 55, 60, 62, 70] [56, 57, 58, 59, 67, 68, 69] F G F G))) hK60 rfl rfl)
              have k_63 : MO F F60 := (MO.tr (MO.f (k := 42) (by decide) (by decide) (MO.f (k := 43) (by decide) (by decide) (MO.rf : MO F F))) hM60)
              have q_64 : F60 43 = ((F 43) + (1 : Int32)) := u60a
              have q_65 : F60 70 = (F 70) := u60b
              have q_66 : (fup (fup F 43 ((F 43) + (1 : Int32))) 42 ((F 42) + (1 : Int32))) 70 = F 70 := (show (F 70) = F 70 by first | rfl | (simp only [i_as]))
              have k_67 : PKp F G G60 := PKp.tr (show PKp F G G from (fun _ _ => ⟨rfl, rfl⟩ : PKp F G G)) u60d q_66
              unfold mb_element_77
              refine PP.ite (fun c_68 => absurd c_68 (by decide)) (fun _ => ?_)
              unfold mb_element_80
              refine PP.bind (mp_closeSign (25 : Int32) F60 G60) ?_
              rintro r69 F69 G69 (⟨rfl, rfl, rfl, u69⟩ | ⟨rfl, u69, u69b⟩)
              · dsimp only
                unfold mb_element_86
                refine PP.ite (fun c_70 => absurd c_70 (by decide)) (fun _ => ?_)
                unfold mb_element_91
                refine PP.bind (mq_step (6 : Int32) (0 : Int32) (1 : Int32) (fup (fup F60 42 ((F60 42) + (1 : Int32))) 43 ((F60 43) - (1 : Int32))) G60) ?_
                rintro _ F71 G71 ⟨hK71, rfl, e71, g71, n71⟩
                dsimp only
                have k_72 : KX [42, 43, 44, 45, 47, 48, 49, 55, 60, 62, 70] [56, 57, 58, 59, 67, 68, 69] F G F71 G71 := (KX.tr (KX.f (k := 43) rfl (KX.f (k := 42) rfl k_62)) hK71 rfl rfl)
                have k_73 : MO F F71 := (MO.tr (MO.f (k := 43) (by decide) (by decide) (MO.f (k := 42) (by decide) (by decide) k_63)) (MO.kx hK71 rfl rfl))
                have q_74 : F71 42 = ((F60 42) + (1 : Int32)) := hK71.1 42 rfl
                have q_75 : F71 43 = (F 43) := Eq.trans (hK71.1 43 rfl) (show ((F60 43) - (1 : Int32)) = (F 43) by simp only [q_64, q_65, i_as])
                have q_76 : F71 70 = (F 70) := Eq.trans (hK71.1 70 rfl) (show (F60 70) = (F 70) by simp only [q_64, q_65, i_as])
                have k_77 : PKp F G G71 := PKp.kx (show PKp F G G60 from k_67) hK71 rfl rfl
                unfold mb_element_100
                refine PP.ite (fun c_78 => absurd c_78 (by decide)) (fun _ => ?_)
                unfold mb_element_116
                unfold mb_element_121
                refine PP.ix (fun _ => ?_)
                unfold mb_element_123
                refine PP.ret ?_
                refine ⟨Or.inr rfl, fun _ => ⟨(show (F71 43) = F 43 by first | rfl | (simp only [q_74, q_75, q_76, q_64, q_65, i_as])), (show (F71 70) = F 70 by first | rfl | (simp only [q_74, q_75, q_76, q_64, q_65, i_as])), (show 0 ≤ (F71 60).toInt from (inc60 n71 e71)), k_77, fun hl => ?_⟩⟩
                show F 54 = 0 → EOK F G x1 → TE X F G F71 (gup G71 59 (F60 60).toNatClampNeg (((2 : Int32) * (G 6 (F 42).toNatClampNeg)) + (1 : Int32))) 8 (fun s => 1 :: s)
                intro h54 hE
                have l_79 : LV (fup (fup F60 42 ((F60 42) + (1 : Int32))) 43 ((F60 43) - (1 : Int32))) := LV.mo hK71 (MO.kx hK71 rfl rfl) rfl rfl (show LV F71 from hl)
                have l_80 : LV (fup (fup F 43 ((F 43) + (1 : Int32))) 42 ((F 42) + (1 : Int32))) := LV.mo hK60 hM60 rfl rfl (show LV F60 from l_79)
                have l0 : LV F := l_80
                exact absurd hE.1 (by rw [c_1]; decide)
              · dsimp only
                unfold mb_element_86
                refine PP.ite (fun _ => ?_) (fun c_81 => absurd (by decide) c_81)
                unfold mb_element_89
                refine PP.ret ?_
                exact ⟨Or.inl rfl, fun h => absurd h (by decide)⟩
          · dsimp only
            unfold mb_element_70
            refine PP.ite (fun _ => ?_) (fun c_82 => absurd (by decide) c_82)
            unfold mb_element_89
            refine PP.ret ?_
            exact ⟨Or.inl rfl, fun h => absurd h (by decide)⟩
    · skip
      unfold mb_element_35
      refine PP.ix (fun _ => ?_)
      unfold mb_element_41
      refine PP.ite (fun c_83 => ?_) (fun c_83 => ?_)
      · skip
        unfold mb_element_61
        unfold mb_element_62
        refine PP.bind (mp_openSign (24 : Int32) F G) ?_
        rintro r84 F84 G84 (⟨rfl, rfl, rfl, u84⟩ | ⟨rfl, u84, u84b⟩)
        · dsimp only
          have o_85 : ¬ F 43 = 40 := by
            have q : ¬ (F 43) = 40 := u84.2.1
            first | exact q | (simp only [i_as] at q; exact q)
          unfold mb_element_70
          refine PP.ite (fun c_86 => absurd c_86 (by decide)) (fun _ => ?_)
          unfold mb_element_73
          refine PP.bind (PP.and (ihK 4 0 0 (fup (fup F 43 ((F 43) + (1 : Int32))) 42 ((F 42) + (1 : Int32))) G) (PP.and (ihM 4 0 0 (fup (fup F 43 ((F 43) + (1 : Int32))) 42 ((F 42) + (1 : Int32))) G) (ihT 4 0 0 (fup (fup F 43 ((F 43) + (1 : Int32))) 42 ((F 42) + (1 : Int32))) G (TP.kx hT (KX.f (k := 42) rfl (KX.f (k := 43) rfl (KX.rf : KX [42, 43, 44, 45, 47, 48, 49, 55, 60, 62, 70] [56, 57, 58, 59, 67, 68, 69] F G F G))) (fun q => ((MO.f (k := 42) (by decide) (by decide) (MO.f (k := 43) (by decide) (by decide) (MO.rf : MO F F)))).1 q) rfl (show 0 ≤ ((F 43) + (1 : Int32)).toInt ∧ ((F 43) + (1 : Int32)).toInt ≤ 40 by first | exact (o_inc t43 o_85).2 | (simp only [i_as]; exact (o_inc t43 o_85).2)) (show 0 ≤ (F 70).toInt by first | exact t70 | (simp only [i_as]; exact t70)) (show 0 ≤ (F 60).toInt from hT.2.2.2.2.2.2.2.2))))) ?_
          rintro r87 F87 G87 ⟨hK87, hM87, (rfl | rfl), u87⟩
          · dsimp only
            unfold mb_element_77
            refine PP.ite (fun _ => ?_) (fun c_88 => absurd (by decide) c_88)
            unfold mb_element_89
            refine PP.ret ?_
            exact ⟨Or.inl rfl, fun h => absurd h (by decide)⟩
          · dsimp only
            obtain ⟨u87a, u87b, u87c, u87d, u87e⟩ := u87 rfl
            have k_89 : KX [42, 43, 44, 45, 47, 48, 49, 55, 60, 62, 70] [56, 57, 58, 59, 67, 68, 69] F G F87 G87 := (KX.tr (KX.f (k := 42) rfl (KX.f (k := 43) rfl (KX.rf : KX [42, 43, 44, 45, 47, 48, 49, 55, 60, 62, 70] [56, 57, 58, 59, 67, 68, 69] F G F G))) hK87 rfl rfl)
            have k_90 : MO F F87 := (MO.tr (MO.f (k := 42) (by decide) (by decide) (MO.f (k := 43) (by decide) (by decide) (MO.rf : MO F F))) hM87)
            have q_91 : F87 43 = ((F 43) + (1 : Int32)) := u87a
            have q_92 : F87 70 = (F 70) := u87b
            have q_93 : (fup (fup F 43 ((F 43) + (1 : Int32))) 42 ((F 42) + (1 : Int32))) 70 = F 70 := (show (F 70) = F 70 by first | rfl | (simp only [i_as]))
            have k_94 : PKp F G G87 := PKp.tr (show PKp F G G from (fun _ _ => ⟨rfl, rfl⟩ : PKp F G G)) u87d q_93
            unfold mb_element_77
            refine PP.ite (fun c_95 => absurd c_95 (by decide)) (fun _ => ?_)
            unfold mb_element_80
            refine PP.bind (mp_closeSign (25 : Int32) F87 G87) ?_
            rintro r96 F96 G96 (⟨rfl, rfl, rfl, u96⟩ | ⟨rfl, u96, u96b⟩)
            · dsimp only
              unfold mb_element_86
              refine PP.ite (fun c_97 => absurd c_97 (by decide)) (fun _ => ?_)
              unfold mb_element_91
              refine PP.bind (mq_step (6 : Int32) (0 : Int32) (G 21 x1.toNatClampNeg) (fup (fup F87 42 ((F87 42) + (1 : Int32))) 43 ((F87 43) - (1 : Int32))) G87) ?_
              rintro _ F98 G98 ⟨hK98, rfl, e98, g98, n98⟩
              dsimp only
              have k_99 : KX [42, 43, 44, 45, 47, 48, 49, 55, 60, 62, 70] [56, 57, 58, 59, 67, 68, 69] F G F98 G98 := (KX.tr (KX.f (k := 43) rfl (KX.f (k := 42) rfl k_89)) hK98 rfl rfl)
              have k_100 : MO F F98 := (MO.tr (MO.f (k := 43) (by decide) (by decide) (MO.f (k := 42) (by decide) (by decide) k_90)) (MO.kx hK98 rfl rfl))
              have q_101 : F98 42 = ((F87 42) + (1 : Int32)) := hK98.1 42 rfl
              have q_102 : F98 43 = (F 43) := Eq.trans (hK98.1 43 rfl) (show ((F87 43) - (1 : Int32)) = (F 43) by simp only [q_91, q_92, i_as])
              have q_103 : F98 70 = (F 70) := Eq.trans (hK98.1 70 rfl) (show (F87 70) = (F 70) by simp only [q_91, q_92, i_as])
              have k_104 : PKp F G G98 := PKp.kx (show PKp F G G87 from k_94) hK98 rfl rfl
              unfold mb_element_100
              refine PP.ite (fun _ => ?_) (fun c_105 => absurd (by decide) c_105)
              unfold mb_element_120
              unfold mb_element_121
              refine PP.ix (fun _ => ?_)
              unfold mb_element_123
              refine PP.ret ?_
              refine ⟨Or.inr rfl, fun _ => ⟨(show (F98 43) = F 43 by first | rfl | (simp only [q_101, q_102, q_103, q_91, q_92, i_as])), (show (F98 70) = F 70 by first | rfl | (simp only [q_101, q_102, q_103, q_91, q_92, i_as])), (show 0 ≤ (F98 60).toInt from (inc60 n98 e98)), k_104, fun hl => ?_⟩⟩
              show F 54 = 0 → EOK F G x1 → TE X F G F98 (gup G98 59 (F87 60).toNatClampNeg (((2 : Int32) * (G 6 (F 42).toNatClampNeg)) + (0 : Int32))) 8 (fun s => 1 :: s)
              intro h54 hE
              have l_106 : LV (fup (fup F87 42 ((F87 42) + (1 : Int32))) 43 ((F87 43) - (1 : Int32))) := LV.mo hK98 (MO.kx hK98 rfl rfl) rfl rfl (show LV F98 from hl)
              have l_107 : LV (fup (fup F 43 ((F 43) + (1 : Int32))) 42 ((F 42) + (1 : Int32))) := LV.mo hK87 hM87 rfl rfl (show LV F87 from l_106)
              have l0 : LV F := l_107
              exact absurd hE.1 (by rw [c_1]; decide)
            · dsimp only
              unfold mb_element_86
              refine PP.ite (fun _ => ?_) (fun c_108 => absurd (by decide) c_108)
              unfold mb_element_89
              refine PP.ret ?_
              exact ⟨Or.inl rfl, fun h => absurd h (by decide)⟩
        · dsimp only
          unfold mb_element_70
          refine PP.ite (fun _ => ?_) (fun c_109 => absurd (by decide) c_109)
          unfold mb_element_89
          refine PP.ret ?_
          exact ⟨Or.inl rfl, fun h => absurd h (by decide)⟩
      · skip
        unfold mb_element_48
        refine PP.ix (fun _ => ?_)
        refine PP.ite (fun c_110 => ?_) (fun c_110 => ?_)
        · skip
          unfold mb_element_61
          unfold mb_element_62
          refine PP.bind (mp_openSign (24 : Int32) F G) ?_
          rintro r111 F111 G111 (⟨rfl, rfl, rfl, u111⟩ | ⟨rfl, u111, u111b⟩)
          · dsimp only
            have o_112 : ¬ F 43 = 40 := by
              have q : ¬ (F 43) = 40 := u111.2.1
              first | exact q | (simp only [i_as] at q; exact q)
            unfold mb_element_70
            refine PP.ite (fun c_113 => absurd c_113 (by decide)) (fun _ => ?_)
            unfold mb_element_73
            refine PP.bind (PP.and (ihK 4 0 0 (fup (fup F 43 ((F 43) + (1 : Int32))) 42 ((F 42) + (1 : Int32))) G) (PP.and (ihM 4 0 0 (fup (fup F 43 ((F 43) + (1 : Int32))) 42 ((F 42) + (1 : Int32))) G) (ihT 4 0 0 (fup (fup F 43 ((F 43) + (1 : Int32))) 42 ((F 42) + (1 : Int32))) G (TP.kx hT (KX.f (k := 42) rfl (KX.f (k := 43) rfl (KX.rf : KX [42, 43, 44, 45, 47, 48, 49, 55, 60, 62, 70] [56, 57, 58, 59, 67, 68, 69] F G F G))) (fun q => ((MO.f (k := 42) (by decide) (by decide) (MO.f (k := 43) (by decide) (by decide) (MO.rf : MO F F)))).1 q) rfl (show 0 ≤ ((F 43) + (1 : Int32)).toInt ∧ ((F 43) + (1 : Int32)).toInt ≤ 40 by first | exact (o_inc t43 o_112).2 | (simp only [i_as]; exact (o_inc t43 o_112).2)) (show 0 ≤ (F 70).toInt by first | exact t70 | (simp only [i_as]; exact t70)) (show 0 ≤ (F 60).toInt from hT.2.2.2.2.2.2.2.2))))) ?_
            rintro r114 F114 G114 ⟨hK114, hM114, (rfl | rfl), u114⟩
            · dsimp only
              unfold mb_element_77
              refine PP.ite (fun _ => ?_) (fun c_115 => absurd (by decide) c_115)
              unfold mb_element_89
              refine PP.ret ?_
              exact ⟨Or.inl rfl, fun h => absurd h (by decide)⟩
            · dsimp only
              obtain ⟨u114a, u114b, u114c, u114d, u114e⟩ := u114 rfl
              have k_116 : KX [42, 43, 44, 45, 47, 48, 49, 55, 60, 62, 70] [56, 57, 58, 59, 67, 68, 69] F G F114 G114 := (KX.tr (KX.f (k := 42) rfl (KX.f (k := 43) rfl (KX.rf : KX [42, 43, 44, 45, 47, 48, 49, 55, 60, 62, 70] [56, 57, 58, 59, 67, 68, 69] F G F G))) hK114 rfl rfl)
              have k_117 : MO F F114 := (MO.tr (MO.f (k := 42) (by decide) (by decide) (MO.f (k := 43) (by decide) (by decide) (MO.rf : MO F F))) hM114)
              have q_118 : F114 43 = ((F 43) + (1 : Int32)) := u114a
              have q_119 : F114 70 = (F 70) := u114b
              have q_120 : (fup (fup F 43 ((F 43) + (1 : Int32))) 42 ((F 42) + (1 : Int32))) 70 = F 70 := (show (F 70) = F 70 by first | rfl | (simp only [i_as]))
              have k_121 : PKp F G G114 := PKp.tr (show PKp F G G from (fun _ _ => ⟨rfl, rfl⟩ : PKp F G G)) u114d q_120
              unfold mb_element_77
              refine PP.ite (fun c_122 => absurd c_122 (by decide)) (fun _ => ?_)
              unfold mb_element_80
              refine PP.bind (mp_closeSign (25 : Int32) F114 G114) ?_
              rintro r123 F123 G123 (⟨rfl, rfl, rfl, u123⟩ | ⟨rfl, u123, u123b⟩)
              · dsimp only
                unfold mb_element_86
                refine PP.ite (fun c_124 => absurd c_124 (by decide)) (fun _ => ?_)
                unfold mb_element_91
                refine PP.bind (mq_step (6 : Int32) (0 : Int32) (G 21 x1.toNatClampNeg) (fup (fup F114 42 ((F114 42) + (1 : Int32))) 43 ((F114 43) - (1 : Int32))) G114) ?_
                rintro _ F125 G125 ⟨hK125, rfl, e125, g125, n125⟩
                dsimp only
                have k_126 : KX [42, 43, 44, 45, 47, 48, 49, 55, 60, 62, 70] [56, 57, 58, 59, 67, 68, 69] F G F125 G125 := (KX.tr (KX.f (k := 43) rfl (KX.f (k := 42) rfl k_116)) hK125 rfl rfl)
                have k_127 : MO F F125 := (MO.tr (MO.f (k := 43) (by decide) (by decide) (MO.f (k := 42) (by decide) (by decide) k_117)) (MO.kx hK125 rfl rfl))
                have q_128 : F125 42 = ((F114 42) + (1 : Int32)) := hK125.1 42 rfl
                have q_129 : F125 43 = (F 43) := Eq.trans (hK125.1 43 rfl) (show ((F114 43) - (1 : Int32)) = (F 43) by simp only [q_118, q_119, i_as])
                have q_130 : F125 70 = (F 70) := Eq.trans (hK125.1 70 rfl) (show (F114 70) = (F 70) by simp only [q_118, q_119, i_as])
                have k_131 : PKp F G G125 := PKp.kx (show PKp F G G114 from k_121) hK125 rfl rfl
                unfold mb_element_100
                refine PP.ite (fun _ => ?_) (fun c_132 => absurd (by decide) c_132)
                unfold mb_element_120
                unfold mb_element_121
                refine PP.ix (fun _ => ?_)
                unfold mb_element_123
                refine PP.ret ?_
                refine ⟨Or.inr rfl, fun _ => ⟨(show (F125 43) = F 43 by first | rfl | (simp only [q_128, q_129, q_130, q_118, q_119, i_as])), (show (F125 70) = F 70 by first | rfl | (simp only [q_128, q_129, q_130, q_118, q_119, i_as])), (show 0 ≤ (F125 60).toInt from (inc60 n125 e125)), k_131, fun hl => ?_⟩⟩
                show F 54 = 0 → EOK F G x1 → TE X F G F125 (gup G125 59 (F114 60).toNatClampNeg (((2 : Int32) * (G 6 (F 42).toNatClampNeg)) + (0 : Int32))) 8 (fun s => 1 :: s)
                intro h54 hE
                have l_133 : LV (fup (fup F114 42 ((F114 42) + (1 : Int32))) 43 ((F114 43) - (1 : Int32))) := LV.mo hK125 (MO.kx hK125 rfl rfl) rfl rfl (show LV F125 from hl)
                have l_134 : LV (fup (fup F 43 ((F 43) + (1 : Int32))) 42 ((F 42) + (1 : Int32))) := LV.mo hK114 hM114 rfl rfl (show LV F114 from l_133)
                have l0 : LV F := l_134
                exact absurd hE.1 (by rw [c_1]; decide)
              · dsimp only
                unfold mb_element_86
                refine PP.ite (fun _ => ?_) (fun c_135 => absurd (by decide) c_135)
                unfold mb_element_89
                refine PP.ret ?_
                exact ⟨Or.inl rfl, fun h => absurd h (by decide)⟩
          · dsimp only
            unfold mb_element_70
            refine PP.ite (fun _ => ?_) (fun c_136 => absurd (by decide) c_136)
            unfold mb_element_89
            refine PP.ret ?_
            exact ⟨Or.inl rfl, fun h => absurd h (by decide)⟩
        · skip
          unfold mb_element_57
          unfold mb_element_62
          refine PP.bind (mp_openSign (24 : Int32) F G) ?_
          rintro r137 F137 G137 (⟨rfl, rfl, rfl, u137⟩ | ⟨rfl, u137, u137b⟩)
          · dsimp only
            have o_138 : ¬ F 43 = 40 := by
              have q : ¬ (F 43) = 40 := u137.2.1
              first | exact q | (simp only [i_as] at q; exact q)
            unfold mb_element_70
            refine PP.ite (fun c_139 => absurd c_139 (by decide)) (fun _ => ?_)
            unfold mb_element_73
            refine PP.bind (PP.and (ihK 4 0 0 (fup (fup F 43 ((F 43) + (1 : Int32))) 42 ((F 42) + (1 : Int32))) G) (PP.and (ihM 4 0 0 (fup (fup F 43 ((F 43) + (1 : Int32))) 42 ((F 42) + (1 : Int32))) G) (ihT 4 0 0 (fup (fup F 43 ((F 43) + (1 : Int32))) 42 ((F 42) + (1 : Int32))) G (TP.kx hT (KX.f (k := 42) rfl (KX.f (k := 43) rfl (KX.rf : KX [42, 43, 44, 45, 47, 48, 49, 55, 60, 62, 70] [56, 57, 58, 59, 67, 68, 69] F G F G))) (fun q => ((MO.f (k := 42) (by decide) (by decide) (MO.f (k := 43) (by decide) (by decide) (MO.rf : MO F F)))).1 q) rfl (show 0 ≤ ((F 43) + (1 : Int32)).toInt ∧ ((F 43) + (1 : Int32)).toInt ≤ 40 by first | exact (o_inc t43 o_138).2 | (simp only [i_as]; exact (o_inc t43 o_138).2)) (show 0 ≤ (F 70).toInt by first | exact t70 | (simp only [i_as]; exact t70)) (show 0 ≤ (F 60).toInt from hT.2.2.2.2.2.2.2.2))))) ?_
            rintro r140 F140 G140 ⟨hK140, hM140, (rfl | rfl), u140⟩
            · dsimp only
              unfold mb_element_77
              refine PP.ite (fun _ => ?_) (fun c_141 => absurd (by decide) c_141)
              unfold mb_element_89
              refine PP.ret ?_
              exact ⟨Or.inl rfl, fun h => absurd h (by decide)⟩
            · dsimp only
              obtain ⟨u140a, u140b, u140c, u140d, u140e⟩ := u140 rfl
              have k_142 : KX [42, 43, 44, 45, 47, 48, 49, 55, 60, 62, 70] [56, 57, 58, 59, 67, 68, 69] F G F140 G140 := (KX.tr (KX.f (k := 42) rfl (KX.f (k := 43) rfl (KX.rf : KX [42, 43, 44, 45, 47, 48, 49, 55, 60, 62, 70] [56, 57, 58, 59, 67, 68, 69] F G F G))) hK140 rfl rfl)
              have k_143 : MO F F140 := (MO.tr (MO.f (k := 42) (by decide) (by decide) (MO.f (k := 43) (by decide) (by decide) (MO.rf : MO F F))) hM140)
              have q_144 : F140 43 = ((F 43) + (1 : Int32)) := u140a
              have q_145 : F140 70 = (F 70) := u140b
              have q_146 : (fup (fup F 43 ((F 43) + (1 : Int32))) 42 ((F 42) + (1 : Int32))) 70 = F 70 := (show (F 70) = F 70 by first | rfl | (simp only [i_as]))
              have k_147 : PKp F G G140 := PKp.tr (show PKp F G G from (fun _ _ => ⟨rfl, rfl⟩ : PKp F G G)) u140d q_146
              unfold mb_element_77
              refine PP.ite (fun c_148 => absurd c_148 (by decide)) (fun _ => ?_)
              unfold mb_element_80
              refine PP.bind (mp_closeSign (25 : Int32) F140 G140) ?_
              rintro r149 F149 G149 (⟨rfl, rfl, rfl, u149⟩ | ⟨rfl, u149, u149b⟩)
              · dsimp only
                unfold mb_element_86
                refine PP.ite (fun c_150 => absurd c_150 (by decide)) (fun _ => ?_)
                unfold mb_element_91
                refine PP.bind (mq_step (6 : Int32) (0 : Int32) (G 21 x1.toNatClampNeg) (fup (fup F140 42 ((F140 42) + (1 : Int32))) 43 ((F140 43) - (1 : Int32))) G140) ?_
                rintro _ F151 G151 ⟨hK151, rfl, e151, g151, n151⟩
                dsimp only
                have k_152 : KX [42, 43, 44, 45, 47, 48, 49, 55, 60, 62, 70] [56, 57, 58, 59, 67, 68, 69] F G F151 G151 := (KX.tr (KX.f (k := 43) rfl (KX.f (k := 42) rfl k_142)) hK151 rfl rfl)
                have k_153 : MO F F151 := (MO.tr (MO.f (k := 43) (by decide) (by decide) (MO.f (k := 42) (by decide) (by decide) k_143)) (MO.kx hK151 rfl rfl))
                have q_154 : F151 42 = ((F140 42) + (1 : Int32)) := hK151.1 42 rfl
                have q_155 : F151 43 = (F 43) := Eq.trans (hK151.1 43 rfl) (show ((F140 43) - (1 : Int32)) = (F 43) by simp only [q_144, q_145, i_as])
                have q_156 : F151 70 = (F 70) := Eq.trans (hK151.1 70 rfl) (show (F140 70) = (F 70) by simp only [q_144, q_145, i_as])
                have k_157 : PKp F G G151 := PKp.kx (show PKp F G G140 from k_147) hK151 rfl rfl
                unfold mb_element_100
                refine PP.ite (fun c_158 => absurd c_158 (by decide)) (fun _ => ?_)
                unfold mb_element_116
                unfold mb_element_121
                refine PP.ix (fun _ => ?_)
                unfold mb_element_123
                refine PP.ret ?_
                refine ⟨Or.inr rfl, fun _ => ⟨(show (F151 43) = F 43 by first | rfl | (simp only [q_154, q_155, q_156, q_144, q_145, i_as])), (show (F151 70) = F 70 by first | rfl | (simp only [q_154, q_155, q_156, q_144, q_145, i_as])), (show 0 ≤ (F151 60).toInt from (inc60 n151 e151)), k_157, fun hl => ?_⟩⟩
                show F 54 = 0 → EOK F G x1 → TE X F G F151 (gup G151 59 (F140 60).toNatClampNeg (((2 : Int32) * (G 6 (F 42).toNatClampNeg)) + (1 : Int32))) 8 (fun s => 1 :: s)
                intro h54 hE
                have l_159 : LV (fup (fup F140 42 ((F140 42) + (1 : Int32))) 43 ((F140 43) - (1 : Int32))) := LV.mo hK151 (MO.kx hK151 rfl rfl) rfl rfl (show LV F151 from hl)
                have l_160 : LV (fup (fup F 43 ((F 43) + (1 : Int32))) 42 ((F 42) + (1 : Int32))) := LV.mo hK140 hM140 rfl rfl (show LV F140 from l_159)
                have l0 : LV F := l_160
                exact absurd hE.1 (by rw [c_1]; decide)
              · dsimp only
                unfold mb_element_86
                refine PP.ite (fun _ => ?_) (fun c_161 => absurd (by decide) c_161)
                unfold mb_element_89
                refine PP.ret ?_
                exact ⟨Or.inl rfl, fun h => absurd h (by decide)⟩
          · dsimp only
            unfold mb_element_70
            refine PP.ite (fun _ => ?_) (fun c_162 => absurd (by decide) c_162)
            unfold mb_element_89
            refine PP.ret ?_
            exact ⟨Or.inl rfl, fun h => absurd h (by decide)⟩
  · skip
    unfold mb_element_19
    refine PP.ix (fun _ => ?_)
    unfold mb_element_25
    refine PP.ite (fun c_163 => ?_) (fun c_163 => ?_)
    · skip
      unfold mb_element_31
      unfold mb_element_41
      refine PP.ite (fun c_164 => ?_) (fun c_164 => ?_)
      · skip
        unfold mb_element_61
        unfold mb_element_62
        refine PP.bind (mp_openSign (24 : Int32) F G) ?_
        rintro r165 F165 G165 (⟨rfl, rfl, rfl, u165⟩ | ⟨rfl, u165, u165b⟩)
        · dsimp only
          have o_166 : ¬ F 43 = 40 := by
            have q : ¬ (F 43) = 40 := u165.2.1
            first | exact q | (simp only [i_as] at q; exact q)
          unfold mb_element_70
          refine PP.ite (fun c_167 => absurd c_167 (by decide)) (fun _ => ?_)
          unfold mb_element_73
          refine PP.bind (PP.and (ihK 4 0 0 (fup (fup F 43 ((F 43) + (1 : Int32))) 42 ((F 42) + (1 : Int32))) G) (PP.and (ihM 4 0 0 (fup (fup F 43 ((F 43) + (1 : Int32))) 42 ((F 42) + (1 : Int32))) G) (ihT 4 0 0 (fup (fup F 43 ((F 43) + (1 : Int32))) 42 ((F 42) + (1 : Int32))) G (TP.kx hT (KX.f (k := 42) rfl (KX.f (k := 43) rfl (KX.rf : KX [42, 43, 44, 45, 47, 48, 49, 55, 60, 62, 70] [56, 57, 58, 59, 67, 68, 69] F G F G))) (fun q => ((MO.f (k := 42) (by decide) (by decide) (MO.f (k := 43) (by decide) (by decide) (MO.rf : MO F F)))).1 q) rfl (show 0 ≤ ((F 43) + (1 : Int32)).toInt ∧ ((F 43) + (1 : Int32)).toInt ≤ 40 by first | exact (o_inc t43 o_166).2 | (simp only [i_as]; exact (o_inc t43 o_166).2)) (show 0 ≤ (F 70).toInt by first | exact t70 | (simp only [i_as]; exact t70)) (show 0 ≤ (F 60).toInt from hT.2.2.2.2.2.2.2.2))))) ?_
          rintro r168 F168 G168 ⟨hK168, hM168, (rfl | rfl), u168⟩
          · dsimp only
            unfold mb_element_77
            refine PP.ite (fun _ => ?_) (fun c_169 => absurd (by decide) c_169)
            unfold mb_element_89
            refine PP.ret ?_
            exact ⟨Or.inl rfl, fun h => absurd h (by decide)⟩
          · dsimp only
            obtain ⟨u168a, u168b, u168c, u168d, u168e⟩ := u168 rfl
            have k_170 : KX [42, 43, 44, 45, 47, 48, 49, 55, 60, 62, 70] [56, 57, 58, 59, 67, 68, 69] F G F168 G168 := (KX.tr (KX.f (k := 42) rfl (KX.f (k := 43) rfl (KX.rf : KX [42, 43, 44, 45, 47, 48, 49, 55, 60, 62, 70] [56, 57, 58, 59, 67, 68, 69] F G F G))) hK168 rfl rfl)
            have k_171 : MO F F168 := (MO.tr (MO.f (k := 42) (by decide) (by decide) (MO.f (k := 43) (by decide) (by decide) (MO.rf : MO F F))) hM168)
            have q_172 : F168 43 = ((F 43) + (1 : Int32)) := u168a
            have q_173 : F168 70 = (F 70) := u168b
            have q_174 : (fup (fup F 43 ((F 43) + (1 : Int32))) 42 ((F 42) + (1 : Int32))) 70 = F 70 := (show (F 70) = F 70 by first | rfl | (simp only [i_as]))
            have k_175 : PKp F G G168 := PKp.tr (show PKp F G G from (fun _ _ => ⟨rfl, rfl⟩ : PKp F G G)) u168d q_174
            unfold mb_element_77
            refine PP.ite (fun c_176 => absurd c_176 (by decide)) (fun _ => ?_)
            unfold mb_element_80
            refine PP.bind (mp_closeSign (25 : Int32) F168 G168) ?_
            rintro r177 F177 G177 (⟨rfl, rfl, rfl, u177⟩ | ⟨rfl, u177, u177b⟩)
            · dsimp only
              unfold mb_element_86
              refine PP.ite (fun c_178 => absurd c_178 (by decide)) (fun _ => ?_)
              unfold mb_element_91
              refine PP.bind (mq_step (6 : Int32) (G 20 x1.toNatClampNeg) (1 : Int32) (fup (fup F168 42 ((F168 42) + (1 : Int32))) 43 ((F168 43) - (1 : Int32))) G168) ?_
              rintro _ F179 G179 ⟨hK179, rfl, e179, g179, n179⟩
              dsimp only
              have k_180 : KX [42, 43, 44, 45, 47, 48, 49, 55, 60, 62, 70] [56, 57, 58, 59, 67, 68, 69] F G F179 G179 := (KX.tr (KX.f (k := 43) rfl (KX.f (k := 42) rfl k_170)) hK179 rfl rfl)
              have k_181 : MO F F179 := (MO.tr (MO.f (k := 43) (by decide) (by decide) (MO.f (k := 42) (by decide) (by decide) k_171)) (MO.kx hK179 rfl rfl))
              have q_182 : F179 42 = ((F168 42) + (1 : Int32)) := hK179.1 42 rfl
              have q_183 : F179 43 = (F 43) := Eq.trans (hK179.1 43 rfl) (show ((F168 43) - (1 : Int32)) = (F 43) by simp only [q_172, q_173, i_as])
              have q_184 : F179 70 = (F 70) := Eq.trans (hK179.1 70 rfl) (show (F168 70) = (F 70) by simp only [q_172, q_173, i_as])
              have k_185 : PKp F G G179 := PKp.kx (show PKp F G G168 from k_175) hK179 rfl rfl
              unfold mb_element_100
              refine PP.ite (fun _ => ?_) (fun c_186 => absurd (by decide) c_186)
              unfold mb_element_120
              unfold mb_element_121
              refine PP.ix (fun _ => ?_)
              unfold mb_element_123
              refine PP.ret ?_
              refine ⟨Or.inr rfl, fun _ => ⟨(show (F179 43) = F 43 by first | rfl | (simp only [q_182, q_183, q_184, q_172, q_173, i_as])), (show (F179 70) = F 70 by first | rfl | (simp only [q_182, q_183, q_184, q_172, q_173, i_as])), (show 0 ≤ (F179 60).toInt from (inc60 n179 e179)), k_185, fun hl => ?_⟩⟩
              show F 54 = 0 → EOK F G x1 → TE X F G F179 (gup G179 59 (F168 60).toNatClampNeg (((2 : Int32) * (G 6 (F 42).toNatClampNeg)) + (0 : Int32))) 8 (fun s => 1 :: s)
              intro h54 hE
              have l_187 : LV (fup (fup F168 42 ((F168 42) + (1 : Int32))) 43 ((F168 43) - (1 : Int32))) := LV.mo hK179 (MO.kx hK179 rfl rfl) rfl rfl (show LV F179 from hl)
              have l_188 : LV (fup (fup F 43 ((F 43) + (1 : Int32))) 42 ((F 42) + (1 : Int32))) := LV.mo hK168 hM168 rfl rfl (show LV F168 from l_187)
              have l0 : LV F := l_188
              exact absurd hE.1 (by rw [c_163]; decide)
            · dsimp only
              unfold mb_element_86
              refine PP.ite (fun _ => ?_) (fun c_189 => absurd (by decide) c_189)
              unfold mb_element_89
              refine PP.ret ?_
              exact ⟨Or.inl rfl, fun h => absurd h (by decide)⟩
        · dsimp only
          unfold mb_element_70
          refine PP.ite (fun _ => ?_) (fun c_190 => absurd (by decide) c_190)
          unfold mb_element_89
          refine PP.ret ?_
          exact ⟨Or.inl rfl, fun h => absurd h (by decide)⟩
      · skip
        unfold mb_element_48
        refine PP.ix (fun _ => ?_)
        refine PP.ite (fun c_191 => ?_) (fun c_191 => ?_)
        · skip
          unfold mb_element_61
          unfold mb_element_62
          refine PP.bind (mp_openSign (24 : Int32) F G) ?_
          rintro r192 F192 G192 (⟨rfl, rfl, rfl, u192⟩ | ⟨rfl, u192, u192b⟩)
          · dsimp only
            have o_193 : ¬ F 43 = 40 := by
              have q : ¬ (F 43) = 40 := u192.2.1
              first | exact q | (simp only [i_as] at q; exact q)
            unfold mb_element_70
            refine PP.ite (fun c_194 => absurd c_194 (by decide)) (fun _ => ?_)
            unfold mb_element_73
            refine PP.bind (PP.and (ihK 4 0 0 (fup (fup F 43 ((F 43) + (1 : Int32))) 42 ((F 42) + (1 : Int32))) G) (PP.and (ihM 4 0 0 (fup (fup F 43 ((F 43) + (1 : Int32))) 42 ((F 42) + (1 : Int32))) G) (ihT 4 0 0 (fup (fup F 43 ((F 43) + (1 : Int32))) 42 ((F 42) + (1 : Int32))) G (TP.kx hT (KX.f (k := 42) rfl (KX.f (k := 43) rfl (KX.rf : KX [42, 43, 44, 45, 47, 48, 49, 55, 60, 62, 70] [56, 57, 58, 59, 67, 68, 69] F G F G))) (fun q => ((MO.f (k := 42) (by decide) (by decide) (MO.f (k := 43) (by decide) (by decide) (MO.rf : MO F F)))).1 q) rfl (show 0 ≤ ((F 43) + (1 : Int32)).toInt ∧ ((F 43) + (1 : Int32)).toInt ≤ 40 by first | exact (o_inc t43 o_193).2 | (simp only [i_as]; exact (o_inc t43 o_193).2)) (show 0 ≤ (F 70).toInt by first | exact t70 | (simp only [i_as]; exact t70)) (show 0 ≤ (F 60).toInt from hT.2.2.2.2.2.2.2.2))))) ?_
            rintro r195 F195 G195 ⟨hK195, hM195, (rfl | rfl), u195⟩
            · dsimp only
              unfold mb_element_77
              refine PP.ite (fun _ => ?_) (fun c_196 => absurd (by decide) c_196)
              unfold mb_element_89
              refine PP.ret ?_
              exact ⟨Or.inl rfl, fun h => absurd h (by decide)⟩
            · dsimp only
              obtain ⟨u195a, u195b, u195c, u195d, u195e⟩ := u195 rfl
              have k_197 : KX [42, 43, 44, 45, 47, 48, 49, 55, 60, 62, 70] [56, 57, 58, 59, 67, 68, 69] F G F195 G195 := (KX.tr (KX.f (k := 42) rfl (KX.f (k := 43) rfl (KX.rf : KX [42, 43, 44, 45, 47, 48, 49, 55, 60, 62, 70] [56, 57, 58, 59, 67, 68, 69] F G F G))) hK195 rfl rfl)
              have k_198 : MO F F195 := (MO.tr (MO.f (k := 42) (by decide) (by decide) (MO.f (k := 43) (by decide) (by decide) (MO.rf : MO F F))) hM195)
              have q_199 : F195 43 = ((F 43) + (1 : Int32)) := u195a
              have q_200 : F195 70 = (F 70) := u195b
              have q_201 : (fup (fup F 43 ((F 43) + (1 : Int32))) 42 ((F 42) + (1 : Int32))) 70 = F 70 := (show (F 70) = F 70 by first | rfl | (simp only [i_as]))
              have k_202 : PKp F G G195 := PKp.tr (show PKp F G G from (fun _ _ => ⟨rfl, rfl⟩ : PKp F G G)) u195d q_201
              unfold mb_element_77
              refine PP.ite (fun c_203 => absurd c_203 (by decide)) (fun _ => ?_)
              unfold mb_element_80
              refine PP.bind (mp_closeSign (25 : Int32) F195 G195) ?_
              rintro r204 F204 G204 (⟨rfl, rfl, rfl, u204⟩ | ⟨rfl, u204, u204b⟩)
              · dsimp only
                unfold mb_element_86
                refine PP.ite (fun c_205 => absurd c_205 (by decide)) (fun _ => ?_)
                unfold mb_element_91
                refine PP.bind (mq_step (6 : Int32) (G 20 x1.toNatClampNeg) (1 : Int32) (fup (fup F195 42 ((F195 42) + (1 : Int32))) 43 ((F195 43) - (1 : Int32))) G195) ?_
                rintro _ F206 G206 ⟨hK206, rfl, e206, g206, n206⟩
                dsimp only
                have k_207 : KX [42, 43, 44, 45, 47, 48, 49, 55, 60, 62, 70] [56, 57, 58, 59, 67, 68, 69] F G F206 G206 := (KX.tr (KX.f (k := 43) rfl (KX.f (k := 42) rfl k_197)) hK206 rfl rfl)
                have k_208 : MO F F206 := (MO.tr (MO.f (k := 43) (by decide) (by decide) (MO.f (k := 42) (by decide) (by decide) k_198)) (MO.kx hK206 rfl rfl))
                have q_209 : F206 42 = ((F195 42) + (1 : Int32)) := hK206.1 42 rfl
                have q_210 : F206 43 = (F 43) := Eq.trans (hK206.1 43 rfl) (show ((F195 43) - (1 : Int32)) = (F 43) by simp only [q_199, q_200, i_as])
                have q_211 : F206 70 = (F 70) := Eq.trans (hK206.1 70 rfl) (show (F195 70) = (F 70) by simp only [q_199, q_200, i_as])
                have k_212 : PKp F G G206 := PKp.kx (show PKp F G G195 from k_202) hK206 rfl rfl
                unfold mb_element_100
                refine PP.ite (fun _ => ?_) (fun c_213 => absurd (by decide) c_213)
                unfold mb_element_120
                unfold mb_element_121
                refine PP.ix (fun _ => ?_)
                unfold mb_element_123
                refine PP.ret ?_
                refine ⟨Or.inr rfl, fun _ => ⟨(show (F206 43) = F 43 by first | rfl | (simp only [q_209, q_210, q_211, q_199, q_200, i_as])), (show (F206 70) = F 70 by first | rfl | (simp only [q_209, q_210, q_211, q_199, q_200, i_as])), (show 0 ≤ (F206 60).toInt from (inc60 n206 e206)), k_212, fun hl => ?_⟩⟩
                show F 54 = 0 → EOK F G x1 → TE X F G F206 (gup G206 59 (F195 60).toNatClampNeg (((2 : Int32) * (G 6 (F 42).toNatClampNeg)) + (0 : Int32))) 8 (fun s => 1 :: s)
                intro h54 hE
                have l_214 : LV (fup (fup F195 42 ((F195 42) + (1 : Int32))) 43 ((F195 43) - (1 : Int32))) := LV.mo hK206 (MO.kx hK206 rfl rfl) rfl rfl (show LV F206 from hl)
                have l_215 : LV (fup (fup F 43 ((F 43) + (1 : Int32))) 42 ((F 42) + (1 : Int32))) := LV.mo hK195 hM195 rfl rfl (show LV F195 from l_214)
                have l0 : LV F := l_215
                exact absurd hE.1 (by rw [c_163]; decide)
              · dsimp only
                unfold mb_element_86
                refine PP.ite (fun _ => ?_) (fun c_216 => absurd (by decide) c_216)
                unfold mb_element_89
                refine PP.ret ?_
                exact ⟨Or.inl rfl, fun h => absurd h (by decide)⟩
          · dsimp only
            unfold mb_element_70
            refine PP.ite (fun _ => ?_) (fun c_217 => absurd (by decide) c_217)
            unfold mb_element_89
            refine PP.ret ?_
            exact ⟨Or.inl rfl, fun h => absurd h (by decide)⟩
        · skip
          unfold mb_element_57
          unfold mb_element_62
          refine PP.bind (mp_openSign (24 : Int32) F G) ?_
          rintro r218 F218 G218 (⟨rfl, rfl, rfl, u218⟩ | ⟨rfl, u218, u218b⟩)
          · dsimp only
            have o_219 : ¬ F 43 = 40 := by
              have q : ¬ (F 43) = 40 := u218.2.1
              first | exact q | (simp only [i_as] at q; exact q)
            unfold mb_element_70
            refine PP.ite (fun c_220 => absurd c_220 (by decide)) (fun _ => ?_)
            unfold mb_element_73
            refine PP.bind (PP.and (ihK 4 0 0 (fup (fup F 43 ((F 43) + (1 : Int32))) 42 ((F 42) + (1 : Int32))) G) (PP.and (ihM 4 0 0 (fup (fup F 43 ((F 43) + (1 : Int32))) 42 ((F 42) + (1 : Int32))) G) (ihT 4 0 0 (fup (fup F 43 ((F 43) + (1 : Int32))) 42 ((F 42) + (1 : Int32))) G (TP.kx hT (KX.f (k := 42) rfl (KX.f (k := 43) rfl (KX.rf : KX [42, 43, 44, 45, 47, 48, 49, 55, 60, 62, 70] [56, 57, 58, 59, 67, 68, 69] F G F G))) (fun q => ((MO.f (k := 42) (by decide) (by decide) (MO.f (k := 43) (by decide) (by decide) (MO.rf : MO F F)))).1 q) rfl (show 0 ≤ ((F 43) + (1 : Int32)).toInt ∧ ((F 43) + (1 : Int32)).toInt ≤ 40 by first | exact (o_inc t43 o_219).2 | (simp only [i_as]; exact (o_inc t43 o_219).2)) (show 0 ≤ (F 70).toInt by first | exact t70 | (simp only [i_as]; exact t70)) (show 0 ≤ (F 60).toInt from hT.2.2.2.2.2.2.2.2))))) ?_
            rintro r221 F221 G221 ⟨hK221, hM221, (rfl | rfl), u221⟩
            · dsimp only
              unfold mb_element_77
              refine PP.ite (fun _ => ?_) (fun c_222 => absurd (by decide) c_222)
              unfold mb_element_89
              refine PP.ret ?_
              exact ⟨Or.inl rfl, fun h => absurd h (by decide)⟩
            · dsimp only
              obtain ⟨u221a, u221b, u221c, u221d, u221e⟩ := u221 rfl
              have k_223 : KX [42, 43, 44, 45, 47, 48, 49, 55, 60, 62, 70] [56, 57, 58, 59, 67, 68, 69] F G F221 G221 := (KX.tr (KX.f (k := 42) rfl (KX.f (k := 43) rfl (KX.rf : KX [42, 43, 44, 45, 47, 48, 49, 55, 60, 62, 70] [56, 57, 58, 59, 67, 68, 69] F G F G))) hK221 rfl rfl)
              have k_224 : MO F F221 := (MO.tr (MO.f (k := 42) (by decide) (by decide) (MO.f (k := 43) (by decide) (by decide) (MO.rf : MO F F))) hM221)
              have q_225 : F221 43 = ((F 43) + (1 : Int32)) := u221a
              have q_226 : F221 70 = (F 70) := u221b
              have q_227 : (fup (fup F 43 ((F 43) + (1 : Int32))) 42 ((F 42) + (1 : Int32))) 70 = F 70 := (show (F 70) = F 70 by first | rfl | (simp only [i_as]))
              have k_228 : PKp F G G221 := PKp.tr (show PKp F G G from (fun _ _ => ⟨rfl, rfl⟩ : PKp F G G)) u221d q_227
              unfold mb_element_77
              refine PP.ite (fun c_229 => absurd c_229 (by decide)) (fun _ => ?_)
              unfold mb_element_80
              refine PP.bind (mp_closeSign (25 : Int32) F221 G221) ?_
              rintro r230 F230 G230 (⟨rfl, rfl, rfl, u230⟩ | ⟨rfl, u230, u230b⟩)
              · dsimp only
                unfold mb_element_86
                refine PP.ite (fun c_231 => absurd c_231 (by decide)) (fun _ => ?_)
                unfold mb_element_91
                refine PP.bind (mq_step (6 : Int32) (G 20 x1.toNatClampNeg) (1 : Int32) (fup (fup F221 42 ((F221 42) + (1 : Int32))) 43 ((F221 43) - (1 : Int32))) G221) ?_
                rintro _ F232 G232 ⟨hK232, rfl, e232, g232, n232⟩
                dsimp only
                have k_233 : KX [42, 43, 44, 45, 47, 48, 49, 55, 60, 62, 70] [56, 57, 58, 59, 67, 68, 69] F G F232 G232 := (KX.tr (KX.f (k := 43) rfl (KX.f (k := 42) rfl k_223)) hK232 rfl rfl)
                have k_234 : MO F F232 := (MO.tr (MO.f (k := 43) (by decide) (by decide) (MO.f (k := 42) (by decide) (by decide) k_224)) (MO.kx hK232 rfl rfl))
                have q_235 : F232 42 = ((F221 42) + (1 : Int32)) := hK232.1 42 rfl
                have q_236 : F232 43 = (F 43) := Eq.trans (hK232.1 43 rfl) (show ((F221 43) - (1 : Int32)) = (F 43) by simp only [q_225, q_226, i_as])
                have q_237 : F232 70 = (F 70) := Eq.trans (hK232.1 70 rfl) (show (F221 70) = (F 70) by simp only [q_225, q_226, i_as])
                have k_238 : PKp F G G232 := PKp.kx (show PKp F G G221 from k_228) hK232 rfl rfl
                unfold mb_element_100
                refine PP.ite (fun c_239 => absurd c_239 (by decide)) (fun _ => ?_)
                unfold mb_element_116
                unfold mb_element_121
                refine PP.ix (fun _ => ?_)
                unfold mb_element_123
                refine PP.ret ?_
                refine ⟨Or.inr rfl, fun _ => ⟨(show (F232 43) = F 43 by first | rfl | (simp only [q_235, q_236, q_237, q_225, q_226, i_as])), (show (F232 70) = F 70 by first | rfl | (simp only [q_235, q_236, q_237, q_225, q_226, i_as])), (show 0 ≤ (F232 60).toInt from (inc60 n232 e232)), k_238, fun hl => ?_⟩⟩
                show F 54 = 0 → EOK F G x1 → TE X F G F232 (gup G232 59 (F221 60).toNatClampNeg (((2 : Int32) * (G 6 (F 42).toNatClampNeg)) + (1 : Int32))) 8 (fun s => 1 :: s)
                intro h54 hE
                have l_240 : LV (fup (fup F221 42 ((F221 42) + (1 : Int32))) 43 ((F221 43) - (1 : Int32))) := LV.mo hK232 (MO.kx hK232 rfl rfl) rfl rfl (show LV F232 from hl)
                have l_241 : LV (fup (fup F 43 ((F 43) + (1 : Int32))) 42 ((F 42) + (1 : Int32))) := LV.mo hK221 hM221 rfl rfl (show LV F221 from l_240)
                have l0 : LV F := l_241
                exact absurd hE.1 (by rw [c_163]; decide)
              · dsimp only
                unfold mb_element_86
                refine PP.ite (fun _ => ?_) (fun c_242 => absurd (by decide) c_242)
                unfold mb_element_89
                refine PP.ret ?_
                exact ⟨Or.inl rfl, fun h => absurd h (by decide)⟩
          · dsimp only
            unfold mb_element_70
            refine PP.ite (fun _ => ?_) (fun c_243 => absurd (by decide) c_243)
            unfold mb_element_89
            refine PP.ret ?_
            exact ⟨Or.inl rfl, fun h => absurd h (by decide)⟩
    · skip
      unfold mb_element_35
      refine PP.ix (fun _ => ?_)
      unfold mb_element_41
      refine PP.ite (fun c_244 => ?_) (fun c_244 => ?_)
      · skip
        unfold mb_element_61
        unfold mb_element_62
        refine PP.bind (mp_openSign (24 : Int32) F G) ?_
        rintro r245 F245 G245 (⟨rfl, rfl, rfl, u245⟩ | ⟨rfl, u245, u245b⟩)
        · dsimp only
          have o_246 : ¬ F 43 = 40 := by
            have q : ¬ (F 43) = 40 := u245.2.1
            first | exact q | (simp only [i_as] at q; exact q)
          unfold mb_element_70
          refine PP.ite (fun c_247 => absurd c_247 (by decide)) (fun _ => ?_)
          unfold mb_element_73
          refine PP.bind (PP.and (ihK 4 0 0 (fup (fup F 43 ((F 43) + (1 : Int32))) 42 ((F 42) + (1 : Int32))) G) (PP.and (ihM 4 0 0 (fup (fup F 43 ((F 43) + (1 : Int32))) 42 ((F 42) + (1 : Int32))) G) (ihT 4 0 0 (fup (fup F 43 ((F 43) + (1 : Int32))) 42 ((F 42) + (1 : Int32))) G (TP.kx hT (KX.f (k := 42) rfl (KX.f (k := 43) rfl (KX.rf : KX [42, 43, 44, 45, 47, 48, 49, 55, 60, 62, 70] [56, 57, 58, 59, 67, 68, 69] F G F G))) (fun q => ((MO.f (k := 42) (by decide) (by decide) (MO.f (k := 43) (by decide) (by decide) (MO.rf : MO F F)))).1 q) rfl (show 0 ≤ ((F 43) + (1 : Int32)).toInt ∧ ((F 43) + (1 : Int32)).toInt ≤ 40 by first | exact (o_inc t43 o_246).2 | (simp only [i_as]; exact (o_inc t43 o_246).2)) (show 0 ≤ (F 70).toInt by first | exact t70 | (simp only [i_as]; exact t70)) (show 0 ≤ (F 60).toInt from hT.2.2.2.2.2.2.2.2))))) ?_
          rintro r248 F248 G248 ⟨hK248, hM248, (rfl | rfl), u248⟩
          · dsimp only
            unfold mb_element_77
            refine PP.ite (fun _ => ?_) (fun c_249 => absurd (by decide) c_249)
            unfold mb_element_89
            refine PP.ret ?_
            exact ⟨Or.inl rfl, fun h => absurd h (by decide)⟩
          · dsimp only
            obtain ⟨u248a, u248b, u248c, u248d, u248e⟩ := u248 rfl
            have k_250 : KX [42, 43, 44, 45, 47, 48, 49, 55, 60, 62, 70] [56, 57, 58, 59, 67, 68, 69] F G F248 G248 := (KX.tr (KX.f (k := 42) rfl (KX.f (k := 43) rfl (KX.rf : KX [42, 43, 44, 45, 47, 48, 49, 55, 60, 62, 70] [56, 57, 58, 59, 67, 68, 69] F G F G))) hK248 rfl rfl)
            have k_251 : MO F F248 := (MO.tr (MO.f (k := 42) (by decide) (by decide) (MO.f (k := 43) (by decide) (by decide) (MO.rf : MO F F))) hM248)
            have q_252 : F248 43 = ((F 43) + (1 : Int32)) := u248a
            have q_253 : F248 70 = (F 70) := u248b
            have q_254 : (fup (fup F 43 ((F 43) + (1 : Int32))) 42 ((F 42) + (1 : Int32))) 70 = F 70 := (show (F 70) = F 70 by first | rfl | (simp only [i_as]))
            have k_255 : PKp F G G248 := PKp.tr (show PKp F G G from (fun _ _ => ⟨rfl, rfl⟩ : PKp F G G)) u248d q_254
            unfold mb_element_77
            refine PP.ite (fun c_256 => absurd c_256 (by decide)) (fun _ => ?_)
            unfold mb_element_80
            refine PP.bind (mp_closeSign (25 : Int32) F248 G248) ?_
            rintro r257 F257 G257 (⟨rfl, rfl, rfl, u257⟩ | ⟨rfl, u257, u257b⟩)
            · dsimp only
              unfold mb_element_86
              refine PP.ite (fun c_258 => absurd c_258 (by decide)) (fun _ => ?_)
              unfold mb_element_91
              refine PP.bind (mq_step (6 : Int32) (G 20 x1.toNatClampNeg) (G 21 x1.toNatClampNeg) (fup (fup F248 42 ((F248 42) + (1 : Int32))) 43 ((F248 43) - (1 : Int32))) G248) ?_
              rintro _ F259 G259 ⟨hK259, rfl, e259, g259, n259⟩
              dsimp only
              have k_260 : KX [42, 43, 44, 45, 47, 48, 49, 55, 60, 62, 70] [56, 57, 58, 59, 67, 68, 69] F G F259 G259 := (KX.tr (KX.f (k := 43) rfl (KX.f (k := 42) rfl k_250)) hK259 rfl rfl)
              have k_261 : MO F F259 := (MO.tr (MO.f (k := 43) (by decide) (by decide) (MO.f (k := 42) (by decide) (by decide) k_251)) (MO.kx hK259 rfl rfl))
              have q_262 : F259 42 = ((F248 42) + (1 : Int32)) := hK259.1 42 rfl
              have q_263 : F259 43 = (F 43) := Eq.trans (hK259.1 43 rfl) (show ((F248 43) - (1 : Int32)) = (F 43) by simp only [q_252, q_253, i_as])
              have q_264 : F259 70 = (F 70) := Eq.trans (hK259.1 70 rfl) (show (F248 70) = (F 70) by simp only [q_252, q_253, i_as])
              have k_265 : PKp F G G259 := PKp.kx (show PKp F G G248 from k_255) hK259 rfl rfl
              unfold mb_element_100
              refine PP.ite (fun _ => ?_) (fun c_266 => absurd (by decide) c_266)
              unfold mb_element_120
              unfold mb_element_121
              refine PP.ix (fun _ => ?_)
              unfold mb_element_123
              refine PP.ret ?_
              refine ⟨Or.inr rfl, fun _ => ⟨(show (F259 43) = F 43 by first | rfl | (simp only [q_262, q_263, q_264, q_252, q_253, i_as])), (show (F259 70) = F 70 by first | rfl | (simp only [q_262, q_263, q_264, q_252, q_253, i_as])), (show 0 ≤ (F259 60).toInt from (inc60 n259 e259)), k_265, fun hl => ?_⟩⟩
              show F 54 = 0 → EOK F G x1 → TE X F G F259 (gup G259 59 (F248 60).toNatClampNeg (((2 : Int32) * (G 6 (F 42).toNatClampNeg)) + (0 : Int32))) 8 (fun s => 1 :: s)
              intro h54 hE
              have l_267 : LV (fup (fup F248 42 ((F248 42) + (1 : Int32))) 43 ((F248 43) - (1 : Int32))) := LV.mo hK259 (MO.kx hK259 rfl rfl) rfl rfl (show LV F259 from hl)
              have l_268 : LV (fup (fup F 43 ((F 43) + (1 : Int32))) 42 ((F 42) + (1 : Int32))) := LV.mo hK248 hM248 rfl rfl (show LV F248 from l_267)
              have l0 : LV F := l_268
              exact absurd hE.1 (by rw [c_244]; decide)
            · dsimp only
              unfold mb_element_86
              refine PP.ite (fun _ => ?_) (fun c_269 => absurd (by decide) c_269)
              unfold mb_element_89
              refine PP.ret ?_
              exact ⟨Or.inl rfl, fun h => absurd h (by decide)⟩
        · dsimp only
          unfold mb_element_70
          refine PP.ite (fun _ => ?_) (fun c_270 => absurd (by decide) c_270)
          unfold mb_element_89
          refine PP.ret ?_
          exact ⟨Or.inl rfl, fun h => absurd h (by decide)⟩
      · skip
        unfold mb_element_48
        refine PP.ix (fun _ => ?_)
        refine PP.ite (fun c_271 => ?_) (fun c_271 => ?_)
        · skip
          unfold mb_element_61
          unfold mb_element_62
          refine PP.bind (mp_openSign (24 : Int32) F G) ?_
          rintro r272 F272 G272 (⟨rfl, rfl, rfl, u272⟩ | ⟨rfl, u272, u272b⟩)
          · dsimp only
            have o_273 : ¬ F 43 = 40 := by
              have q : ¬ (F 43) = 40 := u272.2.1
              first | exact q | (simp only [i_as] at q; exact q)
            unfold mb_element_70
            refine PP.ite (fun c_274 => absurd c_274 (by decide)) (fun _ => ?_)
            unfold mb_element_73
            refine PP.bind (PP.and (ihK 4 0 0 (fup (fup F 43 ((F 43) + (1 : Int32))) 42 ((F 42) + (1 : Int32))) G) (PP.and (ihM 4 0 0 (fup (fup F 43 ((F 43) + (1 : Int32))) 42 ((F 42) + (1 : Int32))) G) (ihT 4 0 0 (fup (fup F 43 ((F 43) + (1 : Int32))) 42 ((F 42) + (1 : Int32))) G (TP.kx hT (KX.f (k := 42) rfl (KX.f (k := 43) rfl (KX.rf : KX [42, 43, 44, 45, 47, 48, 49, 55, 60, 62, 70] [56, 57, 58, 59, 67, 68, 69] F G F G))) (fun q => ((MO.f (k := 42) (by decide) (by decide) (MO.f (k := 43) (by decide) (by decide) (MO.rf : MO F F)))).1 q) rfl (show 0 ≤ ((F 43) + (1 : Int32)).toInt ∧ ((F 43) + (1 : Int32)).toInt ≤ 40 by first | exact (o_inc t43 o_273).2 | (simp only [i_as]; exact (o_inc t43 o_273).2)) (show 0 ≤ (F 70).toInt by first | exact t70 | (simp only [i_as]; exact t70)) (show 0 ≤ (F 60).toInt from hT.2.2.2.2.2.2.2.2))))) ?_
            rintro r275 F275 G275 ⟨hK275, hM275, (rfl | rfl), u275⟩
            · dsimp only
              unfold mb_element_77
              refine PP.ite (fun _ => ?_) (fun c_276 => absurd (by decide) c_276)
              unfold mb_element_89
              refine PP.ret ?_
              exact ⟨Or.inl rfl, fun h => absurd h (by decide)⟩
            · dsimp only
              obtain ⟨u275a, u275b, u275c, u275d, u275e⟩ := u275 rfl
              have k_277 : KX [42, 43, 44, 45, 47, 48, 49, 55, 60, 62, 70] [56, 57, 58, 59, 67, 68, 69] F G F275 G275 := (KX.tr (KX.f (k := 42) rfl (KX.f (k := 43) rfl (KX.rf : KX [42, 43, 44, 45, 47, 48, 49, 55, 60, 62, 70] [56, 57, 58, 59, 67, 68, 69] F G F G))) hK275 rfl rfl)
              have k_278 : MO F F275 := (MO.tr (MO.f (k := 42) (by decide) (by decide) (MO.f (k := 43) (by decide) (by decide) (MO.rf : MO F F))) hM275)
              have q_279 : F275 43 = ((F 43) + (1 : Int32)) := u275a
              have q_280 : F275 70 = (F 70) := u275b
              have q_281 : (fup (fup F 43 ((F 43) + (1 : Int32))) 42 ((F 42) + (1 : Int32))) 70 = F 70 := (show (F 70) = F 70 by first | rfl | (simp only [i_as]))
              have k_282 : PKp F G G275 := PKp.tr (show PKp F G G from (fun _ _ => ⟨rfl, rfl⟩ : PKp F G G)) u275d q_281
              unfold mb_element_77
              refine PP.ite (fun c_283 => absurd c_283 (by decide)) (fun _ => ?_)
              unfold mb_element_80
              refine PP.bind (mp_closeSign (25 : Int32) F275 G275) ?_
              rintro r284 F284 G284 (⟨rfl, rfl, rfl, u284⟩ | ⟨rfl, u284, u284b⟩)
              · dsimp only
                unfold mb_element_86
                refine PP.ite (fun c_285 => absurd c_285 (by decide)) (fun _ => ?_)
                unfold mb_element_91
                refine PP.bind (mq_step (6 : Int32) (G 20 x1.toNatClampNeg) (G 21 x1.toNatClampNeg) (fup (fup F275 42 ((F275 42) + (1 : Int32))) 43 ((F275 43) - (1 : Int32))) G275) ?_
                rintro _ F286 G286 ⟨hK286, rfl, e286, g286, n286⟩
                dsimp only
                have k_287 : KX [42, 43, 44, 45, 47, 48, 49, 55, 60, 62, 70] [56, 57, 58, 59, 67, 68, 69] F G F286 G286 := (KX.tr (KX.f (k := 43) rfl (KX.f (k := 42) rfl k_277)) hK286 rfl rfl)
                have k_288 : MO F F286 := (MO.tr (MO.f (k := 43) (by decide) (by decide) (MO.f (k := 42) (by decide) (by decide) k_278)) (MO.kx hK286 rfl rfl))
                have q_289 : F286 42 = ((F275 42) + (1 : Int32)) := hK286.1 42 rfl
                have q_290 : F286 43 = (F 43) := Eq.trans (hK286.1 43 rfl) (show ((F275 43) - (1 : Int32)) = (F 43) by simp only [q_279, q_280, i_as])
                have q_291 : F286 70 = (F 70) := Eq.trans (hK286.1 70 rfl) (show (F275 70) = (F 70) by simp only [q_279, q_280, i_as])
                have k_292 : PKp F G G286 := PKp.kx (show PKp F G G275 from k_282) hK286 rfl rfl
                unfold mb_element_100
                refine PP.ite (fun _ => ?_) (fun c_293 => absurd (by decide) c_293)
                unfold mb_element_120
                unfold mb_element_121
                refine PP.ix (fun _ => ?_)
                unfold mb_element_123
                refine PP.ret ?_
                refine ⟨Or.inr rfl, fun _ => ⟨(show (F286 43) = F 43 by first | rfl | (simp only [q_289, q_290, q_291, q_279, q_280, i_as])), (show (F286 70) = F 70 by first | rfl | (simp only [q_289, q_290, q_291, q_279, q_280, i_as])), (show 0 ≤ (F286 60).toInt from (inc60 n286 e286)), k_292, fun hl => ?_⟩⟩
                show F 54 = 0 → EOK F G x1 → TE X F G F286 (gup G286 59 (F275 60).toNatClampNeg (((2 : Int32) * (G 6 (F 42).toNatClampNeg)) + (0 : Int32))) 8 (fun s => 1 :: s)
                intro h54 hE
                have l_294 : LV (fup (fup F275 42 ((F275 42) + (1 : Int32))) 43 ((F275 43) - (1 : Int32))) := LV.mo hK286 (MO.kx hK286 rfl rfl) rfl rfl (show LV F286 from hl)
                have l_295 : LV (fup (fup F 43 ((F 43) + (1 : Int32))) 42 ((F 42) + (1 : Int32))) := LV.mo hK275 hM275 rfl rfl (show LV F275 from l_294)
                have l0 : LV F := l_295
                have ea := EOK.arr hT h54 (l0.2.1 h54) hE
                have ld : arr X (G 20 x1.toNatClampNeg) (G 21 x1.toNatClampNeg) ((((2 : Int32) * (G 6 (F 42).toNatClampNeg)) + (0 : Int32)) &&& 1) := by
                  rw [show (((2 : Int32) * (G 6 (F 42).toNatClampNeg)) + (0 : Int32)) &&& 1 = 0 from (b_and1 _).2]
                  exact ea.2 c_271
                intro A s d hA hb
                have hm : X.1 = false := hT.m.1 h54
                have E0 : EX X F G A F G s d [] := EX.rf hA
                have lb : s.length ≤ 568 := by have := bd.len hb t43.2; omega
                have E296 : EX X F G A (fup (fup F 43 ((F 43) + (1 : Int32))) 42 ((F 42) + (1 : Int32))) G s d [] := EX.st E0 rfl (fun _ _ _ => rfl)
                have E297 : EX X F G A F275 G275 (0 :: s) d [] := EX.tr E296 (fun A1 hA1 => (show TE X (fup (fup F 43 ((F 43) + (1 : Int32))) 42 ((F 42) + (1 : Int32))) G F275 G275 0 (fun s => 0 :: s) from u275e (show LV F275 from l_294)) A1 _ _ hA1 (bd.mv (e := 1) (c := 0) hb (show (fup (fup F 43 ((F 43) + (1 : Int32))) 42 ((F 42) + (1 : Int32))) 54 = F 54 from (show KX [42, 43, 44, 45, 47, 48, 49, 55, 60, 62, 70] [56, 57, 58, 59, 67, 68, 69] F G (fup (fup F 43 ((F 43) + (1 : Int32))) 42 ((F 42) + (1 : Int32))) G from (KX.f (k := 42) rfl (KX.f (k := 43) rfl (KX.rf : KX [42, 43, 44, 45, 47, 48, 49, 55, 60, 62, 70] [56, 57, 58, 59, 67, 68, 69] F G F G)))).1 54 rfl) (show ((fup (fup F 43 ((F 43) + (1 : Int32))) 42 ((F 42) + (1 : Int32))) 43).toInt = (F 43).toInt + 1 by rw [show (fup (fup F 43 ((F 43) + (1 : Int32))) 42 ((F 42) + (1 : Int32))) 43 = F 43 + 1 from by first | rfl | (simp only [q_289, q_290, q_291, q_279, q_280, i_as, fup, Nat.reduceEqDiff, reduceIte, if_false])]; exact (o_inc t43 o_273).1) (by (try simp only [List.length_cons]); omega) (by omega)))
                have E298 : EX X F G A (fup (fup F275 42 ((F275 42) + (1 : Int32))) 43 ((F275 43) - (1 : Int32))) G275 (0 :: s) d [] := EX.st E297 rfl (fun _ _ _ => rfl)
                have E299 : EX X F G A F286 (gup G286 59 (F275 60).toNatClampNeg (((2 : Int32) * (G 6 (F 42).toNatClampNeg)) + (0 : Int32))) (1 :: s) d [] := EX.stp4 (z := (((2 : Int32) * (G 6 (F 42).toNatClampNeg)) + (0 : Int32))) E298 n286 e286 g286 (by have := lb; (try simp only [List.length_cons]); omega) (Or.inr (Or.inr (Or.inr (Or.inr ⟨hm, Or.inr (Or.inr (Or.inr (Or.inr (Or.inr (Or.inl ⟨rfl, ld, _, rfl, rfl⟩)))))⟩))))
                exact EX.st E299 rfl (fun _ _ _ => rfl)
              · dsimp only
                unfold mb_element_86
                refine PP.ite (fun _ => ?_) (fun c_300 => absurd (by decide) c_300)
                unfold mb_element_89
                refine PP.ret ?_
                exact ⟨Or.inl rfl, fun h => absurd h (by decide)⟩
          · dsimp only
            unfold mb_element_70
            refine PP.ite (fun _ => ?_) (fun c_301 => absurd (by decide) c_301)
            unfold mb_element_89
            refine PP.ret ?_
            exact ⟨Or.inl rfl, fun h => absurd h (by decide)⟩
        · skip
          unfold mb_element_57
          unfold mb_element_62
          refine PP.bind (mp_openSign (24 : Int32) F G) ?_
          rintro r302 F302 G302 (⟨rfl, rfl, rfl, u302⟩ | ⟨rfl, u302, u302b⟩)
          · dsimp only
            have o_303 : ¬ F 43 = 40 := by
              have q : ¬ (F 43) = 40 := u302.2.1
              first | exact q | (simp only [i_as] at q; exact q)
            unfold mb_element_70
            refine PP.ite (fun c_304 => absurd c_304 (by decide)) (fun _ => ?_)
            unfold mb_element_73
            refine PP.bind (PP.and (ihK 4 0 0 (fup (fup F 43 ((F 43) + (1 : Int32))) 42 ((F 42) + (1 : Int32))) G) (PP.and (ihM 4 0 0 (fup (fup F 43 ((F 43) + (1 : Int32))) 42 ((F 42) + (1 : Int32))) G) (ihT 4 0 0 (fup (fup F 43 ((F 43) + (1 : Int32))) 42 ((F 42) + (1 : Int32))) G (TP.kx hT (KX.f (k := 42) rfl (KX.f (k := 43) rfl (KX.rf : KX [42, 43, 44, 45, 47, 48, 49, 55, 60, 62, 70] [56, 57, 58, 59, 67, 68, 69] F G F G))) (fun q => ((MO.f (k := 42) (by decide) (by decide) (MO.f (k := 43) (by decide) (by decide) (MO.rf : MO F F)))).1 q) rfl (show 0 ≤ ((F 43) + (1 : Int32)).toInt ∧ ((F 43) + (1 : Int32)).toInt ≤ 40 by first | exact (o_inc t43 o_303).2 | (simp only [i_as]; exact (o_inc t43 o_303).2)) (show 0 ≤ (F 70).toInt by first | exact t70 | (simp only [i_as]; exact t70)) (show 0 ≤ (F 60).toInt from hT.2.2.2.2.2.2.2.2))))) ?_
            rintro r305 F305 G305 ⟨hK305, hM305, (rfl | rfl), u305⟩
            · dsimp only
              unfold mb_element_77
              refine PP.ite (fun _ => ?_) (fun c_306 => absurd (by decide) c_306)
              unfold mb_element_89
              refine PP.ret ?_
              exact ⟨Or.inl rfl, fun h => absurd h (by decide)⟩
            · dsimp only
              obtain ⟨u305a, u305b, u305c, u305d, u305e⟩ := u305 rfl
              have k_307 : KX [42, 43, 44, 45, 47, 48, 49, 55, 60, 62, 70] [56, 57, 58, 59, 67, 68, 69] F G F305 G305 := (KX.tr (KX.f (k := 42) rfl (KX.f (k := 43) rfl (KX.rf : KX [42, 43, 44, 45, 47, 48, 49, 55, 60, 62, 70] [56, 57, 58, 59, 67, 68, 69] F G F G))) hK305 rfl rfl)
              have k_308 : MO F F305 := (MO.tr (MO.f (k := 42) (by decide) (by decide) (MO.f (k := 43) (by decide) (by decide) (MO.rf : MO F F))) hM305)
              have q_309 : F305 43 = ((F 43) + (1 : Int32)) := u305a
              have q_310 : F305 70 = (F 70) := u305b
              have q_311 : (fup (fup F 43 ((F 43) + (1 : Int32))) 42 ((F 42) + (1 : Int32))) 70 = F 70 := (show (F 70) = F 70 by first | rfl | (simp only [i_as]))
              have k_312 : PKp F G G305 := PKp.tr (show PKp F G G from (fun _ _ => ⟨rfl, rfl⟩ : PKp F G G)) u305d q_311
              unfold mb_element_77
              refine PP.ite (fun c_313 => absurd c_313 (by decide)) (fun _ => ?_)
              unfold mb_element_80
              refine PP.bind (mp_closeSign (25 : Int32) F305 G305) ?_
              rintro r314 F314 G314 (⟨rfl, rfl, rfl, u314⟩ | ⟨rfl, u314, u314b⟩)
              · dsimp only
                unfold mb_element_86
                refine PP.ite (fun c_315 => absurd c_315 (by decide)) (fun _ => ?_)
                unfold mb_element_91
                refine PP.bind (mq_step (6 : Int32) (G 20 x1.toNatClampNeg) (G 21 x1.toNatClampNeg) (fup (fup F305 42 ((F305 42) + (1 : Int32))) 43 ((F305 43) - (1 : Int32))) G305) ?_
                rintro _ F316 G316 ⟨hK316, rfl, e316, g316, n316⟩
                dsimp only
                have k_317 : KX [42, 43, 44, 45, 47, 48, 49, 55, 60, 62, 70] [56, 57, 58, 59, 67, 68, 69] F G F316 G316 := (KX.tr (KX.f (k := 43) rfl (KX.f (k := 42) rfl k_307)) hK316 rfl rfl)
                have k_318 : MO F F316 := (MO.tr (MO.f (k := 43) (by decide) (by decide) (MO.f (k := 42) (by decide) (by decide) k_308)) (MO.kx hK316 rfl rfl))
                have q_319 : F316 42 = ((F305 42) + (1 : Int32)) := hK316.1 42 rfl
                have q_320 : F316 43 = (F 43) := Eq.trans (hK316.1 43 rfl) (show ((F305 43) - (1 : Int32)) = (F 43) by simp only [q_309, q_310, i_as])
                have q_321 : F316 70 = (F 70) := Eq.trans (hK316.1 70 rfl) (show (F305 70) = (F 70) by simp only [q_309, q_310, i_as])
                have k_322 : PKp F G G316 := PKp.kx (show PKp F G G305 from k_312) hK316 rfl rfl
                unfold mb_element_100
                refine PP.ite (fun c_323 => absurd c_323 (by decide)) (fun _ => ?_)
                unfold mb_element_116
                unfold mb_element_121
                refine PP.ix (fun _ => ?_)
                unfold mb_element_123
                refine PP.ret ?_
                refine ⟨Or.inr rfl, fun _ => ⟨(show (F316 43) = F 43 by first | rfl | (simp only [q_319, q_320, q_321, q_309, q_310, i_as])), (show (F316 70) = F 70 by first | rfl | (simp only [q_319, q_320, q_321, q_309, q_310, i_as])), (show 0 ≤ (F316 60).toInt from (inc60 n316 e316)), k_322, fun hl => ?_⟩⟩
                show F 54 = 0 → EOK F G x1 → TE X F G F316 (gup G316 59 (F305 60).toNatClampNeg (((2 : Int32) * (G 6 (F 42).toNatClampNeg)) + (1 : Int32))) 8 (fun s => 1 :: s)
                intro h54 hE
                have l_324 : LV (fup (fup F305 42 ((F305 42) + (1 : Int32))) 43 ((F305 43) - (1 : Int32))) := LV.mo hK316 (MO.kx hK316 rfl rfl) rfl rfl (show LV F316 from hl)
                have l_325 : LV (fup (fup F 43 ((F 43) + (1 : Int32))) 42 ((F 42) + (1 : Int32))) := LV.mo hK305 hM305 rfl rfl (show LV F305 from l_324)
                have l0 : LV F := l_325
                have ea := EOK.arr hT h54 (l0.2.1 h54) hE
                have ld : arr X (G 20 x1.toNatClampNeg) (G 21 x1.toNatClampNeg) ((((2 : Int32) * (G 6 (F 42).toNatClampNeg)) + (1 : Int32)) &&& 1) := by
                  rw [show (((2 : Int32) * (G 6 (F 42).toNatClampNeg)) + (1 : Int32)) &&& 1 = 1 from (b_and1 _).1]
                  exact ea.1 c_271
                intro A s d hA hb
                have hm : X.1 = false := hT.m.1 h54
                have E0 : EX X F G A F G s d [] := EX.rf hA
                have lb : s.length ≤ 568 := by have := bd.len hb t43.2; omega
                have E326 : EX X F G A (fup (fup F 43 ((F 43) + (1 : Int32))) 42 ((F 42) + (1 : Int32))) G s d [] := EX.st E0 rfl (fun _ _ _ => rfl)
                have E327 : EX X F G A F305 G305 (0 :: s) d [] := EX.tr E326 (fun A1 hA1 => (show TE X (fup (fup F 43 ((F 43) + (1 : Int32))) 42 ((F 42) + (1 : Int32))) G F305 G305 0 (fun s => 0 :: s) from u305e (show LV F305 from l_324)) A1 _ _ hA1 (bd.mv (e := 1) (c := 0) hb (show (fup (fup F 43 ((F 43) + (1 : Int32))) 42 ((F 42) + (1 : Int32))) 54 = F 54 from (show KX [42, 43, 44, 45, 47, 48, 49, 55, 60, 62, 70] [56, 57, 58, 59, 67, 68, 69] F G (fup (fup F 43 ((F 43) + (1 : Int32))) 42 ((F 42) + (1 : Int32))) G from (KX.f (k := 42) rfl (KX.f (k := 43) rfl (KX.rf : KX [42, 43, 44, 45, 47, 48, 49, 55, 60, 62, 70] [56, 57, 58, 59, 67, 68, 69] F G F G)))).1 54 rfl) (show ((fup (fup F 43 ((F 43) + (1 : Int32))) 42 ((F 42) + (1 : Int32))) 43).toInt = (F 43).toInt + 1 by rw [show (fup (fup F 43 ((F 43) + (1 : Int32))) 42 ((F 42) + (1 : Int32))) 43 = F 43 + 1 from by first | rfl | (simp only [q_319, q_320, q_321, q_309, q_310, i_as, fup, Nat.reduceEqDiff, reduceIte, if_false])]; exact (o_inc t43 o_303).1) (by (try simp only [List.length_cons]); omega) (by omega)))
                have E328 : EX X F G A (fup (fup F305 42 ((F305 42) + (1 : Int32))) 43 ((F305 43) - (1 : Int32))) G305 (0 :: s) d [] := EX.st E327 rfl (fun _ _ _ => rfl)
                have E329 : EX X F G A F316 (gup G316 59 (F305 60).toNatClampNeg (((2 : Int32) * (G 6 (F 42).toNatClampNeg)) + (1 : Int32))) (1 :: s) d [] := EX.stp4 (z := (((2 : Int32) * (G 6 (F 42).toNatClampNeg)) + (1 : Int32))) E328 n316 e316 g316 (by have := lb; (try simp only [List.length_cons]); omega) (Or.inr (Or.inr (Or.inr (Or.inr ⟨hm, Or.inr (Or.inr (Or.inr (Or.inr (Or.inr (Or.inl ⟨rfl, ld, _, rfl, rfl⟩)))))⟩))))
                exact EX.st E329 rfl (fun _ _ _ => rfl)
              · dsimp only
                unfold mb_element_86
                refine PP.ite (fun _ => ?_) (fun c_330 => absurd (by decide) c_330)
                unfold mb_element_89
                refine PP.ret ?_
                exact ⟨Or.inl rfl, fun h => absurd h (by decide)⟩
          · dsimp only
            unfold mb_element_70
            refine PP.ite (fun _ => ?_) (fun c_331 => absurd (by decide) c_331)
            unfold mb_element_89
            refine PP.ret ?_
            exact ⟨Or.inl rfl, fun h => absurd h (by decide)⟩
