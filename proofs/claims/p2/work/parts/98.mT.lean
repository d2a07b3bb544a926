theorem mtt_expression {fu : Nat} {X : TX} {L : List Nat} (rc : RC) (ihK : mKI1 rc) (ihM : mMOI rc) (ihT : mTI X L rc) (F : PF) (G : PG) (hT : TP X L F G) : PP (mh_expression fu rc F G) (fun r' F' G' => TQ X 4 0 0 F G r' F' G') := by
  unfold mh_expression
  have t14 := hT.2.2.2.1
  have t24 := hT.2.2.2.2.1
  have t43 : 0 ≤ (F 43).toInt ∧ (F 43).toInt ≤ 40 := ⟨hT.2.2.2.2.2.1, hT.2.2.2.2.2.2.1⟩
  have t70 := hT.2.2.2.2.2.2.2.1
  obtain ⟨px, hpx⟩ : ∃ q, q = (0 : Int32) := ⟨_, rfl⟩
  obtain ⟨py, hpy⟩ : ∃ q, q = (0 : Int32) := ⟨_, rfl⟩
  show PP _ (fun r' F' G' => TQ X 4 0 0 F G r' F' G')
  unfold mb_expression_0
  refine PP.bind (PP.and (ihK 2 0 0 F G) (PP.and (ihM 2 0 0 F G) (ihT 2 0 0 F G (TP.kx hT (KX.rf : KX [42, 43, 44, 45, 47, 48, 49, 55, 60, 62, 70] [56, 57, 58, 59, 67, 68, 69] F G F G) (fun q => ((MO.rf : MO F F)).1 q) rfl (show 0 ≤ (F 43).toInt ∧ (F 43).toInt ≤ 40 by first | exact t43 | (simp only [i_as]; exact t43)) (show 0 ≤ (F 70).toInt by first | exact t70 | (simp only [i_as]; exact t70)) (show 0 ≤ (F 60).toInt from hT.2.2.2.2.2.2.2.2))))) ?_
  rintro r1 F1 G1 ⟨hK1, hM1, (rfl | rfl), u1⟩
  · dsimp only
    unfold mb_expression_4
    refine PP.ite (fun _ => ?_) (fun c_2 => absurd (by decide) c_2)
    unfold mb_expression_7
    refine PP.ret ?_
    exact ⟨Or.inl rfl, fun h => absurd h (by decide)⟩
  · dsimp only
    obtain ⟨u1a, u1b, u1c, u1d, u1e⟩ := u1 rfl
    have k_3 : KX [42, 43, 44, 45, 47, 48, 49, 55, 60, 62, 70] [56, 57, 58, 59, 67, 68, 69] F G F1 G1 := (KX.tr (KX.rf : KX [42, 43, 44, 45, 47, 48, 49, 55, 60, 62, 70] [56, 57, 58, 59, 67, 68, 69] F G F G) hK1 rfl rfl)
    have k_4 : MO F F1 := (MO.tr (MO.rf : MO F F) hM1)
    have q_5 : F1 43 = (F 43) := u1a
    have q_6 : F1 70 = (F 70) := u1b
    have q_7 : F 70 = F 70 := (show (F 70) = F 70 by first | rfl | (simp only [i_as]))
    unfold mb_expression_4
    refine PP.ite (fun c_8 => absurd c_8 (by decide)) (fun _ => ?_)
    unfold mb_expression_9
    refine PP.bind (mp_isSign (30 : Int32) F1 G1) ?_
    rintro _ _ _ ⟨rfl, rfl, (⟨rfl, u9⟩ | ⟨rfl, u9⟩)⟩
    · dsimp only
      unfold mb_expression_15
      refine PP.ite (fun c_10 => absurd c_10 (by decide)) (fun _ => ?_)
      unfold mb_expression_20
      refine PP.bind (mp_opens F1 G1) ?_
      rintro r11 F11 G11 (⟨rfl, rfl, rfl, u11⟩ | ⟨rfl, u11, u11b⟩)
      · dsimp only
        have o_12 : ¬ F 43 = 40 := by
          have q : ¬ (F1 43) = 40 := u11
          first | exact q | (simp only [q_5, q_6, i_as] at q; exact q)
        unfold mb_expression_24
        refine PP.ite (fun c_13 => absurd c_13 (by decide)) (fun _ => ?_)
        unfold mb_expression_29
        refine PP.bind (mq_step (13 : Int32) (0 : Int32) (0 : Int32) (fup (fup F1 43 ((F1 43) + (1 : Int32))) 42 ((F1 42) + (1 : Int32))) G1) ?_
        rintro _ F14 G14 ⟨hK14, rfl, e14, g14, n14⟩
        dsimp only
        have k_15 : KX [42, 43, 44, 45, 47, 48, 49, 55, 60, 62, 70] [56, 57, 58, 59, 67, 68, 69] F G F14 G14 := (KX.tr (KX.f (k := 42) rfl (KX.f (k := 43) rfl k_3)) hK14 rfl rfl)
        have k_16 : MO F F14 := (MO.tr (MO.f (k := 42) (by decide) (by decide) (MO.f (k := 43) (by decide) (by decide) k_4)) (MO.kx hK14 rfl rfl))
        have q_17 : F14 43 = ((F 43) + (1 : Int32)) := Eq.trans (hK14.1 43 rfl) (show ((F1 43) + (1 : Int32)) = ((F 43) + (1 : Int32)) by simp only [q_5, q_6, i_as])
        have q_18 : F14 70 = (F 70) := Eq.trans (hK14.1 70 rfl) (show (F1 70) = (F 70) by simp only [q_5, q_6, i_as])
        unfold mb_expression_37
        refine PP.bind (PP.and (ihK 4 0 0 F14 G14) (PP.and (ihM 4 0 0 F14 G14) (ihT 4 0 0 F14 G14 (TP.kx hT k_15 (fun q => (k_16).1 q) rfl (show 0 ≤ (F14 43).toInt ∧ (F14 43).toInt ≤ 40 by first | exact (o_inc t43 o_12).2 | (simp only [q_17, q_18, q_5, q_6, i_as]; exact (o_inc t43 o_12).2)) (show 0 ≤ (F14 70).toInt by first | exact t70 | (simp only [q_17, q_18, q_5, q_6, i_as]; exact t70)) (show 0 ≤ (F14 60).toInt from (inc60 n14 e14)))))) ?_
        rintro r19 F19 G19 ⟨hK19, hM19, (rfl | rfl), u19⟩
        · dsimp only
          unfold mb_expression_42
          refine PP.ite (fun _ => ?_) (fun c_20 => absurd (by decide) c_20)
          unfold mb_expression_54
          refine PP.ret ?_
          exact ⟨Or.inl rfl, fun h => absurd h (by decide)⟩
        · dsimp only
          obtain ⟨u19a, u19b, u19c, u19d, u19e⟩ := u19 rfl
          have k_21 : KX [42, 43, 44, 45, 47, 48, 49, 55, 60, 62, 70] [56, 57, 58, 59, 67, 68, 69] F G F19 G19 := (KX.tr k_15 hK19 rfl rfl)
          have k_22 : MO F F19 := (MO.tr k_16 hM19)
          have q_23 : F19 43 = ((F 43) + (1 : Int32)) := Eq.trans u19a (show (F14 43) = ((F 43) + (1 : Int32)) by simp only [q_17, q_18, q_5, q_6, i_as])
          have q_24 : F19 70 = (F 70) := Eq.trans u19b (show (F14 70) = (F 70) by simp only [q_17, q_18, q_5, q_6, i_as])
          have q_25 : F14 70 = F 70 := (show (F14 70) = F 70 by first | rfl | (simp only [q_17, q_18, q_5, q_6, i_as]))
          unfold mb_expression_42
          refine PP.ite (fun c_26 => absurd c_26 (by decide)) (fun _ => ?_)
          unfold mb_expression_45
          refine PP.bind (mp_sign (31 : Int32) F19 G19) ?_
          rintro r27 F27 G27 (⟨rfl, rfl, rfl, u27⟩ | ⟨rfl, u27, u27b⟩)
          · dsimp only
            unfold mb_expression_51
            refine PP.ite (fun c_28 => absurd c_28 (by decide)) (fun _ => ?_)
            unfold mb_expression_56
            refine PP.bind (mq_step (12 : Int32) (0 : Int32) (0 : Int32) (fup F19 42 ((F19 42) + (1 : Int32))) G19) ?_
            rintro _ F29 G29 ⟨hK29, rfl, e29, g29, n29⟩
            dsimp only
            have k_30 : KX [42, 43, 44, 45, 47, 48, 49, 55, 60, 62, 70] [56, 57, 58, 59, 67, 68, 69] F G F29 G29 := (KX.tr (KX.f (k := 42) rfl k_21) hK29 rfl rfl)
            have k_31 : MO F F29 := (MO.tr (MO.f (k := 42) (by decide) (by decide) k_22) (MO.kx hK29 rfl rfl))
            have q_32 : F29 43 = ((F 43) + (1 : Int32)) := Eq.trans (hK29.1 43 rfl) (show (F19 43) = ((F 43) + (1 : Int32)) by simp only [q_23, q_24, q_5, q_6, q_17, q_18, i_as])
            have q_33 : F29 70 = (F 70) := Eq.trans (hK29.1 70 rfl) (show (F19 70) = (F 70) by simp only [q_23, q_24, q_5, q_6, q_17, q_18, i_as])
            unfold mb_expression_64
            refine PP.ix (fun _ => ?_)
            unfold mb_expression_75
            refine PP.bind (PP.and (ihK 4 0 0 F29 (gup G29 57 (F1 60).toNatClampNeg (F29 60))) (PP.and (ihM 4 0 0 F29 (gup G29 57 (F1 60).toNatClampNeg (F29 60))) (ihT 4 0 0 F29 (gup G29 57 (F1 60).toNatClampNeg (F29 60)) (TP.kx hT (KX.g (k := 57) rfl k_30) (fun q => (k_31).1 q) rfl (show 0 ≤ (F29 43).toInt ∧ (F29 43).toInt ≤ 40 by first | exact (o_inc t43 o_12).2 | (simp only [q_32, q_33, q_5, q_6, q_17, q_18, q_23, q_24, i_as]; exact (o_inc t43 o_12).2)) (show 0 ≤ (F29 70).toInt by first | exact t70 | (simp only [q_32, q_33, q_5, q_6, q_17, q_18, q_23, q_24, i_as]; exact t70)) (show 0 ≤ (F29 60).toInt from (inc60 n29 e29)))))) ?_
            rintro r34 F34 G34 ⟨hK34, hM34, (rfl | rfl), u34⟩
            · dsimp only
              unfold mb_expression_79
              refine PP.ite (fun _ => ?_) (fun c_35 => absurd (by decide) c_35)
              unfold mb_expression_82
              refine PP.ret ?_
              exact ⟨Or.inl rfl, fun h => absurd h (by decide)⟩
            · dsimp only
              obtain ⟨u34a, u34b, u34c, u34d, u34e⟩ := u34 rfl
              have k_36 : KX [42, 43, 44, 45, 47, 48, 49, 55, 60, 62, 70] [56, 57, 58, 59, 67, 68, 69] F G F34 G34 := (KX.tr (KX.g (k := 57) rfl k_30) hK34 rfl rfl)
              have k_37 : MO F F34 := (MO.tr k_31 hM34)
              have q_38 : F34 43 = ((F 43) + (1 : Int32)) := Eq.trans u34a (show (F29 43) = ((F 43) + (1 : Int32)) by simp only [q_32, q_33, q_5, q_6, q_17, q_18, q_23, q_24, i_as])
              have q_39 : F34 70 = (F 70) := Eq.trans u34b (show (F29 70) = (F 70) by simp only [q_32, q_33, q_5, q_6, q_17, q_18, q_23, q_24, i_as])
              have q_40 : F29 70 = F 70 := (show (F29 70) = F 70 by first | rfl | (simp only [q_32, q_33, q_5, q_6, q_17, q_18, q_23, q_24, i_as]))
              unfold mb_expression_79
              refine PP.ite (fun c_41 => absurd c_41 (by decide)) (fun _ => ?_)
              unfold mb_expression_84
              refine PP.ix (fun _ => ?_)
              unfold mb_expression_94
              unfold mb_expression_104
              refine PP.ret ?_
              refine ⟨Or.inr rfl, fun _ => ⟨(show ((F34 43) - (1 : Int32)) = F 43 by first | rfl | (simp only [q_38, q_39, q_5, q_6, q_17, q_18, q_23, q_24, q_32, q_33, i_as])), (show (F34 70) = F 70 by first | rfl | (simp only [q_38, q_39, q_5, q_6, q_17, q_18, q_23, q_24, q_32, q_33, i_as])), (show 0 ≤ (F34 60).toInt from u34c), (PKp.tr (PKp.kx (PKp.tr (PKp.kx (PKp.tr (fun _ _ => ⟨rfl, rfl⟩ : PKp F G G) u1d q_7) hK14 rfl rfl) u19d q_25) hK29 rfl rfl) u34d q_40), fun hl => ?_⟩⟩
              show TE X F G (fup F34 43 ((F34 43) - (1 : Int32))) (gup G34 57 (F19 60).toNatClampNeg (F34 60)) 0 (fun s => 0 :: s)
              have l_42 : LV F29 := LV.mo hK34 hM34 rfl rfl (show LV F34 from hl)
              have l_43 : LV (fup F19 42 ((F19 42) + (1 : Int32))) := LV.mo hK29 (MO.kx hK29 rfl rfl) rfl rfl (show LV F29 from l_42)
              have l_44 : LV F14 := LV.mo hK19 hM19 rfl rfl (show LV F19 from l_43)
              have l_45 : LV (fup (fup F1 43 ((F1 43) + (1 : Int32))) 42 ((F1 42) + (1 : Int32))) := LV.mo hK14 (MO.kx hK14 rfl rfl) rfl rfl (show LV F14 from l_44)
              have l_46 : LV F := LV.mo hK1 hM1 rfl rfl (show LV F1 from l_45)
              have l0 : LV F := l_46
              intro A s d hA hb
              have E0 : EX X F G A F G s d [] := EX.rf hA
              have lb : s.length ≤ 568 := by have := bd.len hb t43.2; omega
              have E47 : EX X F G A F1 G1 (0 :: s) d [] := EX.tr E0 (fun A1 hA1 => (show TE X F G F1 G1 0 (fun s => 0 :: s) from u1e (show LV F1 from l_45)) A1 _ _ hA1 (bd.mv (e := 0) (c := 0) hb (show F 54 = F 54 from (show KX [42, 43, 44, 45, 47, 48, 49, 55, 60, 62, 70] [56, 57, 58, 59, 67, 68, 69] F G F G from (KX.rf : KX [42, 43, 44, 45, 47, 48, 49, 55, 60, 62, 70] [56, 57, 58, 59, 67, 68, 69] F G F G)).1 54 rfl) (show (F 43).toInt = (F 43).toInt + 0 by rw [show F 43 = F 43 from by first | rfl | (simp only [q_38, q_39, q_5, q_6, q_17, q_18, q_23, q_24, q_32, q_33, i_as, fup, Nat.reduceEqDiff, reduceIte, if_false])]; omega) (by (try simp only [List.length_cons]); omega) (by omega)))
              have E48 : EX X F G A (fup (fup F1 43 ((F1 43) + (1 : Int32))) 42 ((F1 42) + (1 : Int32))) G1 (0 :: s) d [] := EX.st E47 rfl (fun _ _ _ => rfl)
              have E49 : EX X F G A F14 G14 s d [(sN F1, s, d)] := EX.cnd E48 n14 e14 g14 (by have := lb; (try simp only [List.length_cons]); omega) (Or.inl rfl) d (Or.inr rfl)
              have E50 : EX X F G A F19 G19 (0 :: s) d [(sN F1, s, d)] := EX.tr E49 (fun A1 hA1 => (show TE X F14 G14 F19 G19 0 (fun s => 0 :: s) from u19e (show LV F19 from l_43)) A1 _ _ hA1 (bd.mv (e := 1) (c := 0) hb (show F14 54 = F 54 from (show KX [42, 43, 44, 45, 47, 48, 49, 55, 60, 62, 70] [56, 57, 58, 59, 67, 68, 69] F G F14 G14 from k_15).1 54 rfl) (show (F14 43).toInt = (F 43).toInt + 1 by rw [show F14 43 = F 43 + 1 from by first | rfl | (simp only [q_38, q_39, q_5, q_6, q_17, q_18, q_23, q_24, q_32, q_33, i_as, fup, Nat.reduceEqDiff, reduceIte, if_false])]; exact (o_inc t43 o_12).1) (by (try simp only [List.length_cons]); omega) (by omega)))
              have E51 : EX X F G A (fup F19 42 ((F19 42) + (1 : Int32))) G19 (0 :: s) d [(sN F1, s, d)] := EX.st E50 rfl (fun _ _ _ => rfl)
              have E52 : EX X F G A F29 G29 s d [(sN F19, 0 :: s, d), (sN F1, s, d)] := EX.gos E51 n29 e29 g29 (by have := lb; (try simp only [List.length_cons]); omega) s d d (Or.inr rfl)
              have E53 : EX X F G A F29 (gup G29 57 (F1 60).toNatClampNeg (F29 60)) s d [(sN F19, 0 :: s, d)] := EX.patch (p := sN F1) (l1 := [(sN F19, 0 :: s, d)]) (l2 := []) E52 (inc60 n29 e29)
              have E54 : EX X F G A F34 G34 (0 :: s) d [(sN F19, 0 :: s, d)] := EX.tr E53 (fun A1 hA1 => (show TE X F29 (gup G29 57 (F1 60).toNatClampNeg (F29 60)) F34 G34 0 (fun s => 0 :: s) from u34e (show LV F34 from hl)) A1 _ _ hA1 (bd.mv (e := 1) (c := 0) hb (show F29 54 = F 54 from (show KX [42, 43, 44, 45, 47, 48, 49, 55, 60, 62, 70] [56, 57, 58, 59, 67, 68, 69] F G F29 (gup G29 57 (F1 60).toNatClampNeg (F29 60)) from (KX.g (k := 57) rfl k_30)).1 54 rfl) (show (F29 43).toInt = (F 43).toInt + 1 by rw [show F29 43 = F 43 + 1 from by first | rfl | (simp only [q_38, q_39, q_5, q_6, q_17, q_18, q_23, q_24, q_32, q_33, i_as, fup, Nat.reduceEqDiff, reduceIte, if_false])]; exact (o_inc t43 o_12).1) (by (try simp only [List.length_cons]); omega) (by omega)))
              have E55 : EX X F G A F34 (gup G34 57 (F19 60).toNatClampNeg (F34 60)) (0 :: s) d [] := EX.patch (p := sN F19) (l1 := []) (l2 := []) E54 u34c
              exact EX.st E55 rfl (fun _ _ _ => rfl)
          · dsimp only
            unfold mb_expression_51
            refine PP.ite (fun _ => ?_) (fun c_56 => absurd (by decide) c_56)
            unfold mb_expression_54
            refine PP.ret ?_
            exact ⟨Or.inl rfl, fun h => absurd h (by decide)⟩
      · dsimp only
        unfold mb_expression_24
        refine PP.ite (fun _ => ?_) (fun c_57 => absurd (by decide) c_57)
        unfold mb_expression_27
        refine PP.ret ?_
        exact ⟨Or.inl rfl, fun h => absurd h (by decide)⟩
    · dsimp only
      unfold mb_expression_15
      refine PP.ite (fun _ => ?_) (fun c_58 => absurd (by decide) c_58)
      unfold mb_expression_18
      refine PP.ret ?_
      refine ⟨Or.inr rfl, fun _ => ⟨(show (F1 43) = F 43 by first | rfl | (simp only [q_5, q_6, i_as])), (show (F1 70) = F 70 by first | rfl | (simp only [q_5, q_6, i_as])), (show 0 ≤ (F1 60).toInt from u1c), (PKp.tr (fun _ _ => ⟨rfl, rfl⟩ : PKp F G G) u1d q_7), fun hl => ?_⟩⟩
      show TE X F G F1 G1 0 (fun s => 0 :: s)
      have l_59 : LV F := LV.mo hK1 hM1 rfl rfl (show LV F1 from hl)
      have l0 : LV F := l_59
      intro A s d hA hb
      have E0 : EX X F G A F G s d [] := EX.rf hA
      have lb : s.length ≤ 568 := by have := bd.len hb t43.2; omega
      have E60 : EX X F G A F1 G1 (0 :: s) d [] := EX.tr E0 (fun A1 hA1 => (show TE X F G F1 G1 0 (fun s => 0 :: s) from u1e (show LV F1 from hl)) A1 _ _ hA1 (bd.mv (e := 0) (c := 0) hb (show F 54 = F 54 from (show KX [42, 43, 44, 45, 47, 48, 49, 55, 60, 62, 70] [56, 57, 58, 59, 67, 68, 69] F G F G from (KX.rf : KX [42, 43, 44, 45, 47, 48, 49, 55, 60, 62, 70] [56, 57, 58, 59, 67, 68, 69] F G F G)).1 54 rfl) (show (F 43).toInt = (F 43).toInt + 0 by rw [show F 43 = F 43 from by first | rfl | (simp only [q_5, q_6, i_as, fup, Nat.reduceEqDiff, reduceIte, if_false])]; omega) (by (try simp only [List.length_cons]); omega) (by omega)))
      exact EX.st E60 rfl (fun _ _ _ => rfl)
theorem mtt_plain {fu : Nat} {X : TX} {L : List Nat} (rc : RC) (ihK : mKI1 rc) (ihM : mMOI rc) (ihT : mTI X L rc) (F : PF) (G : PG) (hT : TP X L F G) : PP (mh_plain fu rc F G) (fun r' F' G' => TQ X 8 0 0 F G r' F' G') := by
  unfold mh_plain
  have t14 := hT.2.2.2.1
  have t24 := hT.2.2.2.2.1
  have t43 : 0 ≤ (F 43).toInt ∧ (F 43).toInt ≤ 40 := ⟨hT.2.2.2.2.2.1, hT.2.2.2.2.2.2.1⟩
  have t70 := hT.2.2.2.2.2.2.2.1
  obtain ⟨px, hpx⟩ : ∃ q, q = (0 : Int32) := ⟨_, rfl⟩
  obtain ⟨py, hpy⟩ : ∃ q, q = (0 : Int32) := ⟨_, rfl⟩
  show PP _ (fun r' F' G' => TQ X 8 0 0 F G r' F' G')
  unfold mb_plain_0
  refine PP.ix (fun _ => ?_)
  refine PP.ite (fun c_1 => ?_) (fun c_1 => ?_)
  · skip
    unfold mb_plain_13
    refine PP.ix (fun _ => ?_)
    refine PP.bind (mq_step (0 : Int32) (G 5 (F 42).toNatClampNeg) (0 : Int32) F G) ?_
    rintro _ F2 G2 ⟨hK2, rfl, e2, g2, n2⟩
    dsimp only
    have k_3 : KX [42, 43, 44, 45, 47, 48, 49, 55, 60, 62, 70] [56, 57, 58, 59, 67, 68, 69] F G F2 G2 := (KX.tr (KX.rf : KX [42, 43, 44, 45, 47, 48, 49, 55, 60, 62, 70] [56, 57, 58, 59, 67, 68, 69] F G F G) hK2 rfl rfl)
    have k_4 : MO F F2 := (MO.tr (MO.rf : MO F F) (MO.kx hK2 rfl rfl))
    have q_5 : F2 43 = (F 43) := hK2.1 43 rfl
    have q_6 : F2 70 = (F 70) := hK2.1 70 rfl
    unfold mb_plain_28
    unfold mb_plain_39
    refine PP.ret ?_
    refine ⟨Or.inr rfl, fun _ => ⟨(show (F2 43) = F 43 by first | rfl | (simp only [q_5, q_6, i_as])), (show (F2 70) = F 70 by first | rfl | (simp only [q_5, q_6, i_as])), (show 0 ≤ (F2 60).toInt from (inc60 n2 e2)), (PKp.kx (fun _ _ => ⟨rfl, rfl⟩ : PKp F G G) hK2 rfl rfl), fun hl => ?_⟩⟩
    show TE X F G (fup F2 42 ((F2 42) + (1 : Int32))) G2 8 (fun s => 0 :: s)
    have l_7 : LV F := LV.mo hK2 (MO.kx hK2 rfl rfl) rfl rfl (show LV F2 from hl)
    have l0 : LV F := l_7
    intro A s d hA hb
    have E0 : EX X F G A F G s d [] := EX.rf hA
    have lb : s.length ≤ 568 := by have := bd.len hb t43.2; omega
    have E8 : EX X F G A F2 G2 (0 :: s) d [] := EX.stp E0 n2 e2 g2 (by have := lb; (try simp only [List.length_cons]); omega) (fun _ => Or.inl ⟨rfl, rfl⟩)
    exact EX.st E8 rfl (fun _ _ _ => rfl)
  · skip
    unfold mb_plain_41
    refine PP.bind (mp_isSign (22 : Int32) F G) ?_
    rintro _ _ _ ⟨rfl, rfl, (⟨rfl, u9⟩ | ⟨rfl, u9⟩)⟩
    · dsimp only
      unfold mb_plain_47
      refine PP.ite (fun c_10 => absurd c_10 (by decide)) (fun _ => ?_)
      unfold mb_plain_50
      refine PP.bind (mp_opens F G) ?_
      rintro r11 F11 G11 (⟨rfl, rfl, rfl, u11⟩ | ⟨rfl, u11, u11b⟩)
      · dsimp only
        have o_12 : ¬ F 43 = 40 := by
          have q : ¬ (F 43) = 40 := u11
          first | exact q | (simp only [i_as] at q; exact q)
        unfold mb_plain_54
        refine PP.ite (fun c_13 => absurd c_13 (by decide)) (fun _ => ?_)
        unfold mb_plain_57
        refine PP.bind (PP.and (ihK 4 0 0 (fup (fup F 43 ((F 43) + (1 : Int32))) 42 ((F 42) + (1 : Int32))) G) (PP.and (ihM 4 0 0 (fup (fup F 43 ((F 43) + (1 : Int32))) 42 ((F 42) + (1 : Int32))) G) (ihT 4 0 0 (fup (fup F 43 ((F 43) + (1 : Int32))) 42 ((F 42) + (1 : Int32))) G (TP.kx hT (KX.f (k := 42) rfl (KX.f (k := 43) rfl (KX.rf : KX [42, 43, 44, 45, 47, 48, 49, 55, 60, 62, 70] [56, 57, 58, 59, 67, 68, 69] F G F G))) (fun q => ((MO.f (k := 42) (by decide) (by decide) (MO.f (k := 43) (by decide) (by decide) (MO.rf : MO F F)))).1 q) rfl (show 0 ≤ ((F 43) + (1 : Int32)).toInt ∧ ((F 43) + (1 : Int32)).toInt ≤ 40 by first | exact (o_inc t43 o_12).2 | (simp only [i_as]; exact (o_inc t43 o_12).2)) (show 0 ≤ (F 70).toInt by first | exact t70 | (simp only [i_as]; exact t70)) (show 0 ≤ (F 60).toInt from hT.2.2.2.2.2.2.2.2))))) ?_
        rintro r14 F14 G14 ⟨hK14, hM14, (rfl | rfl), u14⟩
        · dsimp only
          unfold mb_plain_61
          refine PP.ite (fun _ => ?_) (fun c_15 => absurd (by decide) c_15)
          unfold mb_plain_77
          unfold mb_plain_78
          refine PP.ret ?_
          exact ⟨Or.inl rfl, fun h => absurd h (by decide)⟩
        · dsimp only
          obtain ⟨u14a, u14b, u14c, u14d, u14e⟩ := u14 rfl
          have k_16 : KX [42, 43, 44, 45, 47, 48, 49, 55, 60, 62, 70] [56, 57, 58, 59, 67, 68, 69] F G F14 G14 := (KX.tr (KX.f (k := 42) rfl (KX.f (k := 43) rfl (KX.rf : KX [42, 43, 44, 45, 47, 48, 49, 55, 60, 62, 70] [56, 57, 58, 59, 67, 68, 69] F G F G))) hK14 rfl rfl)
          have k_17 : MO F F14 := (MO.tr (MO.f (k := 42) (by decide) (by decide) (MO.f (k := 43) (by decide) (by decide) (MO.rf : MO F F))) hM14)
          have q_18 : F14 43 = ((F 43) + (1 : Int32)) := u14a
          have q_19 : F14 70 = (F 70) := u14b
          have q_20 : (fup (fup F 43 ((F 43) + (1 : Int32))) 42 ((F 42) + (1 : Int32))) 70 = F 70 := (show (F 70) = F 70 by first | rfl | (simp only [i_as]))
          unfold mb_plain_61
          refine PP.ite (fun c_21 => absurd c_21 (by decide)) (fun _ => ?_)
          unfold mb_plain_64
          refine PP.bind (mp_closeSign (23 : Int32) F14 G14) ?_
          rintro r22 F22 G22 (⟨rfl, rfl, rfl, u22⟩ | ⟨rfl, u22, u22b⟩)
          · dsimp only
            unfold mb_plain_70
            refine PP.ite (fun c_23 => absurd c_23 (by decide)) (fun _ => ?_)
            unfold mb_plain_73
            unfold mb_plain_78
            refine PP.ret ?_
            refine ⟨Or.inr rfl, fun _ => ⟨(show ((F14 43) - (1 : Int32)) = F 43 by first | rfl | (simp only [q_18, q_19, i_as])), (show (F14 70) = F 70 by first | rfl | (simp only [q_18, q_19, i_as])), (show 0 ≤ (F14 60).toInt from u14c), (PKp.tr (fun _ _ => ⟨rfl, rfl⟩ : PKp F G G) u14d q_20), fun hl => ?_⟩⟩
            show TE X F G (fup (fup F14 42 ((F14 42) + (1 : Int32))) 43 ((F14 43) - (1 : Int32))) G14 8 (fun s => 0 :: s)
            have l_24 : LV (fup (fup F 43 ((F 43) + (1 : Int32))) 42 ((F 42) + (1 : Int32))) := LV.mo hK14 hM14 rfl rfl (show LV F14 from hl)
            have l0 : LV F := l_24
            intro A s d hA hb
            have E0 : EX X F G A F G s d [] := EX.rf hA
            have lb : s.length ≤ 568 := by have := bd.len hb t43.2; omega
            have E25 : EX X F G A (fup (fup F 43 ((F 43) + (1 : Int32))) 42 ((F 42) + (1 : Int32))) G s d [] := EX.st E0 rfl (fun _ _ _ => rfl)
            have E26 : EX X F G A F14 G14 (0 :: s) d [] := EX.tr E25 (fun A1 hA1 => (show TE X (fup (fup F 43 ((F 43) + (1 : Int32))) 42 ((F 42) + (1 : Int32))) G F14 G14 0 (fun s => 0 :: s) from u14e (show LV F14 from hl)) A1 _ _ hA1 (bd.mv (e := 1) (c := 0) hb (show (fup (fup F 43 ((F 43) + (1 : Int32))) 42 ((F 42) + (1 : Int32))) 54 = F 54 from (show KX [42, 43, 44, 45, 47, 48, 49, 55, 60, 62, 70] [56, 57, 58, 59, 67, 68, 69] F G (fup (fup F 43 ((F 43) + (1 : Int32))) 42 ((F 42) + (1 : Int32))) G from (KX.f (k := 42) rfl (KX.f (k := 43) rfl (KX.rf : KX [42, 43, 44, 45, 47, 48, 49, 55, 60, 62, 70] [56, 57, 58, 59, 67, 68, 69] F G F G)))).1 54 rfl) (show ((fup (fup F 43 ((F 43) + (1 : Int32))) 42 ((F 42) + (1 : Int32))) 43).toInt = (F 43).toInt + 1 by rw [show (fup (fup F 43 ((F 43) + (1 : Int32))) 42 ((F 42) + (1 : Int32))) 43 = F 43 + 1 from by first | rfl | (simp only [q_18, q_19, i_as, fup, Nat.reduceEqDiff, reduceIte, if_false])]; exact (o_inc t43 o_12).1) (by (try simp only [List.length_cons]); omega) (by omega)))
            exact EX.st E26 rfl (fun _ _ _ => rfl)
          · dsimp only
            unfold mb_plain_70
            refine PP.ite (fun _ => ?_) (fun c_27 => absurd (by decide) c_27)
            unfold mb_plain_77
            unfold mb_plain_78
            refine PP.ret ?_
            exact ⟨Or.inl rfl, fun h => absurd h (by decide)⟩
      · dsimp only
        unfold mb_plain_54
        refine PP.ite (fun _ => ?_) (fun c_28 => absurd (by decide) c_28)
        unfold mb_plain_77
        unfold mb_plain_78
        refine PP.ret ?_
        exact ⟨Or.inl rfl, fun h => absurd h (by decide)⟩
    · dsimp only
      unfold mb_plain_47
      refine PP.ite (fun _ => ?_) (fun c_29 => absurd (by decide) c_29)
      unfold mb_plain_79
      refine PP.bind (mp_isWord (13 : Int32) F G) ?_
      rintro _ _ _ ⟨rfl, rfl, (⟨rfl, u30⟩ | ⟨rfl, u30⟩)⟩
      · dsimp only
        unfold mb_plain_85
        refine PP.ite (fun c_31 => absurd c_31 (by decide)) (fun _ => ?_)
        unfold mb_plain_88
        refine PP.ite (fun c_32 => ?_) (fun c_32 => ?_)
        · skip
          have m_33 : F 54 = 0 := Eq.trans (Eq.symm ((show KX [42, 43, 44, 45, 47, 48, 49, 55, 60, 62, 70] [56, 57, 58, 59, 67, 68, 69] F G F G from (KX.rf : KX [42, 43, 44, 45, 47, 48, 49, 55, 60, 62, 70] [56, 57, 58, 59, 67, 68, 69] F G F G)).1 54 rfl)) (show (F 54) = 0 from c_32)
          unfold mb_plain_115
          unfold mb_plain_125
          refine PP.bind (mp_openSign (22 : Int32) (fup F 42 ((F 42) + (1 : Int32))) G) ?_
          rintro r34 F34 G34 (⟨rfl, rfl, rfl, u34⟩ | ⟨rfl, u34, u34b⟩)
          · dsimp only
            have o_35 : ¬ F 43 = 40 := by
              have q : ¬ (F 43) = 40 := u34.2.1
              first | exact q | (simp only [i_as] at q; exact q)
            unfold mb_plain_131
            refine PP.ite (fun c_36 => absurd c_36 (by decide)) (fun _ => ?_)
            unfold mb_plain_134
            refine PP.bind (mp_closeSign (23 : Int32) (fup (fup (fup F 42 ((F 42) + (1 : Int32))) 43 ((F 43) + (1 : Int32))) 42 (((F 42) + (1 : Int32)) + (1 : Int32))) G) ?_
            rintro r37 F37 G37 (⟨rfl, rfl, rfl, u37⟩ | ⟨rfl, u37, u37b⟩)
            · dsimp only
              unfold mb_plain_140
              refine PP.ite (fun c_38 => absurd c_38 (by decide)) (fun _ => ?_)
              unfold mb_plain_145
              refine PP.bind (mq_step (21 : Int32) (0 : Int32) (0 : Int32) (fup (fup (fup (fup (fup F 42 ((F 42) + (1 : Int32))) 43 ((F 43) + (1 : Int32))) 42 (((F 42) + (1 : Int32)) + (1 : Int32))) 42 ((((F 42) + (1 : Int32)) + (1 : Int32)) + (1 : Int32))) 43 (((F 43) + (1 : Int32)) - (1 : Int32))) G) ?_
              rintro _ F39 G39 ⟨hK39, rfl, e39, g39, n39⟩
              dsimp only
              have k_40 : KX [42, 43, 44, 45, 47, 48, 49, 55, 60, 62, 70] [56, 57, 58, 59, 67, 68, 69] F G F39 G39 := (KX.tr (KX.f (k := 43) rfl (KX.f (k := 42) rfl (KX.f (k := 42) rfl (KX.f (k := 43) rfl (KX.f (k := 42) rfl (KX.rf : KX [42, 43, 44, 45, 47, 48, 49, 55, 60, 62, 70] [56, 57, 58, 59, 67, 68, 69] F G F G)))))) hK39 rfl rfl)
              have k_41 : MO F F39 := (MO.tr (MO.f (k := 43) (by decide) (by decide) (MO.f (k := 42) (by decide) (by decide) (MO.f (k := 42) (by decide) (by decide) (MO.f (k := 43) (by decide) (by decide) (MO.f (k := 42) (by decide) (by decide) (MO.rf : MO F F)))))) (MO.kx hK39 rfl rfl))
              have q_42 : F39 43 = (F 43) := Eq.trans (hK39.1 43 rfl) (show (((F 43) + (1 : Int32)) - (1 : Int32)) = (F 43) by simp only [i_as])
              have q_43 : F39 70 = (F 70) := hK39.1 70 rfl
              unfold mb_plain_153
              refine PP.ret ?_
              refine ⟨Or.inr rfl, fun _ => ⟨(show (F39 43) = F 43 by first | rfl | (simp only [q_42, q_43, i_as])), (show (F39 70) = F 70 by first | rfl | (simp only [q_42, q_43, i_as])), (show 0 ≤ (F39 60).toInt from (inc60 n39 e39)), (PKp.kx (fun _ _ => ⟨rfl, rfl⟩ : PKp F G G) hK39 rfl rfl), fun hl => ?_⟩⟩
              show TE X F G F39 G39 8 (fun s => 0 :: s)
              have l_44 : LV (fup (fup (fup (fup (fup F 42 ((F 42) + (1 : Int32))) 43 ((F 43) + (1 : Int32))) 42 (((F 42) + (1 : Int32)) + (1 : Int32))) 42 ((((F 42) + (1 : Int32)) + (1 : Int32)) + (1 : Int32))) 43 (((F 43) + (1 : Int32)) - (1 : Int32))) := LV.mo hK39 (MO.kx hK39 rfl rfl) rfl rfl (show LV F39 from hl)
              have l0 : LV F := l_44
              intro A s d hA hb
              have hm : X.1 = false := hT.m.1 m_33
              have E0 : EX X F G A F G s d [] := EX.rf hA
              have lb : s.length ≤ 568 := by have := bd.len hb t43.2; omega
              have E45 : EX X F G A (fup (fup (fup (fup (fup F 42 ((F 42) + (1 : Int32))) 43 ((F 43) + (1 : Int32))) 42 (((F 42) + (1 : Int32)) + (1 : Int32))) 42 ((((F 42) + (1 : Int32)) + (1 : Int32)) + (1 : Int32))) 43 (((F 43) + (1 : Int32)) - (1 : Int32))) G s d [] := EX.st E0 rfl (fun _ _ _ => rfl)
              have E46 : EX X F G A F39 G39 (0 :: s) d [] := EX.stp E45 n39 e39 g39 (by have := lb; (try simp only [List.length_cons]); omega) (fun _ => Or.inr (Or.inr (Or.inr (Or.inr ⟨hm, Or.inr (Or.inr (Or.inr (Or.inr (Or.inr (Or.inr (Or.inr (Or.inr (Or.inr (Or.inr (Or.inr (Or.inl ⟨rfl, rfl⟩)))))))))))⟩))))
              exact EX.st E46 rfl (fun _ _ _ => rfl)
            · dsimp only
              unfold mb_plain_140
              refine PP.ite (fun _ => ?_) (fun c_47 => absurd (by decide) c_47)
              unfold mb_plain_143
              refine PP.ret ?_
              exact ⟨Or.inl rfl, fun h => absurd h (by decide)⟩
          · dsimp only
            unfold mb_plain_131
            refine PP.ite (fun _ => ?_) (fun c_48 => absurd (by decide) c_48)
            unfold mb_plain_143
            refine PP.ret ?_
            exact ⟨Or.inl rfl, fun h => absurd h (by decide)⟩
        · skip
          have m_49 : ¬ F 54 = 0 := fun q => (show ¬ (F 54) = 0 from c_32) (Eq.trans ((show KX [42, 43, 44, 45, 47, 48, 49, 55, 60, 62, 70] [56, 57, 58, 59, 67, 68, 69] F G F G from (KX.rf : KX [42, 43, 44, 45, 47, 48, 49, 55, 60, 62, 70] [56, 57, 58, 59, 67, 68, 69] F G F G)).1 54 rfl) q)
          unfold mb_plain_95
          refine PP.ix (fun _ => ?_)
          refine PP.bind (PP.and (mp_note (10 : Int32) (G 6 (F 42).toNatClampNeg) (by decide) F G) (mm_note (10 : Int32) (G 6 (F 42).toNatClampNeg) (by decide) F G)) ?_
          rintro r50 F50 G50 ⟨⟨hK50, rfl, u50, -⟩, hM50⟩
          dsimp only
          have k_51 : KX [42, 43, 44, 45, 47, 48, 49, 55, 60, 62, 70] [56, 57, 58, 59, 67, 68, 69] F G F50 G := (KX.tr (KX.rf : KX [42, 43, 44, 45, 47, 48, 49, 55, 60, 62, 70] [56, 57, 58, 59, 67, 68, 69] F G F G) hK50 rfl rfl)
          have k_52 : MO F F50 := (MO.tr (MO.rf : MO F F) hM50)
          have q_53 : F50 43 = (F 43) := hK50.1 43 rfl
          have q_54 : F50 70 = (F 70) := hK50.1 70 rfl
          unfold mb_plain_110
          unfold mb_plain_115
          unfold mb_plain_125
          refine PP.bind (mp_openSign (22 : Int32) (fup (fup F50 55 (1 : Int32)) 42 ((F50 42) + (1 : Int32))) G) ?_
          rintro r55 F55 G55 (⟨rfl, rfl, rfl, u55⟩ | ⟨rfl, u55, u55b⟩)
          · dsimp only
            have o_56 : ¬ F 43 = 40 := by
              have q : ¬ (F50 43) = 40 := u55.2.1
              first | exact q | (simp only [q_53, q_54, i_as] at q; exact q)
            unfold mb_plain_131
            refine PP.ite (fun c_57 => absurd c_57 (by decide)) (fun _ => ?_)
            unfold mb_plain_134
            refine PP.bind (mp_closeSign (23 : Int32) (fup (fup (fup (fup F50 55 (1 : Int32)) 42 ((F50 42) + (1 : Int32))) 43 ((F50 43) + (1 : Int32))) 42 (((F50 42) + (1 : Int32)) + (1 : Int32))) G) ?_
            rintro r58 F58 G58 (⟨rfl, rfl, rfl, u58⟩ | ⟨rfl, u58, u58b⟩)
            · dsimp only
              unfold mb_plain_140
              refine PP.ite (fun c_59 => absurd c_59 (by decide)) (fun _ => ?_)
              unfold mb_plain_145
              refine PP.bind (mq_step (21 : Int32) (0 : Int32) (0 : Int32) (fup (fup (fup (fup (fup (fup F50 55 (1 : Int32)) 42 ((F50 42) + (1 : Int32))) 43 ((F50 43) + (1 : Int32))) 42 (((F50 42) + (1 : Int32)) + (1 : Int32))) 42 ((((F50 42) + (1 : Int32)) + (1 : Int32)) + (1 : Int32))) 43 (((F50 43) + (1 : Int32)) - (1 : Int32))) G) ?_
              rintro _ F60 G60 ⟨hK60, rfl, e60, g60, n60⟩
              dsimp only
              have k_61 : KX [42, 43, 44, 45, 47, 48, 49, 55, 60, 62, 70] [56, 57, 58, 59, 67, 68, 69] F G F60 G60 := (KX.tr (KX.f (k := 43) rfl (KX.f (k := 42) rfl (KX.f (k := 42) rfl (KX.f (k := 43) rfl (KX.f (k := 42) rfl (KX.f (k := 55) rfl k_51)))))) hK60 rfl rfl)
              have k_62 : MO F F60 := (MO.tr (MO.f (k := 43) (by decide) (by decide) (MO.f (k := 42) (by decide) (by decide) (MO.f (k := 42) (by decide) (by decide) (MO.f (k := 43) (by decide) (by decide) (MO.f (k := 42) (by decide) (by decide) (MO.f55 k_52)))))) (MO.kx hK60 rfl rfl))
              have q_63 : F60 43 = (F 43) := Eq.trans (hK60.1 43 rfl) (show (((F50 43) + (1 : Int32)) - (1 : Int32)) = (F 43) by simp only [q_53, q_54, i_as])
              have q_64 : F60 70 = (F 70) := Eq.trans (hK60.1 70 rfl) (show (F50 70) = (F 70) by simp only [q_53, q_54, i_as])
              unfold mb_plain_153
              refine PP.ret ?_
              refine ⟨Or.inr rfl, fun _ => ⟨(show (F60 43) = F 43 by first | rfl | (simp only [q_63, q_64, q_53, q_54, i_as])), (show (F60 70) = F 70 by first | rfl | (simp only [q_63, q_64, q_53, q_54, i_as])), (show 0 ≤ (F60 60).toInt from (inc60 n60 e60)), (PKp.kx (PKp.kx (fun _ _ => ⟨rfl, rfl⟩ : PKp F G G) hK50 rfl rfl) hK60 rfl rfl), fun hl => ?_⟩⟩
              show TE X F G F60 G60 8 (fun s => 0 :: s)
              have l_65 : LV (fup (fup (fup (fup (fup (fup F50 55 (1 : Int32)) 42 ((F50 42) + (1 : Int32))) 43 ((F50 43) + (1 : Int32))) 42 (((F50 42) + (1 : Int32)) + (1 : Int32))) 42 ((((F50 42) + (1 : Int32)) + (1 : Int32)) + (1 : Int32))) 43 (((F50 43) + (1 : Int32)) - (1 : Int32))) := LV.mo hK60 (MO.kx hK60 rfl rfl) rfl rfl (show LV F60 from hl)
              exact absurd (show (1 : Int32) = 0 from (show LV (fup F50 55 (1 : Int32)) from l_65).2.2 (fun q => m_49 (Eq.trans (Eq.symm ((show KX [42, 43, 44, 45, 47, 48, 49, 55, 60, 62, 70] [56, 57, 58, 59, 67, 68, 69] F G F50 G from k_51).1 54 rfl)) q))) (by decide)
            · dsimp only
              unfold mb_plain_140
              refine PP.ite (fun _ => ?_) (fun c_66 => absurd (by decide) c_66)
              unfold mb_plain_143
              refine PP.ret ?_
              exact ⟨Or.inl rfl, fun h => absurd h (by decide)⟩
          · dsimp only
            unfold mb_plain_131
            refine PP.ite (fun _ => ?_) (fun c_67 => absurd (by decide) c_67)
            unfold mb_plain_143
            refine PP.ret ?_
            exact ⟨Or.inl rfl, fun h => absurd h (by decide)⟩
      · dsimp only
        unfold mb_plain_85
        refine PP.ite (fun _ => ?_) (fun c_68 => absurd (by decide) c_68)
        unfold mb_plain_156
        refine PP.ix (fun _ => ?_)
        refine PP.ite (fun c_69 => ?_) (fun c_69 => ?_)
        · skip
          unfold mb_plain_175
          unfold mb_plain_190
          refine PP.ite (fun c_70 => ?_) (fun c_70 => ?_)
          · skip
            have m_71 : F 54 = 0 := Eq.trans (Eq.symm ((show KX [42, 43, 44, 45, 47, 48, 49, 55, 60, 62, 70] [56, 57, 58, 59, 67, 68, 69] F G (fup F 42 ((F 42) + (1 : Int32))) G from (KX.f (k := 42) rfl (KX.rf : KX [42, 43, 44, 45, 47, 48, 49, 55, 60, 62, 70] [56, 57, 58, 59, 67, 68, 69] F G F G))).1 54 rfl)) (show (F 54) = 0 from c_70)
            unfold mb_plain_205
            refine PP.bind (PP.and (ihK 6 (F 42) 0 (fup F 42 ((F 42) + (1 : Int32))) G) (PP.and (ihM 6 (F 42) 0 (fup F 42 ((F 42) + (1 : Int32))) G) (ihT 6 (F 42) 0 (fup F 42 ((F 42) + (1 : Int32))) G (TP.kx hT (KX.f (k := 42) rfl (KX.rf : KX [42, 43, 44, 45, 47, 48, 49, 55, 60, 62, 70] [56, 57, 58, 59, 67, 68, 69] F G F G)) (fun q => ((MO.f (k := 42) (by decide) (by decide) (MO.rf : MO F F))).1 q) rfl (show 0 ≤ (F 43).toInt ∧ (F 43).toInt ≤ 40 by first | exact t43 | (simp only [i_as]; exact t43)) (show 0 ≤ (F 70).toInt by first | exact t70 | (simp only [i_as]; exact t70)) (show 0 ≤ (F 60).toInt from hT.2.2.2.2.2.2.2.2))))) ?_
            rintro r72 F72 G72 ⟨hK72, hM72, (rfl | rfl), u72⟩
            · dsimp only
              unfold mb_plain_210
              refine PP.ret ?_
              exact ⟨Or.inl rfl, fun h => absurd h (by decide)⟩
            · dsimp only
              obtain ⟨u72a, u72b, u72c, u72d, u72e⟩ := u72 rfl
              have k_73 : KX [42, 43, 44, 45, 47, 48, 49, 55, 60, 62, 70] [56, 57, 58, 59, 67, 68, 69] F G F72 G72 := (KX.tr (KX.f (k := 42) rfl (KX.rf : KX [42, 43, 44, 45, 47, 48, 49, 55, 60, 62, 70] [56, 57, 58, 59, 67, 68, 69] F G F G)) hK72 rfl rfl)
              have k_74 : MO F F72 := (MO.tr (MO.f (k := 42) (by decide) (by decide) (MO.rf : MO F F)) hM72)
              have q_75 : F72 43 = (F 43) := u72a
              have q_76 : F72 70 = (F 70) := u72b
              have q_77 : (fup F 42 ((F 42) + (1 : Int32))) 70 = F 70 := (show (F 70) = F 70 by first | rfl | (simp only [i_as]))
              unfold mb_plain_210
              refine PP.ret ?_
              refine ⟨Or.inr rfl, fun _ => ⟨(show (F72 43) = F 43 by first | rfl | (simp only [q_75, q_76, i_as])), (show (F72 70) = F 70 by first | rfl | (simp only [q_75, q_76, i_as])), (show 0 ≤ (F72 60).toInt from u72c), (PKp.tr (fun _ _ => ⟨rfl, rfl⟩ : PKp F G G) u72d q_77), fun hl => ?_⟩⟩
              show TE X F G F72 G72 8 (fun s => 0 :: s)
              have l_78 : LV (fup F 42 ((F 42) + (1 : Int32))) := LV.mo hK72 hM72 rfl rfl (show LV F72 from hl)
              have l0 : LV F := l_78
              intro A s d hA hb
              have hm : X.1 = false := hT.m.1 m_71
              have E0 : EX X F G A F G s d [] := EX.rf hA
              have lb : s.length ≤ 568 := by have := bd.len hb t43.2; omega
              have E79 : EX X F G A (fup F 42 ((F 42) + (1 : Int32))) G s d [] := EX.st E0 rfl (fun _ _ _ => rfl)
              have E80 : EX X F G A F72 G72 (0 :: s) d [] := EX.tr E79 (fun A1 hA1 => ((show (fup F 42 ((F 42) + (1 : Int32))) 54 = 0 → TE X (fup F 42 ((F 42) + (1 : Int32))) G F72 G72 8 (fun s => 0 :: s) from u72e (show LV F72 from hl)) (Eq.trans (show (fup F 42 ((F 42) + (1 : Int32))) 54 = F 54 from (show KX [42, 43, 44, 45, 47, 48, 49, 55, 60, 62, 70] [56, 57, 58, 59, 67, 68, 69] F G (fup F 42 ((F 42) + (1 : Int32))) G from (KX.f (k := 42) rfl (KX.rf : KX [42, 43, 44, 45, 47, 48, 49, 55, 60, 62, 70] [56, 57, 58, 59, 67, 68, 69] F G F G))).1 54 rfl) m_71)) A1 _ _ hA1 (bd.mv (e := 0) (c := 0) hb (show (fup F 42 ((F 42) + (1 : Int32))) 54 = F 54 from (show KX [42, 43, 44, 45, 47, 48, 49, 55, 60, 62, 70] [56, 57, 58, 59, 67, 68, 69] F G (fup F 42 ((F 42) + (1 : Int32))) G from (KX.f (k := 42) rfl (KX.rf : KX [42, 43, 44, 45, 47, 48, 49, 55, 60, 62, 70] [56, 57, 58, 59, 67, 68, 69] F G F G))).1 54 rfl) (show ((fup F 42 ((F 42) + (1 : Int32))) 43).toInt = (F 43).toInt + 0 by rw [show (fup F 42 ((F 42) + (1 : Int32))) 43 = F 43 from by first | rfl | (simp only [q_75, q_76, i_as, fup, Nat.reduceEqDiff, reduceIte, if_false])]; omega) (by (try simp only [List.length_cons]); omega) (by omega)))
              exact EX.st E80 rfl (fun _ _ _ => rfl)
          · skip
            have m_81 : ¬ F 54 = 0 := fun q => (show ¬ (F 54) = 0 from c_70) (Eq.trans ((show KX [42, 43, 44, 45, 47, 48, 49, 55, 60, 62, 70] [56, 57, 58, 59, 67, 68, 69] F G (fup F 42 ((F 42) + (1 : Int32))) G from (KX.f (k := 42) rfl (KX.rf : KX [42, 43, 44, 45, 47, 48, 49, 55, 60, 62, 70] [56, 57, 58, 59, 67, 68, 69] F G F G))).1 54 rfl) q)
            unfold mb_plain_197
            refine PP.bind (PP.and (ihK 5 (F 42) 0 (fup F 42 ((F 42) + (1 : Int32))) G) (PP.and (ihM 5 (F 42) 0 (fup F 42 ((F 42) + (1 : Int32))) G) (ihT 5 (F 42) 0 (fup F 42 ((F 42) + (1 : Int32))) G (TP.kx hT (KX.f (k := 42) rfl (KX.rf : KX [42, 43, 44, 45, 47, 48, 49, 55, 60, 62, 70] [56, 57, 58, 59, 67, 68, 69] F G F G)) (fun q => ((MO.f (k := 42) (by decide) (by decide) (MO.rf : MO F F))).1 q) rfl (show 0 ≤ (F 43).toInt ∧ (F 43).toInt ≤ 40 by first | exact t43 | (simp only [i_as]; exact t43)) (show 0 ≤ (F 70).toInt by first | exact t70 | (simp only [i_as]; exact t70)) (show 0 ≤ (F 60).toInt from hT.2.2.2.2.2.2.2.2))))) ?_
            rintro r82 F82 G82 ⟨hK82, hM82, (rfl | rfl), u82⟩
            · dsimp only
              unfold mb_plain_202
              unfold mb_plain_210
              refine PP.ret ?_
              exact ⟨Or.inl rfl, fun h => absurd h (by decide)⟩
            · dsimp only
              obtain ⟨u82a, u82b, u82c, u82d, u82e⟩ := u82 rfl
              have k_83 : KX [42, 43, 44, 45, 47, 48, 49, 55, 60, 62, 70] [56, 57, 58, 59, 67, 68, 69] F G F82 G82 := (KX.tr (KX.f (k := 42) rfl (KX.rf : KX [42, 43, 44, 45, 47, 48, 49, 55, 60, 62, 70] [56, 57, 58, 59, 67, 68, 69] F G F G)) hK82 rfl rfl)
              have k_84 : MO F F82 := (MO.tr (MO.f (k := 42) (by decide) (by decide) (MO.rf : MO F F)) hM82)
              have q_85 : F82 43 = (F 43) := u82a
              have q_86 : F82 70 = (F 70) := u82b
              have q_87 : (fup F 42 ((F 42) + (1 : Int32))) 70 = F 70 := (show (F 70) = F 70 by first | rfl | (simp only [i_as]))
              unfold mb_plain_202
              unfold mb_plain_210
              refine PP.ret ?_
              refine ⟨Or.inr rfl, fun _ => ⟨(show (F82 43) = F 43 by first | rfl | (simp only [q_85, q_86, i_as])), (show (F82 70) = F 70 by first | rfl | (simp only [q_85, q_86, i_as])), (show 0 ≤ (F82 60).toInt from u82c), (PKp.tr (fun _ _ => ⟨rfl, rfl⟩ : PKp F G G) u82d q_87), fun hl => ?_⟩⟩
              show TE X F G F82 G82 8 (fun s => 0 :: s)
              have l_88 : LV (fup F 42 ((F 42) + (1 : Int32))) := LV.mo hK82 hM82 rfl rfl (show LV F82 from hl)
              have l0 : LV F := l_88
              intro A s d hA hb
              have E0 : EX X F G A F G s d [] := EX.rf hA
              have lb : s.length ≤ 568 := by have := bd.len hb t43.2; omega
              have E89 : EX X F G A (fup F 42 ((F 42) + (1 : Int32))) G s d [] := EX.st E0 rfl (fun _ _ _ => rfl)
              have E90 : EX X F G A F82 G82 (0 :: s) d [] := EX.tr E89 (fun A1 hA1 => ((show ¬ (fup F 42 ((F 42) + (1 : Int32))) 54 = 0 → TE X (fup F 42 ((F 42) + (1 : Int32))) G F82 G82 8 (fun s => 0 :: s) from u82e (show LV F82 from hl)) (fun q => m_81 (Eq.trans (Eq.symm (show (fup F 42 ((F 42) + (1 : Int32))) 54 = F 54 from (show KX [42, 43, 44, 45, 47, 48, 49, 55, 60, 62, 70] [56, 57, 58, 59, 67, 68, 69] F G (fup F 42 ((F 42) + (1 : Int32))) G from (KX.f (k := 42) rfl (KX.rf : KX [42, 43, 44, 45, 47, 48, 49, 55, 60, 62, 70] [56, 57, 58, 59, 67, 68, 69] F G F G))).1 54 rfl)) q))) A1 _ _ hA1 (bd.mv (e := 0) (c := 0) hb (show (fup F 42 ((F 42) + (1 : Int32))) 54 = F 54 from (show KX [42, 43, 44, 45, 47, 48, 49, 55, 60, 62, 70] [56, 57, 58, 59, 67, 68, 69] F G (fup F 42 ((F 42) + (1 : Int32))) G from (KX.f (k := 42) rfl (KX.rf : KX [42, 43, 44, 45, 47, 48, 49, 55, 60, 62, 70] [56, 57, 58, 59, 67, 68, 69] F G F G))).1 54 rfl) (show ((fup F 42 ((F 42) + (1 : Int32))) 43).toInt = (F 43).toInt + 0 by rw [show (fup F 42 ((F 42) + (1 : Int32))) 43 = F 43 from by first | rfl | (simp only [q_85, q_86, i_as, fup, Nat.reduceEqDiff, reduceIte, if_false])]; omega) (by (try simp only [List.length_cons]); omega) (by omega)))
              exact EX.st E90 rfl (fun _ _ _ => rfl)
        · skip
          unfold mb_plain_169
          refine PP.bind (mp_fails (2 : Int32) (by decide) F G) ?_
          rintro r91 F91 G91 ⟨rfl, u91⟩
          dsimp only
          unfold mb_plain_174
          refine PP.ret ?_
          exact ⟨Or.inl rfl, fun h => absurd h (by decide)⟩
theorem mtz_operand_63 {fu : Nat} {X : TX} {L : List Nat} {px py : Int32} (rc : RC) (ihK : mKI1 rc) (ihM : mMOI rc) (ihT : mTI X L rc) {F0 : PF} {G0 : PG} (hT : TP X L F0 G0) : ∀ (n : Nat) (x1 : Int32) (x3 : Int32) (F : PF) (G : PG) (hA : (KX [42, 43, 44, 45, 47, 48, 49, 55, 60, 62, 70] [56, 57, 58, 59, 67, 68, 69] F0 G0 F G ∧ MO F0 F ∧ F 43 = (F0 43) ∧ F 70 = F0 70 ∧ 0 ≤ (F 60).toInt ∧ PKp F0 G0 G ∧ (LV F → ∀ (A : AN) (s : SH) (d : Nat), A (sN F0) = (s, d, false) → bd 8 F0 s → EX X F0 G0 A F G (0 :: s) d []))), PP (ml_operand_63 fu rc n x1 x3 F G) (fun r' F' G' => TQ X 7 px py F0 G0 r' F' G') := by
  intro n
  induction n with
  | zero =>
    intro x1 x3 F G hA
    exact PP.no
  | succ n ihn =>
    intro x1 x3 F G hA
    show PP (mb_operand_63 fu rc (ml_operand_63 fu rc n) x1 x3 F G) _
    have t14 := hT.2.2.2.1
    have t24 := hT.2.2.2.2.1
    have t43 : 0 ≤ (F0 43).toInt ∧ (F0 43).toInt ≤ 40 := ⟨hT.2.2.2.2.2.1, hT.2.2.2.2.2.2.1⟩
    have t70 := hT.2.2.2.2.2.2.2.1
    rcases hA with ⟨hK, hM, h43, h70, h60, hPK, hL⟩
    · skip
      unfold mb_operand_63
      refine PP.ite (fun c_1 => ?_) (fun c_1 => ?_)
      · skip
        have w_2 := i_lt.mp c_1
        unfold mb_operand_88
        refine PP.ret ?_
        refine ⟨Or.inr rfl, fun _ => ⟨(show (F 43) = F0 43 by first | rfl | (simp only [h43, h70, i_as])), (show (F 70) = F0 70 by first | rfl | (simp only [h43, h70, i_as])), (show 0 ≤ (F 60).toInt from h60), hPK, fun hl => ?_⟩⟩
        show TE X F0 G0 F G 8 (fun s => 0 :: s)
        have hE0 := hL hl
        have l0 : LV F := hl
        intro A s d hA hb
        have E0 := hE0 A s d hA hb
        have lb : s.length ≤ 568 := by have := bd.len hb t43.2; omega
        exact EX.st E0 rfl (fun _ _ _ => rfl)
      · skip
        have w_3 := mt i_lt.mpr c_1
        unfold mb_operand_68
        refine PP.ix (fun _ => ?_)
        refine PP.bind (mq_step (11 : Int32) (G 5 x3.toNatClampNeg) (0 : Int32) F G) ?_
        rintro _ F4 G4 ⟨hK4, rfl, e4, g4, n4⟩
        dsimp only
        have k_5 : KX [42, 43, 44, 45, 47, 48, 49, 55, 60, 62, 70] [56, 57, 58, 59, 67, 68, 69] F0 G0 F4 G4 := (KX.tr hK hK4 rfl rfl)
        have k_6 : MO F0 F4 := (MO.tr hM (MO.kx hK4 rfl rfl))
        have q_7 : F4 43 = (F0 43) := Eq.trans (hK4.1 43 rfl) (show (F 43) = (F0 43) by simp only [h43, h70, i_as])
        have q_8 : F4 70 = (F0 70) := Eq.trans (hK4.1 70 rfl) (show (F 70) = (F0 70) by simp only [h43, h70, i_as])
        unfold mb_operand_81
        have hL9 : LV F4 → ∀ (A : AN) (s : SH) (d : Nat), A (sN F0) = (s, d, false) → bd 8 F0 s → EX X F0 G0 A F4 G4 (0 :: s) d [] := by
          intro hl
          have l_10 : LV F := LV.mo hK4 (MO.kx hK4 rfl rfl) rfl rfl (show LV F4 from hl)
          have hE0 := hL l_10
          have l0 : LV F := l_10
          intro A s d hA hb
          have E0 := hE0 A s d hA hb
          have lb : s.length ≤ 568 := by have := bd.len hb t43.2; omega
          have E11 : EX X F0 G0 A F4 G4 (0 :: s) d [] := EX.stp E0 n4 e4 g4 (by have := lb; (try simp only [List.length_cons]); omega) (fun _ => Or.inr (Or.inr (Or.inl ⟨rfl, _, rfl, rfl⟩)))
          exact EX.st E11 rfl (fun _ _ _ => rfl)
        exact ihn x1 (x3 + (-1 : Int32)) F4 G4 ⟨k_5, k_6, (show (F4 43) = (F0 43) by first | rfl | (simp only [q_7, q_8, h43, h70, i_as])), (show (F4 70) = F0 70 by first | rfl | (simp only [q_7, q_8, h43, h70, i_as])), (show 0 ≤ (F4 60).toInt from (inc60 n4 e4)), (PKp.kx hPK hK4 rfl rfl), hL9⟩
theorem mtz_operand_5 {fu : Nat} {X : TX} {L : List Nat} {px py : Int32} (rc : RC) (ihK : mKI1 rc) (ihM : mMOI rc) (ihT : mTI X L rc) {F0 : PF} {G0 : PG} (hT : TP X L F0 G0) : ∀ (n : Nat) (x1 : Int32) (F : PF) (G : PG) (hA : (KX [42, 43, 44, 45, 47, 48, 49, 55, 60, 62, 70] [56, 57, 58, 59, 67, 68, 69] F0 G0 F G ∧ MO F0 F ∧ F 43 = (F0 43) ∧ F 70 = F0 70 ∧ 0 ≤ (F 60).toInt ∧ PKp F0 G0 G ∧ (LV F → ∀ (A : AN) (s : SH) (d : Nat), A (sN F0) = (s, d, false) → bd 8 F0 s → EX X F0 G0 A F G s d []))), PP (ml_operand_5 fu rc n x1 F G) (fun r' F' G' => TQ X 7 px py F0 G0 r' F' G') := by
  intro n
  induction n with
  | zero =>
    intro x1 F G hA
    exact PP.no
  | succ n ihn =>
    intro x1 F G hA
    show PP (mb_operand_5 fu rc (ml_operand_5 fu rc n) x1 F G) _
    have t14 := hT.2.2.2.1
    have t24 := hT.2.2.2.2.1
    have t43 : 0 ≤ (F0 43).toInt ∧ (F0 43).toInt ≤ 40 := ⟨hT.2.2.2.2.2.1, hT.2.2.2.2.2.2.1⟩
    have t70 := hT.2.2.2.2.2.2.2.1
    rcases hA with ⟨hK, hM, h43, h70, h60, hPK, hL⟩
    · skip
      unfold mb_operand_5
      refine PP.bind (mp_isSign (39 : Int32) F G) ?_
      rintro _ _ _ ⟨rfl, rfl, (⟨rfl, u1⟩ | ⟨rfl, u1⟩)⟩
      · dsimp only
        unfold mb_operand_11
        refine PP.ite (fun c_2 => absurd c_2 (by decide)) (fun _ => ?_)
        unfold mb_operand_32
        unfold mb_operand_42
        have hL3 : LV (fup F 42 ((F 42) + (1 : Int32))) → ∀ (A : AN) (s : SH) (d : Nat), A (sN F0) = (s, d, false) → bd 8 F0 s → EX X F0 G0 A (fup F 42 ((F 42) + (1 : Int32))) G s d [] := by
          intro hl
          have hE0 := hL hl
          have l0 : LV F := hl
          intro A s d hA hb
          have E0 := hE0 A s d hA hb
          have lb : s.length ≤ 568 := by have := bd.len hb t43.2; omega
          exact EX.st E0 rfl (fun _ _ _ => rfl)
        exact ihn x1 (fup F 42 ((F 42) + (1 : Int32))) G ⟨(KX.f (k := 42) rfl hK), (MO.f (k := 42) (by decide) (by decide) hM), (show (F 43) = (F0 43) by first | rfl | (simp only [h43, h70, i_as])), (show (F 70) = F0 70 by first | rfl | (simp only [h43, h70, i_as])), (show 0 ≤ (F 60).toInt from h60), hPK, hL3⟩
      · dsimp only
        unfold mb_operand_11
        refine PP.ite (fun _ => ?_) (fun c_4 => absurd (by decide) c_4)
        unfold mb_operand_14
        refine PP.bind (mp_isSign (43 : Int32) F G) ?_
        rintro _ _ _ ⟨rfl, rfl, (⟨rfl, u5⟩ | ⟨rfl, u5⟩)⟩
        · dsimp only
          unfold mb_operand_20
          refine PP.ite (fun c_6 => absurd c_6 (by decide)) (fun _ => ?_)
          unfold mb_operand_32
          unfold mb_operand_42
          have hL7 : LV (fup F 42 ((F 42) + (1 : Int32))) → ∀ (A : AN) (s : SH) (d : Nat), A (sN F0) = (s, d, false) → bd 8 F0 s → EX X F0 G0 A (fup F 42 ((F 42) + (1 : Int32))) G s d [] := by
            intro hl
            have hE0 := hL hl
            have l0 : LV F := hl
            intro A s d hA hb
            have E0 := hE0 A s d hA hb
            have lb : s.length ≤ 568 := by have := bd.len hb t43.2; omega
            exact EX.st E0 rfl (fun _ _ _ => rfl)
          exact ihn x1 (fup F 42 ((F 42) + (1 : Int32))) G ⟨(KX.f (k := 42) rfl hK), (MO.f (k := 42) (by decide) (by decide) hM), (show (F 43) = (F0 43) by first | rfl | (simp only [h43, h70, i_as])), (show (F 70) = F0 70 by first | rfl | (simp only [h43, h70, i_as])), (show 0 ≤ (F 60).toInt from h60), hPK, hL7⟩
        · dsimp only
          unfold mb_operand_20
          refine PP.ite (fun _ => ?_) (fun c_8 => absurd (by decide) c_8)
          unfold mb_operand_23
          refine PP.bind (mp_isSign (44 : Int32) F G) ?_
          rintro _ _ _ ⟨rfl, rfl, (⟨rfl, u9⟩ | ⟨rfl, u9⟩)⟩
          · dsimp only
            unfold mb_operand_29
            refine PP.ite (fun c_10 => absurd c_10 (by decide)) (fun _ => ?_)
            unfold mb_operand_32
            unfold mb_operand_42
            have hL11 : LV (fup F 42 ((F 42) + (1 : Int32))) → ∀ (A : AN) (s : SH) (d : Nat), A (sN F0) = (s, d, false) → bd 8 F0 s → EX X F0 G0 A (fup F 42 ((F 42) + (1 : Int32))) G s d [] := by
              intro hl
              have hE0 := hL hl
              have l0 : LV F := hl
              intro A s d hA hb
              have E0 := hE0 A s d hA hb
              have lb : s.length ≤ 568 := by have := bd.len hb t43.2; omega
              exact EX.st E0 rfl (fun _ _ _ => rfl)
            exact ihn x1 (fup F 42 ((F 42) + (1 : Int32))) G ⟨(KX.f (k := 42) rfl hK), (MO.f (k := 42) (by decide) (by decide) hM), (show (F 43) = (F0 43) by first | rfl | (simp only [h43, h70, i_as])), (show (F 70) = F0 70 by first | rfl | (simp only [h43, h70, i_as])), (show 0 ≤ (F 60).toInt from h60), hPK, hL11⟩
          · dsimp only
            unfold mb_operand_29
            refine PP.ite (fun _ => ?_) (fun c_12 => absurd (by decide) c_12)
            unfold mb_operand_45
            refine PP.bind (PP.and (ihK 8 0 0 F G) (PP.and (ihM 8 0 0 F G) (ihT 8 0 0 F G (TP.kx hT hK (fun q => (hM).1 q) rfl (show 0 ≤ (F 43).toInt ∧ (F 43).toInt ≤ 40 by first | exact t43 | (simp only [h43, h70, i_as]; exact t43)) (show 0 ≤ (F 70).toInt by first | exact t70 | (simp only [h43, h70, i_as]; exact t70)) (show 0 ≤ (F 60).toInt from h60))))) ?_
            rintro r13 F13 G13 ⟨hK13, hM13, (rfl | rfl), u13⟩
            · dsimp only
              unfold mb_operand_54
              refine PP.ite (fun _ => ?_) (fun c_14 => absurd (by decide) c_14)
              unfold mb_operand_57
              refine PP.ret ?_
              exact ⟨Or.inl rfl, fun h => absurd h (by decide)⟩
            · dsimp only
              obtain ⟨u13a, u13b, u13c, u13d, u13e⟩ := u13 rfl
              have k_15 : KX [42, 43, 44, 45, 47, 48, 49, 55, 60, 62, 70] [56, 57, 58, 59, 67, 68, 69] F0 G0 F13 G13 := (KX.tr hK hK13 rfl rfl)
              have k_16 : MO F0 F13 := (MO.tr hM hM13)
              have q_17 : F13 43 = (F0 43) := Eq.trans u13a (show (F 43) = (F0 43) by simp only [h43, h70, i_as])
              have q_18 : F13 70 = (F0 70) := Eq.trans u13b (show (F 70) = (F0 70) by simp only [h43, h70, i_as])
              have q_19 : F 70 = F0 70 := (show (F 70) = F0 70 by first | rfl | (simp only [h43, h70, i_as]))
              unfold mb_operand_54
              refine PP.ite (fun c_20 => absurd c_20 (by decide)) (fun _ => ?_)
              unfold mb_operand_59
              have hL21 : LV F13 → ∀ (A : AN) (s : SH) (d : Nat), A (sN F0) = (s, d, false) → bd 8 F0 s → EX X F0 G0 A F13 G13 (0 :: s) d [] := by
                intro hl
                have l_22 : LV F := LV.mo hK13 hM13 rfl rfl (show LV F13 from hl)
                have hE0 := hL l_22
                have l0 : LV F := l_22
                intro A s d hA hb
                have E0 := hE0 A s d hA hb
                have lb : s.length ≤ 568 := by have := bd.len hb t43.2; omega
                have E23 : EX X F0 G0 A F13 G13 (0 :: s) d [] := EX.tr E0 (fun A1 hA1 => (show TE X F G F13 G13 8 (fun s => 0 :: s) from u13e (show LV F13 from hl)) A1 _ _ hA1 (bd.mv (e := 0) (c := 0) hb (show F 54 = F0 54 from (show KX [42, 43, 44, 45, 47, 48, 49, 55, 60, 62, 70] [56, 57, 58, 59, 67, 68, 69] F0 G0 F G from hK).1 54 rfl) (show (F 43).toInt = (F0 43).toInt + 0 by rw [show F 43 = F0 43 from by first | rfl | (simp only [q_17, q_18, h43, h70, i_as, fup, Nat.reduceEqDiff, reduceIte, if_false])]; omega) (by (try simp only [List.length_cons]); omega) (by omega)))
                exact EX.st E23 rfl (fun _ _ _ => rfl)
              exact mtz_operand_63 (px := px) (py := py) rc ihK ihM ihT hT fu x1 ((F 42) - (1 : Int32)) F13 G13 ⟨k_15, k_16, (show (F13 43) = (F0 43) by first | rfl | (simp only [q_17, q_18, h43, h70, i_as])), (show (F13 70) = F0 70 by first | rfl | (simp only [q_17, q_18, h43, h70, i_as])), (show 0 ≤ (F13 60).toInt from u13c), (PKp.tr hPK u13d q_19), hL21⟩
theorem mtt_operand {fu : Nat} {X : TX} {L : List Nat} (rc : RC) (ihK : mKI1 rc) (ihM : mMOI rc) (ihT : mTI X L rc) (F : PF) (G : PG) (hT : TP X L F G) : PP (mh_operand fu rc F G) (fun r' F' G' => TQ X 7 0 0 F G r' F' G') := by
  unfold mh_operand
  have t14 := hT.2.2.2.1
  have t24 := hT.2.2.2.2.1
  have t43 : 0 ≤ (F 43).toInt ∧ (F 43).toInt ≤ 40 := ⟨hT.2.2.2.2.2.1, hT.2.2.2.2.2.2.1⟩
  have t70 := hT.2.2.2.2.2.2.2.1
  obtain ⟨px, hpx⟩ : ∃ q, q = (0 : Int32) := ⟨_, rfl⟩
  obtain ⟨py, hpy⟩ : ∃ q, q = (0 : Int32) := ⟨_, rfl⟩
  show PP _ (fun r' F' G' => TQ X 7 0 0 F G r' F' G')
  unfold mb_operand_0
  have hL1 : LV F → ∀ (A : AN) (s : SH) (d : Nat), A (sN F) = (s, d, false) → bd 8 F s → EX X F G A F G s d [] := by
    intro hl
    have l0 : LV F := hl
    intro A s d hA hb
    have E0 : EX X F G A F G s d [] := EX.rf hA
    have lb : s.length ≤ 568 := by have := bd.len hb t43.2; omega
    exact EX.st E0 rfl (fun _ _ _ => rfl)
  exact mtz_operand_5 (px := px) (py := py) rc ihK ihM ihT hT fu (F 42) F G ⟨(KX.rf : KX [42, 43, 44, 45, 47, 48, 49, 55, 60, 62, 70] [56, 57, 58, 59, 67, 68, 69] F G F G), (MO.rf : MO F F), (show (F 43) = (F 43) by first | rfl | (simp only [i_as])), (show (F 70) = F 70 by first | rfl | (simp only [i_as])), (show 0 ≤ (F 60).toInt from hT.2.2.2.2.2.2.2.2), (fun _ _ => ⟨rfl, rfl⟩ : PKp F G G), hL1⟩
