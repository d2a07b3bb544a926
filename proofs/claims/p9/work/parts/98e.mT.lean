theorem mtt_argument {fu : Nat} {X : TX} {L : List Nat} (rc : RC) (ihK : mKI1 rc) (ihM : mMOI rc) (ihT : mTI X L rc) (x1 : Int32) (x2 : Int32) (F : PF) (G : PG) (hT : TP X L F G) : PP (mh_argument fu rc x1 x2 F G) (fun r' F' G' => TQ X 0 x1 x2 F G r' F' G') := by
  unfold mh_argument
  have t14 := hT.2.2.2.1
  have t24 := hT.2.2.2.2.1
  have t43 : 0 ≤ (F 43).toInt ∧ (F 43).toInt ≤ 40 := ⟨hT.2.2.2.2.2.1, hT.2.2.2.2.2.2.1⟩
  have t70 := hT.2.2.2.2.2.2.2.1
  unfold mb_argument_0
  refine PP.ite (fun c_1 => ?_) (fun c_1 => ?_)
  · skip
    have m_2 : F 54 = 0 := Eq.trans (Eq.symm ((show KX [42, 43, 44, 45, 47, 48, 49, 55, 60, 62, 70] [56, 57, 58, 59, 67, 68, 69] F G F G from (KX.rf : KX [42, 43, 44, 45, 47, 48, 49, 55, 60, 62, 70] [56, 57, 58, 59, 67, 68, 69] F G F G)).1 54 rfl)) (show (F 54) = 0 from c_1)
    unfold mb_argument_7
    refine PP.ite (fun c_3 => ?_) (fun c_3 => ?_)
    · skip
      unfold mb_argument_12
      refine PP.bind (PP.and (ihK 4 0 0 F G) (PP.and (ihM 4 0 0 F G) (ihT 4 0 0 F G (TP.kx hT (KX.rf : KX [42, 43, 44, 45, 47, 48, 49, 55, 60, 62, 70] [56, 57, 58, 59, 67, 68, 69] F G F G) (fun q => ((MO.rf : MO F F)).1 q) rfl (show 0 ≤ (F 43).toInt ∧ (F 43).toInt ≤ 40 by first | exact t43 | (simp only [i_as]; exact t43)) (show 0 ≤ (F 70).toInt by first | exact t70 | (simp only [i_as]; exact t70)) (show 0 ≤ (F 60).toInt from hT.2.2.2.2.2.2.2.2))))) ?_
      rintro r4 F4 G4 ⟨hK4, hM4, (rfl | rfl), u4⟩
      · dsimp only
        unfold mb_argument_16
        refine PP.ret ?_
        exact ⟨Or.inl rfl, fun h => absurd h (by decide)⟩
      · dsimp only
        obtain ⟨u4a, u4b, u4c, u4d, u4e⟩ := u4 rfl
        have k_5 : KX [42, 43, 44, 45, 47, 48, 49, 55, 60, 62, 70] [56, 57, 58, 59, 67, 68, 69] F G F4 G4 := (KX.tr (KX.rf : KX [42, 43, 44, 45, 47, 48, 49, 55, 60, 62, 70] [56, 57, 58, 59, 67, 68, 69] F G F G) hK4 rfl rfl)
        have k_6 : MO F F4 := (MO.tr (MO.rf : MO F F) hM4)
        have q_7 : F4 43 = (F 43) := u4a
        have q_8 : F4 70 = (F 70) := u4b
        have q_9 : F 70 = F 70 := (show (F 70) = F 70 by first | rfl | (simp only [i_as]))
        have k_10 : PKp F G G4 := PKp.tr (show PKp F G G from (fun _ _ => ⟨rfl, rfl⟩ : PKp F G G)) u4d q_9
        unfold mb_argument_16
        refine PP.ret ?_
        refine ⟨Or.inr rfl, fun _ => ⟨(show (F4 43) = F 43 by first | rfl | (simp only [q_7, q_8, i_as])), (show (F4 70) = F 70 by first | rfl | (simp only [q_7, q_8, i_as])), (show 0 ≤ (F4 60).toInt from u4c), k_10, fun hl => ?_⟩⟩
        show F 54 = 0 → FOK F x1 → 0 ≤ x2.toInt → x2.toInt < (G 27 x1.toNatClampNeg).toInt ∧ TE X F G F4 G4 0 (pushK (G 34 (G 31 x1.toNatClampNeg + x2).toNatClampNeg).toInt.toNat)
        intro h54 hF hy
        have l_11 : LV F := LV.mo hK4 hM4 rfl rfl (show LV F4 from hl)
        have l0 : LV F := l_11
        exact absurd hF.1 (by rw [c_3]; decide)
    · skip
      unfold mb_argument_17
      refine PP.ix (fun _ => ?_)
      refine PP.ix (fun _ => ?_)
      refine PP.ite (fun c_12 => ?_) (fun c_12 => ?_)
      · skip
        have w_13 := i_lt.mp c_12
        unfold mb_argument_49
        refine PP.ix (fun _ => ?_)
        refine PP.ix (fun _ => ?_)
        refine PP.ite (fun c_14 => ?_) (fun c_14 => ?_)
        · skip
          unfold mb_argument_69
          refine PP.bind (PP.and (ihK 4 0 0 F G) (PP.and (ihM 4 0 0 F G) (ihT 4 0 0 F G (TP.kx hT (KX.rf : KX [42, 43, 44, 45, 47, 48, 49, 55, 60, 62, 70] [56, 57, 58, 59, 67, 68, 69] F G F G) (fun q => ((MO.rf : MO F F)).1 q) rfl (show 0 ≤ (F 43).toInt ∧ (F 43).toInt ≤ 40 by first | exact t43 | (simp only [i_as]; exact t43)) (show 0 ≤ (F 70).toInt by first | exact t70 | (simp only [i_as]; exact t70)) (show 0 ≤ (F 60).toInt from hT.2.2.2.2.2.2.2.2))))) ?_
          rintro r15 F15 G15 ⟨hK15, hM15, (rfl | rfl), u15⟩
          · dsimp only
            unfold mb_argument_73
            refine PP.ret ?_
            exact ⟨Or.inl rfl, fun h => absurd h (by decide)⟩
          · dsimp only
            obtain ⟨u15a, u15b, u15c, u15d, u15e⟩ := u15 rfl
            have k_16 : KX [42, 43, 44, 45, 47, 48, 49, 55, 60, 62, 70] [56, 57, 58, 59, 67, 68, 69] F G F15 G15 := (KX.tr (KX.rf : KX [42, 43, 44, 45, 47, 48, 49, 55, 60, 62, 70] [56, 57, 58, 59, 67, 68, 69] F G F G) hK15 rfl rfl)
            have k_17 : MO F F15 := (MO.tr (MO.rf : MO F F) hM15)
            have q_18 : F15 43 = (F 43) := u15a
            have q_19 : F15 70 = (F 70) := u15b
            have q_20 : F 70 = F 70 := (show (F 70) = F 70 by first | rfl | (simp only [i_as]))
            have k_21 : PKp F G G15 := PKp.tr (show PKp F G G from (fun _ _ => ⟨rfl, rfl⟩ : PKp F G G)) u15d q_20
            unfold mb_argument_73
            refine PP.ret ?_
            refine ⟨Or.inr rfl, fun _ => ⟨(show (F15 43) = F 43 by first | rfl | (simp only [q_18, q_19, i_as])), (show (F15 70) = F 70 by first | rfl | (simp only [q_18, q_19, i_as])), (show 0 ≤ (F15 60).toInt from u15c), k_21, fun hl => ?_⟩⟩
            show F 54 = 0 → FOK F x1 → 0 ≤ x2.toInt → x2.toInt < (G 27 x1.toNatClampNeg).toInt ∧ TE X F G F15 G15 0 (pushK (G 34 (G 31 x1.toNatClampNeg + x2).toNatClampNeg).toInt.toNat)
            intro h54 hF hy
            have l_22 : LV F := LV.mo hK15 hM15 rfl rfl (show LV F15 from hl)
            have l0 : LV F := l_22
            refine ⟨by assumption, ?_⟩
            intro A s d hA hb
            have hm : X.1 = false := hT.m.1 m_2
            have E0 : EX X F G A F G s d [] := EX.rf hA
            have lb : s.length ≤ 568 := by have := bd.len hb t43.2; omega
            have E23 : EX X F G A F15 G15 (0 :: s) d [] := EX.tr E0 (fun A1 hA1 => (show TE X F G F15 G15 0 (fun s => 0 :: s) from u15e (show LV F15 from hl)) A1 _ _ hA1 (bd.mv (e := 0) (c := 0) hb (show F 54 = F 54 from (show KX [42, 43, 44, 45, 47, 48, 49, 55, 60, 62, 70] [56, 57, 58, 59, 67, 68, 69] F G F G from (KX.rf : KX [42, 43, 44, 45, 47, 48, 49, 55, 60, 62, 70] [56, 57, 58, 59, 67, 68, 69] F G F G)).1 54 rfl) (show (F 43).toInt = (F 43).toInt + 0 by rw [show F 43 = F 43 from by first | rfl | (simp only [q_18, q_19, i_as, fup, Nat.reduceEqDiff, reduceIte, if_false])]; omega) (by (try simp only [List.length_cons]); omega) (by omega)))
            show EX X F G A F15 G15 (pushK (G 34 (G 31 x1.toNatClampNeg + x2).toNatClampNeg).toInt.toNat s) d []
            rw [pushK_z (by assumption)]
            exact EX.st E23 rfl (fun _ _ _ => rfl)
        · skip
          unfold mb_argument_74
          refine PP.ix (fun _ => ?_)
          refine PP.ite (fun c_24 => ?_) (fun c_24 => ?_)
          · skip
            unfold mb_argument_87
            refine PP.ix (fun _ => ?_)
            refine PP.ite (fun c_25 => ?_) (fun c_25 => ?_)
            · skip
              unfold mb_argument_102
              refine PP.ix (fun _ => ?_)
              refine PP.ite (fun c_26 => ?_) (fun c_26 => ?_)
              · skip
                unfold mb_argument_134
                have hL27 : LV F → F 54 = 0 → ∀ (A : AN) (s : SH) (d : Nat), A (sN F) = (s, d, false) → bd 0 F s → EX X F G A F G s d [] := by
                  intro hl h54
                  have l0 : LV F := hl
                  intro A s d hA hb
                  have hm : X.1 = false := hT.m.1 m_2
                  have E0 : EX X F G A F G s d [] := EX.rf hA
                  have lb : s.length ≤ 568 := by have := bd.len hb t43.2; omega
                  exact EX.st E0 rfl (fun _ _ _ => rfl)
                exact mtj_argument_139 (px := x1) (py := x2) rc ihK ihM ihT hT (G 6 (F 42).toNatClampNeg) (G 34 ((G 31 x1.toNatClampNeg) + x2).toNatClampNeg) (1 : Int32) F G (Or.inl ⟨rfl, (KX.rf : KX [42, 43, 44, 45, 47, 48, 49, 55, 60, 62, 70] [56, 57, 58, 59, 67, 68, 69] F G F G), (MO.rf : MO F F), (show (F 43) = (F 43) by first | rfl | (simp only [i_as])), (show (F 70) = F 70 by first | rfl | (simp only [i_as])), (show 0 ≤ (F 60).toInt from hT.2.2.2.2.2.2.2.2), (fun _ _ => ⟨rfl, rfl⟩ : PKp F G G), (by first | assumption | rfl | (simp only [i_as]; assumption)), (by first | assumption | rfl | (simp only [i_as]; assumption)), hL27⟩)
              · skip
                unfold mb_argument_118
                refine PP.ix (fun _ => ?_)
                refine PP.ite (fun c_28 => ?_) (fun c_28 => ?_)
                · skip
                  unfold mb_argument_134
                  have hL29 : LV F → F 54 = 0 → ∀ (A : AN) (s : SH) (d : Nat), A (sN F) = (s, d, false) → bd 0 F s → EX X F G A F G s d [] := by
                    intro hl h54
                    have l0 : LV F := hl
                    intro A s d hA hb
                    have hm : X.1 = false := hT.m.1 m_2
                    have E0 : EX X F G A F G s d [] := EX.rf hA
                    have lb : s.length ≤ 568 := by have := bd.len hb t43.2; omega
                    exact EX.st E0 rfl (fun _ _ _ => rfl)
                  exact mtj_argument_139 (px := x1) (py := x2) rc ihK ihM ihT hT (G 6 (F 42).toNatClampNeg) (G 34 ((G 31 x1.toNatClampNeg) + x2).toNatClampNeg) (1 : Int32) F G (Or.inl ⟨rfl, (KX.rf : KX [42, 43, 44, 45, 47, 48, 49, 55, 60, 62, 70] [56, 57, 58, 59, 67, 68, 69] F G F G), (MO.rf : MO F F), (show (F 43) = (F 43) by first | rfl | (simp only [i_as])), (show (F 70) = F 70 by first | rfl | (simp only [i_as])), (show 0 ≤ (F 60).toInt from hT.2.2.2.2.2.2.2.2), (fun _ _ => ⟨rfl, rfl⟩ : PKp F G G), (by first | assumption | rfl | (simp only [i_as]; assumption)), (by first | assumption | rfl | (simp only [i_as]; assumption)), hL29⟩)
                · skip
                  unfold mb_argument_138
                  have hL30 : LV F → F 54 = 0 → ∀ (A : AN) (s : SH) (d : Nat), A (sN F) = (s, d, false) → bd 0 F s → EX X F G A F G s d [] := by
                    intro hl h54
                    have l0 : LV F := hl
                    intro A s d hA hb
                    have hm : X.1 = false := hT.m.1 m_2
                    have E0 : EX X F G A F G s d [] := EX.rf hA
                    have lb : s.length ≤ 568 := by have := bd.len hb t43.2; omega
                    exact EX.st E0 rfl (fun _ _ _ => rfl)
                  exact mtj_argument_139 (px := x1) (py := x2) rc ihK ihM ihT hT (G 6 (F 42).toNatClampNeg) (G 34 ((G 31 x1.toNatClampNeg) + x2).toNatClampNeg) (0 : Int32) F G (Or.inr ⟨rfl, (KX.rf : KX [42, 43, 44, 45, 47, 48, 49, 55, 60, 62, 70] [56, 57, 58, 59, 67, 68, 69] F G F G), (MO.rf : MO F F), (show (F 43) = (F 43) by first | rfl | (simp only [i_as])), (show (F 70) = F 70 by first | rfl | (simp only [i_as])), (show 0 ≤ (F 60).toInt from hT.2.2.2.2.2.2.2.2), (fun _ _ => ⟨rfl, rfl⟩ : PKp F G G), (by first | assumption | rfl | (simp only [i_as]; assumption)), (by first | assumption | rfl | (simp only [i_as]; assumption)), hL30⟩)
            · skip
              unfold mb_argument_138
              have hL31 : LV F → F 54 = 0 → ∀ (A : AN) (s : SH) (d : Nat), A (sN F) = (s, d, false) → bd 0 F s → EX X F G A F G s d [] := by
                intro hl h54
                have l0 : LV F := hl
                intro A s d hA hb
                have hm : X.1 = false := hT.m.1 m_2
                have E0 : EX X F G A F G s d [] := EX.rf hA
                have lb : s.length ≤ 568 := by have := bd.len hb t43.2; omega
                exact EX.st E0 rfl (fun _ _ _ => rfl)
              exact mtj_argument_139 (px := x1) (py := x2) rc ihK ihM ihT hT (G 6 (F 42).toNatClampNeg) (G 34 ((G 31 x1.toNatClampNeg) + x2).toNatClampNeg) (0 : Int32) F G (Or.inr ⟨rfl, (KX.rf : KX [42, 43, 44, 45, 47, 48, 49, 55, 60, 62, 70] [56, 57, 58, 59, 67, 68, 69] F G F G), (MO.rf : MO F F), (show (F 43) = (F 43) by first | rfl | (simp only [i_as])), (show (F 70) = F 70 by first | rfl | (simp only [i_as])), (show 0 ≤ (F 60).toInt from hT.2.2.2.2.2.2.2.2), (fun _ _ => ⟨rfl, rfl⟩ : PKp F G G), (by first | assumption | rfl | (simp only [i_as]; assumption)), (by first | assumption | rfl | (simp only [i_as]; assumption)), hL31⟩)
          · skip
            unfold mb_argument_138
            have hL32 : LV F → F 54 = 0 → ∀ (A : AN) (s : SH) (d : Nat), A (sN F) = (s, d, false) → bd 0 F s → EX X F G A F G s d [] := by
              intro hl h54
              have l0 : LV F := hl
              intro A s d hA hb
              have hm : X.1 = false := hT.m.1 m_2
              have E0 : EX X F G A F G s d [] := EX.rf hA
              have lb : s.length ≤ 568 := by have := bd.len hb t43.2; omega
              exact EX.st E0 rfl (fun _ _ _ => rfl)
            exact mtj_argument_139 (px := x1) (py := x2) rc ihK ihM ihT hT (G 6 (F 42).toNatClampNeg) (G 34 ((G 31 x1.toNatClampNeg) + x2).toNatClampNeg) (0 : Int32) F G (Or.inr ⟨rfl, (KX.rf : KX [42, 43, 44, 45, 47, 48, 49, 55, 60, 62, 70] [56, 57, 58, 59, 67, 68, 69] F G F G), (MO.rf : MO F F), (show (F 43) = (F 43) by first | rfl | (simp only [i_as])), (show (F 70) = F 70 by first | rfl | (simp only [i_as])), (show 0 ≤ (F 60).toInt from hT.2.2.2.2.2.2.2.2), (fun _ _ => ⟨rfl, rfl⟩ : PKp F G G), (by first | assumption | rfl | (simp only [i_as]; assumption)), (by first | assumption | rfl | (simp only [i_as]; assumption)), hL32⟩)
      · skip
        have w_33 := mt i_lt.mpr c_12
        unfold mb_argument_37
        refine PP.bind (PP.and (mp_note (7 : Int32) (G 6 (F 42).toNatClampNeg) (by decide) F G) (mm_note (7 : Int32) (G 6 (F 42).toNatClampNeg) (by decide) F G)) ?_
        rintro r34 F34 G34 ⟨⟨hK34, rfl, u34, -⟩, hM34⟩
        dsimp only
        have k_35 : KX [42, 43, 44, 45, 47, 48, 49, 55, 60, 62, 70] [56, 57, 58, 59, 67, 68, 69] F G F34 G := (KX.tr (KX.rf : KX [42, 43, 44, 45, 47, 48, 49, 55, 60, 62, 70] [56, 57, 58, 59, 67, 68, 69] F G F G) hK34 rfl rfl)
        have k_36 : MO F F34 := (MO.tr (MO.rf : MO F F) hM34)
        have q_37 : F34 42 = (F 42) := hK34.1 42 rfl
        have q_38 : F34 43 = (F 43) := hK34.1 43 rfl
        have q_39 : F34 70 = (F 70) := hK34.1 70 rfl
        have k_40 : PKp F G G := PKp.kx (show PKp F G G from (fun _ _ => ⟨rfl, rfl⟩ : PKp F G G)) hK34 rfl rfl
        unfold mb_argument_44
        refine PP.bind (PP.and (ihK 4 0 0 F34 G) (PP.and (ihM 4 0 0 F34 G) (ihT 4 0 0 F34 G (TP.kx hT k_35 (fun q => (k_36).1 q) rfl (show 0 ≤ (F34 43).toInt ∧ (F34 43).toInt ≤ 40 by first | exact t43 | (simp only [q_37, q_38, q_39, i_as]; exact t43)) (show 0 ≤ (F34 70).toInt by first | exact t70 | (simp only [q_37, q_38, q_39, i_as]; exact t70)) (show 0 ≤ (F34 60).toInt from (show 0 ≤ (F34 60).toInt by rw [hK34.1 60 rfl]; exact hT.2.2.2.2.2.2.2.2)))))) ?_
        rintro r41 F41 G41 ⟨hK41, hM41, (rfl | rfl), u41⟩
        · dsimp only
          unfold mb_argument_48
          refine PP.ret ?_
          exact ⟨Or.inl rfl, fun h => absurd h (by decide)⟩
        · dsimp only
          obtain ⟨u41a, u41b, u41c, u41d, u41e⟩ := u41 rfl
          have k_42 : KX [42, 43, 44, 45, 47, 48, 49, 55, 60, 62, 70] [56, 57, 58, 59, 67, 68, 69] F G F41 G41 := (KX.tr k_35 hK41 rfl rfl)
          have k_43 : MO F F41 := (MO.tr k_36 hM41)
          have q_44 : F41 43 = (F 43) := Eq.trans u41a (show (F34 43) = (F 43) by simp only [q_37, q_38, q_39, i_as])
          have q_45 : F41 70 = (F 70) := Eq.trans u41b (show (F34 70) = (F 70) by simp only [q_37, q_38, q_39, i_as])
          have q_46 : F34 70 = F 70 := (show (F34 70) = F 70 by first | rfl | (simp only [q_37, q_38, q_39, i_as]))
          have k_47 : PKp F G G41 := PKp.tr (show PKp F G G from k_40) u41d q_46
          unfold mb_argument_48
          refine PP.ret ?_
          refine ⟨Or.inr rfl, fun _ => ⟨(show (F41 43) = F 43 by first | rfl | (simp only [q_44, q_45, q_37, q_38, q_39, i_as])), (show (F41 70) = F 70 by first | rfl | (simp only [q_44, q_45, q_37, q_38, q_39, i_as])), (show 0 ≤ (F41 60).toInt from u41c), k_47, fun hl => ?_⟩⟩
          show F 54 = 0 → FOK F x1 → 0 ≤ x2.toInt → x2.toInt < (G 27 x1.toNatClampNeg).toInt ∧ TE X F G F41 G41 0 (pushK (G 34 (G 31 x1.toNatClampNeg + x2).toNatClampNeg).toInt.toNat)
          intro h54 hF hy
          have l_48 : LV F34 := LV.mo hK41 hM41 rfl rfl (show LV F41 from hl)
          have l_49 : LV F := LV.mo hK34 hM34 rfl rfl (show LV F34 from l_48)
          exact absurd (u34 l_49.1) (by rw [(show LV F34 from l_48).2.1 (Eq.trans (k_35.1 54 rfl) m_2)]; decide)
  · skip
    have m_50 : ¬ F 54 = 0 := fun q => (show ¬ (F 54) = 0 from c_1) (Eq.trans ((show KX [42, 43, 44, 45, 47, 48, 49, 55, 60, 62, 70] [56, 57, 58, 59, 67, 68, 69] F G F G from (KX.rf : KX [42, 43, 44, 45, 47, 48, 49, 55, 60, 62, 70] [56, 57, 58, 59, 67, 68, 69] F G F G)).1 54 rfl) q)
    unfold mb_argument_12
    refine PP.bind (PP.and (ihK 4 0 0 F G) (PP.and (ihM 4 0 0 F G) (ihT 4 0 0 F G (TP.kx hT (KX.rf : KX [42, 43, 44, 45, 47, 48, 49, 55, 60, 62, 70] [56, 57, 58, 59, 67, 68, 69] F G F G) (fun q => ((MO.rf : MO F F)).1 q) rfl (show 0 ≤ (F 43).toInt ∧ (F 43).toInt ≤ 40 by first | exact t43 | (simp only [i_as]; exact t43)) (show 0 ≤ (F 70).toInt by first | exact t70 | (simp only [i_as]; exact t70)) (show 0 ≤ (F 60).toInt from hT.2.2.2.2.2.2.2.2))))) ?_
    rintro r51 F51 G51 ⟨hK51, hM51, (rfl | rfl), u51⟩
    · dsimp only
      unfold mb_argument_16
      refine PP.ret ?_
      exact ⟨Or.inl rfl, fun h => absurd h (by decide)⟩
    · dsimp only
      obtain ⟨u51a, u51b, u51c, u51d, u51e⟩ := u51 rfl
      have k_52 : KX [42, 43, 44, 45, 47, 48, 49, 55, 60, 62, 70] [56, 57, 58, 59, 67, 68, 69] F G F51 G51 := (KX.tr (KX.rf : KX [42, 43, 44, 45, 47, 48, 49, 55, 60, 62, 70] [56, 57, 58, 59, 67, 68, 69] F G F G) hK51 rfl rfl)
      have k_53 : MO F F51 := (MO.tr (MO.rf : MO F F) hM51)
      have q_54 : F51 43 = (F 43) := u51a
      have q_55 : F51 70 = (F 70) := u51b
      have q_56 : F 70 = F 70 := (show (F 70) = F 70 by first | rfl | (simp only [i_as]))
      have k_57 : PKp F G G51 := PKp.tr (show PKp F G G from (fun _ _ => ⟨rfl, rfl⟩ : PKp F G G)) u51d q_56
      unfold mb_argument_16
      refine PP.ret ?_
      refine ⟨Or.inr rfl, fun _ => ⟨(show (F51 43) = F 43 by first | rfl | (simp only [q_54, q_55, i_as])), (show (F51 70) = F 70 by first | rfl | (simp only [q_54, q_55, i_as])), (show 0 ≤ (F51 60).toInt from u51c), k_57, fun hl => ?_⟩⟩
      show F 54 = 0 → FOK F x1 → 0 ≤ x2.toInt → x2.toInt < (G 27 x1.toNatClampNeg).toInt ∧ TE X F G F51 G51 0 (pushK (G 34 (G 31 x1.toNatClampNeg + x2).toNatClampNeg).toInt.toNat)
      intro h54 hF hy
      exact absurd h54 m_50
