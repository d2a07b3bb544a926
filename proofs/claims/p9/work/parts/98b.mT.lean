theorem mtj_named_212 {fu : Nat} {X : TX} {L : List Nat} {px py : Int32} (rc : RC) (ihK : mKI1 rc) (ihM : mMOI rc) (ihT : mTI X L rc) {F0 : PF} {G0 : PG} (hT : TP X L F0 G0) (F : PF) (G : PG) (hA : (KX [42, 43, 44, 45, 47, 48, 49, 55, 60, 62, 70] [56, 57, 58, 59, 67, 68, 69] F0 G0 F G ∧ MO F0 F ∧ F 43 = (F0 43) ∧ F 70 = F0 70 ∧ 0 ≤ (F 60).toInt ∧ PKp F0 G0 G ∧ (LV F → F0 54 = 0 → ∀ (A : AN) (s : SH) (d : Nat), A (sN F0) = (s, d, false) → bd 8 F0 s → EX X F0 G0 A F G (0 :: s) d []))) : PP (mb_named_212 fu rc F G) (fun r' F' G' => TQ X 6 px py F0 G0 r' F' G') := by
  have t14 := hT.2.2.2.1
  have t24 := hT.2.2.2.2.1
  have t43 : 0 ≤ (F0 43).toInt ∧ (F0 43).toInt ≤ 40 := ⟨hT.2.2.2.2.2.1, hT.2.2.2.2.2.2.1⟩
  have t70 := hT.2.2.2.2.2.2.2.1
  rcases hA with ⟨hK, hM, h43, h70, h60, hPK, hL⟩
  · skip
    unfold mb_named_212
    refine PP.ret ?_
    refine ⟨Or.inr rfl, fun _ => ⟨(show (F 43) = F0 43 by first | rfl | (simp only [h43, h70, i_as])), (show (F 70) = F0 70 by first | rfl | (simp only [h43, h70, i_as])), (show 0 ≤ (F 60).toInt from h60), hPK, fun hl => ?_⟩⟩
    show F0 54 = 0 → TE X F0 G0 F G 8 (fun s => 0 :: s)
    intro h54
    have hE0 := hL hl h54
    have l0 : LV F := hl
    have l0f : LV F0 := LV.mo hK hM rfl rfl l0
    intro A s d hA hb
    have hm : X.1 = false := hT.m.1 h54
    have E0 := hE0 A s d hA hb
    have lb : s.length ≤ 568 := by have := bd.len hb t43.2; omega
    exact EX.st E0 rfl (fun _ _ _ => rfl)
theorem mtj_named_172 {fu : Nat} {X : TX} {L : List Nat} {px py : Int32} (rc : RC) (ihK : mKI1 rc) (ihM : mMOI rc) (ihT : mTI X L rc) {F0 : PF} {G0 : PG} (hT : TP X L F0 G0) (x2 : Int32) (F : PF) (G : PG) (hA : (KX [42, 43, 44, 45, 47, 48, 49, 55, 60, 62, 70] [56, 57, 58, 59, 67, 68, 69] F0 G0 F G ∧ MO F0 F ∧ F 43 = (F0 43) ∧ F 70 = F0 70 ∧ 0 ≤ (F 60).toInt ∧ PKp F0 G0 G ∧ (LV F → F0 54 = 0 → (mnR F0 x2) ∧ (¬ x2 = (-1 : Int32)) ∧ (¬ G 17 x2.toNatClampNeg = (2 : Int32)) ∧ (¬ G 17 x2.toNatClampNeg = (0 : Int32)) ∧ (∀ (A : AN) (s : SH) (d : Nat), A (sN F0) = (s, d, false) → bd 8 F0 s → EX X F0 G0 A F G s d [])))) : PP (mb_named_172 fu rc x2 F G) (fun r' F' G' => TQ X 6 px py F0 G0 r' F' G') := by
  have t14 := hT.2.2.2.1
  have t24 := hT.2.2.2.2.1
  have t43 : 0 ≤ (F0 43).toInt ∧ (F0 43).toInt ≤ 40 := ⟨hT.2.2.2.2.2.1, hT.2.2.2.2.2.2.1⟩
  have t70 := hT.2.2.2.2.2.2.2.1
  rcases hA with ⟨hK, hM, h43, h70, h60, hPK, hL⟩
  · skip
    unfold mb_named_172
    refine PP.ite (fun c_1 => ?_) (fun c_1 => ?_)
    · skip
      unfold mb_named_191
      unfold mb_named_192
      refine PP.ite (fun c_2 => ?_) (fun c_2 => ?_)
      · skip
        unfold mb_named_197
        unfold mb_named_207
        refine PP.bind (mq_step (3 : Int32) (0 : Int32) (0 : Int32) F G) ?_
        rintro _ F3 G3 ⟨hK3, rfl, e3, g3, n3⟩
        dsimp only
        have k_4 : KX [42, 43, 44, 45, 47, 48, 49, 55, 60, 62, 70] [56, 57, 58, 59, 67, 68, 69] F0 G0 F3 G3 := (KX.tr hK hK3 rfl rfl)
        have k_5 : MO F0 F3 := (MO.tr hM (MO.kx hK3 rfl rfl))
        have q_6 : F3 42 = (F 42) := hK3.1 42 rfl
        have q_7 : F3 43 = (F0 43) := Eq.trans (hK3.1 43 rfl) (show (F 43) = (F0 43) by simp only [h43, h70, i_as])
        have q_8 : F3 70 = (F0 70) := Eq.trans (hK3.1 70 rfl) (show (F 70) = (F0 70) by simp only [h43, h70, i_as])
        have k_9 : PKp F0 G0 G3 := PKp.kx (show PKp F0 G0 G from hPK) hK3 rfl rfl
        unfold mb_named_211
        have hL10 : LV F3 → F0 54 = 0 → ∀ (A : AN) (s : SH) (d : Nat), A (sN F0) = (s, d, false) → bd 8 F0 s → EX X F0 G0 A F3 G3 (0 :: s) d [] := by
          intro hl h54
          have l_11 : LV F := LV.mo hK3 (MO.kx hK3 rfl rfl) rfl rfl (show LV F3 from hl)
          obtain ⟨x0_, x1_, x2_, x3_, hE0⟩ := hL l_11 h54
          have l0 : LV F := l_11
          have l0f : LV F0 := LV.mo hK hM rfl rfl l0
          exact absurd c_1 x1_
        exact mtj_named_212 (px := px) (py := py) rc ihK ihM ihT hT F3 G3 ⟨k_4, k_5, (show (F3 43) = (F0 43) by first | rfl | (simp only [q_6, q_7, q_8, h43, h70, i_as])), (show (F3 70) = F0 70 by first | rfl | (simp only [q_6, q_7, q_8, h43, h70, i_as])), (show 0 ≤ (F3 60).toInt from (inc60 n3 e3)), k_9, hL10⟩
      · skip
        unfold mb_named_201
        refine PP.ix (fun _ => ?_)
        unfold mb_named_207
        refine PP.bind (mq_step (3 : Int32) (G 20 x2.toNatClampNeg) (0 : Int32) F G) ?_
        rintro _ F12 G12 ⟨hK12, rfl, e12, g12, n12⟩
        dsimp only
        have k_13 : KX [42, 43, 44, 45, 47, 48, 49, 55, 60, 62, 70] [56, 57, 58, 59, 67, 68, 69] F0 G0 F12 G12 := (KX.tr hK hK12 rfl rfl)
        have k_14 : MO F0 F12 := (MO.tr hM (MO.kx hK12 rfl rfl))
        have q_15 : F12 42 = (F 42) := hK12.1 42 rfl
        have q_16 : F12 43 = (F0 43) := Eq.trans (hK12.1 43 rfl) (show (F 43) = (F0 43) by simp only [h43, h70, i_as])
        have q_17 : F12 70 = (F0 70) := Eq.trans (hK12.1 70 rfl) (show (F 70) = (F0 70) by simp only [h43, h70, i_as])
        have k_18 : PKp F0 G0 G12 := PKp.kx (show PKp F0 G0 G from hPK) hK12 rfl rfl
        unfold mb_named_211
        have hL19 : LV F12 → F0 54 = 0 → ∀ (A : AN) (s : SH) (d : Nat), A (sN F0) = (s, d, false) → bd 8 F0 s → EX X F0 G0 A F12 G12 (0 :: s) d [] := by
          intro hl h54
          have l_20 : LV F := LV.mo hK12 (MO.kx hK12 rfl rfl) rfl rfl (show LV F12 from hl)
          obtain ⟨x0_, x1_, x2_, x3_, hE0⟩ := hL l_20 h54
          have l0 : LV F := l_20
          have l0f : LV F0 := LV.mo hK hM rfl rfl l0
          exact absurd c_1 x1_
        exact mtj_named_212 (px := px) (py := py) rc ihK ihM ihT hT F12 G12 ⟨k_13, k_14, (show (F12 43) = (F0 43) by first | rfl | (simp only [q_15, q_16, q_17, h43, h70, i_as])), (show (F12 70) = F0 70 by first | rfl | (simp only [q_15, q_16, q_17, h43, h70, i_as])), (show 0 ≤ (F12 60).toInt from (inc60 n12 e12)), k_18, hL19⟩
    · skip
      unfold mb_named_178
      refine PP.ix (fun _ => ?_)
      refine PP.ite (fun c_21 => ?_) (fun c_21 => ?_)
      · skip
        unfold mb_named_191
        unfold mb_named_192
        refine PP.ite (fun c_22 => ?_) (fun c_22 => ?_)
        · skip
          unfold mb_named_197
          unfold mb_named_207
          refine PP.bind (mq_step (3 : Int32) (0 : Int32) (0 : Int32) F G) ?_
          rintro _ F23 G23 ⟨hK23, rfl, e23, g23, n23⟩
          dsimp only
          have k_24 : KX [42, 43, 44, 45, 47, 48, 49, 55, 60, 62, 70] [56, 57, 58, 59, 67, 68, 69] F0 G0 F23 G23 := (KX.tr hK hK23 rfl rfl)
          have k_25 : MO F0 F23 := (MO.tr hM (MO.kx hK23 rfl rfl))
          have q_26 : F23 42 = (F 42) := hK23.1 42 rfl
          have q_27 : F23 43 = (F0 43) := Eq.trans (hK23.1 43 rfl) (show (F 43) = (F0 43) by simp only [h43, h70, i_as])
          have q_28 : F23 70 = (F0 70) := Eq.trans (hK23.1 70 rfl) (show (F 70) = (F0 70) by simp only [h43, h70, i_as])
          have k_29 : PKp F0 G0 G23 := PKp.kx (show PKp F0 G0 G from hPK) hK23 rfl rfl
          unfold mb_named_211
          have hL30 : LV F23 → F0 54 = 0 → ∀ (A : AN) (s : SH) (d : Nat), A (sN F0) = (s, d, false) → bd 8 F0 s → EX X F0 G0 A F23 G23 (0 :: s) d [] := by
            intro hl h54
            have l_31 : LV F := LV.mo hK23 (MO.kx hK23 rfl rfl) rfl rfl (show LV F23 from hl)
            obtain ⟨x0_, x1_, x2_, x3_, hE0⟩ := hL l_31 h54
            have l0 : LV F := l_31
            have l0f : LV F0 := LV.mo hK hM rfl rfl l0
            exact absurd c_22 x1_
          exact mtj_named_212 (px := px) (py := py) rc ihK ihM ihT hT F23 G23 ⟨k_24, k_25, (show (F23 43) = (F0 43) by first | rfl | (simp only [q_26, q_27, q_28, h43, h70, i_as])), (show (F23 70) = F0 70 by first | rfl | (simp only [q_26, q_27, q_28, h43, h70, i_as])), (show 0 ≤ (F23 60).toInt from (inc60 n23 e23)), k_29, hL30⟩
        · skip
          unfold mb_named_201
          refine PP.ix (fun _ => ?_)
          unfold mb_named_207
          refine PP.bind (mq_step (3 : Int32) (G 20 x2.toNatClampNeg) (0 : Int32) F G) ?_
          rintro _ F32 G32 ⟨hK32, rfl, e32, g32, n32⟩
          dsimp only
          have k_33 : KX [42, 43, 44, 45, 47, 48, 49, 55, 60, 62, 70] [56, 57, 58, 59, 67, 68, 69] F0 G0 F32 G32 := (KX.tr hK hK32 rfl rfl)
          have k_34 : MO F0 F32 := (MO.tr hM (MO.kx hK32 rfl rfl))
          have q_35 : F32 42 = (F 42) := hK32.1 42 rfl
          have q_36 : F32 43 = (F0 43) := Eq.trans (hK32.1 43 rfl) (show (F 43) = (F0 43) by simp only [h43, h70, i_as])
          have q_37 : F32 70 = (F0 70) := Eq.trans (hK32.1 70 rfl) (show (F 70) = (F0 70) by simp only [h43, h70, i_as])
          have k_38 : PKp F0 G0 G32 := PKp.kx (show PKp F0 G0 G from hPK) hK32 rfl rfl
          unfold mb_named_211
          have hL39 : LV F32 → F0 54 = 0 → ∀ (A : AN) (s : SH) (d : Nat), A (sN F0) = (s, d, false) → bd 8 F0 s → EX X F0 G0 A F32 G32 (0 :: s) d [] := by
            intro hl h54
            have l_40 : LV F := LV.mo hK32 (MO.kx hK32 rfl rfl) rfl rfl (show LV F32 from hl)
            obtain ⟨x0_, x1_, x2_, x3_, hE0⟩ := hL l_40 h54
            have l0 : LV F := l_40
            have l0f : LV F0 := LV.mo hK hM rfl rfl l0
            have ld0 := DI.ld3 hT h54 (l0f.2.1 h54) hK rfl x0_ x1_ x3_ x2_ c_21
            have ld := And.intro ld0.1 ld0.2
            intro A s d hA hb
            have hm : X.1 = false := hT.m.1 h54
            have E0 := hE0 A s d hA hb
            have lb : s.length ≤ 568 := by have := bd.len hb t43.2; omega
            have E41 : EX X F0 G0 A F32 G32 (0 :: s) d [] := EX.stp E0 n32 e32 g32 (by have := lb; (try simp only [List.length_cons]); omega) (fun _ => Or.inr (Or.inr (Or.inr (Or.inr ⟨hm, Or.inr (Or.inr (Or.inl ⟨rfl, ld.1, ld.2, rfl⟩))⟩))))
            exact EX.st E41 rfl (fun _ _ _ => rfl)
          exact mtj_named_212 (px := px) (py := py) rc ihK ihM ihT hT F32 G32 ⟨k_33, k_34, (show (F32 43) = (F0 43) by first | rfl | (simp only [q_35, q_36, q_37, h43, h70, i_as])), (show (F32 70) = F0 70 by first | rfl | (simp only [q_35, q_36, q_37, h43, h70, i_as])), (show 0 ≤ (F32 60).toInt from (inc60 n32 e32)), k_38, hL39⟩
      · skip
        unfold mb_named_187
        unfold mb_named_192
        refine PP.ite (fun c_42 => ?_) (fun c_42 => ?_)
        · skip
          unfold mb_named_197
          unfold mb_named_207
          refine PP.bind (mq_step (1 : Int32) (0 : Int32) (0 : Int32) F G) ?_
          rintro _ F43 G43 ⟨hK43, rfl, e43, g43, n43⟩
          dsimp only
          have k_44 : KX [42, 43, 44, 45, 47, 48, 49, 55, 60, 62, 70] [56, 57, 58, 59, 67, 68, 69] F0 G0 F43 G43 := (KX.tr hK hK43 rfl rfl)
          have k_45 : MO F0 F43 := (MO.tr hM (MO.kx hK43 rfl rfl))
          have q_46 : F43 42 = (F 42) := hK43.1 42 rfl
          have q_47 : F43 43 = (F0 43) := Eq.trans (hK43.1 43 rfl) (show (F 43) = (F0 43) by simp only [h43, h70, i_as])
          have q_48 : F43 70 = (F0 70) := Eq.trans (hK43.1 70 rfl) (show (F 70) = (F0 70) by simp only [h43, h70, i_as])
          have k_49 : PKp F0 G0 G43 := PKp.kx (show PKp F0 G0 G from hPK) hK43 rfl rfl
          unfold mb_named_211
          have hL50 : LV F43 → F0 54 = 0 → ∀ (A : AN) (s : SH) (d : Nat), A (sN F0) = (s, d, false) → bd 8 F0 s → EX X F0 G0 A F43 G43 (0 :: s) d [] := by
            intro hl h54
            have l_51 : LV F := LV.mo hK43 (MO.kx hK43 rfl rfl) rfl rfl (show LV F43 from hl)
            obtain ⟨x0_, x1_, x2_, x3_, hE0⟩ := hL l_51 h54
            have l0 : LV F := l_51
            have l0f : LV F0 := LV.mo hK hM rfl rfl l0
            exact absurd c_42 x1_
          exact mtj_named_212 (px := px) (py := py) rc ihK ihM ihT hT F43 G43 ⟨k_44, k_45, (show (F43 43) = (F0 43) by first | rfl | (simp only [q_46, q_47, q_48, h43, h70, i_as])), (show (F43 70) = F0 70 by first | rfl | (simp only [q_46, q_47, q_48, h43, h70, i_as])), (show 0 ≤ (F43 60).toInt from (inc60 n43 e43)), k_49, hL50⟩
        · skip
          unfold mb_named_201
          refine PP.ix (fun _ => ?_)
          unfold mb_named_207
          refine PP.bind (mq_step (1 : Int32) (G 20 x2.toNatClampNeg) (0 : Int32) F G) ?_
          rintro _ F52 G52 ⟨hK52, rfl, e52, g52, n52⟩
          dsimp only
          have k_53 : KX [42, 43, 44, 45, 47, 48, 49, 55, 60, 62, 70] [56, 57, 58, 59, 67, 68, 69] F0 G0 F52 G52 := (KX.tr hK hK52 rfl rfl)
          have k_54 : MO F0 F52 := (MO.tr hM (MO.kx hK52 rfl rfl))
          have q_55 : F52 42 = (F 42) := hK52.1 42 rfl
          have q_56 : F52 43 = (F0 43) := Eq.trans (hK52.1 43 rfl) (show (F 43) = (F0 43) by simp only [h43, h70, i_as])
          have q_57 : F52 70 = (F0 70) := Eq.trans (hK52.1 70 rfl) (show (F 70) = (F0 70) by simp only [h43, h70, i_as])
          have k_58 : PKp F0 G0 G52 := PKp.kx (show PKp F0 G0 G from hPK) hK52 rfl rfl
          unfold mb_named_211
          have hL59 : LV F52 → F0 54 = 0 → ∀ (A : AN) (s : SH) (d : Nat), A (sN F0) = (s, d, false) → bd 8 F0 s → EX X F0 G0 A F52 G52 (0 :: s) d [] := by
            intro hl h54
            have l_60 : LV F := LV.mo hK52 (MO.kx hK52 rfl rfl) rfl rfl (show LV F52 from hl)
            obtain ⟨x0_, x1_, x2_, x3_, hE0⟩ := hL l_60 h54
            have l0 : LV F := l_60
            have l0f : LV F0 := LV.mo hK hM rfl rfl l0
            have ld0 := DI.ld1 hT h54 (l0f.2.1 h54) hK rfl x0_ x1_ x3_ x2_ c_21
            have ld := And.intro ld0.1 ld0.2.1
            intro A s d hA hb
            have hm : X.1 = false := hT.m.1 h54
            have E0 := hE0 A s d hA hb
            have lb : s.length ≤ 568 := by have := bd.len hb t43.2; omega
            have E61 : EX X F0 G0 A F52 G52 (0 :: s) d [] := EX.stp E0 n52 e52 g52 (by have := lb; (try simp only [List.length_cons]); omega) (fun _ => Or.inr (Or.inr (Or.inr (Or.inr ⟨hm, Or.inl ⟨rfl, ld.1, ld.2, rfl⟩⟩))))
            exact EX.st E61 rfl (fun _ _ _ => rfl)
          exact mtj_named_212 (px := px) (py := py) rc ihK ihM ihT hT F52 G52 ⟨k_53, k_54, (show (F52 43) = (F0 43) by first | rfl | (simp only [q_55, q_56, q_57, h43, h70, i_as])), (show (F52 70) = F0 70 by first | rfl | (simp only [q_55, q_56, q_57, h43, h70, i_as])), (show 0 ≤ (F52 60).toInt from (inc60 n52 e52)), k_58, hL59⟩
theorem mtj_named_115 {fu : Nat} {X : TX} {L : List Nat} {px py : Int32} (rc : RC) (ihK : mKI1 rc) (ihM : mMOI rc) (ihT : mTI X L rc) {F0 : PF} {G0 : PG} (hT : TP X L F0 G0) (x2 : Int32) (x4 : Int32) (F : PF) (G : PG) (hA : (x4 = 1 ∧ KX [42, 43, 44, 45, 47, 48, 49, 55, 60, 62, 70] [56, 57, 58, 59, 67, 68, 69] F0 G0 F G ∧ MO F0 F ∧ F 43 = (F0 43) ∧ F 70 = F0 70 ∧ 0 ≤ (F 60).toInt ∧ PKp F0 G0 G ∧ (LV F → F0 54 = 0 → (mnR F0 x2) ∧ (¬ x2 = (-1 : Int32)) ∧ (G 17 x2.toNatClampNeg = (2 : Int32)) ∧ (∀ (A : AN) (s : SH) (d : Nat), A (sN F0) = (s, d, false) → bd 8 F0 s → EX X F0 G0 A F G s d []))) ∨ (x4 = 0 ∧ KX [42, 43, 44, 45, 47, 48, 49, 55, 60, 62, 70] [56, 57, 58, 59, 67, 68, 69] F0 G0 F G ∧ MO F0 F ∧ F 43 = (F0 43) ∧ F 70 = F0 70 ∧ 0 ≤ (F 60).toInt ∧ PKp F0 G0 G ∧ (LV F → F0 54 = 0 → (mnR F0 x2) ∧ (¬ x2 = (-1 : Int32)) ∧ (¬ G 17 x2.toNatClampNeg = (2 : Int32)) ∧ (∀ (A : AN) (s : SH) (d : Nat), A (sN F0) = (s, d, false) → bd 8 F0 s → EX X F0 G0 A F G s d [])))) : PP (mb_named_115 fu rc x2 x4 F G) (fun r' F' G' => TQ X 6 px py F0 G0 r' F' G') := by
  have t14 := hT.2.2.2.1
  have t24 := hT.2.2.2.2.1
  have t43 : 0 ≤ (F0 43).toInt ∧ (F0 43).toInt ≤ 40 := ⟨hT.2.2.2.2.2.1, hT.2.2.2.2.2.2.1⟩
  have t70 := hT.2.2.2.2.2.2.2.1
  rcases hA with ⟨rfl, hK, hM, h43, h70, h60, hPK, hL⟩ | ⟨rfl, hK, hM, h43, h70, h60, hPK, hL⟩
  · skip
    unfold mb_named_115
    refine PP.ite (fun c_1 => absurd c_1 (by decide)) (fun _ => ?_)
    unfold mb_named_120
    refine PP.bind (PP.and (ihK 3 x2 0 F G) (PP.and (ihM 3 x2 0 F G) (ihT 3 x2 0 F G (TP.kx hT hK (fun q => (hM).1 q) rfl (show 0 ≤ (F 43).toInt ∧ (F 43).toInt ≤ 40 by first | exact t43 | (simp only [h43, h70, i_as]; exact t43)) (show 0 ≤ (F 70).toInt by first | exact t70 | (simp only [h43, h70, i_as]; exact t70)) (show 0 ≤ (F 60).toInt from h60))))) ?_
    rintro r2 F2 G2 ⟨hK2, hM2, (rfl | rfl), u2⟩
    · dsimp only
      unfold mb_named_125
      refine PP.ite (fun _ => ?_) (fun c_3 => absurd (by decide) c_3)
      unfold mb_named_128
      refine PP.ret ?_
      exact ⟨Or.inl rfl, fun h => absurd h (by decide)⟩
    · dsimp only
      obtain ⟨u2a, u2b, u2c, u2d, u2e⟩ := u2 rfl
      have k_4 : KX [42, 43, 44, 45, 47, 48, 49, 55, 60, 62, 70] [56, 57, 58, 59, 67, 68, 69] F0 G0 F2 G2 := (KX.tr hK hK2 rfl rfl)
      have k_5 : MO F0 F2 := (MO.tr hM hM2)
      have q_6 : F2 43 = (F0 43) := Eq.trans u2a (show (F 43) = (F0 43) by simp only [h43, h70, i_as])
      have q_7 : F2 70 = (F0 70) := Eq.trans u2b (show (F 70) = (F0 70) by simp only [h43, h70, i_as])
      have q_8 : F 70 = F0 70 := (show (F 70) = F0 70 by first | rfl | (simp only [h43, h70, i_as]))
      have k_9 : PKp F0 G0 G2 := PKp.tr (show PKp F0 G0 G from hPK) u2d q_8
      unfold mb_named_125
      refine PP.ite (fun c_10 => absurd c_10 (by decide)) (fun _ => ?_)
      unfold mb_named_130
      refine PP.bind (mq_step (7 : Int32) (0 : Int32) (0 : Int32) F2 G2) ?_
      rintro _ F11 G11 ⟨hK11, rfl, e11, g11, n11⟩
      dsimp only
      have k_12 : KX [42, 43, 44, 45, 47, 48, 49, 55, 60, 62, 70] [56, 57, 58, 59, 67, 68, 69] F0 G0 F11 G11 := (KX.tr k_4 hK11 rfl rfl)
      have k_13 : MO F0 F11 := (MO.tr k_5 (MO.kx hK11 rfl rfl))
      have q_14 : F11 42 = (F2 42) := hK11.1 42 rfl
      have q_15 : F11 43 = (F0 43) := Eq.trans (hK11.1 43 rfl) (show (F2 43) = (F0 43) by simp only [q_6, q_7, h43, h70, i_as])
      have q_16 : F11 70 = (F0 70) := Eq.trans (hK11.1 70 rfl) (show (F2 70) = (F0 70) by simp only [q_6, q_7, h43, h70, i_as])
      have k_17 : PKp F0 G0 G11 := PKp.kx (show PKp F0 G0 G2 from k_9) hK11 rfl rfl
      unfold mb_named_138
      have hL18 : LV F11 → F0 54 = 0 → ∀ (A : AN) (s : SH) (d : Nat), A (sN F0) = (s, d, false) → bd 8 F0 s → EX X F0 G0 A F11 G11 (0 :: s) d [] := by
        intro hl h54
        have l_19 : LV F2 := LV.mo hK11 (MO.kx hK11 rfl rfl) rfl rfl (show LV F11 from hl)
        have l_20 : LV F := LV.mo hK2 hM2 rfl rfl (show LV F2 from l_19)
        obtain ⟨x0_, x1_, x2_, hE0⟩ := hL l_20 h54
        have l0 : LV F := l_20
        have l0f : LV F0 := LV.mo hK hM rfl rfl l0
        have eok : EOK F G x2 := EOK.mk x0_ x1_ (show KX [42, 43, 44, 45, 47, 48, 49, 55, 60, 62, 70] [56, 57, 58, 59, 67, 68, 69] F0 G0 F G from hK) rfl x2_
        intro A s d hA hb
        have hm : X.1 = false := hT.m.1 h54
        have E0 := hE0 A s d hA hb
        have lb : s.length ≤ 568 := by have := bd.len hb t43.2; omega
        have E21 : EX X F0 G0 A F2 G2 (1 :: s) d [] := EX.tr E0 (fun A1 hA1 => ((show F 54 = 0 → EOK F G x2 → TE X F G F2 G2 8 (fun s => 1 :: s) from u2e (show LV F2 from l_19)) (Eq.trans (show F 54 = F0 54 from (show KX [42, 43, 44, 45, 47, 48, 49, 55, 60, 62, 70] [56, 57, 58, 59, 67, 68, 69] F0 G0 F G from hK).1 54 rfl) h54) eok) A1 _ _ hA1 (bd.mv (e := 0) (c := 0) hb (show F 54 = F0 54 from (show KX [42, 43, 44, 45, 47, 48, 49, 55, 60, 62, 70] [56, 57, 58, 59, 67, 68, 69] F0 G0 F G from hK).1 54 rfl) (show (F 43).toInt = (F0 43).toInt + 0 by rw [show F 43 = F0 43 from by first | rfl | (simp only [q_14, q_15, q_16, h43, h70, q_6, q_7, i_as, fup, Nat.reduceEqDiff, reduceIte, if_false])]; omega) (by (try simp only [List.length_cons]); omega) (by omega)))
        have E22 : EX X F0 G0 A F11 G11 (0 :: s) d [] := EX.stp E21 n11 e11 g11 (by have := lb; (try simp only [List.length_cons]); omega) (fun _ => Or.inr (Or.inr (Or.inr (Or.inr ⟨hm, Or.inr (Or.inr (Or.inr (Or.inr (Or.inr (Or.inr (Or.inl ⟨rfl, _, rfl, rfl⟩))))))⟩))))
        exact EX.st E22 rfl (fun _ _ _ => rfl)
      exact mtj_named_212 (px := px) (py := py) rc ihK ihM ihT hT F11 G11 ⟨k_12, k_13, (show (F11 43) = (F0 43) by first | rfl | (simp only [q_14, q_15, q_16, h43, h70, q_6, q_7, i_as])), (show (F11 70) = F0 70 by first | rfl | (simp only [q_14, q_15, q_16, h43, h70, q_6, q_7, i_as])), (show 0 ≤ (F11 60).toInt from (inc60 n11 e11)), k_17, hL18⟩
  · skip
    unfold mb_named_115
    refine PP.ite (fun _ => ?_) (fun c_23 => absurd (by decide) c_23)
    unfold mb_named_142
    refine PP.ite (fun c_24 => ?_) (fun c_24 => ?_)
    · skip
      have hL25 : LV F → F0 54 = 0 → (mnR F0 x2) ∧ (¬ x2 = (-1 : Int32)) ∧ (¬ G 17 x2.toNatClampNeg = (2 : Int32)) ∧ (¬ G 17 x2.toNatClampNeg = (0 : Int32)) ∧ (∀ (A : AN) (s : SH) (d : Nat), A (sN F0) = (s, d, false) → bd 8 F0 s → EX X F0 G0 A F G s d []) := by
        intro hl h54
        obtain ⟨x0_, x1_, x2_, hE0⟩ := hL hl h54
        have l0 : LV F := hl
        have l0f : LV F0 := LV.mo hK hM rfl rfl l0
        exact absurd c_24 x1_
      exact mtj_named_172 (px := px) (py := py) rc ihK ihM ihT hT x2 F G ⟨hK, hM, (show (F 43) = (F0 43) by first | rfl | (simp only [h43, h70, i_as])), (show (F 70) = F0 70 by first | rfl | (simp only [h43, h70, i_as])), (show 0 ≤ (F 60).toInt from h60), hPK, hL25⟩
    · skip
      unfold mb_named_147
      refine PP.ix (fun _ => ?_)
      refine PP.ite (fun c_26 => ?_) (fun c_26 => ?_)
      · skip
        unfold mb_named_156
        refine PP.ix (fun _ => ?_)
        refine PP.bind (mq_step (0 : Int32) (G 20 x2.toNatClampNeg) (0 : Int32) F G) ?_
        rintro _ F27 G27 ⟨hK27, rfl, e27, g27, n27⟩
        dsimp only
        have k_28 : KX [42, 43, 44, 45, 47, 48, 49, 55, 60, 62, 70] [56, 57, 58, 59, 67, 68, 69] F0 G0 F27 G27 := (KX.tr hK hK27 rfl rfl)
        have k_29 : MO F0 F27 := (MO.tr hM (MO.kx hK27 rfl rfl))
        have q_30 : F27 42 = (F 42) := hK27.1 42 rfl
        have q_31 : F27 43 = (F0 43) := Eq.trans (hK27.1 43 rfl) (show (F 43) = (F0 43) by simp only [h43, h70, i_as])
        have q_32 : F27 70 = (F0 70) := Eq.trans (hK27.1 70 rfl) (show (F 70) = (F0 70) by simp only [h43, h70, i_as])
        have k_33 : PKp F0 G0 G27 := PKp.kx (show PKp F0 G0 G from hPK) hK27 rfl rfl
        unfold mb_named_168
        have hL34 : LV F27 → F0 54 = 0 → ∀ (A : AN) (s : SH) (d : Nat), A (sN F0) = (s, d, false) → bd 8 F0 s → EX X F0 G0 A F27 G27 (0 :: s) d [] := by
          intro hl h54
          have l_35 : LV F := LV.mo hK27 (MO.kx hK27 rfl rfl) rfl rfl (show LV F27 from hl)
          obtain ⟨x0_, x1_, x2_, hE0⟩ := hL l_35 h54
          have l0 : LV F := l_35
          have l0f : LV F0 := LV.mo hK hM rfl rfl l0
          intro A s d hA hb
          have hm : X.1 = false := hT.m.1 h54
          have E0 := hE0 A s d hA hb
          have lb : s.length ≤ 568 := by have := bd.len hb t43.2; omega
          have E36 : EX X F0 G0 A F27 G27 (0 :: s) d [] := EX.stp E0 n27 e27 g27 (by have := lb; (try simp only [List.length_cons]); omega) (fun _ => Or.inl ⟨rfl, rfl⟩)
          exact EX.st E36 rfl (fun _ _ _ => rfl)
        exact mtj_named_212 (px := px) (py := py) rc ihK ihM ihT hT F27 G27 ⟨k_28, k_29, (show (F27 43) = (F0 43) by first | rfl | (simp only [q_30, q_31, q_32, h43, h70, i_as])), (show (F27 70) = F0 70 by first | rfl | (simp only [q_30, q_31, q_32, h43, h70, i_as])), (show 0 ≤ (F27 60).toInt from (inc60 n27 e27)), k_33, hL34⟩
      · skip
        have hL37 : LV F → F0 54 = 0 → (mnR F0 x2) ∧ (¬ x2 = (-1 : Int32)) ∧ (¬ G 17 x2.toNatClampNeg = (2 : Int32)) ∧ (¬ G 17 x2.toNatClampNeg = (0 : Int32)) ∧ (∀ (A : AN) (s : SH) (d : Nat), A (sN F0) = (s, d, false) → bd 8 F0 s → EX X F0 G0 A F G s d []) := by
          intro hl h54
          obtain ⟨x0_, x1_, x2_, hE0⟩ := hL hl h54
          have l0 : LV F := hl
          have l0f : LV F0 := LV.mo hK hM rfl rfl l0
          refine ⟨(by first | assumption | contradiction | exact trivial | exact x0_ | exact x1_ | exact (fun q => absurd q.1 (by assumption)) | exact (fun q => absurd q.2 (by assumption)) | exact (fun q => x1_ ⟨by assumption, q⟩) | decide | omega), (by first | assumption | contradiction | exact trivial | exact x0_ | exact x1_ | exact (fun q => absurd q.1 (by assumption)) | exact (fun q => absurd q.2 (by assumption)) | exact (fun q => x1_ ⟨by assumption, q⟩) | decide | omega), (by first | assumption | contradiction | exact trivial | exact x0_ | exact x1_ | exact (fun q => absurd q.1 (by assumption)) | exact (fun q => absurd q.2 (by assumption)) | exact (fun q => x1_ ⟨by assumption, q⟩) | decide | omega), (by first | assumption | contradiction | exact trivial | exact x0_ | exact x1_ | exact (fun q => absurd q.1 (by assumption)) | exact (fun q => absurd q.2 (by assumption)) | exact (fun q => x1_ ⟨by assumption, q⟩) | decide | omega), ?_⟩
          intro A s d hA hb
          have hm : X.1 = false := hT.m.1 h54
          have E0 := hE0 A s d hA hb
          have lb : s.length ≤ 568 := by have := bd.len hb t43.2; omega
          exact EX.st E0 rfl (fun _ _ _ => rfl)
        exact mtj_named_172 (px := px) (py := py) rc ihK ihM ihT hT x2 F G ⟨hK, hM, (show (F 43) = (F0 43) by first | rfl | (simp only [h43, h70, i_as])), (show (F 70) = F0 70 by first | rfl | (simp only [h43, h70, i_as])), (show 0 ≤ (F 60).toInt from h60), hPK, hL37⟩
theorem mtj_named_51 {fu : Nat} {X : TX} {L : List Nat} {px py : Int32} (rc : RC) (ihK : mKI1 rc) (ihM : mMOI rc) (ihT : mTI X L rc) {F0 : PF} {G0 : PG} (hT : TP X L F0 G0) (x1 : Int32) (x2 : Int32) (z0 : Int32) (F : PF) (G : PG) (hA : (KX [42, 43, 44, 45, 47, 48, 49, 55, 60, 62, 70] [56, 57, 58, 59, 67, 68, 69] F0 G0 F G ∧ MO F0 F ∧ F 43 = (F0 43) ∧ F 70 = F0 70 ∧ 0 ≤ (F 60).toInt ∧ PKp F0 G0 G ∧ (LV F → F0 54 = 0 → (mnR F0 x2) ∧ (∀ (A : AN) (s : SH) (d : Nat), A (sN F0) = (s, d, false) → bd 8 F0 s → EX X F0 G0 A F G s d [])))) : PP (mb_named_51 fu rc x1 x2 z0 F G) (fun r' F' G' => TQ X 6 px py F0 G0 r' F' G') := by
  have t14 := hT.2.2.2.1
  have t24 := hT.2.2.2.2.1
  have t43 : 0 ≤ (F0 43).toInt ∧ (F0 43).toInt ≤ 40 := ⟨hT.2.2.2.2.2.1, hT.2.2.2.2.2.2.1⟩
  have t70 := hT.2.2.2.2.2.2.2.1
  rcases hA with ⟨hK, hM, h43, h70, h60, hPK, hL⟩
  · skip
    unfold mb_named_51
    refine PP.bind (mp_isSign (24 : Int32) F G) ?_
    rintro _ _ _ ⟨rfl, rfl, (⟨rfl, u1⟩ | ⟨rfl, u1⟩)⟩
    · dsimp only
      unfold mb_named_58
      refine PP.ite (fun c_2 => ?_) (fun c_2 => ?_)
      · skip
        unfold mb_named_78
        refine PP.ite (fun c_3 => ?_) (fun c_3 => ?_)
        · skip
          unfold mb_named_103
          refine PP.ix (fun _ => ?_)
          refine PP.bind (PP.and (mp_note (6 : Int32) (G 6 x1.toNatClampNeg) (by decide) F G) (mm_note (6 : Int32) (G 6 x1.toNatClampNeg) (by decide) F G)) ?_
          rintro r4 F4 G4 ⟨⟨hK4, rfl, u4, -⟩, hM4⟩
          dsimp only
          have k_5 : KX [42, 43, 44, 45, 47, 48, 49, 55, 60, 62, 70] [56, 57, 58, 59, 67, 68, 69] F0 G0 F4 G := (KX.tr hK hK4 rfl rfl)
          have k_6 : MO F0 F4 := (MO.tr hM hM4)
          have q_7 : F4 42 = (F 42) := hK4.1 42 rfl
          have q_8 : F4 43 = (F0 43) := Eq.trans (hK4.1 43 rfl) (show (F 43) = (F0 43) by simp only [h43, h70, i_as])
          have q_9 : F4 70 = (F0 70) := Eq.trans (hK4.1 70 rfl) (show (F 70) = (F0 70) by simp only [h43, h70, i_as])
          have k_10 : PKp F0 G0 G := PKp.kx (show PKp F0 G0 G from hPK) hK4 rfl rfl
          have hL11 : LV F4 → F0 54 = 0 → (mnR F0 x2) ∧ (¬ x2 = (-1 : Int32)) ∧ (G 17 x2.toNatClampNeg = (2 : Int32)) ∧ (∀ (A : AN) (s : SH) (d : Nat), A (sN F0) = (s, d, false) → bd 8 F0 s → EX X F0 G0 A F4 G s d []) := by
            intro hl h54
            have l_12 : LV F := LV.mo hK4 hM4 rfl rfl (show LV F4 from hl)
            exact absurd (u4 l_12.1) (by rw [(show LV F4 from hl).2.1 (Eq.trans (k_5.1 54 rfl) h54)]; decide)
          exact mtj_named_115 (px := px) (py := py) rc ihK ihM ihT hT x2 (1 : Int32) F4 G (Or.inl ⟨rfl, k_5, k_6, (show (F4 43) = (F0 43) by first | rfl | (simp only [q_7, q_8, q_9, h43, h70, i_as])), (show (F4 70) = F0 70 by first | rfl | (simp only [q_7, q_8, q_9, h43, h70, i_as])), (show 0 ≤ (F4 60).toInt from (show 0 ≤ (F4 60).toInt by rw [hK4.1 60 rfl]; exact h60)), k_10, hL11⟩)
        · skip
          unfold mb_named_83
          refine PP.ix (fun _ => ?_)
          refine PP.ite (fun c_13 => ?_) (fun c_13 => ?_)
          · skip
            unfold mb_named_95
            unfold mb_named_100
            refine PP.ite (fun _ => ?_) (fun c_14 => absurd (by decide) c_14)
            have hL15 : LV F → F0 54 = 0 → (mnR F0 x2) ∧ (¬ x2 = (-1 : Int32)) ∧ (G 17 x2.toNatClampNeg = (2 : Int32)) ∧ (∀ (A : AN) (s : SH) (d : Nat), A (sN F0) = (s, d, false) → bd 8 F0 s → EX X F0 G0 A F G s d []) := by
              intro hl h54
              obtain ⟨x0_, hE0⟩ := hL hl h54
              have l0 : LV F := hl
              have l0f : LV F0 := LV.mo hK hM rfl rfl l0
              refine ⟨(by first | assumption | contradiction | exact trivial | exact x0_ | exact x1_ | exact (fun q => absurd q.1 (by assumption)) | exact (fun q => absurd q.2 (by assumption)) | exact (fun q => x1_ ⟨by assumption, q⟩) | decide | omega), (by first | assumption | contradiction | exact trivial | exact x0_ | exact x1_ | exact (fun q => absurd q.1 (by assumption)) | exact (fun q => absurd q.2 (by assumption)) | exact (fun q => x1_ ⟨by assumption, q⟩) | decide | omega), (by first | assumption | contradiction | exact trivial | exact x0_ | exact x1_ | exact (fun q => absurd q.1 (by assumption)) | exact (fun q => absurd q.2 (by assumption)) | exact (fun q => x1_ ⟨by assumption, q⟩) | decide | omega), ?_⟩
              intro A s d hA hb
              have hm : X.1 = false := hT.m.1 h54
              have E0 := hE0 A s d hA hb
              have lb : s.length ≤ 568 := by have := bd.len hb t43.2; omega
              exact EX.st E0 rfl (fun _ _ _ => rfl)
            exact mtj_named_115 (px := px) (py := py) rc ihK ihM ihT hT x2 (1 : Int32) F G (Or.inl ⟨rfl, hK, hM, (show (F 43) = (F0 43) by first | rfl | (simp only [h43, h70, i_as])), (show (F 70) = F0 70 by first | rfl | (simp only [h43, h70, i_as])), (show 0 ≤ (F 60).toInt from h60), hPK, hL15⟩)
          · skip
            unfold mb_named_99
            unfold mb_named_100
            refine PP.ite (fun c_16 => absurd c_16 (by decide)) (fun _ => ?_)
            unfold mb_named_103
            refine PP.ix (fun _ => ?_)
            refine PP.bind (PP.and (mp_note (6 : Int32) (G 6 x1.toNatClampNeg) (by decide) F G) (mm_note (6 : Int32) (G 6 x1.toNatClampNeg) (by decide) F G)) ?_
            rintro r17 F17 G17 ⟨⟨hK17, rfl, u17, -⟩, hM17⟩
            dsimp only
            have k_18 : KX [42, 43, 44, 45, 47, 48, 49, 55, 60, 62, 70] [56, 57, 58, 59, 67, 68, 69] F0 G0 F17 G := (KX.tr hK hK17 rfl rfl)
            have k_19 : MO F0 F17 := (MO.tr hM hM17)
            have q_20 : F17 42 = (F 42) := hK17.1 42 rfl
            have q_21 : F17 43 = (F0 43) := Eq.trans (hK17.1 43 rfl) (show (F 43) = (F0 43) by simp only [h43, h70, i_as])
            have q_22 : F17 70 = (F0 70) := Eq.trans (hK17.1 70 rfl) (show (F 70) = (F0 70) by simp only [h43, h70, i_as])
            have k_23 : PKp F0 G0 G := PKp.kx (show PKp F0 G0 G from hPK) hK17 rfl rfl
            have hL24 : LV F17 → F0 54 = 0 → (mnR F0 x2) ∧ (¬ x2 = (-1 : Int32)) ∧ (G 17 x2.toNatClampNeg = (2 : Int32)) ∧ (∀ (A : AN) (s : SH) (d : Nat), A (sN F0) = (s, d, false) → bd 8 F0 s → EX X F0 G0 A F17 G s d []) := by
              intro hl h54
              have l_25 : LV F := LV.mo hK17 hM17 rfl rfl (show LV F17 from hl)
              exact absurd (u17 l_25.1) (by rw [(show LV F17 from hl).2.1 (Eq.trans (k_18.1 54 rfl) h54)]; decide)
            exact mtj_named_115 (px := px) (py := py) rc ihK ihM ihT hT x2 (1 : Int32) F17 G (Or.inl ⟨rfl, k_18, k_19, (show (F17 43) = (F0 43) by first | rfl | (simp only [q_20, q_21, q_22, h43, h70, i_as])), (show (F17 70) = F0 70 by first | rfl | (simp only [q_20, q_21, q_22, h43, h70, i_as])), (show 0 ≤ (F17 60).toInt from (show 0 ≤ (F17 60).toInt by rw [hK17.1 60 rfl]; exact h60)), k_23, hL24⟩)
      · skip
        unfold mb_named_64
        refine PP.ix (fun _ => ?_)
        refine PP.bind (PP.and (mp_note (4 : Int32) (G 6 x1.toNatClampNeg) (by decide) F G) (mm_note (4 : Int32) (G 6 x1.toNatClampNeg) (by decide) F G)) ?_
        rintro r26 F26 G26 ⟨⟨hK26, rfl, u26, -⟩, hM26⟩
        dsimp only
        have k_27 : KX [42, 43, 44, 45, 47, 48, 49, 55, 60, 62, 70] [56, 57, 58, 59, 67, 68, 69] F0 G0 F26 G := (KX.tr hK hK26 rfl rfl)
        have k_28 : MO F0 F26 := (MO.tr hM hM26)
        have q_29 : F26 42 = (F 42) := hK26.1 42 rfl
        have q_30 : F26 43 = (F0 43) := Eq.trans (hK26.1 43 rfl) (show (F 43) = (F0 43) by simp only [h43, h70, i_as])
        have q_31 : F26 70 = (F0 70) := Eq.trans (hK26.1 70 rfl) (show (F 70) = (F0 70) by simp only [h43, h70, i_as])
        have k_32 : PKp F0 G0 G := PKp.kx (show PKp F0 G0 G from hPK) hK26 rfl rfl
        unfold mb_named_75
        have hL33 : LV F26 → F0 54 = 0 → (mnR F0 x2) ∧ (¬ x2 = (-1 : Int32)) ∧ (G 17 x2.toNatClampNeg = (2 : Int32)) ∧ (∀ (A : AN) (s : SH) (d : Nat), A (sN F0) = (s, d, false) → bd 8 F0 s → EX X F0 G0 A F26 G s d []) := by
          intro hl h54
          have l_34 : LV F := LV.mo hK26 hM26 rfl rfl (show LV F26 from hl)
          exact absurd (u26 l_34.1) (by rw [(show LV F26 from hl).2.1 (Eq.trans (k_27.1 54 rfl) h54)]; decide)
        exact mtj_named_115 (px := px) (py := py) rc ihK ihM ihT hT x2 (1 : Int32) F26 G (Or.inl ⟨rfl, k_27, k_28, (show (F26 43) = (F0 43) by first | rfl | (simp only [q_29, q_30, q_31, h43, h70, i_as])), (show (F26 70) = F0 70 by first | rfl | (simp only [q_29, q_30, q_31, h43, h70, i_as])), (show 0 ≤ (F26 60).toInt from (show 0 ≤ (F26 60).toInt by rw [hK26.1 60 rfl]; exact h60)), k_32, hL33⟩)
    · dsimp only
      unfold mb_named_58
      refine PP.ite (fun c_35 => ?_) (fun c_35 => ?_)
      · skip
        unfold mb_named_78
        refine PP.ite (fun c_36 => ?_) (fun c_36 => ?_)
        · skip
          unfold mb_named_103
          refine PP.ix (fun _ => ?_)
          refine PP.bind (PP.and (mp_note (6 : Int32) (G 6 x1.toNatClampNeg) (by decide) F G) (mm_note (6 : Int32) (G 6 x1.toNatClampNeg) (by decide) F G)) ?_
          rintro r37 F37 G37 ⟨⟨hK37, rfl, u37, -⟩, hM37⟩
          dsimp only
          have k_38 : KX [42, 43, 44, 45, 47, 48, 49, 55, 60, 62, 70] [56, 57, 58, 59, 67, 68, 69] F0 G0 F37 G := (KX.tr hK hK37 rfl rfl)
          have k_39 : MO F0 F37 := (MO.tr hM hM37)
          have q_40 : F37 42 = (F 42) := hK37.1 42 rfl
          have q_41 : F37 43 = (F0 43) := Eq.trans (hK37.1 43 rfl) (show (F 43) = (F0 43) by simp only [h43, h70, i_as])
          have q_42 : F37 70 = (F0 70) := Eq.trans (hK37.1 70 rfl) (show (F 70) = (F0 70) by simp only [h43, h70, i_as])
          have k_43 : PKp F0 G0 G := PKp.kx (show PKp F0 G0 G from hPK) hK37 rfl rfl
          have hL44 : LV F37 → F0 54 = 0 → (mnR F0 x2) ∧ (¬ x2 = (-1 : Int32)) ∧ (¬ G 17 x2.toNatClampNeg = (2 : Int32)) ∧ (∀ (A : AN) (s : SH) (d : Nat), A (sN F0) = (s, d, false) → bd 8 F0 s → EX X F0 G0 A F37 G s d []) := by
            intro hl h54
            have l_45 : LV F := LV.mo hK37 hM37 rfl rfl (show LV F37 from hl)
            exact absurd (u37 l_45.1) (by rw [(show LV F37 from hl).2.1 (Eq.trans (k_38.1 54 rfl) h54)]; decide)
          exact mtj_named_115 (px := px) (py := py) rc ihK ihM ihT hT x2 (0 : Int32) F37 G (Or.inr ⟨rfl, k_38, k_39, (show (F37 43) = (F0 43) by first | rfl | (simp only [q_40, q_41, q_42, h43, h70, i_as])), (show (F37 70) = F0 70 by first | rfl | (simp only [q_40, q_41, q_42, h43, h70, i_as])), (show 0 ≤ (F37 60).toInt from (show 0 ≤ (F37 60).toInt by rw [hK37.1 60 rfl]; exact h60)), k_43, hL44⟩)
        · skip
          unfold mb_named_83
          refine PP.ix (fun _ => ?_)
          refine PP.ite (fun c_46 => ?_) (fun c_46 => ?_)
          · skip
            unfold mb_named_95
            unfold mb_named_100
            refine PP.ite (fun c_47 => absurd c_47 (by decide)) (fun _ => ?_)
            unfold mb_named_103
            refine PP.ix (fun _ => ?_)
            refine PP.bind (PP.and (mp_note (6 : Int32) (G 6 x1.toNatClampNeg) (by decide) F G) (mm_note (6 : Int32) (G 6 x1.toNatClampNeg) (by decide) F G)) ?_
            rintro r48 F48 G48 ⟨⟨hK48, rfl, u48, -⟩, hM48⟩
            dsimp only
            have k_49 : KX [42, 43, 44, 45, 47, 48, 49, 55, 60, 62, 70] [56, 57, 58, 59, 67, 68, 69] F0 G0 F48 G := (KX.tr hK hK48 rfl rfl)
            have k_50 : MO F0 F48 := (MO.tr hM hM48)
            have q_51 : F48 42 = (F 42) := hK48.1 42 rfl
            have q_52 : F48 43 = (F0 43) := Eq.trans (hK48.1 43 rfl) (show (F 43) = (F0 43) by simp only [h43, h70, i_as])
            have q_53 : F48 70 = (F0 70) := Eq.trans (hK48.1 70 rfl) (show (F 70) = (F0 70) by simp only [h43, h70, i_as])
            have k_54 : PKp F0 G0 G := PKp.kx (show PKp F0 G0 G from hPK) hK48 rfl rfl
            have hL55 : LV F48 → F0 54 = 0 → (mnR F0 x2) ∧ (¬ x2 = (-1 : Int32)) ∧ (¬ G 17 x2.toNatClampNeg = (2 : Int32)) ∧ (∀ (A : AN) (s : SH) (d : Nat), A (sN F0) = (s, d, false) → bd 8 F0 s → EX X F0 G0 A F48 G s d []) := by
              intro hl h54
              have l_56 : LV F := LV.mo hK48 hM48 rfl rfl (show LV F48 from hl)
              exact absurd (u48 l_56.1) (by rw [(show LV F48 from hl).2.1 (Eq.trans (k_49.1 54 rfl) h54)]; decide)
            exact mtj_named_115 (px := px) (py := py) rc ihK ihM ihT hT x2 (0 : Int32) F48 G (Or.inr ⟨rfl, k_49, k_50, (show (F48 43) = (F0 43) by first | rfl | (simp only [q_51, q_52, q_53, h43, h70, i_as])), (show (F48 70) = F0 70 by first | rfl | (simp only [q_51, q_52, q_53, h43, h70, i_as])), (show 0 ≤ (F48 60).toInt from (show 0 ≤ (F48 60).toInt by rw [hK48.1 60 rfl]; exact h60)), k_54, hL55⟩)
          · skip
            unfold mb_named_99
            unfold mb_named_100
            refine PP.ite (fun _ => ?_) (fun c_57 => absurd (by decide) c_57)
            have hL58 : LV F → F0 54 = 0 → (mnR F0 x2) ∧ (¬ x2 = (-1 : Int32)) ∧ (¬ G 17 x2.toNatClampNeg = (2 : Int32)) ∧ (∀ (A : AN) (s : SH) (d : Nat), A (sN F0) = (s, d, false) → bd 8 F0 s → EX X F0 G0 A F G s d []) := by
              intro hl h54
              obtain ⟨x0_, hE0⟩ := hL hl h54
              have l0 : LV F := hl
              have l0f : LV F0 := LV.mo hK hM rfl rfl l0
              refine ⟨(by first | assumption | contradiction | exact trivial | exact x0_ | exact x1_ | exact (fun q => absurd q.1 (by assumption)) | exact (fun q => absurd q.2 (by assumption)) | exact (fun q => x1_ ⟨by assumption, q⟩) | decide | omega), (by first | assumption | contradiction | exact trivial | exact x0_ | exact x1_ | exact (fun q => absurd q.1 (by assumption)) | exact (fun q => absurd q.2 (by assumption)) | exact (fun q => x1_ ⟨by assumption, q⟩) | decide | omega), (by first | assumption | contradiction | exact trivial | exact x0_ | exact x1_ | exact (fun q => absurd q.1 (by assumption)) | exact (fun q => absurd q.2 (by assumption)) | exact (fun q => x1_ ⟨by assumption, q⟩) | decide | omega), ?_⟩
              intro A s d hA hb
              have hm : X.1 = false := hT.m.1 h54
              have E0 := hE0 A s d hA hb
              have lb : s.length ≤ 568 := by have := bd.len hb t43.2; omega
              exact EX.st E0 rfl (fun _ _ _ => rfl)
            exact mtj_named_115 (px := px) (py := py) rc ihK ihM ihT hT x2 (0 : Int32) F G (Or.inr ⟨rfl, hK, hM, (show (F 43) = (F0 43) by first | rfl | (simp only [h43, h70, i_as])), (show (F 70) = F0 70 by first | rfl | (simp only [h43, h70, i_as])), (show 0 ≤ (F 60).toInt from h60), hPK, hL58⟩)
      · skip
        unfold mb_named_64
        refine PP.ix (fun _ => ?_)
        refine PP.bind (PP.and (mp_note (4 : Int32) (G 6 x1.toNatClampNeg) (by decide) F G) (mm_note (4 : Int32) (G 6 x1.toNatClampNeg) (by decide) F G)) ?_
        rintro r59 F59 G59 ⟨⟨hK59, rfl, u59, -⟩, hM59⟩
        dsimp only
        have k_60 : KX [42, 43, 44, 45, 47, 48, 49, 55, 60, 62, 70] [56, 57, 58, 59, 67, 68, 69] F0 G0 F59 G := (KX.tr hK hK59 rfl rfl)
        have k_61 : MO F0 F59 := (MO.tr hM hM59)
        have q_62 : F59 42 = (F 42) := hK59.1 42 rfl
        have q_63 : F59 43 = (F0 43) := Eq.trans (hK59.1 43 rfl) (show (F 43) = (F0 43) by simp only [h43, h70, i_as])
        have q_64 : F59 70 = (F0 70) := Eq.trans (hK59.1 70 rfl) (show (F 70) = (F0 70) by simp only [h43, h70, i_as])
        have k_65 : PKp F0 G0 G := PKp.kx (show PKp F0 G0 G from hPK) hK59 rfl rfl
        unfold mb_named_75
        have hL66 : LV F59 → F0 54 = 0 → (mnR F0 x2) ∧ (¬ x2 = (-1 : Int32)) ∧ (¬ G 17 x2.toNatClampNeg = (2 : Int32)) ∧ (∀ (A : AN) (s : SH) (d : Nat), A (sN F0) = (s, d, false) → bd 8 F0 s → EX X F0 G0 A F59 G s d []) := by
          intro hl h54
          have l_67 : LV F := LV.mo hK59 hM59 rfl rfl (show LV F59 from hl)
          exact absurd (u59 l_67.1) (by rw [(show LV F59 from hl).2.1 (Eq.trans (k_60.1 54 rfl) h54)]; decide)
        exact mtj_named_115 (px := px) (py := py) rc ihK ihM ihT hT x2 (0 : Int32) F59 G (Or.inr ⟨rfl, k_60, k_61, (show (F59 43) = (F0 43) by first | rfl | (simp only [q_62, q_63, q_64, h43, h70, i_as])), (show (F59 70) = F0 70 by first | rfl | (simp only [q_62, q_63, q_64, h43, h70, i_as])), (show 0 ≤ (F59 60).toInt from (show 0 ≤ (F59 60).toInt by rw [hK59.1 60 rfl]; exact h60)), k_65, hL66⟩)
theorem mtj_named_32 {fu : Nat} {X : TX} {L : List Nat} {px py : Int32} (rc : RC) (ihK : mKI1 rc) (ihM : mMOI rc) (ihT : mTI X L rc) {F0 : PF} {G0 : PG} (hT : TP X L F0 G0) (x1 : Int32) (z0 : Int32) (F : PF) (G : PG) (hA : (KX [42, 43, 44, 45, 47, 48, 49, 55, 60, 62, 70] [56, 57, 58, 59, 67, 68, 69] F0 G0 F G ∧ MO F0 F ∧ F 43 = (F0 43) ∧ F 70 = F0 70 ∧ 0 ≤ (F 60).toInt ∧ PKp F0 G0 G ∧ (LV F → F0 54 = 0 → (mnR F0 z0) ∧ (∀ (A : AN) (s : SH) (d : Nat), A (sN F0) = (s, d, false) → bd 8 F0 s → EX X F0 G0 A F G s d [])))) : PP (mb_named_32 fu rc x1 z0 F G) (fun r' F' G' => TQ X 6 px py F0 G0 r' F' G') := by
  have t14 := hT.2.2.2.1
  have t24 := hT.2.2.2.2.1
  have t43 : 0 ≤ (F0 43).toInt ∧ (F0 43).toInt ≤ 40 := ⟨hT.2.2.2.2.2.1, hT.2.2.2.2.2.2.1⟩
  have t70 := hT.2.2.2.2.2.2.2.1
  rcases hA with ⟨hK, hM, h43, h70, h60, hPK, hL⟩
  · skip
    unfold mb_named_32
    refine PP.ite (fun c_1 => ?_) (fun c_1 => ?_)
    · skip
      unfold mb_named_38
      refine PP.ite (fun c_2 => ?_) (fun c_2 => ?_)
      · skip
        unfold mb_named_46
        have hL3 : LV F → F0 54 = 0 → (mnR F0 z0) ∧ (∀ (A : AN) (s : SH) (d : Nat), A (sN F0) = (s, d, false) → bd 8 F0 s → EX X F0 G0 A F G s d []) := by
          intro hl h54
          obtain ⟨x0_, hE0⟩ := hL hl h54
          have l0 : LV F := hl
          have l0f : LV F0 := LV.mo hK hM rfl rfl l0
          refine ⟨(by first | assumption | contradiction | exact trivial | exact x0_ | exact x1_ | exact (fun q => absurd q.1 (by assumption)) | exact (fun q => absurd q.2 (by assumption)) | exact (fun q => x1_ ⟨by assumption, q⟩) | decide | omega), ?_⟩
          intro A s d hA hb
          have hm : X.1 = false := hT.m.1 h54
          have E0 := hE0 A s d hA hb
          have lb : s.length ≤ 568 := by have := bd.len hb t43.2; omega
          exact EX.st E0 rfl (fun _ _ _ => rfl)
        exact mtj_named_51 (px := px) (py := py) rc ihK ihM ihT hT x1 z0 (1 : Int32) F G ⟨hK, hM, (show (F 43) = (F0 43) by first | rfl | (simp only [h43, h70, i_as])), (show (F 70) = F0 70 by first | rfl | (simp only [h43, h70, i_as])), (show 0 ≤ (F 60).toInt from h60), hPK, hL3⟩
      · skip
        unfold mb_named_50
        have hL4 : LV F → F0 54 = 0 → (mnR F0 z0) ∧ (∀ (A : AN) (s : SH) (d : Nat), A (sN F0) = (s, d, false) → bd 8 F0 s → EX X F0 G0 A F G s d []) := by
          intro hl h54
          obtain ⟨x0_, hE0⟩ := hL hl h54
          have l0 : LV F := hl
          have l0f : LV F0 := LV.mo hK hM rfl rfl l0
          refine ⟨(by first | assumption | contradiction | exact trivial | exact x0_ | exact x1_ | exact (fun q => absurd q.1 (by assumption)) | exact (fun q => absurd q.2 (by assumption)) | exact (fun q => x1_ ⟨by assumption, q⟩) | decide | omega), ?_⟩
          intro A s d hA hb
          have hm : X.1 = false := hT.m.1 h54
          have E0 := hE0 A s d hA hb
          have lb : s.length ≤ 568 := by have := bd.len hb t43.2; omega
          exact EX.st E0 rfl (fun _ _ _ => rfl)
        exact mtj_named_51 (px := px) (py := py) rc ihK ihM ihT hT x1 z0 (0 : Int32) F G ⟨hK, hM, (show (F 43) = (F0 43) by first | rfl | (simp only [h43, h70, i_as])), (show (F 70) = F0 70 by first | rfl | (simp only [h43, h70, i_as])), (show 0 ≤ (F 60).toInt from h60), hPK, hL4⟩
    · skip
      unfold mb_named_50
      have hL5 : LV F → F0 54 = 0 → (mnR F0 z0) ∧ (∀ (A : AN) (s : SH) (d : Nat), A (sN F0) = (s, d, false) → bd 8 F0 s → EX X F0 G0 A F G s d []) := by
        intro hl h54
        obtain ⟨x0_, hE0⟩ := hL hl h54
        have l0 : LV F := hl
        have l0f : LV F0 := LV.mo hK hM rfl rfl l0
        refine ⟨(by first | assumption | contradiction | exact trivial | exact x0_ | exact x1_ | exact (fun q => absurd q.1 (by assumption)) | exact (fun q => absurd q.2 (by assumption)) | exact (fun q => x1_ ⟨by assumption, q⟩) | decide | omega), ?_⟩
        intro A s d hA hb
        have hm : X.1 = false := hT.m.1 h54
        have E0 := hE0 A s d hA hb
        have lb : s.length ≤ 568 := by have := bd.len hb t43.2; omega
        exact EX.st E0 rfl (fun _ _ _ => rfl)
      exact mtj_named_51 (px := px) (py := py) rc ihK ihM ihT hT x1 z0 (0 : Int32) F G ⟨hK, hM, (show (F 43) = (F0 43) by first | rfl | (simp only [h43, h70, i_as])), (show (F 70) = F0 70 by first | rfl | (simp only [h43, h70, i_as])), (show 0 ≤ (F 60).toInt from h60), hPK, hL5⟩
theorem mtt_named {fu : Nat} {X : TX} {L : List Nat} (rc : RC) (ihK : mKI1 rc) (ihM : mMOI rc) (ihT : mTI X L rc) (x1 : Int32) (F : PF) (G : PG) (hT : TP X L F G) : PP (mh_named fu rc x1 F G) (fun r' F' G' => TQ X 6 x1 0 F G r' F' G') := by
  unfold mh_named
  have t14 := hT.2.2.2.1
  have t24 := hT.2.2.2.2.1
  have t43 : 0 ≤ (F 43).toInt ∧ (F 43).toInt ≤ 40 := ⟨hT.2.2.2.2.2.1, hT.2.2.2.2.2.2.1⟩
  have t70 := hT.2.2.2.2.2.2.2.1
  unfold mb_named_0
  refine PP.bind (mp_isSign (22 : Int32) F G) ?_
  rintro _ _ _ ⟨rfl, rfl, (⟨rfl, u1⟩ | ⟨rfl, u1⟩)⟩
  · dsimp only
    unfold mb_named_6
    refine PP.ite (fun c_2 => absurd c_2 (by decide)) (fun _ => ?_)
    unfold mb_named_9
    refine PP.bind (PP.and (ihK 1 x1 (1 : Int32) F G) (PP.and (ihM 1 x1 (1 : Int32) F G) (ihT 1 x1 (1 : Int32) F G (TP.kx hT (KX.rf : KX [42, 43, 44, 45, 47, 48, 49, 55, 60, 62, 70] [56, 57, 58, 59, 67, 68, 69] F G F G) (fun q => ((MO.rf : MO F F)).1 q) rfl (show 0 ≤ (F 43).toInt ∧ (F 43).toInt ≤ 40 by first | exact t43 | (simp only [i_as]; exact t43)) (show 0 ≤ (F 70).toInt by first | exact t70 | (simp only [i_as]; exact t70)) (show 0 ≤ (F 60).toInt from hT.2.2.2.2.2.2.2.2))))) ?_
    rintro r3 F3 G3 ⟨hK3, hM3, (rfl | rfl), u3⟩
    · dsimp only
      unfold mb_named_15
      refine PP.ret ?_
      exact ⟨Or.inl rfl, fun h => absurd h (by decide)⟩
    · dsimp only
      obtain ⟨u3a, u3b, u3c, u3d, u3e⟩ := u3 rfl
      have k_4 : KX [42, 43, 44, 45, 47, 48, 49, 55, 60, 62, 70] [56, 57, 58, 59, 67, 68, 69] F G F3 G3 := (KX.tr (KX.rf : KX [42, 43, 44, 45, 47, 48, 49, 55, 60, 62, 70] [56, 57, 58, 59, 67, 68, 69] F G F G) hK3 rfl rfl)
      have k_5 : MO F F3 := (MO.tr (MO.rf : MO F F) hM3)
      have q_6 : F3 43 = (F 43) := u3a
      have q_7 : F3 70 = (F 70) := u3b
      have q_8 : F 70 = F 70 := (show (F 70) = F 70 by first | rfl | (simp only [i_as]))
      have k_9 : PKp F G G3 := PKp.tr (show PKp F G G from (fun _ _ => ⟨rfl, rfl⟩ : PKp F G G)) u3d q_8
      unfold mb_named_15
      refine PP.ret ?_
      refine ⟨Or.inr rfl, fun _ => ⟨(show (F3 43) = F 43 by first | rfl | (simp only [q_6, q_7, i_as])), (show (F3 70) = F 70 by first | rfl | (simp only [q_6, q_7, i_as])), (show 0 ≤ (F3 60).toInt from u3c), k_9, fun hl => ?_⟩⟩
      show F 54 = 0 → TE X F G F3 G3 8 (fun s => 0 :: s)
      intro h54
      have l_10 : LV F := LV.mo hK3 hM3 rfl rfl (show LV F3 from hl)
      have l0 : LV F := l_10
      intro A s d hA hb
      have hm : X.1 = false := hT.m.1 h54
      have E0 : EX X F G A F G s d [] := EX.rf hA
      have lb : s.length ≤ 568 := by have := bd.len hb t43.2; omega
      have E11 : EX X F G A F3 G3 (0 :: s) d [] := EX.tr E0 (fun A1 hA1 => ((show F 54 = 0 → TE X F G F3 G3 8 (fun s => 0 :: s) from u3e (show LV F3 from hl)) (Eq.trans (show F 54 = F 54 from (show KX [42, 43, 44, 45, 47, 48, 49, 55, 60, 62, 70] [56, 57, 58, 59, 67, 68, 69] F G F G from (KX.rf : KX [42, 43, 44, 45, 47, 48, 49, 55, 60, 62, 70] [56, 57, 58, 59, 67, 68, 69] F G F G)).1 54 rfl) h54)) A1 _ _ hA1 (bd.mv (e := 0) (c := 0) hb (show F 54 = F 54 from (show KX [42, 43, 44, 45, 47, 48, 49, 55, 60, 62, 70] [56, 57, 58, 59, 67, 68, 69] F G F G from (KX.rf : KX [42, 43, 44, 45, 47, 48, 49, 55, 60, 62, 70] [56, 57, 58, 59, 67, 68, 69] F G F G)).1 54 rfl) (show (F 43).toInt = (F 43).toInt + 0 by rw [show F 43 = F 43 from by first | rfl | (simp only [q_6, q_7, i_as, fup, Nat.reduceEqDiff, reduceIte, if_false])]; omega) (by (try simp only [List.length_cons]); omega) (by omega)))
      exact EX.st E11 rfl (fun _ _ _ => rfl)
  · dsimp only
    unfold mb_named_6
    refine PP.ite (fun _ => ?_) (fun c_12 => absurd (by decide) c_12)
    unfold mb_named_16
    refine PP.ite (fun c_13 => ?_) (fun c_13 => ?_)
    · skip
      unfold mb_named_23
      have hL14 : LV F → F 54 = 0 → (mnR F (-1 : Int32)) ∧ (∀ (A : AN) (s : SH) (d : Nat), A (sN F) = (s, d, false) → bd 8 F s → EX X F G A F G s d []) := by
        intro hl h54
        exact absurd (show F 46 = 0 from c_13) hl.1
      exact mtj_named_32 (px := x1) (py := 0) rc ihK ihM ihT hT x1 (-1 : Int32) F G ⟨(KX.rf : KX [42, 43, 44, 45, 47, 48, 49, 55, 60, 62, 70] [56, 57, 58, 59, 67, 68, 69] F G F G), (MO.rf : MO F F), (show (F 43) = (F 43) by first | rfl | (simp only [i_as])), (show (F 70) = F 70 by first | rfl | (simp only [i_as])), (show 0 ≤ (F 60).toInt from hT.2.2.2.2.2.2.2.2), (fun _ _ => ⟨rfl, rfl⟩ : PKp F G G), hL14⟩
    · skip
      unfold mb_named_27
      refine PP.bind (mp_meaning x1 F G (show 0 ≤ (F 14).toInt by rw [(show KX [42, 43, 44, 45, 47, 48, 49, 55, 60, 62, 70] [56, 57, 58, 59, 67, 68, 69] F G F G from (KX.rf : KX [42, 43, 44, 45, 47, 48, 49, 55, 60, 62, 70] [56, 57, 58, 59, 67, 68, 69] F G F G)).1 14 rfl]; exact t14) (show 0 ≤ (F 24).toInt by rw [(show KX [42, 43, 44, 45, 47, 48, 49, 55, 60, 62, 70] [56, 57, 58, 59, 67, 68, 69] F G F G from (KX.rf : KX [42, 43, 44, 45, 47, 48, 49, 55, 60, 62, 70] [56, 57, 58, 59, 67, 68, 69] F G F G)).1 24 rfl]; exact t24)) ?_
      rintro r15 F15 G15 ⟨rfl, hK15, u15, u15b⟩
      dsimp only
      have mr15 : mnR F r15 := mnR.e u15 ((show KX [42, 43, 44, 45, 47, 48, 49, 55, 60, 62, 70] [56, 57, 58, 59, 67, 68, 69] F G F G from (KX.rf : KX [42, 43, 44, 45, 47, 48, 49, 55, 60, 62, 70] [56, 57, 58, 59, 67, 68, 69] F G F G)).1 14 rfl)
      have mf15 : mnF F F15 := mnF.e u15b ((show KX [42, 43, 44, 45, 47, 48, 49, 55, 60, 62, 70] [56, 57, 58, 59, 67, 68, 69] F G F G from (KX.rf : KX [42, 43, 44, 45, 47, 48, 49, 55, 60, 62, 70] [56, 57, 58, 59, 67, 68, 69] F G F G)).1 24 rfl)
      have k_16 : KX [42, 43, 44, 45, 47, 48, 49, 55, 60, 62, 70] [56, 57, 58, 59, 67, 68, 69] F G F15 G := (KX.tr (KX.rf : KX [42, 43, 44, 45, 47, 48, 49, 55, 60, 62, 70] [56, 57, 58, 59, 67, 68, 69] F G F G) hK15 rfl rfl)
      have k_17 : MO F F15 := (MO.tr (MO.rf : MO F F) (MO.kx hK15 rfl rfl))
      have q_18 : F15 42 = (F 42) := hK15.1 42 rfl
      have q_19 : F15 43 = (F 43) := hK15.1 43 rfl
      have q_20 : F15 70 = (F 70) := hK15.1 70 rfl
      have k_21 : PKp F G G := PKp.kx (show PKp F G G from (fun _ _ => ⟨rfl, rfl⟩ : PKp F G G)) hK15 rfl rfl
      have hL22 : LV F15 → F 54 = 0 → (mnR F r15) ∧ (∀ (A : AN) (s : SH) (d : Nat), A (sN F) = (s, d, false) → bd 8 F s → EX X F G A F15 G s d []) := by
        intro hl h54
        have l_23 : LV F := LV.mo hK15 (MO.kx hK15 rfl rfl) rfl rfl (show LV F15 from hl)
        have l0 : LV F := l_23
        refine ⟨(by first | assumption | contradiction | exact trivial | exact x0_ | exact x1_ | exact (fun q => absurd q.1 (by assumption)) | exact (fun q => absurd q.2 (by assumption)) | exact (fun q => x1_ ⟨by assumption, q⟩) | decide | omega), ?_⟩
        intro A s d hA hb
        have hm : X.1 = false := hT.m.1 h54
        have E0 : EX X F G A F G s d [] := EX.rf hA
        have lb : s.length ≤ 568 := by have := bd.len hb t43.2; omega
        have E24 : EX X F G A F15 G s d [] := EX.st E0 (hK15.1 60 rfl) (fun _ _ _ => rfl)
        exact EX.st E24 rfl (fun _ _ _ => rfl)
      exact mtj_named_32 (px := x1) (py := 0) rc ihK ihM ihT hT x1 r15 F15 G ⟨k_16, k_17, (show (F15 43) = (F 43) by first | rfl | (simp only [q_18, q_19, q_20, i_as])), (show (F15 70) = F 70 by first | rfl | (simp only [q_18, q_19, q_20, i_as])), (show 0 ≤ (F15 60).toInt from (show 0 ≤ (F15 60).toInt by rw [hK15.1 60 rfl]; exact hT.2.2.2.2.2.2.2.2)), k_21, hL22⟩
theorem mtj_inConstant_248 {fu : Nat} {X : TX} {L : List Nat} {px py : Int32} (rc : RC) (ihK : mKI1 rc) (ihM : mMOI rc) (ihT : mTI X L rc) {F0 : PF} {G0 : PG} (hT : TP X L F0 G0) (F : PF) (G : PG) (hA : (KX [42, 43, 44, 45, 47, 48, 49, 55, 60, 62, 70] [56, 57, 58, 59, 67, 68, 69] F0 G0 F G ∧ MO F0 F ∧ F 43 = (F0 43) ∧ F 70 = F0 70 ∧ 0 ≤ (F 60).toInt ∧ PKp F0 G0 G ∧ (LV F → ¬ F0 54 = 0 → ∀ (A : AN) (s : SH) (d : Nat), A (sN F0) = (s, d, false) → bd 8 F0 s → EX X F0 G0 A F G (0 :: s) d []))) : PP (mb_inConstant_248 fu rc F G) (fun r' F' G' => TQ X 5 px py F0 G0 r' F' G') := by
  have t14 := hT.2.2.2.1
  have t24 := hT.2.2.2.2.1
  have t43 : 0 ≤ (F0 43).toInt ∧ (F0 43).toInt ≤ 40 := ⟨hT.2.2.2.2.2.1, hT.2.2.2.2.2.2.1⟩
  have t70 := hT.2.2.2.2.2.2.2.1
  rcases hA with ⟨hK, hM, h43, h70, h60, hPK, hL⟩
  · skip
    unfold mb_inConstant_248
    refine PP.ret ?_
    refine ⟨Or.inr rfl, fun _ => ⟨(show (F 43) = F0 43 by first | rfl | (simp only [h43, h70, i_as])), (show (F 70) = F0 70 by first | rfl | (simp only [h43, h70, i_as])), (show 0 ≤ (F 60).toInt from h60), hPK, fun hl => ?_⟩⟩
    show ¬ F0 54 = 0 → TE X F0 G0 F G 8 (fun s => 0 :: s)
    intro h54
    have hE0 := hL hl h54
    have l0 : LV F := hl
    have l0f : LV F0 := LV.mo hK hM rfl rfl l0
    intro A s d hA hb
    have E0 := hE0 A s d hA hb
    have lb : s.length ≤ 568 := by have := bd.len hb t43.2; omega
    exact EX.st E0 rfl (fun _ _ _ => rfl)
theorem mtj_inConstant_221 {fu : Nat} {X : TX} {L : List Nat} {px py : Int32} (rc : RC) (ihK : mKI1 rc) (ihM : mMOI rc) (ihT : mTI X L rc) {F0 : PF} {G0 : PG} (hT : TP X L F0 G0) (x2 : Int32) (x4 : Int32) (x5 : Int32) (F : PF) (G : PG) (hA : (x4 = 0 ∧ KX [42, 43, 44, 45, 47, 48, 49, 55, 60, 62, 70] [56, 57, 58, 59, 67, 68, 69] F0 G0 F G ∧ MO F0 F ∧ F 43 = (F0 43) ∧ F 70 = F0 70 ∧ 0 ≤ (F 60).toInt ∧ PKp F0 G0 G ∧ (LV F → ¬ F0 54 = 0 → ∀ (A : AN) (s : SH) (d : Nat), A (sN F0) = (s, d, false) → bd 8 F0 s → EX X F0 G0 A F G s d [])) ∨ (x4 = 1 ∧ KX [42, 43, 44, 45, 47, 48, 49, 55, 60, 62, 70] [56, 57, 58, 59, 67, 68, 69] F0 G0 F G ∧ MO F0 F ∧ F 43 = (F0 43) ∧ F 70 = F0 70 ∧ 0 ≤ (F 60).toInt ∧ PKp F0 G0 G ∧ (LV F → ¬ F0 54 = 0 → (False) ∧ (∀ (A : AN) (s : SH) (d : Nat), A (sN F0) = (s, d, false) → bd 8 F0 s → EX X F0 G0 A F G s d [])))) : PP (mb_inConstant_221 fu rc x2 x4 x5 F G) (fun r' F' G' => TQ X 5 px py F0 G0 r' F' G') := by
  have t14 := hT.2.2.2.1
  have t24 := hT.2.2.2.2.1
  have t43 : 0 ≤ (F0 43).toInt ∧ (F0 43).toInt ≤ 40 := ⟨hT.2.2.2.2.2.1, hT.2.2.2.2.2.2.1⟩
  have t70 := hT.2.2.2.2.2.2.2.1
  rcases hA with ⟨rfl, hK, hM, h43, h70, h60, hPK, hL⟩ | ⟨rfl, hK, hM, h43, h70, h60, hPK, hL⟩
  · skip
    unfold mb_inConstant_221
    refine PP.ite (fun _ => ?_) (fun c_1 => absurd (by decide) c_1)
    unfold mb_inConstant_226
    refine PP.ite (fun c_2 => ?_) (fun c_2 => ?_)
    · skip
      unfold mb_inConstant_242
      unfold mb_inConstant_243
      refine PP.bind (mq_step (0 : Int32) (0 : Int32) (0 : Int32) F G) ?_
      rintro _ F3 G3 ⟨hK3, rfl, e3, g3, n3⟩
      dsimp only
      have k_4 : KX [42, 43, 44, 45, 47, 48, 49, 55, 60, 62, 70] [56, 57, 58, 59, 67, 68, 69] F0 G0 F3 G3 := (KX.tr hK hK3 rfl rfl)
      have k_5 : MO F0 F3 := (MO.tr hM (MO.kx hK3 rfl rfl))
      have q_6 : F3 42 = (F 42) := hK3.1 42 rfl
      have q_7 : F3 43 = (F0 43) := Eq.trans (hK3.1 43 rfl) (show (F 43) = (F0 43) by simp only [h43, h70, i_as])
      have q_8 : F3 70 = (F0 70) := Eq.trans (hK3.1 70 rfl) (show (F 70) = (F0 70) by simp only [h43, h70, i_as])
      have k_9 : PKp F0 G0 G3 := PKp.kx (show PKp F0 G0 G from hPK) hK3 rfl rfl
      unfold mb_inConstant_247
      have hL10 : LV F3 → ¬ F0 54 = 0 → ∀ (A : AN) (s : SH) (d : Nat), A (sN F0) = (s, d, false) → bd 8 F0 s → EX X F0 G0 A F3 G3 (0 :: s) d [] := by
        intro hl h54
        have l_11 : LV F := LV.mo hK3 (MO.kx hK3 rfl rfl) rfl rfl (show LV F3 from hl)
        have hE0 := hL l_11 h54
        have l0 : LV F := l_11
        have l0f : LV F0 := LV.mo hK hM rfl rfl l0
        intro A s d hA hb
        have E0 := hE0 A s d hA hb
        have lb : s.length ≤ 568 := by have := bd.len hb t43.2; omega
        have E12 : EX X F0 G0 A F3 G3 (0 :: s) d [] := EX.stp E0 n3 e3 g3 (by have := lb; (try simp only [List.length_cons]); omega) (fun _ => Or.inl ⟨rfl, rfl⟩)
        exact EX.st E12 rfl (fun _ _ _ => rfl)
      exact mtj_inConstant_248 (px := px) (py := py) rc ihK ihM ihT hT F3 G3 ⟨k_4, k_5, (show (F3 43) = (F0 43) by first | rfl | (simp only [q_6, q_7, q_8, h43, h70, i_as])), (show (F3 70) = F0 70 by first | rfl | (simp only [q_6, q_7, q_8, h43, h70, i_as])), (show 0 ≤ (F3 60).toInt from (inc60 n3 e3)), k_9, hL10⟩
    · skip
      unfold mb_inConstant_233
      refine PP.ix (fun _ => ?_)
      unfold mb_inConstant_243
      refine PP.bind (mq_step (0 : Int32) (G 20 x2.toNatClampNeg) (0 : Int32) F G) ?_
      rintro _ F13 G13 ⟨hK13, rfl, e13, g13, n13⟩
      dsimp only
      have k_14 : KX [42, 43, 44, 45, 47, 48, 49, 55, 60, 62, 70] [56, 57, 58, 59, 67, 68, 69] F0 G0 F13 G13 := (KX.tr hK hK13 rfl rfl)
      have k_15 : MO F0 F13 := (MO.tr hM (MO.kx hK13 rfl rfl))
      have q_16 : F13 42 = (F 42) := hK13.1 42 rfl
      have q_17 : F13 43 = (F0 43) := Eq.trans (hK13.1 43 rfl) (show (F 43) = (F0 43) by simp only [h43, h70, i_as])
      have q_18 : F13 70 = (F0 70) := Eq.trans (hK13.1 70 rfl) (show (F 70) = (F0 70) by simp only [h43, h70, i_as])
      have k_19 : PKp F0 G0 G13 := PKp.kx (show PKp F0 G0 G from hPK) hK13 rfl rfl
      unfold mb_inConstant_247
      have hL20 : LV F13 → ¬ F0 54 = 0 → ∀ (A : AN) (s : SH) (d : Nat), A (sN F0) = (s, d, false) → bd 8 F0 s → EX X F0 G0 A F13 G13 (0 :: s) d [] := by
        intro hl h54
        have l_21 : LV F := LV.mo hK13 (MO.kx hK13 rfl rfl) rfl rfl (show LV F13 from hl)
        have hE0 := hL l_21 h54
        have l0 : LV F := l_21
        have l0f : LV F0 := LV.mo hK hM rfl rfl l0
        intro A s d hA hb
        have E0 := hE0 A s d hA hb
        have lb : s.length ≤ 568 := by have := bd.len hb t43.2; omega
        have E22 : EX X F0 G0 A F13 G13 (0 :: s) d [] := EX.stp E0 n13 e13 g13 (by have := lb; (try simp only [List.length_cons]); omega) (fun _ => Or.inl ⟨rfl, rfl⟩)
        exact EX.st E22 rfl (fun _ _ _ => rfl)
      exact mtj_inConstant_248 (px := px) (py := py) rc ihK ihM ihT hT F13 G13 ⟨k_14, k_15, (show (F13 43) = (F0 43) by first | rfl | (simp only [q_16, q_17, q_18, h43, h70, i_as])), (show (F13 70) = F0 70 by first | rfl | (simp only [q_16, q_17, q_18, h43, h70, i_as])), (show 0 ≤ (F13 60).toInt from (inc60 n13 e13)), k_19, hL20⟩
  · skip
    unfold mb_inConstant_221
    refine PP.ite (fun c_23 => absurd c_23 (by decide)) (fun _ => ?_)
    have hL24 : LV F → ¬ F0 54 = 0 → ∀ (A : AN) (s : SH) (d : Nat), A (sN F0) = (s, d, false) → bd 8 F0 s → EX X F0 G0 A F G (0 :: s) d [] := by
      intro hl h54
      obtain ⟨x0_, hE0⟩ := hL hl h54
      exact x0_.elim
    exact mtj_inConstant_248 (px := px) (py := py) rc ihK ihM ihT hT F G ⟨hK, hM, (show (F 43) = (F0 43) by first | rfl | (simp only [h43, h70, i_as])), (show (F 70) = F0 70 by first | rfl | (simp only [h43, h70, i_as])), (show 0 ≤ (F 60).toInt from h60), hPK, hL24⟩
theorem mtj_inConstant_182 {fu : Nat} {X : TX} {L : List Nat} {px py : Int32} (rc : RC) (ihK : mKI1 rc) (ihM : mMOI rc) (ihT : mTI X L rc) {F0 : PF} {G0 : PG} (hT : TP X L F0 G0) (x2 : Int32) (x4 : Int32) (x5 : Int32) (F : PF) (G : PG) (hA : (x4 = 0 ∧ KX [42, 43, 44, 45, 47, 48, 49, 55, 60, 62, 70] [56, 57, 58, 59, 67, 68, 69] F0 G0 F G ∧ MO F0 F ∧ F 43 = (F0 43) ∧ F 70 = F0 70 ∧ 0 ≤ (F 60).toInt ∧ PKp F0 G0 G ∧ sgn (G 4) (G 5) (F 42) (24 : Int32) = false ∧ (LV F → ¬ F0 54 = 0 → ∀ (A : AN) (s : SH) (d : Nat), A (sN F0) = (s, d, false) → bd 8 F0 s → EX X F0 G0 A F G s d [])) ∨ (x4 = 1 ∧ KX [42, 43, 44, 45, 47, 48, 49, 55, 60, 62, 70] [56, 57, 58, 59, 67, 68, 69] F0 G0 F G ∧ MO F0 F ∧ F 43 = (F0 43) ∧ F 70 = F0 70 ∧ 0 ≤ (F 60).toInt ∧ PKp F0 G0 G ∧ (LV F → ¬ F0 54 = 0 → (False) ∧ (∀ (A : AN) (s : SH) (d : Nat), A (sN F0) = (s, d, false) → bd 8 F0 s → EX X F0 G0 A F G s d [])))) : PP (mb_inConstant_182 fu rc x2 x4 x5 F G) (fun r' F' G' => TQ X 5 px py F0 G0 r' F' G') := by
  have t14 := hT.2.2.2.1
  have t24 := hT.2.2.2.2.1
  have t43 : 0 ≤ (F0 43).toInt ∧ (F0 43).toInt ≤ 40 := ⟨hT.2.2.2.2.2.1, hT.2.2.2.2.2.2.1⟩
  have t70 := hT.2.2.2.2.2.2.2.1
  rcases hA with ⟨rfl, hK, hM, h43, h70, h60, hPK, p0_, hL⟩ | ⟨rfl, hK, hM, h43, h70, h60, hPK, hL⟩
  · skip
    unfold mb_inConstant_182
    refine PP.bind (mp_isSign (24 : Int32) F G) ?_
    rintro _ _ _ ⟨rfl, rfl, (⟨rfl, u1⟩ | ⟨rfl, u1⟩)⟩
    · dsimp only
      exact absurd (Eq.trans (Eq.symm p0_) u1) (by decide)
    · dsimp only
      unfold mb_inConstant_188
      refine PP.ite (fun _ => ?_) (fun c_2 => absurd (by decide) c_2)
      have hL3 : LV F → ¬ F0 54 = 0 → ∀ (A : AN) (s : SH) (d : Nat), A (sN F0) = (s, d, false) → bd 8 F0 s → EX X F0 G0 A F G s d [] := by
        intro hl h54
        have hE0 := hL hl h54
        have l0 : LV F := hl
        have l0f : LV F0 := LV.mo hK hM rfl rfl l0
        intro A s d hA hb
        have E0 := hE0 A s d hA hb
        have lb : s.length ≤ 568 := by have := bd.len hb t43.2; omega
        exact EX.st E0 rfl (fun _ _ _ => rfl)
      exact mtj_inConstant_221 (px := px) (py := py) rc ihK ihM ihT hT x2 (0 : Int32) x5 F G (Or.inl ⟨rfl, hK, hM, (show (F 43) = (F0 43) by first | rfl | (simp only [h43, h70, i_as])), (show (F 70) = F0 70 by first | rfl | (simp only [h43, h70, i_as])), (show 0 ≤ (F 60).toInt from h60), hPK, hL3⟩)
  · skip
    unfold mb_inConstant_182
    refine PP.bind (mp_isSign (24 : Int32) F G) ?_
    rintro _ _ _ ⟨rfl, rfl, (⟨rfl, u4⟩ | ⟨rfl, u4⟩)⟩
    · dsimp only
      unfold mb_inConstant_188
      refine PP.ite (fun c_5 => absurd c_5 (by decide)) (fun _ => ?_)
      unfold mb_inConstant_191
      refine PP.ite (fun c_6 => absurd c_6 (by decide)) (fun _ => ?_)
      unfold mb_inConstant_196
      refine PP.ix (fun _ => ?_)
      refine PP.ite (fun c_7 => ?_) (fun c_7 => ?_)
      · skip
        unfold mb_inConstant_211
        refine PP.bind (PP.and (ihK 3 (-1 : Int32) 0 F G) (PP.and (ihM 3 (-1 : Int32) 0 F G) (ihT 3 (-1 : Int32) 0 F G (TP.kx hT hK (fun q => (hM).1 q) rfl (show 0 ≤ (F 43).toInt ∧ (F 43).toInt ≤ 40 by first | exact t43 | (simp only [h43, h70, i_as]; exact t43)) (show 0 ≤ (F 70).toInt by first | exact t70 | (simp only [h43, h70, i_as]; exact t70)) (show 0 ≤ (F 60).toInt from h60))))) ?_
        rintro r8 F8 G8 ⟨hK8, hM8, (rfl | rfl), u8⟩
        · dsimp only
          unfold mb_inConstant_216
          refine PP.ite (fun _ => ?_) (fun c_9 => absurd (by decide) c_9)
          unfold mb_inConstant_219
          refine PP.ret ?_
          exact ⟨Or.inl rfl, fun h => absurd h (by decide)⟩
        · dsimp only
          obtain ⟨u8a, u8b, u8c, u8d, u8e⟩ := u8 rfl
          have k_10 : KX [42, 43, 44, 45, 47, 48, 49, 55, 60, 62, 70] [56, 57, 58, 59, 67, 68, 69] F0 G0 F8 G8 := (KX.tr hK hK8 rfl rfl)
          have k_11 : MO F0 F8 := (MO.tr hM hM8)
          have q_12 : F8 43 = (F0 43) := Eq.trans u8a (show (F 43) = (F0 43) by simp only [h43, h70, i_as])
          have q_13 : F8 70 = (F0 70) := Eq.trans u8b (show (F 70) = (F0 70) by simp only [h43, h70, i_as])
          have q_14 : F 70 = F0 70 := (show (F 70) = F0 70 by first | rfl | (simp only [h43, h70, i_as]))
          have k_15 : PKp F0 G0 G8 := PKp.tr (show PKp F0 G0 G from hPK) u8d q_14
          unfold mb_inConstant_216
          refine PP.ite (fun c_16 => absurd c_16 (by decide)) (fun _ => ?_)
          have hL17 : LV F8 → ¬ F0 54 = 0 → (False) ∧ (∀ (A : AN) (s : SH) (d : Nat), A (sN F0) = (s, d, false) → bd 8 F0 s → EX X F0 G0 A F8 G8 s d []) := by
            intro hl h54
            have l_18 : LV F := LV.mo hK8 hM8 rfl rfl (show LV F8 from hl)
            obtain ⟨x0_, hE0⟩ := hL l_18 h54
            exact x0_.elim
          exact mtj_inConstant_221 (px := px) (py := py) rc ihK ihM ihT hT x2 (1 : Int32) x5 F8 G8 (Or.inr ⟨rfl, k_10, k_11, (show (F8 43) = (F0 43) by first | rfl | (simp only [q_12, q_13, h43, h70, i_as])), (show (F8 70) = F0 70 by first | rfl | (simp only [q_12, q_13, h43, h70, i_as])), (show 0 ≤ (F8 60).toInt from u8c), k_15, hL17⟩)
      · skip
        have hL19 : LV F → ¬ F0 54 = 0 → (False) ∧ (∀ (A : AN) (s : SH) (d : Nat), A (sN F0) = (s, d, false) → bd 8 F0 s → EX X F0 G0 A F G s d []) := by
          intro hl h54
          obtain ⟨x0_, hE0⟩ := hL hl h54
          exact x0_.elim
        exact mtj_inConstant_221 (px := px) (py := py) rc ihK ihM ihT hT x2 (1 : Int32) x5 F G (Or.inr ⟨rfl, hK, hM, (show (F 43) = (F0 43) by first | rfl | (simp only [h43, h70, i_as])), (show (F 70) = F0 70 by first | rfl | (simp only [h43, h70, i_as])), (show 0 ≤ (F 60).toInt from h60), hPK, hL19⟩)
    · dsimp only
      unfold mb_inConstant_188
      refine PP.ite (fun _ => ?_) (fun c_20 => absurd (by decide) c_20)
      have hL21 : LV F → ¬ F0 54 = 0 → (False) ∧ (∀ (A : AN) (s : SH) (d : Nat), A (sN F0) = (s, d, false) → bd 8 F0 s → EX X F0 G0 A F G s d []) := by
        intro hl h54
        obtain ⟨x0_, hE0⟩ := hL hl h54
        exact x0_.elim
      exact mtj_inConstant_221 (px := px) (py := py) rc ihK ihM ihT hT x2 (1 : Int32) x5 F G (Or.inr ⟨rfl, hK, hM, (show (F 43) = (F0 43) by first | rfl | (simp only [h43, h70, i_as])), (show (F 70) = F0 70 by first | rfl | (simp only [h43, h70, i_as])), (show 0 ≤ (F 60).toInt from h60), hPK, hL21⟩)
theorem mtj_inConstant_162 {fu : Nat} {X : TX} {L : List Nat} {px py : Int32} (rc : RC) (ihK : mKI1 rc) (ihM : mMOI rc) (ihT : mTI X L rc) {F0 : PF} {G0 : PG} (hT : TP X L F0 G0) (x1 : Int32) (x2 : Int32) (x4 : Int32) (x5 : Int32) (F : PF) (G : PG) (hA : (x4 = 0 ∧ KX [42, 43, 44, 45, 47, 48, 49, 55, 60, 62, 70] [56, 57, 58, 59, 67, 68, 69] F0 G0 F G ∧ MO F0 F ∧ F 43 = (F0 43) ∧ F 70 = F0 70 ∧ 0 ≤ (F 60).toInt ∧ PKp F0 G0 G ∧ sgn (G 4) (G 5) (F 42) (22 : Int32) = false ∧ sgn (G 4) (G 5) (F 42) (24 : Int32) = false ∧ (LV F → ¬ F0 54 = 0 → ∀ (A : AN) (s : SH) (d : Nat), A (sN F0) = (s, d, false) → bd 8 F0 s → EX X F0 G0 A F G s d [])) ∨ (x4 = 1 ∧ KX [42, 43, 44, 45, 47, 48, 49, 55, 60, 62, 70] [56, 57, 58, 59, 67, 68, 69] F0 G0 F G ∧ MO F0 F ∧ F 43 = (F0 43) ∧ F 70 = F0 70 ∧ 0 ≤ (F 60).toInt ∧ PKp F0 G0 G ∧ (LV F → ¬ F0 54 = 0 → (False) ∧ (∀ (A : AN) (s : SH) (d : Nat), A (sN F0) = (s, d, false) → bd 8 F0 s → EX X F0 G0 A F G s d [])))) : PP (mb_inConstant_162 fu rc x1 x2 x4 x5 F G) (fun r' F' G' => TQ X 5 px py F0 G0 r' F' G') := by
  have t14 := hT.2.2.2.1
  have t24 := hT.2.2.2.2.1
  have t43 : 0 ≤ (F0 43).toInt ∧ (F0 43).toInt ≤ 40 := ⟨hT.2.2.2.2.2.1, hT.2.2.2.2.2.2.1⟩
  have t70 := hT.2.2.2.2.2.2.2.1
  rcases hA with ⟨rfl, hK, hM, h43, h70, h60, hPK, p0_, p1_, hL⟩ | ⟨rfl, hK, hM, h43, h70, h60, hPK, hL⟩
  · skip
    unfold mb_inConstant_162
    refine PP.bind (mp_isSign (22 : Int32) F G) ?_
    rintro _ _ _ ⟨rfl, rfl, (⟨rfl, u1⟩ | ⟨rfl, u1⟩)⟩
    · dsimp only
      exact absurd (Eq.trans (Eq.symm p0_) u1) (by decide)
    · dsimp only
      unfold mb_inConstant_168
      refine PP.ite (fun _ => ?_) (fun c_2 => absurd (by decide) c_2)
      have hL3 : LV F → ¬ F0 54 = 0 → ∀ (A : AN) (s : SH) (d : Nat), A (sN F0) = (s, d, false) → bd 8 F0 s → EX X F0 G0 A F G s d [] := by
        intro hl h54
        have hE0 := hL hl h54
        have l0 : LV F := hl
        have l0f : LV F0 := LV.mo hK hM rfl rfl l0
        intro A s d hA hb
        have E0 := hE0 A s d hA hb
        have lb : s.length ≤ 568 := by have := bd.len hb t43.2; omega
        exact EX.st E0 rfl (fun _ _ _ => rfl)
      exact mtj_inConstant_182 (px := px) (py := py) rc ihK ihM ihT hT x2 (0 : Int32) x5 F G (Or.inl ⟨rfl, hK, hM, (show (F 43) = (F0 43) by first | rfl | (simp only [h43, h70, i_as])), (show (F 70) = F0 70 by first | rfl | (simp only [h43, h70, i_as])), (show 0 ≤ (F 60).toInt from h60), hPK, (by first | assumption | rfl | (simp only [h43, h70, i_as]; assumption)), hL3⟩)
  · skip
    unfold mb_inConstant_162
    refine PP.bind (mp_isSign (22 : Int32) F G) ?_
    rintro _ _ _ ⟨rfl, rfl, (⟨rfl, u4⟩ | ⟨rfl, u4⟩)⟩
    · dsimp only
      unfold mb_inConstant_168
      refine PP.ite (fun c_5 => absurd c_5 (by decide)) (fun _ => ?_)
      unfold mb_inConstant_171
      refine PP.bind (PP.and (ihK 1 x1 (0 : Int32) F G) (PP.and (ihM 1 x1 (0 : Int32) F G) (ihT 1 x1 (0 : Int32) F G (TP.kx hT hK (fun q => (hM).1 q) rfl (show 0 ≤ (F 43).toInt ∧ (F 43).toInt ≤ 40 by first | exact t43 | (simp only [h43, h70, i_as]; exact t43)) (show 0 ≤ (F 70).toInt by first | exact t70 | (simp only [h43, h70, i_as]; exact t70)) (show 0 ≤ (F 60).toInt from h60))))) ?_
      rintro r6 F6 G6 ⟨hK6, hM6, (rfl | rfl), u6⟩
      · dsimp only
        unfold mb_inConstant_177
        refine PP.ite (fun _ => ?_) (fun c_7 => absurd (by decide) c_7)
        unfold mb_inConstant_180
        refine PP.ret ?_
        exact ⟨Or.inl rfl, fun h => absurd h (by decide)⟩
      · dsimp only
        obtain ⟨u6a, u6b, u6c, u6d, u6e⟩ := u6 rfl
        have k_8 : KX [42, 43, 44, 45, 47, 48, 49, 55, 60, 62, 70] [56, 57, 58, 59, 67, 68, 69] F0 G0 F6 G6 := (KX.tr hK hK6 rfl rfl)
        have k_9 : MO F0 F6 := (MO.tr hM hM6)
        have q_10 : F6 43 = (F0 43) := Eq.trans u6a (show (F 43) = (F0 43) by simp only [h43, h70, i_as])
        have q_11 : F6 70 = (F0 70) := Eq.trans u6b (show (F 70) = (F0 70) by simp only [h43, h70, i_as])
        have q_12 : F 70 = F0 70 := (show (F 70) = F0 70 by first | rfl | (simp only [h43, h70, i_as]))
        have k_13 : PKp F0 G0 G6 := PKp.tr (show PKp F0 G0 G from hPK) u6d q_12
        unfold mb_inConstant_177
        refine PP.ite (fun c_14 => absurd c_14 (by decide)) (fun _ => ?_)
        have hL15 : LV F6 → ¬ F0 54 = 0 → (False) ∧ (∀ (A : AN) (s : SH) (d : Nat), A (sN F0) = (s, d, false) → bd 8 F0 s → EX X F0 G0 A F6 G6 s d []) := by
          intro hl h54
          have l_16 : LV F := LV.mo hK6 hM6 rfl rfl (show LV F6 from hl)
          obtain ⟨x0_, hE0⟩ := hL l_16 h54
          exact x0_.elim
        exact mtj_inConstant_182 (px := px) (py := py) rc ihK ihM ihT hT x2 (1 : Int32) x5 F6 G6 (Or.inr ⟨rfl, k_8, k_9, (show (F6 43) = (F0 43) by first | rfl | (simp only [q_10, q_11, h43, h70, i_as])), (show (F6 70) = F0 70 by first | rfl | (simp only [q_10, q_11, h43, h70, i_as])), (show 0 ≤ (F6 60).toInt from u6c), k_13, hL15⟩)
    · dsimp only
      unfold mb_inConstant_168
      refine PP.ite (fun _ => ?_) (fun c_17 => absurd (by decide) c_17)
      have hL18 : LV F → ¬ F0 54 = 0 → (False) ∧ (∀ (A : AN) (s : SH) (d : Nat), A (sN F0) = (s, d, false) → bd 8 F0 s → EX X F0 G0 A F G s d []) := by
        intro hl h54
        obtain ⟨x0_, hE0⟩ := hL hl h54
        exact x0_.elim
      exact mtj_inConstant_182 (px := px) (py := py) rc ihK ihM ihT hT x2 (1 : Int32) x5 F G (Or.inr ⟨rfl, hK, hM, (show (F 43) = (F0 43) by first | rfl | (simp only [h43, h70, i_as])), (show (F 70) = F0 70 by first | rfl | (simp only [h43, h70, i_as])), (show 0 ≤ (F 60).toInt from h60), hPK, hL18⟩)
