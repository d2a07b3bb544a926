theorem mtj_inConstant_137 {fu : Nat} {X : TX} {L : List Nat} {px py : Int32} (rc : RC) (ihK : mKI1 rc) (ihM : mMOI rc) (ihT : mTI X L rc) {F0 : PF} {G0 : PG} (hT : TP X L F0 G0) (x1 : Int32) (x2 : Int32) (x4 : Int32) (x5 : Int32) (F : PF) (G : PG) (hA : (x4 = 0 ∧ KX [42, 43, 44, 45, 47, 48, 49, 55, 60, 62, 70] [56, 57, 58, 59, 67, 68, 69] F0 G0 F G ∧ MO F0 F ∧ F 43 = (F0 43) ∧ F 70 = F0 70 ∧ 0 ≤ (F 60).toInt ∧ PKp F0 G0 G ∧ sgn (G 4) (G 5) (F 42) (22 : Int32) = false ∧ sgn (G 4) (G 5) (F 42) (24 : Int32) = false ∧ (LV F → ¬ F0 54 = 0 → ∀ (A : AN) (s : SH) (d : Nat), A (sN F0) = (s, d, false) → bd 8 F0 s → EX X F0 G0 A F G s d [])) ∨ (x4 = 1 ∧ KX [42, 43, 44, 45, 47, 48, 49, 55, 60, 62, 70] [56, 57, 58, 59, 67, 68, 69] F0 G0 F G ∧ MO F0 F ∧ F 43 = (F0 43) ∧ F 70 = F0 70 ∧ 0 ≤ (F 60).toInt ∧ PKp F0 G0 G ∧ (LV F → ¬ F0 54 = 0 → ∀ (A : AN) (s : SH) (d : Nat), A (sN F0) = (s, d, false) → bd 8 F0 s → EX X F0 G0 A F G s d []))) : PP (mb_inConstant_137 fu rc x1 x2 x4 x5 F G) (fun r' F' G' => TQ X 5 px py F0 G0 r' F' G') := by
  have t14 := hT.2.2.2.1
  have t24 := hT.2.2.2.2.1
  have t43 : 0 ≤ (F0 43).toInt ∧ (F0 43).toInt ≤ 40 := ⟨hT.2.2.2.2.2.1, hT.2.2.2.2.2.2.1⟩
  have t70 := hT.2.2.2.2.2.2.2.1
  rcases hA with ⟨rfl, hK, hM, h43, h70, h60, hPK, p0_, p1_, hL⟩ | ⟨rfl, hK, hM, h43, h70, h60, hPK, hL⟩
  · skip
    unfold mb_inConstant_137
    refine PP.ite (fun c_1 => ?_) (fun c_1 => ?_)
    · skip
      unfold mb_inConstant_157
      have hL2 : LV (fup F 55 (1 : Int32)) → ¬ F0 54 = 0 → ∀ (A : AN) (s : SH) (d : Nat), A (sN F0) = (s, d, false) → bd 8 F0 s → EX X F0 G0 A (fup F 55 (1 : Int32)) G s d [] := by
        intro hl h54
        exact absurd (show (1 : Int32) = 0 from (show LV (fup F 55 (1 : Int32)) from hl).2.2 (fun q => h54 (Eq.trans (Eq.symm ((show KX [42, 43, 44, 45, 47, 48, 49, 55, 60, 62, 70] [56, 57, 58, 59, 67, 68, 69] F0 G0 F G from hK).1 54 rfl)) q))) (by decide)
      exact mtj_inConstant_162 (px := px) (py := py) rc ihK ihM ihT hT x1 x2 (0 : Int32) x5 (fup F 55 (1 : Int32)) G (Or.inl ⟨rfl, (KX.f (k := 55) rfl hK), (MO.f55 hM), (show (F 43) = (F0 43) by first | rfl | (simp only [h43, h70, i_as])), (show (F 70) = F0 70 by first | rfl | (simp only [h43, h70, i_as])), (show 0 ≤ (F 60).toInt from h60), hPK, (by first | assumption | rfl | (simp only [h43, h70, i_as]; assumption)), (by first | assumption | rfl | (simp only [h43, h70, i_as]; assumption)), hL2⟩)
    · skip
      unfold mb_inConstant_142
      refine PP.ite (fun _ => ?_) (fun c_3 => absurd (by decide) c_3)
      unfold mb_inConstant_147
      refine PP.ix (fun _ => ?_)
      refine PP.ite (fun c_4 => ?_) (fun c_4 => ?_)
      · skip
        unfold mb_inConstant_157
        have hL5 : LV (fup F 55 (1 : Int32)) → ¬ F0 54 = 0 → ∀ (A : AN) (s : SH) (d : Nat), A (sN F0) = (s, d, false) → bd 8 F0 s → EX X F0 G0 A (fup F 55 (1 : Int32)) G s d [] := by
          intro hl h54
          exact absurd (show (1 : Int32) = 0 from (show LV (fup F 55 (1 : Int32)) from hl).2.2 (fun q => h54 (Eq.trans (Eq.symm ((show KX [42, 43, 44, 45, 47, 48, 49, 55, 60, 62, 70] [56, 57, 58, 59, 67, 68, 69] F0 G0 F G from hK).1 54 rfl)) q))) (by decide)
        exact mtj_inConstant_162 (px := px) (py := py) rc ihK ihM ihT hT x1 x2 (0 : Int32) x5 (fup F 55 (1 : Int32)) G (Or.inl ⟨rfl, (KX.f (k := 55) rfl hK), (MO.f55 hM), (show (F 43) = (F0 43) by first | rfl | (simp only [h43, h70, i_as])), (show (F 70) = F0 70 by first | rfl | (simp only [h43, h70, i_as])), (show 0 ≤ (F 60).toInt from h60), hPK, (by first | assumption | rfl | (simp only [h43, h70, i_as]; assumption)), (by first | assumption | rfl | (simp only [h43, h70, i_as]; assumption)), hL5⟩)
      · skip
        have hL6 : LV F → ¬ F0 54 = 0 → ∀ (A : AN) (s : SH) (d : Nat), A (sN F0) = (s, d, false) → bd 8 F0 s → EX X F0 G0 A F G s d [] := by
          intro hl h54
          have hE0 := hL hl h54
          have l0 : LV F := hl
          have l0f : LV F0 := LV.mo hK hM rfl rfl l0
          intro A s d hA hb
          have E0 := hE0 A s d hA hb
          have lb : s.length ≤ 568 := by have := bd.len hb t43.2; omega
          exact EX.st E0 rfl (fun _ _ _ => rfl)
        exact mtj_inConstant_162 (px := px) (py := py) rc ihK ihM ihT hT x1 x2 (0 : Int32) x5 F G (Or.inl ⟨rfl, hK, hM, (show (F 43) = (F0 43) by first | rfl | (simp only [h43, h70, i_as])), (show (F 70) = F0 70 by first | rfl | (simp only [h43, h70, i_as])), (show 0 ≤ (F 60).toInt from h60), hPK, (by first | assumption | rfl | (simp only [h43, h70, i_as]; assumption)), (by first | assumption | rfl | (simp only [h43, h70, i_as]; assumption)), hL6⟩)
  · skip
    unfold mb_inConstant_137
    refine PP.ite (fun c_7 => ?_) (fun c_7 => ?_)
    · skip
      unfold mb_inConstant_157
      have hL8 : LV (fup F 55 (1 : Int32)) → ¬ F0 54 = 0 → (False) ∧ (∀ (A : AN) (s : SH) (d : Nat), A (sN F0) = (s, d, false) → bd 8 F0 s → EX X F0 G0 A (fup F 55 (1 : Int32)) G s d []) := by
        intro hl h54
        exact absurd (show (1 : Int32) = 0 from (show LV (fup F 55 (1 : Int32)) from hl).2.2 (fun q => h54 (Eq.trans (Eq.symm ((show KX [42, 43, 44, 45, 47, 48, 49, 55, 60, 62, 70] [56, 57, 58, 59, 67, 68, 69] F0 G0 F G from hK).1 54 rfl)) q))) (by decide)
      exact mtj_inConstant_162 (px := px) (py := py) rc ihK ihM ihT hT x1 x2 (1 : Int32) x5 (fup F 55 (1 : Int32)) G (Or.inr ⟨rfl, (KX.f (k := 55) rfl hK), (MO.f55 hM), (show (F 43) = (F0 43) by first | rfl | (simp only [h43, h70, i_as])), (show (F 70) = F0 70 by first | rfl | (simp only [h43, h70, i_as])), (show 0 ≤ (F 60).toInt from h60), hPK, hL8⟩)
    · skip
      unfold mb_inConstant_142
      refine PP.ite (fun c_9 => absurd c_9 (by decide)) (fun _ => ?_)
      unfold mb_inConstant_157
      have hL10 : LV (fup F 55 (1 : Int32)) → ¬ F0 54 = 0 → (False) ∧ (∀ (A : AN) (s : SH) (d : Nat), A (sN F0) = (s, d, false) → bd 8 F0 s → EX X F0 G0 A (fup F 55 (1 : Int32)) G s d []) := by
        intro hl h54
        exact absurd (show (1 : Int32) = 0 from (show LV (fup F 55 (1 : Int32)) from hl).2.2 (fun q => h54 (Eq.trans (Eq.symm ((show KX [42, 43, 44, 45, 47, 48, 49, 55, 60, 62, 70] [56, 57, 58, 59, 67, 68, 69] F0 G0 F G from hK).1 54 rfl)) q))) (by decide)
      exact mtj_inConstant_162 (px := px) (py := py) rc ihK ihM ihT hT x1 x2 (1 : Int32) x5 (fup F 55 (1 : Int32)) G (Or.inr ⟨rfl, (KX.f (k := 55) rfl hK), (MO.f55 hM), (show (F 43) = (F0 43) by first | rfl | (simp only [h43, h70, i_as])), (show (F 70) = F0 70 by first | rfl | (simp only [h43, h70, i_as])), (show 0 ≤ (F 60).toInt from h60), hPK, hL10⟩)
theorem mtj_inConstant_104 {fu : Nat} {X : TX} {L : List Nat} {px py : Int32} (rc : RC) (ihK : mKI1 rc) (ihM : mMOI rc) (ihT : mTI X L rc) {F0 : PF} {G0 : PG} (hT : TP X L F0 G0) (x1 : Int32) (x2 : Int32) (x3 : Int32) (x4 : Int32) (x5 : Int32) (F : PF) (G : PG) (hA : (x4 = 0 ∧ KX [42, 43, 44, 45, 47, 48, 49, 55, 60, 62, 70] [56, 57, 58, 59, 67, 68, 69] F0 G0 F G ∧ MO F0 F ∧ F 43 = (F0 43) ∧ F 70 = F0 70 ∧ 0 ≤ (F 60).toInt ∧ PKp F0 G0 G ∧ sgn (G 4) (G 5) (F 42) (22 : Int32) = false ∧ sgn (G 4) (G 5) (F 42) (24 : Int32) = false ∧ (LV F → ¬ F0 54 = 0 → ∀ (A : AN) (s : SH) (d : Nat), A (sN F0) = (s, d, false) → bd 8 F0 s → EX X F0 G0 A F G s d [])) ∨ (x4 = 1 ∧ KX [42, 43, 44, 45, 47, 48, 49, 55, 60, 62, 70] [56, 57, 58, 59, 67, 68, 69] F0 G0 F G ∧ MO F0 F ∧ F 43 = (F0 43) ∧ F 70 = F0 70 ∧ 0 ≤ (F 60).toInt ∧ PKp F0 G0 G ∧ (LV F → ¬ F0 54 = 0 → ∀ (A : AN) (s : SH) (d : Nat), A (sN F0) = (s, d, false) → bd 8 F0 s → EX X F0 G0 A F G s d []))) : PP (mb_inConstant_104 fu rc x1 x2 x3 x4 x5 F G) (fun r' F' G' => TQ X 5 px py F0 G0 r' F' G') := by
  have t14 := hT.2.2.2.1
  have t24 := hT.2.2.2.2.1
  have t43 : 0 ≤ (F0 43).toInt ∧ (F0 43).toInt ≤ 40 := ⟨hT.2.2.2.2.2.1, hT.2.2.2.2.2.2.1⟩
  have t70 := hT.2.2.2.2.2.2.2.1
  rcases hA with ⟨rfl, hK, hM, h43, h70, h60, hPK, p0_, p1_, hL⟩ | ⟨rfl, hK, hM, h43, h70, h60, hPK, hL⟩
  · skip
    unfold mb_inConstant_104
    refine PP.ite (fun c_1 => ?_) (fun c_1 => ?_)
    · skip
      have hL2 : LV F → ¬ F0 54 = 0 → ∀ (A : AN) (s : SH) (d : Nat), A (sN F0) = (s, d, false) → bd 8 F0 s → EX X F0 G0 A F G s d [] := by
        intro hl h54
        have hE0 := hL hl h54
        have l0 : LV F := hl
        have l0f : LV F0 := LV.mo hK hM rfl rfl l0
        intro A s d hA hb
        have E0 := hE0 A s d hA hb
        have lb : s.length ≤ 568 := by have := bd.len hb t43.2; omega
        exact EX.st E0 rfl (fun _ _ _ => rfl)
      exact mtj_inConstant_137 (px := px) (py := py) rc ihK ihM ihT hT x1 x2 (0 : Int32) x5 F G (Or.inl ⟨rfl, hK, hM, (show (F 43) = (F0 43) by first | rfl | (simp only [h43, h70, i_as])), (show (F 70) = F0 70 by first | rfl | (simp only [h43, h70, i_as])), (show 0 ≤ (F 60).toInt from h60), hPK, (by first | assumption | rfl | (simp only [h43, h70, i_as]; assumption)), (by first | assumption | rfl | (simp only [h43, h70, i_as]; assumption)), hL2⟩)
    · skip
      have w_3 := mt i_le.mpr c_1
      unfold mb_inConstant_111
      refine PP.ite (fun c_4 => ?_) (fun c_4 => ?_)
      · skip
        unfold mb_inConstant_115
        refine PP.ite (fun c_5 => ?_) (fun c_5 => ?_)
        · skip
          unfold mb_inConstant_125
          refine PP.ix (fun _ => ?_)
          refine PP.bind (PP.and (mp_note (10 : Int32) (G 6 x1.toNatClampNeg) (by decide) F G) (mm_note (10 : Int32) (G 6 x1.toNatClampNeg) (by decide) F G)) ?_
          rintro r6 F6 G6 ⟨⟨hK6, rfl, u6, -⟩, hM6⟩
          dsimp only
          have k_7 : KX [42, 43, 44, 45, 47, 48, 49, 55, 60, 62, 70] [56, 57, 58, 59, 67, 68, 69] F0 G0 F6 G := (KX.tr hK hK6 rfl rfl)
          have k_8 : MO F0 F6 := (MO.tr hM hM6)
          have q_9 : F6 42 = (F 42) := hK6.1 42 rfl
          have q_10 : F6 43 = (F0 43) := Eq.trans (hK6.1 43 rfl) (show (F 43) = (F0 43) by simp only [h43, h70, i_as])
          have q_11 : F6 70 = (F0 70) := Eq.trans (hK6.1 70 rfl) (show (F 70) = (F0 70) by simp only [h43, h70, i_as])
          have k_12 : PKp F0 G0 G := PKp.kx (show PKp F0 G0 G from hPK) hK6 rfl rfl
          have hL13 : LV F6 → ¬ F0 54 = 0 → ∀ (A : AN) (s : SH) (d : Nat), A (sN F0) = (s, d, false) → bd 8 F0 s → EX X F0 G0 A F6 G s d [] := by
            intro hl h54
            have l_14 : LV F := LV.mo hK6 hM6 rfl rfl (show LV F6 from hl)
            have hE0 := hL l_14 h54
            have l0 : LV F := l_14
            have l0f : LV F0 := LV.mo hK hM rfl rfl l0
            intro A s d hA hb
            have E0 := hE0 A s d hA hb
            have lb : s.length ≤ 568 := by have := bd.len hb t43.2; omega
            have E15 : EX X F0 G0 A F6 G s d [] := EX.st E0 (hK6.1 60 rfl) (fun _ _ _ => rfl)
            exact EX.st E15 rfl (fun _ _ _ => rfl)
          exact mtj_inConstant_137 (px := px) (py := py) rc ihK ihM ihT hT x1 x2 (0 : Int32) x5 F6 G (Or.inl ⟨rfl, k_7, k_8, (show (F6 43) = (F0 43) by first | rfl | (simp only [q_9, q_10, q_11, h43, h70, i_as])), (show (F6 70) = F0 70 by first | rfl | (simp only [q_9, q_10, q_11, h43, h70, i_as])), (show 0 ≤ (F6 60).toInt from (show 0 ≤ (F6 60).toInt by rw [hK6.1 60 rfl]; exact h60)), k_12, (by first | assumption | rfl | (simp only [q_9, q_10, q_11, h43, h70, i_as]; assumption)), (by first | assumption | rfl | (simp only [q_9, q_10, q_11, h43, h70, i_as]; assumption)), hL13⟩)
        · skip
          unfold mb_inConstant_120
          refine PP.ite (fun _ => ?_) (fun c_16 => absurd (by decide) c_16)
          have hL17 : LV F → ¬ F0 54 = 0 → ∀ (A : AN) (s : SH) (d : Nat), A (sN F0) = (s, d, false) → bd 8 F0 s → EX X F0 G0 A F G s d [] := by
            intro hl h54
            have hE0 := hL hl h54
            have l0 : LV F := hl
            have l0f : LV F0 := LV.mo hK hM rfl rfl l0
            intro A s d hA hb
            have E0 := hE0 A s d hA hb
            have lb : s.length ≤ 568 := by have := bd.len hb t43.2; omega
            exact EX.st E0 rfl (fun _ _ _ => rfl)
          exact mtj_inConstant_137 (px := px) (py := py) rc ihK ihM ihT hT x1 x2 (0 : Int32) x5 F G (Or.inl ⟨rfl, hK, hM, (show (F 43) = (F0 43) by first | rfl | (simp only [h43, h70, i_as])), (show (F 70) = F0 70 by first | rfl | (simp only [h43, h70, i_as])), (show 0 ≤ (F 60).toInt from h60), hPK, (by first | assumption | rfl | (simp only [h43, h70, i_as]; assumption)), (by first | assumption | rfl | (simp only [h43, h70, i_as]; assumption)), hL17⟩)
      · skip
        have hL18 : LV F → ¬ F0 54 = 0 → ∀ (A : AN) (s : SH) (d : Nat), A (sN F0) = (s, d, false) → bd 8 F0 s → EX X F0 G0 A F G s d [] := by
          intro hl h54
          have hE0 := hL hl h54
          have l0 : LV F := hl
          have l0f : LV F0 := LV.mo hK hM rfl rfl l0
          intro A s d hA hb
          have E0 := hE0 A s d hA hb
          have lb : s.length ≤ 568 := by have := bd.len hb t43.2; omega
          exact EX.st E0 rfl (fun _ _ _ => rfl)
        exact mtj_inConstant_137 (px := px) (py := py) rc ihK ihM ihT hT x1 x2 (0 : Int32) x5 F G (Or.inl ⟨rfl, hK, hM, (show (F 43) = (F0 43) by first | rfl | (simp only [h43, h70, i_as])), (show (F 70) = F0 70 by first | rfl | (simp only [h43, h70, i_as])), (show 0 ≤ (F 60).toInt from h60), hPK, (by first | assumption | rfl | (simp only [h43, h70, i_as]; assumption)), (by first | assumption | rfl | (simp only [h43, h70, i_as]; assumption)), hL18⟩)
  · skip
    unfold mb_inConstant_104
    refine PP.ite (fun c_19 => ?_) (fun c_19 => ?_)
    · skip
      have hL20 : LV F → ¬ F0 54 = 0 → ∀ (A : AN) (s : SH) (d : Nat), A (sN F0) = (s, d, false) → bd 8 F0 s → EX X F0 G0 A F G s d [] := by
        intro hl h54
        have hE0 := hL hl h54
        have l0 : LV F := hl
        have l0f : LV F0 := LV.mo hK hM rfl rfl l0
        intro A s d hA hb
        have E0 := hE0 A s d hA hb
        have lb : s.length ≤ 568 := by have := bd.len hb t43.2; omega
        exact EX.st E0 rfl (fun _ _ _ => rfl)
      exact mtj_inConstant_137 (px := px) (py := py) rc ihK ihM ihT hT x1 x2 (1 : Int32) x5 F G (Or.inr ⟨rfl, hK, hM, (show (F 43) = (F0 43) by first | rfl | (simp only [h43, h70, i_as])), (show (F 70) = F0 70 by first | rfl | (simp only [h43, h70, i_as])), (show 0 ≤ (F 60).toInt from h60), hPK, hL20⟩)
    · skip
      have w_21 := mt i_le.mpr c_19
      unfold mb_inConstant_111
      refine PP.ite (fun c_22 => ?_) (fun c_22 => ?_)
      · skip
        unfold mb_inConstant_115
        refine PP.ite (fun c_23 => ?_) (fun c_23 => ?_)
        · skip
          unfold mb_inConstant_125
          refine PP.ix (fun _ => ?_)
          refine PP.bind (PP.and (mp_note (10 : Int32) (G 6 x1.toNatClampNeg) (by decide) F G) (mm_note (10 : Int32) (G 6 x1.toNatClampNeg) (by decide) F G)) ?_
          rintro r24 F24 G24 ⟨⟨hK24, rfl, u24, -⟩, hM24⟩
          dsimp only
          have k_25 : KX [42, 43, 44, 45, 47, 48, 49, 55, 60, 62, 70] [56, 57, 58, 59, 67, 68, 69] F0 G0 F24 G := (KX.tr hK hK24 rfl rfl)
          have k_26 : MO F0 F24 := (MO.tr hM hM24)
          have q_27 : F24 42 = (F 42) := hK24.1 42 rfl
          have q_28 : F24 43 = (F0 43) := Eq.trans (hK24.1 43 rfl) (show (F 43) = (F0 43) by simp only [h43, h70, i_as])
          have q_29 : F24 70 = (F0 70) := Eq.trans (hK24.1 70 rfl) (show (F 70) = (F0 70) by simp only [h43, h70, i_as])
          have k_30 : PKp F0 G0 G := PKp.kx (show PKp F0 G0 G from hPK) hK24 rfl rfl
          have hL31 : LV F24 → ¬ F0 54 = 0 → ∀ (A : AN) (s : SH) (d : Nat), A (sN F0) = (s, d, false) → bd 8 F0 s → EX X F0 G0 A F24 G s d [] := by
            intro hl h54
            have l_32 : LV F := LV.mo hK24 hM24 rfl rfl (show LV F24 from hl)
            have hE0 := hL l_32 h54
            have l0 : LV F := l_32
            have l0f : LV F0 := LV.mo hK hM rfl rfl l0
            intro A s d hA hb
            have E0 := hE0 A s d hA hb
            have lb : s.length ≤ 568 := by have := bd.len hb t43.2; omega
            have E33 : EX X F0 G0 A F24 G s d [] := EX.st E0 (hK24.1 60 rfl) (fun _ _ _ => rfl)
            exact EX.st E33 rfl (fun _ _ _ => rfl)
          exact mtj_inConstant_137 (px := px) (py := py) rc ihK ihM ihT hT x1 x2 (1 : Int32) x5 F24 G (Or.inr ⟨rfl, k_25, k_26, (show (F24 43) = (F0 43) by first | rfl | (simp only [q_27, q_28, q_29, h43, h70, i_as])), (show (F24 70) = F0 70 by first | rfl | (simp only [q_27, q_28, q_29, h43, h70, i_as])), (show 0 ≤ (F24 60).toInt from (show 0 ≤ (F24 60).toInt by rw [hK24.1 60 rfl]; exact h60)), k_30, hL31⟩)
        · skip
          unfold mb_inConstant_120
          refine PP.ite (fun c_34 => absurd c_34 (by decide)) (fun _ => ?_)
          unfold mb_inConstant_125
          refine PP.ix (fun _ => ?_)
          refine PP.bind (PP.and (mp_note (10 : Int32) (G 6 x1.toNatClampNeg) (by decide) F G) (mm_note (10 : Int32) (G 6 x1.toNatClampNeg) (by decide) F G)) ?_
          rintro r35 F35 G35 ⟨⟨hK35, rfl, u35, -⟩, hM35⟩
          dsimp only
          have k_36 : KX [42, 43, 44, 45, 47, 48, 49, 55, 60, 62, 70] [56, 57, 58, 59, 67, 68, 69] F0 G0 F35 G := (KX.tr hK hK35 rfl rfl)
          have k_37 : MO F0 F35 := (MO.tr hM hM35)
          have q_38 : F35 42 = (F 42) := hK35.1 42 rfl
          have q_39 : F35 43 = (F0 43) := Eq.trans (hK35.1 43 rfl) (show (F 43) = (F0 43) by simp only [h43, h70, i_as])
          have q_40 : F35 70 = (F0 70) := Eq.trans (hK35.1 70 rfl) (show (F 70) = (F0 70) by simp only [h43, h70, i_as])
          have k_41 : PKp F0 G0 G := PKp.kx (show PKp F0 G0 G from hPK) hK35 rfl rfl
          have hL42 : LV F35 → ¬ F0 54 = 0 → ∀ (A : AN) (s : SH) (d : Nat), A (sN F0) = (s, d, false) → bd 8 F0 s → EX X F0 G0 A F35 G s d [] := by
            intro hl h54
            have l_43 : LV F := LV.mo hK35 hM35 rfl rfl (show LV F35 from hl)
            have hE0 := hL l_43 h54
            have l0 : LV F := l_43
            have l0f : LV F0 := LV.mo hK hM rfl rfl l0
            intro A s d hA hb
            have E0 := hE0 A s d hA hb
            have lb : s.length ≤ 568 := by have := bd.len hb t43.2; omega
            have E44 : EX X F0 G0 A F35 G s d [] := EX.st E0 (hK35.1 60 rfl) (fun _ _ _ => rfl)
            exact EX.st E44 rfl (fun _ _ _ => rfl)
          exact mtj_inConstant_137 (px := px) (py := py) rc ihK ihM ihT hT x1 x2 (1 : Int32) x5 F35 G (Or.inr ⟨rfl, k_36, k_37, (show (F35 43) = (F0 43) by first | rfl | (simp only [q_38, q_39, q_40, h43, h70, i_as])), (show (F35 70) = F0 70 by first | rfl | (simp only [q_38, q_39, q_40, h43, h70, i_as])), (show 0 ≤ (F35 60).toInt from (show 0 ≤ (F35 60).toInt by rw [hK35.1 60 rfl]; exact h60)), k_41, hL42⟩)
      · skip
        have hL45 : LV F → ¬ F0 54 = 0 → ∀ (A : AN) (s : SH) (d : Nat), A (sN F0) = (s, d, false) → bd 8 F0 s → EX X F0 G0 A F G s d [] := by
          intro hl h54
          have hE0 := hL hl h54
          have l0 : LV F := hl
          have l0f : LV F0 := LV.mo hK hM rfl rfl l0
          intro A s d hA hb
          have E0 := hE0 A s d hA hb
          have lb : s.length ≤ 568 := by have := bd.len hb t43.2; omega
          exact EX.st E0 rfl (fun _ _ _ => rfl)
        exact mtj_inConstant_137 (px := px) (py := py) rc ihK ihM ihT hT x1 x2 (1 : Int32) x5 F G (Or.inr ⟨rfl, hK, hM, (show (F 43) = (F0 43) by first | rfl | (simp only [h43, h70, i_as])), (show (F 70) = F0 70 by first | rfl | (simp only [h43, h70, i_as])), (show 0 ≤ (F 60).toInt from h60), hPK, hL45⟩)
theorem mtj_inConstant_80 {fu : Nat} {X : TX} {L : List Nat} {px py : Int32} (rc : RC) (ihK : mKI1 rc) (ihM : mMOI rc) (ihT : mTI X L rc) {F0 : PF} {G0 : PG} (hT : TP X L F0 G0) (x1 : Int32) (x2 : Int32) (x3 : Int32) (x4 : Int32) (z0 : Int32) (F : PF) (G : PG) (hA : (x4 = 0 ∧ KX [42, 43, 44, 45, 47, 48, 49, 55, 60, 62, 70] [56, 57, 58, 59, 67, 68, 69] F0 G0 F G ∧ MO F0 F ∧ F 43 = (F0 43) ∧ F 70 = F0 70 ∧ 0 ≤ (F 60).toInt ∧ PKp F0 G0 G ∧ sgn (G 4) (G 5) (F 42) (22 : Int32) = false ∧ sgn (G 4) (G 5) (F 42) (24 : Int32) = false ∧ (LV F → ¬ F0 54 = 0 → ∀ (A : AN) (s : SH) (d : Nat), A (sN F0) = (s, d, false) → bd 8 F0 s → EX X F0 G0 A F G s d [])) ∨ (x4 = 1 ∧ KX [42, 43, 44, 45, 47, 48, 49, 55, 60, 62, 70] [56, 57, 58, 59, 67, 68, 69] F0 G0 F G ∧ MO F0 F ∧ F 43 = (F0 43) ∧ F 70 = F0 70 ∧ 0 ≤ (F 60).toInt ∧ PKp F0 G0 G ∧ (LV F → ¬ F0 54 = 0 → ∀ (A : AN) (s : SH) (d : Nat), A (sN F0) = (s, d, false) → bd 8 F0 s → EX X F0 G0 A F G s d []))) : PP (mb_inConstant_80 fu rc x1 x2 x3 x4 z0 F G) (fun r' F' G' => TQ X 5 px py F0 G0 r' F' G') := by
  have t14 := hT.2.2.2.1
  have t24 := hT.2.2.2.2.1
  have t43 : 0 ≤ (F0 43).toInt ∧ (F0 43).toInt ≤ 40 := ⟨hT.2.2.2.2.2.1, hT.2.2.2.2.2.2.1⟩
  have t70 := hT.2.2.2.2.2.2.2.1
  rcases hA with ⟨rfl, hK, hM, h43, h70, h60, hPK, p0_, p1_, hL⟩ | ⟨rfl, hK, hM, h43, h70, h60, hPK, hL⟩
  · skip
    unfold mb_inConstant_80
    refine PP.ite (fun c_1 => ?_) (fun c_1 => ?_)
    · skip
      have hL2 : LV F → ¬ F0 54 = 0 → ∀ (A : AN) (s : SH) (d : Nat), A (sN F0) = (s, d, false) → bd 8 F0 s → EX X F0 G0 A F G s d [] := by
        intro hl h54
        have hE0 := hL hl h54
        have l0 : LV F := hl
        have l0f : LV F0 := LV.mo hK hM rfl rfl l0
        intro A s d hA hb
        have E0 := hE0 A s d hA hb
        have lb : s.length ≤ 568 := by have := bd.len hb t43.2; omega
        exact EX.st E0 rfl (fun _ _ _ => rfl)
      exact mtj_inConstant_104 (px := px) (py := py) rc ihK ihM ihT hT x1 x2 x3 (0 : Int32) z0 F G (Or.inl ⟨rfl, hK, hM, (show (F 43) = (F0 43) by first | rfl | (simp only [h43, h70, i_as])), (show (F 70) = F0 70 by first | rfl | (simp only [h43, h70, i_as])), (show 0 ≤ (F 60).toInt from h60), hPK, (by first | assumption | rfl | (simp only [h43, h70, i_as]; assumption)), (by first | assumption | rfl | (simp only [h43, h70, i_as]; assumption)), hL2⟩)
    · skip
      have w_3 := mt i_le.mpr c_1
      unfold mb_inConstant_89
      refine PP.ite (fun c_4 => ?_) (fun c_4 => ?_)
      · skip
        have hL5 : LV F → ¬ F0 54 = 0 → ∀ (A : AN) (s : SH) (d : Nat), A (sN F0) = (s, d, false) → bd 8 F0 s → EX X F0 G0 A F G s d [] := by
          intro hl h54
          have hE0 := hL hl h54
          have l0 : LV F := hl
          have l0f : LV F0 := LV.mo hK hM rfl rfl l0
          intro A s d hA hb
          have E0 := hE0 A s d hA hb
          have lb : s.length ≤ 568 := by have := bd.len hb t43.2; omega
          exact EX.st E0 rfl (fun _ _ _ => rfl)
        exact mtj_inConstant_104 (px := px) (py := py) rc ihK ihM ihT hT x1 x2 x3 (0 : Int32) z0 F G (Or.inl ⟨rfl, hK, hM, (show (F 43) = (F0 43) by first | rfl | (simp only [h43, h70, i_as])), (show (F 70) = F0 70 by first | rfl | (simp only [h43, h70, i_as])), (show 0 ≤ (F 60).toInt from h60), hPK, (by first | assumption | rfl | (simp only [h43, h70, i_as]; assumption)), (by first | assumption | rfl | (simp only [h43, h70, i_as]; assumption)), hL5⟩)
      · skip
        unfold mb_inConstant_93
        refine PP.ix (fun _ => ?_)
        refine PP.bind (PP.and (mp_note (4 : Int32) (G 6 x1.toNatClampNeg) (by decide) F G) (mm_note (4 : Int32) (G 6 x1.toNatClampNeg) (by decide) F G)) ?_
        rintro r6 F6 G6 ⟨⟨hK6, rfl, u6, -⟩, hM6⟩
        dsimp only
        have k_7 : KX [42, 43, 44, 45, 47, 48, 49, 55, 60, 62, 70] [56, 57, 58, 59, 67, 68, 69] F0 G0 F6 G := (KX.tr hK hK6 rfl rfl)
        have k_8 : MO F0 F6 := (MO.tr hM hM6)
        have q_9 : F6 42 = (F 42) := hK6.1 42 rfl
        have q_10 : F6 43 = (F0 43) := Eq.trans (hK6.1 43 rfl) (show (F 43) = (F0 43) by simp only [h43, h70, i_as])
        have q_11 : F6 70 = (F0 70) := Eq.trans (hK6.1 70 rfl) (show (F 70) = (F0 70) by simp only [h43, h70, i_as])
        have k_12 : PKp F0 G0 G := PKp.kx (show PKp F0 G0 G from hPK) hK6 rfl rfl
        have hL13 : LV F6 → ¬ F0 54 = 0 → ∀ (A : AN) (s : SH) (d : Nat), A (sN F0) = (s, d, false) → bd 8 F0 s → EX X F0 G0 A F6 G s d [] := by
          intro hl h54
          have l_14 : LV F := LV.mo hK6 hM6 rfl rfl (show LV F6 from hl)
          have hE0 := hL l_14 h54
          have l0 : LV F := l_14
          have l0f : LV F0 := LV.mo hK hM rfl rfl l0
          intro A s d hA hb
          have E0 := hE0 A s d hA hb
          have lb : s.length ≤ 568 := by have := bd.len hb t43.2; omega
          have E15 : EX X F0 G0 A F6 G s d [] := EX.st E0 (hK6.1 60 rfl) (fun _ _ _ => rfl)
          exact EX.st E15 rfl (fun _ _ _ => rfl)
        exact mtj_inConstant_104 (px := px) (py := py) rc ihK ihM ihT hT x1 x2 x3 (0 : Int32) z0 F6 G (Or.inl ⟨rfl, k_7, k_8, (show (F6 43) = (F0 43) by first | rfl | (simp only [q_9, q_10, q_11, h43, h70, i_as])), (show (F6 70) = F0 70 by first | rfl | (simp only [q_9, q_10, q_11, h43, h70, i_as])), (show 0 ≤ (F6 60).toInt from (show 0 ≤ (F6 60).toInt by rw [hK6.1 60 rfl]; exact h60)), k_12, (by first | assumption | rfl | (simp only [q_9, q_10, q_11, h43, h70, i_as]; assumption)), (by first | assumption | rfl | (simp only [q_9, q_10, q_11, h43, h70, i_as]; assumption)), hL13⟩)
  · skip
    unfold mb_inConstant_80
    refine PP.ite (fun c_16 => ?_) (fun c_16 => ?_)
    · skip
      have hL17 : LV F → ¬ F0 54 = 0 → ∀ (A : AN) (s : SH) (d : Nat), A (sN F0) = (s, d, false) → bd 8 F0 s → EX X F0 G0 A F G s d [] := by
        intro hl h54
        have hE0 := hL hl h54
        have l0 : LV F := hl
        have l0f : LV F0 := LV.mo hK hM rfl rfl l0
        intro A s d hA hb
        have E0 := hE0 A s d hA hb
        have lb : s.length ≤ 568 := by have := bd.len hb t43.2; omega
        exact EX.st E0 rfl (fun _ _ _ => rfl)
      exact mtj_inConstant_104 (px := px) (py := py) rc ihK ihM ihT hT x1 x2 x3 (1 : Int32) z0 F G (Or.inr ⟨rfl, hK, hM, (show (F 43) = (F0 43) by first | rfl | (simp only [h43, h70, i_as])), (show (F 70) = F0 70 by first | rfl | (simp only [h43, h70, i_as])), (show 0 ≤ (F 60).toInt from h60), hPK, hL17⟩)
    · skip
      have w_18 := mt i_le.mpr c_16
      unfold mb_inConstant_89
      refine PP.ite (fun c_19 => ?_) (fun c_19 => ?_)
      · skip
        have hL20 : LV F → ¬ F0 54 = 0 → ∀ (A : AN) (s : SH) (d : Nat), A (sN F0) = (s, d, false) → bd 8 F0 s → EX X F0 G0 A F G s d [] := by
          intro hl h54
          have hE0 := hL hl h54
          have l0 : LV F := hl
          have l0f : LV F0 := LV.mo hK hM rfl rfl l0
          intro A s d hA hb
          have E0 := hE0 A s d hA hb
          have lb : s.length ≤ 568 := by have := bd.len hb t43.2; omega
          exact EX.st E0 rfl (fun _ _ _ => rfl)
        exact mtj_inConstant_104 (px := px) (py := py) rc ihK ihM ihT hT x1 x2 x3 (1 : Int32) z0 F G (Or.inr ⟨rfl, hK, hM, (show (F 43) = (F0 43) by first | rfl | (simp only [h43, h70, i_as])), (show (F 70) = F0 70 by first | rfl | (simp only [h43, h70, i_as])), (show 0 ≤ (F 60).toInt from h60), hPK, hL20⟩)
      · skip
        unfold mb_inConstant_93
        refine PP.ix (fun _ => ?_)
        refine PP.bind (PP.and (mp_note (4 : Int32) (G 6 x1.toNatClampNeg) (by decide) F G) (mm_note (4 : Int32) (G 6 x1.toNatClampNeg) (by decide) F G)) ?_
        rintro r21 F21 G21 ⟨⟨hK21, rfl, u21, -⟩, hM21⟩
        dsimp only
        have k_22 : KX [42, 43, 44, 45, 47, 48, 49, 55, 60, 62, 70] [56, 57, 58, 59, 67, 68, 69] F0 G0 F21 G := (KX.tr hK hK21 rfl rfl)
        have k_23 : MO F0 F21 := (MO.tr hM hM21)
        have q_24 : F21 42 = (F 42) := hK21.1 42 rfl
        have q_25 : F21 43 = (F0 43) := Eq.trans (hK21.1 43 rfl) (show (F 43) = (F0 43) by simp only [h43, h70, i_as])
        have q_26 : F21 70 = (F0 70) := Eq.trans (hK21.1 70 rfl) (show (F 70) = (F0 70) by simp only [h43, h70, i_as])
        have k_27 : PKp F0 G0 G := PKp.kx (show PKp F0 G0 G from hPK) hK21 rfl rfl
        have hL28 : LV F21 → ¬ F0 54 = 0 → ∀ (A : AN) (s : SH) (d : Nat), A (sN F0) = (s, d, false) → bd 8 F0 s → EX X F0 G0 A F21 G s d [] := by
          intro hl h54
          have l_29 : LV F := LV.mo hK21 hM21 rfl rfl (show LV F21 from hl)
          have hE0 := hL l_29 h54
          have l0 : LV F := l_29
          have l0f : LV F0 := LV.mo hK hM rfl rfl l0
          intro A s d hA hb
          have E0 := hE0 A s d hA hb
          have lb : s.length ≤ 568 := by have := bd.len hb t43.2; omega
          have E30 : EX X F0 G0 A F21 G s d [] := EX.st E0 (hK21.1 60 rfl) (fun _ _ _ => rfl)
          exact EX.st E30 rfl (fun _ _ _ => rfl)
        exact mtj_inConstant_104 (px := px) (py := py) rc ihK ihM ihT hT x1 x2 x3 (1 : Int32) z0 F21 G (Or.inr ⟨rfl, k_22, k_23, (show (F21 43) = (F0 43) by first | rfl | (simp only [q_24, q_25, q_26, h43, h70, i_as])), (show (F21 70) = F0 70 by first | rfl | (simp only [q_24, q_25, q_26, h43, h70, i_as])), (show 0 ≤ (F21 60).toInt from (show 0 ≤ (F21 60).toInt by rw [hK21.1 60 rfl]; exact h60)), k_27, hL28⟩)
theorem mtj_inConstant_59 {fu : Nat} {X : TX} {L : List Nat} {px py : Int32} (rc : RC) (ihK : mKI1 rc) (ihM : mMOI rc) (ihT : mTI X L rc) {F0 : PF} {G0 : PG} (hT : TP X L F0 G0) (x1 : Int32) (x2 : Int32) (x3 : Int32) (z0 : Int32) (F : PF) (G : PG) (hA : (z0 = 0 ∧ KX [42, 43, 44, 45, 47, 48, 49, 55, 60, 62, 70] [56, 57, 58, 59, 67, 68, 69] F0 G0 F G ∧ MO F0 F ∧ F 43 = (F0 43) ∧ F 70 = F0 70 ∧ 0 ≤ (F 60).toInt ∧ PKp F0 G0 G ∧ sgn (G 4) (G 5) (F 42) (22 : Int32) = false ∧ sgn (G 4) (G 5) (F 42) (24 : Int32) = false ∧ (LV F → ¬ F0 54 = 0 → ∀ (A : AN) (s : SH) (d : Nat), A (sN F0) = (s, d, false) → bd 8 F0 s → EX X F0 G0 A F G s d [])) ∨ (z0 = 1 ∧ KX [42, 43, 44, 45, 47, 48, 49, 55, 60, 62, 70] [56, 57, 58, 59, 67, 68, 69] F0 G0 F G ∧ MO F0 F ∧ F 43 = (F0 43) ∧ F 70 = F0 70 ∧ 0 ≤ (F 60).toInt ∧ PKp F0 G0 G ∧ (LV F → ¬ F0 54 = 0 → ∀ (A : AN) (s : SH) (d : Nat), A (sN F0) = (s, d, false) → bd 8 F0 s → EX X F0 G0 A F G s d []))) : PP (mb_inConstant_59 fu rc x1 x2 x3 z0 F G) (fun r' F' G' => TQ X 5 px py F0 G0 r' F' G') := by
  have t14 := hT.2.2.2.1
  have t24 := hT.2.2.2.2.1
  have t43 : 0 ≤ (F0 43).toInt ∧ (F0 43).toInt ≤ 40 := ⟨hT.2.2.2.2.2.1, hT.2.2.2.2.2.2.1⟩
  have t70 := hT.2.2.2.2.2.2.2.1
  rcases hA with ⟨rfl, hK, hM, h43, h70, h60, hPK, p0_, p1_, hL⟩ | ⟨rfl, hK, hM, h43, h70, h60, hPK, hL⟩
  · skip
    unfold mb_inConstant_59
    refine PP.ite (fun c_1 => ?_) (fun c_1 => ?_)
    · skip
      unfold mb_inConstant_79
      have hL2 : LV F → ¬ F0 54 = 0 → ∀ (A : AN) (s : SH) (d : Nat), A (sN F0) = (s, d, false) → bd 8 F0 s → EX X F0 G0 A F G s d [] := by
        intro hl h54
        have hE0 := hL hl h54
        have l0 : LV F := hl
        have l0f : LV F0 := LV.mo hK hM rfl rfl l0
        intro A s d hA hb
        have E0 := hE0 A s d hA hb
        have lb : s.length ≤ 568 := by have := bd.len hb t43.2; omega
        exact EX.st E0 rfl (fun _ _ _ => rfl)
      exact mtj_inConstant_80 (px := px) (py := py) rc ihK ihM ihT hT x1 x2 x3 (0 : Int32) (0 : Int32) F G (Or.inl ⟨rfl, hK, hM, (show (F 43) = (F0 43) by first | rfl | (simp only [h43, h70, i_as])), (show (F 70) = F0 70 by first | rfl | (simp only [h43, h70, i_as])), (show 0 ≤ (F 60).toInt from h60), hPK, (by first | assumption | rfl | (simp only [h43, h70, i_as]; assumption)), (by first | assumption | rfl | (simp only [h43, h70, i_as]; assumption)), hL2⟩)
    · skip
      unfold mb_inConstant_66
      refine PP.ix (fun _ => ?_)
      refine PP.ite (fun c_3 => ?_) (fun c_3 => ?_)
      · skip
        unfold mb_inConstant_75
        have hL4 : LV F → ¬ F0 54 = 0 → ∀ (A : AN) (s : SH) (d : Nat), A (sN F0) = (s, d, false) → bd 8 F0 s → EX X F0 G0 A F G s d [] := by
          intro hl h54
          have hE0 := hL hl h54
          have l0 : LV F := hl
          have l0f : LV F0 := LV.mo hK hM rfl rfl l0
          intro A s d hA hb
          have E0 := hE0 A s d hA hb
          have lb : s.length ≤ 568 := by have := bd.len hb t43.2; omega
          exact EX.st E0 rfl (fun _ _ _ => rfl)
        exact mtj_inConstant_80 (px := px) (py := py) rc ihK ihM ihT hT x1 x2 x3 (0 : Int32) (1 : Int32) F G (Or.inl ⟨rfl, hK, hM, (show (F 43) = (F0 43) by first | rfl | (simp only [h43, h70, i_as])), (show (F 70) = F0 70 by first | rfl | (simp only [h43, h70, i_as])), (show 0 ≤ (F 60).toInt from h60), hPK, (by first | assumption | rfl | (simp only [h43, h70, i_as]; assumption)), (by first | assumption | rfl | (simp only [h43, h70, i_as]; assumption)), hL4⟩)
      · skip
        unfold mb_inConstant_79
        have hL5 : LV F → ¬ F0 54 = 0 → ∀ (A : AN) (s : SH) (d : Nat), A (sN F0) = (s, d, false) → bd 8 F0 s → EX X F0 G0 A F G s d [] := by
          intro hl h54
          have hE0 := hL hl h54
          have l0 : LV F := hl
          have l0f : LV F0 := LV.mo hK hM rfl rfl l0
          intro A s d hA hb
          have E0 := hE0 A s d hA hb
          have lb : s.length ≤ 568 := by have := bd.len hb t43.2; omega
          exact EX.st E0 rfl (fun _ _ _ => rfl)
        exact mtj_inConstant_80 (px := px) (py := py) rc ihK ihM ihT hT x1 x2 x3 (0 : Int32) (0 : Int32) F G (Or.inl ⟨rfl, hK, hM, (show (F 43) = (F0 43) by first | rfl | (simp only [h43, h70, i_as])), (show (F 70) = F0 70 by first | rfl | (simp only [h43, h70, i_as])), (show 0 ≤ (F 60).toInt from h60), hPK, (by first | assumption | rfl | (simp only [h43, h70, i_as]; assumption)), (by first | assumption | rfl | (simp only [h43, h70, i_as]; assumption)), hL5⟩)
  · skip
    unfold mb_inConstant_59
    refine PP.ite (fun c_6 => ?_) (fun c_6 => ?_)
    · skip
      unfold mb_inConstant_79
      have hL7 : LV F → ¬ F0 54 = 0 → ∀ (A : AN) (s : SH) (d : Nat), A (sN F0) = (s, d, false) → bd 8 F0 s → EX X F0 G0 A F G s d [] := by
        intro hl h54
        have hE0 := hL hl h54
        have l0 : LV F := hl
        have l0f : LV F0 := LV.mo hK hM rfl rfl l0
        intro A s d hA hb
        have E0 := hE0 A s d hA hb
        have lb : s.length ≤ 568 := by have := bd.len hb t43.2; omega
        exact EX.st E0 rfl (fun _ _ _ => rfl)
      exact mtj_inConstant_80 (px := px) (py := py) rc ihK ihM ihT hT x1 x2 x3 (1 : Int32) (0 : Int32) F G (Or.inr ⟨rfl, hK, hM, (show (F 43) = (F0 43) by first | rfl | (simp only [h43, h70, i_as])), (show (F 70) = F0 70 by first | rfl | (simp only [h43, h70, i_as])), (show 0 ≤ (F 60).toInt from h60), hPK, hL7⟩)
    · skip
      unfold mb_inConstant_66
      refine PP.ix (fun _ => ?_)
      refine PP.ite (fun c_8 => ?_) (fun c_8 => ?_)
      · skip
        unfold mb_inConstant_75
        have hL9 : LV F → ¬ F0 54 = 0 → ∀ (A : AN) (s : SH) (d : Nat), A (sN F0) = (s, d, false) → bd 8 F0 s → EX X F0 G0 A F G s d [] := by
          intro hl h54
          have hE0 := hL hl h54
          have l0 : LV F := hl
          have l0f : LV F0 := LV.mo hK hM rfl rfl l0
          intro A s d hA hb
          have E0 := hE0 A s d hA hb
          have lb : s.length ≤ 568 := by have := bd.len hb t43.2; omega
          exact EX.st E0 rfl (fun _ _ _ => rfl)
        exact mtj_inConstant_80 (px := px) (py := py) rc ihK ihM ihT hT x1 x2 x3 (1 : Int32) (1 : Int32) F G (Or.inr ⟨rfl, hK, hM, (show (F 43) = (F0 43) by first | rfl | (simp only [h43, h70, i_as])), (show (F 70) = F0 70 by first | rfl | (simp only [h43, h70, i_as])), (show 0 ≤ (F 60).toInt from h60), hPK, hL9⟩)
      · skip
        unfold mb_inConstant_79
        have hL10 : LV F → ¬ F0 54 = 0 → ∀ (A : AN) (s : SH) (d : Nat), A (sN F0) = (s, d, false) → bd 8 F0 s → EX X F0 G0 A F G s d [] := by
          intro hl h54
          have hE0 := hL hl h54
          have l0 : LV F := hl
          have l0f : LV F0 := LV.mo hK hM rfl rfl l0
          intro A s d hA hb
          have E0 := hE0 A s d hA hb
          have lb : s.length ≤ 568 := by have := bd.len hb t43.2; omega
          exact EX.st E0 rfl (fun _ _ _ => rfl)
        exact mtj_inConstant_80 (px := px) (py := py) rc ihK ihM ihT hT x1 x2 x3 (1 : Int32) (0 : Int32) F G (Or.inr ⟨rfl, hK, hM, (show (F 43) = (F0 43) by first | rfl | (simp only [h43, h70, i_as])), (show (F 70) = F0 70 by first | rfl | (simp only [h43, h70, i_as])), (show 0 ≤ (F 60).toInt from h60), hPK, hL10⟩)
theorem mtj_inConstant_35 {fu : Nat} {X : TX} {L : List Nat} {px py : Int32} (rc : RC) (ihK : mKI1 rc) (ihM : mMOI rc) (ihT : mTI X L rc) {F0 : PF} {G0 : PG} (hT : TP X L F0 G0) (x1 : Int32) (x2 : Int32) (z0 : Int32) (F : PF) (G : PG) (hA : (KX [42, 43, 44, 45, 47, 48, 49, 55, 60, 62, 70] [56, 57, 58, 59, 67, 68, 69] F0 G0 F G ∧ MO F0 F ∧ F 43 = (F0 43) ∧ F 70 = F0 70 ∧ 0 ≤ (F 60).toInt ∧ PKp F0 G0 G ∧ (LV F → ¬ F0 54 = 0 → ∀ (A : AN) (s : SH) (d : Nat), A (sN F0) = (s, d, false) → bd 8 F0 s → EX X F0 G0 A F G s d []))) : PP (mb_inConstant_35 fu rc x1 x2 z0 F G) (fun r' F' G' => TQ X 5 px py F0 G0 r' F' G') := by
  have t14 := hT.2.2.2.1
  have t24 := hT.2.2.2.2.1
  have t43 : 0 ≤ (F0 43).toInt ∧ (F0 43).toInt ≤ 40 := ⟨hT.2.2.2.2.2.1, hT.2.2.2.2.2.2.1⟩
  have t70 := hT.2.2.2.2.2.2.2.1
  rcases hA with ⟨hK, hM, h43, h70, h60, hPK, hL⟩
  · skip
    unfold mb_inConstant_35
    refine PP.bind (mp_isSign (24 : Int32) F G) ?_
    rintro _ _ _ ⟨rfl, rfl, (⟨rfl, u1⟩ | ⟨rfl, u1⟩)⟩
    · dsimp only
      unfold mb_inConstant_42
      refine PP.ite (fun c_2 => absurd c_2 (by decide)) (fun _ => ?_)
      unfold mb_inConstant_54
      have hL3 : LV F → ¬ F0 54 = 0 → ∀ (A : AN) (s : SH) (d : Nat), A (sN F0) = (s, d, false) → bd 8 F0 s → EX X F0 G0 A F G s d [] := by
        intro hl h54
        have hE0 := hL hl h54
        have l0 : LV F := hl
        have l0f : LV F0 := LV.mo hK hM rfl rfl l0
        intro A s d hA hb
        have E0 := hE0 A s d hA hb
        have lb : s.length ≤ 568 := by have := bd.len hb t43.2; omega
        exact EX.st E0 rfl (fun _ _ _ => rfl)
      exact mtj_inConstant_59 (px := px) (py := py) rc ihK ihM ihT hT x1 x2 z0 (1 : Int32) F G (Or.inr ⟨rfl, hK, hM, (show (F 43) = (F0 43) by first | rfl | (simp only [h43, h70, i_as])), (show (F 70) = F0 70 by first | rfl | (simp only [h43, h70, i_as])), (show 0 ≤ (F 60).toInt from h60), hPK, hL3⟩)
    · dsimp only
      unfold mb_inConstant_42
      refine PP.ite (fun _ => ?_) (fun c_4 => absurd (by decide) c_4)
      unfold mb_inConstant_45
      refine PP.bind (mp_isSign (22 : Int32) F G) ?_
      rintro _ _ _ ⟨rfl, rfl, (⟨rfl, u5⟩ | ⟨rfl, u5⟩)⟩
      · dsimp only
        unfold mb_inConstant_51
        refine PP.ite (fun c_6 => absurd c_6 (by decide)) (fun _ => ?_)
        unfold mb_inConstant_54
        have hL7 : LV F → ¬ F0 54 = 0 → ∀ (A : AN) (s : SH) (d : Nat), A (sN F0) = (s, d, false) → bd 8 F0 s → EX X F0 G0 A F G s d [] := by
          intro hl h54
          have hE0 := hL hl h54
          have l0 : LV F := hl
          have l0f : LV F0 := LV.mo hK hM rfl rfl l0
          intro A s d hA hb
          have E0 := hE0 A s d hA hb
          have lb : s.length ≤ 568 := by have := bd.len hb t43.2; omega
          exact EX.st E0 rfl (fun _ _ _ => rfl)
        exact mtj_inConstant_59 (px := px) (py := py) rc ihK ihM ihT hT x1 x2 z0 (1 : Int32) F G (Or.inr ⟨rfl, hK, hM, (show (F 43) = (F0 43) by first | rfl | (simp only [h43, h70, i_as])), (show (F 70) = F0 70 by first | rfl | (simp only [h43, h70, i_as])), (show 0 ≤ (F 60).toInt from h60), hPK, hL7⟩)
      · dsimp only
        unfold mb_inConstant_51
        refine PP.ite (fun _ => ?_) (fun c_8 => absurd (by decide) c_8)
        unfold mb_inConstant_58
        have hL9 : LV F → ¬ F0 54 = 0 → ∀ (A : AN) (s : SH) (d : Nat), A (sN F0) = (s, d, false) → bd 8 F0 s → EX X F0 G0 A F G s d [] := by
          intro hl h54
          have hE0 := hL hl h54
          have l0 : LV F := hl
          have l0f : LV F0 := LV.mo hK hM rfl rfl l0
          intro A s d hA hb
          have E0 := hE0 A s d hA hb
          have lb : s.length ≤ 568 := by have := bd.len hb t43.2; omega
          exact EX.st E0 rfl (fun _ _ _ => rfl)
        exact mtj_inConstant_59 (px := px) (py := py) rc ihK ihM ihT hT x1 x2 z0 (0 : Int32) F G (Or.inl ⟨rfl, hK, hM, (show (F 43) = (F0 43) by first | rfl | (simp only [h43, h70, i_as])), (show (F 70) = F0 70 by first | rfl | (simp only [h43, h70, i_as])), (show 0 ≤ (F 60).toInt from h60), hPK, (by first | assumption | rfl | (simp only [h43, h70, i_as]; assumption)), (by first | assumption | rfl | (simp only [h43, h70, i_as]; assumption)), hL9⟩)
theorem mtj_inConstant_16 {fu : Nat} {X : TX} {L : List Nat} {px py : Int32} (rc : RC) (ihK : mKI1 rc) (ihM : mMOI rc) (ihT : mTI X L rc) {F0 : PF} {G0 : PG} (hT : TP X L F0 G0) (x1 : Int32) (z0 : Int32) (F : PF) (G : PG) (hA : (KX [42, 43, 44, 45, 47, 48, 49, 55, 60, 62, 70] [56, 57, 58, 59, 67, 68, 69] F0 G0 F G ∧ MO F0 F ∧ F 43 = (F0 43) ∧ F 70 = F0 70 ∧ 0 ≤ (F 60).toInt ∧ PKp F0 G0 G ∧ (LV F → ¬ F0 54 = 0 → ∀ (A : AN) (s : SH) (d : Nat), A (sN F0) = (s, d, false) → bd 8 F0 s → EX X F0 G0 A F G s d []))) : PP (mb_inConstant_16 fu rc x1 z0 F G) (fun r' F' G' => TQ X 5 px py F0 G0 r' F' G') := by
  have t14 := hT.2.2.2.1
  have t24 := hT.2.2.2.2.1
  have t43 : 0 ≤ (F0 43).toInt ∧ (F0 43).toInt ≤ 40 := ⟨hT.2.2.2.2.2.1, hT.2.2.2.2.2.2.1⟩
  have t70 := hT.2.2.2.2.2.2.2.1
  rcases hA with ⟨hK, hM, h43, h70, h60, hPK, hL⟩
  · skip
    unfold mb_inConstant_16
    refine PP.ite (fun c_1 => ?_) (fun c_1 => ?_)
    · skip
      unfold mb_inConstant_22
      refine PP.ite (fun c_2 => ?_) (fun c_2 => ?_)
      · skip
        unfold mb_inConstant_30
        have hL3 : LV F → ¬ F0 54 = 0 → ∀ (A : AN) (s : SH) (d : Nat), A (sN F0) = (s, d, false) → bd 8 F0 s → EX X F0 G0 A F G s d [] := by
          intro hl h54
          have hE0 := hL hl h54
          have l0 : LV F := hl
          have l0f : LV F0 := LV.mo hK hM rfl rfl l0
          intro A s d hA hb
          have E0 := hE0 A s d hA hb
          have lb : s.length ≤ 568 := by have := bd.len hb t43.2; omega
          exact EX.st E0 rfl (fun _ _ _ => rfl)
        exact mtj_inConstant_35 (px := px) (py := py) rc ihK ihM ihT hT x1 z0 (1 : Int32) F G ⟨hK, hM, (show (F 43) = (F0 43) by first | rfl | (simp only [h43, h70, i_as])), (show (F 70) = F0 70 by first | rfl | (simp only [h43, h70, i_as])), (show 0 ≤ (F 60).toInt from h60), hPK, hL3⟩
      · skip
        unfold mb_inConstant_34
        have hL4 : LV F → ¬ F0 54 = 0 → ∀ (A : AN) (s : SH) (d : Nat), A (sN F0) = (s, d, false) → bd 8 F0 s → EX X F0 G0 A F G s d [] := by
          intro hl h54
          have hE0 := hL hl h54
          have l0 : LV F := hl
          have l0f : LV F0 := LV.mo hK hM rfl rfl l0
          intro A s d hA hb
          have E0 := hE0 A s d hA hb
          have lb : s.length ≤ 568 := by have := bd.len hb t43.2; omega
          exact EX.st E0 rfl (fun _ _ _ => rfl)
        exact mtj_inConstant_35 (px := px) (py := py) rc ihK ihM ihT hT x1 z0 (0 : Int32) F G ⟨hK, hM, (show (F 43) = (F0 43) by first | rfl | (simp only [h43, h70, i_as])), (show (F 70) = F0 70 by first | rfl | (simp only [h43, h70, i_as])), (show 0 ≤ (F 60).toInt from h60), hPK, hL4⟩
    · skip
      unfold mb_inConstant_34
      have hL5 : LV F → ¬ F0 54 = 0 → ∀ (A : AN) (s : SH) (d : Nat), A (sN F0) = (s, d, false) → bd 8 F0 s → EX X F0 G0 A F G s d [] := by
        intro hl h54
        have hE0 := hL hl h54
        have l0 : LV F := hl
        have l0f : LV F0 := LV.mo hK hM rfl rfl l0
        intro A s d hA hb
        have E0 := hE0 A s d hA hb
        have lb : s.length ≤ 568 := by have := bd.len hb t43.2; omega
        exact EX.st E0 rfl (fun _ _ _ => rfl)
      exact mtj_inConstant_35 (px := px) (py := py) rc ihK ihM ihT hT x1 z0 (0 : Int32) F G ⟨hK, hM, (show (F 43) = (F0 43) by first | rfl | (simp only [h43, h70, i_as])), (show (F 70) = F0 70 by first | rfl | (simp only [h43, h70, i_as])), (show 0 ≤ (F 60).toInt from h60), hPK, hL5⟩
theorem mtt_inConstant {fu : Nat} {X : TX} {L : List Nat} (rc : RC) (ihK : mKI1 rc) (ihM : mMOI rc) (ihT : mTI X L rc) (x1 : Int32) (F : PF) (G : PG) (hT : TP X L F G) : PP (mh_inConstant fu rc x1 F G) (fun r' F' G' => TQ X 5 x1 0 F G r' F' G') := by
  unfold mh_inConstant
  have t14 := hT.2.2.2.1
  have t24 := hT.2.2.2.2.1
  have t43 : 0 ≤ (F 43).toInt ∧ (F 43).toInt ≤ 40 := ⟨hT.2.2.2.2.2.1, hT.2.2.2.2.2.2.1⟩
  have t70 := hT.2.2.2.2.2.2.2.1
  unfold mb_inConstant_0
  refine PP.ite (fun c_1 => ?_) (fun c_1 => ?_)
  · skip
    unfold mb_inConstant_7
    have hL2 : LV F → ¬ F 54 = 0 → ∀ (A : AN) (s : SH) (d : Nat), A (sN F) = (s, d, false) → bd 8 F s → EX X F G A F G s d [] := by
      intro hl h54
      exact absurd (show F 46 = 0 from c_1) hl.1
    exact mtj_inConstant_16 (px := x1) (py := 0) rc ihK ihM ihT hT x1 (-1 : Int32) F G ⟨(KX.rf : KX [42, 43, 44, 45, 47, 48, 49, 55, 60, 62, 70] [56, 57, 58, 59, 67, 68, 69] F G F G), (MO.rf : MO F F), (show (F 43) = (F 43) by first | rfl | (simp only [i_as])), (show (F 70) = F 70 by first | rfl | (simp only [i_as])), (show 0 ≤ (F 60).toInt from hT.2.2.2.2.2.2.2.2), (fun _ _ => ⟨rfl, rfl⟩ : PKp F G G), hL2⟩
  · skip
    unfold mb_inConstant_11
    refine PP.bind (mp_meaning x1 F G (show 0 ≤ (F 14).toInt by rw [(show KX [42, 43, 44, 45, 47, 48, 49, 55, 60, 62, 70] [56, 57, 58, 59, 67, 68, 69] F G F G from (KX.rf : KX [42, 43, 44, 45, 47, 48, 49, 55, 60, 62, 70] [56, 57, 58, 59, 67, 68, 69] F G F G)).1 14 rfl]; exact t14) (show 0 ≤ (F 24).toInt by rw [(show KX [42, 43, 44, 45, 47, 48, 49, 55, 60, 62, 70] [56, 57, 58, 59, 67, 68, 69] F G F G from (KX.rf : KX [42, 43, 44, 45, 47, 48, 49, 55, 60, 62, 70] [56, 57, 58, 59, 67, 68, 69] F G F G)).1 24 rfl]; exact t24)) ?_
    rintro r3 F3 G3 ⟨rfl, hK3, u3, u3b⟩
    dsimp only
    have mr3 : mnR F r3 := mnR.e u3 ((show KX [42, 43, 44, 45, 47, 48, 49, 55, 60, 62, 70] [56, 57, 58, 59, 67, 68, 69] F G F G from (KX.rf : KX [42, 43, 44, 45, 47, 48, 49, 55, 60, 62, 70] [56, 57, 58, 59, 67, 68, 69] F G F G)).1 14 rfl)
    have mf3 : mnF F F3 := mnF.e u3b ((show KX [42, 43, 44, 45, 47, 48, 49, 55, 60, 62, 70] [56, 57, 58, 59, 67, 68, 69] F G F G from (KX.rf : KX [42, 43, 44, 45, 47, 48, 49, 55, 60, 62, 70] [56, 57, 58, 59, 67, 68, 69] F G F G)).1 24 rfl)
    have k_4 : KX [42, 43, 44, 45, 47, 48, 49, 55, 60, 62, 70] [56, 57, 58, 59, 67, 68, 69] F G F3 G := (KX.tr (KX.rf : KX [42, 43, 44, 45, 47, 48, 49, 55, 60, 62, 70] [56, 57, 58, 59, 67, 68, 69] F G F G) hK3 rfl rfl)
    have k_5 : MO F F3 := (MO.tr (MO.rf : MO F F) (MO.kx hK3 rfl rfl))
    have q_6 : F3 42 = (F 42) := hK3.1 42 rfl
    have q_7 : F3 43 = (F 43) := hK3.1 43 rfl
    have q_8 : F3 70 = (F 70) := hK3.1 70 rfl
    have k_9 : PKp F G G := PKp.kx (show PKp F G G from (fun _ _ => ⟨rfl, rfl⟩ : PKp F G G)) hK3 rfl rfl
    have hL10 : LV F3 → ¬ F 54 = 0 → ∀ (A : AN) (s : SH) (d : Nat), A (sN F) = (s, d, false) → bd 8 F s → EX X F G A F3 G s d [] := by
      intro hl h54
      have l_11 : LV F := LV.mo hK3 (MO.kx hK3 rfl rfl) rfl rfl (show LV F3 from hl)
      have l0 : LV F := l_11
      intro A s d hA hb
      have E0 : EX X F G A F G s d [] := EX.rf hA
      have lb : s.length ≤ 568 := by have := bd.len hb t43.2; omega
      have E12 : EX X F G A F3 G s d [] := EX.st E0 (hK3.1 60 rfl) (fun _ _ _ => rfl)
      exact EX.st E12 rfl (fun _ _ _ => rfl)
    exact mtj_inConstant_16 (px := x1) (py := 0) rc ihK ihM ihT hT x1 r3 F3 G ⟨k_4, k_5, (show (F3 43) = (F 43) by first | rfl | (simp only [q_6, q_7, q_8, i_as])), (show (F3 70) = F 70 by first | rfl | (simp only [q_6, q_7, q_8, i_as])), (show 0 ≤ (F3 60).toInt from (show 0 ≤ (F3 60).toInt by rw [hK3.1 60 rfl]; exact hT.2.2.2.2.2.2.2.2)), k_9, hL10⟩
theorem mtj_call_256 {fu : Nat} {X : TX} {L : List Nat} {px py : Int32} (rc : RC) (ihK : mKI1 rc) (ihM : mMOI rc) (ihT : mTI X L rc) {F0 : PF} {G0 : PG} (hT : TP X L F0 G0) (x1 : Int32) (x4 : Int32) (F : PF) (G : PG) (hA : (KX [42, 43, 44, 45, 47, 48, 49, 55, 60, 62, 70] [56, 57, 58, 59, 67, 68, 69] F0 G0 F G ∧ MO F0 F ∧ F 43 = ((F0 43) + (1 : Int32)) ∧ F 70 = F0 70 ∧ 0 ≤ (F 60).toInt ∧ PKp F0 G0 G ∧ ¬ F0 43 = 40 ∧ sgn (G 4) (G 5) (F 42) (23 : Int32) = false ∧ True) ∨ (KX [42, 43, 44, 45, 47, 48, 49, 55, 60, 62, 70] [56, 57, 58, 59, 67, 68, 69] F0 G0 F G ∧ MO F0 F ∧ F 43 = ((F0 43) + (1 : Int32)) ∧ F 70 = F0 70 ∧ 0 ≤ (F 60).toInt ∧ PKp F0 G0 G ∧ ¬ F0 43 = 40 ∧ (LV F → F0 54 = 0 → (fnR F0 x4) ∧ (¬ x4 = (-1 : Int32)) ∧ (∀ (A : AN) (s : SH) (d : Nat), A (sN F0) = (s, d, false) → bd 8 F0 s → EX X F0 G0 A F G (argS (kindsOf G0 x4.toNatClampNeg) s) d [])))) : PP (mb_call_256 fu rc x1 x4 F G) (fun r' F' G' => TQ X 1 px py F0 G0 r' F' G') := by
  have t14 := hT.2.2.2.1
  have t24 := hT.2.2.2.2.1
  have t43 : 0 ≤ (F0 43).toInt ∧ (F0 43).toInt ≤ 40 := ⟨hT.2.2.2.2.2.1, hT.2.2.2.2.2.2.1⟩
  have t70 := hT.2.2.2.2.2.2.2.1
  rcases hA with ⟨hK, hM, h43, h70, h60, hPK, hne, p0_, hL⟩ | ⟨hK, hM, h43, h70, h60, hPK, hne, hL⟩
  · skip
    unfold mb_call_256
    refine PP.bind (mp_closeSign (23 : Int32) F G) ?_
    rintro r1 F1 G1 (⟨rfl, rfl, rfl, u1⟩ | ⟨rfl, u1, u1b⟩)
    · dsimp only
      exact absurd (Eq.trans (Eq.symm p0_) u1.1) (by decide)
    · dsimp only
      unfold mb_call_262
      refine PP.ite (fun _ => ?_) (fun c_2 => absurd (by decide) c_2)
      unfold mb_call_265
      refine PP.ret ?_
      exact ⟨Or.inl rfl, fun h => absurd h (by decide)⟩
  · skip
    unfold mb_call_256
    refine PP.bind (mp_closeSign (23 : Int32) F G) ?_
    rintro r3 F3 G3 (⟨rfl, rfl, rfl, u3⟩ | ⟨rfl, u3, u3b⟩)
    · dsimp only
      unfold mb_call_262
      refine PP.ite (fun c_4 => absurd c_4 (by decide)) (fun _ => ?_)
      unfold mb_call_267
      refine PP.bind (mq_step (15 : Int32) (0 : Int32) (0 : Int32) (fup (fup F 42 ((F 42) + (1 : Int32))) 43 ((F 43) - (1 : Int32))) G) ?_
      rintro _ F5 G5 ⟨hK5, rfl, e5, g5, n5⟩
      dsimp only
      have k_6 : KX [42, 43, 44, 45, 47, 48, 49, 55, 60, 62, 70] [56, 57, 58, 59, 67, 68, 69] F0 G0 F5 G5 := (KX.tr (KX.f (k := 43) rfl (KX.f (k := 42) rfl hK)) hK5 rfl rfl)
      have k_7 : MO F0 F5 := (MO.tr (MO.f (k := 43) (by decide) (by decide) (MO.f (k := 42) (by decide) (by decide) hM)) (MO.kx hK5 rfl rfl))
      have q_8 : F5 42 = ((F 42) + (1 : Int32)) := hK5.1 42 rfl
      have q_9 : F5 43 = (F0 43) := Eq.trans (hK5.1 43 rfl) (show ((F 43) - (1 : Int32)) = (F0 43) by simp only [h43, h70, i_as])
      have q_10 : F5 70 = (F0 70) := Eq.trans (hK5.1 70 rfl) (show (F 70) = (F0 70) by simp only [h43, h70, i_as])
      have k_11 : PKp F0 G0 G5 := PKp.kx (show PKp F0 G0 G from hPK) hK5 rfl rfl
      unfold mb_call_275
      refine PP.ix (fun _ => ?_)
      refine PP.bind (mq_step (16 : Int32) x4 (G5 6 x1.toNatClampNeg) F5 G5) ?_
      rintro _ F12 G12 ⟨hK12, rfl, e12, g12, n12⟩
      dsimp only
      have k_13 : KX [42, 43, 44, 45, 47, 48, 49, 55, 60, 62, 70] [56, 57, 58, 59, 67, 68, 69] F0 G0 F12 G12 := (KX.tr k_6 hK12 rfl rfl)
      have k_14 : MO F0 F12 := (MO.tr k_7 (MO.kx hK12 rfl rfl))
      have q_15 : F12 42 = ((F 42) + (1 : Int32)) := Eq.trans (hK12.1 42 rfl) (show (F5 42) = ((F 42) + (1 : Int32)) by simp only [q_8, q_9, q_10, h43, h70, i_as])
      have q_16 : F12 43 = (F0 43) := Eq.trans (hK12.1 43 rfl) (show (F5 43) = (F0 43) by simp only [q_8, q_9, q_10, h43, h70, i_as])
      have q_17 : F12 70 = (F0 70) := Eq.trans (hK12.1 70 rfl) (show (F5 70) = (F0 70) by simp only [q_8, q_9, q_10, h43, h70, i_as])
      have k_18 : PKp F0 G0 G12 := PKp.kx (show PKp F0 G0 G5 from k_11) hK12 rfl rfl
      unfold mb_call_290
      refine PP.ret ?_
      refine ⟨Or.inr rfl, fun _ => ⟨(show (F12 43) = F0 43 by first | rfl | (simp only [q_15, q_16, q_17, h43, h70, q_8, q_9, q_10, i_as])), (show (F12 70) = F0 70 by first | rfl | (simp only [q_15, q_16, q_17, h43, h70, q_8, q_9, q_10, i_as])), (show 0 ≤ (F12 60).toInt from (inc60 n12 e12)), k_18, fun hl => ?_⟩⟩
      show F0 54 = 0 → TE X F0 G0 F12 G12 8 (fun s => 0 :: s)
      intro h54
      have l_19 : LV F5 := LV.mo hK12 (MO.kx hK12 rfl rfl) rfl rfl (show LV F12 from hl)
      have l_20 : LV (fup (fup F 42 ((F 42) + (1 : Int32))) 43 ((F 43) - (1 : Int32))) := LV.mo hK5 (MO.kx hK5 rfl rfl) rfl rfl (show LV F5 from l_19)
      obtain ⟨x0_, x1_, hE0⟩ := hL l_20 h54
      have l0 : LV F := l_20
      have l0f : LV F0 := LV.mo hK hM rfl rfl l0
      intro A s d hA hb
      have hm : X.1 = false := hT.m.1 h54
      have E0 := hE0 A s d hA hb
      have cp := call_pre (s := s) hT h54 hne (fnR.ok x0_ x1_) hb
      have cl := And.intro cp.1 (And.intro cp.2.1 (And.intro cp.2.2.1 cp.2.2.2.1))
      have cl0 := cp.2.2.2.2
      have lb : s.length ≤ 568 := by have := bd.len hb t43.2; omega
      have E21 : EX X F0 G0 A (fup (fup F 42 ((F 42) + (1 : Int32))) 43 ((F 43) - (1 : Int32))) G (argS (kindsOf G0 x4.toNatClampNeg) s) d [] := EX.st E0 rfl (fun _ _ _ => rfl)
      have E22 : EX X F0 G0 A F12 G12 (0 :: s) d [] := EX.call E21 n5 e5 g5 n12 e12 g12 (by have := cl0; omega) hm cl.1 cl.2.1 cl.2.2.1 cl.2.2.2
      exact EX.st E22 rfl (fun _ _ _ => rfl)
    · dsimp only
      unfold mb_call_262
      refine PP.ite (fun _ => ?_) (fun c_23 => absurd (by decide) c_23)
      unfold mb_call_265
      refine PP.ret ?_
      exact ⟨Or.inl rfl, fun h => absurd h (by decide)⟩
theorem mtz_call_156 {fu : Nat} {X : TX} {L : List Nat} {px py : Int32} (rc : RC) (ihK : mKI1 rc) (ihM : mMOI rc) (ihT : mTI X L rc) {F0 : PF} {G0 : PG} (hT : TP X L F0 G0) : ∀ (n : Nat) (x1 : Int32) (x4 : Int32) (x5 : Int32) (x6 : Int32) (F : PF) (G : PG) (hA : (KX [42, 43, 44, 45, 47, 48, 49, 55, 60, 62, 70] [56, 57, 58, 59, 67, 68, 69] F0 G0 F G ∧ MO F0 F ∧ F 43 = ((F0 43) + (1 : Int32)) ∧ F 70 = F0 70 ∧ 0 ≤ (F 60).toInt ∧ PKp F0 G0 G ∧ ¬ F0 43 = 40 ∧ (LV F → F0 54 = 0 → (fnR F0 x4) ∧ (¬ x4 = (-1 : Int32)) ∧ (0 ≤ x5.toInt) ∧ (∀ (A : AN) (s : SH) (d : Nat), A (sN F0) = (s, d, false) → bd 8 F0 s → EX X F0 G0 A F G (argS ((kindsOf G0 x4.toNatClampNeg).take x5.toInt.toNat) s) d [])))), PP (ml_call_156 fu rc n x1 x4 x5 x6 F G) (fun r' F' G' => TQ X 1 px py F0 G0 r' F' G') := by
  intro n
  induction n with
  | zero =>
    intro x1 x4 x5 x6 F G hA
    exact PP.no
  | succ n ihn =>
    intro x1 x4 x5 x6 F G hA
    show PP (mb_call_156 fu rc (ml_call_156 fu rc n) x1 x4 x5 x6 F G) _
    have t14 := hT.2.2.2.1
    have t24 := hT.2.2.2.2.1
    have t43 : 0 ≤ (F0 43).toInt ∧ (F0 43).toInt ≤ 40 := ⟨hT.2.2.2.2.2.1, hT.2.2.2.2.2.2.1⟩
    have t70 := hT.2.2.2.2.2.2.2.1
    rcases hA with ⟨hK, hM, h43, h70, h60, hPK, hne, hL⟩
    · skip
      unfold mb_call_156
      refine PP.ite (fun c_1 => ?_) (fun c_1 => ?_)
      · skip
        unfold mb_call_207
        refine PP.ite (fun c_2 => ?_) (fun c_2 => ?_)
        · skip
          have m_3 : F0 54 = 0 := Eq.trans (Eq.symm ((show KX [42, 43, 44, 45, 47, 48, 49, 55, 60, 62, 70] [56, 57, 58, 59, 67, 68, 69] F0 G0 F G from hK).1 54 rfl)) (show (F 54) = 0 from c_2)
          unfold mb_call_214
          refine PP.ite (fun c_4 => ?_) (fun c_4 => ?_)
          · skip
            have hL5 : LV F → F0 54 = 0 → (fnR F0 x4) ∧ (¬ x4 = (-1 : Int32)) ∧ (∀ (A : AN) (s : SH) (d : Nat), A (sN F0) = (s, d, false) → bd 8 F0 s → EX X F0 G0 A F G (argS (kindsOf G0 x4.toNatClampNeg) s) d []) := by
              intro hl h54
              obtain ⟨x0_, x1_, x2_, hE0⟩ := hL hl h54
              have l0 : LV F := hl
              have l0f : LV F0 := LV.mo hK hM rfl rfl l0
              exact absurd c_4 x1_
            exact mtj_call_256 (px := px) (py := py) rc ihK ihM ihT hT x1 x4 F G (Or.inr ⟨hK, hM, (show (F 43) = ((F0 43) + (1 : Int32)) by first | rfl | (simp only [h43, h70, i_as])), (show (F 70) = F0 70 by first | rfl | (simp only [h43, h70, i_as])), (show 0 ≤ (F 60).toInt from h60), hPK, hne, hL5⟩)
          · skip
            unfold mb_call_220
            refine PP.ix (fun _ => ?_)
            refine PP.ite (fun c_6 => ?_) (fun c_6 => ?_)
            · skip
              have w_7 := i_le.mp c_6
              have hL8 : LV F → F0 54 = 0 → (fnR F0 x4) ∧ (¬ x4 = (-1 : Int32)) ∧ (∀ (A : AN) (s : SH) (d : Nat), A (sN F0) = (s, d, false) → bd 8 F0 s → EX X F0 G0 A F G (argS (kindsOf G0 x4.toNatClampNeg) s) d []) := by
                intro hl h54
                obtain ⟨x0_, x1_, x2_, hE0⟩ := hL hl h54
                have l0 : LV F := hl
                have l0f : LV F0 := LV.mo hK hM rfl rfl l0
                have fok : FOK F0 x4 := fnR.ok x0_ x1_
                have fok1 : FOK F x4 := FOK.kx fok hK rfl
                refine ⟨(by first | assumption | contradiction | exact trivial | exact x0_ | exact x1_ | exact (fun q => absurd q.1 (by assumption)) | exact (fun q => absurd q.2 (by assumption)) | exact (fun q => x1_ ⟨by assumption, q⟩) | decide | omega), (by first | assumption | contradiction | exact trivial | exact x0_ | exact x1_ | exact (fun q => absurd q.1 (by assumption)) | exact (fun q => absurd q.2 (by assumption)) | exact (fun q => x1_ ⟨by assumption, q⟩) | decide | omega), ?_⟩
                intro A s d hA hb
                have hm : X.1 = false := hT.m.1 m_3
                have E0 := hE0 A s d hA hb
                have lb : s.length ≤ 568 := by have := bd.len hb t43.2; omega
                rw [← argS_all (s := s) hT hK rfl fok x2_ (by omega)]
                exact EX.st E0 rfl (fun _ _ _ => rfl)
              exact mtj_call_256 (px := px) (py := py) rc ihK ihM ihT hT x1 x4 F G (Or.inr ⟨hK, hM, (show (F 43) = ((F0 43) + (1 : Int32)) by first | rfl | (simp only [h43, h70, i_as])), (show (F 70) = F0 70 by first | rfl | (simp only [h43, h70, i_as])), (show 0 ≤ (F 60).toInt from h60), hPK, hne, hL8⟩)
            · skip
              have w_9 := mt i_le.mpr c_6
              unfold mb_call_232
              refine PP.bind (mp_isSign (23 : Int32) F G) ?_
              rintro _ _ _ ⟨rfl, rfl, (⟨rfl, u10⟩ | ⟨rfl, u10⟩)⟩
              · dsimp only
                unfold mb_call_238
                refine PP.ite (fun c_11 => absurd c_11 (by decide)) (fun _ => ?_)
                unfold mb_call_241
                refine PP.ix (fun _ => ?_)
                refine PP.bind (PP.and (mp_note (7 : Int32) (G 6 (F 42).toNatClampNeg) (by decide) F G) (mm_note (7 : Int32) (G 6 (F 42).toNatClampNeg) (by decide) F G)) ?_
                rintro r12 F12 G12 ⟨⟨hK12, rfl, u12, -⟩, hM12⟩
                dsimp only
                have k_13 : KX [42, 43, 44, 45, 47, 48, 49, 55, 60, 62, 70] [56, 57, 58, 59, 67, 68, 69] F0 G0 F12 G := (KX.tr hK hK12 rfl rfl)
                have k_14 : MO F0 F12 := (MO.tr hM hM12)
                have q_15 : F12 42 = (F 42) := hK12.1 42 rfl
                have q_16 : F12 43 = ((F0 43) + (1 : Int32)) := Eq.trans (hK12.1 43 rfl) (show (F 43) = ((F0 43) + (1 : Int32)) by simp only [h43, h70, i_as])
                have q_17 : F12 70 = (F0 70) := Eq.trans (hK12.1 70 rfl) (show (F 70) = (F0 70) by simp only [h43, h70, i_as])
                have k_18 : PKp F0 G0 G := PKp.kx (show PKp F0 G0 G from hPK) hK12 rfl rfl
                have hL19 : LV F12 → F0 54 = 0 → (fnR F0 x4) ∧ (¬ x4 = (-1 : Int32)) ∧ (∀ (A : AN) (s : SH) (d : Nat), A (sN F0) = (s, d, false) → bd 8 F0 s → EX X F0 G0 A F12 G (argS (kindsOf G0 x4.toNatClampNeg) s) d []) := by
                  intro hl h54
                  have l_20 : LV F := LV.mo hK12 hM12 rfl rfl (show LV F12 from hl)
                  exact absurd (u12 l_20.1) (by rw [(show LV F12 from hl).2.1 (Eq.trans (k_13.1 54 rfl) m_3)]; decide)
                exact mtj_call_256 (px := px) (py := py) rc ihK ihM ihT hT x1 x4 F12 G (Or.inr ⟨k_13, k_14, (show (F12 43) = ((F0 43) + (1 : Int32)) by first | rfl | (simp only [q_15, q_16, q_17, h43, h70, i_as])), (show (F12 70) = F0 70 by first | rfl | (simp only [q_15, q_16, q_17, h43, h70, i_as])), (show 0 ≤ (F12 60).toInt from (show 0 ≤ (F12 60).toInt by rw [hK12.1 60 rfl]; exact h60)), k_18, hne, hL19⟩)
              · dsimp only
                unfold mb_call_238
                refine PP.ite (fun _ => ?_) (fun c_21 => absurd (by decide) c_21)
                exact mtj_call_256 (px := px) (py := py) rc ihK ihM ihT hT x1 x4 F G (Or.inl ⟨hK, hM, (show (F 43) = ((F0 43) + (1 : Int32)) by first | rfl | (simp only [h43, h70, i_as])), (show (F 70) = F0 70 by first | rfl | (simp only [h43, h70, i_as])), (show 0 ≤ (F 60).toInt from h60), hPK, hne, (by assumption), trivial⟩)
        · skip
          have m_22 : ¬ F0 54 = 0 := fun q => (show ¬ (F 54) = 0 from c_2) (Eq.trans ((show KX [42, 43, 44, 45, 47, 48, 49, 55, 60, 62, 70] [56, 57, 58, 59, 67, 68, 69] F0 G0 F G from hK).1 54 rfl) q)
          have hL23 : LV F → F0 54 = 0 → (fnR F0 x4) ∧ (¬ x4 = (-1 : Int32)) ∧ (∀ (A : AN) (s : SH) (d : Nat), A (sN F0) = (s, d, false) → bd 8 F0 s → EX X F0 G0 A F G (argS (kindsOf G0 x4.toNatClampNeg) s) d []) := by
            intro hl h54
            exact absurd h54 m_22
          exact mtj_call_256 (px := px) (py := py) rc ihK ihM ihT hT x1 x4 F G (Or.inr ⟨hK, hM, (show (F 43) = ((F0 43) + (1 : Int32)) by first | rfl | (simp only [h43, h70, i_as])), (show (F 70) = F0 70 by first | rfl | (simp only [h43, h70, i_as])), (show 0 ≤ (F 60).toInt from h60), hPK, hne, hL23⟩)
      · skip
        unfold mb_call_161
        refine PP.bind (PP.and (ihK 0 x4 x5 F G) (PP.and (ihM 0 x4 x5 F G) (ihT 0 x4 x5 F G (TP.kx hT hK (fun q => (hM).1 q) rfl (show 0 ≤ (F 43).toInt ∧ (F 43).toInt ≤ 40 by first | exact (o_inc t43 hne).2 | (simp only [h43, h70, i_as]; exact (o_inc t43 hne).2)) (show 0 ≤ (F 70).toInt by first | exact t70 | (simp only [h43, h70, i_as]; exact t70)) (show 0 ≤ (F 60).toInt from h60))))) ?_
        rintro r24 F24 G24 ⟨hK24, hM24, (rfl | rfl), u24⟩
        · dsimp only
          unfold mb_call_169
          refine PP.ite (fun _ => ?_) (fun c_25 => absurd (by decide) c_25)
          unfold mb_call_172
          refine PP.ret ?_
          exact ⟨Or.inl rfl, fun h => absurd h (by decide)⟩
        · dsimp only
          obtain ⟨u24a, u24b, u24c, u24d, u24e⟩ := u24 rfl
          have k_26 : KX [42, 43, 44, 45, 47, 48, 49, 55, 60, 62, 70] [56, 57, 58, 59, 67, 68, 69] F0 G0 F24 G24 := (KX.tr hK hK24 rfl rfl)
          have k_27 : MO F0 F24 := (MO.tr hM hM24)
          have q_28 : F24 43 = ((F0 43) + (1 : Int32)) := Eq.trans u24a (show (F 43) = ((F0 43) + (1 : Int32)) by simp only [h43, h70, i_as])
          have q_29 : F24 70 = (F0 70) := Eq.trans u24b (show (F 70) = (F0 70) by simp only [h43, h70, i_as])
          have q_30 : F 70 = F0 70 := (show (F 70) = F0 70 by first | rfl | (simp only [h43, h70, i_as]))
          have k_31 : PKp F0 G0 G24 := PKp.tr (show PKp F0 G0 G from hPK) u24d q_30
          unfold mb_call_169
          refine PP.ite (fun c_32 => absurd c_32 (by decide)) (fun _ => ?_)
          unfold mb_call_174
          refine PP.bind (mp_isSign (28 : Int32) F24 G24) ?_
          rintro _ _ _ ⟨rfl, rfl, (⟨rfl, u33⟩ | ⟨rfl, u33⟩)⟩
          · dsimp only
            unfold mb_call_183
            refine PP.ite (fun c_34 => absurd c_34 (by decide)) (fun _ => ?_)
            unfold mb_call_195
            unfold mb_call_200
            unfold mb_call_204
            have hL35 : LV (fup F24 42 ((F24 42) + (1 : Int32))) → F0 54 = 0 → (fnR F0 x4) ∧ (¬ x4 = (-1 : Int32)) ∧ (0 ≤ (x5 + (1 : Int32)).toInt) ∧ (∀ (A : AN) (s : SH) (d : Nat), A (sN F0) = (s, d, false) → bd 8 F0 s → EX X F0 G0 A (fup F24 42 ((F24 42) + (1 : Int32))) G24 (argS ((kindsOf G0 x4.toNatClampNeg).take (x5 + (1 : Int32)).toInt.toNat) s) d []) := by
              intro hl h54
              have l_36 : LV F := LV.mo hK24 hM24 rfl rfl (show LV F24 from hl)
              obtain ⟨x0_, x1_, x2_, hE0⟩ := hL l_36 h54
              have l0 : LV F := l_36
              have l0f : LV F0 := LV.mo hK hM rfl rfl l0
              have fok : FOK F0 x4 := fnR.ok x0_ x1_
              have fok1 : FOK F x4 := FOK.kx fok hK rfl
              have ar0 := ((show F 54 = 0 → FOK F x4 → 0 ≤ x5.toInt → x5.toInt < (G 27 x4.toNatClampNeg).toInt ∧ TE X F G F24 G24 0 (pushK (G 34 (G 31 x4.toNatClampNeg + x5).toNatClampNeg).toInt.toNat) from u24e (show LV F24 from hl)) (Eq.trans (show F 54 = F0 54 from (show KX [42, 43, 44, 45, 47, 48, 49, 55, 60, 62, 70] [56, 57, 58, 59, 67, 68, 69] F0 G0 F G from hK).1 54 rfl) h54) fok1 x2_).1
              have ak := (argS_take (s := []) hT h54 hK rfl fok x2_ ar0).2.2.2
              have ny1 := x2_
              refine ⟨(by first | assumption | contradiction | exact trivial | exact x0_ | exact x1_ | exact (fun q => absurd q.1 (by assumption)) | exact (fun q => absurd q.2 (by assumption)) | exact (fun q => x1_ ⟨by assumption, q⟩) | decide | omega), (by first | assumption | contradiction | exact trivial | exact x0_ | exact x1_ | exact (fun q => absurd q.1 (by assumption)) | exact (fun q => absurd q.2 (by assumption)) | exact (fun q => x1_ ⟨by assumption, q⟩) | decide | omega), (by first | assumption | contradiction | exact trivial | exact x0_ | exact x1_ | exact (fun q => absurd q.1 (by assumption)) | exact (fun q => absurd q.2 (by assumption)) | exact (fun q => x1_ ⟨by assumption, q⟩) | decide | omega), ?_⟩
              intro A s d hA hb
              have hm : X.1 = false := hT.m.1 h54
              have E0 := hE0 A s d hA hb
              have lb : s.length ≤ 568 := by have := bd.len hb t43.2; omega
              have ar1 := (show F 54 = 0 → FOK F x4 → 0 ≤ x5.toInt → x5.toInt < (G 27 x4.toNatClampNeg).toInt ∧ TE X F G F24 G24 0 (pushK (G 34 (G 31 x4.toNatClampNeg + x5).toNatClampNeg).toInt.toNat) from u24e (show LV F24 from hl)) (Eq.trans (show F 54 = F0 54 from (show KX [42, 43, 44, 45, 47, 48, 49, 55, 60, 62, 70] [56, 57, 58, 59, 67, 68, 69] F0 G0 F G from hK).1 54 rfl) h54) fok1 ny1
              have at1 := argS_take (s := s) hT h54 hK rfl fok x2_ ar1.1
              have ag0 : (argS ((kindsOf G0 x4.toNatClampNeg).take x5.toInt.toNat) s).length ≤ s.length + 6 := by
                have q1 := argS_len ((kindsOf G0 x4.toNatClampNeg).take x5.toInt.toNat) s
                have q2 := List.length_take_le x5.toInt.toNat (kindsOf G0 x4.toNatClampNeg)
                have q3 := at1.2.2.1
                omega
              have E37 : EX X F0 G0 A F24 G24 (pushK (G 34 (G 31 x4.toNatClampNeg + x5).toNatClampNeg).toInt.toNat (argS ((kindsOf G0 x4.toNatClampNeg).take x5.toInt.toNat) s)) d [] := EX.tr E0 (fun A1 hA1 => (ar1).2 A1 _ _ hA1 (bd.mv (e := 1) (c := 6) hb (show F 54 = F0 54 from (show KX [42, 43, 44, 45, 47, 48, 49, 55, 60, 62, 70] [56, 57, 58, 59, 67, 68, 69] F0 G0 F G from hK).1 54 rfl) (show (F 43).toInt = (F0 43).toInt + 1 by rw [show F 43 = F0 43 + 1 from by first | rfl | (simp only [q_28, q_29, h43, h70, i_as, fup, Nat.reduceEqDiff, reduceIte, if_false])]; exact (o_inc t43 hne).1) ag0 (by omega)))
              rw [at1.1]
              exact EX.st E37 rfl (fun _ _ _ => rfl)
            exact ihn x1 x4 (x5 + (1 : Int32)) (1 : Int32) (fup F24 42 ((F24 42) + (1 : Int32))) G24 ⟨(KX.f (k := 42) rfl k_26), (MO.f (k := 42) (by decide) (by decide) k_27), (show (F24 43) = ((F0 43) + (1 : Int32)) by first | rfl | (simp only [q_28, q_29, h43, h70, i_as])), (show (F24 70) = F0 70 by first | rfl | (simp only [q_28, q_29, h43, h70, i_as])), (show 0 ≤ (F24 60).toInt from u24c), k_31, hne, hL35⟩
          · dsimp only
            unfold mb_call_183
            refine PP.ite (fun _ => ?_) (fun c_38 => absurd (by decide) c_38)
            unfold mb_call_199
            unfold mb_call_200
            unfold mb_call_204
            have hL39 : LV (fup F24 42 ((F24 42) + (0 : Int32))) → F0 54 = 0 → (fnR F0 x4) ∧ (¬ x4 = (-1 : Int32)) ∧ (0 ≤ (x5 + (1 : Int32)).toInt) ∧ (∀ (A : AN) (s : SH) (d : Nat), A (sN F0) = (s, d, false) → bd 8 F0 s → EX X F0 G0 A (fup F24 42 ((F24 42) + (0 : Int32))) G24 (argS ((kindsOf G0 x4.toNatClampNeg).take (x5 + (1 : Int32)).toInt.toNat) s) d []) := by
              intro hl h54
              have l_40 : LV F := LV.mo hK24 hM24 rfl rfl (show LV F24 from hl)
              obtain ⟨x0_, x1_, x2_, hE0⟩ := hL l_40 h54
              have l0 : LV F := l_40
              have l0f : LV F0 := LV.mo hK hM rfl rfl l0
              have fok : FOK F0 x4 := fnR.ok x0_ x1_
              have fok1 : FOK F x4 := FOK.kx fok hK rfl
              have ar0 := ((show F 54 = 0 → FOK F x4 → 0 ≤ x5.toInt → x5.toInt < (G 27 x4.toNatClampNeg).toInt ∧ TE X F G F24 G24 0 (pushK (G 34 (G 31 x4.toNatClampNeg + x5).toNatClampNeg).toInt.toNat) from u24e (show LV F24 from hl)) (Eq.trans (show F 54 = F0 54 from (show KX [42, 43, 44, 45, 47, 48, 49, 55, 60, 62, 70] [56, 57, 58, 59, 67, 68, 69] F0 G0 F G from hK).1 54 rfl) h54) fok1 x2_).1
              have ak := (argS_take (s := []) hT h54 hK rfl fok x2_ ar0).2.2.2
              have ny1 := x2_
              refine ⟨(by first | assumption | contradiction | exact trivial | exact x0_ | exact x1_ | exact (fun q => absurd q.1 (by assumption)) | exact (fun q => absurd q.2 (by assumption)) | exact (fun q => x1_ ⟨by assumption, q⟩) | decide | omega), (by first | assumption | contradiction | exact trivial | exact x0_ | exact x1_ | exact (fun q => absurd q.1 (by assumption)) | exact (fun q => absurd q.2 (by assumption)) | exact (fun q => x1_ ⟨by assumption, q⟩) | decide | omega), (by first | assumption | contradiction | exact trivial | exact x0_ | exact x1_ | exact (fun q => absurd q.1 (by assumption)) | exact (fun q => absurd q.2 (by assumption)) | exact (fun q => x1_ ⟨by assumption, q⟩) | decide | omega), ?_⟩
              intro A s d hA hb
              have hm : X.1 = false := hT.m.1 h54
              have E0 := hE0 A s d hA hb
              have lb : s.length ≤ 568 := by have := bd.len hb t43.2; omega
              have ar1 := (show F 54 = 0 → FOK F x4 → 0 ≤ x5.toInt → x5.toInt < (G 27 x4.toNatClampNeg).toInt ∧ TE X F G F24 G24 0 (pushK (G 34 (G 31 x4.toNatClampNeg + x5).toNatClampNeg).toInt.toNat) from u24e (show LV F24 from hl)) (Eq.trans (show F 54 = F0 54 from (show KX [42, 43, 44, 45, 47, 48, 49, 55, 60, 62, 70] [56, 57, 58, 59, 67, 68, 69] F0 G0 F G from hK).1 54 rfl) h54) fok1 ny1
              have at1 := argS_take (s := s) hT h54 hK rfl fok x2_ ar1.1
              have ag0 : (argS ((kindsOf G0 x4.toNatClampNeg).take x5.toInt.toNat) s).length ≤ s.length + 6 := by
                have q1 := argS_len ((kindsOf G0 x4.toNatClampNeg).take x5.toInt.toNat) s
                have q2 := List.length_take_le x5.toInt.toNat (kindsOf G0 x4.toNatClampNeg)
                have q3 := at1.2.2.1
                omega
              have E41 : EX X F0 G0 A F24 G24 (pushK (G 34 (G 31 x4.toNatClampNeg + x5).toNatClampNeg).toInt.toNat (argS ((kindsOf G0 x4.toNatClampNeg).take x5.toInt.toNat) s)) d [] := EX.tr E0 (fun A1 hA1 => (ar1).2 A1 _ _ hA1 (bd.mv (e := 1) (c := 6) hb (show F 54 = F0 54 from (show KX [42, 43, 44, 45, 47, 48, 49, 55, 60, 62, 70] [56, 57, 58, 59, 67, 68, 69] F0 G0 F G from hK).1 54 rfl) (show (F 43).toInt = (F0 43).toInt + 1 by rw [show F 43 = F0 43 + 1 from by first | rfl | (simp only [q_28, q_29, h43, h70, i_as, fup, Nat.reduceEqDiff, reduceIte, if_false])]; exact (o_inc t43 hne).1) ag0 (by omega)))
              rw [at1.1]
              exact EX.st E41 rfl (fun _ _ _ => rfl)
            exact ihn x1 x4 (x5 + (1 : Int32)) (0 : Int32) (fup F24 42 ((F24 42) + (0 : Int32))) G24 ⟨(KX.f (k := 42) rfl k_26), (MO.f (k := 42) (by decide) (by decide) k_27), (show (F24 43) = ((F0 43) + (1 : Int32)) by first | rfl | (simp only [q_28, q_29, h43, h70, i_as])), (show (F24 70) = F0 70 by first | rfl | (simp only [q_28, q_29, h43, h70, i_as])), (show 0 ≤ (F24 60).toInt from u24c), k_31, hne, hL39⟩
theorem mtj_call_126 {fu : Nat} {X : TX} {L : List Nat} {px py : Int32} (rc : RC) (ihK : mKI1 rc) (ihM : mMOI rc) (ihT : mTI X L rc) {F0 : PF} {G0 : PG} (hT : TP X L F0 G0) (x1 : Int32) (x4 : Int32) (F : PF) (G : PG) (hA : (KX [42, 43, 44, 45, 47, 48, 49, 55, 60, 62, 70] [56, 57, 58, 59, 67, 68, 69] F0 G0 F G ∧ MO F0 F ∧ F 43 = (F0 43) ∧ F 70 = F0 70 ∧ 0 ≤ (F 60).toInt ∧ PKp F0 G0 G ∧ (LV F → F0 54 = 0 → (fnR F0 x4) ∧ (¬ x4 = (-1 : Int32)) ∧ (∀ (A : AN) (s : SH) (d : Nat), A (sN F0) = (s, d, false) → bd 8 F0 s → EX X F0 G0 A F G s d [])))) : PP (mb_call_126 fu rc x1 x4 F G) (fun r' F' G' => TQ X 1 px py F0 G0 r' F' G') := by
  have t14 := hT.2.2.2.1
  have t24 := hT.2.2.2.2.1
  have t43 : 0 ≤ (F0 43).toInt ∧ (F0 43).toInt ≤ 40 := ⟨hT.2.2.2.2.2.1, hT.2.2.2.2.2.2.1⟩
  have t70 := hT.2.2.2.2.2.2.2.1
  rcases hA with ⟨hK, hM, h43, h70, h60, hPK, hL⟩
  · skip
    unfold mb_call_126
    refine PP.bind (mp_openSign (22 : Int32) F G) ?_
    rintro r1 F1 G1 (⟨rfl, rfl, rfl, u1⟩ | ⟨rfl, u1, u1b⟩)
    · dsimp only
      have o_2 : ¬ F0 43 = 40 := by
        have q : ¬ (F 43) = 40 := u1.2.1
        first | exact q | (simp only [h43, h70, i_as] at q; exact q)
      unfold mb_call_132
      refine PP.ite (fun c_3 => absurd c_3 (by decide)) (fun _ => ?_)
      unfold mb_call_137
      refine PP.bind (mp_isSign (23 : Int32) (fup (fup F 43 ((F 43) + (1 : Int32))) 42 ((F 42) + (1 : Int32))) G) ?_
      rintro _ _ _ ⟨rfl, rfl, (⟨rfl, u4⟩ | ⟨rfl, u4⟩)⟩
      · dsimp only
        unfold mb_call_146
        refine PP.ite (fun c_5 => absurd c_5 (by decide)) (fun _ => ?_)
        unfold mb_call_153
        unfold mb_call_154
        have hL6 : LV (fup (fup F 43 ((F 43) + (1 : Int32))) 42 ((F 42) + (1 : Int32))) → F0 54 = 0 → (fnR F0 x4) ∧ (¬ x4 = (-1 : Int32)) ∧ (0 ≤ (0 : Int32).toInt) ∧ (∀ (A : AN) (s : SH) (d : Nat), A (sN F0) = (s, d, false) → bd 8 F0 s → EX X F0 G0 A (fup (fup F 43 ((F 43) + (1 : Int32))) 42 ((F 42) + (1 : Int32))) G (argS ((kindsOf G0 x4.toNatClampNeg).take (0 : Int32).toInt.toNat) s) d []) := by
          intro hl h54
          obtain ⟨x0_, x1_, hE0⟩ := hL hl h54
          have l0 : LV F := hl
          have l0f : LV F0 := LV.mo hK hM rfl rfl l0
          refine ⟨(by first | assumption | contradiction | exact trivial | exact x0_ | exact x1_ | exact (fun q => absurd q.1 (by assumption)) | exact (fun q => absurd q.2 (by assumption)) | exact (fun q => x1_ ⟨by assumption, q⟩) | decide | omega), (by first | assumption | contradiction | exact trivial | exact x0_ | exact x1_ | exact (fun q => absurd q.1 (by assumption)) | exact (fun q => absurd q.2 (by assumption)) | exact (fun q => x1_ ⟨by assumption, q⟩) | decide | omega), (by first | assumption | contradiction | exact trivial | exact x0_ | exact x1_ | exact (fun q => absurd q.1 (by assumption)) | exact (fun q => absurd q.2 (by assumption)) | exact (fun q => x1_ ⟨by assumption, q⟩) | decide | omega), ?_⟩
          intro A s d hA hb
          have hm : X.1 = false := hT.m.1 h54
          have E0 := hE0 A s d hA hb
          have lb : s.length ≤ 568 := by have := bd.len hb t43.2; omega
          exact EX.st E0 rfl (fun _ _ _ => rfl)
        exact mtz_call_156 (px := px) (py := py) rc ihK ihM ihT hT fu x1 x4 (0 : Int32) (0 : Int32) (fup (fup F 43 ((F 43) + (1 : Int32))) 42 ((F 42) + (1 : Int32))) G ⟨(KX.f (k := 42) rfl (KX.f (k := 43) rfl hK)), (MO.f (k := 42) (by decide) (by decide) (MO.f (k := 43) (by decide) (by decide) hM)), (show ((F 43) + (1 : Int32)) = ((F0 43) + (1 : Int32)) by first | rfl | (simp only [h43, h70, i_as])), (show (F 70) = F0 70 by first | rfl | (simp only [h43, h70, i_as])), (show 0 ≤ (F 60).toInt from h60), hPK, o_2, hL6⟩
      · dsimp only
        unfold mb_call_146
        refine PP.ite (fun _ => ?_) (fun c_7 => absurd (by decide) c_7)
        unfold mb_call_149
        unfold mb_call_154
        have hL8 : LV (fup (fup F 43 ((F 43) + (1 : Int32))) 42 ((F 42) + (1 : Int32))) → F0 54 = 0 → (fnR F0 x4) ∧ (¬ x4 = (-1 : Int32)) ∧ (0 ≤ (0 : Int32).toInt) ∧ (∀ (A : AN) (s : SH) (d : Nat), A (sN F0) = (s, d, false) → bd 8 F0 s → EX X F0 G0 A (fup (fup F 43 ((F 43) + (1 : Int32))) 42 ((F 42) + (1 : Int32))) G (argS ((kindsOf G0 x4.toNatClampNeg).take (0 : Int32).toInt.toNat) s) d []) := by
          intro hl h54
          obtain ⟨x0_, x1_, hE0⟩ := hL hl h54
          have l0 : LV F := hl
          have l0f : LV F0 := LV.mo hK hM rfl rfl l0
          refine ⟨(by first | assumption | contradiction | exact trivial | exact x0_ | exact x1_ | exact (fun q => absurd q.1 (by assumption)) | exact (fun q => absurd q.2 (by assumption)) | exact (fun q => x1_ ⟨by assumption, q⟩) | decide | omega), (by first | assumption | contradiction | exact trivial | exact x0_ | exact x1_ | exact (fun q => absurd q.1 (by assumption)) | exact (fun q => absurd q.2 (by assumption)) | exact (fun q => x1_ ⟨by assumption, q⟩) | decide | omega), (by first | assumption | contradiction | exact trivial | exact x0_ | exact x1_ | exact (fun q => absurd q.1 (by assumption)) | exact (fun q => absurd q.2 (by assumption)) | exact (fun q => x1_ ⟨by assumption, q⟩) | decide | omega), ?_⟩
          intro A s d hA hb
          have hm : X.1 = false := hT.m.1 h54
          have E0 := hE0 A s d hA hb
          have lb : s.length ≤ 568 := by have := bd.len hb t43.2; omega
          exact EX.st E0 rfl (fun _ _ _ => rfl)
        exact mtz_call_156 (px := px) (py := py) rc ihK ihM ihT hT fu x1 x4 (0 : Int32) (1 : Int32) (fup (fup F 43 ((F 43) + (1 : Int32))) 42 ((F 42) + (1 : Int32))) G ⟨(KX.f (k := 42) rfl (KX.f (k := 43) rfl hK)), (MO.f (k := 42) (by decide) (by decide) (MO.f (k := 43) (by decide) (by decide) hM)), (show ((F 43) + (1 : Int32)) = ((F0 43) + (1 : Int32)) by first | rfl | (simp only [h43, h70, i_as])), (show (F 70) = F0 70 by first | rfl | (simp only [h43, h70, i_as])), (show 0 ≤ (F 60).toInt from h60), hPK, o_2, hL8⟩
    · dsimp only
      unfold mb_call_132
      refine PP.ite (fun _ => ?_) (fun c_9 => absurd (by decide) c_9)
      unfold mb_call_135
      refine PP.ret ?_
      exact ⟨Or.inl rfl, fun h => absurd h (by decide)⟩
