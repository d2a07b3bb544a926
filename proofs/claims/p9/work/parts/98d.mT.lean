theorem mtj_call_87 {fu : Nat} {X : TX} {L : List Nat} {px py : Int32} (rc : RC) (ihK : mKI1 rc) (ihM : mMOI rc) (ihT : mTI X L rc) {F0 : PF} {G0 : PG} (hT : TP X L F0 G0) (x1 : Int32) (x2 : Int32) (x4 : Int32) (F : PF) (G : PG) (hA : (KX [42, 43, 44, 45, 47, 48, 49, 55, 60, 62, 70] [56, 57, 58, 59, 67, 68, 69] F0 G0 F G ∧ MO F0 F ∧ F 43 = (F0 43) ∧ F 70 = F0 70 ∧ 0 ≤ (F 60).toInt ∧ PKp F0 G0 G ∧ (LV F → F0 54 = 0 → (fnR F0 x4) ∧ (¬ x4 = (-1 : Int32)) ∧ (∀ (A : AN) (s : SH) (d : Nat), A (sN F0) = (s, d, false) → bd 8 F0 s → EX X F0 G0 A F G s d [])))) : PP (mb_call_87 fu rc x1 x2 x4 F G) (fun r' F' G' => TQ X 1 px py F0 G0 r' F' G') := by
  have t14 := hT.2.2.2.1
  have t24 := hT.2.2.2.2.1
  have t43 : 0 ≤ (F0 43).toInt ∧ (F0 43).toInt ≤ 40 := ⟨hT.2.2.2.2.2.1, hT.2.2.2.2.2.2.1⟩
  have t70 := hT.2.2.2.2.2.2.2.1
  rcases hA with ⟨hK, hM, h43, h70, h60, hPK, hL⟩
  · skip
    unfold mb_call_87
    refine PP.ite (fun c_1 => ?_) (fun c_1 => ?_)
    · skip
      have m_2 : F0 54 = 0 := Eq.trans (Eq.symm ((show KX [42, 43, 44, 45, 47, 48, 49, 55, 60, 62, 70] [56, 57, 58, 59, 67, 68, 69] F0 G0 F G from hK).1 54 rfl)) (show (F 54) = 0 from c_1)
      unfold mb_call_94
      refine PP.ite (fun c_3 => ?_) (fun c_3 => ?_)
      · skip
        have hL4 : LV F → F0 54 = 0 → (fnR F0 x4) ∧ (¬ x4 = (-1 : Int32)) ∧ (∀ (A : AN) (s : SH) (d : Nat), A (sN F0) = (s, d, false) → bd 8 F0 s → EX X F0 G0 A F G s d []) := by
          intro hl h54
          obtain ⟨x0_, x1_, hE0⟩ := hL hl h54
          have l0 : LV F := hl
          have l0f : LV F0 := LV.mo hK hM rfl rfl l0
          exact absurd c_3 x1_
        exact mtj_call_126 (px := px) (py := py) rc ihK ihM ihT hT x1 x4 F G ⟨hK, hM, (show (F 43) = (F0 43) by first | rfl | (simp only [h43, h70, i_as])), (show (F 70) = F0 70 by first | rfl | (simp only [h43, h70, i_as])), (show 0 ≤ (F 60).toInt from h60), hPK, hL4⟩
      · skip
        unfold mb_call_100
        refine PP.ite (fun c_5 => ?_) (fun c_5 => ?_)
        · skip
          have hL6 : LV F → F0 54 = 0 → (fnR F0 x4) ∧ (¬ x4 = (-1 : Int32)) ∧ (∀ (A : AN) (s : SH) (d : Nat), A (sN F0) = (s, d, false) → bd 8 F0 s → EX X F0 G0 A F G s d []) := by
            intro hl h54
            obtain ⟨x0_, x1_, hE0⟩ := hL hl h54
            have l0 : LV F := hl
            have l0f : LV F0 := LV.mo hK hM rfl rfl l0
            refine ⟨(by first | assumption | contradiction | exact trivial | exact x0_ | exact x1_ | exact (fun q => absurd q.1 (by assumption)) | exact (fun q => absurd q.2 (by assumption)) | exact (fun q => x1_ ⟨by assumption, q⟩) | decide | omega), (by first | assumption | contradiction | exact trivial | exact x0_ | exact x1_ | exact (fun q => absurd q.1 (by assumption)) | exact (fun q => absurd q.2 (by assumption)) | exact (fun q => x1_ ⟨by assumption, q⟩) | decide | omega), ?_⟩
            intro A s d hA hb
            have hm : X.1 = false := hT.m.1 m_2
            have E0 := hE0 A s d hA hb
            have lb : s.length ≤ 568 := by have := bd.len hb t43.2; omega
            exact EX.st E0 rfl (fun _ _ _ => rfl)
          exact mtj_call_126 (px := px) (py := py) rc ihK ihM ihT hT x1 x4 F G ⟨hK, hM, (show (F 43) = (F0 43) by first | rfl | (simp only [h43, h70, i_as])), (show (F 70) = F0 70 by first | rfl | (simp only [h43, h70, i_as])), (show 0 ≤ (F 60).toInt from h60), hPK, hL6⟩
        · skip
          unfold mb_call_104
          refine PP.ix (fun _ => ?_)
          refine PP.ite (fun c_7 => ?_) (fun c_7 => ?_)
          · skip
            have hL8 : LV F → F0 54 = 0 → (fnR F0 x4) ∧ (¬ x4 = (-1 : Int32)) ∧ (∀ (A : AN) (s : SH) (d : Nat), A (sN F0) = (s, d, false) → bd 8 F0 s → EX X F0 G0 A F G s d []) := by
              intro hl h54
              obtain ⟨x0_, x1_, hE0⟩ := hL hl h54
              have l0 : LV F := hl
              have l0f : LV F0 := LV.mo hK hM rfl rfl l0
              refine ⟨(by first | assumption | contradiction | exact trivial | exact x0_ | exact x1_ | exact (fun q => absurd q.1 (by assumption)) | exact (fun q => absurd q.2 (by assumption)) | exact (fun q => x1_ ⟨by assumption, q⟩) | decide | omega), (by first | assumption | contradiction | exact trivial | exact x0_ | exact x1_ | exact (fun q => absurd q.1 (by assumption)) | exact (fun q => absurd q.2 (by assumption)) | exact (fun q => x1_ ⟨by assumption, q⟩) | decide | omega), ?_⟩
              intro A s d hA hb
              have hm : X.1 = false := hT.m.1 m_2
              have E0 := hE0 A s d hA hb
              have lb : s.length ≤ 568 := by have := bd.len hb t43.2; omega
              exact EX.st E0 rfl (fun _ _ _ => rfl)
            exact mtj_call_126 (px := px) (py := py) rc ihK ihM ihT hT x1 x4 F G ⟨hK, hM, (show (F 43) = (F0 43) by first | rfl | (simp only [h43, h70, i_as])), (show (F 70) = F0 70 by first | rfl | (simp only [h43, h70, i_as])), (show 0 ≤ (F 60).toInt from h60), hPK, hL8⟩
          · skip
            unfold mb_call_114
            refine PP.ix (fun _ => ?_)
            refine PP.bind (PP.and (mp_note (8 : Int32) (G 6 x1.toNatClampNeg) (by decide) F G) (mm_note (8 : Int32) (G 6 x1.toNatClampNeg) (by decide) F G)) ?_
            rintro r9 F9 G9 ⟨⟨hK9, rfl, u9, -⟩, hM9⟩
            dsimp only
            have k_10 : KX [42, 43, 44, 45, 47, 48, 49, 55, 60, 62, 70] [56, 57, 58, 59, 67, 68, 69] F0 G0 F9 G := (KX.tr hK hK9 rfl rfl)
            have k_11 : MO F0 F9 := (MO.tr hM hM9)
            have q_12 : F9 42 = (F 42) := hK9.1 42 rfl
            have q_13 : F9 43 = (F0 43) := Eq.trans (hK9.1 43 rfl) (show (F 43) = (F0 43) by simp only [h43, h70, i_as])
            have q_14 : F9 70 = (F0 70) := Eq.trans (hK9.1 70 rfl) (show (F 70) = (F0 70) by simp only [h43, h70, i_as])
            have k_15 : PKp F0 G0 G := PKp.kx (show PKp F0 G0 G from hPK) hK9 rfl rfl
            have hL16 : LV F9 → F0 54 = 0 → (fnR F0 x4) ∧ (¬ x4 = (-1 : Int32)) ∧ (∀ (A : AN) (s : SH) (d : Nat), A (sN F0) = (s, d, false) → bd 8 F0 s → EX X F0 G0 A F9 G s d []) := by
              intro hl h54
              have l_17 : LV F := LV.mo hK9 hM9 rfl rfl (show LV F9 from hl)
              exact absurd (u9 l_17.1) (by rw [(show LV F9 from hl).2.1 (Eq.trans (k_10.1 54 rfl) m_2)]; decide)
            exact mtj_call_126 (px := px) (py := py) rc ihK ihM ihT hT x1 x4 F9 G ⟨k_10, k_11, (show (F9 43) = (F0 43) by first | rfl | (simp only [q_12, q_13, q_14, h43, h70, i_as])), (show (F9 70) = F0 70 by first | rfl | (simp only [q_12, q_13, q_14, h43, h70, i_as])), (show 0 ≤ (F9 60).toInt from (show 0 ≤ (F9 60).toInt by rw [hK9.1 60 rfl]; exact h60)), k_15, hL16⟩
    · skip
      have m_18 : ¬ F0 54 = 0 := fun q => (show ¬ (F 54) = 0 from c_1) (Eq.trans ((show KX [42, 43, 44, 45, 47, 48, 49, 55, 60, 62, 70] [56, 57, 58, 59, 67, 68, 69] F0 G0 F G from hK).1 54 rfl) q)
      have hL19 : LV F → F0 54 = 0 → (fnR F0 x4) ∧ (¬ x4 = (-1 : Int32)) ∧ (∀ (A : AN) (s : SH) (d : Nat), A (sN F0) = (s, d, false) → bd 8 F0 s → EX X F0 G0 A F G s d []) := by
        intro hl h54
        exact absurd h54 m_18
      exact mtj_call_126 (px := px) (py := py) rc ihK ihM ihT hT x1 x4 F G ⟨hK, hM, (show (F 43) = (F0 43) by first | rfl | (simp only [h43, h70, i_as])), (show (F 70) = F0 70 by first | rfl | (simp only [h43, h70, i_as])), (show 0 ≤ (F 60).toInt from h60), hPK, hL19⟩
theorem mtj_call_63 {fu : Nat} {X : TX} {L : List Nat} {px py : Int32} (rc : RC) (ihK : mKI1 rc) (ihM : mMOI rc) (ihT : mTI X L rc) {F0 : PF} {G0 : PG} (hT : TP X L F0 G0) (x1 : Int32) (x2 : Int32) (x3 : Int32) (x4 : Int32) (F : PF) (G : PG) (hA : (KX [42, 43, 44, 45, 47, 48, 49, 55, 60, 62, 70] [56, 57, 58, 59, 67, 68, 69] F0 G0 F G ∧ MO F0 F ∧ F 43 = (F0 43) ∧ F 70 = F0 70 ∧ 0 ≤ (F 60).toInt ∧ PKp F0 G0 G ∧ (LV F → F0 54 = 0 → (fnR F0 x4) ∧ (¬ (x3 = (-1 : Int32) ∧ x4 = (-1 : Int32))) ∧ (∀ (A : AN) (s : SH) (d : Nat), A (sN F0) = (s, d, false) → bd 8 F0 s → EX X F0 G0 A F G s d [])))) : PP (mb_call_63 fu rc x1 x2 x3 x4 F G) (fun r' F' G' => TQ X 1 px py F0 G0 r' F' G') := by
  have t14 := hT.2.2.2.1
  have t24 := hT.2.2.2.2.1
  have t43 : 0 ≤ (F0 43).toInt ∧ (F0 43).toInt ≤ 40 := ⟨hT.2.2.2.2.2.1, hT.2.2.2.2.2.2.1⟩
  have t70 := hT.2.2.2.2.2.2.2.1
  rcases hA with ⟨hK, hM, h43, h70, h60, hPK, hL⟩
  · skip
    unfold mb_call_63
    refine PP.ite (fun c_1 => ?_) (fun c_1 => ?_)
    · skip
      have m_2 : F0 54 = 0 := Eq.trans (Eq.symm ((show KX [42, 43, 44, 45, 47, 48, 49, 55, 60, 62, 70] [56, 57, 58, 59, 67, 68, 69] F0 G0 F G from hK).1 54 rfl)) (show (F 54) = 0 from c_1)
      unfold mb_call_70
      refine PP.ite (fun c_3 => ?_) (fun c_3 => ?_)
      · skip
        have hL4 : LV F → F0 54 = 0 → (fnR F0 x4) ∧ (¬ x4 = (-1 : Int32)) ∧ (∀ (A : AN) (s : SH) (d : Nat), A (sN F0) = (s, d, false) → bd 8 F0 s → EX X F0 G0 A F G s d []) := by
          intro hl h54
          obtain ⟨x0_, x1_, hE0⟩ := hL hl h54
          have l0 : LV F := hl
          have l0f : LV F0 := LV.mo hK hM rfl rfl l0
          refine ⟨(by first | assumption | contradiction | exact trivial | exact x0_ | exact x1_ | exact (fun q => absurd q.1 (by assumption)) | exact (fun q => absurd q.2 (by assumption)) | exact (fun q => x1_ ⟨by assumption, q⟩) | decide | omega), (by first | assumption | contradiction | exact trivial | exact x0_ | exact x1_ | exact (fun q => absurd q.1 (by assumption)) | exact (fun q => absurd q.2 (by assumption)) | exact (fun q => x1_ ⟨by assumption, q⟩) | decide | omega), ?_⟩
          intro A s d hA hb
          have hm : X.1 = false := hT.m.1 m_2
          have E0 := hE0 A s d hA hb
          have lb : s.length ≤ 568 := by have := bd.len hb t43.2; omega
          exact EX.st E0 rfl (fun _ _ _ => rfl)
        exact mtj_call_87 (px := px) (py := py) rc ihK ihM ihT hT x1 x2 x4 F G ⟨hK, hM, (show (F 43) = (F0 43) by first | rfl | (simp only [h43, h70, i_as])), (show (F 70) = F0 70 by first | rfl | (simp only [h43, h70, i_as])), (show 0 ≤ (F 60).toInt from h60), hPK, hL4⟩
      · skip
        unfold mb_call_75
        refine PP.ix (fun _ => ?_)
        refine PP.bind (PP.and (mp_note (6 : Int32) (G 6 x1.toNatClampNeg) (by decide) F G) (mm_note (6 : Int32) (G 6 x1.toNatClampNeg) (by decide) F G)) ?_
        rintro r5 F5 G5 ⟨⟨hK5, rfl, u5, -⟩, hM5⟩
        dsimp only
        have k_6 : KX [42, 43, 44, 45, 47, 48, 49, 55, 60, 62, 70] [56, 57, 58, 59, 67, 68, 69] F0 G0 F5 G := (KX.tr hK hK5 rfl rfl)
        have k_7 : MO F0 F5 := (MO.tr hM hM5)
        have q_8 : F5 42 = (F 42) := hK5.1 42 rfl
        have q_9 : F5 43 = (F0 43) := Eq.trans (hK5.1 43 rfl) (show (F 43) = (F0 43) by simp only [h43, h70, i_as])
        have q_10 : F5 70 = (F0 70) := Eq.trans (hK5.1 70 rfl) (show (F 70) = (F0 70) by simp only [h43, h70, i_as])
        have k_11 : PKp F0 G0 G := PKp.kx (show PKp F0 G0 G from hPK) hK5 rfl rfl
        have hL12 : LV F5 → F0 54 = 0 → (fnR F0 x4) ∧ (¬ x4 = (-1 : Int32)) ∧ (∀ (A : AN) (s : SH) (d : Nat), A (sN F0) = (s, d, false) → bd 8 F0 s → EX X F0 G0 A F5 G s d []) := by
          intro hl h54
          have l_13 : LV F := LV.mo hK5 hM5 rfl rfl (show LV F5 from hl)
          exact absurd (u5 l_13.1) (by rw [(show LV F5 from hl).2.1 (Eq.trans (k_6.1 54 rfl) m_2)]; decide)
        exact mtj_call_87 (px := px) (py := py) rc ihK ihM ihT hT x1 x2 x4 F5 G ⟨k_6, k_7, (show (F5 43) = (F0 43) by first | rfl | (simp only [q_8, q_9, q_10, h43, h70, i_as])), (show (F5 70) = F0 70 by first | rfl | (simp only [q_8, q_9, q_10, h43, h70, i_as])), (show 0 ≤ (F5 60).toInt from (show 0 ≤ (F5 60).toInt by rw [hK5.1 60 rfl]; exact h60)), k_11, hL12⟩
    · skip
      have m_14 : ¬ F0 54 = 0 := fun q => (show ¬ (F 54) = 0 from c_1) (Eq.trans ((show KX [42, 43, 44, 45, 47, 48, 49, 55, 60, 62, 70] [56, 57, 58, 59, 67, 68, 69] F0 G0 F G from hK).1 54 rfl) q)
      have hL15 : LV F → F0 54 = 0 → (fnR F0 x4) ∧ (¬ x4 = (-1 : Int32)) ∧ (∀ (A : AN) (s : SH) (d : Nat), A (sN F0) = (s, d, false) → bd 8 F0 s → EX X F0 G0 A F G s d []) := by
        intro hl h54
        exact absurd h54 m_14
      exact mtj_call_87 (px := px) (py := py) rc ihK ihM ihT hT x1 x2 x4 F G ⟨hK, hM, (show (F 43) = (F0 43) by first | rfl | (simp only [h43, h70, i_as])), (show (F 70) = F0 70 by first | rfl | (simp only [h43, h70, i_as])), (show 0 ≤ (F 60).toInt from h60), hPK, hL15⟩
theorem mtj_call_32 {fu : Nat} {X : TX} {L : List Nat} {px py : Int32} (rc : RC) (ihK : mKI1 rc) (ihM : mMOI rc) (ihT : mTI X L rc) {F0 : PF} {G0 : PG} (hT : TP X L F0 G0) (x1 : Int32) (x2 : Int32) (x3 : Int32) (z0 : Int32) (F : PF) (G : PG) (hA : (KX [42, 43, 44, 45, 47, 48, 49, 55, 60, 62, 70] [56, 57, 58, 59, 67, 68, 69] F0 G0 F G ∧ MO F0 F ∧ F 43 = (F0 43) ∧ F 70 = F0 70 ∧ 0 ≤ (F 60).toInt ∧ PKp F0 G0 G ∧ (LV F → F0 54 = 0 → (fnR F0 z0) ∧ (∀ (A : AN) (s : SH) (d : Nat), A (sN F0) = (s, d, false) → bd 8 F0 s → EX X F0 G0 A F G s d [])))) : PP (mb_call_32 fu rc x1 x2 x3 z0 F G) (fun r' F' G' => TQ X 1 px py F0 G0 r' F' G') := by
  have t14 := hT.2.2.2.1
  have t24 := hT.2.2.2.2.1
  have t43 : 0 ≤ (F0 43).toInt ∧ (F0 43).toInt ≤ 40 := ⟨hT.2.2.2.2.2.1, hT.2.2.2.2.2.2.1⟩
  have t70 := hT.2.2.2.2.2.2.2.1
  rcases hA with ⟨hK, hM, h43, h70, h60, hPK, hL⟩
  · skip
    unfold mb_call_32
    refine PP.ite (fun c_1 => ?_) (fun c_1 => ?_)
    · skip
      have m_2 : F0 54 = 0 := Eq.trans (Eq.symm ((show KX [42, 43, 44, 45, 47, 48, 49, 55, 60, 62, 70] [56, 57, 58, 59, 67, 68, 69] F0 G0 F G from hK).1 54 rfl)) (show (F 54) = 0 from c_1)
      unfold mb_call_41
      refine PP.ite (fun c_3 => ?_) (fun c_3 => ?_)
      · skip
        unfold mb_call_46
        refine PP.ite (fun c_4 => ?_) (fun c_4 => ?_)
        · skip
          unfold mb_call_52
          refine PP.ix (fun _ => ?_)
          refine PP.bind (PP.and (mp_note (4 : Int32) (G 6 x1.toNatClampNeg) (by decide) F G) (mm_note (4 : Int32) (G 6 x1.toNatClampNeg) (by decide) F G)) ?_
          rintro r5 F5 G5 ⟨⟨hK5, rfl, u5, -⟩, hM5⟩
          dsimp only
          have k_6 : KX [42, 43, 44, 45, 47, 48, 49, 55, 60, 62, 70] [56, 57, 58, 59, 67, 68, 69] F0 G0 F5 G := (KX.tr hK hK5 rfl rfl)
          have k_7 : MO F0 F5 := (MO.tr hM hM5)
          have q_8 : F5 42 = (F 42) := hK5.1 42 rfl
          have q_9 : F5 43 = (F0 43) := Eq.trans (hK5.1 43 rfl) (show (F 43) = (F0 43) by simp only [h43, h70, i_as])
          have q_10 : F5 70 = (F0 70) := Eq.trans (hK5.1 70 rfl) (show (F 70) = (F0 70) by simp only [h43, h70, i_as])
          have k_11 : PKp F0 G0 G := PKp.kx (show PKp F0 G0 G from hPK) hK5 rfl rfl
          have hL12 : LV F5 → F0 54 = 0 → (fnR F0 z0) ∧ (¬ (x3 = (-1 : Int32) ∧ z0 = (-1 : Int32))) ∧ (∀ (A : AN) (s : SH) (d : Nat), A (sN F0) = (s, d, false) → bd 8 F0 s → EX X F0 G0 A F5 G s d []) := by
            intro hl h54
            have l_13 : LV F := LV.mo hK5 hM5 rfl rfl (show LV F5 from hl)
            exact absurd (u5 l_13.1) (by rw [(show LV F5 from hl).2.1 (Eq.trans (k_6.1 54 rfl) m_2)]; decide)
          exact mtj_call_63 (px := px) (py := py) rc ihK ihM ihT hT x1 x2 x3 z0 F5 G ⟨k_6, k_7, (show (F5 43) = (F0 43) by first | rfl | (simp only [q_8, q_9, q_10, h43, h70, i_as])), (show (F5 70) = F0 70 by first | rfl | (simp only [q_8, q_9, q_10, h43, h70, i_as])), (show 0 ≤ (F5 60).toInt from (show 0 ≤ (F5 60).toInt by rw [hK5.1 60 rfl]; exact h60)), k_11, hL12⟩
        · skip
          have hL14 : LV F → F0 54 = 0 → (fnR F0 z0) ∧ (¬ (x3 = (-1 : Int32) ∧ z0 = (-1 : Int32))) ∧ (∀ (A : AN) (s : SH) (d : Nat), A (sN F0) = (s, d, false) → bd 8 F0 s → EX X F0 G0 A F G s d []) := by
            intro hl h54
            obtain ⟨x0_, hE0⟩ := hL hl h54
            have l0 : LV F := hl
            have l0f : LV F0 := LV.mo hK hM rfl rfl l0
            refine ⟨(by first | assumption | contradiction | exact trivial | exact x0_ | exact x1_ | exact (fun q => absurd q.1 (by assumption)) | exact (fun q => absurd q.2 (by assumption)) | exact (fun q => x1_ ⟨by assumption, q⟩) | decide | omega), (by first | assumption | contradiction | exact trivial | exact x0_ | exact x1_ | exact (fun q => absurd q.1 (by assumption)) | exact (fun q => absurd q.2 (by assumption)) | exact (fun q => x1_ ⟨by assumption, q⟩) | decide | omega), ?_⟩
            intro A s d hA hb
            have hm : X.1 = false := hT.m.1 m_2
            have E0 := hE0 A s d hA hb
            have lb : s.length ≤ 568 := by have := bd.len hb t43.2; omega
            exact EX.st E0 rfl (fun _ _ _ => rfl)
          exact mtj_call_63 (px := px) (py := py) rc ihK ihM ihT hT x1 x2 x3 z0 F G ⟨hK, hM, (show (F 43) = (F0 43) by first | rfl | (simp only [h43, h70, i_as])), (show (F 70) = F0 70 by first | rfl | (simp only [h43, h70, i_as])), (show 0 ≤ (F 60).toInt from h60), hPK, hL14⟩
      · skip
        have hL15 : LV F → F0 54 = 0 → (fnR F0 z0) ∧ (¬ (x3 = (-1 : Int32) ∧ z0 = (-1 : Int32))) ∧ (∀ (A : AN) (s : SH) (d : Nat), A (sN F0) = (s, d, false) → bd 8 F0 s → EX X F0 G0 A F G s d []) := by
          intro hl h54
          obtain ⟨x0_, hE0⟩ := hL hl h54
          have l0 : LV F := hl
          have l0f : LV F0 := LV.mo hK hM rfl rfl l0
          refine ⟨(by first | assumption | contradiction | exact trivial | exact x0_ | exact x1_ | exact (fun q => absurd q.1 (by assumption)) | exact (fun q => absurd q.2 (by assumption)) | exact (fun q => x1_ ⟨by assumption, q⟩) | decide | omega), (by first | assumption | contradiction | exact trivial | exact x0_ | exact x1_ | exact (fun q => absurd q.1 (by assumption)) | exact (fun q => absurd q.2 (by assumption)) | exact (fun q => x1_ ⟨by assumption, q⟩) | decide | omega), ?_⟩
          intro A s d hA hb
          have hm : X.1 = false := hT.m.1 m_2
          have E0 := hE0 A s d hA hb
          have lb : s.length ≤ 568 := by have := bd.len hb t43.2; omega
          exact EX.st E0 rfl (fun _ _ _ => rfl)
        exact mtj_call_63 (px := px) (py := py) rc ihK ihM ihT hT x1 x2 x3 z0 F G ⟨hK, hM, (show (F 43) = (F0 43) by first | rfl | (simp only [h43, h70, i_as])), (show (F 70) = F0 70 by first | rfl | (simp only [h43, h70, i_as])), (show 0 ≤ (F 60).toInt from h60), hPK, hL15⟩
    · skip
      have m_16 : ¬ F0 54 = 0 := fun q => (show ¬ (F 54) = 0 from c_1) (Eq.trans ((show KX [42, 43, 44, 45, 47, 48, 49, 55, 60, 62, 70] [56, 57, 58, 59, 67, 68, 69] F0 G0 F G from hK).1 54 rfl) q)
      have hL17 : LV F → F0 54 = 0 → (fnR F0 z0) ∧ (¬ (x3 = (-1 : Int32) ∧ z0 = (-1 : Int32))) ∧ (∀ (A : AN) (s : SH) (d : Nat), A (sN F0) = (s, d, false) → bd 8 F0 s → EX X F0 G0 A F G s d []) := by
        intro hl h54
        exact absurd h54 m_16
      exact mtj_call_63 (px := px) (py := py) rc ihK ihM ihT hT x1 x2 x3 z0 F G ⟨hK, hM, (show (F 43) = (F0 43) by first | rfl | (simp only [h43, h70, i_as])), (show (F 70) = F0 70 by first | rfl | (simp only [h43, h70, i_as])), (show 0 ≤ (F 60).toInt from h60), hPK, hL17⟩
theorem mtj_call_16 {fu : Nat} {X : TX} {L : List Nat} {px py : Int32} (rc : RC) (ihK : mKI1 rc) (ihM : mMOI rc) (ihT : mTI X L rc) {F0 : PF} {G0 : PG} (hT : TP X L F0 G0) (x1 : Int32) (x2 : Int32) (z0 : Int32) (F : PF) (G : PG) (hA : (KX [42, 43, 44, 45, 47, 48, 49, 55, 60, 62, 70] [56, 57, 58, 59, 67, 68, 69] F0 G0 F G ∧ MO F0 F ∧ F 43 = (F0 43) ∧ F 70 = F0 70 ∧ 0 ≤ (F 60).toInt ∧ PKp F0 G0 G ∧ (LV F → F0 54 = 0 → (mnF F0 F) ∧ (∀ (A : AN) (s : SH) (d : Nat), A (sN F0) = (s, d, false) → bd 8 F0 s → EX X F0 G0 A F G s d [])))) : PP (mb_call_16 fu rc x1 x2 z0 F G) (fun r' F' G' => TQ X 1 px py F0 G0 r' F' G') := by
  have t14 := hT.2.2.2.1
  have t24 := hT.2.2.2.2.1
  have t43 : 0 ≤ (F0 43).toInt ∧ (F0 43).toInt ≤ 40 := ⟨hT.2.2.2.2.2.1, hT.2.2.2.2.2.2.1⟩
  have t70 := hT.2.2.2.2.2.2.2.1
  rcases hA with ⟨hK, hM, h43, h70, h60, hPK, hL⟩
  · skip
    unfold mb_call_16
    refine PP.ite (fun c_1 => ?_) (fun c_1 => ?_)
    · skip
      unfold mb_call_24
      have hL2 : LV F → F0 54 = 0 → (fnR F0 (-1 : Int32)) ∧ (∀ (A : AN) (s : SH) (d : Nat), A (sN F0) = (s, d, false) → bd 8 F0 s → EX X F0 G0 A F G s d []) := by
        intro hl h54
        exact absurd (show F 46 = 0 from c_1) hl.1
      exact mtj_call_32 (px := px) (py := py) rc ihK ihM ihT hT x1 x2 z0 (-1 : Int32) F G ⟨hK, hM, (show (F 43) = (F0 43) by first | rfl | (simp only [h43, h70, i_as])), (show (F 70) = F0 70 by first | rfl | (simp only [h43, h70, i_as])), (show 0 ≤ (F 60).toInt from h60), hPK, hL2⟩
    · skip
      unfold mb_call_28
      have hL3 : LV F → F0 54 = 0 → (fnR F0 (F 62)) ∧ (∀ (A : AN) (s : SH) (d : Nat), A (sN F0) = (s, d, false) → bd 8 F0 s → EX X F0 G0 A F G s d []) := by
        intro hl h54
        obtain ⟨x0_, hE0⟩ := hL hl h54
        have l0 : LV F := hl
        have l0f : LV F0 := LV.mo hK hM rfl rfl l0
        refine ⟨(by first | assumption | contradiction | exact trivial | exact x0_ | exact x1_ | exact (fun q => absurd q.1 (by assumption)) | exact (fun q => absurd q.2 (by assumption)) | exact (fun q => x1_ ⟨by assumption, q⟩) | decide | omega), ?_⟩
        intro A s d hA hb
        have hm : X.1 = false := hT.m.1 h54
        have E0 := hE0 A s d hA hb
        have lb : s.length ≤ 568 := by have := bd.len hb t43.2; omega
        exact EX.st E0 rfl (fun _ _ _ => rfl)
      exact mtj_call_32 (px := px) (py := py) rc ihK ihM ihT hT x1 x2 z0 (F 62) F G ⟨hK, hM, (show (F 43) = (F0 43) by first | rfl | (simp only [h43, h70, i_as])), (show (F 70) = F0 70 by first | rfl | (simp only [h43, h70, i_as])), (show 0 ≤ (F 60).toInt from h60), hPK, hL3⟩
theorem mtt_call {fu : Nat} {X : TX} {L : List Nat} (rc : RC) (ihK : mKI1 rc) (ihM : mMOI rc) (ihT : mTI X L rc) (x1 : Int32) (x2 : Int32) (F : PF) (G : PG) (hT : TP X L F G) : PP (mh_call fu rc x1 x2 F G) (fun r' F' G' => TQ X 1 x1 x2 F G r' F' G') := by
  unfold mh_call
  have t14 := hT.2.2.2.1
  have t24 := hT.2.2.2.2.1
  have t43 : 0 ≤ (F 43).toInt ∧ (F 43).toInt ≤ 40 := ⟨hT.2.2.2.2.2.1, hT.2.2.2.2.2.2.1⟩
  have t70 := hT.2.2.2.2.2.2.2.1
  unfold mb_call_0
  refine PP.ite (fun c_1 => ?_) (fun c_1 => ?_)
  · skip
    unfold mb_call_7
    have hL2 : LV F → F 54 = 0 → (mnF F F) ∧ (∀ (A : AN) (s : SH) (d : Nat), A (sN F) = (s, d, false) → bd 8 F s → EX X F G A F G s d []) := by
      intro hl h54
      exact absurd (show F 46 = 0 from c_1) hl.1
    exact mtj_call_16 (px := x1) (py := x2) rc ihK ihM ihT hT x1 x2 (-1 : Int32) F G ⟨(KX.rf : KX [42, 43, 44, 45, 47, 48, 49, 55, 60, 62, 70] [56, 57, 58, 59, 67, 68, 69] F G F G), (MO.rf : MO F F), (show (F 43) = (F 43) by first | rfl | (simp only [i_as])), (show (F 70) = F 70 by first | rfl | (simp only [i_as])), (show 0 ≤ (F 60).toInt from hT.2.2.2.2.2.2.2.2), (fun _ _ => ⟨rfl, rfl⟩ : PKp F G G), hL2⟩
  · skip
    unfold mb_call_11
    refine PP.bind (mp_meaning x1 F G (show 0 ≤ (F 14).toInt by rw [(show KX [42, 43, 44, 45, 47, 48, 49, 55, 60, 62, 70] [56, 57, 58, 59, 67, 68, 69] F G F G from (KX.rf : KX [42, 43, 44, 45, 47, 48, 49, 55, 60, 62, 70] [56, 57, 58, 59, 67, 68, 69] F G F G)).1 14 rfl]; exact t14) (show 0 ≤ (F 24).toInt by rw [(show KX [42, 43, 44, 45, 47, 48, 49, 55, 60, 62, 70] [56, 57, 58, 59, 67, 68, 69] F G F G from (KX.rf : KX [42, 43, 44, 45, 47, 48, 49, 55, 60, 62, 70] [56, 57, 58, 59, 67, 68, 69] F G F G)).1 24 rfl]; exact t24)) ?_
    rintro r3 F3 G3 ⟨rfl, hK3, u3, u3b⟩
    dsimp only
    have mr3 : mnR F r3 := mnR.e u3 ((show KX [42, 43, 44, 45, 47, 48, 49, 55, 60, 62, 70] [56, 57, 58, 59, 67, 68, 69] F G F G from (KX.rf : KX [42, 43, 44, 45, 47, 48, 49, 55, 60, 62, 70] [56, 57, 58, 59, 67, 68, 69] F G F G)).1 14 rfl)
    have mf3 : mnF F F3 := mnF.e u3b ((show KX [42, 43, 44, 45, 47, 48, 49, 55, 60, 62, 70] [56, 57, 58, 59, 67, 68, 69] F G F G from (KX.rf : KX [42, 43, 44, 45, 47, 48, 49, 55, 60, 62, 70] [56, 57, 58, 59, 67, 68, 69] F G F G)).1 24 rfl)
    have k_4 : KX [42, 43, 44, 45, 47, 48, 49, 55, 60, 62, 70] [56, 57, 58, 59, 67, 68, 69] F G F3 G := (KX.tr (KX.rf : KX [42, 43, 44, 45, 47, 48, 49, 55, 60, 62, 70] [56, 57, 58, 59, 67, 68, 69] F G F G) hK3 rfl rfl)
    have k_5 : MO F F3 := (MO.tr (MO.rf : MO F F) (MO.kx hK3 rfl rfl))
    have q_6 : F3 42 = (F 42) := hK3.1 42 rfl
    have q_7 : F3 43 = (F 43) := hK3.1 43 rfl
    have q_8 : F3 70 = (F 70) := hK3.1 70 rfl
    have k_9 : PKp F G G := PKp.kx (show PKp F G G from (fun _ _ => ⟨rfl, rfl⟩ : PKp F G G)) hK3 rfl rfl
    have hL10 : LV F3 → F 54 = 0 → (mnF F F3) ∧ (∀ (A : AN) (s : SH) (d : Nat), A (sN F) = (s, d, false) → bd 8 F s → EX X F G A F3 G s d []) := by
      intro hl h54
      have l_11 : LV F := LV.mo hK3 (MO.kx hK3 rfl rfl) rfl rfl (show LV F3 from hl)
      have l0 : LV F := l_11
      refine ⟨(by first | assumption | contradiction | exact trivial | exact x0_ | exact x1_ | exact (fun q => absurd q.1 (by assumption)) | exact (fun q => absurd q.2 (by assumption)) | exact (fun q => x1_ ⟨by assumption, q⟩) | decide | omega), ?_⟩
      intro A s d hA hb
      have hm : X.1 = false := hT.m.1 h54
      have E0 : EX X F G A F G s d [] := EX.rf hA
      have lb : s.length ≤ 568 := by have := bd.len hb t43.2; omega
      have E12 : EX X F G A F3 G s d [] := EX.st E0 (hK3.1 60 rfl) (fun _ _ _ => rfl)
      exact EX.st E12 rfl (fun _ _ _ => rfl)
    exact mtj_call_16 (px := x1) (py := x2) rc ihK ihM ihT hT x1 x2 r3 F3 G ⟨k_4, k_5, (show (F3 43) = (F 43) by first | rfl | (simp only [q_6, q_7, q_8, i_as])), (show (F3 70) = F 70 by first | rfl | (simp only [q_6, q_7, q_8, i_as])), (show 0 ≤ (F3 60).toInt from (show 0 ≤ (F3 60).toInt by rw [hK3.1 60 rfl]; exact hT.2.2.2.2.2.2.2.2)), k_9, hL10⟩
theorem mtj_argument_236 {fu : Nat} {X : TX} {L : List Nat} {px py : Int32} (rc : RC) (ihK : mKI1 rc) (ihM : mMOI rc) (ihT : mTI X L rc) {F0 : PF} {G0 : PG} (hT : TP X L F0 G0) (x6 : Int32) (F : PF) (G : PG) (hA : (KX [42, 43, 44, 45, 47, 48, 49, 55, 60, 62, 70] [56, 57, 58, 59, 67, 68, 69] F0 G0 F G ∧ MO F0 F ∧ F 43 = (F0 43) ∧ F 70 = F0 70 ∧ 0 ≤ (F 60).toInt ∧ PKp F0 G0 G ∧ py.toInt < (G0 27 px.toNatClampNeg).toInt ∧ ¬ G0 34 (G0 31 px.toNatClampNeg + py).toNatClampNeg = 0 ∧ (LV F → F0 54 = 0 → (mnR F0 x6) ∧ (¬ x6 = (-1 : Int32)) ∧ (G 17 x6.toNatClampNeg = (2 : Int32)) ∧ (∀ (A : AN) (s : SH) (d : Nat), A (sN F0) = (s, d, false) → bd 0 F0 s → EX X F0 G0 A F G s d [])))) : PP (mb_argument_236 fu rc x6 F G) (fun r' F' G' => TQ X 0 px py F0 G0 r' F' G') := by
  have t14 := hT.2.2.2.1
  have t24 := hT.2.2.2.2.1
  have t43 : 0 ≤ (F0 43).toInt ∧ (F0 43).toInt ≤ 40 := ⟨hT.2.2.2.2.2.1, hT.2.2.2.2.2.2.1⟩
  have t70 := hT.2.2.2.2.2.2.2.1
  rcases hA with ⟨hK, hM, h43, h70, h60, hPK, p0_, p1_, hL⟩
  · skip
    unfold mb_argument_236
    unfold mb_argument_246
    refine PP.ite (fun c_1 => ?_) (fun c_1 => ?_)
    · skip
      unfold mb_argument_254
      unfold mb_argument_265
      refine PP.ite (fun c_2 => ?_) (fun c_2 => ?_)
      · skip
        unfold mb_argument_271
        unfold mb_argument_282
        refine PP.bind (mq_step (5 : Int32) (0 : Int32) (1 : Int32) (fup F 42 ((F 42) + (1 : Int32))) G) ?_
        rintro _ F3 G3 ⟨hK3, rfl, e3, g3, n3⟩
        dsimp only
        have k_4 : KX [42, 43, 44, 45, 47, 48, 49, 55, 60, 62, 70] [56, 57, 58, 59, 67, 68, 69] F0 G0 F3 G3 := (KX.tr (KX.f (k := 42) rfl hK) hK3 rfl rfl)
        have k_5 : MO F0 F3 := (MO.tr (MO.f (k := 42) (by decide) (by decide) hM) (MO.kx hK3 rfl rfl))
        have q_6 : F3 42 = ((F 42) + (1 : Int32)) := hK3.1 42 rfl
        have q_7 : F3 43 = (F0 43) := Eq.trans (hK3.1 43 rfl) (show (F 43) = (F0 43) by simp only [h43, h70, i_as])
        have q_8 : F3 70 = (F0 70) := Eq.trans (hK3.1 70 rfl) (show (F 70) = (F0 70) by simp only [h43, h70, i_as])
        have k_9 : PKp F0 G0 G3 := PKp.kx (show PKp F0 G0 G from hPK) hK3 rfl rfl
        unfold mb_argument_285
        refine PP.ite (fun c_10 => ?_) (fun c_10 => ?_)
        · skip
          unfold mb_argument_313
          unfold mb_argument_314
          refine PP.ix (fun _ => ?_)
          unfold mb_argument_315
          refine PP.ret ?_
          refine ⟨Or.inr rfl, fun _ => ⟨(show (F3 43) = F0 43 by first | rfl | (simp only [q_6, q_7, q_8, h43, h70, i_as])), (show (F3 70) = F0 70 by first | rfl | (simp only [q_6, q_7, q_8, h43, h70, i_as])), (show 0 ≤ (F3 60).toInt from (inc60 n3 e3)), k_9, fun hl => ?_⟩⟩
          show F0 54 = 0 → FOK F0 px → 0 ≤ py.toInt → py.toInt < (G0 27 px.toNatClampNeg).toInt ∧ TE X F0 G0 F3 (gup G3 59 (F 60).toNatClampNeg (0 : Int32)) 0 (pushK (G0 34 (G0 31 px.toNatClampNeg + py).toNatClampNeg).toInt.toNat)
          intro h54 hF hy
          have l_11 : LV (fup F 42 ((F 42) + (1 : Int32))) := LV.mo hK3 (MO.kx hK3 rfl rfl) rfl rfl (show LV F3 from hl)
          obtain ⟨x0_, x1_, x2_, hE0⟩ := hL l_11 h54
          have l0 : LV F := l_11
          have l0f : LV F0 := LV.mo hK hM rfl rfl l0
          exact absurd c_1 x1_
        · skip
          unfold mb_argument_299
          refine PP.ix (fun _ => ?_)
          refine PP.ite (fun c_12 => ?_) (fun c_12 => ?_)
          · skip
            unfold mb_argument_313
            unfold mb_argument_314
            refine PP.ix (fun _ => ?_)
            unfold mb_argument_315
            refine PP.ret ?_
            refine ⟨Or.inr rfl, fun _ => ⟨(show (F3 43) = F0 43 by first | rfl | (simp only [q_6, q_7, q_8, h43, h70, i_as])), (show (F3 70) = F0 70 by first | rfl | (simp only [q_6, q_7, q_8, h43, h70, i_as])), (show 0 ≤ (F3 60).toInt from (inc60 n3 e3)), k_9, fun hl => ?_⟩⟩
            show F0 54 = 0 → FOK F0 px → 0 ≤ py.toInt → py.toInt < (G0 27 px.toNatClampNeg).toInt ∧ TE X F0 G0 F3 (gup G3 59 (F 60).toNatClampNeg (0 : Int32)) 0 (pushK (G0 34 (G0 31 px.toNatClampNeg + py).toNatClampNeg).toInt.toNat)
            intro h54 hF hy
            have l_13 : LV (fup F 42 ((F 42) + (1 : Int32))) := LV.mo hK3 (MO.kx hK3 rfl rfl) rfl rfl (show LV F3 from hl)
            obtain ⟨x0_, x1_, x2_, hE0⟩ := hL l_13 h54
            have l0 : LV F := l_13
            have l0f : LV F0 := LV.mo hK hM rfl rfl l0
            exact absurd c_1 x1_
          · skip
            unfold mb_argument_309
            unfold mb_argument_314
            refine PP.ix (fun _ => ?_)
            unfold mb_argument_315
            refine PP.ret ?_
            refine ⟨Or.inr rfl, fun _ => ⟨(show (F3 43) = F0 43 by first | rfl | (simp only [q_6, q_7, q_8, h43, h70, i_as])), (show (F3 70) = F0 70 by first | rfl | (simp only [q_6, q_7, q_8, h43, h70, i_as])), (show 0 ≤ (F3 60).toInt from (inc60 n3 e3)), k_9, fun hl => ?_⟩⟩
            show F0 54 = 0 → FOK F0 px → 0 ≤ py.toInt → py.toInt < (G0 27 px.toNatClampNeg).toInt ∧ TE X F0 G0 F3 (gup G3 59 (F 60).toNatClampNeg (1 : Int32)) 0 (pushK (G0 34 (G0 31 px.toNatClampNeg + py).toNatClampNeg).toInt.toNat)
            intro h54 hF hy
            have l_14 : LV (fup F 42 ((F 42) + (1 : Int32))) := LV.mo hK3 (MO.kx hK3 rfl rfl) rfl rfl (show LV F3 from hl)
            obtain ⟨x0_, x1_, x2_, hE0⟩ := hL l_14 h54
            have l0 : LV F := l_14
            have l0f : LV F0 := LV.mo hK hM rfl rfl l0
            exact absurd c_1 x1_
      · skip
        unfold mb_argument_275
        refine PP.ix (fun _ => ?_)
        unfold mb_argument_282
        refine PP.bind (mq_step (5 : Int32) (0 : Int32) (G 21 x6.toNatClampNeg) (fup F 42 ((F 42) + (1 : Int32))) G) ?_
        rintro _ F15 G15 ⟨hK15, rfl, e15, g15, n15⟩
        dsimp only
        have k_16 : KX [42, 43, 44, 45, 47, 48, 49, 55, 60, 62, 70] [56, 57, 58, 59, 67, 68, 69] F0 G0 F15 G15 := (KX.tr (KX.f (k := 42) rfl hK) hK15 rfl rfl)
        have k_17 : MO F0 F15 := (MO.tr (MO.f (k := 42) (by decide) (by decide) hM) (MO.kx hK15 rfl rfl))
        have q_18 : F15 42 = ((F 42) + (1 : Int32)) := hK15.1 42 rfl
        have q_19 : F15 43 = (F0 43) := Eq.trans (hK15.1 43 rfl) (show (F 43) = (F0 43) by simp only [h43, h70, i_as])
        have q_20 : F15 70 = (F0 70) := Eq.trans (hK15.1 70 rfl) (show (F 70) = (F0 70) by simp only [h43, h70, i_as])
        have k_21 : PKp F0 G0 G15 := PKp.kx (show PKp F0 G0 G from hPK) hK15 rfl rfl
        unfold mb_argument_285
        refine PP.ite (fun c_22 => ?_) (fun c_22 => ?_)
        · skip
          unfold mb_argument_313
          unfold mb_argument_314
          refine PP.ix (fun _ => ?_)
          unfold mb_argument_315
          refine PP.ret ?_
          refine ⟨Or.inr rfl, fun _ => ⟨(show (F15 43) = F0 43 by first | rfl | (simp only [q_18, q_19, q_20, h43, h70, i_as])), (show (F15 70) = F0 70 by first | rfl | (simp only [q_18, q_19, q_20, h43, h70, i_as])), (show 0 ≤ (F15 60).toInt from (inc60 n15 e15)), k_21, fun hl => ?_⟩⟩
          show F0 54 = 0 → FOK F0 px → 0 ≤ py.toInt → py.toInt < (G0 27 px.toNatClampNeg).toInt ∧ TE X F0 G0 F15 (gup G15 59 (F 60).toNatClampNeg (0 : Int32)) 0 (pushK (G0 34 (G0 31 px.toNatClampNeg + py).toNatClampNeg).toInt.toNat)
          intro h54 hF hy
          have l_23 : LV (fup F 42 ((F 42) + (1 : Int32))) := LV.mo hK15 (MO.kx hK15 rfl rfl) rfl rfl (show LV F15 from hl)
          obtain ⟨x0_, x1_, x2_, hE0⟩ := hL l_23 h54
          have l0 : LV F := l_23
          have l0f : LV F0 := LV.mo hK hM rfl rfl l0
          exact absurd c_1 x1_
        · skip
          unfold mb_argument_299
          refine PP.ix (fun _ => ?_)
          refine PP.ite (fun c_24 => ?_) (fun c_24 => ?_)
          · skip
            unfold mb_argument_313
            unfold mb_argument_314
            refine PP.ix (fun _ => ?_)
            unfold mb_argument_315
            refine PP.ret ?_
            refine ⟨Or.inr rfl, fun _ => ⟨(show (F15 43) = F0 43 by first | rfl | (simp only [q_18, q_19, q_20, h43, h70, i_as])), (show (F15 70) = F0 70 by first | rfl | (simp only [q_18, q_19, q_20, h43, h70, i_as])), (show 0 ≤ (F15 60).toInt from (inc60 n15 e15)), k_21, fun hl => ?_⟩⟩
            show F0 54 = 0 → FOK F0 px → 0 ≤ py.toInt → py.toInt < (G0 27 px.toNatClampNeg).toInt ∧ TE X F0 G0 F15 (gup G15 59 (F 60).toNatClampNeg (0 : Int32)) 0 (pushK (G0 34 (G0 31 px.toNatClampNeg + py).toNatClampNeg).toInt.toNat)
            intro h54 hF hy
            have l_25 : LV (fup F 42 ((F 42) + (1 : Int32))) := LV.mo hK15 (MO.kx hK15 rfl rfl) rfl rfl (show LV F15 from hl)
            obtain ⟨x0_, x1_, x2_, hE0⟩ := hL l_25 h54
            have l0 : LV F := l_25
            have l0f : LV F0 := LV.mo hK hM rfl rfl l0
            exact absurd c_1 x1_
          · skip
            unfold mb_argument_309
            unfold mb_argument_314
            refine PP.ix (fun _ => ?_)
            unfold mb_argument_315
            refine PP.ret ?_
            refine ⟨Or.inr rfl, fun _ => ⟨(show (F15 43) = F0 43 by first | rfl | (simp only [q_18, q_19, q_20, h43, h70, i_as])), (show (F15 70) = F0 70 by first | rfl | (simp only [q_18, q_19, q_20, h43, h70, i_as])), (show 0 ≤ (F15 60).toInt from (inc60 n15 e15)), k_21, fun hl => ?_⟩⟩
            show F0 54 = 0 → FOK F0 px → 0 ≤ py.toInt → py.toInt < (G0 27 px.toNatClampNeg).toInt ∧ TE X F0 G0 F15 (gup G15 59 (F 60).toNatClampNeg (1 : Int32)) 0 (pushK (G0 34 (G0 31 px.toNatClampNeg + py).toNatClampNeg).toInt.toNat)
            intro h54 hF hy
            have l_26 : LV (fup F 42 ((F 42) + (1 : Int32))) := LV.mo hK15 (MO.kx hK15 rfl rfl) rfl rfl (show LV F15 from hl)
            obtain ⟨x0_, x1_, x2_, hE0⟩ := hL l_26 h54
            have l0 : LV F := l_26
            have l0f : LV F0 := LV.mo hK hM rfl rfl l0
            exact absurd c_1 x1_
    · skip
      unfold mb_argument_258
      refine PP.ix (fun _ => ?_)
      unfold mb_argument_265
      refine PP.ite (fun c_27 => ?_) (fun c_27 => ?_)
      · skip
        unfold mb_argument_271
        unfold mb_argument_282
        refine PP.bind (mq_step (5 : Int32) (G 20 x6.toNatClampNeg) (1 : Int32) (fup F 42 ((F 42) + (1 : Int32))) G) ?_
        rintro _ F28 G28 ⟨hK28, rfl, e28, g28, n28⟩
        dsimp only
        have k_29 : KX [42, 43, 44, 45, 47, 48, 49, 55, 60, 62, 70] [56, 57, 58, 59, 67, 68, 69] F0 G0 F28 G28 := (KX.tr (KX.f (k := 42) rfl hK) hK28 rfl rfl)
        have k_30 : MO F0 F28 := (MO.tr (MO.f (k := 42) (by decide) (by decide) hM) (MO.kx hK28 rfl rfl))
        have q_31 : F28 42 = ((F 42) + (1 : Int32)) := hK28.1 42 rfl
        have q_32 : F28 43 = (F0 43) := Eq.trans (hK28.1 43 rfl) (show (F 43) = (F0 43) by simp only [h43, h70, i_as])
        have q_33 : F28 70 = (F0 70) := Eq.trans (hK28.1 70 rfl) (show (F 70) = (F0 70) by simp only [h43, h70, i_as])
        have k_34 : PKp F0 G0 G28 := PKp.kx (show PKp F0 G0 G from hPK) hK28 rfl rfl
        unfold mb_argument_285
        refine PP.ite (fun c_35 => ?_) (fun c_35 => ?_)
        · skip
          unfold mb_argument_313
          unfold mb_argument_314
          refine PP.ix (fun _ => ?_)
          unfold mb_argument_315
          refine PP.ret ?_
          refine ⟨Or.inr rfl, fun _ => ⟨(show (F28 43) = F0 43 by first | rfl | (simp only [q_31, q_32, q_33, h43, h70, i_as])), (show (F28 70) = F0 70 by first | rfl | (simp only [q_31, q_32, q_33, h43, h70, i_as])), (show 0 ≤ (F28 60).toInt from (inc60 n28 e28)), k_34, fun hl => ?_⟩⟩
          show F0 54 = 0 → FOK F0 px → 0 ≤ py.toInt → py.toInt < (G0 27 px.toNatClampNeg).toInt ∧ TE X F0 G0 F28 (gup G28 59 (F 60).toNatClampNeg (0 : Int32)) 0 (pushK (G0 34 (G0 31 px.toNatClampNeg + py).toNatClampNeg).toInt.toNat)
          intro h54 hF hy
          have l_36 : LV (fup F 42 ((F 42) + (1 : Int32))) := LV.mo hK28 (MO.kx hK28 rfl rfl) rfl rfl (show LV F28 from hl)
          obtain ⟨x0_, x1_, x2_, hE0⟩ := hL l_36 h54
          have l0 : LV F := l_36
          have l0f : LV F0 := LV.mo hK hM rfl rfl l0
          exact absurd c_27 x1_
        · skip
          unfold mb_argument_299
          refine PP.ix (fun _ => ?_)
          refine PP.ite (fun c_37 => ?_) (fun c_37 => ?_)
          · skip
            unfold mb_argument_313
            unfold mb_argument_314
            refine PP.ix (fun _ => ?_)
            unfold mb_argument_315
            refine PP.ret ?_
            refine ⟨Or.inr rfl, fun _ => ⟨(show (F28 43) = F0 43 by first | rfl | (simp only [q_31, q_32, q_33, h43, h70, i_as])), (show (F28 70) = F0 70 by first | rfl | (simp only [q_31, q_32, q_33, h43, h70, i_as])), (show 0 ≤ (F28 60).toInt from (inc60 n28 e28)), k_34, fun hl => ?_⟩⟩
            show F0 54 = 0 → FOK F0 px → 0 ≤ py.toInt → py.toInt < (G0 27 px.toNatClampNeg).toInt ∧ TE X F0 G0 F28 (gup G28 59 (F 60).toNatClampNeg (0 : Int32)) 0 (pushK (G0 34 (G0 31 px.toNatClampNeg + py).toNatClampNeg).toInt.toNat)
            intro h54 hF hy
            have l_38 : LV (fup F 42 ((F 42) + (1 : Int32))) := LV.mo hK28 (MO.kx hK28 rfl rfl) rfl rfl (show LV F28 from hl)
            obtain ⟨x0_, x1_, x2_, hE0⟩ := hL l_38 h54
            have l0 : LV F := l_38
            have l0f : LV F0 := LV.mo hK hM rfl rfl l0
            exact absurd c_27 x1_
          · skip
            unfold mb_argument_309
            unfold mb_argument_314
            refine PP.ix (fun _ => ?_)
            unfold mb_argument_315
            refine PP.ret ?_
            refine ⟨Or.inr rfl, fun _ => ⟨(show (F28 43) = F0 43 by first | rfl | (simp only [q_31, q_32, q_33, h43, h70, i_as])), (show (F28 70) = F0 70 by first | rfl | (simp only [q_31, q_32, q_33, h43, h70, i_as])), (show 0 ≤ (F28 60).toInt from (inc60 n28 e28)), k_34, fun hl => ?_⟩⟩
            show F0 54 = 0 → FOK F0 px → 0 ≤ py.toInt → py.toInt < (G0 27 px.toNatClampNeg).toInt ∧ TE X F0 G0 F28 (gup G28 59 (F 60).toNatClampNeg (1 : Int32)) 0 (pushK (G0 34 (G0 31 px.toNatClampNeg + py).toNatClampNeg).toInt.toNat)
            intro h54 hF hy
            have l_39 : LV (fup F 42 ((F 42) + (1 : Int32))) := LV.mo hK28 (MO.kx hK28 rfl rfl) rfl rfl (show LV F28 from hl)
            obtain ⟨x0_, x1_, x2_, hE0⟩ := hL l_39 h54
            have l0 : LV F := l_39
            have l0f : LV F0 := LV.mo hK hM rfl rfl l0
            exact absurd c_27 x1_
      · skip
        unfold mb_argument_275
        refine PP.ix (fun _ => ?_)
        unfold mb_argument_282
        refine PP.bind (mq_step (5 : Int32) (G 20 x6.toNatClampNeg) (G 21 x6.toNatClampNeg) (fup F 42 ((F 42) + (1 : Int32))) G) ?_
        rintro _ F40 G40 ⟨hK40, rfl, e40, g40, n40⟩
        dsimp only
        have k_41 : KX [42, 43, 44, 45, 47, 48, 49, 55, 60, 62, 70] [56, 57, 58, 59, 67, 68, 69] F0 G0 F40 G40 := (KX.tr (KX.f (k := 42) rfl hK) hK40 rfl rfl)
        have k_42 : MO F0 F40 := (MO.tr (MO.f (k := 42) (by decide) (by decide) hM) (MO.kx hK40 rfl rfl))
        have q_43 : F40 42 = ((F 42) + (1 : Int32)) := hK40.1 42 rfl
        have q_44 : F40 43 = (F0 43) := Eq.trans (hK40.1 43 rfl) (show (F 43) = (F0 43) by simp only [h43, h70, i_as])
        have q_45 : F40 70 = (F0 70) := Eq.trans (hK40.1 70 rfl) (show (F 70) = (F0 70) by simp only [h43, h70, i_as])
        have k_46 : PKp F0 G0 G40 := PKp.kx (show PKp F0 G0 G from hPK) hK40 rfl rfl
        unfold mb_argument_285
        refine PP.ite (fun c_47 => ?_) (fun c_47 => ?_)
        · skip
          unfold mb_argument_313
          unfold mb_argument_314
          refine PP.ix (fun _ => ?_)
          unfold mb_argument_315
          refine PP.ret ?_
          refine ⟨Or.inr rfl, fun _ => ⟨(show (F40 43) = F0 43 by first | rfl | (simp only [q_43, q_44, q_45, h43, h70, i_as])), (show (F40 70) = F0 70 by first | rfl | (simp only [q_43, q_44, q_45, h43, h70, i_as])), (show 0 ≤ (F40 60).toInt from (inc60 n40 e40)), k_46, fun hl => ?_⟩⟩
          show F0 54 = 0 → FOK F0 px → 0 ≤ py.toInt → py.toInt < (G0 27 px.toNatClampNeg).toInt ∧ TE X F0 G0 F40 (gup G40 59 (F 60).toNatClampNeg (0 : Int32)) 0 (pushK (G0 34 (G0 31 px.toNatClampNeg + py).toNatClampNeg).toInt.toNat)
          intro h54 hF hy
          have l_48 : LV (fup F 42 ((F 42) + (1 : Int32))) := LV.mo hK40 (MO.kx hK40 rfl rfl) rfl rfl (show LV F40 from hl)
          obtain ⟨x0_, x1_, x2_, hE0⟩ := hL l_48 h54
          have l0 : LV F := l_48
          have l0f : LV F0 := LV.mo hK hM rfl rfl l0
          exact absurd c_47 x1_
        · skip
          unfold mb_argument_299
          refine PP.ix (fun _ => ?_)
          refine PP.ite (fun c_49 => ?_) (fun c_49 => ?_)
          · skip
            unfold mb_argument_313
            unfold mb_argument_314
            refine PP.ix (fun _ => ?_)
            unfold mb_argument_315
            refine PP.ret ?_
            refine ⟨Or.inr rfl, fun _ => ⟨(show (F40 43) = F0 43 by first | rfl | (simp only [q_43, q_44, q_45, h43, h70, i_as])), (show (F40 70) = F0 70 by first | rfl | (simp only [q_43, q_44, q_45, h43, h70, i_as])), (show 0 ≤ (F40 60).toInt from (inc60 n40 e40)), k_46, fun hl => ?_⟩⟩
            show F0 54 = 0 → FOK F0 px → 0 ≤ py.toInt → py.toInt < (G0 27 px.toNatClampNeg).toInt ∧ TE X F0 G0 F40 (gup G40 59 (F 60).toNatClampNeg (0 : Int32)) 0 (pushK (G0 34 (G0 31 px.toNatClampNeg + py).toNatClampNeg).toInt.toNat)
            intro h54 hF hy
            have l_50 : LV (fup F 42 ((F 42) + (1 : Int32))) := LV.mo hK40 (MO.kx hK40 rfl rfl) rfl rfl (show LV F40 from hl)
            obtain ⟨x0_, x1_, x2_, hE0⟩ := hL l_50 h54
            have l0 : LV F := l_50
            have l0f : LV F0 := LV.mo hK hM rfl rfl l0
            refine ⟨by assumption, ?_⟩
            have ld0 := DI.ar hT h54 (l0f.2.1 h54) hK rfl x0_ x1_ x2_
            have ld : arr X (G 20 x6.toNatClampNeg) (G 21 x6.toNatClampNeg) (0 : Int32) := ld0.2 (by have q := c_49; rw [hK40.2 23 rfl] at q; exact q)
            intro A s d hA hb
            have hm : X.1 = false := hT.m.1 h54
            have E0 := hE0 A s d hA hb
            have lb : s.length ≤ 568 := by have := bd.len hb t43.2; omega
            have E51 : EX X F0 G0 A (fup F 42 ((F 42) + (1 : Int32))) G s d [] := EX.st E0 rfl (fun _ _ _ => rfl)
            have E52 : EX X F0 G0 A F40 (gup G40 59 (F 60).toNatClampNeg (0 : Int32)) (3 :: 2 :: s) d [] := EX.stp4 (z := (0 : Int32)) E51 n40 e40 g40 (by have := lb; (try simp only [List.length_cons]); omega) (Or.inr (Or.inr (Or.inr (Or.inr ⟨hm, Or.inr (Or.inr (Or.inr (Or.inr (Or.inl ⟨rfl, ld, rfl⟩))))⟩))))
            show EX X F0 G0 A F40 (gup G40 59 (F 60).toNatClampNeg (0 : Int32)) (pushK (G0 34 (G0 31 px.toNatClampNeg + py).toNatClampNeg).toInt.toNat s) d []
            rw [pushK_ne (FTb.k hT h54 hF _) p1_]
            exact EX.st E52 rfl (fun _ _ _ => rfl)
          · skip
            unfold mb_argument_309
            unfold mb_argument_314
            refine PP.ix (fun _ => ?_)
            unfold mb_argument_315
            refine PP.ret ?_
            refine ⟨Or.inr rfl, fun _ => ⟨(show (F40 43) = F0 43 by first | rfl | (simp only [q_43, q_44, q_45, h43, h70, i_as])), (show (F40 70) = F0 70 by first | rfl | (simp only [q_43, q_44, q_45, h43, h70, i_as])), (show 0 ≤ (F40 60).toInt from (inc60 n40 e40)), k_46, fun hl => ?_⟩⟩
            show F0 54 = 0 → FOK F0 px → 0 ≤ py.toInt → py.toInt < (G0 27 px.toNatClampNeg).toInt ∧ TE X F0 G0 F40 (gup G40 59 (F 60).toNatClampNeg (1 : Int32)) 0 (pushK (G0 34 (G0 31 px.toNatClampNeg + py).toNatClampNeg).toInt.toNat)
            intro h54 hF hy
            have l_53 : LV (fup F 42 ((F 42) + (1 : Int32))) := LV.mo hK40 (MO.kx hK40 rfl rfl) rfl rfl (show LV F40 from hl)
            obtain ⟨x0_, x1_, x2_, hE0⟩ := hL l_53 h54
            have l0 : LV F := l_53
            have l0f : LV F0 := LV.mo hK hM rfl rfl l0
            refine ⟨by assumption, ?_⟩
            have ld0 := DI.ar hT h54 (l0f.2.1 h54) hK rfl x0_ x1_ x2_
            have ld : arr X (G 20 x6.toNatClampNeg) (G 21 x6.toNatClampNeg) (1 : Int32) := ld0.1 (by have q := c_49; rw [hK40.2 23 rfl] at q; exact q)
            intro A s d hA hb
            have hm : X.1 = false := hT.m.1 h54
            have E0 := hE0 A s d hA hb
            have lb : s.length ≤ 568 := by have := bd.len hb t43.2; omega
            have E54 : EX X F0 G0 A (fup F 42 ((F 42) + (1 : Int32))) G s d [] := EX.st E0 rfl (fun _ _ _ => rfl)
            have E55 : EX X F0 G0 A F40 (gup G40 59 (F 60).toNatClampNeg (1 : Int32)) (3 :: 2 :: s) d [] := EX.stp4 (z := (1 : Int32)) E54 n40 e40 g40 (by have := lb; (try simp only [List.length_cons]); omega) (Or.inr (Or.inr (Or.inr (Or.inr ⟨hm, Or.inr (Or.inr (Or.inr (Or.inr (Or.inl ⟨rfl, ld, rfl⟩))))⟩))))
            show EX X F0 G0 A F40 (gup G40 59 (F 60).toNatClampNeg (1 : Int32)) (pushK (G0 34 (G0 31 px.toNatClampNeg + py).toNatClampNeg).toInt.toNat s) d []
            rw [pushK_ne (FTb.k hT h54 hF _) p1_]
            exact EX.st E55 rfl (fun _ _ _ => rfl)
theorem mtj_argument_139 {fu : Nat} {X : TX} {L : List Nat} {px py : Int32} (rc : RC) (ihK : mKI1 rc) (ihM : mMOI rc) (ihT : mTI X L rc) {F0 : PF} {G0 : PG} (hT : TP X L F0 G0) (x3 : Int32) (x4 : Int32) (z0 : Int32) (F : PF) (G : PG) (hA : (z0 = 1 ∧ KX [42, 43, 44, 45, 47, 48, 49, 55, 60, 62, 70] [56, 57, 58, 59, 67, 68, 69] F0 G0 F G ∧ MO F0 F ∧ F 43 = (F0 43) ∧ F 70 = F0 70 ∧ 0 ≤ (F 60).toInt ∧ PKp F0 G0 G ∧ py.toInt < (G0 27 px.toNatClampNeg).toInt ∧ ¬ G0 34 (G0 31 px.toNatClampNeg + py).toNatClampNeg = 0 ∧ (LV F → F0 54 = 0 → ∀ (A : AN) (s : SH) (d : Nat), A (sN F0) = (s, d, false) → bd 0 F0 s → EX X F0 G0 A F G s d [])) ∨ (z0 = 0 ∧ KX [42, 43, 44, 45, 47, 48, 49, 55, 60, 62, 70] [56, 57, 58, 59, 67, 68, 69] F0 G0 F G ∧ MO F0 F ∧ F 43 = (F0 43) ∧ F 70 = F0 70 ∧ 0 ≤ (F 60).toInt ∧ PKp F0 G0 G ∧ py.toInt < (G0 27 px.toNatClampNeg).toInt ∧ ¬ G0 34 (G0 31 px.toNatClampNeg + py).toNatClampNeg = 0 ∧ (LV F → F0 54 = 0 → ∀ (A : AN) (s : SH) (d : Nat), A (sN F0) = (s, d, false) → bd 0 F0 s → EX X F0 G0 A F G s d []))) : PP (mb_argument_139 fu rc x3 x4 z0 F G) (fun r' F' G' => TQ X 0 px py F0 G0 r' F' G') := by
  have t14 := hT.2.2.2.1
  have t24 := hT.2.2.2.2.1
  have t43 : 0 ≤ (F0 43).toInt ∧ (F0 43).toInt ≤ 40 := ⟨hT.2.2.2.2.2.1, hT.2.2.2.2.2.2.1⟩
  have t70 := hT.2.2.2.2.2.2.2.1
  rcases hA with ⟨rfl, hK, hM, h43, h70, h60, hPK, p0_, p1_, hL⟩ | ⟨rfl, hK, hM, h43, h70, h60, hPK, p0_, p1_, hL⟩
  · skip
    unfold mb_argument_139
    refine PP.ite (fun c_1 => absurd c_1 (by decide)) (fun _ => ?_)
    unfold mb_argument_158
    refine PP.bind (mp_meaning (F 42) F G (show 0 ≤ (F 14).toInt by rw [(show KX [42, 43, 44, 45, 47, 48, 49, 55, 60, 62, 70] [56, 57, 58, 59, 67, 68, 69] F0 G0 F G from hK).1 14 rfl]; exact t14) (show 0 ≤ (F 24).toInt by rw [(show KX [42, 43, 44, 45, 47, 48, 49, 55, 60, 62, 70] [56, 57, 58, 59, 67, 68, 69] F0 G0 F G from hK).1 24 rfl]; exact t24)) ?_
    rintro r2 F2 G2 ⟨rfl, hK2, u2, u2b⟩
    dsimp only
    have mr2 : mnR F0 r2 := mnR.e u2 ((show KX [42, 43, 44, 45, 47, 48, 49, 55, 60, 62, 70] [56, 57, 58, 59, 67, 68, 69] F0 G0 F G from hK).1 14 rfl)
    have mf2 : mnF F0 F2 := mnF.e u2b ((show KX [42, 43, 44, 45, 47, 48, 49, 55, 60, 62, 70] [56, 57, 58, 59, 67, 68, 69] F0 G0 F G from hK).1 24 rfl)
    have k_3 : KX [42, 43, 44, 45, 47, 48, 49, 55, 60, 62, 70] [56, 57, 58, 59, 67, 68, 69] F0 G0 F2 G := (KX.tr hK hK2 rfl rfl)
    have k_4 : MO F0 F2 := (MO.tr hM (MO.kx hK2 rfl rfl))
    have q_5 : F2 42 = (F 42) := hK2.1 42 rfl
    have q_6 : F2 43 = (F0 43) := Eq.trans (hK2.1 43 rfl) (show (F 43) = (F0 43) by simp only [h43, h70, i_as])
    have q_7 : F2 70 = (F0 70) := Eq.trans (hK2.1 70 rfl) (show (F 70) = (F0 70) by simp only [h43, h70, i_as])
    have k_8 : PKp F0 G0 G := PKp.kx (show PKp F0 G0 G from hPK) hK2 rfl rfl
    unfold mb_argument_166
    refine PP.ite (fun c_9 => ?_) (fun c_9 => ?_)
    · skip
      unfold mb_argument_174
      refine PP.ite (fun c_10 => ?_) (fun c_10 => ?_)
      · skip
        unfold mb_argument_182
        refine PP.bind (PP.and (mp_note (4 : Int32) x3 (by decide) F2 G) (mm_note (4 : Int32) x3 (by decide) F2 G)) ?_
        rintro r11 F11 G11 ⟨⟨hK11, rfl, u11, -⟩, hM11⟩
        dsimp only
        have k_12 : KX [42, 43, 44, 45, 47, 48, 49, 55, 60, 62, 70] [56, 57, 58, 59, 67, 68, 69] F0 G0 F11 G := (KX.tr k_3 hK11 rfl rfl)
        have k_13 : MO F0 F11 := (MO.tr k_4 hM11)
        have q_14 : F11 42 = (F 42) := Eq.trans (hK11.1 42 rfl) (show (F2 42) = (F 42) by simp only [q_5, q_6, q_7, h43, h70, i_as])
        have q_15 : F11 43 = (F0 43) := Eq.trans (hK11.1 43 rfl) (show (F2 43) = (F0 43) by simp only [q_5, q_6, q_7, h43, h70, i_as])
        have q_16 : F11 70 = (F0 70) := Eq.trans (hK11.1 70 rfl) (show (F2 70) = (F0 70) by simp only [q_5, q_6, q_7, h43, h70, i_as])
        have k_17 : PKp F0 G0 G := PKp.kx (show PKp F0 G0 G from k_8) hK11 rfl rfl
        unfold mb_argument_188
        have hL18 : LV F11 → F0 54 = 0 → (mnR F0 r2) ∧ (¬ r2 = (-1 : Int32)) ∧ (G 17 r2.toNatClampNeg = (2 : Int32)) ∧ (∀ (A : AN) (s : SH) (d : Nat), A (sN F0) = (s, d, false) → bd 0 F0 s → EX X F0 G0 A F11 G s d []) := by
          intro hl h54
          have l_19 : LV F2 := LV.mo hK11 hM11 rfl rfl (show LV F11 from hl)
          exact absurd (u11 l_19.1) (by rw [(show LV F11 from hl).2.1 (Eq.trans (k_12.1 54 rfl) h54)]; decide)
        exact mtj_argument_236 (px := px) (py := py) rc ihK ihM ihT hT r2 F11 G ⟨k_12, k_13, (show (F11 43) = (F0 43) by first | rfl | (simp only [q_14, q_15, q_16, h43, h70, q_5, q_6, q_7, i_as])), (show (F11 70) = F0 70 by first | rfl | (simp only [q_14, q_15, q_16, h43, h70, q_5, q_6, q_7, i_as])), (show 0 ≤ (F11 60).toInt from (show 0 ≤ (F11 60).toInt by rw [hK11.1 60 rfl]; exact (show 0 ≤ (F2 60).toInt by rw [hK2.1 60 rfl]; exact h60))), k_17, (by first | assumption | rfl | (simp only [q_14, q_15, q_16, h43, h70, q_5, q_6, q_7, i_as]; assumption)), (by first | assumption | rfl | (simp only [q_14, q_15, q_16, h43, h70, q_5, q_6, q_7, i_as]; assumption)), hL18⟩
      · skip
        unfold mb_argument_191
        refine PP.ite (fun c_20 => ?_) (fun c_20 => ?_)
        · skip
          unfold mb_argument_229
          refine PP.bind (PP.and (mp_note (7 : Int32) x3 (by decide) F2 G) (mm_note (7 : Int32) x3 (by decide) F2 G)) ?_
          rintro r21 F21 G21 ⟨⟨hK21, rfl, u21, -⟩, hM21⟩
          dsimp only
          have k_22 : KX [42, 43, 44, 45, 47, 48, 49, 55, 60, 62, 70] [56, 57, 58, 59, 67, 68, 69] F0 G0 F21 G := (KX.tr k_3 hK21 rfl rfl)
          have k_23 : MO F0 F21 := (MO.tr k_4 hM21)
          have q_24 : F21 42 = (F 42) := Eq.trans (hK21.1 42 rfl) (show (F2 42) = (F 42) by simp only [q_5, q_6, q_7, h43, h70, i_as])
          have q_25 : F21 43 = (F0 43) := Eq.trans (hK21.1 43 rfl) (show (F2 43) = (F0 43) by simp only [q_5, q_6, q_7, h43, h70, i_as])
          have q_26 : F21 70 = (F0 70) := Eq.trans (hK21.1 70 rfl) (show (F2 70) = (F0 70) by simp only [q_5, q_6, q_7, h43, h70, i_as])
          have k_27 : PKp F0 G0 G := PKp.kx (show PKp F0 G0 G from k_8) hK21 rfl rfl
          have hL28 : LV F21 → F0 54 = 0 → (mnR F0 r2) ∧ (¬ r2 = (-1 : Int32)) ∧ (G 17 r2.toNatClampNeg = (2 : Int32)) ∧ (∀ (A : AN) (s : SH) (d : Nat), A (sN F0) = (s, d, false) → bd 0 F0 s → EX X F0 G0 A F21 G s d []) := by
            intro hl h54
            have l_29 : LV F2 := LV.mo hK21 hM21 rfl rfl (show LV F21 from hl)
            exact absurd (u21 l_29.1) (by rw [(show LV F21 from hl).2.1 (Eq.trans (k_22.1 54 rfl) h54)]; decide)
          exact mtj_argument_236 (px := px) (py := py) rc ihK ihM ihT hT r2 F21 G ⟨k_22, k_23, (show (F21 43) = (F0 43) by first | rfl | (simp only [q_24, q_25, q_26, h43, h70, q_5, q_6, q_7, i_as])), (show (F21 70) = F0 70 by first | rfl | (simp only [q_24, q_25, q_26, h43, h70, q_5, q_6, q_7, i_as])), (show 0 ≤ (F21 60).toInt from (show 0 ≤ (F21 60).toInt by rw [hK21.1 60 rfl]; exact (show 0 ≤ (F2 60).toInt by rw [hK2.1 60 rfl]; exact h60))), k_27, (by first | assumption | rfl | (simp only [q_24, q_25, q_26, h43, h70, q_5, q_6, q_7, i_as]; assumption)), (by first | assumption | rfl | (simp only [q_24, q_25, q_26, h43, h70, q_5, q_6, q_7, i_as]; assumption)), hL28⟩
        · skip
          unfold mb_argument_197
          refine PP.ix (fun _ => ?_)
          refine PP.ite (fun c_30 => ?_) (fun c_30 => ?_)
          · skip
            unfold mb_argument_208
            refine PP.ix (fun _ => ?_)
            refine PP.ite (fun c_31 => ?_) (fun c_31 => ?_)
            · skip
              unfold mb_argument_221
              unfold mb_argument_226
              refine PP.ite (fun c_32 => ?_) (fun c_32 => ?_)
              · skip
                have hL33 : LV F2 → F0 54 = 0 → (mnR F0 r2) ∧ (¬ r2 = (-1 : Int32)) ∧ (G 17 r2.toNatClampNeg = (2 : Int32)) ∧ (∀ (A : AN) (s : SH) (d : Nat), A (sN F0) = (s, d, false) → bd 0 F0 s → EX X F0 G0 A F2 G s d []) := by
                  intro hl h54
                  have l_34 : LV F := LV.mo hK2 (MO.kx hK2 rfl rfl) rfl rfl (show LV F2 from hl)
                  have hE0 := hL l_34 h54
                  have l0 : LV F := l_34
                  have l0f : LV F0 := LV.mo hK hM rfl rfl l0
                  refine ⟨(by first | assumption | contradiction | exact trivial | exact x0_ | exact x1_ | exact (fun q => absurd q.1 (by assumption)) | exact (fun q => absurd q.2 (by assumption)) | exact (fun q => x1_ ⟨by assumption, q⟩) | decide | omega), (by first | assumption | contradiction | exact trivial | exact x0_ | exact x1_ | exact (fun q => absurd q.1 (by assumption)) | exact (fun q => absurd q.2 (by assumption)) | exact (fun q => x1_ ⟨by assumption, q⟩) | decide | omega), (by first | assumption | contradiction | exact trivial | exact x0_ | exact x1_ | exact (fun q => absurd q.1 (by assumption)) | exact (fun q => absurd q.2 (by assumption)) | exact (fun q => x1_ ⟨by assumption, q⟩) | decide | omega), ?_⟩
                  intro A s d hA hb
                  have hm : X.1 = false := hT.m.1 h54
                  have E0 := hE0 A s d hA hb
                  have lb : s.length ≤ 568 := by have := bd.len hb t43.2; omega
                  have E35 : EX X F0 G0 A F2 G s d [] := EX.st E0 (hK2.1 60 rfl) (fun _ _ _ => rfl)
                  exact EX.st E35 rfl (fun _ _ _ => rfl)
                exact mtj_argument_236 (px := px) (py := py) rc ihK ihM ihT hT r2 F2 G ⟨k_3, k_4, (show (F2 43) = (F0 43) by first | rfl | (simp only [q_5, q_6, q_7, h43, h70, i_as])), (show (F2 70) = F0 70 by first | rfl | (simp only [q_5, q_6, q_7, h43, h70, i_as])), (show 0 ≤ (F2 60).toInt from (show 0 ≤ (F2 60).toInt by rw [hK2.1 60 rfl]; exact h60)), k_8, (by first | assumption | rfl | (simp only [q_5, q_6, q_7, h43, h70, i_as]; assumption)), (by first | assumption | rfl | (simp only [q_5, q_6, q_7, h43, h70, i_as]; assumption)), hL33⟩
              · skip
                unfold mb_argument_229
                refine PP.bind (PP.and (mp_note (7 : Int32) x3 (by decide) F2 G) (mm_note (7 : Int32) x3 (by decide) F2 G)) ?_
                rintro r36 F36 G36 ⟨⟨hK36, rfl, u36, -⟩, hM36⟩
                dsimp only
                have k_37 : KX [42, 43, 44, 45, 47, 48, 49, 55, 60, 62, 70] [56, 57, 58, 59, 67, 68, 69] F0 G0 F36 G := (KX.tr k_3 hK36 rfl rfl)
                have k_38 : MO F0 F36 := (MO.tr k_4 hM36)
                have q_39 : F36 42 = (F 42) := Eq.trans (hK36.1 42 rfl) (show (F2 42) = (F 42) by simp only [q_5, q_6, q_7, h43, h70, i_as])
                have q_40 : F36 43 = (F0 43) := Eq.trans (hK36.1 43 rfl) (show (F2 43) = (F0 43) by simp only [q_5, q_6, q_7, h43, h70, i_as])
                have q_41 : F36 70 = (F0 70) := Eq.trans (hK36.1 70 rfl) (show (F2 70) = (F0 70) by simp only [q_5, q_6, q_7, h43, h70, i_as])
                have k_42 : PKp F0 G0 G := PKp.kx (show PKp F0 G0 G from k_8) hK36 rfl rfl
                have hL43 : LV F36 → F0 54 = 0 → (mnR F0 r2) ∧ (¬ r2 = (-1 : Int32)) ∧ (G 17 r2.toNatClampNeg = (2 : Int32)) ∧ (∀ (A : AN) (s : SH) (d : Nat), A (sN F0) = (s, d, false) → bd 0 F0 s → EX X F0 G0 A F36 G s d []) := by
                  intro hl h54
                  have l_44 : LV F2 := LV.mo hK36 hM36 rfl rfl (show LV F36 from hl)
                  exact absurd (u36 l_44.1) (by rw [(show LV F36 from hl).2.1 (Eq.trans (k_37.1 54 rfl) h54)]; decide)
                exact mtj_argument_236 (px := px) (py := py) rc ihK ihM ihT hT r2 F36 G ⟨k_37, k_38, (show (F36 43) = (F0 43) by first | rfl | (simp only [q_39, q_40, q_41, h43, h70, q_5, q_6, q_7, i_as])), (show (F36 70) = F0 70 by first | rfl | (simp only [q_39, q_40, q_41, h43, h70, q_5, q_6, q_7, i_as])), (show 0 ≤ (F36 60).toInt from (show 0 ≤ (F36 60).toInt by rw [hK36.1 60 rfl]; exact (show 0 ≤ (F2 60).toInt by rw [hK2.1 60 rfl]; exact h60))), k_42, (by first | assumption | rfl | (simp only [q_39, q_40, q_41, h43, h70, q_5, q_6, q_7, i_as]; assumption)), (by first | assumption | rfl | (simp only [q_39, q_40, q_41, h43, h70, q_5, q_6, q_7, i_as]; assumption)), hL43⟩
            · skip
              unfold mb_argument_225
              unfold mb_argument_226
              refine PP.ite (fun c_45 => ?_) (fun c_45 => ?_)
              · skip
                have hL46 : LV F2 → F0 54 = 0 → (mnR F0 r2) ∧ (¬ r2 = (-1 : Int32)) ∧ (G 17 r2.toNatClampNeg = (2 : Int32)) ∧ (∀ (A : AN) (s : SH) (d : Nat), A (sN F0) = (s, d, false) → bd 0 F0 s → EX X F0 G0 A F2 G s d []) := by
                  intro hl h54
                  have l_47 : LV F := LV.mo hK2 (MO.kx hK2 rfl rfl) rfl rfl (show LV F2 from hl)
                  have hE0 := hL l_47 h54
                  have l0 : LV F := l_47
                  have l0f : LV F0 := LV.mo hK hM rfl rfl l0
                  refine ⟨(by first | assumption | contradiction | exact trivial | exact x0_ | exact x1_ | exact (fun q => absurd q.1 (by assumption)) | exact (fun q => absurd q.2 (by assumption)) | exact (fun q => x1_ ⟨by assumption, q⟩) | decide | omega), (by first | assumption | contradiction | exact trivial | exact x0_ | exact x1_ | exact (fun q => absurd q.1 (by assumption)) | exact (fun q => absurd q.2 (by assumption)) | exact (fun q => x1_ ⟨by assumption, q⟩) | decide | omega), (by first | assumption | contradiction | exact trivial | exact x0_ | exact x1_ | exact (fun q => absurd q.1 (by assumption)) | exact (fun q => absurd q.2 (by assumption)) | exact (fun q => x1_ ⟨by assumption, q⟩) | decide | omega), ?_⟩
                  intro A s d hA hb
                  have hm : X.1 = false := hT.m.1 h54
                  have E0 := hE0 A s d hA hb
                  have lb : s.length ≤ 568 := by have := bd.len hb t43.2; omega
                  have E48 : EX X F0 G0 A F2 G s d [] := EX.st E0 (hK2.1 60 rfl) (fun _ _ _ => rfl)
                  exact EX.st E48 rfl (fun _ _ _ => rfl)
                exact mtj_argument_236 (px := px) (py := py) rc ihK ihM ihT hT r2 F2 G ⟨k_3, k_4, (show (F2 43) = (F0 43) by first | rfl | (simp only [q_5, q_6, q_7, h43, h70, i_as])), (show (F2 70) = F0 70 by first | rfl | (simp only [q_5, q_6, q_7, h43, h70, i_as])), (show 0 ≤ (F2 60).toInt from (show 0 ≤ (F2 60).toInt by rw [hK2.1 60 rfl]; exact h60)), k_8, (by first | assumption | rfl | (simp only [q_5, q_6, q_7, h43, h70, i_as]; assumption)), (by first | assumption | rfl | (simp only [q_5, q_6, q_7, h43, h70, i_as]; assumption)), hL46⟩
              · skip
                unfold mb_argument_229
                refine PP.bind (PP.and (mp_note (7 : Int32) x3 (by decide) F2 G) (mm_note (7 : Int32) x3 (by decide) F2 G)) ?_
                rintro r49 F49 G49 ⟨⟨hK49, rfl, u49, -⟩, hM49⟩
                dsimp only
                have k_50 : KX [42, 43, 44, 45, 47, 48, 49, 55, 60, 62, 70] [56, 57, 58, 59, 67, 68, 69] F0 G0 F49 G := (KX.tr k_3 hK49 rfl rfl)
                have k_51 : MO F0 F49 := (MO.tr k_4 hM49)
                have q_52 : F49 42 = (F 42) := Eq.trans (hK49.1 42 rfl) (show (F2 42) = (F 42) by simp only [q_5, q_6, q_7, h43, h70, i_as])
                have q_53 : F49 43 = (F0 43) := Eq.trans (hK49.1 43 rfl) (show (F2 43) = (F0 43) by simp only [q_5, q_6, q_7, h43, h70, i_as])
                have q_54 : F49 70 = (F0 70) := Eq.trans (hK49.1 70 rfl) (show (F2 70) = (F0 70) by simp only [q_5, q_6, q_7, h43, h70, i_as])
                have k_55 : PKp F0 G0 G := PKp.kx (show PKp F0 G0 G from k_8) hK49 rfl rfl
                have hL56 : LV F49 → F0 54 = 0 → (mnR F0 r2) ∧ (¬ r2 = (-1 : Int32)) ∧ (G 17 r2.toNatClampNeg = (2 : Int32)) ∧ (∀ (A : AN) (s : SH) (d : Nat), A (sN F0) = (s, d, false) → bd 0 F0 s → EX X F0 G0 A F49 G s d []) := by
                  intro hl h54
                  have l_57 : LV F2 := LV.mo hK49 hM49 rfl rfl (show LV F49 from hl)
                  exact absurd (u49 l_57.1) (by rw [(show LV F49 from hl).2.1 (Eq.trans (k_50.1 54 rfl) h54)]; decide)
                exact mtj_argument_236 (px := px) (py := py) rc ihK ihM ihT hT r2 F49 G ⟨k_50, k_51, (show (F49 43) = (F0 43) by first | rfl | (simp only [q_52, q_53, q_54, h43, h70, q_5, q_6, q_7, i_as])), (show (F49 70) = F0 70 by first | rfl | (simp only [q_52, q_53, q_54, h43, h70, q_5, q_6, q_7, i_as])), (show 0 ≤ (F49 60).toInt from (show 0 ≤ (F49 60).toInt by rw [hK49.1 60 rfl]; exact (show 0 ≤ (F2 60).toInt by rw [hK2.1 60 rfl]; exact h60))), k_55, (by first | assumption | rfl | (simp only [q_52, q_53, q_54, h43, h70, q_5, q_6, q_7, i_as]; assumption)), (by first | assumption | rfl | (simp only [q_52, q_53, q_54, h43, h70, q_5, q_6, q_7, i_as]; assumption)), hL56⟩
          · skip
            unfold mb_argument_229
            refine PP.bind (PP.and (mp_note (7 : Int32) x3 (by decide) F2 G) (mm_note (7 : Int32) x3 (by decide) F2 G)) ?_
            rintro r58 F58 G58 ⟨⟨hK58, rfl, u58, -⟩, hM58⟩
            dsimp only
            have k_59 : KX [42, 43, 44, 45, 47, 48, 49, 55, 60, 62, 70] [56, 57, 58, 59, 67, 68, 69] F0 G0 F58 G := (KX.tr k_3 hK58 rfl rfl)
            have k_60 : MO F0 F58 := (MO.tr k_4 hM58)
            have q_61 : F58 42 = (F 42) := Eq.trans (hK58.1 42 rfl) (show (F2 42) = (F 42) by simp only [q_5, q_6, q_7, h43, h70, i_as])
            have q_62 : F58 43 = (F0 43) := Eq.trans (hK58.1 43 rfl) (show (F2 43) = (F0 43) by simp only [q_5, q_6, q_7, h43, h70, i_as])
            have q_63 : F58 70 = (F0 70) := Eq.trans (hK58.1 70 rfl) (show (F2 70) = (F0 70) by simp only [q_5, q_6, q_7, h43, h70, i_as])
            have k_64 : PKp F0 G0 G := PKp.kx (show PKp F0 G0 G from k_8) hK58 rfl rfl
            have hL65 : LV F58 → F0 54 = 0 → (mnR F0 r2) ∧ (¬ r2 = (-1 : Int32)) ∧ (G 17 r2.toNatClampNeg = (2 : Int32)) ∧ (∀ (A : AN) (s : SH) (d : Nat), A (sN F0) = (s, d, false) → bd 0 F0 s → EX X F0 G0 A F58 G s d []) := by
              intro hl h54
              have l_66 : LV F2 := LV.mo hK58 hM58 rfl rfl (show LV F58 from hl)
              exact absurd (u58 l_66.1) (by rw [(show LV F58 from hl).2.1 (Eq.trans (k_59.1 54 rfl) h54)]; decide)
            exact mtj_argument_236 (px := px) (py := py) rc ihK ihM ihT hT r2 F58 G ⟨k_59, k_60, (show (F58 43) = (F0 43) by first | rfl | (simp only [q_61, q_62, q_63, h43, h70, q_5, q_6, q_7, i_as])), (show (F58 70) = F0 70 by first | rfl | (simp only [q_61, q_62, q_63, h43, h70, q_5, q_6, q_7, i_as])), (show 0 ≤ (F58 60).toInt from (show 0 ≤ (F58 60).toInt by rw [hK58.1 60 rfl]; exact (show 0 ≤ (F2 60).toInt by rw [hK2.1 60 rfl]; exact h60))), k_64, (by first | assumption | rfl | (simp only [q_61, q_62, q_63, h43, h70, q_5, q_6, q_7, i_as]; assumption)), (by first | assumption | rfl | (simp only [q_61, q_62, q_63, h43, h70, q_5, q_6, q_7, i_as]; assumption)), hL65⟩
    · skip
      unfold mb_argument_191
      refine PP.ite (fun c_67 => ?_) (fun c_67 => ?_)
      · skip
        unfold mb_argument_229
        refine PP.bind (PP.and (mp_note (7 : Int32) x3 (by decide) F2 G) (mm_note (7 : Int32) x3 (by decide) F2 G)) ?_
        rintro r68 F68 G68 ⟨⟨hK68, rfl, u68, -⟩, hM68⟩
        dsimp only
        have k_69 : KX [42, 43, 44, 45, 47, 48, 49, 55, 60, 62, 70] [56, 57, 58, 59, 67, 68, 69] F0 G0 F68 G := (KX.tr k_3 hK68 rfl rfl)
        have k_70 : MO F0 F68 := (MO.tr k_4 hM68)
        have q_71 : F68 42 = (F 42) := Eq.trans (hK68.1 42 rfl) (show (F2 42) = (F 42) by simp only [q_5, q_6, q_7, h43, h70, i_as])
        have q_72 : F68 43 = (F0 43) := Eq.trans (hK68.1 43 rfl) (show (F2 43) = (F0 43) by simp only [q_5, q_6, q_7, h43, h70, i_as])
        have q_73 : F68 70 = (F0 70) := Eq.trans (hK68.1 70 rfl) (show (F2 70) = (F0 70) by simp only [q_5, q_6, q_7, h43, h70, i_as])
        have k_74 : PKp F0 G0 G := PKp.kx (show PKp F0 G0 G from k_8) hK68 rfl rfl
        have hL75 : LV F68 → F0 54 = 0 → (mnR F0 r2) ∧ (¬ r2 = (-1 : Int32)) ∧ (G 17 r2.toNatClampNeg = (2 : Int32)) ∧ (∀ (A : AN) (s : SH) (d : Nat), A (sN F0) = (s, d, false) → bd 0 F0 s → EX X F0 G0 A F68 G s d []) := by
          intro hl h54
          have l_76 : LV F2 := LV.mo hK68 hM68 rfl rfl (show LV F68 from hl)
          exact absurd (u68 l_76.1) (by rw [(show LV F68 from hl).2.1 (Eq.trans (k_69.1 54 rfl) h54)]; decide)
        exact mtj_argument_236 (px := px) (py := py) rc ihK ihM ihT hT r2 F68 G ⟨k_69, k_70, (show (F68 43) = (F0 43) by first | rfl | (simp only [q_71, q_72, q_73, h43, h70, q_5, q_6, q_7, i_as])), (show (F68 70) = F0 70 by first | rfl | (simp only [q_71, q_72, q_73, h43, h70, q_5, q_6, q_7, i_as])), (show 0 ≤ (F68 60).toInt from (show 0 ≤ (F68 60).toInt by rw [hK68.1 60 rfl]; exact (show 0 ≤ (F2 60).toInt by rw [hK2.1 60 rfl]; exact h60))), k_74, (by first | assumption | rfl | (simp only [q_71, q_72, q_73, h43, h70, q_5, q_6, q_7, i_as]; assumption)), (by first | assumption | rfl | (simp only [q_71, q_72, q_73, h43, h70, q_5, q_6, q_7, i_as]; assumption)), hL75⟩
      · skip
        unfold mb_argument_197
        refine PP.ix (fun _ => ?_)
        refine PP.ite (fun c_77 => ?_) (fun c_77 => ?_)
        · skip
          unfold mb_argument_208
          refine PP.ix (fun _ => ?_)
          refine PP.ite (fun c_78 => ?_) (fun c_78 => ?_)
          · skip
            unfold mb_argument_221
            unfold mb_argument_226
            refine PP.ite (fun c_79 => ?_) (fun c_79 => ?_)
            · skip
              have hL80 : LV F2 → F0 54 = 0 → (mnR F0 r2) ∧ (¬ r2 = (-1 : Int32)) ∧ (G 17 r2.toNatClampNeg = (2 : Int32)) ∧ (∀ (A : AN) (s : SH) (d : Nat), A (sN F0) = (s, d, false) → bd 0 F0 s → EX X F0 G0 A F2 G s d []) := by
                intro hl h54
                have l_81 : LV F := LV.mo hK2 (MO.kx hK2 rfl rfl) rfl rfl (show LV F2 from hl)
                have hE0 := hL l_81 h54
                have l0 : LV F := l_81
                have l0f : LV F0 := LV.mo hK hM rfl rfl l0
                refine ⟨(by first | assumption | contradiction | exact trivial | exact x0_ | exact x1_ | exact (fun q => absurd q.1 (by assumption)) | exact (fun q => absurd q.2 (by assumption)) | exact (fun q => x1_ ⟨by assumption, q⟩) | decide | omega), (by first | assumption | contradiction | exact trivial | exact x0_ | exact x1_ | exact (fun q => absurd q.1 (by assumption)) | exact (fun q => absurd q.2 (by assumption)) | exact (fun q => x1_ ⟨by assumption, q⟩) | decide | omega), (by first | assumption | contradiction | exact trivial | exact x0_ | exact x1_ | exact (fun q => absurd q.1 (by assumption)) | exact (fun q => absurd q.2 (by assumption)) | exact (fun q => x1_ ⟨by assumption, q⟩) | decide | omega), ?_⟩
                intro A s d hA hb
                have hm : X.1 = false := hT.m.1 h54
                have E0 := hE0 A s d hA hb
                have lb : s.length ≤ 568 := by have := bd.len hb t43.2; omega
                have E82 : EX X F0 G0 A F2 G s d [] := EX.st E0 (hK2.1 60 rfl) (fun _ _ _ => rfl)
                exact EX.st E82 rfl (fun _ _ _ => rfl)
              exact mtj_argument_236 (px := px) (py := py) rc ihK ihM ihT hT r2 F2 G ⟨k_3, k_4, (show (F2 43) = (F0 43) by first | rfl | (simp only [q_5, q_6, q_7, h43, h70, i_as])), (show (F2 70) = F0 70 by first | rfl | (simp only [q_5, q_6, q_7, h43, h70, i_as])), (show 0 ≤ (F2 60).toInt from (show 0 ≤ (F2 60).toInt by rw [hK2.1 60 rfl]; exact h60)), k_8, (by first | assumption | rfl | (simp only [q_5, q_6, q_7, h43, h70, i_as]; assumption)), (by first | assumption | rfl | (simp only [q_5, q_6, q_7, h43, h70, i_as]; assumption)), hL80⟩
            · skip
              unfold mb_argument_229
              refine PP.bind (PP.and (mp_note (7 : Int32) x3 (by decide) F2 G) (mm_note (7 : Int32) x3 (by decide) F2 G)) ?_
              rintro r83 F83 G83 ⟨⟨hK83, rfl, u83, -⟩, hM83⟩
              dsimp only
              have k_84 : KX [42, 43, 44, 45, 47, 48, 49, 55, 60, 62, 70] [56, 57, 58, 59, 67, 68, 69] F0 G0 F83 G := (KX.tr k_3 hK83 rfl rfl)
              have k_85 : MO F0 F83 := (MO.tr k_4 hM83)
              have q_86 : F83 42 = (F 42) := Eq.trans (hK83.1 42 rfl) (show (F2 42) = (F 42) by simp only [q_5, q_6, q_7, h43, h70, i_as])
              have q_87 : F83 43 = (F0 43) := Eq.trans (hK83.1 43 rfl) (show (F2 43) = (F0 43) by simp only [q_5, q_6, q_7, h43, h70, i_as])
              have q_88 : F83 70 = (F0 70) := Eq.trans (hK83.1 70 rfl) (show (F2 70) = (F0 70) by simp only [q_5, q_6, q_7, h43, h70, i_as])
              have k_89 : PKp F0 G0 G := PKp.kx (show PKp F0 G0 G from k_8) hK83 rfl rfl
              have hL90 : LV F83 → F0 54 = 0 → (mnR F0 r2) ∧ (¬ r2 = (-1 : Int32)) ∧ (G 17 r2.toNatClampNeg = (2 : Int32)) ∧ (∀ (A : AN) (s : SH) (d : Nat), A (sN F0) = (s, d, false) → bd 0 F0 s → EX X F0 G0 A F83 G s d []) := by
                intro hl h54
                have l_91 : LV F2 := LV.mo hK83 hM83 rfl rfl (show LV F83 from hl)
                exact absurd (u83 l_91.1) (by rw [(show LV F83 from hl).2.1 (Eq.trans (k_84.1 54 rfl) h54)]; decide)
              exact mtj_argument_236 (px := px) (py := py) rc ihK ihM ihT hT r2 F83 G ⟨k_84, k_85, (show (F83 43) = (F0 43) by first | rfl | (simp only [q_86, q_87, q_88, h43, h70, q_5, q_6, q_7, i_as])), (show (F83 70) = F0 70 by first | rfl | (simp only [q_86, q_87, q_88, h43, h70, q_5, q_6, q_7, i_as])), (show 0 ≤ (F83 60).toInt from (show 0 ≤ (F83 60).toInt by rw [hK83.1 60 rfl]; exact (show 0 ≤ (F2 60).toInt by rw [hK2.1 60 rfl]; exact h60))), k_89, (by first | assumption | rfl | (simp only [q_86, q_87, q_88, h43, h70, q_5, q_6, q_7, i_as]; assumption)), (by first | assumption | rfl | (simp only [q_86, q_87, q_88, h43, h70, q_5, q_6, q_7, i_as]; assumption)), hL90⟩
          · skip
            unfold mb_argument_225
            unfold mb_argument_226
            refine PP.ite (fun c_92 => ?_) (fun c_92 => ?_)
            · skip
              have hL93 : LV F2 → F0 54 = 0 → (mnR F0 r2) ∧ (¬ r2 = (-1 : Int32)) ∧ (G 17 r2.toNatClampNeg = (2 : Int32)) ∧ (∀ (A : AN) (s : SH) (d : Nat), A (sN F0) = (s, d, false) → bd 0 F0 s → EX X F0 G0 A F2 G s d []) := by
                intro hl h54
                have l_94 : LV F := LV.mo hK2 (MO.kx hK2 rfl rfl) rfl rfl (show LV F2 from hl)
                have hE0 := hL l_94 h54
                have l0 : LV F := l_94
                have l0f : LV F0 := LV.mo hK hM rfl rfl l0
                refine ⟨(by first | assumption | contradiction | exact trivial | exact x0_ | exact x1_ | exact (fun q => absurd q.1 (by assumption)) | exact (fun q => absurd q.2 (by assumption)) | exact (fun q => x1_ ⟨by assumption, q⟩) | decide | omega), (by first | assumption | contradiction | exact trivial | exact x0_ | exact x1_ | exact (fun q => absurd q.1 (by assumption)) | exact (fun q => absurd q.2 (by assumption)) | exact (fun q => x1_ ⟨by assumption, q⟩) | decide | omega), (by first | assumption | contradiction | exact trivial | exact x0_ | exact x1_ | exact (fun q => absurd q.1 (by assumption)) | exact (fun q => absurd q.2 (by assumption)) | exact (fun q => x1_ ⟨by assumption, q⟩) | decide | omega), ?_⟩
                intro A s d hA hb
                have hm : X.1 = false := hT.m.1 h54
                have E0 := hE0 A s d hA hb
                have lb : s.length ≤ 568 := by have := bd.len hb t43.2; omega
                have E95 : EX X F0 G0 A F2 G s d [] := EX.st E0 (hK2.1 60 rfl) (fun _ _ _ => rfl)
                exact EX.st E95 rfl (fun _ _ _ => rfl)
              exact mtj_argument_236 (px := px) (py := py) rc ihK ihM ihT hT r2 F2 G ⟨k_3, k_4, (show (F2 43) = (F0 43) by first | rfl | (simp only [q_5, q_6, q_7, h43, h70, i_as])), (show (F2 70) = F0 70 by first | rfl | (simp only [q_5, q_6, q_7, h43, h70, i_as])), (show 0 ≤ (F2 60).toInt from (show 0 ≤ (F2 60).toInt by rw [hK2.1 60 rfl]; exact h60)), k_8, (by first | assumption | rfl | (simp only [q_5, q_6, q_7, h43, h70, i_as]; assumption)), (by first | assumption | rfl | (simp only [q_5, q_6, q_7, h43, h70, i_as]; assumption)), hL93⟩
            · skip
              unfold mb_argument_229
              refine PP.bind (PP.and (mp_note (7 : Int32) x3 (by decide) F2 G) (mm_note (7 : Int32) x3 (by decide) F2 G)) ?_
              rintro r96 F96 G96 ⟨⟨hK96, rfl, u96, -⟩, hM96⟩
              dsimp only
              have k_97 : KX [42, 43, 44, 45, 47, 48, 49, 55, 60, 62, 70] [56, 57, 58, 59, 67, 68, 69] F0 G0 F96 G := (KX.tr k_3 hK96 rfl rfl)
              have k_98 : MO F0 F96 := (MO.tr k_4 hM96)
              have q_99 : F96 42 = (F 42) := Eq.trans (hK96.1 42 rfl) (show (F2 42) = (F 42) by simp only [q_5, q_6, q_7, h43, h70, i_as])
              have q_100 : F96 43 = (F0 43) := Eq.trans (hK96.1 43 rfl) (show (F2 43) = (F0 43) by simp only [q_5, q_6, q_7, h43, h70, i_as])
              have q_101 : F96 70 = (F0 70) := Eq.trans (hK96.1 70 rfl) (show (F2 70) = (F0 70) by simp only [q_5, q_6, q_7, h43, h70, i_as])
              have k_102 : PKp F0 G0 G := PKp.kx (show PKp F0 G0 G from k_8) hK96 rfl rfl
              have hL103 : LV F96 → F0 54 = 0 → (mnR F0 r2) ∧ (¬ r2 = (-1 : Int32)) ∧ (G 17 r2.toNatClampNeg = (2 : Int32)) ∧ (∀ (A : AN) (s : SH) (d : Nat), A (sN F0) = (s, d, false) → bd 0 F0 s → EX X F0 G0 A F96 G s d []) := by
                intro hl h54
                have l_104 : LV F2 := LV.mo hK96 hM96 rfl rfl (show LV F96 from hl)
                exact absurd (u96 l_104.1) (by rw [(show LV F96 from hl).2.1 (Eq.trans (k_97.1 54 rfl) h54)]; decide)
              exact mtj_argument_236 (px := px) (py := py) rc ihK ihM ihT hT r2 F96 G ⟨k_97, k_98, (show (F96 43) = (F0 43) by first | rfl | (simp only [q_99, q_100, q_101, h43, h70, q_5, q_6, q_7, i_as])), (show (F96 70) = F0 70 by first | rfl | (simp only [q_99, q_100, q_101, h43, h70, q_5, q_6, q_7, i_as])), (show 0 ≤ (F96 60).toInt from (show 0 ≤ (F96 60).toInt by rw [hK96.1 60 rfl]; exact (show 0 ≤ (F2 60).toInt by rw [hK2.1 60 rfl]; exact h60))), k_102, (by first | assumption | rfl | (simp only [q_99, q_100, q_101, h43, h70, q_5, q_6, q_7, i_as]; assumption)), (by first | assumption | rfl | (simp only [q_99, q_100, q_101, h43, h70, q_5, q_6, q_7, i_as]; assumption)), hL103⟩
        · skip
          unfold mb_argument_229
          refine PP.bind (PP.and (mp_note (7 : Int32) x3 (by decide) F2 G) (mm_note (7 : Int32) x3 (by decide) F2 G)) ?_
          rintro r105 F105 G105 ⟨⟨hK105, rfl, u105, -⟩, hM105⟩
          dsimp only
          have k_106 : KX [42, 43, 44, 45, 47, 48, 49, 55, 60, 62, 70] [56, 57, 58, 59, 67, 68, 69] F0 G0 F105 G := (KX.tr k_3 hK105 rfl rfl)
          have k_107 : MO F0 F105 := (MO.tr k_4 hM105)
          have q_108 : F105 42 = (F 42) := Eq.trans (hK105.1 42 rfl) (show (F2 42) = (F 42) by simp only [q_5, q_6, q_7, h43, h70, i_as])
          have q_109 : F105 43 = (F0 43) := Eq.trans (hK105.1 43 rfl) (show (F2 43) = (F0 43) by simp only [q_5, q_6, q_7, h43, h70, i_as])
          have q_110 : F105 70 = (F0 70) := Eq.trans (hK105.1 70 rfl) (show (F2 70) = (F0 70) by simp only [q_5, q_6, q_7, h43, h70, i_as])
          have k_111 : PKp F0 G0 G := PKp.kx (show PKp F0 G0 G from k_8) hK105 rfl rfl
          have hL112 : LV F105 → F0 54 = 0 → (mnR F0 r2) ∧ (¬ r2 = (-1 : Int32)) ∧ (G 17 r2.toNatClampNeg = (2 : Int32)) ∧ (∀ (A : AN) (s : SH) (d : Nat), A (sN F0) = (s, d, false) → bd 0 F0 s → EX X F0 G0 A F105 G s d []) := by
            intro hl h54
            have l_113 : LV F2 := LV.mo hK105 hM105 rfl rfl (show LV F105 from hl)
            exact absurd (u105 l_113.1) (by rw [(show LV F105 from hl).2.1 (Eq.trans (k_106.1 54 rfl) h54)]; decide)
          exact mtj_argument_236 (px := px) (py := py) rc ihK ihM ihT hT r2 F105 G ⟨k_106, k_107, (show (F105 43) = (F0 43) by first | rfl | (simp only [q_108, q_109, q_110, h43, h70, q_5, q_6, q_7, i_as])), (show (F105 70) = F0 70 by first | rfl | (simp only [q_108, q_109, q_110, h43, h70, q_5, q_6, q_7, i_as])), (show 0 ≤ (F105 60).toInt from (show 0 ≤ (F105 60).toInt by rw [hK105.1 60 rfl]; exact (show 0 ≤ (F2 60).toInt by rw [hK2.1 60 rfl]; exact h60))), k_111, (by first | assumption | rfl | (simp only [q_108, q_109, q_110, h43, h70, q_5, q_6, q_7, i_as]; assumption)), (by first | assumption | rfl | (simp only [q_108, q_109, q_110, h43, h70, q_5, q_6, q_7, i_as]; assumption)), hL112⟩
  · skip
    unfold mb_argument_139
    refine PP.ite (fun _ => ?_) (fun c_114 => absurd (by decide) c_114)
    unfold mb_argument_146
    refine PP.bind (PP.and (mp_note (7 : Int32) x3 (by decide) F G) (mm_note (7 : Int32) x3 (by decide) F G)) ?_
    rintro r115 F115 G115 ⟨⟨hK115, rfl, u115, -⟩, hM115⟩
    dsimp only
    have k_116 : KX [42, 43, 44, 45, 47, 48, 49, 55, 60, 62, 70] [56, 57, 58, 59, 67, 68, 69] F0 G0 F115 G := (KX.tr hK hK115 rfl rfl)
    have k_117 : MO F0 F115 := (MO.tr hM hM115)
    have q_118 : F115 42 = (F 42) := hK115.1 42 rfl
    have q_119 : F115 43 = (F0 43) := Eq.trans (hK115.1 43 rfl) (show (F 43) = (F0 43) by simp only [h43, h70, i_as])
    have q_120 : F115 70 = (F0 70) := Eq.trans (hK115.1 70 rfl) (show (F 70) = (F0 70) by simp only [h43, h70, i_as])
    have k_121 : PKp F0 G0 G := PKp.kx (show PKp F0 G0 G from hPK) hK115 rfl rfl
    unfold mb_argument_153
    refine PP.bind (PP.and (ihK 4 0 0 F115 G) (PP.and (ihM 4 0 0 F115 G) (ihT 4 0 0 F115 G (TP.kx hT k_116 (fun q => (k_117).1 q) rfl (show 0 ≤ (F115 43).toInt ∧ (F115 43).toInt ≤ 40 by first | exact t43 | (simp only [q_118, q_119, q_120, h43, h70, i_as]; exact t43)) (show 0 ≤ (F115 70).toInt by first | exact t70 | (simp only [q_118, q_119, q_120, h43, h70, i_as]; exact t70)) (show 0 ≤ (F115 60).toInt from (show 0 ≤ (F115 60).toInt by rw [hK115.1 60 rfl]; exact h60)))))) ?_
    rintro r122 F122 G122 ⟨hK122, hM122, (rfl | rfl), u122⟩
    · dsimp only
      unfold mb_argument_157
      refine PP.ret ?_
      exact ⟨Or.inl rfl, fun h => absurd h (by decide)⟩
    · dsimp only
      obtain ⟨u122a, u122b, u122c, u122d, u122e⟩ := u122 rfl
      have k_123 : KX [42, 43, 44, 45, 47, 48, 49, 55, 60, 62, 70] [56, 57, 58, 59, 67, 68, 69] F0 G0 F122 G122 := (KX.tr k_116 hK122 rfl rfl)
      have k_124 : MO F0 F122 := (MO.tr k_117 hM122)
      have q_125 : F122 43 = (F0 43) := Eq.trans u122a (show (F115 43) = (F0 43) by simp only [q_118, q_119, q_120, h43, h70, i_as])
      have q_126 : F122 70 = (F0 70) := Eq.trans u122b (show (F115 70) = (F0 70) by simp only [q_118, q_119, q_120, h43, h70, i_as])
      have q_127 : F115 70 = F0 70 := (show (F115 70) = F0 70 by first | rfl | (simp only [q_118, q_119, q_120, h43, h70, i_as]))
      have k_128 : PKp F0 G0 G122 := PKp.tr (show PKp F0 G0 G from k_121) u122d q_127
      unfold mb_argument_157
      refine PP.ret ?_
      refine ⟨Or.inr rfl, fun _ => ⟨(show (F122 43) = F0 43 by first | rfl | (simp only [q_125, q_126, h43, h70, q_118, q_119, q_120, i_as])), (show (F122 70) = F0 70 by first | rfl | (simp only [q_125, q_126, h43, h70, q_118, q_119, q_120, i_as])), (show 0 ≤ (F122 60).toInt from u122c), k_128, fun hl => ?_⟩⟩
      show F0 54 = 0 → FOK F0 px → 0 ≤ py.toInt → py.toInt < (G0 27 px.toNatClampNeg).toInt ∧ TE X F0 G0 F122 G122 0 (pushK (G0 34 (G0 31 px.toNatClampNeg + py).toNatClampNeg).toInt.toNat)
      intro h54 hF hy
      have l_129 : LV F115 := LV.mo hK122 hM122 rfl rfl (show LV F122 from hl)
      have l_130 : LV F := LV.mo hK115 hM115 rfl rfl (show LV F115 from l_129)
      exact absurd (u115 l_130.1) (by rw [(show LV F115 from l_129).2.1 (Eq.trans (k_116.1 54 rfl) h54)]; decide)
