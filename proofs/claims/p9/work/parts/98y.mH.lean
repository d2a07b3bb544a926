/-- nothing is missing in a constant without being found -/
def HN (F : PF) : Prop := F 55 = 0 ∨ ¬ F 47 = 0
def DC (F : PF) (G : PG) : Prop := (0 ≤ (F 14).toInt ∧ 0 ≤ (F 24).toInt ∧ 0 < (F 46).toInt) ∧ (F 47 = 0 → ∀ k : Nat, (k : Int) < (F 14).toInt → G 17 k = 0 → ¬ G 21 k = -1)
theorem HN.kx {a b : List Nat} {F F1 : PF} {G G1 : PG} (h : HN F) (K : KX a b F G F1 G1) (e : a.contains 47 = false) (e1 : a.contains 55 = false) : HN F1 := by
  unfold HN
  rw [K.1 47 e, K.1 55 e1]
  exact h
theorem HN.mo {a b : List Nat} {F F1 : PF} {G G1 : PG} (h : HN F) (K : KX a b F G F1 G1) (M : MO F F1) (e1 : a.contains 55 = false) : HN F1 := by
  rcases h with q | q
  · exact Or.inl ((K.1 55 e1).trans q)
  · exact Or.inr (fun q1 => q (M.1 q1))
theorem DC.kx {F F1 : PF} {G G1 : PG} (h : DC F G) (K : KX [42, 43, 44, 45, 47, 48, 49, 55, 60, 62, 70] [56, 57, 58, 59, 67, 68, 69] F G F1 G1) (M : MO F F1) : DC F1 G1 := by
  obtain ⟨⟨h1, h2, h3⟩, h4⟩ := h
  have e14 : F1 14 = F 14 := K.1 14 rfl
  have e24 : F1 24 = F 24 := K.1 24 rfl
  have e46 : F1 46 = F 46 := K.1 46 rfl
  have g17 : G1 17 = G 17 := K.2 17 rfl
  have g21 : G1 21 = G 21 := K.2 21 rfl
  refine ⟨?_, ?_⟩
  · rw [e14, e24, e46]
    exact ⟨h1, h2, h3⟩
  · intro q
    rw [e14, g17, g21]
    exact h4 (M.1 q)
theorem DC.no {F F1 : PF} {G G1 : PG} {m : Int32} (h : DC F G) (K : KX [42, 43, 44, 45, 47, 48, 49, 55, 60, 62, 70] [56, 57, 58, 59, 67, 68, 69] F G F1 G1) (M : MO F F1) (hm : mnR F m) (hne : ¬ m = -1) (hk : G1 17 m.toNatClampNeg = 0) (hs : G1 21 m.toNatClampNeg = -1) : ¬ F1 47 = 0 := by
  intro q
  rcases hm with r | ⟨r1, r2⟩
  · exact hne r
  · rw [K.2 17 rfl] at hk
    rw [K.2 21 rfl] at hs
    exact h.2 (M.1 q) m.toNatClampNeg (by show (m.toInt.toNat : Int) < _; omega) hk hs
theorem pos_ne {x : Int32} (h : 0 < x.toInt) : ¬ x = 0 := fun q => by rw [q] at h; exact absurd h (by decide)
def mHI (rc : RC) : Prop := ∀ (i : Nat) (x y : Int32) (F : PF) (G : PG), DC F G → HN F → PP (rc i x y F G) (fun _ F1 _ => HN F1)

theorem mhj_argument_12 {fu : Nat} (rc : RC) (ihK : mKI1 rc) (ihM : mMOI rc) (ihH : mHI rc) {F0 : PF} {G0 : PG} (hD : DC F0 G0) (F : PF) (G : PG) (hA : (KX [42, 43, 44, 45, 47, 48, 49, 55, 60, 62, 70] [56, 57, 58, 59, 67, 68, 69] F0 G0 F G ∧ MO F0 F ∧ HN F)) : PP (mb_argument_12 fu rc F G) (fun _ F' _ => HN F') := by
  rcases hA with ⟨hK, hM, hH⟩
  · skip
    unfold mb_argument_12
    refine PP.bind (PP.and (ihK 4 0 0 F G) (PP.and (ihM 4 0 0 F G) (ihH 4 0 0 F G (DC.kx hD (show KX [42, 43, 44, 45, 47, 48, 49, 55, 60, 62, 70] [56, 57, 58, 59, 67, 68, 69] F0 G0 F G from hK) (show MO F0 F from hM)) hH))) ?_
    rintro r1 F1 G1 ⟨hK1, hM1, hH1⟩
    dsimp only
    have k_2 : KX [42, 43, 44, 45, 47, 48, 49, 55, 60, 62, 70] [56, 57, 58, 59, 67, 68, 69] F0 G0 F1 G1 := KX.tr (show KX [42, 43, 44, 45, 47, 48, 49, 55, 60, 62, 70] [56, 57, 58, 59, 67, 68, 69] F0 G0 F G from hK) hK1 rfl rfl
    have k_3 : MO F0 F1 := MO.tr (show MO F0 F from hM) hM1
    have k_4 : HN F1 := hH1
    unfold mb_argument_16
    refine PP.bz (fun _ => ?_)
    refine PP.ret ?_
    exact (show HN F1 from k_4)
theorem mhj_argument_314 {fu : Nat} (rc : RC) (ihK : mKI1 rc) (ihM : mMOI rc) (ihH : mHI rc) {F0 : PF} {G0 : PG} (hD : DC F0 G0) (z0 : Int32) (z1 : Int32) (F : PF) (G : PG) (hA : (KX [42, 43, 44, 45, 47, 48, 49, 55, 60, 62, 70] [56, 57, 58, 59, 67, 68, 69] F0 G0 F G ∧ MO F0 F ∧ HN F)) : PP (mb_argument_314 fu rc z0 z1 F G) (fun _ F' _ => HN F') := by
  rcases hA with ⟨hK, hM, hH⟩
  · skip
    unfold mb_argument_314
    refine PP.ix (fun _ => ?_)
    unfold mb_argument_315
    refine PP.ret ?_
    exact (show HN F from hH)
theorem mhj_argument_313 {fu : Nat} (rc : RC) (ihK : mKI1 rc) (ihM : mMOI rc) (ihH : mHI rc) {F0 : PF} {G0 : PG} (hD : DC F0 G0) (z0 : Int32) (F : PF) (G : PG) (hA : (KX [42, 43, 44, 45, 47, 48, 49, 55, 60, 62, 70] [56, 57, 58, 59, 67, 68, 69] F0 G0 F G ∧ MO F0 F ∧ HN F)) : PP (mb_argument_313 fu rc z0 F G) (fun _ F' _ => HN F') := by
  rcases hA with ⟨hK, hM, hH⟩
  · skip
    unfold mb_argument_313
    exact mhj_argument_314 rc ihK ihM ihH hD (0 : Int32) z0 F G ⟨hK, (show MO F0 F from hM), (show HN F from hH)⟩
theorem mhj_argument_282 {fu : Nat} (rc : RC) (ihK : mKI1 rc) (ihM : mMOI rc) (ihH : mHI rc) {F0 : PF} {G0 : PG} (hD : DC F0 G0) (x6 : Int32) (z0 : Int32) (z1 : Int32) (z2 : Int32) (F : PF) (G : PG) (hA : (KX [42, 43, 44, 45, 47, 48, 49, 55, 60, 62, 70] [56, 57, 58, 59, 67, 68, 69] F0 G0 F G ∧ MO F0 F ∧ HN F)) : PP (mb_argument_282 fu rc x6 z0 z1 z2 F G) (fun _ F' _ => HN F') := by
  rcases hA with ⟨hK, hM, hH⟩
  · skip
    unfold mb_argument_282
    refine PP.bind (mw_step z2 z1 z0 F G) ?_
    intro r1 F1 G1 hK1
    dsimp only
    have k_2 : KX [42, 43, 44, 45, 47, 48, 49, 55, 60, 62, 70] [56, 57, 58, 59, 67, 68, 69] F0 G0 F1 G1 := KX.tr (show KX [42, 43, 44, 45, 47, 48, 49, 55, 60, 62, 70] [56, 57, 58, 59, 67, 68, 69] F0 G0 F G from hK) hK1 rfl rfl
    have k_3 : MO F0 F1 := MO.tr (show MO F0 F from hM) (MO.kx hK1 rfl rfl)
    have k_4 : HN F1 := HN.kx (show HN F from hH) hK1 rfl rfl
    unfold mb_argument_285
    refine PP.ite (fun c_5 => ?_) (fun c_5 => ?_)
    · skip
      exact mhj_argument_313 rc ihK ihM ihH hD r1 F1 G1 ⟨k_2, (show MO F0 F1 from k_3), (show HN F1 from k_4)⟩
    · skip
      unfold mb_argument_299
      refine PP.ix (fun _ => ?_)
      refine PP.ite (fun c_6 => ?_) (fun c_6 => ?_)
      · skip
        exact mhj_argument_313 rc ihK ihM ihH hD r1 F1 G1 ⟨k_2, (show MO F0 F1 from k_3), (show HN F1 from k_4)⟩
      · skip
        unfold mb_argument_309
        exact mhj_argument_314 rc ihK ihM ihH hD (1 : Int32) r1 F1 G1 ⟨k_2, (show MO F0 F1 from k_3), (show HN F1 from k_4)⟩
theorem mhj_argument_265 {fu : Nat} (rc : RC) (ihK : mKI1 rc) (ihM : mMOI rc) (ihH : mHI rc) {F0 : PF} {G0 : PG} (hD : DC F0 G0) (x6 : Int32) (z0 : Int32) (z1 : Int32) (F : PF) (G : PG) (hA : (KX [42, 43, 44, 45, 47, 48, 49, 55, 60, 62, 70] [56, 57, 58, 59, 67, 68, 69] F0 G0 F G ∧ MO F0 F ∧ HN F)) : PP (mb_argument_265 fu rc x6 z0 z1 F G) (fun _ F' _ => HN F') := by
  rcases hA with ⟨hK, hM, hH⟩
  · skip
    unfold mb_argument_265
    refine PP.ite (fun c_1 => ?_) (fun c_1 => ?_)
    · skip
      unfold mb_argument_271
      exact mhj_argument_282 rc ihK ihM ihH hD x6 (1 : Int32) z0 z1 F G ⟨hK, (show MO F0 F from hM), (show HN F from hH)⟩
    · skip
      unfold mb_argument_275
      refine PP.ix (fun _ => ?_)
      exact mhj_argument_282 rc ihK ihM ihH hD x6 (G 21 x6.toNatClampNeg) z0 z1 F G ⟨hK, (show MO F0 F from hM), (show HN F from hH)⟩
theorem mhj_argument_236 {fu : Nat} (rc : RC) (ihK : mKI1 rc) (ihM : mMOI rc) (ihH : mHI rc) {F0 : PF} {G0 : PG} (hD : DC F0 G0) (x6 : Int32) (F : PF) (G : PG) (hA : (KX [42, 43, 44, 45, 47, 48, 49, 55, 60, 62, 70] [56, 57, 58, 59, 67, 68, 69] F0 G0 F G ∧ MO F0 F ∧ HN F)) : PP (mb_argument_236 fu rc x6 F G) (fun _ F' _ => HN F') := by
  rcases hA with ⟨hK, hM, hH⟩
  · skip
    unfold mb_argument_236
    unfold mb_argument_246
    refine PP.ite (fun c_1 => ?_) (fun c_1 => ?_)
    · skip
      unfold mb_argument_254
      exact mhj_argument_265 rc ihK ihM ihH hD x6 (0 : Int32) (5 : Int32) (fup F 42 ((F 42) + (1 : Int32))) G ⟨(KX.f (k := 42) rfl hK), (show MO F0 (fup F 42 ((F 42) + (1 : Int32))) from (MO.f (k := 42) (by decide) (by decide) hM)), (show HN (fup F 42 ((F 42) + (1 : Int32))) from (show HN (fup F 42 ((F 42) + (1 : Int32))) from hH))⟩
    · skip
      unfold mb_argument_258
      refine PP.ix (fun _ => ?_)
      exact mhj_argument_265 rc ihK ihM ihH hD x6 (G 20 x6.toNatClampNeg) (5 : Int32) (fup F 42 ((F 42) + (1 : Int32))) G ⟨(KX.f (k := 42) rfl hK), (show MO F0 (fup F 42 ((F 42) + (1 : Int32))) from (MO.f (k := 42) (by decide) (by decide) hM)), (show HN (fup F 42 ((F 42) + (1 : Int32))) from (show HN (fup F 42 ((F 42) + (1 : Int32))) from hH))⟩
theorem mhj_argument_229 {fu : Nat} (rc : RC) (ihK : mKI1 rc) (ihM : mMOI rc) (ihH : mHI rc) {F0 : PF} {G0 : PG} (hD : DC F0 G0) (x3 : Int32) (x6 : Int32) (F : PF) (G : PG) (hA : (KX [42, 43, 44, 45, 47, 48, 49, 55, 60, 62, 70] [56, 57, 58, 59, 67, 68, 69] F0 G0 F G ∧ MO F0 F ∧ HN F)) : PP (mb_argument_229 fu rc x3 x6 F G) (fun _ F' _ => HN F') := by
  rcases hA with ⟨hK, hM, hH⟩
  · skip
    unfold mb_argument_229
    refine PP.bind (PP.and (mp_note (7 : Int32) x3 (by decide) F G) (mm_note (7 : Int32) x3 (by decide) F G)) ?_
    rintro r1 F1 G1 ⟨⟨hK1, -, hN1, -⟩, hM1⟩
    dsimp only
    have k_2 : KX [42, 43, 44, 45, 47, 48, 49, 55, 60, 62, 70] [56, 57, 58, 59, 67, 68, 69] F0 G0 F1 G1 := KX.tr (show KX [42, 43, 44, 45, 47, 48, 49, 55, 60, 62, 70] [56, 57, 58, 59, 67, 68, 69] F0 G0 F G from hK) hK1 rfl rfl
    have k_3 : MO F0 F1 := MO.tr (show MO F0 F from hM) hM1
    have k_4 : HN F1 := HN.mo (show HN F from hH) hK1 hM1 rfl
    have k_5 : ¬ F1 47 = 0 := pos_ne (hN1 (show ¬ F 46 = 0 by rw [(show KX [42, 43, 44, 45, 47, 48, 49, 55, 60, 62, 70] [56, 57, 58, 59, 67, 68, 69] F0 G0 F G from hK).1 46 rfl]; exact pos_ne hD.1.2.2))
    exact mhj_argument_236 rc ihK ihM ihH hD x6 F1 G1 ⟨k_2, (show MO F0 F1 from k_3), (show HN F1 from k_4)⟩
theorem mhj_argument_226 {fu : Nat} (rc : RC) (ihK : mKI1 rc) (ihM : mMOI rc) (ihH : mHI rc) {F0 : PF} {G0 : PG} (hD : DC F0 G0) (x3 : Int32) (x6 : Int32) (z0 : Int32) (z1 : Int32) (F : PF) (G : PG) (hA : (KX [42, 43, 44, 45, 47, 48, 49, 55, 60, 62, 70] [56, 57, 58, 59, 67, 68, 69] F0 G0 F G ∧ MO F0 F ∧ HN F)) : PP (mb_argument_226 fu rc x3 x6 z0 z1 F G) (fun _ F' _ => HN F') := by
  rcases hA with ⟨hK, hM, hH⟩
  · skip
    unfold mb_argument_226
    refine PP.ite (fun c_1 => ?_) (fun c_1 => ?_)
    · skip
      exact mhj_argument_236 rc ihK ihM ihH hD x6 F G ⟨hK, (show MO F0 F from hM), (show HN F from hH)⟩
    · skip
      exact mhj_argument_229 rc ihK ihM ihH hD x3 x6 F G ⟨hK, (show MO F0 F from hM), (show HN F from hH)⟩
theorem mhj_argument_191 {fu : Nat} (rc : RC) (ihK : mKI1 rc) (ihM : mMOI rc) (ihH : mHI rc) {F0 : PF} {G0 : PG} (hD : DC F0 G0) (x3 : Int32) (x4 : Int32) (x6 : Int32) (F : PF) (G : PG) (hA : (KX [42, 43, 44, 45, 47, 48, 49, 55, 60, 62, 70] [56, 57, 58, 59, 67, 68, 69] F0 G0 F G ∧ MO F0 F ∧ HN F)) : PP (mb_argument_191 fu rc x3 x4 x6 F G) (fun _ F' _ => HN F') := by
  rcases hA with ⟨hK, hM, hH⟩
  · skip
    unfold mb_argument_191
    refine PP.ite (fun c_1 => ?_) (fun c_1 => ?_)
    · skip
      exact mhj_argument_229 rc ihK ihM ihH hD x3 x6 F G ⟨hK, (show MO F0 F from hM), (show HN F from hH)⟩
    · skip
      unfold mb_argument_197
      refine PP.ix (fun _ => ?_)
      refine PP.ite (fun c_2 => ?_) (fun c_2 => ?_)
      · skip
        unfold mb_argument_208
        refine PP.ix (fun _ => ?_)
        refine PP.ite (fun c_3 => ?_) (fun c_3 => ?_)
        · skip
          unfold mb_argument_221
          exact mhj_argument_226 rc ihK ihM ihH hD x3 x6 (1 : Int32) (G 22 x6.toNatClampNeg) F G ⟨hK, (show MO F0 F from hM), (show HN F from hH)⟩
        · skip
          unfold mb_argument_225
          exact mhj_argument_226 rc ihK ihM ihH hD x3 x6 (0 : Int32) (G 22 x6.toNatClampNeg) F G ⟨hK, (show MO F0 F from hM), (show HN F from hH)⟩
      · skip
        exact mhj_argument_229 rc ihK ihM ihH hD x3 x6 F G ⟨hK, (show MO F0 F from hM), (show HN F from hH)⟩
theorem mhj_argument_139 {fu : Nat} (rc : RC) (ihK : mKI1 rc) (ihM : mMOI rc) (ihH : mHI rc) {F0 : PF} {G0 : PG} (hD : DC F0 G0) (x3 : Int32) (x4 : Int32) (z0 : Int32) (F : PF) (G : PG) (hA : (KX [42, 43, 44, 45, 47, 48, 49, 55, 60, 62, 70] [56, 57, 58, 59, 67, 68, 69] F0 G0 F G ∧ MO F0 F ∧ HN F)) : PP (mb_argument_139 fu rc x3 x4 z0 F G) (fun _ F' _ => HN F') := by
  rcases hA with ⟨hK, hM, hH⟩
  · skip
    unfold mb_argument_139
    refine PP.ite (fun c_1 => ?_) (fun c_1 => ?_)
    · skip
      unfold mb_argument_146
      refine PP.bind (PP.and (mp_note (7 : Int32) x3 (by decide) F G) (mm_note (7 : Int32) x3 (by decide) F G)) ?_
      rintro r2 F2 G2 ⟨⟨hK2, -, hN2, -⟩, hM2⟩
      dsimp only
      have k_3 : KX [42, 43, 44, 45, 47, 48, 49, 55, 60, 62, 70] [56, 57, 58, 59, 67, 68, 69] F0 G0 F2 G2 := KX.tr (show KX [42, 43, 44, 45, 47, 48, 49, 55, 60, 62, 70] [56, 57, 58, 59, 67, 68, 69] F0 G0 F G from hK) hK2 rfl rfl
      have k_4 : MO F0 F2 := MO.tr (show MO F0 F from hM) hM2
      have k_5 : HN F2 := HN.mo (show HN F from hH) hK2 hM2 rfl
      have k_6 : ¬ F2 47 = 0 := pos_ne (hN2 (show ¬ F 46 = 0 by rw [(show KX [42, 43, 44, 45, 47, 48, 49, 55, 60, 62, 70] [56, 57, 58, 59, 67, 68, 69] F0 G0 F G from hK).1 46 rfl]; exact pos_ne hD.1.2.2))
      unfold mb_argument_153
      refine PP.bind (PP.and (ihK 4 0 0 F2 G2) (PP.and (ihM 4 0 0 F2 G2) (ihH 4 0 0 F2 G2 (DC.kx hD (show KX [42, 43, 44, 45, 47, 48, 49, 55, 60, 62, 70] [56, 57, 58, 59, 67, 68, 69] F0 G0 F2 G2 from k_3) (show MO F0 F2 from k_4)) k_5))) ?_
      rintro r7 F7 G7 ⟨hK7, hM7, hH7⟩
      dsimp only
      have k_8 : KX [42, 43, 44, 45, 47, 48, 49, 55, 60, 62, 70] [56, 57, 58, 59, 67, 68, 69] F0 G0 F7 G7 := KX.tr (show KX [42, 43, 44, 45, 47, 48, 49, 55, 60, 62, 70] [56, 57, 58, 59, 67, 68, 69] F0 G0 F2 G2 from k_3) hK7 rfl rfl
      have k_9 : MO F0 F7 := MO.tr (show MO F0 F2 from k_4) hM7
      have k_10 : HN F7 := hH7
      unfold mb_argument_157
      refine PP.bz (fun _ => ?_)
      refine PP.ret ?_
      exact (show HN F7 from k_10)
    · skip
      unfold mb_argument_158
      refine PP.bind (mp_meaning (F 42) F G (show 0 ≤ (F 14).toInt by rw [(show KX [42, 43, 44, 45, 47, 48, 49, 55, 60, 62, 70] [56, 57, 58, 59, 67, 68, 69] F0 G0 F G from hK).1 14 rfl]; exact hD.1.1) (show 0 ≤ (F 24).toInt by rw [(show KX [42, 43, 44, 45, 47, 48, 49, 55, 60, 62, 70] [56, 57, 58, 59, 67, 68, 69] F0 G0 F G from hK).1 24 rfl]; exact hD.1.2.1)) ?_
      rintro r11 F11 G11 ⟨-, hK11, u11, -⟩
      dsimp only
      have mr11 : mnR F0 r11 := mnR.e u11 ((show KX [42, 43, 44, 45, 47, 48, 49, 55, 60, 62, 70] [56, 57, 58, 59, 67, 68, 69] F0 G0 F G from hK).1 14 rfl)
      have k_12 : KX [42, 43, 44, 45, 47, 48, 49, 55, 60, 62, 70] [56, 57, 58, 59, 67, 68, 69] F0 G0 F11 G11 := KX.tr (show KX [42, 43, 44, 45, 47, 48, 49, 55, 60, 62, 70] [56, 57, 58, 59, 67, 68, 69] F0 G0 F G from hK) hK11 rfl rfl
      have k_13 : MO F0 F11 := MO.tr (show MO F0 F from hM) (MO.kx hK11 rfl rfl)
      have k_14 : HN F11 := HN.kx (show HN F from hH) hK11 rfl rfl
      unfold mb_argument_166
      refine PP.ite (fun c_15 => ?_) (fun c_15 => ?_)
      · skip
        unfold mb_argument_174
        refine PP.ite (fun c_16 => ?_) (fun c_16 => ?_)
        · skip
          unfold mb_argument_182
          refine PP.bind (PP.and (mp_note (4 : Int32) x3 (by decide) F11 G11) (mm_note (4 : Int32) x3 (by decide) F11 G11)) ?_
          rintro r17 F17 G17 ⟨⟨hK17, -, hN17, -⟩, hM17⟩
          dsimp only
          have k_18 : KX [42, 43, 44, 45, 47, 48, 49, 55, 60, 62, 70] [56, 57, 58, 59, 67, 68, 69] F0 G0 F17 G17 := KX.tr (show KX [42, 43, 44, 45, 47, 48, 49, 55, 60, 62, 70] [56, 57, 58, 59, 67, 68, 69] F0 G0 F11 G11 from k_12) hK17 rfl rfl
          have k_19 : MO F0 F17 := MO.tr (show MO F0 F11 from k_13) hM17
          have k_20 : HN F17 := HN.mo (show HN F11 from k_14) hK17 hM17 rfl
          have k_21 : ¬ F17 47 = 0 := pos_ne (hN17 (show ¬ F11 46 = 0 by rw [(show KX [42, 43, 44, 45, 47, 48, 49, 55, 60, 62, 70] [56, 57, 58, 59, 67, 68, 69] F0 G0 F11 G11 from k_12).1 46 rfl]; exact pos_ne hD.1.2.2))
          unfold mb_argument_188
          exact mhj_argument_236 rc ihK ihM ihH hD r11 F17 G17 ⟨k_18, (show MO F0 F17 from k_19), (show HN F17 from k_20)⟩
        · skip
          exact mhj_argument_191 rc ihK ihM ihH hD x3 x4 r11 F11 G11 ⟨k_12, (show MO F0 F11 from k_13), (show HN F11 from k_14)⟩
      · skip
        exact mhj_argument_191 rc ihK ihM ihH hD x3 x4 r11 F11 G11 ⟨k_12, (show MO F0 F11 from k_13), (show HN F11 from k_14)⟩
theorem mhj_argument_134 {fu : Nat} (rc : RC) (ihK : mKI1 rc) (ihM : mMOI rc) (ihH : mHI rc) {F0 : PF} {G0 : PG} (hD : DC F0 G0) (x3 : Int32) (x4 : Int32) (F : PF) (G : PG) (hA : (KX [42, 43, 44, 45, 47, 48, 49, 55, 60, 62, 70] [56, 57, 58, 59, 67, 68, 69] F0 G0 F G ∧ MO F0 F ∧ HN F)) : PP (mb_argument_134 fu rc x3 x4 F G) (fun _ F' _ => HN F') := by
  rcases hA with ⟨hK, hM, hH⟩
  · skip
    unfold mb_argument_134
    exact mhj_argument_139 rc ihK ihM ihH hD x3 x4 (1 : Int32) F G ⟨hK, (show MO F0 F from hM), (show HN F from hH)⟩
theorem mhj_argument_138 {fu : Nat} (rc : RC) (ihK : mKI1 rc) (ihM : mMOI rc) (ihH : mHI rc) {F0 : PF} {G0 : PG} (hD : DC F0 G0) (x3 : Int32) (x4 : Int32) (F : PF) (G : PG) (hA : (KX [42, 43, 44, 45, 47, 48, 49, 55, 60, 62, 70] [56, 57, 58, 59, 67, 68, 69] F0 G0 F G ∧ MO F0 F ∧ HN F)) : PP (mb_argument_138 fu rc x3 x4 F G) (fun _ F' _ => HN F') := by
  rcases hA with ⟨hK, hM, hH⟩
  · skip
    unfold mb_argument_138
    exact mhj_argument_139 rc ihK ihM ihH hD x3 x4 (0 : Int32) F G ⟨hK, (show MO F0 F from hM), (show HN F from hH)⟩
theorem mht_argument {fu : Nat} (rc : RC) (ihK : mKI1 rc) (ihM : mMOI rc) (ihH : mHI rc) (x1 : Int32) (x2 : Int32) (F : PF) (G : PG) (hD : DC F G) (hH : HN F) : PP (mh_argument fu rc x1 x2 F G) (fun _ F' _ => HN F') := by
  unfold mh_argument
  unfold mb_argument_0
  refine PP.ite (fun c_1 => ?_) (fun c_1 => ?_)
  · skip
    unfold mb_argument_7
    refine PP.ite (fun c_2 => ?_) (fun c_2 => ?_)
    · skip
      exact mhj_argument_12 rc ihK ihM ihH hD F G ⟨(KX.rf : KX [42, 43, 44, 45, 47, 48, 49, 55, 60, 62, 70] [56, 57, 58, 59, 67, 68, 69] F G F G), (show MO F F from (MO.rf : MO F F)), (show HN F from hH)⟩
    · skip
      unfold mb_argument_17
      refine PP.ix (fun _ => ?_)
      refine PP.ix (fun _ => ?_)
      refine PP.ite (fun c_3 => ?_) (fun c_3 => ?_)
      · skip
        unfold mb_argument_49
        refine PP.ix (fun _ => ?_)
        refine PP.ix (fun _ => ?_)
        refine PP.ite (fun c_4 => ?_) (fun c_4 => ?_)
        · skip
          unfold mb_argument_69
          refine PP.bind (PP.and (ihK 4 0 0 F G) (PP.and (ihM 4 0 0 F G) (ihH 4 0 0 F G (DC.kx hD (show KX [42, 43, 44, 45, 47, 48, 49, 55, 60, 62, 70] [56, 57, 58, 59, 67, 68, 69] F G F G from (KX.rf : KX [42, 43, 44, 45, 47, 48, 49, 55, 60, 62, 70] [56, 57, 58, 59, 67, 68, 69] F G F G)) (show MO F F from (MO.rf : MO F F))) hH))) ?_
          rintro r5 F5 G5 ⟨hK5, hM5, hH5⟩
          dsimp only
          have k_6 : KX [42, 43, 44, 45, 47, 48, 49, 55, 60, 62, 70] [56, 57, 58, 59, 67, 68, 69] F G F5 G5 := KX.tr (show KX [42, 43, 44, 45, 47, 48, 49, 55, 60, 62, 70] [56, 57, 58, 59, 67, 68, 69] F G F G from (KX.rf : KX [42, 43, 44, 45, 47, 48, 49, 55, 60, 62, 70] [56, 57, 58, 59, 67, 68, 69] F G F G)) hK5 rfl rfl
          have k_7 : MO F F5 := MO.tr (show MO F F from (MO.rf : MO F F)) hM5
          have k_8 : HN F5 := hH5
          unfold mb_argument_73
          refine PP.bz (fun _ => ?_)
          refine PP.ret ?_
          exact (show HN F5 from k_8)
        · skip
          unfold mb_argument_74
          refine PP.ix (fun _ => ?_)
          refine PP.ite (fun c_9 => ?_) (fun c_9 => ?_)
          · skip
            unfold mb_argument_87
            refine PP.ix (fun _ => ?_)
            refine PP.ite (fun c_10 => ?_) (fun c_10 => ?_)
            · skip
              unfold mb_argument_102
              refine PP.ix (fun _ => ?_)
              refine PP.ite (fun c_11 => ?_) (fun c_11 => ?_)
              · skip
                exact mhj_argument_134 rc ihK ihM ihH hD (G 6 (F 42).toNatClampNeg) (G 34 ((G 31 x1.toNatClampNeg) + x2).toNatClampNeg) F G ⟨(KX.rf : KX [42, 43, 44, 45, 47, 48, 49, 55, 60, 62, 70] [56, 57, 58, 59, 67, 68, 69] F G F G), (show MO F F from (MO.rf : MO F F)), (show HN F from hH)⟩
              · skip
                unfold mb_argument_118
                refine PP.ix (fun _ => ?_)
                refine PP.ite (fun c_12 => ?_) (fun c_12 => ?_)
                · skip
                  exact mhj_argument_134 rc ihK ihM ihH hD (G 6 (F 42).toNatClampNeg) (G 34 ((G 31 x1.toNatClampNeg) + x2).toNatClampNeg) F G ⟨(KX.rf : KX [42, 43, 44, 45, 47, 48, 49, 55, 60, 62, 70] [56, 57, 58, 59, 67, 68, 69] F G F G), (show MO F F from (MO.rf : MO F F)), (show HN F from hH)⟩
                · skip
                  exact mhj_argument_138 rc ihK ihM ihH hD (G 6 (F 42).toNatClampNeg) (G 34 ((G 31 x1.toNatClampNeg) + x2).toNatClampNeg) F G ⟨(KX.rf : KX [42, 43, 44, 45, 47, 48, 49, 55, 60, 62, 70] [56, 57, 58, 59, 67, 68, 69] F G F G), (show MO F F from (MO.rf : MO F F)), (show HN F from hH)⟩
            · skip
              exact mhj_argument_138 rc ihK ihM ihH hD (G 6 (F 42).toNatClampNeg) (G 34 ((G 31 x1.toNatClampNeg) + x2).toNatClampNeg) F G ⟨(KX.rf : KX [42, 43, 44, 45, 47, 48, 49, 55, 60, 62, 70] [56, 57, 58, 59, 67, 68, 69] F G F G), (show MO F F from (MO.rf : MO F F)), (show HN F from hH)⟩
          · skip
            exact mhj_argument_138 rc ihK ihM ihH hD (G 6 (F 42).toNatClampNeg) (G 34 ((G 31 x1.toNatClampNeg) + x2).toNatClampNeg) F G ⟨(KX.rf : KX [42, 43, 44, 45, 47, 48, 49, 55, 60, 62, 70] [56, 57, 58, 59, 67, 68, 69] F G F G), (show MO F F from (MO.rf : MO F F)), (show HN F from hH)⟩
      · skip
        unfold mb_argument_37
        refine PP.bind (PP.and (mp_note (7 : Int32) (G 6 (F 42).toNatClampNeg) (by decide) F G) (mm_note (7 : Int32) (G 6 (F 42).toNatClampNeg) (by decide) F G)) ?_
        rintro r13 F13 G13 ⟨⟨hK13, -, hN13, -⟩, hM13⟩
        dsimp only
        have k_14 : KX [42, 43, 44, 45, 47, 48, 49, 55, 60, 62, 70] [56, 57, 58, 59, 67, 68, 69] F G F13 G13 := KX.tr (show KX [42, 43, 44, 45, 47, 48, 49, 55, 60, 62, 70] [56, 57, 58, 59, 67, 68, 69] F G F G from (KX.rf : KX [42, 43, 44, 45, 47, 48, 49, 55, 60, 62, 70] [56, 57, 58, 59, 67, 68, 69] F G F G)) hK13 rfl rfl
        have k_15 : MO F F13 := MO.tr (show MO F F from (MO.rf : MO F F)) hM13
        have k_16 : HN F13 := HN.mo (show HN F from hH) hK13 hM13 rfl
        have k_17 : ¬ F13 47 = 0 := pos_ne (hN13 (show ¬ F 46 = 0 by rw [(show KX [42, 43, 44, 45, 47, 48, 49, 55, 60, 62, 70] [56, 57, 58, 59, 67, 68, 69] F G F G from (KX.rf : KX [42, 43, 44, 45, 47, 48, 49, 55, 60, 62, 70] [56, 57, 58, 59, 67, 68, 69] F G F G)).1 46 rfl]; exact pos_ne hD.1.2.2))
        unfold mb_argument_44
        refine PP.bind (PP.and (ihK 4 0 0 F13 G13) (PP.and (ihM 4 0 0 F13 G13) (ihH 4 0 0 F13 G13 (DC.kx hD (show KX [42, 43, 44, 45, 47, 48, 49, 55, 60, 62, 70] [56, 57, 58, 59, 67, 68, 69] F G F13 G13 from k_14) (show MO F F13 from k_15)) k_16))) ?_
        rintro r18 F18 G18 ⟨hK18, hM18, hH18⟩
        dsimp only
        have k_19 : KX [42, 43, 44, 45, 47, 48, 49, 55, 60, 62, 70] [56, 57, 58, 59, 67, 68, 69] F G F18 G18 := KX.tr (show KX [42, 43, 44, 45, 47, 48, 49, 55, 60, 62, 70] [56, 57, 58, 59, 67, 68, 69] F G F13 G13 from k_14) hK18 rfl rfl
        have k_20 : MO F F18 := MO.tr (show MO F F13 from k_15) hM18
        have k_21 : HN F18 := hH18
        unfold mb_argument_48
        refine PP.bz (fun _ => ?_)
        refine PP.ret ?_
        exact (show HN F18 from k_21)
  · skip
    exact mhj_argument_12 rc ihK ihM ihH hD F G ⟨(KX.rf : KX [42, 43, 44, 45, 47, 48, 49, 55, 60, 62, 70] [56, 57, 58, 59, 67, 68, 69] F G F G), (show MO F F from (MO.rf : MO F F)), (show HN F from hH)⟩
theorem mhj_call_256 {fu : Nat} (rc : RC) (ihK : mKI1 rc) (ihM : mMOI rc) (ihH : mHI rc) {F0 : PF} {G0 : PG} (hD : DC F0 G0) (x1 : Int32) (x4 : Int32) (F : PF) (G : PG) (hA : (KX [42, 43, 44, 45, 47, 48, 49, 55, 60, 62, 70] [56, 57, 58, 59, 67, 68, 69] F0 G0 F G ∧ MO F0 F ∧ HN F)) : PP (mb_call_256 fu rc x1 x4 F G) (fun _ F' _ => HN F') := by
  rcases hA with ⟨hK, hM, hH⟩
  · skip
    unfold mb_call_256
    refine PP.bind (mw_closeSign (23 : Int32) F G) ?_
    intro r1 F1 G1 hK1
    dsimp only
    have k_2 : KX [42, 43, 44, 45, 47, 48, 49, 55, 60, 62, 70] [56, 57, 58, 59, 67, 68, 69] F0 G0 F1 G1 := KX.tr (show KX [42, 43, 44, 45, 47, 48, 49, 55, 60, 62, 70] [56, 57, 58, 59, 67, 68, 69] F0 G0 F G from hK) hK1 rfl rfl
    have k_3 : MO F0 F1 := MO.tr (show MO F0 F from hM) (MO.kx hK1 rfl rfl)
    have k_4 : HN F1 := HN.kx (show HN F from hH) hK1 rfl rfl
    unfold mb_call_262
    refine PP.ite (fun c_5 => ?_) (fun c_5 => ?_)
    · skip
      unfold mb_call_265
      refine PP.ret ?_
      exact (show HN F1 from k_4)
    · skip
      unfold mb_call_267
      refine PP.bind (mw_step (15 : Int32) (0 : Int32) (0 : Int32) F1 G1) ?_
      intro r6 F6 G6 hK6
      dsimp only
      have k_7 : KX [42, 43, 44, 45, 47, 48, 49, 55, 60, 62, 70] [56, 57, 58, 59, 67, 68, 69] F0 G0 F6 G6 := KX.tr (show KX [42, 43, 44, 45, 47, 48, 49, 55, 60, 62, 70] [56, 57, 58, 59, 67, 68, 69] F0 G0 F1 G1 from k_2) hK6 rfl rfl
      have k_8 : MO F0 F6 := MO.tr (show MO F0 F1 from k_3) (MO.kx hK6 rfl rfl)
      have k_9 : HN F6 := HN.kx (show HN F1 from k_4) hK6 rfl rfl
      unfold mb_call_275
      refine PP.ix (fun _ => ?_)
      refine PP.bind (mw_step (16 : Int32) x4 (G6 6 x1.toNatClampNeg) F6 G6) ?_
      intro r10 F10 G10 hK10
      dsimp only
      have k_11 : KX [42, 43, 44, 45, 47, 48, 49, 55, 60, 62, 70] [56, 57, 58, 59, 67, 68, 69] F0 G0 F10 G10 := KX.tr (show KX [42, 43, 44, 45, 47, 48, 49, 55, 60, 62, 70] [56, 57, 58, 59, 67, 68, 69] F0 G0 F6 G6 from k_7) hK10 rfl rfl
      have k_12 : MO F0 F10 := MO.tr (show MO F0 F6 from k_8) (MO.kx hK10 rfl rfl)
      have k_13 : HN F10 := HN.kx (show HN F6 from k_9) hK10 rfl rfl
      unfold mb_call_290
      refine PP.ret ?_
      exact (show HN F10 from k_13)
theorem mhj_call_200 {fu : Nat} (rc : RC) (ihK : mKI1 rc) (ihM : mMOI rc) (ihH : mHI rc) {F0 : PF} {G0 : PG} (hD : DC F0 G0) (ag_156 : Int32 → Int32 → Int32 → Int32 → PF → PG → PR) (hag_156 : ∀ (x1 : Int32) (x4 : Int32) (x5 : Int32) (x6 : Int32) (F : PF) (G : PG) (hA : (KX [42, 43, 44, 45, 47, 48, 49, 55, 60, 62, 70] [56, 57, 58, 59, 67, 68, 69] F0 G0 F G ∧ MO F0 F ∧ HN F)), PP (ag_156 x1 x4 x5 x6 F G) (fun _ F' _ => HN F')) (x1 : Int32) (x4 : Int32) (x5 : Int32) (x6 : Int32) (z0 : Int32) (z1 : Int32) (F : PF) (G : PG) (hA : (KX [42, 43, 44, 45, 47, 48, 49, 55, 60, 62, 70] [56, 57, 58, 59, 67, 68, 69] F0 G0 F G ∧ MO F0 F ∧ HN F)) : PP (mb_call_200 fu rc ag_156 x1 x4 x5 x6 z0 z1 F G) (fun _ F' _ => HN F') := by
  rcases hA with ⟨hK, hM, hH⟩
  · skip
    unfold mb_call_200
    unfold mb_call_204
    exact hag_156 x1 x4 x5 x6 (fup F 42 (z1 + z0)) G ⟨(KX.f (k := 42) rfl hK), (show MO F0 (fup F 42 (z1 + z0)) from (MO.f (k := 42) (by decide) (by decide) hM)), (show HN (fup F 42 (z1 + z0)) from (show HN (fup F 42 (z1 + z0)) from hH))⟩
theorem mhz_call_156 {fu : Nat} (rc : RC) (ihK : mKI1 rc) (ihM : mMOI rc) (ihH : mHI rc) {F0 : PF} {G0 : PG} (hD : DC F0 G0) : ∀ (n : Nat) (x1 : Int32) (x4 : Int32) (x5 : Int32) (x6 : Int32) (F : PF) (G : PG) (hA : (KX [42, 43, 44, 45, 47, 48, 49, 55, 60, 62, 70] [56, 57, 58, 59, 67, 68, 69] F0 G0 F G ∧ MO F0 F ∧ HN F)), PP (ml_call_156 fu rc n x1 x4 x5 x6 F G) (fun _ F' _ => HN F') := by
  intro n
  induction n with
  | zero =>
    intro x1 x4 x5 x6 F G hA
    exact PP.no
  | succ n ihn =>
    intro x1 x4 x5 x6 F G hA
    show PP (mb_call_156 fu rc (ml_call_156 fu rc n) x1 x4 x5 x6 F G) _
    rcases hA with ⟨hK, hM, hH⟩
    · skip
      unfold mb_call_156
      refine PP.ite (fun c_1 => ?_) (fun c_1 => ?_)
      · skip
        unfold mb_call_207
        refine PP.ite (fun c_2 => ?_) (fun c_2 => ?_)
        · skip
          unfold mb_call_214
          refine PP.ite (fun c_3 => ?_) (fun c_3 => ?_)
          · skip
            exact mhj_call_256 rc ihK ihM ihH hD x1 x4 F G ⟨hK, (show MO F0 F from hM), (show HN F from hH)⟩
          · skip
            unfold mb_call_220
            refine PP.ix (fun _ => ?_)
            refine PP.ite (fun c_4 => ?_) (fun c_4 => ?_)
            · skip
              exact mhj_call_256 rc ihK ihM ihH hD x1 x4 F G ⟨hK, (show MO F0 F from hM), (show HN F from hH)⟩
            · skip
              unfold mb_call_232
              refine PP.bind (mp_isSign (23 : Int32) F G) ?_
              rintro _ _ _ ⟨rfl, rfl, (⟨rfl, -⟩ | ⟨rfl, -⟩)⟩
              · dsimp only
                unfold mb_call_238
                refine PP.ite (fun c_6 => absurd c_6 (by decide)) (fun _ => ?_)
                unfold mb_call_241
                refine PP.ix (fun _ => ?_)
                refine PP.bind (PP.and (mp_note (7 : Int32) (G 6 (F 42).toNatClampNeg) (by decide) F G) (mm_note (7 : Int32) (G 6 (F 42).toNatClampNeg) (by decide) F G)) ?_
                rintro r7 F7 G7 ⟨⟨hK7, -, hN7, -⟩, hM7⟩
                dsimp only
                have k_8 : KX [42, 43, 44, 45, 47, 48, 49, 55, 60, 62, 70] [56, 57, 58, 59, 67, 68, 69] F0 G0 F7 G7 := KX.tr (show KX [42, 43, 44, 45, 47, 48, 49, 55, 60, 62, 70] [56, 57, 58, 59, 67, 68, 69] F0 G0 F G from hK) hK7 rfl rfl
                have k_9 : MO F0 F7 := MO.tr (show MO F0 F from hM) hM7
                have k_10 : HN F7 := HN.mo (show HN F from hH) hK7 hM7 rfl
                have k_11 : ¬ F7 47 = 0 := pos_ne (hN7 (show ¬ F 46 = 0 by rw [(show KX [42, 43, 44, 45, 47, 48, 49, 55, 60, 62, 70] [56, 57, 58, 59, 67, 68, 69] F0 G0 F G from hK).1 46 rfl]; exact pos_ne hD.1.2.2))
                exact mhj_call_256 rc ihK ihM ihH hD x1 x4 F7 G7 ⟨k_8, (show MO F0 F7 from k_9), (show HN F7 from k_10)⟩
              · dsimp only
                unfold mb_call_238
                refine PP.ite (fun _ => ?_) (fun c_12 => absurd (by decide) c_12)
                exact mhj_call_256 rc ihK ihM ihH hD x1 x4 F G ⟨hK, (show MO F0 F from hM), (show HN F from hH)⟩
        · skip
          exact mhj_call_256 rc ihK ihM ihH hD x1 x4 F G ⟨hK, (show MO F0 F from hM), (show HN F from hH)⟩
      · skip
        unfold mb_call_161
        refine PP.bind (PP.and (ihK 0 x4 x5 F G) (PP.and (ihM 0 x4 x5 F G) (ihH 0 x4 x5 F G (DC.kx hD (show KX [42, 43, 44, 45, 47, 48, 49, 55, 60, 62, 70] [56, 57, 58, 59, 67, 68, 69] F0 G0 F G from hK) (show MO F0 F from hM)) hH))) ?_
        rintro r13 F13 G13 ⟨hK13, hM13, hH13⟩
        dsimp only
        have k_14 : KX [42, 43, 44, 45, 47, 48, 49, 55, 60, 62, 70] [56, 57, 58, 59, 67, 68, 69] F0 G0 F13 G13 := KX.tr (show KX [42, 43, 44, 45, 47, 48, 49, 55, 60, 62, 70] [56, 57, 58, 59, 67, 68, 69] F0 G0 F G from hK) hK13 rfl rfl
        have k_15 : MO F0 F13 := MO.tr (show MO F0 F from hM) hM13
        have k_16 : HN F13 := hH13
        unfold mb_call_169
        refine PP.ite (fun c_17 => ?_) (fun c_17 => ?_)
        · skip
          unfold mb_call_172
          refine PP.ret ?_
          exact (show HN F13 from k_16)
        · skip
          unfold mb_call_174
          refine PP.bind (mp_isSign (28 : Int32) F13 G13) ?_
          rintro _ _ _ ⟨rfl, rfl, (⟨rfl, -⟩ | ⟨rfl, -⟩)⟩
          · dsimp only
            unfold mb_call_183
            refine PP.ite (fun c_19 => absurd c_19 (by decide)) (fun _ => ?_)
            unfold mb_call_195
            exact mhj_call_200 rc ihK ihM ihH hD (ml_call_156 fu rc n) ihn x1 x4 (x5 + (1 : Int32)) (1 : Int32) (1 : Int32) (F13 42) F13 G13 ⟨k_14, (show MO F0 F13 from k_15), (show HN F13 from k_16)⟩
          · dsimp only
            unfold mb_call_183
            refine PP.ite (fun _ => ?_) (fun c_20 => absurd (by decide) c_20)
            unfold mb_call_199
            exact mhj_call_200 rc ihK ihM ihH hD (ml_call_156 fu rc n) ihn x1 x4 (x5 + (1 : Int32)) (0 : Int32) (0 : Int32) (F13 42) F13 G13 ⟨k_14, (show MO F0 F13 from k_15), (show HN F13 from k_16)⟩
theorem mhj_call_154 {fu : Nat} (rc : RC) (ihK : mKI1 rc) (ihM : mMOI rc) (ihH : mHI rc) {F0 : PF} {G0 : PG} (hD : DC F0 G0) (x1 : Int32) (x4 : Int32) (x5 : Int32) (z0 : Int32) (F : PF) (G : PG) (hA : (KX [42, 43, 44, 45, 47, 48, 49, 55, 60, 62, 70] [56, 57, 58, 59, 67, 68, 69] F0 G0 F G ∧ MO F0 F ∧ HN F)) : PP (mb_call_154 fu rc x1 x4 x5 z0 F G) (fun _ F' _ => HN F') := by
  rcases hA with ⟨hK, hM, hH⟩
  · skip
    unfold mb_call_154
    exact mhz_call_156 rc ihK ihM ihH hD fu x1 x4 x5 z0 F G ⟨hK, (show MO F0 F from hM), (show HN F from hH)⟩
theorem mhj_call_126 {fu : Nat} (rc : RC) (ihK : mKI1 rc) (ihM : mMOI rc) (ihH : mHI rc) {F0 : PF} {G0 : PG} (hD : DC F0 G0) (x1 : Int32) (x4 : Int32) (F : PF) (G : PG) (hA : (KX [42, 43, 44, 45, 47, 48, 49, 55, 60, 62, 70] [56, 57, 58, 59, 67, 68, 69] F0 G0 F G ∧ MO F0 F ∧ HN F)) : PP (mb_call_126 fu rc x1 x4 F G) (fun _ F' _ => HN F') := by
  rcases hA with ⟨hK, hM, hH⟩
  · skip
    unfold mb_call_126
    refine PP.bind (mw_openSign (22 : Int32) F G) ?_
    intro r1 F1 G1 hK1
    dsimp only
    have k_2 : KX [42, 43, 44, 45, 47, 48, 49, 55, 60, 62, 70] [56, 57, 58, 59, 67, 68, 69] F0 G0 F1 G1 := KX.tr (show KX [42, 43, 44, 45, 47, 48, 49, 55, 60, 62, 70] [56, 57, 58, 59, 67, 68, 69] F0 G0 F G from hK) hK1 rfl rfl
    have k_3 : MO F0 F1 := MO.tr (show MO F0 F from hM) (MO.kx hK1 rfl rfl)
    have k_4 : HN F1 := HN.kx (show HN F from hH) hK1 rfl rfl
    unfold mb_call_132
    refine PP.ite (fun c_5 => ?_) (fun c_5 => ?_)
    · skip
      unfold mb_call_135
      refine PP.ret ?_
      exact (show HN F1 from k_4)
    · skip
      unfold mb_call_137
      refine PP.bind (mp_isSign (23 : Int32) F1 G1) ?_
      rintro _ _ _ ⟨rfl, rfl, (⟨rfl, -⟩ | ⟨rfl, -⟩)⟩
      · dsimp only
        unfold mb_call_146
        refine PP.ite (fun c_7 => absurd c_7 (by decide)) (fun _ => ?_)
        unfold mb_call_153
        exact mhj_call_154 rc ihK ihM ihH hD x1 x4 (0 : Int32) (0 : Int32) F1 G1 ⟨k_2, (show MO F0 F1 from k_3), (show HN F1 from k_4)⟩
      · dsimp only
        unfold mb_call_146
        refine PP.ite (fun _ => ?_) (fun c_8 => absurd (by decide) c_8)
        unfold mb_call_149
        exact mhj_call_154 rc ihK ihM ihH hD x1 x4 (0 : Int32) (1 : Int32) F1 G1 ⟨k_2, (show MO F0 F1 from k_3), (show HN F1 from k_4)⟩
theorem mhj_call_87 {fu : Nat} (rc : RC) (ihK : mKI1 rc) (ihM : mMOI rc) (ihH : mHI rc) {F0 : PF} {G0 : PG} (hD : DC F0 G0) (x1 : Int32) (x2 : Int32) (x4 : Int32) (F : PF) (G : PG) (hA : (KX [42, 43, 44, 45, 47, 48, 49, 55, 60, 62, 70] [56, 57, 58, 59, 67, 68, 69] F0 G0 F G ∧ MO F0 F ∧ HN F)) : PP (mb_call_87 fu rc x1 x2 x4 F G) (fun _ F' _ => HN F') := by
  rcases hA with ⟨hK, hM, hH⟩
  · skip
    unfold mb_call_87
    refine PP.ite (fun c_1 => ?_) (fun c_1 => ?_)
    · skip
      unfold mb_call_94
      refine PP.ite (fun c_2 => ?_) (fun c_2 => ?_)
      · skip
        exact mhj_call_126 rc ihK ihM ihH hD x1 x4 F G ⟨hK, (show MO F0 F from hM), (show HN F from hH)⟩
      · skip
        unfold mb_call_100
        refine PP.ite (fun c_3 => ?_) (fun c_3 => ?_)
        · skip
          exact mhj_call_126 rc ihK ihM ihH hD x1 x4 F G ⟨hK, (show MO F0 F from hM), (show HN F from hH)⟩
        · skip
          unfold mb_call_104
          refine PP.ix (fun _ => ?_)
          refine PP.ite (fun c_4 => ?_) (fun c_4 => ?_)
          · skip
            exact mhj_call_126 rc ihK ihM ihH hD x1 x4 F G ⟨hK, (show MO F0 F from hM), (show HN F from hH)⟩
          · skip
            unfold mb_call_114
            refine PP.ix (fun _ => ?_)
            refine PP.bind (PP.and (mp_note (8 : Int32) (G 6 x1.toNatClampNeg) (by decide) F G) (mm_note (8 : Int32) (G 6 x1.toNatClampNeg) (by decide) F G)) ?_
            rintro r5 F5 G5 ⟨⟨hK5, -, hN5, -⟩, hM5⟩
            dsimp only
            have k_6 : KX [42, 43, 44, 45, 47, 48, 49, 55, 60, 62, 70] [56, 57, 58, 59, 67, 68, 69] F0 G0 F5 G5 := KX.tr (show KX [42, 43, 44, 45, 47, 48, 49, 55, 60, 62, 70] [56, 57, 58, 59, 67, 68, 69] F0 G0 F G from hK) hK5 rfl rfl
            have k_7 : MO F0 F5 := MO.tr (show MO F0 F from hM) hM5
            have k_8 : HN F5 := HN.mo (show HN F from hH) hK5 hM5 rfl
            have k_9 : ¬ F5 47 = 0 := pos_ne (hN5 (show ¬ F 46 = 0 by rw [(show KX [42, 43, 44, 45, 47, 48, 49, 55, 60, 62, 70] [56, 57, 58, 59, 67, 68, 69] F0 G0 F G from hK).1 46 rfl]; exact pos_ne hD.1.2.2))
            exact mhj_call_126 rc ihK ihM ihH hD x1 x4 F5 G5 ⟨k_6, (show MO F0 F5 from k_7), (show HN F5 from k_8)⟩
    · skip
      exact mhj_call_126 rc ihK ihM ihH hD x1 x4 F G ⟨hK, (show MO F0 F from hM), (show HN F from hH)⟩
theorem mhj_call_63 {fu : Nat} (rc : RC) (ihK : mKI1 rc) (ihM : mMOI rc) (ihH : mHI rc) {F0 : PF} {G0 : PG} (hD : DC F0 G0) (x1 : Int32) (x2 : Int32) (x3 : Int32) (x4 : Int32) (F : PF) (G : PG) (hA : (KX [42, 43, 44, 45, 47, 48, 49, 55, 60, 62, 70] [56, 57, 58, 59, 67, 68, 69] F0 G0 F G ∧ MO F0 F ∧ HN F)) : PP (mb_call_63 fu rc x1 x2 x3 x4 F G) (fun _ F' _ => HN F') := by
  rcases hA with ⟨hK, hM, hH⟩
  · skip
    unfold mb_call_63
    refine PP.ite (fun c_1 => ?_) (fun c_1 => ?_)
    · skip
      unfold mb_call_70
      refine PP.ite (fun c_2 => ?_) (fun c_2 => ?_)
      · skip
        exact mhj_call_87 rc ihK ihM ihH hD x1 x2 x4 F G ⟨hK, (show MO F0 F from hM), (show HN F from hH)⟩
      · skip
        unfold mb_call_75
        refine PP.ix (fun _ => ?_)
        refine PP.bind (PP.and (mp_note (6 : Int32) (G 6 x1.toNatClampNeg) (by decide) F G) (mm_note (6 : Int32) (G 6 x1.toNatClampNeg) (by decide) F G)) ?_
        rintro r3 F3 G3 ⟨⟨hK3, -, hN3, -⟩, hM3⟩
        dsimp only
        have k_4 : KX [42, 43, 44, 45, 47, 48, 49, 55, 60, 62, 70] [56, 57, 58, 59, 67, 68, 69] F0 G0 F3 G3 := KX.tr (show KX [42, 43, 44, 45, 47, 48, 49, 55, 60, 62, 70] [56, 57, 58, 59, 67, 68, 69] F0 G0 F G from hK) hK3 rfl rfl
        have k_5 : MO F0 F3 := MO.tr (show MO F0 F from hM) hM3
        have k_6 : HN F3 := HN.mo (show HN F from hH) hK3 hM3 rfl
        have k_7 : ¬ F3 47 = 0 := pos_ne (hN3 (show ¬ F 46 = 0 by rw [(show KX [42, 43, 44, 45, 47, 48, 49, 55, 60, 62, 70] [56, 57, 58, 59, 67, 68, 69] F0 G0 F G from hK).1 46 rfl]; exact pos_ne hD.1.2.2))
        exact mhj_call_87 rc ihK ihM ihH hD x1 x2 x4 F3 G3 ⟨k_4, (show MO F0 F3 from k_5), (show HN F3 from k_6)⟩
    · skip
      exact mhj_call_87 rc ihK ihM ihH hD x1 x2 x4 F G ⟨hK, (show MO F0 F from hM), (show HN F from hH)⟩
theorem mhj_call_32 {fu : Nat} (rc : RC) (ihK : mKI1 rc) (ihM : mMOI rc) (ihH : mHI rc) {F0 : PF} {G0 : PG} (hD : DC F0 G0) (x1 : Int32) (x2 : Int32) (x3 : Int32) (z0 : Int32) (F : PF) (G : PG) (hA : (KX [42, 43, 44, 45, 47, 48, 49, 55, 60, 62, 70] [56, 57, 58, 59, 67, 68, 69] F0 G0 F G ∧ MO F0 F ∧ HN F)) : PP (mb_call_32 fu rc x1 x2 x3 z0 F G) (fun _ F' _ => HN F') := by
  rcases hA with ⟨hK, hM, hH⟩
  · skip
    unfold mb_call_32
    refine PP.ite (fun c_1 => ?_) (fun c_1 => ?_)
    · skip
      unfold mb_call_41
      refine PP.ite (fun c_2 => ?_) (fun c_2 => ?_)
      · skip
        unfold mb_call_46
        refine PP.ite (fun c_3 => ?_) (fun c_3 => ?_)
        · skip
          unfold mb_call_52
          refine PP.ix (fun _ => ?_)
          refine PP.bind (PP.and (mp_note (4 : Int32) (G 6 x1.toNatClampNeg) (by decide) F G) (mm_note (4 : Int32) (G 6 x1.toNatClampNeg) (by decide) F G)) ?_
          rintro r4 F4 G4 ⟨⟨hK4, -, hN4, -⟩, hM4⟩
          dsimp only
          have k_5 : KX [42, 43, 44, 45, 47, 48, 49, 55, 60, 62, 70] [56, 57, 58, 59, 67, 68, 69] F0 G0 F4 G4 := KX.tr (show KX [42, 43, 44, 45, 47, 48, 49, 55, 60, 62, 70] [56, 57, 58, 59, 67, 68, 69] F0 G0 F G from hK) hK4 rfl rfl
          have k_6 : MO F0 F4 := MO.tr (show MO F0 F from hM) hM4
          have k_7 : HN F4 := HN.mo (show HN F from hH) hK4 hM4 rfl
          have k_8 : ¬ F4 47 = 0 := pos_ne (hN4 (show ¬ F 46 = 0 by rw [(show KX [42, 43, 44, 45, 47, 48, 49, 55, 60, 62, 70] [56, 57, 58, 59, 67, 68, 69] F0 G0 F G from hK).1 46 rfl]; exact pos_ne hD.1.2.2))
          exact mhj_call_63 rc ihK ihM ihH hD x1 x2 x3 z0 F4 G4 ⟨k_5, (show MO F0 F4 from k_6), (show HN F4 from k_7)⟩
        · skip
          exact mhj_call_63 rc ihK ihM ihH hD x1 x2 x3 z0 F G ⟨hK, (show MO F0 F from hM), (show HN F from hH)⟩
      · skip
        exact mhj_call_63 rc ihK ihM ihH hD x1 x2 x3 z0 F G ⟨hK, (show MO F0 F from hM), (show HN F from hH)⟩
    · skip
      exact mhj_call_63 rc ihK ihM ihH hD x1 x2 x3 z0 F G ⟨hK, (show MO F0 F from hM), (show HN F from hH)⟩
theorem mhj_call_16 {fu : Nat} (rc : RC) (ihK : mKI1 rc) (ihM : mMOI rc) (ihH : mHI rc) {F0 : PF} {G0 : PG} (hD : DC F0 G0) (x1 : Int32) (x2 : Int32) (z0 : Int32) (F : PF) (G : PG) (hA : (KX [42, 43, 44, 45, 47, 48, 49, 55, 60, 62, 70] [56, 57, 58, 59, 67, 68, 69] F0 G0 F G ∧ MO F0 F ∧ HN F)) : PP (mb_call_16 fu rc x1 x2 z0 F G) (fun _ F' _ => HN F') := by
  rcases hA with ⟨hK, hM, hH⟩
  · skip
    unfold mb_call_16
    refine PP.ite (fun c_1 => ?_) (fun c_1 => ?_)
    · skip
      exact absurd (show (F 46) = 0 from c_1) (show ¬ F 46 = 0 by rw [(show KX [42, 43, 44, 45, 47, 48, 49, 55, 60, 62, 70] [56, 57, 58, 59, 67, 68, 69] F0 G0 F G from hK).1 46 rfl]; exact pos_ne hD.1.2.2)
    · skip
      unfold mb_call_28
      exact mhj_call_32 rc ihK ihM ihH hD x1 x2 z0 (F 62) F G ⟨hK, (show MO F0 F from hM), (show HN F from hH)⟩
theorem mht_call {fu : Nat} (rc : RC) (ihK : mKI1 rc) (ihM : mMOI rc) (ihH : mHI rc) (x1 : Int32) (x2 : Int32) (F : PF) (G : PG) (hD : DC F G) (hH : HN F) : PP (mh_call fu rc x1 x2 F G) (fun _ F' _ => HN F') := by
  unfold mh_call
  unfold mb_call_0
  refine PP.ite (fun c_1 => ?_) (fun c_1 => ?_)
  · skip
    exact absurd (show (F 46) = 0 from c_1) (show ¬ F 46 = 0 by rw [(show KX [42, 43, 44, 45, 47, 48, 49, 55, 60, 62, 70] [56, 57, 58, 59, 67, 68, 69] F G F G from (KX.rf : KX [42, 43, 44, 45, 47, 48, 49, 55, 60, 62, 70] [56, 57, 58, 59, 67, 68, 69] F G F G)).1 46 rfl]; exact pos_ne hD.1.2.2)
  · skip
    unfold mb_call_11
    refine PP.bind (mp_meaning x1 F G (show 0 ≤ (F 14).toInt by rw [(show KX [42, 43, 44, 45, 47, 48, 49, 55, 60, 62, 70] [56, 57, 58, 59, 67, 68, 69] F G F G from (KX.rf : KX [42, 43, 44, 45, 47, 48, 49, 55, 60, 62, 70] [56, 57, 58, 59, 67, 68, 69] F G F G)).1 14 rfl]; exact hD.1.1) (show 0 ≤ (F 24).toInt by rw [(show KX [42, 43, 44, 45, 47, 48, 49, 55, 60, 62, 70] [56, 57, 58, 59, 67, 68, 69] F G F G from (KX.rf : KX [42, 43, 44, 45, 47, 48, 49, 55, 60, 62, 70] [56, 57, 58, 59, 67, 68, 69] F G F G)).1 24 rfl]; exact hD.1.2.1)) ?_
    rintro r2 F2 G2 ⟨-, hK2, u2, -⟩
    dsimp only
    have mr2 : mnR F r2 := mnR.e u2 ((show KX [42, 43, 44, 45, 47, 48, 49, 55, 60, 62, 70] [56, 57, 58, 59, 67, 68, 69] F G F G from (KX.rf : KX [42, 43, 44, 45, 47, 48, 49, 55, 60, 62, 70] [56, 57, 58, 59, 67, 68, 69] F G F G)).1 14 rfl)
    have k_3 : KX [42, 43, 44, 45, 47, 48, 49, 55, 60, 62, 70] [56, 57, 58, 59, 67, 68, 69] F G F2 G2 := KX.tr (show KX [42, 43, 44, 45, 47, 48, 49, 55, 60, 62, 70] [56, 57, 58, 59, 67, 68, 69] F G F G from (KX.rf : KX [42, 43, 44, 45, 47, 48, 49, 55, 60, 62, 70] [56, 57, 58, 59, 67, 68, 69] F G F G)) hK2 rfl rfl
    have k_4 : MO F F2 := MO.tr (show MO F F from (MO.rf : MO F F)) (MO.kx hK2 rfl rfl)
    have k_5 : HN F2 := HN.kx (show HN F from hH) hK2 rfl rfl
    exact mhj_call_16 rc ihK ihM ihH hD x1 x2 r2 F2 G2 ⟨k_3, (show MO F F2 from k_4), (show HN F2 from k_5)⟩
theorem mhj_chain_118 {fu : Nat} (rc : RC) (ihK : mKI1 rc) (ihM : mMOI rc) (ihH : mHI rc) {F0 : PF} {G0 : PG} (hD : DC F0 G0) (ag_10 : Int32 → Int32 → PF → PG → PR) (hag_10 : ∀ (x1 : Int32) (x2 : Int32) (F : PF) (G : PG) (hA : (KX [42, 43, 44, 45, 47, 48, 49, 55, 60, 62, 70] [56, 57, 58, 59, 67, 68, 69] F0 G0 F G ∧ MO F0 F ∧ HN F)), PP (ag_10 x1 x2 F G) (fun _ F' _ => HN F')) (x1 : Int32) (z0 : Int32) (z1 : Int32) (F : PF) (G : PG) (hA : (KX [42, 43, 44, 45, 47, 48, 49, 55, 60, 62, 70] [56, 57, 58, 59, 67, 68, 69] F0 G0 F G ∧ MO F0 F ∧ HN F)) : PP (mb_chain_118 fu rc ag_10 x1 z0 z1 F G) (fun _ F' _ => HN F') := by
  rcases hA with ⟨hK, hM, hH⟩
  · skip
    unfold mb_chain_118
    refine PP.ix (fun _ => ?_)
    unfold mb_chain_119
    unfold mb_chain_129
    unfold mb_chain_139
    refine PP.bind (PP.and (ihK 7 0 0 (fup (fup F 70 ((F 70) + (1 : Int32))) 42 ((F 42) + (1 : Int32))) (gup G 69 z1.toNatClampNeg z0)) (PP.and (ihM 7 0 0 (fup (fup F 70 ((F 70) + (1 : Int32))) 42 ((F 42) + (1 : Int32))) (gup G 69 z1.toNatClampNeg z0)) (ihH 7 0 0 (fup (fup F 70 ((F 70) + (1 : Int32))) 42 ((F 42) + (1 : Int32))) (gup G 69 z1.toNatClampNeg z0) (DC.kx hD (show KX [42, 43, 44, 45, 47, 48, 49, 55, 60, 62, 70] [56, 57, 58, 59, 67, 68, 69] F0 G0 (fup (fup F 70 ((F 70) + (1 : Int32))) 42 ((F 42) + (1 : Int32))) (gup G 69 z1.toNatClampNeg z0) from (KX.f (k := 42) rfl (KX.f (k := 70) rfl (KX.g (k := 69) rfl hK)))) (show MO F0 (fup (fup F 70 ((F 70) + (1 : Int32))) 42 ((F 42) + (1 : Int32))) from (MO.f (k := 42) (by decide) (by decide) (MO.f (k := 70) (by decide) (by decide) hM)))) (show HN (fup (fup F 70 ((F 70) + (1 : Int32))) 42 ((F 42) + (1 : Int32))) from (show HN (fup F 70 ((F 70) + (1 : Int32))) from hH))))) ?_
    rintro r1 F1 G1 ⟨hK1, hM1, hH1⟩
    dsimp only
    have k_2 : KX [42, 43, 44, 45, 47, 48, 49, 55, 60, 62, 70] [56, 57, 58, 59, 67, 68, 69] F0 G0 F1 G1 := KX.tr (show KX [42, 43, 44, 45, 47, 48, 49, 55, 60, 62, 70] [56, 57, 58, 59, 67, 68, 69] F0 G0 (fup (fup F 70 ((F 70) + (1 : Int32))) 42 ((F 42) + (1 : Int32))) (gup G 69 z1.toNatClampNeg z0) from (KX.f (k := 42) rfl (KX.f (k := 70) rfl (KX.g (k := 69) rfl hK)))) hK1 rfl rfl
    have k_3 : MO F0 F1 := MO.tr (show MO F0 (fup (fup F 70 ((F 70) + (1 : Int32))) 42 ((F 42) + (1 : Int32))) from (MO.f (k := 42) (by decide) (by decide) (MO.f (k := 70) (by decide) (by decide) hM))) hM1
    have k_4 : HN F1 := hH1
    unfold mb_chain_143
    exact hag_10 x1 r1 F1 G1 ⟨k_2, (show MO F0 F1 from k_3), (show HN F1 from k_4)⟩
theorem mhj_chain_113 {fu : Nat} (rc : RC) (ihK : mKI1 rc) (ihM : mMOI rc) (ihH : mHI rc) {F0 : PF} {G0 : PG} (hD : DC F0 G0) (ag_10 : Int32 → Int32 → PF → PG → PR) (hag_10 : ∀ (x1 : Int32) (x2 : Int32) (F : PF) (G : PG) (hA : (KX [42, 43, 44, 45, 47, 48, 49, 55, 60, 62, 70] [56, 57, 58, 59, 67, 68, 69] F0 G0 F G ∧ MO F0 F ∧ HN F)), PP (ag_10 x1 x2 F G) (fun _ F' _ => HN F')) (x1 : Int32) (z0 : Int32) (z2 : Int32) (F : PF) (G : PG) (hA : (KX [42, 43, 44, 45, 47, 48, 49, 55, 60, 62, 70] [56, 57, 58, 59, 67, 68, 69] F0 G0 F G ∧ MO F0 F ∧ HN F)) : PP (mb_chain_113 fu rc ag_10 x1 z0 z2 F G) (fun _ F' _ => HN F') := by
  rcases hA with ⟨hK, hM, hH⟩
  · skip
    unfold mb_chain_113
    refine PP.bind (mw_step z0 (0 : Int32) (0 : Int32) F G) ?_
    intro r1 F1 G1 hK1
    dsimp only
    have k_2 : KX [42, 43, 44, 45, 47, 48, 49, 55, 60, 62, 70] [56, 57, 58, 59, 67, 68, 69] F0 G0 F1 G1 := KX.tr (show KX [42, 43, 44, 45, 47, 48, 49, 55, 60, 62, 70] [56, 57, 58, 59, 67, 68, 69] F0 G0 F G from hK) hK1 rfl rfl
    have k_3 : MO F0 F1 := MO.tr (show MO F0 F from hM) (MO.kx hK1 rfl rfl)
    have k_4 : HN F1 := HN.kx (show HN F from hH) hK1 rfl rfl
    exact mhj_chain_118 rc ihK ihM ihH hD ag_10 hag_10 x1 r1 z2 F1 G1 ⟨k_2, (show MO F0 F1 from k_3), (show HN F1 from k_4)⟩
theorem mhj_chain_49 {fu : Nat} (rc : RC) (ihK : mKI1 rc) (ihM : mMOI rc) (ihH : mHI rc) {F0 : PF} {G0 : PG} (hD : DC F0 G0) (ag_10 : Int32 → Int32 → PF → PG → PR) (hag_10 : ∀ (x1 : Int32) (x2 : Int32) (F : PF) (G : PG) (hA : (KX [42, 43, 44, 45, 47, 48, 49, 55, 60, 62, 70] [56, 57, 58, 59, 67, 68, 69] F0 G0 F G ∧ MO F0 F ∧ HN F)), PP (ag_10 x1 x2 F G) (fun _ F' _ => HN F')) (x1 : Int32) (x3 : Int32) (F : PF) (G : PG) (hA : (KX [42, 43, 44, 45, 47, 48, 49, 55, 60, 62, 70] [56, 57, 58, 59, 67, 68, 69] F0 G0 F G ∧ MO F0 F ∧ HN F)) : PP (mb_chain_49 fu rc ag_10 x1 x3 F G) (fun _ F' _ => HN F') := by
  rcases hA with ⟨hK, hM, hH⟩
  · skip
    unfold mb_chain_49
    refine PP.ite (fun c_1 => ?_) (fun c_1 => ?_)
    · skip
      unfold mb_chain_54
      refine PP.ret ?_
      exact (show HN F from hH)
    · skip
      unfold mb_chain_56
      refine PP.ix (fun _ => ?_)
      refine PP.ix (fun _ => ?_)
      unfold mb_chain_74
      refine PP.ix (fun _ => ?_)
      unfold mb_chain_84
      refine PP.ite (fun c_2 => ?_) (fun c_2 => ?_)
      · skip
        unfold mb_chain_101
        refine PP.ite (fun c_3 => ?_) (fun c_3 => ?_)
        · skip
          unfold mb_chain_106
          exact mhj_chain_113 rc ihK ihM ihH hD ag_10 hag_10 x1 (14 : Int32) (F 70) F (gup (gup G 67 (F 70).toNatClampNeg (G 5 (F 42).toNatClampNeg)) 68 (F 70).toNatClampNeg x3) ⟨(KX.g (k := 68) rfl (KX.g (k := 67) rfl hK)), (show MO F0 F from hM), (show HN F from hH)⟩
        · skip
          unfold mb_chain_111
          exact mhj_chain_113 rc ihK ihM ihH hD ag_10 hag_10 x1 (13 : Int32) (F 70) F (gup (gup G 67 (F 70).toNatClampNeg (G 5 (F 42).toNatClampNeg)) 68 (F 70).toNatClampNeg x3) ⟨(KX.g (k := 68) rfl (KX.g (k := 67) rfl hK)), (show MO F0 F from hM), (show HN F from hH)⟩
      · skip
        unfold mb_chain_97
        exact mhj_chain_118 rc ihK ihM ihH hD ag_10 hag_10 x1 (-1 : Int32) (F 70) F (gup (gup G 67 (F 70).toNatClampNeg (G 5 (F 42).toNatClampNeg)) 68 (F 70).toNatClampNeg x3) ⟨(KX.g (k := 68) rfl (KX.g (k := 67) rfl hK)), (show MO F0 F from hM), (show HN F from hH)⟩
theorem mhz_chain_19 {fu : Nat} (rc : RC) (ihK : mKI1 rc) (ihM : mMOI rc) (ihH : mHI rc) {F0 : PF} {G0 : PG} (hD : DC F0 G0) (ag_10 : Int32 → Int32 → PF → PG → PR) (hag_10 : ∀ (x1 : Int32) (x2 : Int32) (F : PF) (G : PG) (hA : (KX [42, 43, 44, 45, 47, 48, 49, 55, 60, 62, 70] [56, 57, 58, 59, 67, 68, 69] F0 G0 F G ∧ MO F0 F ∧ HN F)), PP (ag_10 x1 x2 F G) (fun _ F' _ => HN F')) : ∀ (n : Nat) (x1 : Int32) (x3 : Int32) (F : PF) (G : PG) (hA : (KX [42, 43, 44, 45, 47, 48, 49, 55, 60, 62, 70] [56, 57, 58, 59, 67, 68, 69] F0 G0 F G ∧ MO F0 F ∧ HN F)), PP (ml_chain_19 fu rc ag_10 n x1 x3 F G) (fun _ F' _ => HN F') := by
  intro n
  induction n with
  | zero =>
    intro x1 x3 F G hA
    exact PP.no
  | succ n ihn =>
    intro x1 x3 F G hA
    show PP (mb_chain_19 fu rc ag_10 (ml_chain_19 fu rc ag_10 n) x1 x3 F G) _
    rcases hA with ⟨hK, hM, hH⟩
    · skip
      unfold mb_chain_19
      refine PP.ite (fun c_1 => ?_) (fun c_1 => ?_)
      · skip
        exact mhj_chain_49 rc ihK ihM ihH hD ag_10 hag_10 x1 x3 F G ⟨hK, (show MO F0 F from hM), (show HN F from hH)⟩
      · skip
        unfold mb_chain_27
        refine PP.ix (fun _ => ?_)
        refine PP.ite (fun c_2 => ?_) (fun c_2 => ?_)
        · skip
          exact mhj_chain_49 rc ihK ihM ihH hD ag_10 hag_10 x1 x3 F G ⟨hK, (show MO F0 F from hM), (show HN F from hH)⟩
        · skip
          unfold mb_chain_42
          refine PP.bind (mw_binds F G) ?_
          intro r3 F3 G3 hK3
          dsimp only
          have k_4 : KX [42, 43, 44, 45, 47, 48, 49, 55, 60, 62, 70] [56, 57, 58, 59, 67, 68, 69] F0 G0 F3 G3 := KX.tr (show KX [42, 43, 44, 45, 47, 48, 49, 55, 60, 62, 70] [56, 57, 58, 59, 67, 68, 69] F0 G0 F G from hK) hK3 rfl rfl
          have k_5 : MO F0 F3 := MO.tr (show MO F0 F from hM) (MO.kx hK3 rfl rfl)
          have k_6 : HN F3 := HN.kx (show HN F from hH) hK3 rfl rfl
          unfold mb_chain_46
          exact ihn x1 x3 F3 G3 ⟨k_4, (show MO F0 F3 from k_5), (show HN F3 from k_6)⟩
theorem mhz_chain_10 {fu : Nat} (rc : RC) (ihK : mKI1 rc) (ihM : mMOI rc) (ihH : mHI rc) {F0 : PF} {G0 : PG} (hD : DC F0 G0) : ∀ (n : Nat) (x1 : Int32) (x2 : Int32) (F : PF) (G : PG) (hA : (KX [42, 43, 44, 45, 47, 48, 49, 55, 60, 62, 70] [56, 57, 58, 59, 67, 68, 69] F0 G0 F G ∧ MO F0 F ∧ HN F)), PP (ml_chain_10 fu rc n x1 x2 F G) (fun _ F' _ => HN F') := by
  intro n
  induction n with
  | zero =>
    intro x1 x2 F G hA
    exact PP.no
  | succ n ihn =>
    intro x1 x2 F G hA
    show PP (mb_chain_10 fu rc (ml_chain_10 fu rc n) x1 x2 F G) _
    rcases hA with ⟨hK, hM, hH⟩
    · skip
      unfold mb_chain_10
      refine PP.ite (fun c_1 => ?_) (fun c_1 => ?_)
      · skip
        unfold mb_chain_147
        refine PP.ret ?_
        exact (show HN F from hH)
      · skip
        unfold mb_chain_14
        refine PP.bind (mw_level F G) ?_
        intro r2 F2 G2 hK2
        dsimp only
        have k_3 : KX [42, 43, 44, 45, 47, 48, 49, 55, 60, 62, 70] [56, 57, 58, 59, 67, 68, 69] F0 G0 F2 G2 := KX.tr (show KX [42, 43, 44, 45, 47, 48, 49, 55, 60, 62, 70] [56, 57, 58, 59, 67, 68, 69] F0 G0 F G from hK) hK2 rfl rfl
        have k_4 : MO F0 F2 := MO.tr (show MO F0 F from hM) (MO.kx hK2 rfl rfl)
        have k_5 : HN F2 := HN.kx (show HN F from hH) hK2 rfl rfl
        unfold mb_chain_18
        exact mhz_chain_19 rc ihK ihM ihH hD (ml_chain_10 fu rc n) ihn fu x1 r2 F2 G2 ⟨k_3, (show MO F0 F2 from k_4), (show HN F2 from k_5)⟩
theorem mht_chain {fu : Nat} (rc : RC) (ihK : mKI1 rc) (ihM : mMOI rc) (ihH : mHI rc) (F : PF) (G : PG) (hD : DC F G) (hH : HN F) : PP (mh_chain fu rc F G) (fun _ F' _ => HN F') := by
  unfold mh_chain
  unfold mb_chain_0
  refine PP.bind (PP.and (ihK 7 0 0 F G) (PP.and (ihM 7 0 0 F G) (ihH 7 0 0 F G (DC.kx hD (show KX [42, 43, 44, 45, 47, 48, 49, 55, 60, 62, 70] [56, 57, 58, 59, 67, 68, 69] F G F G from (KX.rf : KX [42, 43, 44, 45, 47, 48, 49, 55, 60, 62, 70] [56, 57, 58, 59, 67, 68, 69] F G F G)) (show MO F F from (MO.rf : MO F F))) hH))) ?_
  rintro r1 F1 G1 ⟨hK1, hM1, hH1⟩
  dsimp only
  have k_2 : KX [42, 43, 44, 45, 47, 48, 49, 55, 60, 62, 70] [56, 57, 58, 59, 67, 68, 69] F G F1 G1 := KX.tr (show KX [42, 43, 44, 45, 47, 48, 49, 55, 60, 62, 70] [56, 57, 58, 59, 67, 68, 69] F G F G from (KX.rf : KX [42, 43, 44, 45, 47, 48, 49, 55, 60, 62, 70] [56, 57, 58, 59, 67, 68, 69] F G F G)) hK1 rfl rfl
  have k_3 : MO F F1 := MO.tr (show MO F F from (MO.rf : MO F F)) hM1
  have k_4 : HN F1 := hH1
  unfold mb_chain_9
  exact mhz_chain_10 rc ihK ihM ihH hD fu (F 70) r1 F1 G1 ⟨k_2, (show MO F F1 from k_3), (show HN F1 from k_4)⟩
theorem mhj_element_89 {fu : Nat} (rc : RC) (ihK : mKI1 rc) (ihM : mMOI rc) (ihH : mHI rc) {F0 : PF} {G0 : PG} (hD : DC F0 G0) (F : PF) (G : PG) (hA : (KX [42, 43, 44, 45, 47, 48, 49, 55, 60, 62, 70] [56, 57, 58, 59, 67, 68, 69] F0 G0 F G ∧ MO F0 F ∧ HN F)) : PP (mb_element_89 fu rc F G) (fun _ F' _ => HN F') := by
  rcases hA with ⟨hK, hM, hH⟩
  · skip
    unfold mb_element_89
    refine PP.ret ?_
    exact (show HN F from hH)
theorem mhj_element_121 {fu : Nat} (rc : RC) (ihK : mKI1 rc) (ihM : mMOI rc) (ihH : mHI rc) {F0 : PF} {G0 : PG} (hD : DC F0 G0) (z0 : Int32) (z1 : Int32) (z2 : Int32) (F : PF) (G : PG) (hA : (KX [42, 43, 44, 45, 47, 48, 49, 55, 60, 62, 70] [56, 57, 58, 59, 67, 68, 69] F0 G0 F G ∧ MO F0 F ∧ HN F)) : PP (mb_element_121 fu rc z0 z1 z2 F G) (fun _ F' _ => HN F') := by
  rcases hA with ⟨hK, hM, hH⟩
  · skip
    unfold mb_element_121
    refine PP.ix (fun _ => ?_)
    unfold mb_element_123
    refine PP.ret ?_
    exact (show HN F from hH)
theorem mhj_element_62 {fu : Nat} (rc : RC) (ihK : mKI1 rc) (ihM : mMOI rc) (ihH : mHI rc) {F0 : PF} {G0 : PG} (hD : DC F0 G0) (x2 : Int32) (x3 : Int32) (x4 : Int32) (z0 : Int32) (F : PF) (G : PG) (hA : (KX [42, 43, 44, 45, 47, 48, 49, 55, 60, 62, 70] [56, 57, 58, 59, 67, 68, 69] F0 G0 F G ∧ MO F0 F ∧ HN F)) : PP (mb_element_62 fu rc x2 x3 x4 z0 F G) (fun _ F' _ => HN F') := by
  rcases hA with ⟨hK, hM, hH⟩
  · skip
    unfold mb_element_62
    refine PP.bind (mw_openSign (24 : Int32) F G) ?_
    intro r1 F1 G1 hK1
    dsimp only
    have k_2 : KX [42, 43, 44, 45, 47, 48, 49, 55, 60, 62, 70] [56, 57, 58, 59, 67, 68, 69] F0 G0 F1 G1 := KX.tr (show KX [42, 43, 44, 45, 47, 48, 49, 55, 60, 62, 70] [56, 57, 58, 59, 67, 68, 69] F0 G0 F G from hK) hK1 rfl rfl
    have k_3 : MO F0 F1 := MO.tr (show MO F0 F from hM) (MO.kx hK1 rfl rfl)
    have k_4 : HN F1 := HN.kx (show HN F from hH) hK1 rfl rfl
    unfold mb_element_70
    refine PP.ite (fun c_5 => ?_) (fun c_5 => ?_)
    · skip
      exact mhj_element_89 rc ihK ihM ihH hD F1 G1 ⟨k_2, (show MO F0 F1 from k_3), (show HN F1 from k_4)⟩
    · skip
      unfold mb_element_73
      refine PP.bind (PP.and (ihK 4 0 0 F1 G1) (PP.and (ihM 4 0 0 F1 G1) (ihH 4 0 0 F1 G1 (DC.kx hD (show KX [42, 43, 44, 45, 47, 48, 49, 55, 60, 62, 70] [56, 57, 58, 59, 67, 68, 69] F0 G0 F1 G1 from k_2) (show MO F0 F1 from k_3)) k_4))) ?_
      rintro r6 F6 G6 ⟨hK6, hM6, hH6⟩
      dsimp only
      have k_7 : KX [42, 43, 44, 45, 47, 48, 49, 55, 60, 62, 70] [56, 57, 58, 59, 67, 68, 69] F0 G0 F6 G6 := KX.tr (show KX [42, 43, 44, 45, 47, 48, 49, 55, 60, 62, 70] [56, 57, 58, 59, 67, 68, 69] F0 G0 F1 G1 from k_2) hK6 rfl rfl
      have k_8 : MO F0 F6 := MO.tr (show MO F0 F1 from k_3) hM6
      have k_9 : HN F6 := hH6
      unfold mb_element_77
      refine PP.ite (fun c_10 => ?_) (fun c_10 => ?_)
      · skip
        exact mhj_element_89 rc ihK ihM ihH hD F6 G6 ⟨k_7, (show MO F0 F6 from k_8), (show HN F6 from k_9)⟩
      · skip
        unfold mb_element_80
        refine PP.bind (mw_closeSign (25 : Int32) F6 G6) ?_
        intro r11 F11 G11 hK11
        dsimp only
        have k_12 : KX [42, 43, 44, 45, 47, 48, 49, 55, 60, 62, 70] [56, 57, 58, 59, 67, 68, 69] F0 G0 F11 G11 := KX.tr (show KX [42, 43, 44, 45, 47, 48, 49, 55, 60, 62, 70] [56, 57, 58, 59, 67, 68, 69] F0 G0 F6 G6 from k_7) hK11 rfl rfl
        have k_13 : MO F0 F11 := MO.tr (show MO F0 F6 from k_8) (MO.kx hK11 rfl rfl)
        have k_14 : HN F11 := HN.kx (show HN F6 from k_9) hK11 rfl rfl
        unfold mb_element_86
        refine PP.ite (fun c_15 => ?_) (fun c_15 => ?_)
        · skip
          exact mhj_element_89 rc ihK ihM ihH hD F11 G11 ⟨k_12, (show MO F0 F11 from k_13), (show HN F11 from k_14)⟩
        · skip
          unfold mb_element_91
          refine PP.bind (mw_step (6 : Int32) x3 x4 F11 G11) ?_
          intro r16 F16 G16 hK16
          dsimp only
          have k_17 : KX [42, 43, 44, 45, 47, 48, 49, 55, 60, 62, 70] [56, 57, 58, 59, 67, 68, 69] F0 G0 F16 G16 := KX.tr (show KX [42, 43, 44, 45, 47, 48, 49, 55, 60, 62, 70] [56, 57, 58, 59, 67, 68, 69] F0 G0 F11 G11 from k_12) hK16 rfl rfl
          have k_18 : MO F0 F16 := MO.tr (show MO F0 F11 from k_13) (MO.kx hK16 rfl rfl)
          have k_19 : HN F16 := HN.kx (show HN F11 from k_14) hK16 rfl rfl
          unfold mb_element_100
          refine PP.ite (fun c_20 => ?_) (fun c_20 => ?_)
          · skip
            unfold mb_element_120
            exact mhj_element_121 rc ihK ihM ihH hD (0 : Int32) ((2 : Int32) * x2) r16 F16 G16 ⟨k_17, (show MO F0 F16 from k_18), (show HN F16 from k_19)⟩
          · skip
            unfold mb_element_116
            exact mhj_element_121 rc ihK ihM ihH hD (1 : Int32) ((2 : Int32) * x2) r16 F16 G16 ⟨k_17, (show MO F0 F16 from k_18), (show HN F16 from k_19)⟩
theorem mhj_element_61 {fu : Nat} (rc : RC) (ihK : mKI1 rc) (ihM : mMOI rc) (ihH : mHI rc) {F0 : PF} {G0 : PG} (hD : DC F0 G0) (x2 : Int32) (x3 : Int32) (x4 : Int32) (F : PF) (G : PG) (hA : (KX [42, 43, 44, 45, 47, 48, 49, 55, 60, 62, 70] [56, 57, 58, 59, 67, 68, 69] F0 G0 F G ∧ MO F0 F ∧ HN F)) : PP (mb_element_61 fu rc x2 x3 x4 F G) (fun _ F' _ => HN F') := by
  rcases hA with ⟨hK, hM, hH⟩
  · skip
    unfold mb_element_61
    exact mhj_element_62 rc ihK ihM ihH hD x2 x3 x4 (0 : Int32) F G ⟨hK, (show MO F0 F from hM), (show HN F from hH)⟩
theorem mhj_element_41 {fu : Nat} (rc : RC) (ihK : mKI1 rc) (ihM : mMOI rc) (ihH : mHI rc) {F0 : PF} {G0 : PG} (hD : DC F0 G0) (x1 : Int32) (x2 : Int32) (x3 : Int32) (z0 : Int32) (F : PF) (G : PG) (hA : (KX [42, 43, 44, 45, 47, 48, 49, 55, 60, 62, 70] [56, 57, 58, 59, 67, 68, 69] F0 G0 F G ∧ MO F0 F ∧ HN F)) : PP (mb_element_41 fu rc x1 x2 x3 z0 F G) (fun _ F' _ => HN F') := by
  rcases hA with ⟨hK, hM, hH⟩
  · skip
    unfold mb_element_41
    refine PP.ite (fun c_1 => ?_) (fun c_1 => ?_)
    · skip
      exact mhj_element_61 rc ihK ihM ihH hD x2 x3 z0 F G ⟨hK, (show MO F0 F from hM), (show HN F from hH)⟩
    · skip
      unfold mb_element_48
      refine PP.ix (fun _ => ?_)
      refine PP.ite (fun c_2 => ?_) (fun c_2 => ?_)
      · skip
        exact mhj_element_61 rc ihK ihM ihH hD x2 x3 z0 F G ⟨hK, (show MO F0 F from hM), (show HN F from hH)⟩
      · skip
        unfold mb_element_57
        exact mhj_element_62 rc ihK ihM ihH hD x2 x3 z0 (1 : Int32) F G ⟨hK, (show MO F0 F from hM), (show HN F from hH)⟩
theorem mhj_element_25 {fu : Nat} (rc : RC) (ihK : mKI1 rc) (ihM : mMOI rc) (ihH : mHI rc) {F0 : PF} {G0 : PG} (hD : DC F0 G0) (x1 : Int32) (x2 : Int32) (z0 : Int32) (F : PF) (G : PG) (hA : (KX [42, 43, 44, 45, 47, 48, 49, 55, 60, 62, 70] [56, 57, 58, 59, 67, 68, 69] F0 G0 F G ∧ MO F0 F ∧ HN F)) : PP (mb_element_25 fu rc x1 x2 z0 F G) (fun _ F' _ => HN F') := by
  rcases hA with ⟨hK, hM, hH⟩
  · skip
    unfold mb_element_25
    refine PP.ite (fun c_1 => ?_) (fun c_1 => ?_)
    · skip
      unfold mb_element_31
      exact mhj_element_41 rc ihK ihM ihH hD x1 x2 z0 (1 : Int32) F G ⟨hK, (show MO F0 F from hM), (show HN F from hH)⟩
    · skip
      unfold mb_element_35
      refine PP.ix (fun _ => ?_)
      exact mhj_element_41 rc ihK ihM ihH hD x1 x2 z0 (G 21 x1.toNatClampNeg) F G ⟨hK, (show MO F0 F from hM), (show HN F from hH)⟩
theorem mht_element {fu : Nat} (rc : RC) (ihK : mKI1 rc) (ihM : mMOI rc) (ihH : mHI rc) (x1 : Int32) (F : PF) (G : PG) (hD : DC F G) (hH : HN F) : PP (mh_element fu rc x1 F G) (fun _ F' _ => HN F') := by
  unfold mh_element
  unfold mb_element_0
  refine PP.ix (fun _ => ?_)
  refine PP.ite (fun c_1 => ?_) (fun c_1 => ?_)
  · skip
    unfold mb_element_15
    exact mhj_element_25 rc ihK ihM ihH hD x1 (G 6 (F 42).toNatClampNeg) (0 : Int32) F G ⟨(KX.rf : KX [42, 43, 44, 45, 47, 48, 49, 55, 60, 62, 70] [56, 57, 58, 59, 67, 68, 69] F G F G), (show MO F F from (MO.rf : MO F F)), (show HN F from hH)⟩
  · skip
    unfold mb_element_19
    refine PP.ix (fun _ => ?_)
    exact mhj_element_25 rc ihK ihM ihH hD x1 (G 6 (F 42).toNatClampNeg) (G 20 x1.toNatClampNeg) F G ⟨(KX.rf : KX [42, 43, 44, 45, 47, 48, 49, 55, 60, 62, 70] [56, 57, 58, 59, 67, 68, 69] F G F G), (show MO F F from (MO.rf : MO F F)), (show HN F from hH)⟩
theorem mhj_expression_54 {fu : Nat} (rc : RC) (ihK : mKI1 rc) (ihM : mMOI rc) (ihH : mHI rc) {F0 : PF} {G0 : PG} (hD : DC F0 G0) (F : PF) (G : PG) (hA : (KX [42, 43, 44, 45, 47, 48, 49, 55, 60, 62, 70] [56, 57, 58, 59, 67, 68, 69] F0 G0 F G ∧ MO F0 F ∧ HN F)) : PP (mb_expression_54 fu rc F G) (fun _ F' _ => HN F') := by
  rcases hA with ⟨hK, hM, hH⟩
  · skip
    unfold mb_expression_54
    refine PP.ret ?_
    exact (show HN F from hH)
theorem mht_expression {fu : Nat} (rc : RC) (ihK : mKI1 rc) (ihM : mMOI rc) (ihH : mHI rc) (F : PF) (G : PG) (hD : DC F G) (hH : HN F) : PP (mh_expression fu rc F G) (fun _ F' _ => HN F') := by
  unfold mh_expression
  unfold mb_expression_0
  refine PP.bind (PP.and (ihK 2 0 0 F G) (PP.and (ihM 2 0 0 F G) (ihH 2 0 0 F G (DC.kx hD (show KX [42, 43, 44, 45, 47, 48, 49, 55, 60, 62, 70] [56, 57, 58, 59, 67, 68, 69] F G F G from (KX.rf : KX [42, 43, 44, 45, 47, 48, 49, 55, 60, 62, 70] [56, 57, 58, 59, 67, 68, 69] F G F G)) (show MO F F from (MO.rf : MO F F))) hH))) ?_
  rintro r1 F1 G1 ⟨hK1, hM1, hH1⟩
  dsimp only
  have k_2 : KX [42, 43, 44, 45, 47, 48, 49, 55, 60, 62, 70] [56, 57, 58, 59, 67, 68, 69] F G F1 G1 := KX.tr (show KX [42, 43, 44, 45, 47, 48, 49, 55, 60, 62, 70] [56, 57, 58, 59, 67, 68, 69] F G F G from (KX.rf : KX [42, 43, 44, 45, 47, 48, 49, 55, 60, 62, 70] [56, 57, 58, 59, 67, 68, 69] F G F G)) hK1 rfl rfl
  have k_3 : MO F F1 := MO.tr (show MO F F from (MO.rf : MO F F)) hM1
  have k_4 : HN F1 := hH1
  unfold mb_expression_4
  refine PP.ite (fun c_5 => ?_) (fun c_5 => ?_)
  · skip
    unfold mb_expression_7
    refine PP.ret ?_
    exact (show HN F1 from k_4)
  · skip
    unfold mb_expression_9
    refine PP.bind (mp_isSign (30 : Int32) F1 G1) ?_
    rintro _ _ _ ⟨rfl, rfl, (⟨rfl, -⟩ | ⟨rfl, -⟩)⟩
    · dsimp only
      unfold mb_expression_15
      refine PP.ite (fun c_7 => absurd c_7 (by decide)) (fun _ => ?_)
      unfold mb_expression_20
      refine PP.bind (mw_opens F1 G1) ?_
      intro r8 F8 G8 hK8
      dsimp only
      have k_9 : KX [42, 43, 44, 45, 47, 48, 49, 55, 60, 62, 70] [56, 57, 58, 59, 67, 68, 69] F G F8 G8 := KX.tr (show KX [42, 43, 44, 45, 47, 48, 49, 55, 60, 62, 70] [56, 57, 58, 59, 67, 68, 69] F G F1 G1 from k_2) hK8 rfl rfl
      have k_10 : MO F F8 := MO.tr (show MO F F1 from k_3) (MO.kx hK8 rfl rfl)
      have k_11 : HN F8 := HN.kx (show HN F1 from k_4) hK8 rfl rfl
      unfold mb_expression_24
      refine PP.ite (fun c_12 => ?_) (fun c_12 => ?_)
      · skip
        unfold mb_expression_27
        refine PP.ret ?_
        exact (show HN F8 from k_11)
      · skip
        unfold mb_expression_29
        refine PP.bind (mw_step (13 : Int32) (0 : Int32) (0 : Int32) F8 G8) ?_
        intro r13 F13 G13 hK13
        dsimp only
        have k_14 : KX [42, 43, 44, 45, 47, 48, 49, 55, 60, 62, 70] [56, 57, 58, 59, 67, 68, 69] F G F13 G13 := KX.tr (show KX [42, 43, 44, 45, 47, 48, 49, 55, 60, 62, 70] [56, 57, 58, 59, 67, 68, 69] F G F8 G8 from k_9) hK13 rfl rfl
        have k_15 : MO F F13 := MO.tr (show MO F F8 from k_10) (MO.kx hK13 rfl rfl)
        have k_16 : HN F13 := HN.kx (show HN F8 from k_11) hK13 rfl rfl
        unfold mb_expression_37
        refine PP.bind (PP.and (ihK 4 0 0 F13 G13) (PP.and (ihM 4 0 0 F13 G13) (ihH 4 0 0 F13 G13 (DC.kx hD (show KX [42, 43, 44, 45, 47, 48, 49, 55, 60, 62, 70] [56, 57, 58, 59, 67, 68, 69] F G F13 G13 from k_14) (show MO F F13 from k_15)) k_16))) ?_
        rintro r17 F17 G17 ⟨hK17, hM17, hH17⟩
        dsimp only
        have k_18 : KX [42, 43, 44, 45, 47, 48, 49, 55, 60, 62, 70] [56, 57, 58, 59, 67, 68, 69] F G F17 G17 := KX.tr (show KX [42, 43, 44, 45, 47, 48, 49, 55, 60, 62, 70] [56, 57, 58, 59, 67, 68, 69] F G F13 G13 from k_14) hK17 rfl rfl
        have k_19 : MO F F17 := MO.tr (show MO F F13 from k_15) hM17
        have k_20 : HN F17 := hH17
        unfold mb_expression_42
        refine PP.ite (fun c_21 => ?_) (fun c_21 => ?_)
        · skip
          exact mhj_expression_54 rc ihK ihM ihH hD F17 G17 ⟨k_18, (show MO F F17 from k_19), (show HN F17 from k_20)⟩
        · skip
          unfold mb_expression_45
          refine PP.bind (mw_sign (31 : Int32) F17 G17) ?_
          intro r22 F22 G22 hK22
          dsimp only
          have k_23 : KX [42, 43, 44, 45, 47, 48, 49, 55, 60, 62, 70] [56, 57, 58, 59, 67, 68, 69] F G F22 G22 := KX.tr (show KX [42, 43, 44, 45, 47, 48, 49, 55, 60, 62, 70] [56, 57, 58, 59, 67, 68, 69] F G F17 G17 from k_18) hK22 rfl rfl
          have k_24 : MO F F22 := MO.tr (show MO F F17 from k_19) (MO.kx hK22 rfl rfl)
          have k_25 : HN F22 := HN.kx (show HN F17 from k_20) hK22 rfl rfl
          unfold mb_expression_51
          refine PP.ite (fun c_26 => ?_) (fun c_26 => ?_)
          · skip
            exact mhj_expression_54 rc ihK ihM ihH hD F22 G22 ⟨k_23, (show MO F F22 from k_24), (show HN F22 from k_25)⟩
          · skip
            unfold mb_expression_56
            refine PP.bind (mw_step (12 : Int32) (0 : Int32) (0 : Int32) F22 G22) ?_
            intro r27 F27 G27 hK27
            dsimp only
            have k_28 : KX [42, 43, 44, 45, 47, 48, 49, 55, 60, 62, 70] [56, 57, 58, 59, 67, 68, 69] F G F27 G27 := KX.tr (show KX [42, 43, 44, 45, 47, 48, 49, 55, 60, 62, 70] [56, 57, 58, 59, 67, 68, 69] F G F22 G22 from k_23) hK27 rfl rfl
            have k_29 : MO F F27 := MO.tr (show MO F F22 from k_24) (MO.kx hK27 rfl rfl)
            have k_30 : HN F27 := HN.kx (show HN F22 from k_25) hK27 rfl rfl
            unfold mb_expression_64
            refine PP.ix (fun _ => ?_)
            unfold mb_expression_75
            refine PP.bind (PP.and (ihK 4 0 0 F27 (gup G27 57 r13.toNatClampNeg (F27 60))) (PP.and (ihM 4 0 0 F27 (gup G27 57 r13.toNatClampNeg (F27 60))) (ihH 4 0 0 F27 (gup G27 57 r13.toNatClampNeg (F27 60)) (DC.kx hD (show KX [42, 43, 44, 45, 47, 48, 49, 55, 60, 62, 70] [56, 57, 58, 59, 67, 68, 69] F G F27 (gup G27 57 r13.toNatClampNeg (F27 60)) from (KX.g (k := 57) rfl k_28)) (show MO F F27 from k_29)) k_30))) ?_
            rintro r31 F31 G31 ⟨hK31, hM31, hH31⟩
            dsimp only
            have k_32 : KX [42, 43, 44, 45, 47, 48, 49, 55, 60, 62, 70] [56, 57, 58, 59, 67, 68, 69] F G F31 G31 := KX.tr (show KX [42, 43, 44, 45, 47, 48, 49, 55, 60, 62, 70] [56, 57, 58, 59, 67, 68, 69] F G F27 (gup G27 57 r13.toNatClampNeg (F27 60)) from (KX.g (k := 57) rfl k_28)) hK31 rfl rfl
            have k_33 : MO F F31 := MO.tr (show MO F F27 from k_29) hM31
            have k_34 : HN F31 := hH31
            unfold mb_expression_79
            refine PP.ite (fun c_35 => ?_) (fun c_35 => ?_)
            · skip
              unfold mb_expression_82
              refine PP.ret ?_
              exact (show HN F31 from k_34)
            · skip
              unfold mb_expression_84
              refine PP.ix (fun _ => ?_)
              unfold mb_expression_94
              unfold mb_expression_104
              refine PP.ret ?_
              exact (show HN (fup F31 43 ((F31 43) - (1 : Int32))) from (show HN (fup F31 43 ((F31 43) - (1 : Int32))) from k_34))
    · dsimp only
      unfold mb_expression_15
      refine PP.ite (fun _ => ?_) (fun c_36 => absurd (by decide) c_36)
      unfold mb_expression_18
      refine PP.ret ?_
      exact (show HN F1 from k_4)
theorem mhj_inConstant_248 {fu : Nat} (rc : RC) (ihK : mKI1 rc) (ihM : mMOI rc) (ihH : mHI rc) {F0 : PF} {G0 : PG} (hD : DC F0 G0) (F : PF) (G : PG) (hA : (KX [42, 43, 44, 45, 47, 48, 49, 55, 60, 62, 70] [56, 57, 58, 59, 67, 68, 69] F0 G0 F G ∧ MO F0 F ∧ HN F)) : PP (mb_inConstant_248 fu rc F G) (fun _ F' _ => HN F') := by
  rcases hA with ⟨hK, hM, hH⟩
  · skip
    unfold mb_inConstant_248
    refine PP.ret ?_
    exact (show HN F from hH)
theorem mhj_inConstant_221 {fu : Nat} (rc : RC) (ihK : mKI1 rc) (ihM : mMOI rc) (ihH : mHI rc) {F0 : PF} {G0 : PG} (hD : DC F0 G0) (x2 : Int32) (x4 : Int32) (x5 : Int32) (F : PF) (G : PG) (hA : (KX [42, 43, 44, 45, 47, 48, 49, 55, 60, 62, 70] [56, 57, 58, 59, 67, 68, 69] F0 G0 F G ∧ MO F0 F ∧ HN F)) : PP (mb_inConstant_221 fu rc x2 x4 x5 F G) (fun _ F' _ => HN F') := by
  rcases hA with ⟨hK, hM, hH⟩
  · skip
    unfold mb_inConstant_221
    refine PP.ite (fun c_1 => ?_) (fun c_1 => ?_)
    · skip
      unfold mb_inConstant_226
      refine PP.ite (fun c_2 => ?_) (fun c_2 => ?_)
      · skip
        unfold mb_inConstant_242
        unfold mb_inConstant_243
        refine PP.bind (mw_step (0 : Int32) (0 : Int32) (0 : Int32) F G) ?_
        intro r3 F3 G3 hK3
        dsimp only
        have k_4 : KX [42, 43, 44, 45, 47, 48, 49, 55, 60, 62, 70] [56, 57, 58, 59, 67, 68, 69] F0 G0 F3 G3 := KX.tr (show KX [42, 43, 44, 45, 47, 48, 49, 55, 60, 62, 70] [56, 57, 58, 59, 67, 68, 69] F0 G0 F G from hK) hK3 rfl rfl
        have k_5 : MO F0 F3 := MO.tr (show MO F0 F from hM) (MO.kx hK3 rfl rfl)
        have k_6 : HN F3 := HN.kx (show HN F from hH) hK3 rfl rfl
        unfold mb_inConstant_247
        exact mhj_inConstant_248 rc ihK ihM ihH hD F3 G3 ⟨k_4, (show MO F0 F3 from k_5), (show HN F3 from k_6)⟩
      · skip
        unfold mb_inConstant_233
        refine PP.ix (fun _ => ?_)
        unfold mb_inConstant_243
        refine PP.bind (mw_step (0 : Int32) (G 20 x2.toNatClampNeg) (0 : Int32) F G) ?_
        intro r7 F7 G7 hK7
        dsimp only
        have k_8 : KX [42, 43, 44, 45, 47, 48, 49, 55, 60, 62, 70] [56, 57, 58, 59, 67, 68, 69] F0 G0 F7 G7 := KX.tr (show KX [42, 43, 44, 45, 47, 48, 49, 55, 60, 62, 70] [56, 57, 58, 59, 67, 68, 69] F0 G0 F G from hK) hK7 rfl rfl
        have k_9 : MO F0 F7 := MO.tr (show MO F0 F from hM) (MO.kx hK7 rfl rfl)
        have k_10 : HN F7 := HN.kx (show HN F from hH) hK7 rfl rfl
        unfold mb_inConstant_247
        exact mhj_inConstant_248 rc ihK ihM ihH hD F7 G7 ⟨k_8, (show MO F0 F7 from k_9), (show HN F7 from k_10)⟩
    · skip
      exact mhj_inConstant_248 rc ihK ihM ihH hD F G ⟨hK, (show MO F0 F from hM), (show HN F from hH)⟩
theorem mhj_inConstant_182 {fu : Nat} (rc : RC) (ihK : mKI1 rc) (ihM : mMOI rc) (ihH : mHI rc) {F0 : PF} {G0 : PG} (hD : DC F0 G0) (x2 : Int32) (x4 : Int32) (x5 : Int32) (F : PF) (G : PG) (hA : (KX [42, 43, 44, 45, 47, 48, 49, 55, 60, 62, 70] [56, 57, 58, 59, 67, 68, 69] F0 G0 F G ∧ MO F0 F ∧ HN F)) : PP (mb_inConstant_182 fu rc x2 x4 x5 F G) (fun _ F' _ => HN F') := by
  rcases hA with ⟨hK, hM, hH⟩
  · skip
    unfold mb_inConstant_182
    refine PP.bind (mp_isSign (24 : Int32) F G) ?_
    rintro _ _ _ ⟨rfl, rfl, (⟨rfl, -⟩ | ⟨rfl, -⟩)⟩
    · dsimp only
      unfold mb_inConstant_188
      refine PP.ite (fun c_2 => absurd c_2 (by decide)) (fun _ => ?_)
      unfold mb_inConstant_191
      refine PP.ite (fun c_3 => ?_) (fun c_3 => ?_)
      · skip
        exact mhj_inConstant_221 rc ihK ihM ihH hD x2 x4 x5 F G ⟨hK, (show MO F0 F from hM), (show HN F from hH)⟩
      · skip
        unfold mb_inConstant_196
        refine PP.ix (fun _ => ?_)
        refine PP.ite (fun c_4 => ?_) (fun c_4 => ?_)
        · skip
          unfold mb_inConstant_211
          refine PP.bind (PP.and (ihK 3 (-1 : Int32) 0 F G) (PP.and (ihM 3 (-1 : Int32) 0 F G) (ihH 3 (-1 : Int32) 0 F G (DC.kx hD (show KX [42, 43, 44, 45, 47, 48, 49, 55, 60, 62, 70] [56, 57, 58, 59, 67, 68, 69] F0 G0 F G from hK) (show MO F0 F from hM)) hH))) ?_
          rintro r5 F5 G5 ⟨hK5, hM5, hH5⟩
          dsimp only
          have k_6 : KX [42, 43, 44, 45, 47, 48, 49, 55, 60, 62, 70] [56, 57, 58, 59, 67, 68, 69] F0 G0 F5 G5 := KX.tr (show KX [42, 43, 44, 45, 47, 48, 49, 55, 60, 62, 70] [56, 57, 58, 59, 67, 68, 69] F0 G0 F G from hK) hK5 rfl rfl
          have k_7 : MO F0 F5 := MO.tr (show MO F0 F from hM) hM5
          have k_8 : HN F5 := hH5
          unfold mb_inConstant_216
          refine PP.ite (fun c_9 => ?_) (fun c_9 => ?_)
          · skip
            unfold mb_inConstant_219
            refine PP.ret ?_
            exact (show HN F5 from k_8)
          · skip
            exact mhj_inConstant_221 rc ihK ihM ihH hD x2 x4 x5 F5 G5 ⟨k_6, (show MO F0 F5 from k_7), (show HN F5 from k_8)⟩
        · skip
          exact mhj_inConstant_221 rc ihK ihM ihH hD x2 x4 x5 F G ⟨hK, (show MO F0 F from hM), (show HN F from hH)⟩
    · dsimp only
      unfold mb_inConstant_188
      refine PP.ite (fun _ => ?_) (fun c_10 => absurd (by decide) c_10)
      exact mhj_inConstant_221 rc ihK ihM ihH hD x2 x4 x5 F G ⟨hK, (show MO F0 F from hM), (show HN F from hH)⟩
theorem mhj_inConstant_162 {fu : Nat} (rc : RC) (ihK : mKI1 rc) (ihM : mMOI rc) (ihH : mHI rc) {F0 : PF} {G0 : PG} (hD : DC F0 G0) (x1 : Int32) (x2 : Int32) (x4 : Int32) (x5 : Int32) (F : PF) (G : PG) (hA : (KX [42, 43, 44, 45, 47, 48, 49, 55, 60, 62, 70] [56, 57, 58, 59, 67, 68, 69] F0 G0 F G ∧ MO F0 F ∧ HN F)) : PP (mb_inConstant_162 fu rc x1 x2 x4 x5 F G) (fun _ F' _ => HN F') := by
  rcases hA with ⟨hK, hM, hH⟩
  · skip
    unfold mb_inConstant_162
    refine PP.bind (mp_isSign (22 : Int32) F G) ?_
    rintro _ _ _ ⟨rfl, rfl, (⟨rfl, -⟩ | ⟨rfl, -⟩)⟩
    · dsimp only
      unfold mb_inConstant_168
      refine PP.ite (fun c_2 => absurd c_2 (by decide)) (fun _ => ?_)
      unfold mb_inConstant_171
      refine PP.bind (PP.and (ihK 1 x1 (0 : Int32) F G) (PP.and (ihM 1 x1 (0 : Int32) F G) (ihH 1 x1 (0 : Int32) F G (DC.kx hD (show KX [42, 43, 44, 45, 47, 48, 49, 55, 60, 62, 70] [56, 57, 58, 59, 67, 68, 69] F0 G0 F G from hK) (show MO F0 F from hM)) hH))) ?_
      rintro r3 F3 G3 ⟨hK3, hM3, hH3⟩
      dsimp only
      have k_4 : KX [42, 43, 44, 45, 47, 48, 49, 55, 60, 62, 70] [56, 57, 58, 59, 67, 68, 69] F0 G0 F3 G3 := KX.tr (show KX [42, 43, 44, 45, 47, 48, 49, 55, 60, 62, 70] [56, 57, 58, 59, 67, 68, 69] F0 G0 F G from hK) hK3 rfl rfl
      have k_5 : MO F0 F3 := MO.tr (show MO F0 F from hM) hM3
      have k_6 : HN F3 := hH3
      unfold mb_inConstant_177
      refine PP.ite (fun c_7 => ?_) (fun c_7 => ?_)
      · skip
        unfold mb_inConstant_180
        refine PP.ret ?_
        exact (show HN F3 from k_6)
      · skip
        exact mhj_inConstant_182 rc ihK ihM ihH hD x2 x4 x5 F3 G3 ⟨k_4, (show MO F0 F3 from k_5), (show HN F3 from k_6)⟩
    · dsimp only
      unfold mb_inConstant_168
      refine PP.ite (fun _ => ?_) (fun c_8 => absurd (by decide) c_8)
      exact mhj_inConstant_182 rc ihK ihM ihH hD x2 x4 x5 F G ⟨hK, (show MO F0 F from hM), (show HN F from hH)⟩
theorem mhj_inConstant_137 {fu : Nat} (rc : RC) (ihK : mKI1 rc) (ihM : mMOI rc) (ihH : mHI rc) {F0 : PF} {G0 : PG} (hD : DC F0 G0) (x1 : Int32) (x2 : Int32) (x4 : Int32) (x5 : Int32) (F : PF) (G : PG) (hA : (x4 = 0 ∧ x5 = 1 ∧ KX [42, 43, 44, 45, 47, 48, 49, 55, 60, 62, 70] [56, 57, 58, 59, 67, 68, 69] F0 G0 F G ∧ MO F0 F ∧ HN F ∧ mnR F0 x2 ∧ ¬ x2 = (-1 : Int32) ∧ G 17 x2.toNatClampNeg = (0 : Int32)) ∨ (x4 = 0 ∧ x5 = 1 ∧ KX [42, 43, 44, 45, 47, 48, 49, 55, 60, 62, 70] [56, 57, 58, 59, 67, 68, 69] F0 G0 F G ∧ MO F0 F ∧ HN F ∧ ¬ F 47 = 0) ∨ (x4 = 0 ∧ x5 = 0 ∧ KX [42, 43, 44, 45, 47, 48, 49, 55, 60, 62, 70] [56, 57, 58, 59, 67, 68, 69] F0 G0 F G ∧ MO F0 F ∧ HN F ∧ ¬ F 47 = 0) ∨ (x4 = 1 ∧ x5 = 0 ∧ KX [42, 43, 44, 45, 47, 48, 49, 55, 60, 62, 70] [56, 57, 58, 59, 67, 68, 69] F0 G0 F G ∧ MO F0 F ∧ HN F ∧ ¬ F 47 = 0) ∨ (x4 = 1 ∧ x5 = 1 ∧ KX [42, 43, 44, 45, 47, 48, 49, 55, 60, 62, 70] [56, 57, 58, 59, 67, 68, 69] F0 G0 F G ∧ MO F0 F ∧ HN F ∧ ¬ F 47 = 0)) : PP (mb_inConstant_137 fu rc x1 x2 x4 x5 F G) (fun _ F' _ => HN F') := by
  rcases hA with ⟨rfl, rfl, hK, hM, hH, p0_, p1_, p2_⟩ | ⟨rfl, rfl, hK, hM, hH, p0_⟩ | ⟨rfl, rfl, hK, hM, hH, p0_⟩ | ⟨rfl, rfl, hK, hM, hH, p0_⟩ | ⟨rfl, rfl, hK, hM, hH, p0_⟩
  · skip
    unfold mb_inConstant_137
    refine PP.ite (fun c_1 => absurd c_1 (by decide)) (fun _ => ?_)
    unfold mb_inConstant_142
    refine PP.ite (fun _ => ?_) (fun c_2 => absurd (by decide) c_2)
    unfold mb_inConstant_147
    refine PP.ix (fun _ => ?_)
    refine PP.ite (fun c_3 => ?_) (fun c_3 => ?_)
    · skip
      unfold mb_inConstant_157
      exact mhj_inConstant_162 rc ihK ihM ihH hD x1 x2 (0 : Int32) (1 : Int32) (fup F 55 (1 : Int32)) G ⟨(KX.f (k := 55) rfl hK), (show MO F0 (fup F 55 (1 : Int32)) from (MO.f55 hM)), (show HN (fup F 55 (1 : Int32)) from (show HN (fup F 55 (1 : Int32)) from Or.inr (show ¬ F 47 = 0 from (DC.no hD (show KX [42, 43, 44, 45, 47, 48, 49, 55, 60, 62, 70] [56, 57, 58, 59, 67, 68, 69] F0 G0 F G from hK) (show MO F0 F from hM) p0_ p1_ p2_ c_3))))⟩
    · skip
      exact mhj_inConstant_162 rc ihK ihM ihH hD x1 x2 (0 : Int32) (1 : Int32) F G ⟨hK, (show MO F0 F from hM), (show HN F from hH)⟩
  · skip
    unfold mb_inConstant_137
    refine PP.ite (fun c_4 => absurd c_4 (by decide)) (fun _ => ?_)
    unfold mb_inConstant_142
    refine PP.ite (fun _ => ?_) (fun c_5 => absurd (by decide) c_5)
    unfold mb_inConstant_147
    refine PP.ix (fun _ => ?_)
    refine PP.ite (fun c_6 => ?_) (fun c_6 => ?_)
    · skip
      unfold mb_inConstant_157
      exact mhj_inConstant_162 rc ihK ihM ihH hD x1 x2 (0 : Int32) (1 : Int32) (fup F 55 (1 : Int32)) G ⟨(KX.f (k := 55) rfl hK), (show MO F0 (fup F 55 (1 : Int32)) from (MO.f55 hM)), (show HN (fup F 55 (1 : Int32)) from (show HN (fup F 55 (1 : Int32)) from Or.inr (show ¬ F 47 = 0 from p0_)))⟩
    · skip
      exact mhj_inConstant_162 rc ihK ihM ihH hD x1 x2 (0 : Int32) (1 : Int32) F G ⟨hK, (show MO F0 F from hM), (show HN F from hH)⟩
  · skip
    unfold mb_inConstant_137
    refine PP.ite (fun _ => ?_) (fun c_7 => absurd (by decide) c_7)
    unfold mb_inConstant_157
    exact mhj_inConstant_162 rc ihK ihM ihH hD x1 x2 (0 : Int32) (0 : Int32) (fup F 55 (1 : Int32)) G ⟨(KX.f (k := 55) rfl hK), (show MO F0 (fup F 55 (1 : Int32)) from (MO.f55 hM)), (show HN (fup F 55 (1 : Int32)) from (show HN (fup F 55 (1 : Int32)) from Or.inr (show ¬ F 47 = 0 from p0_)))⟩
  · skip
    unfold mb_inConstant_137
    refine PP.ite (fun _ => ?_) (fun c_8 => absurd (by decide) c_8)
    unfold mb_inConstant_157
    exact mhj_inConstant_162 rc ihK ihM ihH hD x1 x2 (1 : Int32) (0 : Int32) (fup F 55 (1 : Int32)) G ⟨(KX.f (k := 55) rfl hK), (show MO F0 (fup F 55 (1 : Int32)) from (MO.f55 hM)), (show HN (fup F 55 (1 : Int32)) from (show HN (fup F 55 (1 : Int32)) from Or.inr (show ¬ F 47 = 0 from p0_)))⟩
  · skip
    unfold mb_inConstant_137
    refine PP.ite (fun c_9 => absurd c_9 (by decide)) (fun _ => ?_)
    unfold mb_inConstant_142
    refine PP.ite (fun c_10 => absurd c_10 (by decide)) (fun _ => ?_)
    unfold mb_inConstant_157
    exact mhj_inConstant_162 rc ihK ihM ihH hD x1 x2 (1 : Int32) (1 : Int32) (fup F 55 (1 : Int32)) G ⟨(KX.f (k := 55) rfl hK), (show MO F0 (fup F 55 (1 : Int32)) from (MO.f55 hM)), (show HN (fup F 55 (1 : Int32)) from (show HN (fup F 55 (1 : Int32)) from Or.inr (show ¬ F 47 = 0 from p0_)))⟩
theorem mhj_inConstant_104 {fu : Nat} (rc : RC) (ihK : mKI1 rc) (ihM : mMOI rc) (ihH : mHI rc) {F0 : PF} {G0 : PG} (hD : DC F0 G0) (x1 : Int32) (x2 : Int32) (x3 : Int32) (x4 : Int32) (x5 : Int32) (F : PF) (G : PG) (hA : (x3 = 1 ∧ x4 = 1 ∧ x5 = 1 ∧ KX [42, 43, 44, 45, 47, 48, 49, 55, 60, 62, 70] [56, 57, 58, 59, 67, 68, 69] F0 G0 F G ∧ MO F0 F ∧ HN F ∧ mnR F0 x2 ∧ ¬ F 47 = 0) ∨ (x3 = 1 ∧ x4 = 1 ∧ x5 = 0 ∧ KX [42, 43, 44, 45, 47, 48, 49, 55, 60, 62, 70] [56, 57, 58, 59, 67, 68, 69] F0 G0 F G ∧ MO F0 F ∧ HN F ∧ mnR F0 x2 ∧ ¬ F 47 = 0) ∨ (x3 = 1 ∧ x4 = 0 ∧ x5 = 1 ∧ KX [42, 43, 44, 45, 47, 48, 49, 55, 60, 62, 70] [56, 57, 58, 59, 67, 68, 69] F0 G0 F G ∧ MO F0 F ∧ HN F ∧ mnR F0 x2 ∧ ¬ F 47 = 0) ∨ (x3 = 1 ∧ x4 = 0 ∧ x5 = 0 ∧ KX [42, 43, 44, 45, 47, 48, 49, 55, 60, 62, 70] [56, 57, 58, 59, 67, 68, 69] F0 G0 F G ∧ MO F0 F ∧ HN F ∧ mnR F0 x2 ∧ ¬ F 47 = 0) ∨ (x3 = 0 ∧ x4 = 1 ∧ x5 = 1 ∧ KX [42, 43, 44, 45, 47, 48, 49, 55, 60, 62, 70] [56, 57, 58, 59, 67, 68, 69] F0 G0 F G ∧ MO F0 F ∧ HN F ∧ mnR F0 x2 ∧ ¬ x2 = (-1 : Int32) ∧ G 17 x2.toNatClampNeg = (0 : Int32)) ∨ (x3 = 0 ∧ x4 = 1 ∧ x5 = 0 ∧ KX [42, 43, 44, 45, 47, 48, 49, 55, 60, 62, 70] [56, 57, 58, 59, 67, 68, 69] F0 G0 F G ∧ MO F0 F ∧ HN F ∧ mnR F0 x2) ∨ (x3 = 0 ∧ x4 = 0 ∧ x5 = 1 ∧ KX [42, 43, 44, 45, 47, 48, 49, 55, 60, 62, 70] [56, 57, 58, 59, 67, 68, 69] F0 G0 F G ∧ MO F0 F ∧ HN F ∧ mnR F0 x2 ∧ ¬ x2 = (-1 : Int32) ∧ G 17 x2.toNatClampNeg = (0 : Int32)) ∨ (x3 = 0 ∧ x4 = 0 ∧ x5 = 0 ∧ KX [42, 43, 44, 45, 47, 48, 49, 55, 60, 62, 70] [56, 57, 58, 59, 67, 68, 69] F0 G0 F G ∧ MO F0 F ∧ HN F ∧ mnR F0 x2)) : PP (mb_inConstant_104 fu rc x1 x2 x3 x4 x5 F G) (fun _ F' _ => HN F') := by
  rcases hA with ⟨rfl, rfl, rfl, hK, hM, hH, p0_, p1_⟩ | ⟨rfl, rfl, rfl, hK, hM, hH, p0_, p1_⟩ | ⟨rfl, rfl, rfl, hK, hM, hH, p0_, p1_⟩ | ⟨rfl, rfl, rfl, hK, hM, hH, p0_, p1_⟩ | ⟨rfl, rfl, rfl, hK, hM, hH, p0_, p1_, p2_⟩ | ⟨rfl, rfl, rfl, hK, hM, hH, p0_⟩ | ⟨rfl, rfl, rfl, hK, hM, hH, p0_, p1_, p2_⟩ | ⟨rfl, rfl, rfl, hK, hM, hH, p0_⟩
  · skip
    unfold mb_inConstant_104
    refine PP.ite (fun c_1 => ?_) (fun c_1 => ?_)
    · skip
      exact absurd (i_le.mp (show (F 46) ≤ 0 from c_1)) (by rw [show (F 46) = F0 46 from (show KX [42, 43, 44, 45, 47, 48, 49, 55, 60, 62, 70] [56, 57, 58, 59, 67, 68, 69] F0 G0 F G from hK).1 46 rfl]; have := hD.1.2.2; have l0 : (0 : Int32).toInt = 0 := rfl; omega)
    · skip
      unfold mb_inConstant_111
      refine PP.ite (fun c_2 => absurd c_2 (by decide)) (fun _ => ?_)
      exact mhj_inConstant_137 rc ihK ihM ihH hD x1 x2 (1 : Int32) (1 : Int32) F G (Or.inr (Or.inr (Or.inr (Or.inr ⟨rfl, rfl, hK, (show MO F0 F from hM), (show HN F from hH), (show ¬ F 47 = 0 from p1_)⟩))))
  · skip
    unfold mb_inConstant_104
    refine PP.ite (fun c_3 => ?_) (fun c_3 => ?_)
    · skip
      exact absurd (i_le.mp (show (F 46) ≤ 0 from c_3)) (by rw [show (F 46) = F0 46 from (show KX [42, 43, 44, 45, 47, 48, 49, 55, 60, 62, 70] [56, 57, 58, 59, 67, 68, 69] F0 G0 F G from hK).1 46 rfl]; have := hD.1.2.2; have l0 : (0 : Int32).toInt = 0 := rfl; omega)
    · skip
      unfold mb_inConstant_111
      refine PP.ite (fun c_4 => absurd c_4 (by decide)) (fun _ => ?_)
      exact mhj_inConstant_137 rc ihK ihM ihH hD x1 x2 (1 : Int32) (0 : Int32) F G (Or.inr (Or.inr (Or.inr (Or.inl ⟨rfl, rfl, hK, (show MO F0 F from hM), (show HN F from hH), (show ¬ F 47 = 0 from p1_)⟩))))
  · skip
    unfold mb_inConstant_104
    refine PP.ite (fun c_5 => ?_) (fun c_5 => ?_)
    · skip
      exact absurd (i_le.mp (show (F 46) ≤ 0 from c_5)) (by rw [show (F 46) = F0 46 from (show KX [42, 43, 44, 45, 47, 48, 49, 55, 60, 62, 70] [56, 57, 58, 59, 67, 68, 69] F0 G0 F G from hK).1 46 rfl]; have := hD.1.2.2; have l0 : (0 : Int32).toInt = 0 := rfl; omega)
    · skip
      unfold mb_inConstant_111
      refine PP.ite (fun c_6 => absurd c_6 (by decide)) (fun _ => ?_)
      exact mhj_inConstant_137 rc ihK ihM ihH hD x1 x2 (0 : Int32) (1 : Int32) F G (Or.inr (Or.inl ⟨rfl, rfl, hK, (show MO F0 F from hM), (show HN F from hH), (show ¬ F 47 = 0 from p1_)⟩))
  · skip
    unfold mb_inConstant_104
    refine PP.ite (fun c_7 => ?_) (fun c_7 => ?_)
    · skip
      exact absurd (i_le.mp (show (F 46) ≤ 0 from c_7)) (by rw [show (F 46) = F0 46 from (show KX [42, 43, 44, 45, 47, 48, 49, 55, 60, 62, 70] [56, 57, 58, 59, 67, 68, 69] F0 G0 F G from hK).1 46 rfl]; have := hD.1.2.2; have l0 : (0 : Int32).toInt = 0 := rfl; omega)
    · skip
      unfold mb_inConstant_111
      refine PP.ite (fun c_8 => absurd c_8 (by decide)) (fun _ => ?_)
      exact mhj_inConstant_137 rc ihK ihM ihH hD x1 x2 (0 : Int32) (0 : Int32) F G (Or.inr (Or.inr (Or.inl ⟨rfl, rfl, hK, (show MO F0 F from hM), (show HN F from hH), (show ¬ F 47 = 0 from p1_)⟩)))
  · skip
    unfold mb_inConstant_104
    refine PP.ite (fun c_9 => ?_) (fun c_9 => ?_)
    · skip
      exact absurd (i_le.mp (show (F 46) ≤ 0 from c_9)) (by rw [show (F 46) = F0 46 from (show KX [42, 43, 44, 45, 47, 48, 49, 55, 60, 62, 70] [56, 57, 58, 59, 67, 68, 69] F0 G0 F G from hK).1 46 rfl]; have := hD.1.2.2; have l0 : (0 : Int32).toInt = 0 := rfl; omega)
    · skip
      unfold mb_inConstant_111
      refine PP.ite (fun _ => ?_) (fun c_10 => absurd (by decide) c_10)
      unfold mb_inConstant_115
      refine PP.ite (fun c_11 => absurd c_11 (by decide)) (fun _ => ?_)
      unfold mb_inConstant_120
      refine PP.ite (fun c_12 => absurd c_12 (by decide)) (fun _ => ?_)
      unfold mb_inConstant_125
      refine PP.ix (fun _ => ?_)
      refine PP.bind (PP.and (mp_note (10 : Int32) (G 6 x1.toNatClampNeg) (by decide) F G) (mm_note (10 : Int32) (G 6 x1.toNatClampNeg) (by decide) F G)) ?_
      rintro r13 F13 G13 ⟨⟨hK13, -, hN13, -⟩, hM13⟩
      dsimp only
      have k_14 : KX [42, 43, 44, 45, 47, 48, 49, 55, 60, 62, 70] [56, 57, 58, 59, 67, 68, 69] F0 G0 F13 G13 := KX.tr (show KX [42, 43, 44, 45, 47, 48, 49, 55, 60, 62, 70] [56, 57, 58, 59, 67, 68, 69] F0 G0 F G from hK) hK13 rfl rfl
      have k_15 : MO F0 F13 := MO.tr (show MO F0 F from hM) hM13
      have k_16 : HN F13 := HN.mo (show HN F from hH) hK13 hM13 rfl
      have k_17 : ¬ F13 47 = 0 := pos_ne (hN13 (show ¬ F 46 = 0 by rw [(show KX [42, 43, 44, 45, 47, 48, 49, 55, 60, 62, 70] [56, 57, 58, 59, 67, 68, 69] F0 G0 F G from hK).1 46 rfl]; exact pos_ne hD.1.2.2))
      exact mhj_inConstant_137 rc ihK ihM ihH hD x1 x2 (1 : Int32) (1 : Int32) F13 G13 (Or.inr (Or.inr (Or.inr (Or.inr ⟨rfl, rfl, k_14, (show MO F0 F13 from k_15), (show HN F13 from k_16), (show ¬ F13 47 = 0 from k_17)⟩))))
  · skip
    unfold mb_inConstant_104
    refine PP.ite (fun c_18 => ?_) (fun c_18 => ?_)
    · skip
      exact absurd (i_le.mp (show (F 46) ≤ 0 from c_18)) (by rw [show (F 46) = F0 46 from (show KX [42, 43, 44, 45, 47, 48, 49, 55, 60, 62, 70] [56, 57, 58, 59, 67, 68, 69] F0 G0 F G from hK).1 46 rfl]; have := hD.1.2.2; have l0 : (0 : Int32).toInt = 0 := rfl; omega)
    · skip
      unfold mb_inConstant_111
      refine PP.ite (fun _ => ?_) (fun c_19 => absurd (by decide) c_19)
      unfold mb_inConstant_115
      refine PP.ite (fun _ => ?_) (fun c_20 => absurd (by decide) c_20)
      unfold mb_inConstant_125
      refine PP.ix (fun _ => ?_)
      refine PP.bind (PP.and (mp_note (10 : Int32) (G 6 x1.toNatClampNeg) (by decide) F G) (mm_note (10 : Int32) (G 6 x1.toNatClampNeg) (by decide) F G)) ?_
      rintro r21 F21 G21 ⟨⟨hK21, -, hN21, -⟩, hM21⟩
      dsimp only
      have k_22 : KX [42, 43, 44, 45, 47, 48, 49, 55, 60, 62, 70] [56, 57, 58, 59, 67, 68, 69] F0 G0 F21 G21 := KX.tr (show KX [42, 43, 44, 45, 47, 48, 49, 55, 60, 62, 70] [56, 57, 58, 59, 67, 68, 69] F0 G0 F G from hK) hK21 rfl rfl
      have k_23 : MO F0 F21 := MO.tr (show MO F0 F from hM) hM21
      have k_24 : HN F21 := HN.mo (show HN F from hH) hK21 hM21 rfl
      have k_25 : ¬ F21 47 = 0 := pos_ne (hN21 (show ¬ F 46 = 0 by rw [(show KX [42, 43, 44, 45, 47, 48, 49, 55, 60, 62, 70] [56, 57, 58, 59, 67, 68, 69] F0 G0 F G from hK).1 46 rfl]; exact pos_ne hD.1.2.2))
      exact mhj_inConstant_137 rc ihK ihM ihH hD x1 x2 (1 : Int32) (0 : Int32) F21 G21 (Or.inr (Or.inr (Or.inr (Or.inl ⟨rfl, rfl, k_22, (show MO F0 F21 from k_23), (show HN F21 from k_24), (show ¬ F21 47 = 0 from k_25)⟩))))
  · skip
    unfold mb_inConstant_104
    refine PP.ite (fun c_26 => ?_) (fun c_26 => ?_)
    · skip
      exact absurd (i_le.mp (show (F 46) ≤ 0 from c_26)) (by rw [show (F 46) = F0 46 from (show KX [42, 43, 44, 45, 47, 48, 49, 55, 60, 62, 70] [56, 57, 58, 59, 67, 68, 69] F0 G0 F G from hK).1 46 rfl]; have := hD.1.2.2; have l0 : (0 : Int32).toInt = 0 := rfl; omega)
    · skip
      unfold mb_inConstant_111
      refine PP.ite (fun _ => ?_) (fun c_27 => absurd (by decide) c_27)
      unfold mb_inConstant_115
      refine PP.ite (fun c_28 => absurd c_28 (by decide)) (fun _ => ?_)
      unfold mb_inConstant_120
      refine PP.ite (fun _ => ?_) (fun c_29 => absurd (by decide) c_29)
      exact mhj_inConstant_137 rc ihK ihM ihH hD x1 x2 (0 : Int32) (1 : Int32) F G (Or.inl ⟨rfl, rfl, hK, (show MO F0 F from hM), (show HN F from hH), (by first | assumption | (have q := p2_; simp only [gup] at q ⊢; exact q)), (by first | assumption | (have q := p2_; simp only [gup] at q ⊢; exact q)), (by first | assumption | (have q := p2_; simp only [gup] at q ⊢; exact q))⟩)
  · skip
    unfold mb_inConstant_104
    refine PP.ite (fun c_30 => ?_) (fun c_30 => ?_)
    · skip
      exact absurd (i_le.mp (show (F 46) ≤ 0 from c_30)) (by rw [show (F 46) = F0 46 from (show KX [42, 43, 44, 45, 47, 48, 49, 55, 60, 62, 70] [56, 57, 58, 59, 67, 68, 69] F0 G0 F G from hK).1 46 rfl]; have := hD.1.2.2; have l0 : (0 : Int32).toInt = 0 := rfl; omega)
    · skip
      unfold mb_inConstant_111
      refine PP.ite (fun _ => ?_) (fun c_31 => absurd (by decide) c_31)
      unfold mb_inConstant_115
      refine PP.ite (fun _ => ?_) (fun c_32 => absurd (by decide) c_32)
      unfold mb_inConstant_125
      refine PP.ix (fun _ => ?_)
      refine PP.bind (PP.and (mp_note (10 : Int32) (G 6 x1.toNatClampNeg) (by decide) F G) (mm_note (10 : Int32) (G 6 x1.toNatClampNeg) (by decide) F G)) ?_
      rintro r33 F33 G33 ⟨⟨hK33, -, hN33, -⟩, hM33⟩
      dsimp only
      have k_34 : KX [42, 43, 44, 45, 47, 48, 49, 55, 60, 62, 70] [56, 57, 58, 59, 67, 68, 69] F0 G0 F33 G33 := KX.tr (show KX [42, 43, 44, 45, 47, 48, 49, 55, 60, 62, 70] [56, 57, 58, 59, 67, 68, 69] F0 G0 F G from hK) hK33 rfl rfl
      have k_35 : MO F0 F33 := MO.tr (show MO F0 F from hM) hM33
      have k_36 : HN F33 := HN.mo (show HN F from hH) hK33 hM33 rfl
      have k_37 : ¬ F33 47 = 0 := pos_ne (hN33 (show ¬ F 46 = 0 by rw [(show KX [42, 43, 44, 45, 47, 48, 49, 55, 60, 62, 70] [56, 57, 58, 59, 67, 68, 69] F0 G0 F G from hK).1 46 rfl]; exact pos_ne hD.1.2.2))
      exact mhj_inConstant_137 rc ihK ihM ihH hD x1 x2 (0 : Int32) (0 : Int32) F33 G33 (Or.inr (Or.inr (Or.inl ⟨rfl, rfl, k_34, (show MO F0 F33 from k_35), (show HN F33 from k_36), (show ¬ F33 47 = 0 from k_37)⟩)))
theorem mhj_inConstant_80 {fu : Nat} (rc : RC) (ihK : mKI1 rc) (ihM : mMOI rc) (ihH : mHI rc) {F0 : PF} {G0 : PG} (hD : DC F0 G0) (x1 : Int32) (x2 : Int32) (x3 : Int32) (x4 : Int32) (z0 : Int32) (F : PF) (G : PG) (hA : (x3 = 1 ∧ x4 = 1 ∧ z0 = 1 ∧ KX [42, 43, 44, 45, 47, 48, 49, 55, 60, 62, 70] [56, 57, 58, 59, 67, 68, 69] F0 G0 F G ∧ MO F0 F ∧ HN F ∧ mnR F0 x2 ∧ ¬ x2 = (-1 : Int32) ∧ G 17 x2.toNatClampNeg = (0 : Int32)) ∨ (x3 = 1 ∧ x4 = 1 ∧ z0 = 0 ∧ KX [42, 43, 44, 45, 47, 48, 49, 55, 60, 62, 70] [56, 57, 58, 59, 67, 68, 69] F0 G0 F G ∧ MO F0 F ∧ HN F ∧ mnR F0 x2) ∨ (x3 = 1 ∧ x4 = 0 ∧ z0 = 1 ∧ KX [42, 43, 44, 45, 47, 48, 49, 55, 60, 62, 70] [56, 57, 58, 59, 67, 68, 69] F0 G0 F G ∧ MO F0 F ∧ HN F ∧ mnR F0 x2 ∧ ¬ x2 = (-1 : Int32) ∧ G 17 x2.toNatClampNeg = (0 : Int32)) ∨ (x3 = 1 ∧ x4 = 0 ∧ z0 = 0 ∧ KX [42, 43, 44, 45, 47, 48, 49, 55, 60, 62, 70] [56, 57, 58, 59, 67, 68, 69] F0 G0 F G ∧ MO F0 F ∧ HN F ∧ mnR F0 x2) ∨ (x3 = 0 ∧ x4 = 1 ∧ z0 = 1 ∧ KX [42, 43, 44, 45, 47, 48, 49, 55, 60, 62, 70] [56, 57, 58, 59, 67, 68, 69] F0 G0 F G ∧ MO F0 F ∧ HN F ∧ mnR F0 x2 ∧ ¬ x2 = (-1 : Int32) ∧ G 17 x2.toNatClampNeg = (0 : Int32)) ∨ (x3 = 0 ∧ x4 = 1 ∧ z0 = 0 ∧ KX [42, 43, 44, 45, 47, 48, 49, 55, 60, 62, 70] [56, 57, 58, 59, 67, 68, 69] F0 G0 F G ∧ MO F0 F ∧ HN F ∧ mnR F0 x2) ∨ (x3 = 0 ∧ x4 = 0 ∧ z0 = 1 ∧ KX [42, 43, 44, 45, 47, 48, 49, 55, 60, 62, 70] [56, 57, 58, 59, 67, 68, 69] F0 G0 F G ∧ MO F0 F ∧ HN F ∧ mnR F0 x2 ∧ ¬ x2 = (-1 : Int32) ∧ G 17 x2.toNatClampNeg = (0 : Int32)) ∨ (x3 = 0 ∧ x4 = 0 ∧ z0 = 0 ∧ KX [42, 43, 44, 45, 47, 48, 49, 55, 60, 62, 70] [56, 57, 58, 59, 67, 68, 69] F0 G0 F G ∧ MO F0 F ∧ HN F ∧ mnR F0 x2)) : PP (mb_inConstant_80 fu rc x1 x2 x3 x4 z0 F G) (fun _ F' _ => HN F') := by
  rcases hA with ⟨rfl, rfl, rfl, hK, hM, hH, p0_, p1_, p2_⟩ | ⟨rfl, rfl, rfl, hK, hM, hH, p0_⟩ | ⟨rfl, rfl, rfl, hK, hM, hH, p0_, p1_, p2_⟩ | ⟨rfl, rfl, rfl, hK, hM, hH, p0_⟩ | ⟨rfl, rfl, rfl, hK, hM, hH, p0_, p1_, p2_⟩ | ⟨rfl, rfl, rfl, hK, hM, hH, p0_⟩ | ⟨rfl, rfl, rfl, hK, hM, hH, p0_, p1_, p2_⟩ | ⟨rfl, rfl, rfl, hK, hM, hH, p0_⟩
  · skip
    unfold mb_inConstant_80
    refine PP.ite (fun c_1 => ?_) (fun c_1 => ?_)
    · skip
      exact absurd (i_le.mp (show (F 46) ≤ 0 from c_1)) (by rw [show (F 46) = F0 46 from (show KX [42, 43, 44, 45, 47, 48, 49, 55, 60, 62, 70] [56, 57, 58, 59, 67, 68, 69] F0 G0 F G from hK).1 46 rfl]; have := hD.1.2.2; have l0 : (0 : Int32).toInt = 0 := rfl; omega)
    · skip
      unfold mb_inConstant_89
      refine PP.ite (fun c_2 => absurd c_2 (by decide)) (fun _ => ?_)
      unfold mb_inConstant_93
      refine PP.ix (fun _ => ?_)
      refine PP.bind (PP.and (mp_note (4 : Int32) (G 6 x1.toNatClampNeg) (by decide) F G) (mm_note (4 : Int32) (G 6 x1.toNatClampNeg) (by decide) F G)) ?_
      rintro r3 F3 G3 ⟨⟨hK3, -, hN3, -⟩, hM3⟩
      dsimp only
      have k_4 : KX [42, 43, 44, 45, 47, 48, 49, 55, 60, 62, 70] [56, 57, 58, 59, 67, 68, 69] F0 G0 F3 G3 := KX.tr (show KX [42, 43, 44, 45, 47, 48, 49, 55, 60, 62, 70] [56, 57, 58, 59, 67, 68, 69] F0 G0 F G from hK) hK3 rfl rfl
      have k_5 : MO F0 F3 := MO.tr (show MO F0 F from hM) hM3
      have k_6 : HN F3 := HN.mo (show HN F from hH) hK3 hM3 rfl
      have k_7 : ¬ F3 47 = 0 := pos_ne (hN3 (show ¬ F 46 = 0 by rw [(show KX [42, 43, 44, 45, 47, 48, 49, 55, 60, 62, 70] [56, 57, 58, 59, 67, 68, 69] F0 G0 F G from hK).1 46 rfl]; exact pos_ne hD.1.2.2))
      exact mhj_inConstant_104 rc ihK ihM ihH hD x1 x2 (1 : Int32) (1 : Int32) (1 : Int32) F3 G3 (Or.inl ⟨rfl, rfl, rfl, k_4, (show MO F0 F3 from k_5), (show HN F3 from k_6), (by first | assumption | (have q := p2_; simp only [gup] at q ⊢; exact q)), (show ¬ F3 47 = 0 from k_7)⟩)
  · skip
    unfold mb_inConstant_80
    refine PP.ite (fun c_8 => ?_) (fun c_8 => ?_)
    · skip
      exact absurd (i_le.mp (show (F 46) ≤ 0 from c_8)) (by rw [show (F 46) = F0 46 from (show KX [42, 43, 44, 45, 47, 48, 49, 55, 60, 62, 70] [56, 57, 58, 59, 67, 68, 69] F0 G0 F G from hK).1 46 rfl]; have := hD.1.2.2; have l0 : (0 : Int32).toInt = 0 := rfl; omega)
    · skip
      unfold mb_inConstant_89
      refine PP.ite (fun c_9 => absurd c_9 (by decide)) (fun _ => ?_)
      unfold mb_inConstant_93
      refine PP.ix (fun _ => ?_)
      refine PP.bind (PP.and (mp_note (4 : Int32) (G 6 x1.toNatClampNeg) (by decide) F G) (mm_note (4 : Int32) (G 6 x1.toNatClampNeg) (by decide) F G)) ?_
      rintro r10 F10 G10 ⟨⟨hK10, -, hN10, -⟩, hM10⟩
      dsimp only
      have k_11 : KX [42, 43, 44, 45, 47, 48, 49, 55, 60, 62, 70] [56, 57, 58, 59, 67, 68, 69] F0 G0 F10 G10 := KX.tr (show KX [42, 43, 44, 45, 47, 48, 49, 55, 60, 62, 70] [56, 57, 58, 59, 67, 68, 69] F0 G0 F G from hK) hK10 rfl rfl
      have k_12 : MO F0 F10 := MO.tr (show MO F0 F from hM) hM10
      have k_13 : HN F10 := HN.mo (show HN F from hH) hK10 hM10 rfl
      have k_14 : ¬ F10 47 = 0 := pos_ne (hN10 (show ¬ F 46 = 0 by rw [(show KX [42, 43, 44, 45, 47, 48, 49, 55, 60, 62, 70] [56, 57, 58, 59, 67, 68, 69] F0 G0 F G from hK).1 46 rfl]; exact pos_ne hD.1.2.2))
      exact mhj_inConstant_104 rc ihK ihM ihH hD x1 x2 (1 : Int32) (1 : Int32) (0 : Int32) F10 G10 (Or.inr (Or.inl ⟨rfl, rfl, rfl, k_11, (show MO F0 F10 from k_12), (show HN F10 from k_13), (by first | assumption | (have q := p2_; simp only [gup] at q ⊢; exact q)), (show ¬ F10 47 = 0 from k_14)⟩))
  · skip
    unfold mb_inConstant_80
    refine PP.ite (fun c_15 => ?_) (fun c_15 => ?_)
    · skip
      exact absurd (i_le.mp (show (F 46) ≤ 0 from c_15)) (by rw [show (F 46) = F0 46 from (show KX [42, 43, 44, 45, 47, 48, 49, 55, 60, 62, 70] [56, 57, 58, 59, 67, 68, 69] F0 G0 F G from hK).1 46 rfl]; have := hD.1.2.2; have l0 : (0 : Int32).toInt = 0 := rfl; omega)
    · skip
      unfold mb_inConstant_89
      refine PP.ite (fun c_16 => absurd c_16 (by decide)) (fun _ => ?_)
      unfold mb_inConstant_93
      refine PP.ix (fun _ => ?_)
      refine PP.bind (PP.and (mp_note (4 : Int32) (G 6 x1.toNatClampNeg) (by decide) F G) (mm_note (4 : Int32) (G 6 x1.toNatClampNeg) (by decide) F G)) ?_
      rintro r17 F17 G17 ⟨⟨hK17, -, hN17, -⟩, hM17⟩
      dsimp only
      have k_18 : KX [42, 43, 44, 45, 47, 48, 49, 55, 60, 62, 70] [56, 57, 58, 59, 67, 68, 69] F0 G0 F17 G17 := KX.tr (show KX [42, 43, 44, 45, 47, 48, 49, 55, 60, 62, 70] [56, 57, 58, 59, 67, 68, 69] F0 G0 F G from hK) hK17 rfl rfl
      have k_19 : MO F0 F17 := MO.tr (show MO F0 F from hM) hM17
      have k_20 : HN F17 := HN.mo (show HN F from hH) hK17 hM17 rfl
      have k_21 : ¬ F17 47 = 0 := pos_ne (hN17 (show ¬ F 46 = 0 by rw [(show KX [42, 43, 44, 45, 47, 48, 49, 55, 60, 62, 70] [56, 57, 58, 59, 67, 68, 69] F0 G0 F G from hK).1 46 rfl]; exact pos_ne hD.1.2.2))
      exact mhj_inConstant_104 rc ihK ihM ihH hD x1 x2 (1 : Int32) (0 : Int32) (1 : Int32) F17 G17 (Or.inr (Or.inr (Or.inl ⟨rfl, rfl, rfl, k_18, (show MO F0 F17 from k_19), (show HN F17 from k_20), (by first | assumption | (have q := p2_; simp only [gup] at q ⊢; exact q)), (show ¬ F17 47 = 0 from k_21)⟩)))
  · skip
    unfold mb_inConstant_80
    refine PP.ite (fun c_22 => ?_) (fun c_22 => ?_)
    · skip
      exact absurd (i_le.mp (show (F 46) ≤ 0 from c_22)) (by rw [show (F 46) = F0 46 from (show KX [42, 43, 44, 45, 47, 48, 49, 55, 60, 62, 70] [56, 57, 58, 59, 67, 68, 69] F0 G0 F G from hK).1 46 rfl]; have := hD.1.2.2; have l0 : (0 : Int32).toInt = 0 := rfl; omega)
    · skip
      unfold mb_inConstant_89
      refine PP.ite (fun c_23 => absurd c_23 (by decide)) (fun _ => ?_)
      unfold mb_inConstant_93
      refine PP.ix (fun _ => ?_)
      refine PP.bind (PP.and (mp_note (4 : Int32) (G 6 x1.toNatClampNeg) (by decide) F G) (mm_note (4 : Int32) (G 6 x1.toNatClampNeg) (by decide) F G)) ?_
      rintro r24 F24 G24 ⟨⟨hK24, -, hN24, -⟩, hM24⟩
      dsimp only
      have k_25 : KX [42, 43, 44, 45, 47, 48, 49, 55, 60, 62, 70] [56, 57, 58, 59, 67, 68, 69] F0 G0 F24 G24 := KX.tr (show KX [42, 43, 44, 45, 47, 48, 49, 55, 60, 62, 70] [56, 57, 58, 59, 67, 68, 69] F0 G0 F G from hK) hK24 rfl rfl
      have k_26 : MO F0 F24 := MO.tr (show MO F0 F from hM) hM24
      have k_27 : HN F24 := HN.mo (show HN F from hH) hK24 hM24 rfl
      have k_28 : ¬ F24 47 = 0 := pos_ne (hN24 (show ¬ F 46 = 0 by rw [(show KX [42, 43, 44, 45, 47, 48, 49, 55, 60, 62, 70] [56, 57, 58, 59, 67, 68, 69] F0 G0 F G from hK).1 46 rfl]; exact pos_ne hD.1.2.2))
      exact mhj_inConstant_104 rc ihK ihM ihH hD x1 x2 (1 : Int32) (0 : Int32) (0 : Int32) F24 G24 (Or.inr (Or.inr (Or.inr (Or.inl ⟨rfl, rfl, rfl, k_25, (show MO F0 F24 from k_26), (show HN F24 from k_27), (by first | assumption | (have q := p2_; simp only [gup] at q ⊢; exact q)), (show ¬ F24 47 = 0 from k_28)⟩))))
  · skip
    unfold mb_inConstant_80
    refine PP.ite (fun c_29 => ?_) (fun c_29 => ?_)
    · skip
      exact absurd (i_le.mp (show (F 46) ≤ 0 from c_29)) (by rw [show (F 46) = F0 46 from (show KX [42, 43, 44, 45, 47, 48, 49, 55, 60, 62, 70] [56, 57, 58, 59, 67, 68, 69] F0 G0 F G from hK).1 46 rfl]; have := hD.1.2.2; have l0 : (0 : Int32).toInt = 0 := rfl; omega)
    · skip
      unfold mb_inConstant_89
      refine PP.ite (fun _ => ?_) (fun c_30 => absurd (by decide) c_30)
      exact mhj_inConstant_104 rc ihK ihM ihH hD x1 x2 (0 : Int32) (1 : Int32) (1 : Int32) F G (Or.inr (Or.inr (Or.inr (Or.inr (Or.inl ⟨rfl, rfl, rfl, hK, (show MO F0 F from hM), (show HN F from hH), (by first | assumption | (have q := p2_; simp only [gup] at q ⊢; exact q)), (by first | assumption | (have q := p2_; simp only [gup] at q ⊢; exact q)), (by first | assumption | (have q := p2_; simp only [gup] at q ⊢; exact q))⟩)))))
  · skip
    unfold mb_inConstant_80
    refine PP.ite (fun c_31 => ?_) (fun c_31 => ?_)
    · skip
      exact absurd (i_le.mp (show (F 46) ≤ 0 from c_31)) (by rw [show (F 46) = F0 46 from (show KX [42, 43, 44, 45, 47, 48, 49, 55, 60, 62, 70] [56, 57, 58, 59, 67, 68, 69] F0 G0 F G from hK).1 46 rfl]; have := hD.1.2.2; have l0 : (0 : Int32).toInt = 0 := rfl; omega)
    · skip
      unfold mb_inConstant_89
      refine PP.ite (fun _ => ?_) (fun c_32 => absurd (by decide) c_32)
      exact mhj_inConstant_104 rc ihK ihM ihH hD x1 x2 (0 : Int32) (1 : Int32) (0 : Int32) F G (Or.inr (Or.inr (Or.inr (Or.inr (Or.inr (Or.inl ⟨rfl, rfl, rfl, hK, (show MO F0 F from hM), (show HN F from hH), (by first | assumption | (have q := p2_; simp only [gup] at q ⊢; exact q))⟩))))))
  · skip
    unfold mb_inConstant_80
    refine PP.ite (fun c_33 => ?_) (fun c_33 => ?_)
    · skip
      exact absurd (i_le.mp (show (F 46) ≤ 0 from c_33)) (by rw [show (F 46) = F0 46 from (show KX [42, 43, 44, 45, 47, 48, 49, 55, 60, 62, 70] [56, 57, 58, 59, 67, 68, 69] F0 G0 F G from hK).1 46 rfl]; have := hD.1.2.2; have l0 : (0 : Int32).toInt = 0 := rfl; omega)
    · skip
      unfold mb_inConstant_89
      refine PP.ite (fun _ => ?_) (fun c_34 => absurd (by decide) c_34)
      exact mhj_inConstant_104 rc ihK ihM ihH hD x1 x2 (0 : Int32) (0 : Int32) (1 : Int32) F G (Or.inr (Or.inr (Or.inr (Or.inr (Or.inr (Or.inr (Or.inl ⟨rfl, rfl, rfl, hK, (show MO F0 F from hM), (show HN F from hH), (by first | assumption | (have q := p2_; simp only [gup] at q ⊢; exact q)), (by first | assumption | (have q := p2_; simp only [gup] at q ⊢; exact q)), (by first | assumption | (have q := p2_; simp only [gup] at q ⊢; exact q))⟩)))))))
  · skip
    unfold mb_inConstant_80
    refine PP.ite (fun c_35 => ?_) (fun c_35 => ?_)
    · skip
      exact absurd (i_le.mp (show (F 46) ≤ 0 from c_35)) (by rw [show (F 46) = F0 46 from (show KX [42, 43, 44, 45, 47, 48, 49, 55, 60, 62, 70] [56, 57, 58, 59, 67, 68, 69] F0 G0 F G from hK).1 46 rfl]; have := hD.1.2.2; have l0 : (0 : Int32).toInt = 0 := rfl; omega)
    · skip
      unfold mb_inConstant_89
      refine PP.ite (fun _ => ?_) (fun c_36 => absurd (by decide) c_36)
      exact mhj_inConstant_104 rc ihK ihM ihH hD x1 x2 (0 : Int32) (0 : Int32) (0 : Int32) F G (Or.inr (Or.inr (Or.inr (Or.inr (Or.inr (Or.inr (Or.inr ⟨rfl, rfl, rfl, hK, (show MO F0 F from hM), (show HN F from hH), (by first | assumption | (have q := p2_; simp only [gup] at q ⊢; exact q))⟩)))))))
theorem mhj_inConstant_59 {fu : Nat} (rc : RC) (ihK : mKI1 rc) (ihM : mMOI rc) (ihH : mHI rc) {F0 : PF} {G0 : PG} (hD : DC F0 G0) (x1 : Int32) (x2 : Int32) (x3 : Int32) (z0 : Int32) (F : PF) (G : PG) (hA : (x3 = 1 ∧ z0 = 1 ∧ KX [42, 43, 44, 45, 47, 48, 49, 55, 60, 62, 70] [56, 57, 58, 59, 67, 68, 69] F0 G0 F G ∧ MO F0 F ∧ HN F ∧ mnR F0 x2) ∨ (x3 = 1 ∧ z0 = 0 ∧ KX [42, 43, 44, 45, 47, 48, 49, 55, 60, 62, 70] [56, 57, 58, 59, 67, 68, 69] F0 G0 F G ∧ MO F0 F ∧ HN F ∧ mnR F0 x2) ∨ (x3 = 0 ∧ z0 = 1 ∧ KX [42, 43, 44, 45, 47, 48, 49, 55, 60, 62, 70] [56, 57, 58, 59, 67, 68, 69] F0 G0 F G ∧ MO F0 F ∧ HN F ∧ mnR F0 x2) ∨ (x3 = 0 ∧ z0 = 0 ∧ KX [42, 43, 44, 45, 47, 48, 49, 55, 60, 62, 70] [56, 57, 58, 59, 67, 68, 69] F0 G0 F G ∧ MO F0 F ∧ HN F ∧ mnR F0 x2)) : PP (mb_inConstant_59 fu rc x1 x2 x3 z0 F G) (fun _ F' _ => HN F') := by
  rcases hA with ⟨rfl, rfl, hK, hM, hH, p0_⟩ | ⟨rfl, rfl, hK, hM, hH, p0_⟩ | ⟨rfl, rfl, hK, hM, hH, p0_⟩ | ⟨rfl, rfl, hK, hM, hH, p0_⟩
  · skip
    unfold mb_inConstant_59
    refine PP.ite (fun c_1 => ?_) (fun c_1 => ?_)
    · skip
      unfold mb_inConstant_79
      exact mhj_inConstant_80 rc ihK ihM ihH hD x1 x2 (1 : Int32) (1 : Int32) (0 : Int32) F G (Or.inr (Or.inl ⟨rfl, rfl, rfl, hK, (show MO F0 F from hM), (show HN F from hH), (by first | assumption | (have q := p2_; simp only [gup] at q ⊢; exact q))⟩))
    · skip
      unfold mb_inConstant_66
      refine PP.ix (fun _ => ?_)
      refine PP.ite (fun c_2 => ?_) (fun c_2 => ?_)
      · skip
        unfold mb_inConstant_75
        exact mhj_inConstant_80 rc ihK ihM ihH hD x1 x2 (1 : Int32) (1 : Int32) (1 : Int32) F G (Or.inl ⟨rfl, rfl, rfl, hK, (show MO F0 F from hM), (show HN F from hH), (by first | assumption | (have q := p2_; simp only [gup] at q ⊢; exact q)), (by first | assumption | (have q := p2_; simp only [gup] at q ⊢; exact q)), (by first | assumption | (have q := p2_; simp only [gup] at q ⊢; exact q))⟩)
      · skip
        unfold mb_inConstant_79
        exact mhj_inConstant_80 rc ihK ihM ihH hD x1 x2 (1 : Int32) (1 : Int32) (0 : Int32) F G (Or.inr (Or.inl ⟨rfl, rfl, rfl, hK, (show MO F0 F from hM), (show HN F from hH), (by first | assumption | (have q := p2_; simp only [gup] at q ⊢; exact q))⟩))
  · skip
    unfold mb_inConstant_59
    refine PP.ite (fun c_3 => ?_) (fun c_3 => ?_)
    · skip
      unfold mb_inConstant_79
      exact mhj_inConstant_80 rc ihK ihM ihH hD x1 x2 (1 : Int32) (0 : Int32) (0 : Int32) F G (Or.inr (Or.inr (Or.inr (Or.inl ⟨rfl, rfl, rfl, hK, (show MO F0 F from hM), (show HN F from hH), (by first | assumption | (have q := p2_; simp only [gup] at q ⊢; exact q))⟩))))
    · skip
      unfold mb_inConstant_66
      refine PP.ix (fun _ => ?_)
      refine PP.ite (fun c_4 => ?_) (fun c_4 => ?_)
      · skip
        unfold mb_inConstant_75
        exact mhj_inConstant_80 rc ihK ihM ihH hD x1 x2 (1 : Int32) (0 : Int32) (1 : Int32) F G (Or.inr (Or.inr (Or.inl ⟨rfl, rfl, rfl, hK, (show MO F0 F from hM), (show HN F from hH), (by first | assumption | (have q := p2_; simp only [gup] at q ⊢; exact q)), (by first | assumption | (have q := p2_; simp only [gup] at q ⊢; exact q)), (by first | assumption | (have q := p2_; simp only [gup] at q ⊢; exact q))⟩)))
      · skip
        unfold mb_inConstant_79
        exact mhj_inConstant_80 rc ihK ihM ihH hD x1 x2 (1 : Int32) (0 : Int32) (0 : Int32) F G (Or.inr (Or.inr (Or.inr (Or.inl ⟨rfl, rfl, rfl, hK, (show MO F0 F from hM), (show HN F from hH), (by first | assumption | (have q := p2_; simp only [gup] at q ⊢; exact q))⟩))))
  · skip
    unfold mb_inConstant_59
    refine PP.ite (fun c_5 => ?_) (fun c_5 => ?_)
    · skip
      unfold mb_inConstant_79
      exact mhj_inConstant_80 rc ihK ihM ihH hD x1 x2 (0 : Int32) (1 : Int32) (0 : Int32) F G (Or.inr (Or.inr (Or.inr (Or.inr (Or.inr (Or.inl ⟨rfl, rfl, rfl, hK, (show MO F0 F from hM), (show HN F from hH), (by first | assumption | (have q := p2_; simp only [gup] at q ⊢; exact q))⟩))))))
    · skip
      unfold mb_inConstant_66
      refine PP.ix (fun _ => ?_)
      refine PP.ite (fun c_6 => ?_) (fun c_6 => ?_)
      · skip
        unfold mb_inConstant_75
        exact mhj_inConstant_80 rc ihK ihM ihH hD x1 x2 (0 : Int32) (1 : Int32) (1 : Int32) F G (Or.inr (Or.inr (Or.inr (Or.inr (Or.inl ⟨rfl, rfl, rfl, hK, (show MO F0 F from hM), (show HN F from hH), (by first | assumption | (have q := p2_; simp only [gup] at q ⊢; exact q)), (by first | assumption | (have q := p2_; simp only [gup] at q ⊢; exact q)), (by first | assumption | (have q := p2_; simp only [gup] at q ⊢; exact q))⟩)))))
      · skip
        unfold mb_inConstant_79
        exact mhj_inConstant_80 rc ihK ihM ihH hD x1 x2 (0 : Int32) (1 : Int32) (0 : Int32) F G (Or.inr (Or.inr (Or.inr (Or.inr (Or.inr (Or.inl ⟨rfl, rfl, rfl, hK, (show MO F0 F from hM), (show HN F from hH), (by first | assumption | (have q := p2_; simp only [gup] at q ⊢; exact q))⟩))))))
  · skip
    unfold mb_inConstant_59
    refine PP.ite (fun c_7 => ?_) (fun c_7 => ?_)
    · skip
      unfold mb_inConstant_79
      exact mhj_inConstant_80 rc ihK ihM ihH hD x1 x2 (0 : Int32) (0 : Int32) (0 : Int32) F G (Or.inr (Or.inr (Or.inr (Or.inr (Or.inr (Or.inr (Or.inr ⟨rfl, rfl, rfl, hK, (show MO F0 F from hM), (show HN F from hH), (by first | assumption | (have q := p2_; simp only [gup] at q ⊢; exact q))⟩)))))))
    · skip
      unfold mb_inConstant_66
      refine PP.ix (fun _ => ?_)
      refine PP.ite (fun c_8 => ?_) (fun c_8 => ?_)
      · skip
        unfold mb_inConstant_75
        exact mhj_inConstant_80 rc ihK ihM ihH hD x1 x2 (0 : Int32) (0 : Int32) (1 : Int32) F G (Or.inr (Or.inr (Or.inr (Or.inr (Or.inr (Or.inr (Or.inl ⟨rfl, rfl, rfl, hK, (show MO F0 F from hM), (show HN F from hH), (by first | assumption | (have q := p2_; simp only [gup] at q ⊢; exact q)), (by first | assumption | (have q := p2_; simp only [gup] at q ⊢; exact q)), (by first | assumption | (have q := p2_; simp only [gup] at q ⊢; exact q))⟩)))))))
      · skip
        unfold mb_inConstant_79
        exact mhj_inConstant_80 rc ihK ihM ihH hD x1 x2 (0 : Int32) (0 : Int32) (0 : Int32) F G (Or.inr (Or.inr (Or.inr (Or.inr (Or.inr (Or.inr (Or.inr ⟨rfl, rfl, rfl, hK, (show MO F0 F from hM), (show HN F from hH), (by first | assumption | (have q := p2_; simp only [gup] at q ⊢; exact q))⟩)))))))
theorem mhj_inConstant_35 {fu : Nat} (rc : RC) (ihK : mKI1 rc) (ihM : mMOI rc) (ihH : mHI rc) {F0 : PF} {G0 : PG} (hD : DC F0 G0) (x1 : Int32) (x2 : Int32) (z0 : Int32) (F : PF) (G : PG) (hA : (z0 = 1 ∧ KX [42, 43, 44, 45, 47, 48, 49, 55, 60, 62, 70] [56, 57, 58, 59, 67, 68, 69] F0 G0 F G ∧ MO F0 F ∧ HN F ∧ mnR F0 x2) ∨ (z0 = 0 ∧ KX [42, 43, 44, 45, 47, 48, 49, 55, 60, 62, 70] [56, 57, 58, 59, 67, 68, 69] F0 G0 F G ∧ MO F0 F ∧ HN F ∧ mnR F0 x2)) : PP (mb_inConstant_35 fu rc x1 x2 z0 F G) (fun _ F' _ => HN F') := by
  rcases hA with ⟨rfl, hK, hM, hH, p0_⟩ | ⟨rfl, hK, hM, hH, p0_⟩
  · skip
    unfold mb_inConstant_35
    refine PP.bind (mp_isSign (24 : Int32) F G) ?_
    rintro _ _ _ ⟨rfl, rfl, (⟨rfl, -⟩ | ⟨rfl, -⟩)⟩
    · dsimp only
      unfold mb_inConstant_42
      refine PP.ite (fun c_2 => absurd c_2 (by decide)) (fun _ => ?_)
      unfold mb_inConstant_54
      exact mhj_inConstant_59 rc ihK ihM ihH hD x1 x2 (1 : Int32) (1 : Int32) F G (Or.inl ⟨rfl, rfl, hK, (show MO F0 F from hM), (show HN F from hH), (by first | assumption | (have q := p2_; simp only [gup] at q ⊢; exact q))⟩)
    · dsimp only
      unfold mb_inConstant_42
      refine PP.ite (fun _ => ?_) (fun c_3 => absurd (by decide) c_3)
      unfold mb_inConstant_45
      refine PP.bind (mp_isSign (22 : Int32) F G) ?_
      rintro _ _ _ ⟨rfl, rfl, (⟨rfl, -⟩ | ⟨rfl, -⟩)⟩
      · dsimp only
        unfold mb_inConstant_51
        refine PP.ite (fun c_5 => absurd c_5 (by decide)) (fun _ => ?_)
        unfold mb_inConstant_54
        exact mhj_inConstant_59 rc ihK ihM ihH hD x1 x2 (1 : Int32) (1 : Int32) F G (Or.inl ⟨rfl, rfl, hK, (show MO F0 F from hM), (show HN F from hH), (by first | assumption | (have q := p2_; simp only [gup] at q ⊢; exact q))⟩)
      · dsimp only
        unfold mb_inConstant_51
        refine PP.ite (fun _ => ?_) (fun c_6 => absurd (by decide) c_6)
        unfold mb_inConstant_58
        exact mhj_inConstant_59 rc ihK ihM ihH hD x1 x2 (1 : Int32) (0 : Int32) F G (Or.inr (Or.inl ⟨rfl, rfl, hK, (show MO F0 F from hM), (show HN F from hH), (by first | assumption | (have q := p2_; simp only [gup] at q ⊢; exact q))⟩))
  · skip
    unfold mb_inConstant_35
    refine PP.bind (mp_isSign (24 : Int32) F G) ?_
    rintro _ _ _ ⟨rfl, rfl, (⟨rfl, -⟩ | ⟨rfl, -⟩)⟩
    · dsimp only
      unfold mb_inConstant_42
      refine PP.ite (fun c_8 => absurd c_8 (by decide)) (fun _ => ?_)
      unfold mb_inConstant_54
      exact mhj_inConstant_59 rc ihK ihM ihH hD x1 x2 (0 : Int32) (1 : Int32) F G (Or.inr (Or.inr (Or.inl ⟨rfl, rfl, hK, (show MO F0 F from hM), (show HN F from hH), (by first | assumption | (have q := p2_; simp only [gup] at q ⊢; exact q))⟩)))
    · dsimp only
      unfold mb_inConstant_42
      refine PP.ite (fun _ => ?_) (fun c_9 => absurd (by decide) c_9)
      unfold mb_inConstant_45
      refine PP.bind (mp_isSign (22 : Int32) F G) ?_
      rintro _ _ _ ⟨rfl, rfl, (⟨rfl, -⟩ | ⟨rfl, -⟩)⟩
      · dsimp only
        unfold mb_inConstant_51
        refine PP.ite (fun c_11 => absurd c_11 (by decide)) (fun _ => ?_)
        unfold mb_inConstant_54
        exact mhj_inConstant_59 rc ihK ihM ihH hD x1 x2 (0 : Int32) (1 : Int32) F G (Or.inr (Or.inr (Or.inl ⟨rfl, rfl, hK, (show MO F0 F from hM), (show HN F from hH), (by first | assumption | (have q := p2_; simp only [gup] at q ⊢; exact q))⟩)))
      · dsimp only
        unfold mb_inConstant_51
        refine PP.ite (fun _ => ?_) (fun c_12 => absurd (by decide) c_12)
        unfold mb_inConstant_58
        exact mhj_inConstant_59 rc ihK ihM ihH hD x1 x2 (0 : Int32) (0 : Int32) F G (Or.inr (Or.inr (Or.inr ⟨rfl, rfl, hK, (show MO F0 F from hM), (show HN F from hH), (by first | assumption | (have q := p2_; simp only [gup] at q ⊢; exact q))⟩)))
theorem mhj_inConstant_16 {fu : Nat} (rc : RC) (ihK : mKI1 rc) (ihM : mMOI rc) (ihH : mHI rc) {F0 : PF} {G0 : PG} (hD : DC F0 G0) (x1 : Int32) (z0 : Int32) (F : PF) (G : PG) (hA : (KX [42, 43, 44, 45, 47, 48, 49, 55, 60, 62, 70] [56, 57, 58, 59, 67, 68, 69] F0 G0 F G ∧ MO F0 F ∧ HN F ∧ mnR F0 z0)) : PP (mb_inConstant_16 fu rc x1 z0 F G) (fun _ F' _ => HN F') := by
  rcases hA with ⟨hK, hM, hH, p0_⟩
  · skip
    unfold mb_inConstant_16
    refine PP.ite (fun c_1 => ?_) (fun c_1 => ?_)
    · skip
      unfold mb_inConstant_22
      refine PP.ite (fun c_2 => ?_) (fun c_2 => ?_)
      · skip
        unfold mb_inConstant_30
        exact mhj_inConstant_35 rc ihK ihM ihH hD x1 z0 (1 : Int32) F G (Or.inl ⟨rfl, hK, (show MO F0 F from hM), (show HN F from hH), (by first | assumption | (have q := p2_; simp only [gup] at q ⊢; exact q))⟩)
      · skip
        unfold mb_inConstant_34
        exact mhj_inConstant_35 rc ihK ihM ihH hD x1 z0 (0 : Int32) F G (Or.inr ⟨rfl, hK, (show MO F0 F from hM), (show HN F from hH), (by first | assumption | (have q := p2_; simp only [gup] at q ⊢; exact q))⟩)
    · skip
      unfold mb_inConstant_34
      exact mhj_inConstant_35 rc ihK ihM ihH hD x1 z0 (0 : Int32) F G (Or.inr ⟨rfl, hK, (show MO F0 F from hM), (show HN F from hH), (by first | assumption | (have q := p2_; simp only [gup] at q ⊢; exact q))⟩)
theorem mht_inConstant {fu : Nat} (rc : RC) (ihK : mKI1 rc) (ihM : mMOI rc) (ihH : mHI rc) (x1 : Int32) (F : PF) (G : PG) (hD : DC F G) (hH : HN F) : PP (mh_inConstant fu rc x1 F G) (fun _ F' _ => HN F') := by
  unfold mh_inConstant
  unfold mb_inConstant_0
  refine PP.ite (fun c_1 => ?_) (fun c_1 => ?_)
  · skip
    exact absurd (show (F 46) = 0 from c_1) (show ¬ F 46 = 0 by rw [(show KX [42, 43, 44, 45, 47, 48, 49, 55, 60, 62, 70] [56, 57, 58, 59, 67, 68, 69] F G F G from (KX.rf : KX [42, 43, 44, 45, 47, 48, 49, 55, 60, 62, 70] [56, 57, 58, 59, 67, 68, 69] F G F G)).1 46 rfl]; exact pos_ne hD.1.2.2)
  · skip
    unfold mb_inConstant_11
    refine PP.bind (mp_meaning x1 F G (show 0 ≤ (F 14).toInt by rw [(show KX [42, 43, 44, 45, 47, 48, 49, 55, 60, 62, 70] [56, 57, 58, 59, 67, 68, 69] F G F G from (KX.rf : KX [42, 43, 44, 45, 47, 48, 49, 55, 60, 62, 70] [56, 57, 58, 59, 67, 68, 69] F G F G)).1 14 rfl]; exact hD.1.1) (show 0 ≤ (F 24).toInt by rw [(show KX [42, 43, 44, 45, 47, 48, 49, 55, 60, 62, 70] [56, 57, 58, 59, 67, 68, 69] F G F G from (KX.rf : KX [42, 43, 44, 45, 47, 48, 49, 55, 60, 62, 70] [56, 57, 58, 59, 67, 68, 69] F G F G)).1 24 rfl]; exact hD.1.2.1)) ?_
    rintro r2 F2 G2 ⟨-, hK2, u2, -⟩
    dsimp only
    have mr2 : mnR F r2 := mnR.e u2 ((show KX [42, 43, 44, 45, 47, 48, 49, 55, 60, 62, 70] [56, 57, 58, 59, 67, 68, 69] F G F G from (KX.rf : KX [42, 43, 44, 45, 47, 48, 49, 55, 60, 62, 70] [56, 57, 58, 59, 67, 68, 69] F G F G)).1 14 rfl)
    have k_3 : KX [42, 43, 44, 45, 47, 48, 49, 55, 60, 62, 70] [56, 57, 58, 59, 67, 68, 69] F G F2 G2 := KX.tr (show KX [42, 43, 44, 45, 47, 48, 49, 55, 60, 62, 70] [56, 57, 58, 59, 67, 68, 69] F G F G from (KX.rf : KX [42, 43, 44, 45, 47, 48, 49, 55, 60, 62, 70] [56, 57, 58, 59, 67, 68, 69] F G F G)) hK2 rfl rfl
    have k_4 : MO F F2 := MO.tr (show MO F F from (MO.rf : MO F F)) (MO.kx hK2 rfl rfl)
    have k_5 : HN F2 := HN.kx (show HN F from hH) hK2 rfl rfl
    exact mhj_inConstant_16 rc ihK ihM ihH hD x1 r2 F2 G2 ⟨k_3, (show MO F F2 from k_4), (show HN F2 from k_5), (by first | assumption | (have q := p2_; simp only [gup] at q ⊢; exact q))⟩
theorem mhj_named_212 {fu : Nat} (rc : RC) (ihK : mKI1 rc) (ihM : mMOI rc) (ihH : mHI rc) {F0 : PF} {G0 : PG} (hD : DC F0 G0) (F : PF) (G : PG) (hA : (KX [42, 43, 44, 45, 47, 48, 49, 55, 60, 62, 70] [56, 57, 58, 59, 67, 68, 69] F0 G0 F G ∧ MO F0 F ∧ HN F)) : PP (mb_named_212 fu rc F G) (fun _ F' _ => HN F') := by
  rcases hA with ⟨hK, hM, hH⟩
  · skip
    unfold mb_named_212
    refine PP.ret ?_
    exact (show HN F from hH)
theorem mhj_named_207 {fu : Nat} (rc : RC) (ihK : mKI1 rc) (ihM : mMOI rc) (ihH : mHI rc) {F0 : PF} {G0 : PG} (hD : DC F0 G0) (z0 : Int32) (z1 : Int32) (F : PF) (G : PG) (hA : (KX [42, 43, 44, 45, 47, 48, 49, 55, 60, 62, 70] [56, 57, 58, 59, 67, 68, 69] F0 G0 F G ∧ MO F0 F ∧ HN F)) : PP (mb_named_207 fu rc z0 z1 F G) (fun _ F' _ => HN F') := by
  rcases hA with ⟨hK, hM, hH⟩
  · skip
    unfold mb_named_207
    refine PP.bind (mw_step z1 z0 (0 : Int32) F G) ?_
    intro r1 F1 G1 hK1
    dsimp only
    have k_2 : KX [42, 43, 44, 45, 47, 48, 49, 55, 60, 62, 70] [56, 57, 58, 59, 67, 68, 69] F0 G0 F1 G1 := KX.tr (show KX [42, 43, 44, 45, 47, 48, 49, 55, 60, 62, 70] [56, 57, 58, 59, 67, 68, 69] F0 G0 F G from hK) hK1 rfl rfl
    have k_3 : MO F0 F1 := MO.tr (show MO F0 F from hM) (MO.kx hK1 rfl rfl)
    have k_4 : HN F1 := HN.kx (show HN F from hH) hK1 rfl rfl
    unfold mb_named_211
    exact mhj_named_212 rc ihK ihM ihH hD F1 G1 ⟨k_2, (show MO F0 F1 from k_3), (show HN F1 from k_4)⟩
theorem mhj_named_192 {fu : Nat} (rc : RC) (ihK : mKI1 rc) (ihM : mMOI rc) (ihH : mHI rc) {F0 : PF} {G0 : PG} (hD : DC F0 G0) (x2 : Int32) (z0 : Int32) (F : PF) (G : PG) (hA : (KX [42, 43, 44, 45, 47, 48, 49, 55, 60, 62, 70] [56, 57, 58, 59, 67, 68, 69] F0 G0 F G ∧ MO F0 F ∧ HN F)) : PP (mb_named_192 fu rc x2 z0 F G) (fun _ F' _ => HN F') := by
  rcases hA with ⟨hK, hM, hH⟩
  · skip
    unfold mb_named_192
    refine PP.ite (fun c_1 => ?_) (fun c_1 => ?_)
    · skip
      unfold mb_named_197
      exact mhj_named_207 rc ihK ihM ihH hD (0 : Int32) z0 F G ⟨hK, (show MO F0 F from hM), (show HN F from hH)⟩
    · skip
      unfold mb_named_201
      refine PP.ix (fun _ => ?_)
      exact mhj_named_207 rc ihK ihM ihH hD (G 20 x2.toNatClampNeg) z0 F G ⟨hK, (show MO F0 F from hM), (show HN F from hH)⟩
theorem mhj_named_191 {fu : Nat} (rc : RC) (ihK : mKI1 rc) (ihM : mMOI rc) (ihH : mHI rc) {F0 : PF} {G0 : PG} (hD : DC F0 G0) (x2 : Int32) (F : PF) (G : PG) (hA : (KX [42, 43, 44, 45, 47, 48, 49, 55, 60, 62, 70] [56, 57, 58, 59, 67, 68, 69] F0 G0 F G ∧ MO F0 F ∧ HN F)) : PP (mb_named_191 fu rc x2 F G) (fun _ F' _ => HN F') := by
  rcases hA with ⟨hK, hM, hH⟩
  · skip
    unfold mb_named_191
    exact mhj_named_192 rc ihK ihM ihH hD x2 (3 : Int32) F G ⟨hK, (show MO F0 F from hM), (show HN F from hH)⟩
theorem mhj_named_172 {fu : Nat} (rc : RC) (ihK : mKI1 rc) (ihM : mMOI rc) (ihH : mHI rc) {F0 : PF} {G0 : PG} (hD : DC F0 G0) (x2 : Int32) (F : PF) (G : PG) (hA : (KX [42, 43, 44, 45, 47, 48, 49, 55, 60, 62, 70] [56, 57, 58, 59, 67, 68, 69] F0 G0 F G ∧ MO F0 F ∧ HN F)) : PP (mb_named_172 fu rc x2 F G) (fun _ F' _ => HN F') := by
  rcases hA with ⟨hK, hM, hH⟩
  · skip
    unfold mb_named_172
    refine PP.ite (fun c_1 => ?_) (fun c_1 => ?_)
    · skip
      exact mhj_named_191 rc ihK ihM ihH hD x2 F G ⟨hK, (show MO F0 F from hM), (show HN F from hH)⟩
    · skip
      unfold mb_named_178
      refine PP.ix (fun _ => ?_)
      refine PP.ite (fun c_2 => ?_) (fun c_2 => ?_)
      · skip
        exact mhj_named_191 rc ihK ihM ihH hD x2 F G ⟨hK, (show MO F0 F from hM), (show HN F from hH)⟩
      · skip
        unfold mb_named_187
        exact mhj_named_192 rc ihK ihM ihH hD x2 (1 : Int32) F G ⟨hK, (show MO F0 F from hM), (show HN F from hH)⟩
theorem mhj_named_115 {fu : Nat} (rc : RC) (ihK : mKI1 rc) (ihM : mMOI rc) (ihH : mHI rc) {F0 : PF} {G0 : PG} (hD : DC F0 G0) (x2 : Int32) (x4 : Int32) (F : PF) (G : PG) (hA : (KX [42, 43, 44, 45, 47, 48, 49, 55, 60, 62, 70] [56, 57, 58, 59, 67, 68, 69] F0 G0 F G ∧ MO F0 F ∧ HN F)) : PP (mb_named_115 fu rc x2 x4 F G) (fun _ F' _ => HN F') := by
  rcases hA with ⟨hK, hM, hH⟩
  · skip
    unfold mb_named_115
    refine PP.ite (fun c_1 => ?_) (fun c_1 => ?_)
    · skip
      unfold mb_named_142
      refine PP.ite (fun c_2 => ?_) (fun c_2 => ?_)
      · skip
        exact mhj_named_172 rc ihK ihM ihH hD x2 F G ⟨hK, (show MO F0 F from hM), (show HN F from hH)⟩
      · skip
        unfold mb_named_147
        refine PP.ix (fun _ => ?_)
        refine PP.ite (fun c_3 => ?_) (fun c_3 => ?_)
        · skip
          unfold mb_named_156
          refine PP.ix (fun _ => ?_)
          refine PP.bind (mw_step (0 : Int32) (G 20 x2.toNatClampNeg) (0 : Int32) F G) ?_
          intro r4 F4 G4 hK4
          dsimp only
          have k_5 : KX [42, 43, 44, 45, 47, 48, 49, 55, 60, 62, 70] [56, 57, 58, 59, 67, 68, 69] F0 G0 F4 G4 := KX.tr (show KX [42, 43, 44, 45, 47, 48, 49, 55, 60, 62, 70] [56, 57, 58, 59, 67, 68, 69] F0 G0 F G from hK) hK4 rfl rfl
          have k_6 : MO F0 F4 := MO.tr (show MO F0 F from hM) (MO.kx hK4 rfl rfl)
          have k_7 : HN F4 := HN.kx (show HN F from hH) hK4 rfl rfl
          unfold mb_named_168
          exact mhj_named_212 rc ihK ihM ihH hD F4 G4 ⟨k_5, (show MO F0 F4 from k_6), (show HN F4 from k_7)⟩
        · skip
          exact mhj_named_172 rc ihK ihM ihH hD x2 F G ⟨hK, (show MO F0 F from hM), (show HN F from hH)⟩
    · skip
      unfold mb_named_120
      refine PP.bind (PP.and (ihK 3 x2 0 F G) (PP.and (ihM 3 x2 0 F G) (ihH 3 x2 0 F G (DC.kx hD (show KX [42, 43, 44, 45, 47, 48, 49, 55, 60, 62, 70] [56, 57, 58, 59, 67, 68, 69] F0 G0 F G from hK) (show MO F0 F from hM)) hH))) ?_
      rintro r8 F8 G8 ⟨hK8, hM8, hH8⟩
      dsimp only
      have k_9 : KX [42, 43, 44, 45, 47, 48, 49, 55, 60, 62, 70] [56, 57, 58, 59, 67, 68, 69] F0 G0 F8 G8 := KX.tr (show KX [42, 43, 44, 45, 47, 48, 49, 55, 60, 62, 70] [56, 57, 58, 59, 67, 68, 69] F0 G0 F G from hK) hK8 rfl rfl
      have k_10 : MO F0 F8 := MO.tr (show MO F0 F from hM) hM8
      have k_11 : HN F8 := hH8
      unfold mb_named_125
      refine PP.ite (fun c_12 => ?_) (fun c_12 => ?_)
      · skip
        unfold mb_named_128
        refine PP.ret ?_
        exact (show HN F8 from k_11)
      · skip
        unfold mb_named_130
        refine PP.bind (mw_step (7 : Int32) (0 : Int32) (0 : Int32) F8 G8) ?_
        intro r13 F13 G13 hK13
        dsimp only
        have k_14 : KX [42, 43, 44, 45, 47, 48, 49, 55, 60, 62, 70] [56, 57, 58, 59, 67, 68, 69] F0 G0 F13 G13 := KX.tr (show KX [42, 43, 44, 45, 47, 48, 49, 55, 60, 62, 70] [56, 57, 58, 59, 67, 68, 69] F0 G0 F8 G8 from k_9) hK13 rfl rfl
        have k_15 : MO F0 F13 := MO.tr (show MO F0 F8 from k_10) (MO.kx hK13 rfl rfl)
        have k_16 : HN F13 := HN.kx (show HN F8 from k_11) hK13 rfl rfl
        unfold mb_named_138
        exact mhj_named_212 rc ihK ihM ihH hD F13 G13 ⟨k_14, (show MO F0 F13 from k_15), (show HN F13 from k_16)⟩
theorem mhj_named_103 {fu : Nat} (rc : RC) (ihK : mKI1 rc) (ihM : mMOI rc) (ihH : mHI rc) {F0 : PF} {G0 : PG} (hD : DC F0 G0) (x1 : Int32) (x2 : Int32) (x4 : Int32) (F : PF) (G : PG) (hA : (KX [42, 43, 44, 45, 47, 48, 49, 55, 60, 62, 70] [56, 57, 58, 59, 67, 68, 69] F0 G0 F G ∧ MO F0 F ∧ HN F)) : PP (mb_named_103 fu rc x1 x2 x4 F G) (fun _ F' _ => HN F') := by
  rcases hA with ⟨hK, hM, hH⟩
  · skip
    unfold mb_named_103
    refine PP.ix (fun _ => ?_)
    refine PP.bind (PP.and (mp_note (6 : Int32) (G 6 x1.toNatClampNeg) (by decide) F G) (mm_note (6 : Int32) (G 6 x1.toNatClampNeg) (by decide) F G)) ?_
    rintro r1 F1 G1 ⟨⟨hK1, -, hN1, -⟩, hM1⟩
    dsimp only
    have k_2 : KX [42, 43, 44, 45, 47, 48, 49, 55, 60, 62, 70] [56, 57, 58, 59, 67, 68, 69] F0 G0 F1 G1 := KX.tr (show KX [42, 43, 44, 45, 47, 48, 49, 55, 60, 62, 70] [56, 57, 58, 59, 67, 68, 69] F0 G0 F G from hK) hK1 rfl rfl
    have k_3 : MO F0 F1 := MO.tr (show MO F0 F from hM) hM1
    have k_4 : HN F1 := HN.mo (show HN F from hH) hK1 hM1 rfl
    have k_5 : ¬ F1 47 = 0 := pos_ne (hN1 (show ¬ F 46 = 0 by rw [(show KX [42, 43, 44, 45, 47, 48, 49, 55, 60, 62, 70] [56, 57, 58, 59, 67, 68, 69] F0 G0 F G from hK).1 46 rfl]; exact pos_ne hD.1.2.2))
    exact mhj_named_115 rc ihK ihM ihH hD x2 x4 F1 G1 ⟨k_2, (show MO F0 F1 from k_3), (show HN F1 from k_4)⟩
theorem mhj_named_100 {fu : Nat} (rc : RC) (ihK : mKI1 rc) (ihM : mMOI rc) (ihH : mHI rc) {F0 : PF} {G0 : PG} (hD : DC F0 G0) (x1 : Int32) (x2 : Int32) (x4 : Int32) (z0 : Int32) (z1 : Int32) (F : PF) (G : PG) (hA : (KX [42, 43, 44, 45, 47, 48, 49, 55, 60, 62, 70] [56, 57, 58, 59, 67, 68, 69] F0 G0 F G ∧ MO F0 F ∧ HN F)) : PP (mb_named_100 fu rc x1 x2 x4 z0 z1 F G) (fun _ F' _ => HN F') := by
  rcases hA with ⟨hK, hM, hH⟩
  · skip
    unfold mb_named_100
    refine PP.ite (fun c_1 => ?_) (fun c_1 => ?_)
    · skip
      exact mhj_named_115 rc ihK ihM ihH hD x2 x4 F G ⟨hK, (show MO F0 F from hM), (show HN F from hH)⟩
    · skip
      exact mhj_named_103 rc ihK ihM ihH hD x1 x2 x4 F G ⟨hK, (show MO F0 F from hM), (show HN F from hH)⟩
theorem mhj_named_51 {fu : Nat} (rc : RC) (ihK : mKI1 rc) (ihM : mMOI rc) (ihH : mHI rc) {F0 : PF} {G0 : PG} (hD : DC F0 G0) (x1 : Int32) (x2 : Int32) (z0 : Int32) (F : PF) (G : PG) (hA : (KX [42, 43, 44, 45, 47, 48, 49, 55, 60, 62, 70] [56, 57, 58, 59, 67, 68, 69] F0 G0 F G ∧ MO F0 F ∧ HN F)) : PP (mb_named_51 fu rc x1 x2 z0 F G) (fun _ F' _ => HN F') := by
  rcases hA with ⟨hK, hM, hH⟩
  · skip
    unfold mb_named_51
    refine PP.bind (mp_isSign (24 : Int32) F G) ?_
    rintro _ _ _ ⟨rfl, rfl, (⟨rfl, -⟩ | ⟨rfl, -⟩)⟩
    · dsimp only
      unfold mb_named_58
      refine PP.ite (fun c_2 => ?_) (fun c_2 => ?_)
      · skip
        unfold mb_named_78
        refine PP.ite (fun c_3 => ?_) (fun c_3 => ?_)
        · skip
          exact mhj_named_103 rc ihK ihM ihH hD x1 x2 (1 : Int32) F G ⟨hK, (show MO F0 F from hM), (show HN F from hH)⟩
        · skip
          unfold mb_named_83
          refine PP.ix (fun _ => ?_)
          refine PP.ite (fun c_4 => ?_) (fun c_4 => ?_)
          · skip
            unfold mb_named_95
            exact mhj_named_100 rc ihK ihM ihH hD x1 x2 (1 : Int32) (1 : Int32) (1 : Int32) F G ⟨hK, (show MO F0 F from hM), (show HN F from hH)⟩
          · skip
            unfold mb_named_99
            exact mhj_named_100 rc ihK ihM ihH hD x1 x2 (1 : Int32) (0 : Int32) (1 : Int32) F G ⟨hK, (show MO F0 F from hM), (show HN F from hH)⟩
      · skip
        unfold mb_named_64
        refine PP.ix (fun _ => ?_)
        refine PP.bind (PP.and (mp_note (4 : Int32) (G 6 x1.toNatClampNeg) (by decide) F G) (mm_note (4 : Int32) (G 6 x1.toNatClampNeg) (by decide) F G)) ?_
        rintro r5 F5 G5 ⟨⟨hK5, -, hN5, -⟩, hM5⟩
        dsimp only
        have k_6 : KX [42, 43, 44, 45, 47, 48, 49, 55, 60, 62, 70] [56, 57, 58, 59, 67, 68, 69] F0 G0 F5 G5 := KX.tr (show KX [42, 43, 44, 45, 47, 48, 49, 55, 60, 62, 70] [56, 57, 58, 59, 67, 68, 69] F0 G0 F G from hK) hK5 rfl rfl
        have k_7 : MO F0 F5 := MO.tr (show MO F0 F from hM) hM5
        have k_8 : HN F5 := HN.mo (show HN F from hH) hK5 hM5 rfl
        have k_9 : ¬ F5 47 = 0 := pos_ne (hN5 (show ¬ F 46 = 0 by rw [(show KX [42, 43, 44, 45, 47, 48, 49, 55, 60, 62, 70] [56, 57, 58, 59, 67, 68, 69] F0 G0 F G from hK).1 46 rfl]; exact pos_ne hD.1.2.2))
        unfold mb_named_75
        exact mhj_named_115 rc ihK ihM ihH hD x2 (1 : Int32) F5 G5 ⟨k_6, (show MO F0 F5 from k_7), (show HN F5 from k_8)⟩
    · dsimp only
      unfold mb_named_58
      refine PP.ite (fun c_10 => ?_) (fun c_10 => ?_)
      · skip
        unfold mb_named_78
        refine PP.ite (fun c_11 => ?_) (fun c_11 => ?_)
        · skip
          exact mhj_named_103 rc ihK ihM ihH hD x1 x2 (0 : Int32) F G ⟨hK, (show MO F0 F from hM), (show HN F from hH)⟩
        · skip
          unfold mb_named_83
          refine PP.ix (fun _ => ?_)
          refine PP.ite (fun c_12 => ?_) (fun c_12 => ?_)
          · skip
            unfold mb_named_95
            exact mhj_named_100 rc ihK ihM ihH hD x1 x2 (0 : Int32) (1 : Int32) (0 : Int32) F G ⟨hK, (show MO F0 F from hM), (show HN F from hH)⟩
          · skip
            unfold mb_named_99
            exact mhj_named_100 rc ihK ihM ihH hD x1 x2 (0 : Int32) (0 : Int32) (0 : Int32) F G ⟨hK, (show MO F0 F from hM), (show HN F from hH)⟩
      · skip
        unfold mb_named_64
        refine PP.ix (fun _ => ?_)
        refine PP.bind (PP.and (mp_note (4 : Int32) (G 6 x1.toNatClampNeg) (by decide) F G) (mm_note (4 : Int32) (G 6 x1.toNatClampNeg) (by decide) F G)) ?_
        rintro r13 F13 G13 ⟨⟨hK13, -, hN13, -⟩, hM13⟩
        dsimp only
        have k_14 : KX [42, 43, 44, 45, 47, 48, 49, 55, 60, 62, 70] [56, 57, 58, 59, 67, 68, 69] F0 G0 F13 G13 := KX.tr (show KX [42, 43, 44, 45, 47, 48, 49, 55, 60, 62, 70] [56, 57, 58, 59, 67, 68, 69] F0 G0 F G from hK) hK13 rfl rfl
        have k_15 : MO F0 F13 := MO.tr (show MO F0 F from hM) hM13
        have k_16 : HN F13 := HN.mo (show HN F from hH) hK13 hM13 rfl
        have k_17 : ¬ F13 47 = 0 := pos_ne (hN13 (show ¬ F 46 = 0 by rw [(show KX [42, 43, 44, 45, 47, 48, 49, 55, 60, 62, 70] [56, 57, 58, 59, 67, 68, 69] F0 G0 F G from hK).1 46 rfl]; exact pos_ne hD.1.2.2))
        unfold mb_named_75
        exact mhj_named_115 rc ihK ihM ihH hD x2 (0 : Int32) F13 G13 ⟨k_14, (show MO F0 F13 from k_15), (show HN F13 from k_16)⟩
theorem mhj_named_50 {fu : Nat} (rc : RC) (ihK : mKI1 rc) (ihM : mMOI rc) (ihH : mHI rc) {F0 : PF} {G0 : PG} (hD : DC F0 G0) (x1 : Int32) (x2 : Int32) (F : PF) (G : PG) (hA : (KX [42, 43, 44, 45, 47, 48, 49, 55, 60, 62, 70] [56, 57, 58, 59, 67, 68, 69] F0 G0 F G ∧ MO F0 F ∧ HN F)) : PP (mb_named_50 fu rc x1 x2 F G) (fun _ F' _ => HN F') := by
  rcases hA with ⟨hK, hM, hH⟩
  · skip
    unfold mb_named_50
    exact mhj_named_51 rc ihK ihM ihH hD x1 x2 (0 : Int32) F G ⟨hK, (show MO F0 F from hM), (show HN F from hH)⟩
theorem mhj_named_32 {fu : Nat} (rc : RC) (ihK : mKI1 rc) (ihM : mMOI rc) (ihH : mHI rc) {F0 : PF} {G0 : PG} (hD : DC F0 G0) (x1 : Int32) (z0 : Int32) (F : PF) (G : PG) (hA : (KX [42, 43, 44, 45, 47, 48, 49, 55, 60, 62, 70] [56, 57, 58, 59, 67, 68, 69] F0 G0 F G ∧ MO F0 F ∧ HN F)) : PP (mb_named_32 fu rc x1 z0 F G) (fun _ F' _ => HN F') := by
  rcases hA with ⟨hK, hM, hH⟩
  · skip
    unfold mb_named_32
    refine PP.ite (fun c_1 => ?_) (fun c_1 => ?_)
    · skip
      unfold mb_named_38
      refine PP.ite (fun c_2 => ?_) (fun c_2 => ?_)
      · skip
        unfold mb_named_46
        exact mhj_named_51 rc ihK ihM ihH hD x1 z0 (1 : Int32) F G ⟨hK, (show MO F0 F from hM), (show HN F from hH)⟩
      · skip
        exact mhj_named_50 rc ihK ihM ihH hD x1 z0 F G ⟨hK, (show MO F0 F from hM), (show HN F from hH)⟩
    · skip
      exact mhj_named_50 rc ihK ihM ihH hD x1 z0 F G ⟨hK, (show MO F0 F from hM), (show HN F from hH)⟩
theorem mht_named {fu : Nat} (rc : RC) (ihK : mKI1 rc) (ihM : mMOI rc) (ihH : mHI rc) (x1 : Int32) (F : PF) (G : PG) (hD : DC F G) (hH : HN F) : PP (mh_named fu rc x1 F G) (fun _ F' _ => HN F') := by
  unfold mh_named
  unfold mb_named_0
  refine PP.bind (mp_isSign (22 : Int32) F G) ?_
  rintro _ _ _ ⟨rfl, rfl, (⟨rfl, -⟩ | ⟨rfl, -⟩)⟩
  · dsimp only
    unfold mb_named_6
    refine PP.ite (fun c_2 => absurd c_2 (by decide)) (fun _ => ?_)
    unfold mb_named_9
    refine PP.bind (PP.and (ihK 1 x1 (1 : Int32) F G) (PP.and (ihM 1 x1 (1 : Int32) F G) (ihH 1 x1 (1 : Int32) F G (DC.kx hD (show KX [42, 43, 44, 45, 47, 48, 49, 55, 60, 62, 70] [56, 57, 58, 59, 67, 68, 69] F G F G from (KX.rf : KX [42, 43, 44, 45, 47, 48, 49, 55, 60, 62, 70] [56, 57, 58, 59, 67, 68, 69] F G F G)) (show MO F F from (MO.rf : MO F F))) hH))) ?_
    rintro r3 F3 G3 ⟨hK3, hM3, hH3⟩
    dsimp only
    have k_4 : KX [42, 43, 44, 45, 47, 48, 49, 55, 60, 62, 70] [56, 57, 58, 59, 67, 68, 69] F G F3 G3 := KX.tr (show KX [42, 43, 44, 45, 47, 48, 49, 55, 60, 62, 70] [56, 57, 58, 59, 67, 68, 69] F G F G from (KX.rf : KX [42, 43, 44, 45, 47, 48, 49, 55, 60, 62, 70] [56, 57, 58, 59, 67, 68, 69] F G F G)) hK3 rfl rfl
    have k_5 : MO F F3 := MO.tr (show MO F F from (MO.rf : MO F F)) hM3
    have k_6 : HN F3 := hH3
    unfold mb_named_15
    refine PP.bz (fun _ => ?_)
    refine PP.ret ?_
    exact (show HN F3 from k_6)
  · dsimp only
    unfold mb_named_6
    refine PP.ite (fun _ => ?_) (fun c_7 => absurd (by decide) c_7)
    unfold mb_named_16
    refine PP.ite (fun c_8 => ?_) (fun c_8 => ?_)
    · skip
      exact absurd (show (F 46) = 0 from c_8) (show ¬ F 46 = 0 by rw [(show KX [42, 43, 44, 45, 47, 48, 49, 55, 60, 62, 70] [56, 57, 58, 59, 67, 68, 69] F G F G from (KX.rf : KX [42, 43, 44, 45, 47, 48, 49, 55, 60, 62, 70] [56, 57, 58, 59, 67, 68, 69] F G F G)).1 46 rfl]; exact pos_ne hD.1.2.2)
    · skip
      unfold mb_named_27
      refine PP.bind (mp_meaning x1 F G (show 0 ≤ (F 14).toInt by rw [(show KX [42, 43, 44, 45, 47, 48, 49, 55, 60, 62, 70] [56, 57, 58, 59, 67, 68, 69] F G F G from (KX.rf : KX [42, 43, 44, 45, 47, 48, 49, 55, 60, 62, 70] [56, 57, 58, 59, 67, 68, 69] F G F G)).1 14 rfl]; exact hD.1.1) (show 0 ≤ (F 24).toInt by rw [(show KX [42, 43, 44, 45, 47, 48, 49, 55, 60, 62, 70] [56, 57, 58, 59, 67, 68, 69] F G F G from (KX.rf : KX [42, 43, 44, 45, 47, 48, 49, 55, 60, 62, 70] [56, 57, 58, 59, 67, 68, 69] F G F G)).1 24 rfl]; exact hD.1.2.1)) ?_
      rintro r9 F9 G9 ⟨-, hK9, u9, -⟩
      dsimp only
      have mr9 : mnR F r9 := mnR.e u9 ((show KX [42, 43, 44, 45, 47, 48, 49, 55, 60, 62, 70] [56, 57, 58, 59, 67, 68, 69] F G F G from (KX.rf : KX [42, 43, 44, 45, 47, 48, 49, 55, 60, 62, 70] [56, 57, 58, 59, 67, 68, 69] F G F G)).1 14 rfl)
      have k_10 : KX [42, 43, 44, 45, 47, 48, 49, 55, 60, 62, 70] [56, 57, 58, 59, 67, 68, 69] F G F9 G9 := KX.tr (show KX [42, 43, 44, 45, 47, 48, 49, 55, 60, 62, 70] [56, 57, 58, 59, 67, 68, 69] F G F G from (KX.rf : KX [42, 43, 44, 45, 47, 48, 49, 55, 60, 62, 70] [56, 57, 58, 59, 67, 68, 69] F G F G)) hK9 rfl rfl
      have k_11 : MO F F9 := MO.tr (show MO F F from (MO.rf : MO F F)) (MO.kx hK9 rfl rfl)
      have k_12 : HN F9 := HN.kx (show HN F from hH) hK9 rfl rfl
      exact mhj_named_32 rc ihK ihM ihH hD x1 r9 F9 G9 ⟨k_10, (show MO F F9 from k_11), (show HN F9 from k_12)⟩
theorem mhj_operand_32 {fu : Nat} (rc : RC) (ihK : mKI1 rc) (ihM : mMOI rc) (ihH : mHI rc) {F0 : PF} {G0 : PG} (hD : DC F0 G0) (ag_5 : Int32 → PF → PG → PR) (hag_5 : ∀ (x1 : Int32) (F : PF) (G : PG) (hA : (KX [42, 43, 44, 45, 47, 48, 49, 55, 60, 62, 70] [56, 57, 58, 59, 67, 68, 69] F0 G0 F G ∧ MO F0 F ∧ HN F)), PP (ag_5 x1 F G) (fun _ F' _ => HN F')) (x1 : Int32) (F : PF) (G : PG) (hA : (KX [42, 43, 44, 45, 47, 48, 49, 55, 60, 62, 70] [56, 57, 58, 59, 67, 68, 69] F0 G0 F G ∧ MO F0 F ∧ HN F)) : PP (mb_operand_32 fu rc ag_5 x1 F G) (fun _ F' _ => HN F') := by
  rcases hA with ⟨hK, hM, hH⟩
  · skip
    unfold mb_operand_32
    unfold mb_operand_42
    exact hag_5 x1 (fup F 42 ((F 42) + (1 : Int32))) G ⟨(KX.f (k := 42) rfl hK), (show MO F0 (fup F 42 ((F 42) + (1 : Int32))) from (MO.f (k := 42) (by decide) (by decide) hM)), (show HN (fup F 42 ((F 42) + (1 : Int32))) from (show HN (fup F 42 ((F 42) + (1 : Int32))) from hH))⟩
theorem mhz_operand_63 {fu : Nat} (rc : RC) (ihK : mKI1 rc) (ihM : mMOI rc) (ihH : mHI rc) {F0 : PF} {G0 : PG} (hD : DC F0 G0) : ∀ (n : Nat) (x1 : Int32) (x3 : Int32) (F : PF) (G : PG) (hA : (KX [42, 43, 44, 45, 47, 48, 49, 55, 60, 62, 70] [56, 57, 58, 59, 67, 68, 69] F0 G0 F G ∧ MO F0 F ∧ HN F)), PP (ml_operand_63 fu rc n x1 x3 F G) (fun _ F' _ => HN F') := by
  intro n
  induction n with
  | zero =>
    intro x1 x3 F G hA
    exact PP.no
  | succ n ihn =>
    intro x1 x3 F G hA
    show PP (mb_operand_63 fu rc (ml_operand_63 fu rc n) x1 x3 F G) _
    rcases hA with ⟨hK, hM, hH⟩
    · skip
      unfold mb_operand_63
      refine PP.ite (fun c_1 => ?_) (fun c_1 => ?_)
      · skip
        unfold mb_operand_88
        refine PP.ret ?_
        exact (show HN F from hH)
      · skip
        unfold mb_operand_68
        refine PP.ix (fun _ => ?_)
        refine PP.bind (mw_step (11 : Int32) (G 5 x3.toNatClampNeg) (0 : Int32) F G) ?_
        intro r2 F2 G2 hK2
        dsimp only
        have k_3 : KX [42, 43, 44, 45, 47, 48, 49, 55, 60, 62, 70] [56, 57, 58, 59, 67, 68, 69] F0 G0 F2 G2 := KX.tr (show KX [42, 43, 44, 45, 47, 48, 49, 55, 60, 62, 70] [56, 57, 58, 59, 67, 68, 69] F0 G0 F G from hK) hK2 rfl rfl
        have k_4 : MO F0 F2 := MO.tr (show MO F0 F from hM) (MO.kx hK2 rfl rfl)
        have k_5 : HN F2 := HN.kx (show HN F from hH) hK2 rfl rfl
        unfold mb_operand_81
        exact ihn x1 (x3 + (-1 : Int32)) F2 G2 ⟨k_3, (show MO F0 F2 from k_4), (show HN F2 from k_5)⟩
theorem mhz_operand_5 {fu : Nat} (rc : RC) (ihK : mKI1 rc) (ihM : mMOI rc) (ihH : mHI rc) {F0 : PF} {G0 : PG} (hD : DC F0 G0) : ∀ (n : Nat) (x1 : Int32) (F : PF) (G : PG) (hA : (KX [42, 43, 44, 45, 47, 48, 49, 55, 60, 62, 70] [56, 57, 58, 59, 67, 68, 69] F0 G0 F G ∧ MO F0 F ∧ HN F)), PP (ml_operand_5 fu rc n x1 F G) (fun _ F' _ => HN F') := by
  intro n
  induction n with
  | zero =>
    intro x1 F G hA
    exact PP.no
  | succ n ihn =>
    intro x1 F G hA
    show PP (mb_operand_5 fu rc (ml_operand_5 fu rc n) x1 F G) _
    rcases hA with ⟨hK, hM, hH⟩
    · skip
      unfold mb_operand_5
      refine PP.bind (mp_isSign (39 : Int32) F G) ?_
      rintro _ _ _ ⟨rfl, rfl, (⟨rfl, -⟩ | ⟨rfl, -⟩)⟩
      · dsimp only
        unfold mb_operand_11
        refine PP.ite (fun c_2 => absurd c_2 (by decide)) (fun _ => ?_)
        exact mhj_operand_32 rc ihK ihM ihH hD (ml_operand_5 fu rc n) ihn x1 F G ⟨hK, (show MO F0 F from hM), (show HN F from hH)⟩
      · dsimp only
        unfold mb_operand_11
        refine PP.ite (fun _ => ?_) (fun c_3 => absurd (by decide) c_3)
        unfold mb_operand_14
        refine PP.bind (mp_isSign (43 : Int32) F G) ?_
        rintro _ _ _ ⟨rfl, rfl, (⟨rfl, -⟩ | ⟨rfl, -⟩)⟩
        · dsimp only
          unfold mb_operand_20
          refine PP.ite (fun c_5 => absurd c_5 (by decide)) (fun _ => ?_)
          exact mhj_operand_32 rc ihK ihM ihH hD (ml_operand_5 fu rc n) ihn x1 F G ⟨hK, (show MO F0 F from hM), (show HN F from hH)⟩
        · dsimp only
          unfold mb_operand_20
          refine PP.ite (fun _ => ?_) (fun c_6 => absurd (by decide) c_6)
          unfold mb_operand_23
          refine PP.bind (mp_isSign (44 : Int32) F G) ?_
          rintro _ _ _ ⟨rfl, rfl, (⟨rfl, -⟩ | ⟨rfl, -⟩)⟩
          · dsimp only
            unfold mb_operand_29
            refine PP.ite (fun c_8 => absurd c_8 (by decide)) (fun _ => ?_)
            exact mhj_operand_32 rc ihK ihM ihH hD (ml_operand_5 fu rc n) ihn x1 F G ⟨hK, (show MO F0 F from hM), (show HN F from hH)⟩
          · dsimp only
            unfold mb_operand_29
            refine PP.ite (fun _ => ?_) (fun c_9 => absurd (by decide) c_9)
            unfold mb_operand_45
            refine PP.bind (PP.and (ihK 8 0 0 F G) (PP.and (ihM 8 0 0 F G) (ihH 8 0 0 F G (DC.kx hD (show KX [42, 43, 44, 45, 47, 48, 49, 55, 60, 62, 70] [56, 57, 58, 59, 67, 68, 69] F0 G0 F G from hK) (show MO F0 F from hM)) hH))) ?_
            rintro r10 F10 G10 ⟨hK10, hM10, hH10⟩
            dsimp only
            have k_11 : KX [42, 43, 44, 45, 47, 48, 49, 55, 60, 62, 70] [56, 57, 58, 59, 67, 68, 69] F0 G0 F10 G10 := KX.tr (show KX [42, 43, 44, 45, 47, 48, 49, 55, 60, 62, 70] [56, 57, 58, 59, 67, 68, 69] F0 G0 F G from hK) hK10 rfl rfl
            have k_12 : MO F0 F10 := MO.tr (show MO F0 F from hM) hM10
            have k_13 : HN F10 := hH10
            unfold mb_operand_54
            refine PP.ite (fun c_14 => ?_) (fun c_14 => ?_)
            · skip
              unfold mb_operand_57
              refine PP.ret ?_
              exact (show HN F10 from k_13)
            · skip
              unfold mb_operand_59
              exact mhz_operand_63 rc ihK ihM ihH hD fu x1 ((F 42) - (1 : Int32)) F10 G10 ⟨k_11, (show MO F0 F10 from k_12), (show HN F10 from k_13)⟩
theorem mht_operand {fu : Nat} (rc : RC) (ihK : mKI1 rc) (ihM : mMOI rc) (ihH : mHI rc) (F : PF) (G : PG) (hD : DC F G) (hH : HN F) : PP (mh_operand fu rc F G) (fun _ F' _ => HN F') := by
  unfold mh_operand
  unfold mb_operand_0
  exact mhz_operand_5 rc ihK ihM ihH hD fu (F 42) F G ⟨(KX.rf : KX [42, 43, 44, 45, 47, 48, 49, 55, 60, 62, 70] [56, 57, 58, 59, 67, 68, 69] F G F G), (show MO F F from (MO.rf : MO F F)), (show HN F from hH)⟩
theorem mht_plain {fu : Nat} (rc : RC) (ihK : mKI1 rc) (ihM : mMOI rc) (ihH : mHI rc) (F : PF) (G : PG) (hD : DC F G) (hH : HN F) : PP (mh_plain fu rc F G) (fun _ F' _ => HN F') := by
  unfold mh_plain
  unfold mb_plain_0
  refine PP.ix (fun _ => ?_)
  refine PP.ite (fun c_1 => ?_) (fun c_1 => ?_)
  · skip
    unfold mb_plain_13
    refine PP.ix (fun _ => ?_)
    refine PP.bind (mw_step (0 : Int32) (G 5 (F 42).toNatClampNeg) (0 : Int32) F G) ?_
    intro r2 F2 G2 hK2
    dsimp only
    have k_3 : KX [42, 43, 44, 45, 47, 48, 49, 55, 60, 62, 70] [56, 57, 58, 59, 67, 68, 69] F G F2 G2 := KX.tr (show KX [42, 43, 44, 45, 47, 48, 49, 55, 60, 62, 70] [56, 57, 58, 59, 67, 68, 69] F G F G from (KX.rf : KX [42, 43, 44, 45, 47, 48, 49, 55, 60, 62, 70] [56, 57, 58, 59, 67, 68, 69] F G F G)) hK2 rfl rfl
    have k_4 : MO F F2 := MO.tr (show MO F F from (MO.rf : MO F F)) (MO.kx hK2 rfl rfl)
    have k_5 : HN F2 := HN.kx (show HN F from hH) hK2 rfl rfl
    unfold mb_plain_28
    unfold mb_plain_39
    refine PP.ret ?_
    exact (show HN (fup F2 42 ((F2 42) + (1 : Int32))) from (show HN (fup F2 42 ((F2 42) + (1 : Int32))) from k_5))
  · skip
    unfold mb_plain_41
    refine PP.bind (mp_isSign (22 : Int32) F G) ?_
    rintro _ _ _ ⟨rfl, rfl, (⟨rfl, -⟩ | ⟨rfl, -⟩)⟩
    · dsimp only
      unfold mb_plain_47
      refine PP.ite (fun c_7 => absurd c_7 (by decide)) (fun _ => ?_)
      unfold mb_plain_50
      refine PP.bind (mw_opens F G) ?_
      intro r8 F8 G8 hK8
      dsimp only
      have k_9 : KX [42, 43, 44, 45, 47, 48, 49, 55, 60, 62, 70] [56, 57, 58, 59, 67, 68, 69] F G F8 G8 := KX.tr (show KX [42, 43, 44, 45, 47, 48, 49, 55, 60, 62, 70] [56, 57, 58, 59, 67, 68, 69] F G F G from (KX.rf : KX [42, 43, 44, 45, 47, 48, 49, 55, 60, 62, 70] [56, 57, 58, 59, 67, 68, 69] F G F G)) hK8 rfl rfl
      have k_10 : MO F F8 := MO.tr (show MO F F from (MO.rf : MO F F)) (MO.kx hK8 rfl rfl)
      have k_11 : HN F8 := HN.kx (show HN F from hH) hK8 rfl rfl
      unfold mb_plain_54
      refine PP.ite (fun c_12 => ?_) (fun c_12 => ?_)
      · skip
        unfold mb_plain_77
        unfold mb_plain_78
        refine PP.ret ?_
        exact (show HN F8 from k_11)
      · skip
        unfold mb_plain_57
        refine PP.bind (PP.and (ihK 4 0 0 F8 G8) (PP.and (ihM 4 0 0 F8 G8) (ihH 4 0 0 F8 G8 (DC.kx hD (show KX [42, 43, 44, 45, 47, 48, 49, 55, 60, 62, 70] [56, 57, 58, 59, 67, 68, 69] F G F8 G8 from k_9) (show MO F F8 from k_10)) k_11))) ?_
        rintro r13 F13 G13 ⟨hK13, hM13, hH13⟩
        dsimp only
        have k_14 : KX [42, 43, 44, 45, 47, 48, 49, 55, 60, 62, 70] [56, 57, 58, 59, 67, 68, 69] F G F13 G13 := KX.tr (show KX [42, 43, 44, 45, 47, 48, 49, 55, 60, 62, 70] [56, 57, 58, 59, 67, 68, 69] F G F8 G8 from k_9) hK13 rfl rfl
        have k_15 : MO F F13 := MO.tr (show MO F F8 from k_10) hM13
        have k_16 : HN F13 := hH13
        unfold mb_plain_61
        refine PP.ite (fun c_17 => ?_) (fun c_17 => ?_)
        · skip
          unfold mb_plain_77
          unfold mb_plain_78
          refine PP.ret ?_
          exact (show HN F13 from k_16)
        · skip
          unfold mb_plain_64
          refine PP.bind (mw_closeSign (23 : Int32) F13 G13) ?_
          intro r18 F18 G18 hK18
          dsimp only
          have k_19 : KX [42, 43, 44, 45, 47, 48, 49, 55, 60, 62, 70] [56, 57, 58, 59, 67, 68, 69] F G F18 G18 := KX.tr (show KX [42, 43, 44, 45, 47, 48, 49, 55, 60, 62, 70] [56, 57, 58, 59, 67, 68, 69] F G F13 G13 from k_14) hK18 rfl rfl
          have k_20 : MO F F18 := MO.tr (show MO F F13 from k_15) (MO.kx hK18 rfl rfl)
          have k_21 : HN F18 := HN.kx (show HN F13 from k_16) hK18 rfl rfl
          unfold mb_plain_70
          refine PP.ite (fun c_22 => ?_) (fun c_22 => ?_)
          · skip
            unfold mb_plain_77
            unfold mb_plain_78
            refine PP.ret ?_
            exact (show HN F18 from k_21)
          · skip
            unfold mb_plain_73
            unfold mb_plain_78
            refine PP.ret ?_
            exact (show HN F18 from k_21)
    · dsimp only
      unfold mb_plain_47
      refine PP.ite (fun _ => ?_) (fun c_23 => absurd (by decide) c_23)
      unfold mb_plain_79
      refine PP.bind (mp_isWord (13 : Int32) F G) ?_
      rintro _ _ _ ⟨rfl, rfl, (⟨rfl, -⟩ | ⟨rfl, -⟩)⟩
      · dsimp only
        unfold mb_plain_85
        refine PP.ite (fun c_25 => absurd c_25 (by decide)) (fun _ => ?_)
        unfold mb_plain_88
        refine PP.ite (fun c_26 => ?_) (fun c_26 => ?_)
        · skip
          unfold mb_plain_115
          unfold mb_plain_125
          refine PP.bind (mw_openSign (22 : Int32) (fup F 42 ((F 42) + (1 : Int32))) G) ?_
          intro r27 F27 G27 hK27
          dsimp only
          have k_28 : KX [42, 43, 44, 45, 47, 48, 49, 55, 60, 62, 70] [56, 57, 58, 59, 67, 68, 69] F G F27 G27 := KX.tr (show KX [42, 43, 44, 45, 47, 48, 49, 55, 60, 62, 70] [56, 57, 58, 59, 67, 68, 69] F G (fup F 42 ((F 42) + (1 : Int32))) G from (KX.f (k := 42) rfl (KX.rf : KX [42, 43, 44, 45, 47, 48, 49, 55, 60, 62, 70] [56, 57, 58, 59, 67, 68, 69] F G F G))) hK27 rfl rfl
          have k_29 : MO F F27 := MO.tr (show MO F (fup F 42 ((F 42) + (1 : Int32))) from (MO.f (k := 42) (by decide) (by decide) (MO.rf : MO F F))) (MO.kx hK27 rfl rfl)
          have k_30 : HN F27 := HN.kx (show HN (fup F 42 ((F 42) + (1 : Int32))) from (show HN (fup F 42 ((F 42) + (1 : Int32))) from hH)) hK27 rfl rfl
          unfold mb_plain_131
          refine PP.ite (fun c_31 => ?_) (fun c_31 => ?_)
          · skip
            unfold mb_plain_143
            refine PP.ret ?_
            exact (show HN F27 from k_30)
          · skip
            unfold mb_plain_134
            refine PP.bind (mw_closeSign (23 : Int32) F27 G27) ?_
            intro r32 F32 G32 hK32
            dsimp only
            have k_33 : KX [42, 43, 44, 45, 47, 48, 49, 55, 60, 62, 70] [56, 57, 58, 59, 67, 68, 69] F G F32 G32 := KX.tr (show KX [42, 43, 44, 45, 47, 48, 49, 55, 60, 62, 70] [56, 57, 58, 59, 67, 68, 69] F G F27 G27 from k_28) hK32 rfl rfl
            have k_34 : MO F F32 := MO.tr (show MO F F27 from k_29) (MO.kx hK32 rfl rfl)
            have k_35 : HN F32 := HN.kx (show HN F27 from k_30) hK32 rfl rfl
            unfold mb_plain_140
            refine PP.ite (fun c_36 => ?_) (fun c_36 => ?_)
            · skip
              unfold mb_plain_143
              refine PP.ret ?_
              exact (show HN F32 from k_35)
            · skip
              unfold mb_plain_145
              refine PP.bind (mw_step (21 : Int32) (0 : Int32) (0 : Int32) F32 G32) ?_
              intro r37 F37 G37 hK37
              dsimp only
              have k_38 : KX [42, 43, 44, 45, 47, 48, 49, 55, 60, 62, 70] [56, 57, 58, 59, 67, 68, 69] F G F37 G37 := KX.tr (show KX [42, 43, 44, 45, 47, 48, 49, 55, 60, 62, 70] [56, 57, 58, 59, 67, 68, 69] F G F32 G32 from k_33) hK37 rfl rfl
              have k_39 : MO F F37 := MO.tr (show MO F F32 from k_34) (MO.kx hK37 rfl rfl)
              have k_40 : HN F37 := HN.kx (show HN F32 from k_35) hK37 rfl rfl
              unfold mb_plain_153
              refine PP.ret ?_
              exact (show HN F37 from k_40)
        · skip
          unfold mb_plain_95
          refine PP.ix (fun _ => ?_)
          refine PP.bind (PP.and (mp_note (10 : Int32) (G 6 (F 42).toNatClampNeg) (by decide) F G) (mm_note (10 : Int32) (G 6 (F 42).toNatClampNeg) (by decide) F G)) ?_
          rintro r41 F41 G41 ⟨⟨hK41, -, hN41, -⟩, hM41⟩
          dsimp only
          have k_42 : KX [42, 43, 44, 45, 47, 48, 49, 55, 60, 62, 70] [56, 57, 58, 59, 67, 68, 69] F G F41 G41 := KX.tr (show KX [42, 43, 44, 45, 47, 48, 49, 55, 60, 62, 70] [56, 57, 58, 59, 67, 68, 69] F G F G from (KX.rf : KX [42, 43, 44, 45, 47, 48, 49, 55, 60, 62, 70] [56, 57, 58, 59, 67, 68, 69] F G F G)) hK41 rfl rfl
          have k_43 : MO F F41 := MO.tr (show MO F F from (MO.rf : MO F F)) hM41
          have k_44 : HN F41 := HN.mo (show HN F from hH) hK41 hM41 rfl
          have k_45 : ¬ F41 47 = 0 := pos_ne (hN41 (show ¬ F 46 = 0 by rw [(show KX [42, 43, 44, 45, 47, 48, 49, 55, 60, 62, 70] [56, 57, 58, 59, 67, 68, 69] F G F G from (KX.rf : KX [42, 43, 44, 45, 47, 48, 49, 55, 60, 62, 70] [56, 57, 58, 59, 67, 68, 69] F G F G)).1 46 rfl]; exact pos_ne hD.1.2.2))
          unfold mb_plain_110
          unfold mb_plain_115
          unfold mb_plain_125
          refine PP.bind (mw_openSign (22 : Int32) (fup (fup F41 55 (1 : Int32)) 42 ((F41 42) + (1 : Int32))) G41) ?_
          intro r46 F46 G46 hK46
          dsimp only
          have k_47 : KX [42, 43, 44, 45, 47, 48, 49, 55, 60, 62, 70] [56, 57, 58, 59, 67, 68, 69] F G F46 G46 := KX.tr (show KX [42, 43, 44, 45, 47, 48, 49, 55, 60, 62, 70] [56, 57, 58, 59, 67, 68, 69] F G (fup (fup F41 55 (1 : Int32)) 42 ((F41 42) + (1 : Int32))) G41 from (KX.f (k := 42) rfl (KX.f (k := 55) rfl k_42))) hK46 rfl rfl
          have k_48 : MO F F46 := MO.tr (show MO F (fup (fup F41 55 (1 : Int32)) 42 ((F41 42) + (1 : Int32))) from (MO.f (k := 42) (by decide) (by decide) (MO.f55 k_43))) (MO.kx hK46 rfl rfl)
          have k_49 : HN F46 := HN.kx (show HN (fup (fup F41 55 (1 : Int32)) 42 ((F41 42) + (1 : Int32))) from (show HN (fup (fup F41 55 (1 : Int32)) 42 ((F41 42) + (1 : Int32))) from (show HN (fup F41 55 (1 : Int32)) from Or.inr (show ¬ F41 47 = 0 from k_45)))) hK46 rfl rfl
          unfold mb_plain_131
          refine PP.ite (fun c_50 => ?_) (fun c_50 => ?_)
          · skip
            unfold mb_plain_143
            refine PP.ret ?_
            exact (show HN F46 from k_49)
          · skip
            unfold mb_plain_134
            refine PP.bind (mw_closeSign (23 : Int32) F46 G46) ?_
            intro r51 F51 G51 hK51
            dsimp only
            have k_52 : KX [42, 43, 44, 45, 47, 48, 49, 55, 60, 62, 70] [56, 57, 58, 59, 67, 68, 69] F G F51 G51 := KX.tr (show KX [42, 43, 44, 45, 47, 48, 49, 55, 60, 62, 70] [56, 57, 58, 59, 67, 68, 69] F G F46 G46 from k_47) hK51 rfl rfl
            have k_53 : MO F F51 := MO.tr (show MO F F46 from k_48) (MO.kx hK51 rfl rfl)
            have k_54 : HN F51 := HN.kx (show HN F46 from k_49) hK51 rfl rfl
            unfold mb_plain_140
            refine PP.ite (fun c_55 => ?_) (fun c_55 => ?_)
            · skip
              unfold mb_plain_143
              refine PP.ret ?_
              exact (show HN F51 from k_54)
            · skip
              unfold mb_plain_145
              refine PP.bind (mw_step (21 : Int32) (0 : Int32) (0 : Int32) F51 G51) ?_
              intro r56 F56 G56 hK56
              dsimp only
              have k_57 : KX [42, 43, 44, 45, 47, 48, 49, 55, 60, 62, 70] [56, 57, 58, 59, 67, 68, 69] F G F56 G56 := KX.tr (show KX [42, 43, 44, 45, 47, 48, 49, 55, 60, 62, 70] [56, 57, 58, 59, 67, 68, 69] F G F51 G51 from k_52) hK56 rfl rfl
              have k_58 : MO F F56 := MO.tr (show MO F F51 from k_53) (MO.kx hK56 rfl rfl)
              have k_59 : HN F56 := HN.kx (show HN F51 from k_54) hK56 rfl rfl
              unfold mb_plain_153
              refine PP.ret ?_
              exact (show HN F56 from k_59)
      · dsimp only
        unfold mb_plain_85
        refine PP.ite (fun _ => ?_) (fun c_60 => absurd (by decide) c_60)
        unfold mb_plain_156
        refine PP.ix (fun _ => ?_)
        refine PP.ite (fun c_61 => ?_) (fun c_61 => ?_)
        · skip
          unfold mb_plain_175
          unfold mb_plain_190
          refine PP.ite (fun c_62 => ?_) (fun c_62 => ?_)
          · skip
            unfold mb_plain_205
            refine PP.bind (PP.and (ihK 6 (F 42) 0 (fup F 42 ((F 42) + (1 : Int32))) G) (PP.and (ihM 6 (F 42) 0 (fup F 42 ((F 42) + (1 : Int32))) G) (ihH 6 (F 42) 0 (fup F 42 ((F 42) + (1 : Int32))) G (DC.kx hD (show KX [42, 43, 44, 45, 47, 48, 49, 55, 60, 62, 70] [56, 57, 58, 59, 67, 68, 69] F G (fup F 42 ((F 42) + (1 : Int32))) G from (KX.f (k := 42) rfl (KX.rf : KX [42, 43, 44, 45, 47, 48, 49, 55, 60, 62, 70] [56, 57, 58, 59, 67, 68, 69] F G F G))) (show MO F (fup F 42 ((F 42) + (1 : Int32))) from (MO.f (k := 42) (by decide) (by decide) (MO.rf : MO F F)))) (show HN (fup F 42 ((F 42) + (1 : Int32))) from hH)))) ?_
            rintro r63 F63 G63 ⟨hK63, hM63, hH63⟩
            dsimp only
            have k_64 : KX [42, 43, 44, 45, 47, 48, 49, 55, 60, 62, 70] [56, 57, 58, 59, 67, 68, 69] F G F63 G63 := KX.tr (show KX [42, 43, 44, 45, 47, 48, 49, 55, 60, 62, 70] [56, 57, 58, 59, 67, 68, 69] F G (fup F 42 ((F 42) + (1 : Int32))) G from (KX.f (k := 42) rfl (KX.rf : KX [42, 43, 44, 45, 47, 48, 49, 55, 60, 62, 70] [56, 57, 58, 59, 67, 68, 69] F G F G))) hK63 rfl rfl
            have k_65 : MO F F63 := MO.tr (show MO F (fup F 42 ((F 42) + (1 : Int32))) from (MO.f (k := 42) (by decide) (by decide) (MO.rf : MO F F))) hM63
            have k_66 : HN F63 := hH63
            unfold mb_plain_210
            refine PP.bz (fun _ => ?_)
            refine PP.ret ?_
            exact (show HN F63 from k_66)
          · skip
            unfold mb_plain_197
            refine PP.bind (PP.and (ihK 5 (F 42) 0 (fup F 42 ((F 42) + (1 : Int32))) G) (PP.and (ihM 5 (F 42) 0 (fup F 42 ((F 42) + (1 : Int32))) G) (ihH 5 (F 42) 0 (fup F 42 ((F 42) + (1 : Int32))) G (DC.kx hD (show KX [42, 43, 44, 45, 47, 48, 49, 55, 60, 62, 70] [56, 57, 58, 59, 67, 68, 69] F G (fup F 42 ((F 42) + (1 : Int32))) G from (KX.f (k := 42) rfl (KX.rf : KX [42, 43, 44, 45, 47, 48, 49, 55, 60, 62, 70] [56, 57, 58, 59, 67, 68, 69] F G F G))) (show MO F (fup F 42 ((F 42) + (1 : Int32))) from (MO.f (k := 42) (by decide) (by decide) (MO.rf : MO F F)))) (show HN (fup F 42 ((F 42) + (1 : Int32))) from hH)))) ?_
            rintro r67 F67 G67 ⟨hK67, hM67, hH67⟩
            dsimp only
            have k_68 : KX [42, 43, 44, 45, 47, 48, 49, 55, 60, 62, 70] [56, 57, 58, 59, 67, 68, 69] F G F67 G67 := KX.tr (show KX [42, 43, 44, 45, 47, 48, 49, 55, 60, 62, 70] [56, 57, 58, 59, 67, 68, 69] F G (fup F 42 ((F 42) + (1 : Int32))) G from (KX.f (k := 42) rfl (KX.rf : KX [42, 43, 44, 45, 47, 48, 49, 55, 60, 62, 70] [56, 57, 58, 59, 67, 68, 69] F G F G))) hK67 rfl rfl
            have k_69 : MO F F67 := MO.tr (show MO F (fup F 42 ((F 42) + (1 : Int32))) from (MO.f (k := 42) (by decide) (by decide) (MO.rf : MO F F))) hM67
            have k_70 : HN F67 := hH67
            unfold mb_plain_202
            unfold mb_plain_210
            refine PP.bz (fun _ => ?_)
            refine PP.ret ?_
            exact (show HN F67 from k_70)
        · skip
          unfold mb_plain_169
          refine PP.bind (mw_fails (2 : Int32) F G) ?_
          intro r71 F71 G71 hK71
          dsimp only
          have k_72 : KX [42, 43, 44, 45, 47, 48, 49, 55, 60, 62, 70] [56, 57, 58, 59, 67, 68, 69] F G F71 G71 := KX.tr (show KX [42, 43, 44, 45, 47, 48, 49, 55, 60, 62, 70] [56, 57, 58, 59, 67, 68, 69] F G F G from (KX.rf : KX [42, 43, 44, 45, 47, 48, 49, 55, 60, 62, 70] [56, 57, 58, 59, 67, 68, 69] F G F G)) hK71 rfl rfl
          have k_73 : MO F F71 := MO.tr (show MO F F from (MO.rf : MO F F)) (MO.kx hK71 rfl rfl)
          have k_74 : HN F71 := HN.kx (show HN F from hH) hK71 rfl rfl
          unfold mb_plain_174
          refine PP.bz (fun _ => ?_)
          refine PP.ret ?_
          exact (show HN F71 from k_74)
theorem mhS1 {fu : Nat} : ∀ d : Nat, mHI (mS1 fu d) := by
  intro d
  induction d with
  | zero => exact fun _ _ _ _ _ _ _ => PP.no
  | succ d ih =>
    intro i x y F G hD hH
    exact PP.ite (fun _ => mht_argument (mS1 fu d) (mwS1 d) (mmS1 d) ih x y F G hD hH) (fun _ => PP.ite (fun _ => mht_call (mS1 fu d) (mwS1 d) (mmS1 d) ih x y F G hD hH) (fun _ => PP.ite (fun _ => mht_chain (mS1 fu d) (mwS1 d) (mmS1 d) ih F G hD hH) (fun _ => PP.ite (fun _ => mht_element (mS1 fu d) (mwS1 d) (mmS1 d) ih x F G hD hH) (fun _ => PP.ite (fun _ => mht_expression (mS1 fu d) (mwS1 d) (mmS1 d) ih F G hD hH) (fun _ => PP.ite (fun _ => mht_inConstant (mS1 fu d) (mwS1 d) (mmS1 d) ih x F G hD hH) (fun _ => PP.ite (fun _ => mht_named (mS1 fu d) (mwS1 d) (mmS1 d) ih x F G hD hH) (fun _ => PP.ite (fun _ => mht_operand (mS1 fu d) (mwS1 d) (mmS1 d) ih F G hD hH) (fun _ => PP.ite (fun _ => mht_plain (mS1 fu d) (mwS1 d) (mmS1 d) ih F G hD hH) (fun _ => PP.no)))))))))
