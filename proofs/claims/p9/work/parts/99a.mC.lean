def CQ (F : PF) (G : PG) (r : Int32) (F1 : PF) (G1 : PG) : Prop := (r = 0 ∨ r = 1) ∧ 0 ≤ (F1 60).toInt ∧ sN F ≤ sN F1 ∧ CB F G G1 ∧ (r = 1 → F1 70 = F 70 ∧ PKp F G G1)
def mCI (rc : RC) : Prop := ∀ (i : Nat) (x y : Int32) (F : PF) (G : PG), 0 ≤ (F 60).toInt → 0 ≤ (F 70).toInt → PP (rc i x y F G) (fun r F1 G1 => CQ F G r F1 G1)
theorem mcj_argument_12 {fu : Nat} (rc : RC) (ihC : mCI rc) {F0 : PF} {G0 : PG} (t70 : 0 ≤ (F0 70).toInt) (F : PF) (G : PG) (hA : F 70 = F0 70 ∧ 0 ≤ (F 60).toInt ∧ PKp F0 G0 G ∧ sN F0 ≤ sN F ∧ CB F0 G0 G) : PP (mb_argument_12 fu rc F G) (fun r' F' G' => CQ F0 G0 r' F' G') := by
  obtain ⟨hE, h6, hP, hS, hC⟩ := hA
  unfold mb_argument_12
  refine PP.bind (ihC 4 0 0 F G (show 0 ≤ (F 60).toInt from h6) (by rw [(show F 70 = F0 70 from hE)]; exact t70)) ?_
  rintro r1 F1 G1 ⟨(rfl | rfl), u1⟩
  · dsimp only
    obtain ⟨b1, d1, e1, -⟩ := u1
    have k_2 : 0 ≤ (F1 60).toInt := b1
    have k_3 : sN F0 ≤ sN F1 := Nat.le_trans (show sN F0 ≤ sN F from hS) d1
    have k_4 : CB F0 G0 G1 := CB.tr (show CB F0 G0 G from hC) (show sN F0 ≤ sN F from hS) e1
    unfold mb_argument_16
    refine PP.ret ?_
    exact ⟨Or.inl rfl, (show 0 ≤ (F1 60).toInt from k_2), (show sN F0 ≤ sN F1 from k_3), (show CB F0 G0 G1 from k_4), fun h => absurd h (by decide)⟩
  · dsimp only
    obtain ⟨b1, d1, e1, u1⟩ := u1
    obtain ⟨a1, c1⟩ := u1 rfl
    have k_5 : F1 70 = F0 70 := a1.trans (show F 70 = F0 70 from hE)
    have k_6 : 0 ≤ (F1 60).toInt := b1
    have k_7 : sN F0 ≤ sN F1 := Nat.le_trans (show sN F0 ≤ sN F from hS) d1
    have k_8 : CB F0 G0 G1 := CB.tr (show CB F0 G0 G from hC) (show sN F0 ≤ sN F from hS) e1
    have k_9 : PKp F0 G0 G1 := PKp.tr (show PKp F0 G0 G from hP) c1 (show F 70 = F0 70 from hE)
    unfold mb_argument_16
    refine PP.ret ?_
    exact ⟨Or.inr rfl, (show 0 ≤ (F1 60).toInt from k_6), (show sN F0 ≤ sN F1 from k_7), (show CB F0 G0 G1 from k_8), fun _ => ⟨(show F1 70 = F0 70 from k_5), (show PKp F0 G0 G1 from k_9)⟩⟩
theorem mcj_argument_282 {fu : Nat} (rc : RC) (ihC : mCI rc) {F0 : PF} {G0 : PG} (t70 : 0 ≤ (F0 70).toInt) (x6 : Int32) (z0 : Int32) (z1 : Int32) (z2 : Int32) (F : PF) (G : PG) (hA : F 70 = F0 70 ∧ 0 ≤ (F 60).toInt ∧ PKp F0 G0 G ∧ sN F0 ≤ sN F ∧ CB F0 G0 G) : PP (mb_argument_282 fu rc x6 z0 z1 z2 F G) (fun r' F' G' => CQ F0 G0 r' F' G') := by
  obtain ⟨hE, h6, hP, hS, hC⟩ := hA
  unfold mb_argument_282
  refine PP.bind (mq_step z2 z1 z0 F G) ?_
  rintro _ F1 G1 ⟨hK1, rfl, e1, g1, n1⟩
  dsimp only
  have k_2 : F1 70 = F0 70 := (hK1.1 70 rfl).trans (show F 70 = F0 70 from hE)
  have k_3 : 0 ≤ (F1 60).toInt := inc60 n1 e1
  have k_4 : sN F0 ≤ sN F1 := S_st (show sN F0 ≤ sN F from hS) n1 e1
  have k_5 : CB F0 G0 G1 := CB.stp (show CB F0 G0 G from hC) (show sN F0 ≤ sN F from hS) g1
  have k_6 : PKp F0 G0 G1 := PKp.kx (show PKp F0 G0 G from hP) hK1 rfl rfl
  unfold mb_argument_285
  refine PP.ite (fun c_7 => ?_) (fun c_7 => ?_)
  · skip
    unfold mb_argument_313
    unfold mb_argument_314
    refine PP.ix (fun _ => ?_)
    unfold mb_argument_315
    refine PP.ret ?_
    exact ⟨Or.inr rfl, (show 0 ≤ (F1 60).toInt from k_3), (show sN F0 ≤ sN F1 from k_4), (show CB F0 G0 (gup G1 59 (F 60).toNatClampNeg (0 : Int32)) from (CB.g59 (p := sN F) k_5 hS)), fun _ => ⟨(show F1 70 = F0 70 from k_2), (show PKp F0 G0 (gup G1 59 (F 60).toNatClampNeg (0 : Int32)) from k_6)⟩⟩
  · skip
    unfold mb_argument_299
    refine PP.ix (fun _ => ?_)
    refine PP.ite (fun c_8 => ?_) (fun c_8 => ?_)
    · skip
      unfold mb_argument_313
      unfold mb_argument_314
      refine PP.ix (fun _ => ?_)
      unfold mb_argument_315
      refine PP.ret ?_
      exact ⟨Or.inr rfl, (show 0 ≤ (F1 60).toInt from k_3), (show sN F0 ≤ sN F1 from k_4), (show CB F0 G0 (gup G1 59 (F 60).toNatClampNeg (0 : Int32)) from (CB.g59 (p := sN F) k_5 hS)), fun _ => ⟨(show F1 70 = F0 70 from k_2), (show PKp F0 G0 (gup G1 59 (F 60).toNatClampNeg (0 : Int32)) from k_6)⟩⟩
    · skip
      unfold mb_argument_309
      unfold mb_argument_314
      refine PP.ix (fun _ => ?_)
      unfold mb_argument_315
      refine PP.ret ?_
      exact ⟨Or.inr rfl, (show 0 ≤ (F1 60).toInt from k_3), (show sN F0 ≤ sN F1 from k_4), (show CB F0 G0 (gup G1 59 (F 60).toNatClampNeg (1 : Int32)) from (CB.g59 (p := sN F) k_5 hS)), fun _ => ⟨(show F1 70 = F0 70 from k_2), (show PKp F0 G0 (gup G1 59 (F 60).toNatClampNeg (1 : Int32)) from k_6)⟩⟩
theorem mcj_argument_265 {fu : Nat} (rc : RC) (ihC : mCI rc) {F0 : PF} {G0 : PG} (t70 : 0 ≤ (F0 70).toInt) (x6 : Int32) (z0 : Int32) (z1 : Int32) (F : PF) (G : PG) (hA : F 70 = F0 70 ∧ 0 ≤ (F 60).toInt ∧ PKp F0 G0 G ∧ sN F0 ≤ sN F ∧ CB F0 G0 G) : PP (mb_argument_265 fu rc x6 z0 z1 F G) (fun r' F' G' => CQ F0 G0 r' F' G') := by
  obtain ⟨hE, h6, hP, hS, hC⟩ := hA
  unfold mb_argument_265
  refine PP.ite (fun c_1 => ?_) (fun c_1 => ?_)
  · skip
    unfold mb_argument_271
    exact mcj_argument_282 rc ihC t70 x6 (1 : Int32) z0 z1 F G ⟨(show F 70 = F0 70 from hE), (show 0 ≤ (F 60).toInt from h6), (show PKp F0 G0 G from hP), (show sN F0 ≤ sN F from hS), (show CB F0 G0 G from hC)⟩
  · skip
    unfold mb_argument_275
    refine PP.ix (fun _ => ?_)
    exact mcj_argument_282 rc ihC t70 x6 (G 21 x6.toNatClampNeg) z0 z1 F G ⟨(show F 70 = F0 70 from hE), (show 0 ≤ (F 60).toInt from h6), (show PKp F0 G0 G from hP), (show sN F0 ≤ sN F from hS), (show CB F0 G0 G from hC)⟩
theorem mcj_argument_236 {fu : Nat} (rc : RC) (ihC : mCI rc) {F0 : PF} {G0 : PG} (t70 : 0 ≤ (F0 70).toInt) (x6 : Int32) (F : PF) (G : PG) (hA : F 70 = F0 70 ∧ 0 ≤ (F 60).toInt ∧ PKp F0 G0 G ∧ sN F0 ≤ sN F ∧ CB F0 G0 G) : PP (mb_argument_236 fu rc x6 F G) (fun r' F' G' => CQ F0 G0 r' F' G') := by
  obtain ⟨hE, h6, hP, hS, hC⟩ := hA
  unfold mb_argument_236
  unfold mb_argument_246
  refine PP.ite (fun c_1 => ?_) (fun c_1 => ?_)
  · skip
    unfold mb_argument_254
    exact mcj_argument_265 rc ihC t70 x6 (0 : Int32) (5 : Int32) (fup F 42 ((F 42) + (1 : Int32))) G ⟨(show (fup F 42 ((F 42) + (1 : Int32))) 70 = F0 70 from hE), (show 0 ≤ ((fup F 42 ((F 42) + (1 : Int32))) 60).toInt from h6), (show PKp F0 G0 G from hP), (show sN F0 ≤ sN (fup F 42 ((F 42) + (1 : Int32))) from hS), (show CB F0 G0 G from hC)⟩
  · skip
    unfold mb_argument_258
    refine PP.ix (fun _ => ?_)
    exact mcj_argument_265 rc ihC t70 x6 (G 20 x6.toNatClampNeg) (5 : Int32) (fup F 42 ((F 42) + (1 : Int32))) G ⟨(show (fup F 42 ((F 42) + (1 : Int32))) 70 = F0 70 from hE), (show 0 ≤ ((fup F 42 ((F 42) + (1 : Int32))) 60).toInt from h6), (show PKp F0 G0 G from hP), (show sN F0 ≤ sN (fup F 42 ((F 42) + (1 : Int32))) from hS), (show CB F0 G0 G from hC)⟩
theorem mcj_argument_229 {fu : Nat} (rc : RC) (ihC : mCI rc) {F0 : PF} {G0 : PG} (t70 : 0 ≤ (F0 70).toInt) (x3 : Int32) (x6 : Int32) (F : PF) (G : PG) (hA : F 70 = F0 70 ∧ 0 ≤ (F 60).toInt ∧ PKp F0 G0 G ∧ sN F0 ≤ sN F ∧ CB F0 G0 G) : PP (mb_argument_229 fu rc x3 x6 F G) (fun r' F' G' => CQ F0 G0 r' F' G') := by
  obtain ⟨hE, h6, hP, hS, hC⟩ := hA
  unfold mb_argument_229
  refine PP.bind (mw_note (7 : Int32) x3 F G) ?_
  intro r1 F1 G1 hK1
  dsimp only
  have k_2 : F1 70 = F0 70 := (hK1.1 70 rfl).trans (show F 70 = F0 70 from hE)
  have k_3 : 0 ≤ (F1 60).toInt := by rw [hK1.1 60 rfl]; exact (show 0 ≤ (F 60).toInt from h6)
  have k_4 : sN F0 ≤ sN F1 := S_eq (show sN F0 ≤ sN F from hS) (hK1.1 60 rfl)
  have k_5 : CB F0 G0 G1 := CB.kx (show CB F0 G0 G from hC) hK1 rfl rfl rfl rfl
  have k_6 : PKp F0 G0 G1 := PKp.kx (show PKp F0 G0 G from hP) hK1 rfl rfl
  exact mcj_argument_236 rc ihC t70 x6 F1 G1 ⟨(show F1 70 = F0 70 from k_2), (show 0 ≤ (F1 60).toInt from k_3), (show PKp F0 G0 G1 from k_6), (show sN F0 ≤ sN F1 from k_4), (show CB F0 G0 G1 from k_5)⟩
theorem mcj_argument_191 {fu : Nat} (rc : RC) (ihC : mCI rc) {F0 : PF} {G0 : PG} (t70 : 0 ≤ (F0 70).toInt) (x3 : Int32) (x4 : Int32) (x6 : Int32) (F : PF) (G : PG) (hA : F 70 = F0 70 ∧ 0 ≤ (F 60).toInt ∧ PKp F0 G0 G ∧ sN F0 ≤ sN F ∧ CB F0 G0 G) : PP (mb_argument_191 fu rc x3 x4 x6 F G) (fun r' F' G' => CQ F0 G0 r' F' G') := by
  obtain ⟨hE, h6, hP, hS, hC⟩ := hA
  unfold mb_argument_191
  refine PP.ite (fun c_1 => ?_) (fun c_1 => ?_)
  · skip
    exact mcj_argument_229 rc ihC t70 x3 x6 F G ⟨(show F 70 = F0 70 from hE), (show 0 ≤ (F 60).toInt from h6), (show PKp F0 G0 G from hP), (show sN F0 ≤ sN F from hS), (show CB F0 G0 G from hC)⟩
  · skip
    unfold mb_argument_197
    refine PP.ix (fun _ => ?_)
    refine PP.ite (fun c_2 => ?_) (fun c_2 => ?_)
    · skip
      unfold mb_argument_208
      refine PP.ix (fun _ => ?_)
      refine PP.ite (fun c_3 => ?_) (fun c_3 => ?_)
      · skip
        unfold mb_argument_221
        unfold mb_argument_226
        refine PP.ite (fun c_4 => ?_) (fun c_4 => ?_)
        · skip
          exact mcj_argument_236 rc ihC t70 x6 F G ⟨(show F 70 = F0 70 from hE), (show 0 ≤ (F 60).toInt from h6), (show PKp F0 G0 G from hP), (show sN F0 ≤ sN F from hS), (show CB F0 G0 G from hC)⟩
        · skip
          exact mcj_argument_229 rc ihC t70 x3 x6 F G ⟨(show F 70 = F0 70 from hE), (show 0 ≤ (F 60).toInt from h6), (show PKp F0 G0 G from hP), (show sN F0 ≤ sN F from hS), (show CB F0 G0 G from hC)⟩
      · skip
        unfold mb_argument_225
        unfold mb_argument_226
        refine PP.ite (fun c_5 => ?_) (fun c_5 => ?_)
        · skip
          exact mcj_argument_236 rc ihC t70 x6 F G ⟨(show F 70 = F0 70 from hE), (show 0 ≤ (F 60).toInt from h6), (show PKp F0 G0 G from hP), (show sN F0 ≤ sN F from hS), (show CB F0 G0 G from hC)⟩
        · skip
          exact mcj_argument_229 rc ihC t70 x3 x6 F G ⟨(show F 70 = F0 70 from hE), (show 0 ≤ (F 60).toInt from h6), (show PKp F0 G0 G from hP), (show sN F0 ≤ sN F from hS), (show CB F0 G0 G from hC)⟩
    · skip
      exact mcj_argument_229 rc ihC t70 x3 x6 F G ⟨(show F 70 = F0 70 from hE), (show 0 ≤ (F 60).toInt from h6), (show PKp F0 G0 G from hP), (show sN F0 ≤ sN F from hS), (show CB F0 G0 G from hC)⟩
theorem mcj_argument_139 {fu : Nat} (rc : RC) (ihC : mCI rc) {F0 : PF} {G0 : PG} (t70 : 0 ≤ (F0 70).toInt) (x3 : Int32) (x4 : Int32) (z0 : Int32) (F : PF) (G : PG) (hA : F 70 = F0 70 ∧ 0 ≤ (F 60).toInt ∧ PKp F0 G0 G ∧ sN F0 ≤ sN F ∧ CB F0 G0 G) : PP (mb_argument_139 fu rc x3 x4 z0 F G) (fun r' F' G' => CQ F0 G0 r' F' G') := by
  obtain ⟨hE, h6, hP, hS, hC⟩ := hA
  unfold mb_argument_139
  refine PP.ite (fun c_1 => ?_) (fun c_1 => ?_)
  · skip
    unfold mb_argument_146
    refine PP.bind (mw_note (7 : Int32) x3 F G) ?_
    intro r2 F2 G2 hK2
    dsimp only
    have k_3 : F2 70 = F0 70 := (hK2.1 70 rfl).trans (show F 70 = F0 70 from hE)
    have k_4 : 0 ≤ (F2 60).toInt := by rw [hK2.1 60 rfl]; exact (show 0 ≤ (F 60).toInt from h6)
    have k_5 : sN F0 ≤ sN F2 := S_eq (show sN F0 ≤ sN F from hS) (hK2.1 60 rfl)
    have k_6 : CB F0 G0 G2 := CB.kx (show CB F0 G0 G from hC) hK2 rfl rfl rfl rfl
    have k_7 : PKp F0 G0 G2 := PKp.kx (show PKp F0 G0 G from hP) hK2 rfl rfl
    unfold mb_argument_153
    refine PP.bind (ihC 4 0 0 F2 G2 (show 0 ≤ (F2 60).toInt from k_4) (by rw [(show F2 70 = F0 70 from k_3)]; exact t70)) ?_
    rintro r8 F8 G8 ⟨(rfl | rfl), u8⟩
    · dsimp only
      obtain ⟨b8, d8, e8, -⟩ := u8
      have k_9 : 0 ≤ (F8 60).toInt := b8
      have k_10 : sN F0 ≤ sN F8 := Nat.le_trans (show sN F0 ≤ sN F2 from k_5) d8
      have k_11 : CB F0 G0 G8 := CB.tr (show CB F0 G0 G2 from k_6) (show sN F0 ≤ sN F2 from k_5) e8
      unfold mb_argument_157
      refine PP.ret ?_
      exact ⟨Or.inl rfl, (show 0 ≤ (F8 60).toInt from k_9), (show sN F0 ≤ sN F8 from k_10), (show CB F0 G0 G8 from k_11), fun h => absurd h (by decide)⟩
    · dsimp only
      obtain ⟨b8, d8, e8, u8⟩ := u8
      obtain ⟨a8, c8⟩ := u8 rfl
      have k_12 : F8 70 = F0 70 := a8.trans (show F2 70 = F0 70 from k_3)
      have k_13 : 0 ≤ (F8 60).toInt := b8
      have k_14 : sN F0 ≤ sN F8 := Nat.le_trans (show sN F0 ≤ sN F2 from k_5) d8
      have k_15 : CB F0 G0 G8 := CB.tr (show CB F0 G0 G2 from k_6) (show sN F0 ≤ sN F2 from k_5) e8
      have k_16 : PKp F0 G0 G8 := PKp.tr (show PKp F0 G0 G2 from k_7) c8 (show F2 70 = F0 70 from k_3)
      unfold mb_argument_157
      refine PP.ret ?_
      exact ⟨Or.inr rfl, (show 0 ≤ (F8 60).toInt from k_13), (show sN F0 ≤ sN F8 from k_14), (show CB F0 G0 G8 from k_15), fun _ => ⟨(show F8 70 = F0 70 from k_12), (show PKp F0 G0 G8 from k_16)⟩⟩
  · skip
    unfold mb_argument_158
    refine PP.bind (mw_meaning (F 42) F G) ?_
    intro r17 F17 G17 hK17
    dsimp only
    have k_18 : F17 70 = F0 70 := (hK17.1 70 rfl).trans (show F 70 = F0 70 from hE)
    have k_19 : 0 ≤ (F17 60).toInt := by rw [hK17.1 60 rfl]; exact (show 0 ≤ (F 60).toInt from h6)
    have k_20 : sN F0 ≤ sN F17 := S_eq (show sN F0 ≤ sN F from hS) (hK17.1 60 rfl)
    have k_21 : CB F0 G0 G17 := CB.kx (show CB F0 G0 G from hC) hK17 rfl rfl rfl rfl
    have k_22 : PKp F0 G0 G17 := PKp.kx (show PKp F0 G0 G from hP) hK17 rfl rfl
    unfold mb_argument_166
    refine PP.ite (fun c_23 => ?_) (fun c_23 => ?_)
    · skip
      unfold mb_argument_174
      refine PP.ite (fun c_24 => ?_) (fun c_24 => ?_)
      · skip
        unfold mb_argument_182
        refine PP.bind (mw_note (4 : Int32) x3 F17 G17) ?_
        intro r25 F25 G25 hK25
        dsimp only
        have k_26 : F25 70 = F0 70 := (hK25.1 70 rfl).trans (show F17 70 = F0 70 from k_18)
        have k_27 : 0 ≤ (F25 60).toInt := by rw [hK25.1 60 rfl]; exact (show 0 ≤ (F17 60).toInt from k_19)
        have k_28 : sN F0 ≤ sN F25 := S_eq (show sN F0 ≤ sN F17 from k_20) (hK25.1 60 rfl)
        have k_29 : CB F0 G0 G25 := CB.kx (show CB F0 G0 G17 from k_21) hK25 rfl rfl rfl rfl
        have k_30 : PKp F0 G0 G25 := PKp.kx (show PKp F0 G0 G17 from k_22) hK25 rfl rfl
        unfold mb_argument_188
        exact mcj_argument_236 rc ihC t70 r17 F25 G25 ⟨(show F25 70 = F0 70 from k_26), (show 0 ≤ (F25 60).toInt from k_27), (show PKp F0 G0 G25 from k_30), (show sN F0 ≤ sN F25 from k_28), (show CB F0 G0 G25 from k_29)⟩
      · skip
        exact mcj_argument_191 rc ihC t70 x3 x4 r17 F17 G17 ⟨(show F17 70 = F0 70 from k_18), (show 0 ≤ (F17 60).toInt from k_19), (show PKp F0 G0 G17 from k_22), (show sN F0 ≤ sN F17 from k_20), (show CB F0 G0 G17 from k_21)⟩
    · skip
      exact mcj_argument_191 rc ihC t70 x3 x4 r17 F17 G17 ⟨(show F17 70 = F0 70 from k_18), (show 0 ≤ (F17 60).toInt from k_19), (show PKp F0 G0 G17 from k_22), (show sN F0 ≤ sN F17 from k_20), (show CB F0 G0 G17 from k_21)⟩
theorem mct_argument {fu : Nat} (rc : RC) (ihC : mCI rc) (x1 : Int32) (x2 : Int32) (F : PF) (G : PG) (t60 : 0 ≤ (F 60).toInt) (t70 : 0 ≤ (F 70).toInt) : PP (mh_argument fu rc x1 x2 F G) (fun r' F' G' => CQ F G r' F' G') := by
  unfold mh_argument
  unfold mb_argument_0
  refine PP.ite (fun c_1 => ?_) (fun c_1 => ?_)
  · skip
    unfold mb_argument_7
    refine PP.ite (fun c_2 => ?_) (fun c_2 => ?_)
    · skip
      exact mcj_argument_12 rc ihC t70 F G ⟨(show F 70 = F 70 from (rfl : F 70 = F 70)), (show 0 ≤ (F 60).toInt from t60), (show PKp F G G from (fun _ _ => ⟨rfl, rfl⟩ : PKp F G G)), (show sN F ≤ sN F from (Nat.le_refl _ : sN F ≤ sN F)), (show CB F G G from (fun _ _ => cEq.rf : CB F G G))⟩
    · skip
      unfold mb_argument_17
      refine PP.ix (fun _ => ?_)
      refine PP.ix (fun _ => ?_)
      refine PP.ite (fun c_3 => ?_) (fun c_3 => ?_)
      · skip
        unfold mb_argument_49
        refine PP.ix (fun _ => ?_)
        refine PP.ix (fun _ => ?_)
        refine PP.ite (fun c_4 => ?_) (fun c_4 => ?_)
        · skip
          unfold mb_argument_69
          refine PP.bind (ihC 4 0 0 F G (show 0 ≤ (F 60).toInt from t60) (by rw [(show F 70 = F 70 from (rfl : F 70 = F 70))]; exact t70)) ?_
          rintro r5 F5 G5 ⟨(rfl | rfl), u5⟩
          · dsimp only
            obtain ⟨b5, d5, e5, -⟩ := u5
            have k_6 : 0 ≤ (F5 60).toInt := b5
            have k_7 : sN F ≤ sN F5 := Nat.le_trans (show sN F ≤ sN F from (Nat.le_refl _ : sN F ≤ sN F)) d5
            have k_8 : CB F G G5 := CB.tr (show CB F G G from (fun _ _ => cEq.rf : CB F G G)) (show sN F ≤ sN F from (Nat.le_refl _ : sN F ≤ sN F)) e5
            unfold mb_argument_73
            refine PP.ret ?_
            exact ⟨Or.inl rfl, (show 0 ≤ (F5 60).toInt from k_6), (show sN F ≤ sN F5 from k_7), (show CB F G G5 from k_8), fun h => absurd h (by decide)⟩
          · dsimp only
            obtain ⟨b5, d5, e5, u5⟩ := u5
            obtain ⟨a5, c5⟩ := u5 rfl
            have k_9 : F5 70 = F 70 := a5.trans (show F 70 = F 70 from (rfl : F 70 = F 70))
            have k_10 : 0 ≤ (F5 60).toInt := b5
            have k_11 : sN F ≤ sN F5 := Nat.le_trans (show sN F ≤ sN F from (Nat.le_refl _ : sN F ≤ sN F)) d5
            have k_12 : CB F G G5 := CB.tr (show CB F G G from (fun _ _ => cEq.rf : CB F G G)) (show sN F ≤ sN F from (Nat.le_refl _ : sN F ≤ sN F)) e5
            have k_13 : PKp F G G5 := PKp.tr (show PKp F G G from (fun _ _ => ⟨rfl, rfl⟩ : PKp F G G)) c5 (show F 70 = F 70 from (rfl : F 70 = F 70))
            unfold mb_argument_73
            refine PP.ret ?_
            exact ⟨Or.inr rfl, (show 0 ≤ (F5 60).toInt from k_10), (show sN F ≤ sN F5 from k_11), (show CB F G G5 from k_12), fun _ => ⟨(show F5 70 = F 70 from k_9), (show PKp F G G5 from k_13)⟩⟩
        · skip
          unfold mb_argument_74
          refine PP.ix (fun _ => ?_)
          refine PP.ite (fun c_14 => ?_) (fun c_14 => ?_)
          · skip
            unfold mb_argument_87
            refine PP.ix (fun _ => ?_)
            refine PP.ite (fun c_15 => ?_) (fun c_15 => ?_)
            · skip
              unfold mb_argument_102
              refine PP.ix (fun _ => ?_)
              refine PP.ite (fun c_16 => ?_) (fun c_16 => ?_)
              · skip
                unfold mb_argument_134
                exact mcj_argument_139 rc ihC t70 (G 6 (F 42).toNatClampNeg) (G 34 ((G 31 x1.toNatClampNeg) + x2).toNatClampNeg) (1 : Int32) F G ⟨(show F 70 = F 70 from (rfl : F 70 = F 70)), (show 0 ≤ (F 60).toInt from t60), (show PKp F G G from (fun _ _ => ⟨rfl, rfl⟩ : PKp F G G)), (show sN F ≤ sN F from (Nat.le_refl _ : sN F ≤ sN F)), (show CB F G G from (fun _ _ => cEq.rf : CB F G G))⟩
              · skip
                unfold mb_argument_118
                refine PP.ix (fun _ => ?_)
                refine PP.ite (fun c_17 => ?_) (fun c_17 => ?_)
                · skip
                  unfold mb_argument_134
                  exact mcj_argument_139 rc ihC t70 (G 6 (F 42).toNatClampNeg) (G 34 ((G 31 x1.toNatClampNeg) + x2).toNatClampNeg) (1 : Int32) F G ⟨(show F 70 = F 70 from (rfl : F 70 = F 70)), (show 0 ≤ (F 60).toInt from t60), (show PKp F G G from (fun _ _ => ⟨rfl, rfl⟩ : PKp F G G)), (show sN F ≤ sN F from (Nat.le_refl _ : sN F ≤ sN F)), (show CB F G G from (fun _ _ => cEq.rf : CB F G G))⟩
                · skip
                  unfold mb_argument_138
                  exact mcj_argument_139 rc ihC t70 (G 6 (F 42).toNatClampNeg) (G 34 ((G 31 x1.toNatClampNeg) + x2).toNatClampNeg) (0 : Int32) F G ⟨(show F 70 = F 70 from (rfl : F 70 = F 70)), (show 0 ≤ (F 60).toInt from t60), (show PKp F G G from (fun _ _ => ⟨rfl, rfl⟩ : PKp F G G)), (show sN F ≤ sN F from (Nat.le_refl _ : sN F ≤ sN F)), (show CB F G G from (fun _ _ => cEq.rf : CB F G G))⟩
            · skip
              unfold mb_argument_138
              exact mcj_argument_139 rc ihC t70 (G 6 (F 42).toNatClampNeg) (G 34 ((G 31 x1.toNatClampNeg) + x2).toNatClampNeg) (0 : Int32) F G ⟨(show F 70 = F 70 from (rfl : F 70 = F 70)), (show 0 ≤ (F 60).toInt from t60), (show PKp F G G from (fun _ _ => ⟨rfl, rfl⟩ : PKp F G G)), (show sN F ≤ sN F from (Nat.le_refl _ : sN F ≤ sN F)), (show CB F G G from (fun _ _ => cEq.rf : CB F G G))⟩
          · skip
            unfold mb_argument_138
            exact mcj_argument_139 rc ihC t70 (G 6 (F 42).toNatClampNeg) (G 34 ((G 31 x1.toNatClampNeg) + x2).toNatClampNeg) (0 : Int32) F G ⟨(show F 70 = F 70 from (rfl : F 70 = F 70)), (show 0 ≤ (F 60).toInt from t60), (show PKp F G G from (fun _ _ => ⟨rfl, rfl⟩ : PKp F G G)), (show sN F ≤ sN F from (Nat.le_refl _ : sN F ≤ sN F)), (show CB F G G from (fun _ _ => cEq.rf : CB F G G))⟩
      · skip
        unfold mb_argument_37
        refine PP.bind (mw_note (7 : Int32) (G 6 (F 42).toNatClampNeg) F G) ?_
        intro r18 F18 G18 hK18
        dsimp only
        have k_19 : F18 70 = F 70 := (hK18.1 70 rfl).trans (show F 70 = F 70 from (rfl : F 70 = F 70))
        have k_20 : 0 ≤ (F18 60).toInt := by rw [hK18.1 60 rfl]; exact (show 0 ≤ (F 60).toInt from t60)
        have k_21 : sN F ≤ sN F18 := S_eq (show sN F ≤ sN F from (Nat.le_refl _ : sN F ≤ sN F)) (hK18.1 60 rfl)
        have k_22 : CB F G G18 := CB.kx (show CB F G G from (fun _ _ => cEq.rf : CB F G G)) hK18 rfl rfl rfl rfl
        have k_23 : PKp F G G18 := PKp.kx (show PKp F G G from (fun _ _ => ⟨rfl, rfl⟩ : PKp F G G)) hK18 rfl rfl
        unfold mb_argument_44
        refine PP.bind (ihC 4 0 0 F18 G18 (show 0 ≤ (F18 60).toInt from k_20) (by rw [(show F18 70 = F 70 from k_19)]; exact t70)) ?_
        rintro r24 F24 G24 ⟨(rfl | rfl), u24⟩
        · dsimp only
          obtain ⟨b24, d24, e24, -⟩ := u24
          have k_25 : 0 ≤ (F24 60).toInt := b24
          have k_26 : sN F ≤ sN F24 := Nat.le_trans (show sN F ≤ sN F18 from k_21) d24
          have k_27 : CB F G G24 := CB.tr (show CB F G G18 from k_22) (show sN F ≤ sN F18 from k_21) e24
          unfold mb_argument_48
          refine PP.ret ?_
          exact ⟨Or.inl rfl, (show 0 ≤ (F24 60).toInt from k_25), (show sN F ≤ sN F24 from k_26), (show CB F G G24 from k_27), fun h => absurd h (by decide)⟩
        · dsimp only
          obtain ⟨b24, d24, e24, u24⟩ := u24
          obtain ⟨a24, c24⟩ := u24 rfl
          have k_28 : F24 70 = F 70 := a24.trans (show F18 70 = F 70 from k_19)
          have k_29 : 0 ≤ (F24 60).toInt := b24
          have k_30 : sN F ≤ sN F24 := Nat.le_trans (show sN F ≤ sN F18 from k_21) d24
          have k_31 : CB F G G24 := CB.tr (show CB F G G18 from k_22) (show sN F ≤ sN F18 from k_21) e24
          have k_32 : PKp F G G24 := PKp.tr (show PKp F G G18 from k_23) c24 (show F18 70 = F 70 from k_19)
          unfold mb_argument_48
          refine PP.ret ?_
          exact ⟨Or.inr rfl, (show 0 ≤ (F24 60).toInt from k_29), (show sN F ≤ sN F24 from k_30), (show CB F G G24 from k_31), fun _ => ⟨(show F24 70 = F 70 from k_28), (show PKp F G G24 from k_32)⟩⟩
  · skip
    exact mcj_argument_12 rc ihC t70 F G ⟨(show F 70 = F 70 from (rfl : F 70 = F 70)), (show 0 ≤ (F 60).toInt from t60), (show PKp F G G from (fun _ _ => ⟨rfl, rfl⟩ : PKp F G G)), (show sN F ≤ sN F from (Nat.le_refl _ : sN F ≤ sN F)), (show CB F G G from (fun _ _ => cEq.rf : CB F G G))⟩
theorem mcj_call_256 {fu : Nat} (rc : RC) (ihC : mCI rc) {F0 : PF} {G0 : PG} (t70 : 0 ≤ (F0 70).toInt) (x1 : Int32) (x4 : Int32) (F : PF) (G : PG) (hA : F 70 = F0 70 ∧ 0 ≤ (F 60).toInt ∧ PKp F0 G0 G ∧ sN F0 ≤ sN F ∧ CB F0 G0 G) : PP (mb_call_256 fu rc x1 x4 F G) (fun r' F' G' => CQ F0 G0 r' F' G') := by
  obtain ⟨hE, h6, hP, hS, hC⟩ := hA
  unfold mb_call_256
  refine PP.bind (mw_closeSign (23 : Int32) F G) ?_
  intro r1 F1 G1 hK1
  dsimp only
  have k_2 : F1 70 = F0 70 := (hK1.1 70 rfl).trans (show F 70 = F0 70 from hE)
  have k_3 : 0 ≤ (F1 60).toInt := by rw [hK1.1 60 rfl]; exact (show 0 ≤ (F 60).toInt from h6)
  have k_4 : sN F0 ≤ sN F1 := S_eq (show sN F0 ≤ sN F from hS) (hK1.1 60 rfl)
  have k_5 : CB F0 G0 G1 := CB.kx (show CB F0 G0 G from hC) hK1 rfl rfl rfl rfl
  have k_6 : PKp F0 G0 G1 := PKp.kx (show PKp F0 G0 G from hP) hK1 rfl rfl
  unfold mb_call_262
  refine PP.ite (fun c_7 => ?_) (fun c_7 => ?_)
  · skip
    unfold mb_call_265
    refine PP.ret ?_
    exact ⟨Or.inl rfl, (show 0 ≤ (F1 60).toInt from k_3), (show sN F0 ≤ sN F1 from k_4), (show CB F0 G0 G1 from k_5), fun h => absurd h (by decide)⟩
  · skip
    unfold mb_call_267
    refine PP.bind (mq_step (15 : Int32) (0 : Int32) (0 : Int32) F1 G1) ?_
    rintro _ F8 G8 ⟨hK8, rfl, e8, g8, n8⟩
    dsimp only
    have k_9 : F8 70 = F0 70 := (hK8.1 70 rfl).trans (show F1 70 = F0 70 from k_2)
    have k_10 : 0 ≤ (F8 60).toInt := inc60 n8 e8
    have k_11 : sN F0 ≤ sN F8 := S_st (show sN F0 ≤ sN F1 from k_4) n8 e8
    have k_12 : CB F0 G0 G8 := CB.stp (show CB F0 G0 G1 from k_5) (show sN F0 ≤ sN F1 from k_4) g8
    have k_13 : PKp F0 G0 G8 := PKp.kx (show PKp F0 G0 G1 from k_6) hK8 rfl rfl
    unfold mb_call_275
    refine PP.ix (fun _ => ?_)
    refine PP.bind (mq_step (16 : Int32) x4 (G8 6 x1.toNatClampNeg) F8 G8) ?_
    rintro _ F14 G14 ⟨hK14, rfl, e14, g14, n14⟩
    dsimp only
    have k_15 : F14 70 = F0 70 := (hK14.1 70 rfl).trans (show F8 70 = F0 70 from k_9)
    have k_16 : 0 ≤ (F14 60).toInt := inc60 n14 e14
    have k_17 : sN F0 ≤ sN F14 := S_st (show sN F0 ≤ sN F8 from k_11) n14 e14
    have k_18 : CB F0 G0 G14 := CB.stp (show CB F0 G0 G8 from k_12) (show sN F0 ≤ sN F8 from k_11) g14
    have k_19 : PKp F0 G0 G14 := PKp.kx (show PKp F0 G0 G8 from k_13) hK14 rfl rfl
    unfold mb_call_290
    refine PP.ret ?_
    exact ⟨Or.inr rfl, (show 0 ≤ (F14 60).toInt from k_16), (show sN F0 ≤ sN F14 from k_17), (show CB F0 G0 G14 from k_18), fun _ => ⟨(show F14 70 = F0 70 from k_15), (show PKp F0 G0 G14 from k_19)⟩⟩
theorem mcj_call_200 {fu : Nat} (rc : RC) (ihC : mCI rc) {F0 : PF} {G0 : PG} (t70 : 0 ≤ (F0 70).toInt) (ag_156 : Int32 → Int32 → Int32 → Int32 → PF → PG → PR) (hag_156 : ∀ (x1 : Int32) (x4 : Int32) (x5 : Int32) (x6 : Int32) (F : PF) (G : PG) (hA : F 70 = F0 70 ∧ 0 ≤ (F 60).toInt ∧ PKp F0 G0 G ∧ sN F0 ≤ sN F ∧ CB F0 G0 G), PP (ag_156 x1 x4 x5 x6 F G) (fun r' F' G' => CQ F0 G0 r' F' G')) (x1 : Int32) (x4 : Int32) (x5 : Int32) (x6 : Int32) (z0 : Int32) (z1 : Int32) (F : PF) (G : PG) (hA : F 70 = F0 70 ∧ 0 ≤ (F 60).toInt ∧ PKp F0 G0 G ∧ sN F0 ≤ sN F ∧ CB F0 G0 G) : PP (mb_call_200 fu rc ag_156 x1 x4 x5 x6 z0 z1 F G) (fun r' F' G' => CQ F0 G0 r' F' G') := by
  obtain ⟨hE, h6, hP, hS, hC⟩ := hA
  unfold mb_call_200
  unfold mb_call_204
  exact hag_156 x1 x4 x5 x6 (fup F 42 (z1 + z0)) G ⟨(show (fup F 42 (z1 + z0)) 70 = F0 70 from hE), (show 0 ≤ ((fup F 42 (z1 + z0)) 60).toInt from h6), (show PKp F0 G0 G from hP), (show sN F0 ≤ sN (fup F 42 (z1 + z0)) from hS), (show CB F0 G0 G from hC)⟩
theorem mcz_call_156 {fu : Nat} (rc : RC) (ihC : mCI rc) {F0 : PF} {G0 : PG} (t70 : 0 ≤ (F0 70).toInt) : ∀ (n : Nat) (x1 : Int32) (x4 : Int32) (x5 : Int32) (x6 : Int32) (F : PF) (G : PG) (hA : F 70 = F0 70 ∧ 0 ≤ (F 60).toInt ∧ PKp F0 G0 G ∧ sN F0 ≤ sN F ∧ CB F0 G0 G), PP (ml_call_156 fu rc n x1 x4 x5 x6 F G) (fun r' F' G' => CQ F0 G0 r' F' G') := by
  intro n
  induction n with
  | zero =>
    intro x1 x4 x5 x6 F G hA
    exact PP.no
  | succ n ihn =>
    intro x1 x4 x5 x6 F G hA
    show PP (mb_call_156 fu rc (ml_call_156 fu rc n) x1 x4 x5 x6 F G) _
    obtain ⟨hE, h6, hP, hS, hC⟩ := hA
    unfold mb_call_156
    refine PP.ite (fun c_1 => ?_) (fun c_1 => ?_)
    · skip
      unfold mb_call_207
      refine PP.ite (fun c_2 => ?_) (fun c_2 => ?_)
      · skip
        unfold mb_call_214
        refine PP.ite (fun c_3 => ?_) (fun c_3 => ?_)
        · skip
          exact mcj_call_256 rc ihC t70 x1 x4 F G ⟨(show F 70 = F0 70 from hE), (show 0 ≤ (F 60).toInt from h6), (show PKp F0 G0 G from hP), (show sN F0 ≤ sN F from hS), (show CB F0 G0 G from hC)⟩
        · skip
          unfold mb_call_220
          refine PP.ix (fun _ => ?_)
          refine PP.ite (fun c_4 => ?_) (fun c_4 => ?_)
          · skip
            exact mcj_call_256 rc ihC t70 x1 x4 F G ⟨(show F 70 = F0 70 from hE), (show 0 ≤ (F 60).toInt from h6), (show PKp F0 G0 G from hP), (show sN F0 ≤ sN F from hS), (show CB F0 G0 G from hC)⟩
          · skip
            unfold mb_call_232
            refine PP.bind (mp_isSign (23 : Int32) F G) ?_
            rintro _ _ _ ⟨rfl, rfl, (⟨rfl, -⟩ | ⟨rfl, -⟩)⟩
            · dsimp only
              unfold mb_call_238
              refine PP.ite (fun c_6 => absurd c_6 (by decide)) (fun _ => ?_)
              unfold mb_call_241
              refine PP.ix (fun _ => ?_)
              refine PP.bind (mw_note (7 : Int32) (G 6 (F 42).toNatClampNeg) F G) ?_
              intro r7 F7 G7 hK7
              dsimp only
              have k_8 : F7 70 = F0 70 := (hK7.1 70 rfl).trans (show F 70 = F0 70 from hE)
              have k_9 : 0 ≤ (F7 60).toInt := by rw [hK7.1 60 rfl]; exact (show 0 ≤ (F 60).toInt from h6)
              have k_10 : sN F0 ≤ sN F7 := S_eq (show sN F0 ≤ sN F from hS) (hK7.1 60 rfl)
              have k_11 : CB F0 G0 G7 := CB.kx (show CB F0 G0 G from hC) hK7 rfl rfl rfl rfl
              have k_12 : PKp F0 G0 G7 := PKp.kx (show PKp F0 G0 G from hP) hK7 rfl rfl
              exact mcj_call_256 rc ihC t70 x1 x4 F7 G7 ⟨(show F7 70 = F0 70 from k_8), (show 0 ≤ (F7 60).toInt from k_9), (show PKp F0 G0 G7 from k_12), (show sN F0 ≤ sN F7 from k_10), (show CB F0 G0 G7 from k_11)⟩
            · dsimp only
              unfold mb_call_238
              refine PP.ite (fun _ => ?_) (fun c_13 => absurd (by decide) c_13)
              exact mcj_call_256 rc ihC t70 x1 x4 F G ⟨(show F 70 = F0 70 from hE), (show 0 ≤ (F 60).toInt from h6), (show PKp F0 G0 G from hP), (show sN F0 ≤ sN F from hS), (show CB F0 G0 G from hC)⟩
      · skip
        exact mcj_call_256 rc ihC t70 x1 x4 F G ⟨(show F 70 = F0 70 from hE), (show 0 ≤ (F 60).toInt from h6), (show PKp F0 G0 G from hP), (show sN F0 ≤ sN F from hS), (show CB F0 G0 G from hC)⟩
    · skip
      unfold mb_call_161
      refine PP.bind (ihC 0 x4 x5 F G (show 0 ≤ (F 60).toInt from h6) (by rw [(show F 70 = F0 70 from hE)]; exact t70)) ?_
      rintro r14 F14 G14 ⟨(rfl | rfl), u14⟩
      · dsimp only
        obtain ⟨b14, d14, e14, -⟩ := u14
        have k_15 : 0 ≤ (F14 60).toInt := b14
        have k_16 : sN F0 ≤ sN F14 := Nat.le_trans (show sN F0 ≤ sN F from hS) d14
        have k_17 : CB F0 G0 G14 := CB.tr (show CB F0 G0 G from hC) (show sN F0 ≤ sN F from hS) e14
        unfold mb_call_169
        refine PP.ite (fun _ => ?_) (fun c_18 => absurd (by decide) c_18)
        unfold mb_call_172
        refine PP.ret ?_
        exact ⟨Or.inl rfl, (show 0 ≤ (F14 60).toInt from k_15), (show sN F0 ≤ sN F14 from k_16), (show CB F0 G0 G14 from k_17), fun h => absurd h (by decide)⟩
      · dsimp only
        obtain ⟨b14, d14, e14, u14⟩ := u14
        obtain ⟨a14, c14⟩ := u14 rfl
        have k_19 : F14 70 = F0 70 := a14.trans (show F 70 = F0 70 from hE)
        have k_20 : 0 ≤ (F14 60).toInt := b14
        have k_21 : sN F0 ≤ sN F14 := Nat.le_trans (show sN F0 ≤ sN F from hS) d14
        have k_22 : CB F0 G0 G14 := CB.tr (show CB F0 G0 G from hC) (show sN F0 ≤ sN F from hS) e14
        have k_23 : PKp F0 G0 G14 := PKp.tr (show PKp F0 G0 G from hP) c14 (show F 70 = F0 70 from hE)
        unfold mb_call_169
        refine PP.ite (fun c_24 => absurd c_24 (by decide)) (fun _ => ?_)
        unfold mb_call_174
        refine PP.bind (mp_isSign (28 : Int32) F14 G14) ?_
        rintro _ _ _ ⟨rfl, rfl, (⟨rfl, -⟩ | ⟨rfl, -⟩)⟩
        · dsimp only
          unfold mb_call_183
          refine PP.ite (fun c_26 => absurd c_26 (by decide)) (fun _ => ?_)
          unfold mb_call_195
          exact mcj_call_200 rc ihC t70 (ml_call_156 fu rc n) ihn x1 x4 (x5 + (1 : Int32)) (1 : Int32) (1 : Int32) (F14 42) F14 G14 ⟨(show F14 70 = F0 70 from k_19), (show 0 ≤ (F14 60).toInt from k_20), (show PKp F0 G0 G14 from k_23), (show sN F0 ≤ sN F14 from k_21), (show CB F0 G0 G14 from k_22)⟩
        · dsimp only
          unfold mb_call_183
          refine PP.ite (fun _ => ?_) (fun c_27 => absurd (by decide) c_27)
          unfold mb_call_199
          exact mcj_call_200 rc ihC t70 (ml_call_156 fu rc n) ihn x1 x4 (x5 + (1 : Int32)) (0 : Int32) (0 : Int32) (F14 42) F14 G14 ⟨(show F14 70 = F0 70 from k_19), (show 0 ≤ (F14 60).toInt from k_20), (show PKp F0 G0 G14 from k_23), (show sN F0 ≤ sN F14 from k_21), (show CB F0 G0 G14 from k_22)⟩
theorem mcj_call_154 {fu : Nat} (rc : RC) (ihC : mCI rc) {F0 : PF} {G0 : PG} (t70 : 0 ≤ (F0 70).toInt) (x1 : Int32) (x4 : Int32) (x5 : Int32) (z0 : Int32) (F : PF) (G : PG) (hA : F 70 = F0 70 ∧ 0 ≤ (F 60).toInt ∧ PKp F0 G0 G ∧ sN F0 ≤ sN F ∧ CB F0 G0 G) : PP (mb_call_154 fu rc x1 x4 x5 z0 F G) (fun r' F' G' => CQ F0 G0 r' F' G') := by
  obtain ⟨hE, h6, hP, hS, hC⟩ := hA
  unfold mb_call_154
  exact mcz_call_156 rc ihC t70 fu x1 x4 x5 z0 F G ⟨(show F 70 = F0 70 from hE), (show 0 ≤ (F 60).toInt from h6), (show PKp F0 G0 G from hP), (show sN F0 ≤ sN F from hS), (show CB F0 G0 G from hC)⟩
theorem mcj_call_126 {fu : Nat} (rc : RC) (ihC : mCI rc) {F0 : PF} {G0 : PG} (t70 : 0 ≤ (F0 70).toInt) (x1 : Int32) (x4 : Int32) (F : PF) (G : PG) (hA : F 70 = F0 70 ∧ 0 ≤ (F 60).toInt ∧ PKp F0 G0 G ∧ sN F0 ≤ sN F ∧ CB F0 G0 G) : PP (mb_call_126 fu rc x1 x4 F G) (fun r' F' G' => CQ F0 G0 r' F' G') := by
  obtain ⟨hE, h6, hP, hS, hC⟩ := hA
  unfold mb_call_126
  refine PP.bind (mw_openSign (22 : Int32) F G) ?_
  intro r1 F1 G1 hK1
  dsimp only
  have k_2 : F1 70 = F0 70 := (hK1.1 70 rfl).trans (show F 70 = F0 70 from hE)
  have k_3 : 0 ≤ (F1 60).toInt := by rw [hK1.1 60 rfl]; exact (show 0 ≤ (F 60).toInt from h6)
  have k_4 : sN F0 ≤ sN F1 := S_eq (show sN F0 ≤ sN F from hS) (hK1.1 60 rfl)
  have k_5 : CB F0 G0 G1 := CB.kx (show CB F0 G0 G from hC) hK1 rfl rfl rfl rfl
  have k_6 : PKp F0 G0 G1 := PKp.kx (show PKp F0 G0 G from hP) hK1 rfl rfl
  unfold mb_call_132
  refine PP.ite (fun c_7 => ?_) (fun c_7 => ?_)
  · skip
    unfold mb_call_135
    refine PP.ret ?_
    exact ⟨Or.inl rfl, (show 0 ≤ (F1 60).toInt from k_3), (show sN F0 ≤ sN F1 from k_4), (show CB F0 G0 G1 from k_5), fun h => absurd h (by decide)⟩
  · skip
    unfold mb_call_137
    refine PP.bind (mp_isSign (23 : Int32) F1 G1) ?_
    rintro _ _ _ ⟨rfl, rfl, (⟨rfl, -⟩ | ⟨rfl, -⟩)⟩
    · dsimp only
      unfold mb_call_146
      refine PP.ite (fun c_9 => absurd c_9 (by decide)) (fun _ => ?_)
      unfold mb_call_153
      exact mcj_call_154 rc ihC t70 x1 x4 (0 : Int32) (0 : Int32) F1 G1 ⟨(show F1 70 = F0 70 from k_2), (show 0 ≤ (F1 60).toInt from k_3), (show PKp F0 G0 G1 from k_6), (show sN F0 ≤ sN F1 from k_4), (show CB F0 G0 G1 from k_5)⟩
    · dsimp only
      unfold mb_call_146
      refine PP.ite (fun _ => ?_) (fun c_10 => absurd (by decide) c_10)
      unfold mb_call_149
      exact mcj_call_154 rc ihC t70 x1 x4 (0 : Int32) (1 : Int32) F1 G1 ⟨(show F1 70 = F0 70 from k_2), (show 0 ≤ (F1 60).toInt from k_3), (show PKp F0 G0 G1 from k_6), (show sN F0 ≤ sN F1 from k_4), (show CB F0 G0 G1 from k_5)⟩
theorem mcj_call_87 {fu : Nat} (rc : RC) (ihC : mCI rc) {F0 : PF} {G0 : PG} (t70 : 0 ≤ (F0 70).toInt) (x1 : Int32) (x2 : Int32) (x4 : Int32) (F : PF) (G : PG) (hA : F 70 = F0 70 ∧ 0 ≤ (F 60).toInt ∧ PKp F0 G0 G ∧ sN F0 ≤ sN F ∧ CB F0 G0 G) : PP (mb_call_87 fu rc x1 x2 x4 F G) (fun r' F' G' => CQ F0 G0 r' F' G') := by
  obtain ⟨hE, h6, hP, hS, hC⟩ := hA
  unfold mb_call_87
  refine PP.ite (fun c_1 => ?_) (fun c_1 => ?_)
  · skip
    unfold mb_call_94
    refine PP.ite (fun c_2 => ?_) (fun c_2 => ?_)
    · skip
      exact mcj_call_126 rc ihC t70 x1 x4 F G ⟨(show F 70 = F0 70 from hE), (show 0 ≤ (F 60).toInt from h6), (show PKp F0 G0 G from hP), (show sN F0 ≤ sN F from hS), (show CB F0 G0 G from hC)⟩
    · skip
      unfold mb_call_100
      refine PP.ite (fun c_3 => ?_) (fun c_3 => ?_)
      · skip
        exact mcj_call_126 rc ihC t70 x1 x4 F G ⟨(show F 70 = F0 70 from hE), (show 0 ≤ (F 60).toInt from h6), (show PKp F0 G0 G from hP), (show sN F0 ≤ sN F from hS), (show CB F0 G0 G from hC)⟩
      · skip
        unfold mb_call_104
        refine PP.ix (fun _ => ?_)
        refine PP.ite (fun c_4 => ?_) (fun c_4 => ?_)
        · skip
          exact mcj_call_126 rc ihC t70 x1 x4 F G ⟨(show F 70 = F0 70 from hE), (show 0 ≤ (F 60).toInt from h6), (show PKp F0 G0 G from hP), (show sN F0 ≤ sN F from hS), (show CB F0 G0 G from hC)⟩
        · skip
          unfold mb_call_114
          refine PP.ix (fun _ => ?_)
          refine PP.bind (mw_note (8 : Int32) (G 6 x1.toNatClampNeg) F G) ?_
          intro r5 F5 G5 hK5
          dsimp only
          have k_6 : F5 70 = F0 70 := (hK5.1 70 rfl).trans (show F 70 = F0 70 from hE)
          have k_7 : 0 ≤ (F5 60).toInt := by rw [hK5.1 60 rfl]; exact (show 0 ≤ (F 60).toInt from h6)
          have k_8 : sN F0 ≤ sN F5 := S_eq (show sN F0 ≤ sN F from hS) (hK5.1 60 rfl)
          have k_9 : CB F0 G0 G5 := CB.kx (show CB F0 G0 G from hC) hK5 rfl rfl rfl rfl
          have k_10 : PKp F0 G0 G5 := PKp.kx (show PKp F0 G0 G from hP) hK5 rfl rfl
          exact mcj_call_126 rc ihC t70 x1 x4 F5 G5 ⟨(show F5 70 = F0 70 from k_6), (show 0 ≤ (F5 60).toInt from k_7), (show PKp F0 G0 G5 from k_10), (show sN F0 ≤ sN F5 from k_8), (show CB F0 G0 G5 from k_9)⟩
  · skip
    exact mcj_call_126 rc ihC t70 x1 x4 F G ⟨(show F 70 = F0 70 from hE), (show 0 ≤ (F 60).toInt from h6), (show PKp F0 G0 G from hP), (show sN F0 ≤ sN F from hS), (show CB F0 G0 G from hC)⟩
theorem mcj_call_63 {fu : Nat} (rc : RC) (ihC : mCI rc) {F0 : PF} {G0 : PG} (t70 : 0 ≤ (F0 70).toInt) (x1 : Int32) (x2 : Int32) (x3 : Int32) (x4 : Int32) (F : PF) (G : PG) (hA : F 70 = F0 70 ∧ 0 ≤ (F 60).toInt ∧ PKp F0 G0 G ∧ sN F0 ≤ sN F ∧ CB F0 G0 G) : PP (mb_call_63 fu rc x1 x2 x3 x4 F G) (fun r' F' G' => CQ F0 G0 r' F' G') := by
  obtain ⟨hE, h6, hP, hS, hC⟩ := hA
  unfold mb_call_63
  refine PP.ite (fun c_1 => ?_) (fun c_1 => ?_)
  · skip
    unfold mb_call_70
    refine PP.ite (fun c_2 => ?_) (fun c_2 => ?_)
    · skip
      exact mcj_call_87 rc ihC t70 x1 x2 x4 F G ⟨(show F 70 = F0 70 from hE), (show 0 ≤ (F 60).toInt from h6), (show PKp F0 G0 G from hP), (show sN F0 ≤ sN F from hS), (show CB F0 G0 G from hC)⟩
    · skip
      unfold mb_call_75
      refine PP.ix (fun _ => ?_)
      refine PP.bind (mw_note (6 : Int32) (G 6 x1.toNatClampNeg) F G) ?_
      intro r3 F3 G3 hK3
      dsimp only
      have k_4 : F3 70 = F0 70 := (hK3.1 70 rfl).trans (show F 70 = F0 70 from hE)
      have k_5 : 0 ≤ (F3 60).toInt := by rw [hK3.1 60 rfl]; exact (show 0 ≤ (F 60).toInt from h6)
      have k_6 : sN F0 ≤ sN F3 := S_eq (show sN F0 ≤ sN F from hS) (hK3.1 60 rfl)
      have k_7 : CB F0 G0 G3 := CB.kx (show CB F0 G0 G from hC) hK3 rfl rfl rfl rfl
      have k_8 : PKp F0 G0 G3 := PKp.kx (show PKp F0 G0 G from hP) hK3 rfl rfl
      exact mcj_call_87 rc ihC t70 x1 x2 x4 F3 G3 ⟨(show F3 70 = F0 70 from k_4), (show 0 ≤ (F3 60).toInt from k_5), (show PKp F0 G0 G3 from k_8), (show sN F0 ≤ sN F3 from k_6), (show CB F0 G0 G3 from k_7)⟩
  · skip
    exact mcj_call_87 rc ihC t70 x1 x2 x4 F G ⟨(show F 70 = F0 70 from hE), (show 0 ≤ (F 60).toInt from h6), (show PKp F0 G0 G from hP), (show sN F0 ≤ sN F from hS), (show CB F0 G0 G from hC)⟩
theorem mcj_call_32 {fu : Nat} (rc : RC) (ihC : mCI rc) {F0 : PF} {G0 : PG} (t70 : 0 ≤ (F0 70).toInt) (x1 : Int32) (x2 : Int32) (x3 : Int32) (z0 : Int32) (F : PF) (G : PG) (hA : F 70 = F0 70 ∧ 0 ≤ (F 60).toInt ∧ PKp F0 G0 G ∧ sN F0 ≤ sN F ∧ CB F0 G0 G) : PP (mb_call_32 fu rc x1 x2 x3 z0 F G) (fun r' F' G' => CQ F0 G0 r' F' G') := by
  obtain ⟨hE, h6, hP, hS, hC⟩ := hA
  unfold mb_call_32
  refine PP.ite (fun c_1 => ?_) (fun c_1 => ?_)
  · skip
    unfold mb_call_41
    refine PP.ite (fun c_2 => ?_) (fun c_2 => ?_)
    · skip
      unfold mb_call_46
      refine PP.ite (fun c_3 => ?_) (fun c_3 => ?_)
      · skip
        unfold mb_call_52
        refine PP.ix (fun _ => ?_)
        refine PP.bind (mw_note (4 : Int32) (G 6 x1.toNatClampNeg) F G) ?_
        intro r4 F4 G4 hK4
        dsimp only
        have k_5 : F4 70 = F0 70 := (hK4.1 70 rfl).trans (show F 70 = F0 70 from hE)
        have k_6 : 0 ≤ (F4 60).toInt := by rw [hK4.1 60 rfl]; exact (show 0 ≤ (F 60).toInt from h6)
        have k_7 : sN F0 ≤ sN F4 := S_eq (show sN F0 ≤ sN F from hS) (hK4.1 60 rfl)
        have k_8 : CB F0 G0 G4 := CB.kx (show CB F0 G0 G from hC) hK4 rfl rfl rfl rfl
        have k_9 : PKp F0 G0 G4 := PKp.kx (show PKp F0 G0 G from hP) hK4 rfl rfl
        exact mcj_call_63 rc ihC t70 x1 x2 x3 z0 F4 G4 ⟨(show F4 70 = F0 70 from k_5), (show 0 ≤ (F4 60).toInt from k_6), (show PKp F0 G0 G4 from k_9), (show sN F0 ≤ sN F4 from k_7), (show CB F0 G0 G4 from k_8)⟩
      · skip
        exact mcj_call_63 rc ihC t70 x1 x2 x3 z0 F G ⟨(show F 70 = F0 70 from hE), (show 0 ≤ (F 60).toInt from h6), (show PKp F0 G0 G from hP), (show sN F0 ≤ sN F from hS), (show CB F0 G0 G from hC)⟩
    · skip
      exact mcj_call_63 rc ihC t70 x1 x2 x3 z0 F G ⟨(show F 70 = F0 70 from hE), (show 0 ≤ (F 60).toInt from h6), (show PKp F0 G0 G from hP), (show sN F0 ≤ sN F from hS), (show CB F0 G0 G from hC)⟩
  · skip
    exact mcj_call_63 rc ihC t70 x1 x2 x3 z0 F G ⟨(show F 70 = F0 70 from hE), (show 0 ≤ (F 60).toInt from h6), (show PKp F0 G0 G from hP), (show sN F0 ≤ sN F from hS), (show CB F0 G0 G from hC)⟩
theorem mcj_call_16 {fu : Nat} (rc : RC) (ihC : mCI rc) {F0 : PF} {G0 : PG} (t70 : 0 ≤ (F0 70).toInt) (x1 : Int32) (x2 : Int32) (z0 : Int32) (F : PF) (G : PG) (hA : F 70 = F0 70 ∧ 0 ≤ (F 60).toInt ∧ PKp F0 G0 G ∧ sN F0 ≤ sN F ∧ CB F0 G0 G) : PP (mb_call_16 fu rc x1 x2 z0 F G) (fun r' F' G' => CQ F0 G0 r' F' G') := by
  obtain ⟨hE, h6, hP, hS, hC⟩ := hA
  unfold mb_call_16
  refine PP.ite (fun c_1 => ?_) (fun c_1 => ?_)
  · skip
    unfold mb_call_24
    exact mcj_call_32 rc ihC t70 x1 x2 z0 (-1 : Int32) F G ⟨(show F 70 = F0 70 from hE), (show 0 ≤ (F 60).toInt from h6), (show PKp F0 G0 G from hP), (show sN F0 ≤ sN F from hS), (show CB F0 G0 G from hC)⟩
  · skip
    unfold mb_call_28
    exact mcj_call_32 rc ihC t70 x1 x2 z0 (F 62) F G ⟨(show F 70 = F0 70 from hE), (show 0 ≤ (F 60).toInt from h6), (show PKp F0 G0 G from hP), (show sN F0 ≤ sN F from hS), (show CB F0 G0 G from hC)⟩
theorem mct_call {fu : Nat} (rc : RC) (ihC : mCI rc) (x1 : Int32) (x2 : Int32) (F : PF) (G : PG) (t60 : 0 ≤ (F 60).toInt) (t70 : 0 ≤ (F 70).toInt) : PP (mh_call fu rc x1 x2 F G) (fun r' F' G' => CQ F G r' F' G') := by
  unfold mh_call
  unfold mb_call_0
  refine PP.ite (fun c_1 => ?_) (fun c_1 => ?_)
  · skip
    unfold mb_call_7
    exact mcj_call_16 rc ihC t70 x1 x2 (-1 : Int32) F G ⟨(show F 70 = F 70 from (rfl : F 70 = F 70)), (show 0 ≤ (F 60).toInt from t60), (show PKp F G G from (fun _ _ => ⟨rfl, rfl⟩ : PKp F G G)), (show sN F ≤ sN F from (Nat.le_refl _ : sN F ≤ sN F)), (show CB F G G from (fun _ _ => cEq.rf : CB F G G))⟩
  · skip
    unfold mb_call_11
    refine PP.bind (mw_meaning x1 F G) ?_
    intro r2 F2 G2 hK2
    dsimp only
    have k_3 : F2 70 = F 70 := (hK2.1 70 rfl).trans (show F 70 = F 70 from (rfl : F 70 = F 70))
    have k_4 : 0 ≤ (F2 60).toInt := by rw [hK2.1 60 rfl]; exact (show 0 ≤ (F 60).toInt from t60)
    have k_5 : sN F ≤ sN F2 := S_eq (show sN F ≤ sN F from (Nat.le_refl _ : sN F ≤ sN F)) (hK2.1 60 rfl)
    have k_6 : CB F G G2 := CB.kx (show CB F G G from (fun _ _ => cEq.rf : CB F G G)) hK2 rfl rfl rfl rfl
    have k_7 : PKp F G G2 := PKp.kx (show PKp F G G from (fun _ _ => ⟨rfl, rfl⟩ : PKp F G G)) hK2 rfl rfl
    exact mcj_call_16 rc ihC t70 x1 x2 r2 F2 G2 ⟨(show F2 70 = F 70 from k_3), (show 0 ≤ (F2 60).toInt from k_4), (show PKp F G G2 from k_7), (show sN F ≤ sN F2 from k_5), (show CB F G G2 from k_6)⟩
theorem mct_element {fu : Nat} (rc : RC) (ihC : mCI rc) (x1 : Int32) (F : PF) (G : PG) (t60 : 0 ≤ (F 60).toInt) (t70 : 0 ≤ (F 70).toInt) : PP (mh_element fu rc x1 F G) (fun r' F' G' => CQ F G r' F' G') := by
  unfold mh_element
  unfold mb_element_0
  refine PP.ix (fun _ => ?_)
  refine PP.ite (fun c_1 => ?_) (fun c_1 => ?_)
  · skip
    unfold mb_element_15
    unfold mb_element_25
    refine PP.ite (fun c_2 => ?_) (fun c_2 => ?_)
    · skip
      unfold mb_element_31
      unfold mb_element_41
      refine PP.ite (fun c_3 => ?_) (fun c_3 => ?_)
      · skip
        unfold mb_element_61
        unfold mb_element_62
        refine PP.bind (mw_openSign (24 : Int32) F G) ?_
        intro r4 F4 G4 hK4
        dsimp only
        have k_5 : F4 70 = F 70 := (hK4.1 70 rfl).trans (show F 70 = F 70 from (rfl : F 70 = F 70))
        have k_6 : 0 ≤ (F4 60).toInt := by rw [hK4.1 60 rfl]; exact (show 0 ≤ (F 60).toInt from t60)
        have k_7 : sN F ≤ sN F4 := S_eq (show sN F ≤ sN F from (Nat.le_refl _ : sN F ≤ sN F)) (hK4.1 60 rfl)
        have k_8 : CB F G G4 := CB.kx (show CB F G G from (fun _ _ => cEq.rf : CB F G G)) hK4 rfl rfl rfl rfl
        have k_9 : PKp F G G4 := PKp.kx (show PKp F G G from (fun _ _ => ⟨rfl, rfl⟩ : PKp F G G)) hK4 rfl rfl
        unfold mb_element_70
        refine PP.ite (fun c_10 => ?_) (fun c_10 => ?_)
        · skip
          unfold mb_element_89
          refine PP.ret ?_
          exact ⟨Or.inl rfl, (show 0 ≤ (F4 60).toInt from k_6), (show sN F ≤ sN F4 from k_7), (show CB F G G4 from k_8), fun h => absurd h (by decide)⟩
        · skip
          unfold mb_element_73
          refine PP.bind (ihC 4 0 0 F4 G4 (show 0 ≤ (F4 60).toInt from k_6) (by rw [(show F4 70 = F 70 from k_5)]; exact t70)) ?_
          rintro r11 F11 G11 ⟨(rfl | rfl), u11⟩
          · dsimp only
            obtain ⟨b11, d11, e11, -⟩ := u11
            have k_12 : 0 ≤ (F11 60).toInt := b11
            have k_13 : sN F ≤ sN F11 := Nat.le_trans (show sN F ≤ sN F4 from k_7) d11
            have k_14 : CB F G G11 := CB.tr (show CB F G G4 from k_8) (show sN F ≤ sN F4 from k_7) e11
            unfold mb_element_77
            refine PP.ite (fun _ => ?_) (fun c_15 => absurd (by decide) c_15)
            unfold mb_element_89
            refine PP.ret ?_
            exact ⟨Or.inl rfl, (show 0 ≤ (F11 60).toInt from k_12), (show sN F ≤ sN F11 from k_13), (show CB F G G11 from k_14), fun h => absurd h (by decide)⟩
          · dsimp only
            obtain ⟨b11, d11, e11, u11⟩ := u11
            obtain ⟨a11, c11⟩ := u11 rfl
            have k_16 : F11 70 = F 70 := a11.trans (show F4 70 = F 70 from k_5)
            have k_17 : 0 ≤ (F11 60).toInt := b11
            have k_18 : sN F ≤ sN F11 := Nat.le_trans (show sN F ≤ sN F4 from k_7) d11
            have k_19 : CB F G G11 := CB.tr (show CB F G G4 from k_8) (show sN F ≤ sN F4 from k_7) e11
            have k_20 : PKp F G G11 := PKp.tr (show PKp F G G4 from k_9) c11 (show F4 70 = F 70 from k_5)
            unfold mb_element_77
            refine PP.ite (fun c_21 => absurd c_21 (by decide)) (fun _ => ?_)
            unfold mb_element_80
            refine PP.bind (mw_closeSign (25 : Int32) F11 G11) ?_
            intro r22 F22 G22 hK22
            dsimp only
            have k_23 : F22 70 = F 70 := (hK22.1 70 rfl).trans (show F11 70 = F 70 from k_16)
            have k_24 : 0 ≤ (F22 60).toInt := by rw [hK22.1 60 rfl]; exact (show 0 ≤ (F11 60).toInt from k_17)
            have k_25 : sN F ≤ sN F22 := S_eq (show sN F ≤ sN F11 from k_18) (hK22.1 60 rfl)
            have k_26 : CB F G G22 := CB.kx (show CB F G G11 from k_19) hK22 rfl rfl rfl rfl
            have k_27 : PKp F G G22 := PKp.kx (show PKp F G G11 from k_20) hK22 rfl rfl
            unfold mb_element_86
            refine PP.ite (fun c_28 => ?_) (fun c_28 => ?_)
            · skip
              unfold mb_element_89
              refine PP.ret ?_
              exact ⟨Or.inl rfl, (show 0 ≤ (F22 60).toInt from k_24), (show sN F ≤ sN F22 from k_25), (show CB F G G22 from k_26), fun h => absurd h (by decide)⟩
            · skip
              unfold mb_element_91
              refine PP.bind (mq_step (6 : Int32) (0 : Int32) (1 : Int32) F22 G22) ?_
              rintro _ F29 G29 ⟨hK29, rfl, e29, g29, n29⟩
              dsimp only
              have k_30 : F29 70 = F 70 := (hK29.1 70 rfl).trans (show F22 70 = F 70 from k_23)
              have k_31 : 0 ≤ (F29 60).toInt := inc60 n29 e29
              have k_32 : sN F ≤ sN F29 := S_st (show sN F ≤ sN F22 from k_25) n29 e29
              have k_33 : CB F G G29 := CB.stp (show CB F G G22 from k_26) (show sN F ≤ sN F22 from k_25) g29
              have k_34 : PKp F G G29 := PKp.kx (show PKp F G G22 from k_27) hK29 rfl rfl
              unfold mb_element_100
              refine PP.ite (fun _ => ?_) (fun c_35 => absurd (by decide) c_35)
              unfold mb_element_120
              unfold mb_element_121
              refine PP.ix (fun _ => ?_)
              unfold mb_element_123
              refine PP.ret ?_
              exact ⟨Or.inr rfl, (show 0 ≤ (F29 60).toInt from k_31), (show sN F ≤ sN F29 from k_32), (show CB F G (gup G29 59 (F22 60).toNatClampNeg (((2 : Int32) * (G 6 (F 42).toNatClampNeg)) + (0 : Int32))) from (CB.g59 (p := sN F22) k_33 k_25)), fun _ => ⟨(show F29 70 = F 70 from k_30), (show PKp F G (gup G29 59 (F22 60).toNatClampNeg (((2 : Int32) * (G 6 (F 42).toNatClampNeg)) + (0 : Int32))) from k_34)⟩⟩
      · skip
        unfold mb_element_48
        refine PP.ix (fun _ => ?_)
        refine PP.ite (fun c_36 => ?_) (fun c_36 => ?_)
        · skip
          unfold mb_element_61
          unfold mb_element_62
          refine PP.bind (mw_openSign (24 : Int32) F G) ?_
          intro r37 F37 G37 hK37
          dsimp only
          have k_38 : F37 70 = F 70 := (hK37.1 70 rfl).trans (show F 70 = F 70 from (rfl : F 70 = F 70))
          have k_39 : 0 ≤ (F37 60).toInt := by rw [hK37.1 60 rfl]; exact (show 0 ≤ (F 60).toInt from t60)
          have k_40 : sN F ≤ sN F37 := S_eq (show sN F ≤ sN F from (Nat.le_refl _ : sN F ≤ sN F)) (hK37.1 60 rfl)
          have k_41 : CB F G G37 := CB.kx (show CB F G G from (fun _ _ => cEq.rf : CB F G G)) hK37 rfl rfl rfl rfl
          have k_42 : PKp F G G37 := PKp.kx (show PKp F G G from (fun _ _ => ⟨rfl, rfl⟩ : PKp F G G)) hK37 rfl rfl
          unfold mb_element_70
          refine PP.ite (fun c_43 => ?_) (fun c_43 => ?_)
          · skip
            unfold mb_element_89
            refine PP.ret ?_
            exact ⟨Or.inl rfl, (show 0 ≤ (F37 60).toInt from k_39), (show sN F ≤ sN F37 from k_40), (show CB F G G37 from k_41), fun h => absurd h (by decide)⟩
          · skip
            unfold mb_element_73
            refine PP.bind (ihC 4 0 0 F37 G37 (show 0 ≤ (F37 60).toInt from k_39) (by rw [(show F37 70 = F 70 from k_38)]; exact t70)) ?_
            rintro r44 F44 G44 ⟨(rfl | rfl), u44⟩
            · dsimp only
              obtain ⟨b44, d44, e44, -⟩ := u44
              have k_45 : 0 ≤ (F44 60).toInt := b44
              have k_46 : sN F ≤ sN F44 := Nat.le_trans (show sN F ≤ sN F37 from k_40) d44
              have k_47 : CB F G G44 := CB.tr (show CB F G G37 from k_41) (show sN F ≤ sN F37 from k_40) e44
              unfold mb_element_77
              refine PP.ite (fun _ => ?_) (fun c_48 => absurd (by decide) c_48)
              unfold mb_element_89
              refine PP.ret ?_
              exact ⟨Or.inl rfl, (show 0 ≤ (F44 60).toInt from k_45), (show sN F ≤ sN F44 from k_46), (show CB F G G44 from k_47), fun h => absurd h (by decide)⟩
            · dsimp only
              obtain ⟨b44, d44, e44, u44⟩ := u44
              obtain ⟨a44, c44⟩ := u44 rfl
              have k_49 : F44 70 = F 70 := a44.trans (show F37 70 = F 70 from k_38)
              have k_50 : 0 ≤ (F44 60).toInt := b44
              have k_51 : sN F ≤ sN F44 := Nat.le_trans (show sN F ≤ sN F37 from k_40) d44
              have k_52 : CB F G G44 := CB.tr (show CB F G G37 from k_41) (show sN F ≤ sN F37 from k_40) e44
              have k_53 : PKp F G G44 := PKp.tr (show PKp F G G37 from k_42) c44 (show F37 70 = F 70 from k_38)
              unfold mb_element_77
              refine PP.ite (fun c_54 => absurd c_54 (by decide)) (fun _ => ?_)
              unfold mb_element_80
              refine PP.bind (mw_closeSign (25 : Int32) F44 G44) ?_
              intro r55 F55 G55 hK55
              dsimp only
              have k_56 : F55 70 = F 70 := (hK55.1 70 rfl).trans (show F44 70 = F 70 from k_49)
              have k_57 : 0 ≤ (F55 60).toInt := by rw [hK55.1 60 rfl]; exact (show 0 ≤ (F44 60).toInt from k_50)
              have k_58 : sN F ≤ sN F55 := S_eq (show sN F ≤ sN F44 from k_51) (hK55.1 60 rfl)
              have k_59 : CB F G G55 := CB.kx (show CB F G G44 from k_52) hK55 rfl rfl rfl rfl
              have k_60 : PKp F G G55 := PKp.kx (show PKp F G G44 from k_53) hK55 rfl rfl
              unfold mb_element_86
              refine PP.ite (fun c_61 => ?_) (fun c_61 => ?_)
              · skip
                unfold mb_element_89
                refine PP.ret ?_
                exact ⟨Or.inl rfl, (show 0 ≤ (F55 60).toInt from k_57), (show sN F ≤ sN F55 from k_58), (show CB F G G55 from k_59), fun h => absurd h (by decide)⟩
              · skip
                unfold mb_element_91
                refine PP.bind (mq_step (6 : Int32) (0 : Int32) (1 : Int32) F55 G55) ?_
                rintro _ F62 G62 ⟨hK62, rfl, e62, g62, n62⟩
                dsimp only
                have k_63 : F62 70 = F 70 := (hK62.1 70 rfl).trans (show F55 70 = F 70 from k_56)
                have k_64 : 0 ≤ (F62 60).toInt := inc60 n62 e62
                have k_65 : sN F ≤ sN F62 := S_st (show sN F ≤ sN F55 from k_58) n62 e62
                have k_66 : CB F G G62 := CB.stp (show CB F G G55 from k_59) (show sN F ≤ sN F55 from k_58) g62
                have k_67 : PKp F G G62 := PKp.kx (show PKp F G G55 from k_60) hK62 rfl rfl
                unfold mb_element_100
                refine PP.ite (fun _ => ?_) (fun c_68 => absurd (by decide) c_68)
                unfold mb_element_120
                unfold mb_element_121
                refine PP.ix (fun _ => ?_)
                unfold mb_element_123
                refine PP.ret ?_
                exact ⟨Or.inr rfl, (show 0 ≤ (F62 60).toInt from k_64), (show sN F ≤ sN F62 from k_65), (show CB F G (gup G62 59 (F55 60).toNatClampNeg (((2 : Int32) * (G 6 (F 42).toNatClampNeg)) + (0 : Int32))) from (CB.g59 (p := sN F55) k_66 k_58)), fun _ => ⟨(show F62 70 = F 70 from k_63), (show PKp F G (gup G62 59 (F55 60).toNatClampNeg (((2 : Int32) * (G 6 (F 42).toNatClampNeg)) + (0 : Int32))) from k_67)⟩⟩
        · skip
          unfold mb_element_57
          unfold mb_element_62
          refine PP.bind (mw_openSign (24 : Int32) F G) ?_
          intro r69 F69 G69 hK69
          dsimp only
          have k_70 : F69 70 = F 70 := (hK69.1 70 rfl).trans (show F 70 = F 70 from (rfl : F 70 = F 70))
          have k_71 : 0 ≤ (F69 60).toInt := by rw [hK69.1 60 rfl]; exact (show 0 ≤ (F 60).toInt from t60)
          have k_72 : sN F ≤ sN F69 := S_eq (show sN F ≤ sN F from (Nat.le_refl _ : sN F ≤ sN F)) (hK69.1 60 rfl)
          have k_73 : CB F G G69 := CB.kx (show CB F G G from (fun _ _ => cEq.rf : CB F G G)) hK69 rfl rfl rfl rfl
          have k_74 : PKp F G G69 := PKp.kx (show PKp F G G from (fun _ _ => ⟨rfl, rfl⟩ : PKp F G G)) hK69 rfl rfl
          unfold mb_element_70
          refine PP.ite (fun c_75 => ?_) (fun c_75 => ?_)
          · skip
            unfold mb_element_89
            refine PP.ret ?_
            exact ⟨Or.inl rfl, (show 0 ≤ (F69 60).toInt from k_71), (show sN F ≤ sN F69 from k_72), (show CB F G G69 from k_73), fun h => absurd h (by decide)⟩
          · skip
            unfold mb_element_73
            refine PP.bind (ihC 4 0 0 F69 G69 (show 0 ≤ (F69 60).toInt from k_71) (by rw [(show F69 70 = F 70 from k_70)]; exact t70)) ?_
            rintro r76 F76 G76 ⟨(rfl | rfl), u76⟩
            · dsimp only
              obtain ⟨b76, d76, e76, -⟩ := u76
              have k_77 : 0 ≤ (F76 60).toInt := b76
              have k_78 : sN F ≤ sN F76 := Nat.le_trans (show sN F ≤ sN F69 from k_72) d76
              have k_79 : CB F G G76 := CB.tr (show CB F G G69 from k_73) (show sN F ≤ sN F69 from k_72) e76
              unfold mb_element_77
              refine PP.ite (fun _ => ?_) (fun c_80 => absurd (by decide) c_80)
              unfold mb_element_89
              refine PP.ret ?_
              exact ⟨Or.inl rfl, (show 0 ≤ (F76 60).toInt from k_77), (show sN F ≤ sN F76 from k_78), (show CB F G G76 from k_79), fun h => absurd h (by decide)⟩
            · dsimp only
              obtain ⟨b76, d76, e76, u76⟩ := u76
              obtain ⟨a76, c76⟩ := u76 rfl
              have k_81 : F76 70 = F 70 := a76.trans (show F69 70 = F 70 from k_70)
              have k_82 : 0 ≤ (F76 60).toInt := b76
              have k_83 : sN F ≤ sN F76 := Nat.le_trans (show sN F ≤ sN F69 from k_72) d76
              have k_84 : CB F G G76 := CB.tr (show CB F G G69 from k_73) (show sN F ≤ sN F69 from k_72) e76
              have k_85 : PKp F G G76 := PKp.tr (show PKp F G G69 from k_74) c76 (show F69 70 = F 70 from k_70)
              unfold mb_element_77
              refine PP.ite (fun c_86 => absurd c_86 (by decide)) (fun _ => ?_)
              unfold mb_element_80
              refine PP.bind (mw_closeSign (25 : Int32) F76 G76) ?_
              intro r87 F87 G87 hK87
              dsimp only
              have k_88 : F87 70 = F 70 := (hK87.1 70 rfl).trans (show F76 70 = F 70 from k_81)
              have k_89 : 0 ≤ (F87 60).toInt := by rw [hK87.1 60 rfl]; exact (show 0 ≤ (F76 60).toInt from k_82)
              have k_90 : sN F ≤ sN F87 := S_eq (show sN F ≤ sN F76 from k_83) (hK87.1 60 rfl)
              have k_91 : CB F G G87 := CB.kx (show CB F G G76 from k_84) hK87 rfl rfl rfl rfl
              have k_92 : PKp F G G87 := PKp.kx (show PKp F G G76 from k_85) hK87 rfl rfl
              unfold mb_element_86
              refine PP.ite (fun c_93 => ?_) (fun c_93 => ?_)
              · skip
                unfold mb_element_89
                refine PP.ret ?_
                exact ⟨Or.inl rfl, (show 0 ≤ (F87 60).toInt from k_89), (show sN F ≤ sN F87 from k_90), (show CB F G G87 from k_91), fun h => absurd h (by decide)⟩
              · skip
                unfold mb_element_91
                refine PP.bind (mq_step (6 : Int32) (0 : Int32) (1 : Int32) F87 G87) ?_
                rintro _ F94 G94 ⟨hK94, rfl, e94, g94, n94⟩
                dsimp only
                have k_95 : F94 70 = F 70 := (hK94.1 70 rfl).trans (show F87 70 = F 70 from k_88)
                have k_96 : 0 ≤ (F94 60).toInt := inc60 n94 e94
                have k_97 : sN F ≤ sN F94 := S_st (show sN F ≤ sN F87 from k_90) n94 e94
                have k_98 : CB F G G94 := CB.stp (show CB F G G87 from k_91) (show sN F ≤ sN F87 from k_90) g94
                have k_99 : PKp F G G94 := PKp.kx (show PKp F G G87 from k_92) hK94 rfl rfl
                unfold mb_element_100
                refine PP.ite (fun c_100 => absurd c_100 (by decide)) (fun _ => ?_)
                unfold mb_element_116
                unfold mb_element_121
                refine PP.ix (fun _ => ?_)
                unfold mb_element_123
                refine PP.ret ?_
                exact ⟨Or.inr rfl, (show 0 ≤ (F94 60).toInt from k_96), (show sN F ≤ sN F94 from k_97), (show CB F G (gup G94 59 (F87 60).toNatClampNeg (((2 : Int32) * (G 6 (F 42).toNatClampNeg)) + (1 : Int32))) from (CB.g59 (p := sN F87) k_98 k_90)), fun _ => ⟨(show F94 70 = F 70 from k_95), (show PKp F G (gup G94 59 (F87 60).toNatClampNeg (((2 : Int32) * (G 6 (F 42).toNatClampNeg)) + (1 : Int32))) from k_99)⟩⟩
    · skip
      unfold mb_element_35
      refine PP.ix (fun _ => ?_)
      unfold mb_element_41
      refine PP.ite (fun c_101 => ?_) (fun c_101 => ?_)
      · skip
        unfold mb_element_61
        unfold mb_element_62
        refine PP.bind (mw_openSign (24 : Int32) F G) ?_
        intro r102 F102 G102 hK102
        dsimp only
        have k_103 : F102 70 = F 70 := (hK102.1 70 rfl).trans (show F 70 = F 70 from (rfl : F 70 = F 70))
        have k_104 : 0 ≤ (F102 60).toInt := by rw [hK102.1 60 rfl]; exact (show 0 ≤ (F 60).toInt from t60)
        have k_105 : sN F ≤ sN F102 := S_eq (show sN F ≤ sN F from (Nat.le_refl _ : sN F ≤ sN F)) (hK102.1 60 rfl)
        have k_106 : CB F G G102 := CB.kx (show CB F G G from (fun _ _ => cEq.rf : CB F G G)) hK102 rfl rfl rfl rfl
        have k_107 : PKp F G G102 := PKp.kx (show PKp F G G from (fun _ _ => ⟨rfl, rfl⟩ : PKp F G G)) hK102 rfl rfl
        unfold mb_element_70
        refine PP.ite (fun c_108 => ?_) (fun c_108 => ?_)
        · skip
          unfold mb_element_89
          refine PP.ret ?_
          exact ⟨Or.inl rfl, (show 0 ≤ (F102 60).toInt from k_104), (show sN F ≤ sN F102 from k_105), (show CB F G G102 from k_106), fun h => absurd h (by decide)⟩
        · skip
          unfold mb_element_73
          refine PP.bind (ihC 4 0 0 F102 G102 (show 0 ≤ (F102 60).toInt from k_104) (by rw [(show F102 70 = F 70 from k_103)]; exact t70)) ?_
          rintro r109 F109 G109 ⟨(rfl | rfl), u109⟩
          · dsimp only
            obtain ⟨b109, d109, e109, -⟩ := u109
            have k_110 : 0 ≤ (F109 60).toInt := b109
            have k_111 : sN F ≤ sN F109 := Nat.le_trans (show sN F ≤ sN F102 from k_105) d109
            have k_112 : CB F G G109 := CB.tr (show CB F G G102 from k_106) (show sN F ≤ sN F102 from k_105) e109
            unfold mb_element_77
            refine PP.ite (fun _ => ?_) (fun c_113 => absurd (by decide) c_113)
            unfold mb_element_89
            refine PP.ret ?_
            exact ⟨Or.inl rfl, (show 0 ≤ (F109 60).toInt from k_110), (show sN F ≤ sN F109 from k_111), (show CB F G G109 from k_112), fun h => absurd h (by decide)⟩
          · dsimp only
            obtain ⟨b109, d109, e109, u109⟩ := u109
            obtain ⟨a109, c109⟩ := u109 rfl
            have k_114 : F109 70 = F 70 := a109.trans (show F102 70 = F 70 from k_103)
            have k_115 : 0 ≤ (F109 60).toInt := b109
            have k_116 : sN F ≤ sN F109 := Nat.le_trans (show sN F ≤ sN F102 from k_105) d109
            have k_117 : CB F G G109 := CB.tr (show CB F G G102 from k_106) (show sN F ≤ sN F102 from k_105) e109
            have k_118 : PKp F G G109 := PKp.tr (show PKp F G G102 from k_107) c109 (show F102 70 = F 70 from k_103)
            unfold mb_element_77
            refine PP.ite (fun c_119 => absurd c_119 (by decide)) (fun _ => ?_)
            unfold mb_element_80
            refine PP.bind (mw_closeSign (25 : Int32) F109 G109) ?_
            intro r120 F120 G120 hK120
            dsimp only
            have k_121 : F120 70 = F 70 := (hK120.1 70 rfl).trans (show F109 70 = F 70 from k_114)
            have k_122 : 0 ≤ (F120 60).toInt := by rw [hK120.1 60 rfl]; exact (show 0 ≤ (F109 60).toInt from k_115)
            have k_123 : sN F ≤ sN F120 := S_eq (show sN F ≤ sN F109 from k_116) (hK120.1 60 rfl)
            have k_124 : CB F G G120 := CB.kx (show CB F G G109 from k_117) hK120 rfl rfl rfl rfl
            have k_125 : PKp F G G120 := PKp.kx (show PKp F G G109 from k_118) hK120 rfl rfl
            unfold mb_element_86
            refine PP.ite (fun c_126 => ?_) (fun c_126 => ?_)
            · skip
              unfold mb_element_89
              refine PP.ret ?_
              exact ⟨Or.inl rfl, (show 0 ≤ (F120 60).toInt from k_122), (show sN F ≤ sN F120 from k_123), (show CB F G G120 from k_124), fun h => absurd h (by decide)⟩
            · skip
              unfold mb_element_91
              refine PP.bind (mq_step (6 : Int32) (0 : Int32) (G 21 x1.toNatClampNeg) F120 G120) ?_
              rintro _ F127 G127 ⟨hK127, rfl, e127, g127, n127⟩
              dsimp only
              have k_128 : F127 70 = F 70 := (hK127.1 70 rfl).trans (show F120 70 = F 70 from k_121)
              have k_129 : 0 ≤ (F127 60).toInt := inc60 n127 e127
              have k_130 : sN F ≤ sN F127 := S_st (show sN F ≤ sN F120 from k_123) n127 e127
              have k_131 : CB F G G127 := CB.stp (show CB F G G120 from k_124) (show sN F ≤ sN F120 from k_123) g127
              have k_132 : PKp F G G127 := PKp.kx (show PKp F G G120 from k_125) hK127 rfl rfl
              unfold mb_element_100
              refine PP.ite (fun _ => ?_) (fun c_133 => absurd (by decide) c_133)
              unfold mb_element_120
              unfold mb_element_121
              refine PP.ix (fun _ => ?_)
              unfold mb_element_123
              refine PP.ret ?_
              exact ⟨Or.inr rfl, (show 0 ≤ (F127 60).toInt from k_129), (show sN F ≤ sN F127 from k_130), (show CB F G (gup G127 59 (F120 60).toNatClampNeg (((2 : Int32) * (G 6 (F 42).toNatClampNeg)) + (0 : Int32))) from (CB.g59 (p := sN F120) k_131 k_123)), fun _ => ⟨(show F127 70 = F 70 from k_128), (show PKp F G (gup G127 59 (F120 60).toNatClampNeg (((2 : Int32) * (G 6 (F 42).toNatClampNeg)) + (0 : Int32))) from k_132)⟩⟩
      · skip
        unfold mb_element_48
        refine PP.ix (fun _ => ?_)
        refine PP.ite (fun c_134 => ?_) (fun c_134 => ?_)
        · skip
          unfold mb_element_61
          unfold mb_element_62
          refine PP.bind (mw_openSign (24 : Int32) F G) ?_
          intro r135 F135 G135 hK135
          dsimp only
          have k_136 : F135 70 = F 70 := (hK135.1 70 rfl).trans (show F 70 = F 70 from (rfl : F 70 = F 70))
          have k_137 : 0 ≤ (F135 60).toInt := by rw [hK135.1 60 rfl]; exact (show 0 ≤ (F 60).toInt from t60)
          have k_138 : sN F ≤ sN F135 := S_eq (show sN F ≤ sN F from (Nat.le_refl _ : sN F ≤ sN F)) (hK135.1 60 rfl)
          have k_139 : CB F G G135 := CB.kx (show CB F G G from (fun _ _ => cEq.rf : CB F G G)) hK135 rfl rfl rfl rfl
          have k_140 : PKp F G G135 := PKp.kx (show PKp F G G from (fun _ _ => ⟨rfl, rfl⟩ : PKp F G G)) hK135 rfl rfl
          unfold mb_element_70
          refine PP.ite (fun c_141 => ?_) (fun c_141 => ?_)
          · skip
            unfold mb_element_89
            refine PP.ret ?_
            exact ⟨Or.inl rfl, (show 0 ≤ (F135 60).toInt from k_137), (show sN F ≤ sN F135 from k_138), (show CB F G G135 from k_139), fun h => absurd h (by decide)⟩
          · skip
            unfold mb_element_73
            refine PP.bind (ihC 4 0 0 F135 G135 (show 0 ≤ (F135 60).toInt from k_137) (by rw [(show F135 70 = F 70 from k_136)]; exact t70)) ?_
            rintro r142 F142 G142 ⟨(rfl | rfl), u142⟩
            · dsimp only
              obtain ⟨b142, d142, e142, -⟩ := u142
              have k_143 : 0 ≤ (F142 60).toInt := b142
              have k_144 : sN F ≤ sN F142 := Nat.le_trans (show sN F ≤ sN F135 from k_138) d142
              have k_145 : CB F G G142 := CB.tr (show CB F G G135 from k_139) (show sN F ≤ sN F135 from k_138) e142
              unfold mb_element_77
              refine PP.ite (fun _ => ?_) (fun c_146 => absurd (by decide) c_146)
              unfold mb_element_89
              refine PP.ret ?_
              exact ⟨Or.inl rfl, (show 0 ≤ (F142 60).toInt from k_143), (show sN F ≤ sN F142 from k_144), (show CB F G G142 from k_145), fun h => absurd h (by decide)⟩
            · dsimp only
              obtain ⟨b142, d142, e142, u142⟩ := u142
              obtain ⟨a142, c142⟩ := u142 rfl
              have k_147 : F142 70 = F 70 := a142.trans (show F135 70 = F 70 from k_136)
              have k_148 : 0 ≤ (F142 60).toInt := b142
              have k_149 : sN F ≤ sN F142 := Nat.le_trans (show sN F ≤ sN F135 from k_138) d142
              have k_150 : CB F G G142 := CB.tr (show CB F G G135 from k_139) (show sN F ≤ sN F135 from k_138) e142
              have k_151 : PKp F G G142 := PKp.tr (show PKp F G G135 from k_140) c142 (show F135 70 = F 70 from k_136)
              unfold mb_element_77
              refine PP.ite (fun c_152 => absurd c_152 (by decide)) (fun _ => ?_)
              unfold mb_element_80
              refine PP.bind (mw_closeSign (25 : Int32) F142 G142) ?_
              intro r153 F153 G153 hK153
              dsimp only
              have k_154 : F153 70 = F 70 := (hK153.1 70 rfl).trans (show F142 70 = F 70 from k_147)
              have k_155 : 0 ≤ (F153 60).toInt := by rw [hK153.1 60 rfl]; exact (show 0 ≤ (F142 60).toInt from k_148)
              have k_156 : sN F ≤ sN F153 := S_eq (show sN F ≤ sN F142 from k_149) (hK153.1 60 rfl)
              have k_157 : CB F G G153 := CB.kx (show CB F G G142 from k_150) hK153 rfl rfl rfl rfl
              have k_158 : PKp F G G153 := PKp.kx (show PKp F G G142 from k_151) hK153 rfl rfl
              unfold mb_element_86
              refine PP.ite (fun c_159 => ?_) (fun c_159 => ?_)
              · skip
                unfold mb_element_89
                refine PP.ret ?_
                exact ⟨Or.inl rfl, (show 0 ≤ (F153 60).toInt from k_155), (show sN F ≤ sN F153 from k_156), (show CB F G G153 from k_157), fun h => absurd h (by decide)⟩
              · skip
                unfold mb_element_91
                refine PP.bind (mq_step (6 : Int32) (0 : Int32) (G 21 x1.toNatClampNeg) F153 G153) ?_
                rintro _ F160 G160 ⟨hK160, rfl, e160, g160, n160⟩
                dsimp only
                have k_161 : F160 70 = F 70 := (hK160.1 70 rfl).trans (show F153 70 = F 70 from k_154)
                have k_162 : 0 ≤ (F160 60).toInt := inc60 n160 e160
                have k_163 : sN F ≤ sN F160 := S_st (show sN F ≤ sN F153 from k_156) n160 e160
                have k_164 : CB F G G160 := CB.stp (show CB F G G153 from k_157) (show sN F ≤ sN F153 from k_156) g160
                have k_165 : PKp F G G160 := PKp.kx (show PKp F G G153 from k_158) hK160 rfl rfl
                unfold mb_element_100
                refine PP.ite (fun _ => ?_) (fun c_166 => absurd (by decide) c_166)
                unfold mb_element_120
                unfold mb_element_121
                refine PP.ix (fun _ => ?_)
                unfold mb_element_123
                refine PP.ret ?_
                exact ⟨Or.inr rfl, (show 0 ≤ (F160 60).toInt from k_162), (show sN F ≤ sN F160 from k_163), (show CB F G (gup G160 59 (F153 60).toNatClampNeg (((2 : Int32) * (G 6 (F 42).toNatClampNeg)) + (0 : Int32))) from (CB.g59 (p := sN F153) k_164 k_156)), fun _ => ⟨(show F160 70 = F 70 from k_161), (show PKp F G (gup G160 59 (F153 60).toNatClampNeg (((2 : Int32) * (G 6 (F 42).toNatClampNeg)) + (0 : Int32))) from k_165)⟩⟩
        · skip
          unfold mb_element_57
          unfold mb_element_62
          refine PP.bind (mw_openSign (24 : Int32) F G) ?_
          intro r167 F167 G167 hK167
          dsimp only
          have k_168 : F167 70 = F 70 := (hK167.1 70 rfl).trans (show F 70 = F 70 from (rfl : F 70 = F 70))
          have k_169 : 0 ≤ (F167 60).toInt := by rw [hK167.1 60 rfl]; exact (show 0 ≤ (F 60).toInt from t60)
          have k_170 : sN F ≤ sN F167 := S_eq (show sN F ≤ sN F from (Nat.le_refl _ : sN F ≤ sN F)) (hK167.1 60 rfl)
          have k_171 : CB F G G167 := CB.kx (show CB F G G from (fun _ _ => cEq.rf : CB F G G)) hK167 rfl rfl rfl rfl
          have k_172 : PKp F G G167 := PKp.kx (show PKp F G G from (fun _ _ => ⟨rfl, rfl⟩ : PKp F G G)) hK167 rfl rfl
          unfold mb_element_70
          refine PP.ite (fun c_173 => ?_) (fun c_173 => ?_)
          · skip
            unfold mb_element_89
            refine PP.ret ?_
            exact ⟨Or.inl rfl, (show 0 ≤ (F167 60).toInt from k_169), (show sN F ≤ sN F167 from k_170), (show CB F G G167 from k_171), fun h => absurd h (by decide)⟩
          · skip
            unfold mb_element_73
            refine PP.bind (ihC 4 0 0 F167 G167 (show 0 ≤ (F167 60).toInt from k_169) (by rw [(show F167 70 = F 70 from k_168)]; exact t70)) ?_
            rintro r174 F174 G174 ⟨(rfl | rfl), u174⟩
            · dsimp only
              obtain ⟨b174, d174, e174, -⟩ := u174
              have k_175 : 0 ≤ (F174 60).toInt := b174
              have k_176 : sN F ≤ sN F174 := Nat.le_trans (show sN F ≤ sN F167 from k_170) d174
              have k_177 : CB F G G174 := CB.tr (show CB F G G167 from k_171) (show sN F ≤ sN F167 from k_170) e174
              unfold mb_element_77
              refine PP.ite (fun _ => ?_) (fun c_178 => absurd (by decide) c_178)
              unfold mb_element_89
              refine PP.ret ?_
              exact ⟨Or.inl rfl, (show 0 ≤ (F174 60).toInt from k_175), (show sN F ≤ sN F174 from k_176), (show CB F G G174 from k_177), fun h => absurd h (by decide)⟩
            · dsimp only
              obtain ⟨b174, d174, e174, u174⟩ := u174
              obtain ⟨a174, c174⟩ := u174 rfl
              have k_179 : F174 70 = F 70 := a174.trans (show F167 70 = F 70 from k_168)
              have k_180 : 0 ≤ (F174 60).toInt := b174
              have k_181 : sN F ≤ sN F174 := Nat.le_trans (show sN F ≤ sN F167 from k_170) d174
              have k_182 : CB F G G174 := CB.tr (show CB F G G167 from k_171) (show sN F ≤ sN F167 from k_170) e174
              have k_183 : PKp F G G174 := PKp.tr (show PKp F G G167 from k_172) c174 (show F167 70 = F 70 from k_168)
              unfold mb_element_77
              refine PP.ite (fun c_184 => absurd c_184 (by decide)) (fun _ => ?_)
              unfold mb_element_80
              refine PP.bind (mw_closeSign (25 : Int32) F174 G174) ?_
              intro r185 F185 G185 hK185
              dsimp only
              have k_186 : F185 70 = F 70 := (hK185.1 70 rfl).trans (show F174 70 = F 70 from k_179)
              have k_187 : 0 ≤ (F185 60).toInt := by rw [hK185.1 60 rfl]; exact (show 0 ≤ (F174 60).toInt from k_180)
              have k_188 : sN F ≤ sN F185 := S_eq (show sN F ≤ sN F174 from k_181) (hK185.1 60 rfl)
              have k_189 : CB F G G185 := CB.kx (show CB F G G174 from k_182) hK185 rfl rfl rfl rfl
              have k_190 : PKp F G G185 := PKp.kx (show PKp F G G174 from k_183) hK185 rfl rfl
              unfold mb_element_86
              refine PP.ite (fun c_191 => ?_) (fun c_191 => ?_)
              · skip
                unfold mb_element_89
                refine PP.ret ?_
                exact ⟨Or.inl rfl, (show 0 ≤ (F185 60).toInt from k_187), (show sN F ≤ sN F185 from k_188), (show CB F G G185 from k_189), fun h => absurd h (by decide)⟩
              · skip
                unfold mb_element_91
                refine PP.bind (mq_step (6 : Int32) (0 : Int32) (G 21 x1.toNatClampNeg) F185 G185) ?_
                rintro _ F192 G192 ⟨hK192, rfl, e192, g192, n192⟩
                dsimp only
                have k_193 : F192 70 = F 70 := (hK192.1 70 rfl).trans (show F185 70 = F 70 from k_186)
                have k_194 : 0 ≤ (F192 60).toInt := inc60 n192 e192
                have k_195 : sN F ≤ sN F192 := S_st (show sN F ≤ sN F185 from k_188) n192 e192
                have k_196 : CB F G G192 := CB.stp (show CB F G G185 from k_189) (show sN F ≤ sN F185 from k_188) g192
                have k_197 : PKp F G G192 := PKp.kx (show PKp F G G185 from k_190) hK192 rfl rfl
                unfold mb_element_100
                refine PP.ite (fun c_198 => absurd c_198 (by decide)) (fun _ => ?_)
                unfold mb_element_116
                unfold mb_element_121
                refine PP.ix (fun _ => ?_)
                unfold mb_element_123
                refine PP.ret ?_
                exact ⟨Or.inr rfl, (show 0 ≤ (F192 60).toInt from k_194), (show sN F ≤ sN F192 from k_195), (show CB F G (gup G192 59 (F185 60).toNatClampNeg (((2 : Int32) * (G 6 (F 42).toNatClampNeg)) + (1 : Int32))) from (CB.g59 (p := sN F185) k_196 k_188)), fun _ => ⟨(show F192 70 = F 70 from k_193), (show PKp F G (gup G192 59 (F185 60).toNatClampNeg (((2 : Int32) * (G 6 (F 42).toNatClampNeg)) + (1 : Int32))) from k_197)⟩⟩
  · skip
    unfold mb_element_19
    refine PP.ix (fun _ => ?_)
    unfold mb_element_25
    refine PP.ite (fun c_199 => ?_) (fun c_199 => ?_)
    · skip
      unfold mb_element_31
      unfold mb_element_41
      refine PP.ite (fun c_200 => ?_) (fun c_200 => ?_)
      · skip
        unfold mb_element_61
        unfold mb_element_62
        refine PP.bind (mw_openSign (24 : Int32) F G) ?_
        intro r201 F201 G201 hK201
        dsimp only
        have k_202 : F201 70 = F 70 := (hK201.1 70 rfl).trans (show F 70 = F 70 from (rfl : F 70 = F 70))
        have k_203 : 0 ≤ (F201 60).toInt := by rw [hK201.1 60 rfl]; exact (show 0 ≤ (F 60).toInt from t60)
        have k_204 : sN F ≤ sN F201 := S_eq (show sN F ≤ sN F from (Nat.le_refl _ : sN F ≤ sN F)) (hK201.1 60 rfl)
        have k_205 : CB F G G201 := CB.kx (show CB F G G from (fun _ _ => cEq.rf : CB F G G)) hK201 rfl rfl rfl rfl
        have k_206 : PKp F G G201 := PKp.kx (show PKp F G G from (fun _ _ => ⟨rfl, rfl⟩ : PKp F G G)) hK201 rfl rfl
        unfold mb_element_70
        refine PP.ite (fun c_207 => ?_) (fun c_207 => ?_)
        · skip
          unfold mb_element_89
          refine PP.ret ?_
          exact ⟨Or.inl rfl, (show 0 ≤ (F201 60).toInt from k_203), (show sN F ≤ sN F201 from k_204), (show CB F G G201 from k_205), fun h => absurd h (by decide)⟩
        · skip
          unfold mb_element_73
          refine PP.bind (ihC 4 0 0 F201 G201 (show 0 ≤ (F201 60).toInt from k_203) (by rw [(show F201 70 = F 70 from k_202)]; exact t70)) ?_
          rintro r208 F208 G208 ⟨(rfl | rfl), u208⟩
          · dsimp only
            obtain ⟨b208, d208, e208, -⟩ := u208
            have k_209 : 0 ≤ (F208 60).toInt := b208
            have k_210 : sN F ≤ sN F208 := Nat.le_trans (show sN F ≤ sN F201 from k_204) d208
            have k_211 : CB F G G208 := CB.tr (show CB F G G201 from k_205) (show sN F ≤ sN F201 from k_204) e208
            unfold mb_element_77
            refine PP.ite (fun _ => ?_) (fun c_212 => absurd (by decide) c_212)
            unfold mb_element_89
            refine PP.ret ?_
            exact ⟨Or.inl rfl, (show 0 ≤ (F208 60).toInt from k_209), (show sN F ≤ sN F208 from k_210), (show CB F G G208 from k_211), fun h => absurd h (by decide)⟩
          · dsimp only
            obtain ⟨b208, d208, e208, u208⟩ := u208
            obtain ⟨a208, c208⟩ := u208 rfl
            have k_213 : F208 70 = F 70 := a208.trans (show F201 70 = F 70 from k_202)
            have k_214 : 0 ≤ (F208 60).toInt := b208
            have k_215 : sN F ≤ sN F208 := Nat.le_trans (show sN F ≤ sN F201 from k_204) d208
            have k_216 : CB F G G208 := CB.tr (show CB F G G201 from k_205) (show sN F ≤ sN F201 from k_204) e208
            have k_217 : PKp F G G208 := PKp.tr (show PKp F G G201 from k_206) c208 (show F201 70 = F 70 from k_202)
            unfold mb_element_77
            refine PP.ite (fun c_218 => absurd c_218 (by decide)) (fun _ => ?_)
            unfold mb_element_80
            refine PP.bind (mw_closeSign (25 : Int32) F208 G208) ?_
            intro r219 F219 G219 hK219
            dsimp only
            have k_220 : F219 70 = F 70 := (hK219.1 70 rfl).trans (show F208 70 = F 70 from k_213)
            have k_221 : 0 ≤ (F219 60).toInt := by rw [hK219.1 60 rfl]; exact (show 0 ≤ (F208 60).toInt from k_214)
            have k_222 : sN F ≤ sN F219 := S_eq (show sN F ≤ sN F208 from k_215) (hK219.1 60 rfl)
            have k_223 : CB F G G219 := CB.kx (show CB F G G208 from k_216) hK219 rfl rfl rfl rfl
            have k_224 : PKp F G G219 := PKp.kx (show PKp F G G208 from k_217) hK219 rfl rfl
            unfold mb_element_86
            refine PP.ite (fun c_225 => ?_) (fun c_225 => ?_)
            · skip
              unfold mb_element_89
              refine PP.ret ?_
              exact ⟨Or.inl rfl, (show 0 ≤ (F219 60).toInt from k_221), (show sN F ≤ sN F219 from k_222), (show CB F G G219 from k_223), fun h => absurd h (by decide)⟩
            · skip
              unfold mb_element_91
              refine PP.bind (mq_step (6 : Int32) (G 20 x1.toNatClampNeg) (1 : Int32) F219 G219) ?_
              rintro _ F226 G226 ⟨hK226, rfl, e226, g226, n226⟩
              dsimp only
              have k_227 : F226 70 = F 70 := (hK226.1 70 rfl).trans (show F219 70 = F 70 from k_220)
              have k_228 : 0 ≤ (F226 60).toInt := inc60 n226 e226
              have k_229 : sN F ≤ sN F226 := S_st (show sN F ≤ sN F219 from k_222) n226 e226
              have k_230 : CB F G G226 := CB.stp (show CB F G G219 from k_223) (show sN F ≤ sN F219 from k_222) g226
              have k_231 : PKp F G G226 := PKp.kx (show PKp F G G219 from k_224) hK226 rfl rfl
              unfold mb_element_100
              refine PP.ite (fun _ => ?_) (fun c_232 => absurd (by decide) c_232)
              unfold mb_element_120
              unfold mb_element_121
              refine PP.ix (fun _ => ?_)
              unfold mb_element_123
              refine PP.ret ?_
              exact ⟨Or.inr rfl, (show 0 ≤ (F226 60).toInt from k_228), (show sN F ≤ sN F226 from k_229), (show CB F G (gup G226 59 (F219 60).toNatClampNeg (((2 : Int32) * (G 6 (F 42).toNatClampNeg)) + (0 : Int32))) from (CB.g59 (p := sN F219) k_230 k_222)), fun _ => ⟨(show F226 70 = F 70 from k_227), (show PKp F G (gup G226 59 (F219 60).toNatClampNeg (((2 : Int32) * (G 6 (F 42).toNatClampNeg)) + (0 : Int32))) from k_231)⟩⟩
      · skip
        unfold mb_element_48
        refine PP.ix (fun _ => ?_)
        refine PP.ite (fun c_233 => ?_) (fun c_233 => ?_)
        · skip
          unfold mb_element_61
          unfold mb_element_62
          refine PP.bind (mw_openSign (24 : Int32) F G) ?_
          intro r234 F234 G234 hK234
          dsimp only
          have k_235 : F234 70 = F 70 := (hK234.1 70 rfl).trans (show F 70 = F 70 from (rfl : F 70 = F 70))
          have k_236 : 0 ≤ (F234 60).toInt := by rw [hK234.1 60 rfl]; exact (show 0 ≤ (F 60).toInt from t60)
          have k_237 : sN F ≤ sN F234 := S_eq (show sN F ≤ sN F from (Nat.le_refl _ : sN F ≤ sN F)) (hK234.1 60 rfl)
          have k_238 : CB F G G234 := CB.kx (show CB F G G from (fun _ _ => cEq.rf : CB F G G)) hK234 rfl rfl rfl rfl
          have k_239 : PKp F G G234 := PKp.kx (show PKp F G G from (fun _ _ => ⟨rfl, rfl⟩ : PKp F G G)) hK234 rfl rfl
          unfold mb_element_70
          refine PP.ite (fun c_240 => ?_) (fun c_240 => ?_)
          · skip
            unfold mb_element_89
            refine PP.ret ?_
            exact ⟨Or.inl rfl, (show 0 ≤ (F234 60).toInt from k_236), (show sN F ≤ sN F234 from k_237), (show CB F G G234 from k_238), fun h => absurd h (by decide)⟩
          · skip
            unfold mb_element_73
            refine PP.bind (ihC 4 0 0 F234 G234 (show 0 ≤ (F234 60).toInt from k_236) (by rw [(show F234 70 = F 70 from k_235)]; exact t70)) ?_
            rintro r241 F241 G241 ⟨(rfl | rfl), u241⟩
            · dsimp only
              obtain ⟨b241, d241, e241, -⟩ := u241
              have k_242 : 0 ≤ (F241 60).toInt := b241
              have k_243 : sN F ≤ sN F241 := Nat.le_trans (show sN F ≤ sN F234 from k_237) d241
              have k_244 : CB F G G241 := CB.tr (show CB F G G234 from k_238) (show sN F ≤ sN F234 from k_237) e241
              unfold mb_element_77
              refine PP.ite (fun _ => ?_) (fun c_245 => absurd (by decide) c_245)
              unfold mb_element_89
              refine PP.ret ?_
              exact ⟨Or.inl rfl, (show 0 ≤ (F241 60).toInt from k_242), (show sN F ≤ sN F241 from k_243), (show CB F G G241 from k_244), fun h => absurd h (by decide)⟩
            · dsimp only
              obtain ⟨b241, d241, e241, u241⟩ := u241
              obtain ⟨a241, c241⟩ := u241 rfl
              have k_246 : F241 70 = F 70 := a241.trans (show F234 70 = F 70 from k_235)
              have k_247 : 0 ≤ (F241 60).toInt := b241
              have k_248 : sN F ≤ sN F241 := Nat.le_trans (show sN F ≤ sN F234 from k_237) d241
              have k_249 : CB F G G241 := CB.tr (show CB F G G234 from k_238) (show sN F ≤ sN F234 from k_237) e241
              have k_250 : PKp F G G241 := PKp.tr (show PKp F G G234 from k_239) c241 (show F234 70 = F 70 from k_235)
              unfold mb_element_77
              refine PP.ite (fun c_251 => absurd c_251 (by decide)) (fun _ => ?_)
              unfold mb_element_80
              refine PP.bind (mw_closeSign (25 : Int32) F241 G241) ?_
              intro r252 F252 G252 hK252
              dsimp only
              have k_253 : F252 70 = F 70 := (hK252.1 70 rfl).trans (show F241 70 = F 70 from k_246)
              have k_254 : 0 ≤ (F252 60).toInt := by rw [hK252.1 60 rfl]; exact (show 0 ≤ (F241 60).toInt from k_247)
              have k_255 : sN F ≤ sN F252 := S_eq (show sN F ≤ sN F241 from k_248) (hK252.1 60 rfl)
              have k_256 : CB F G G252 := CB.kx (show CB F G G241 from k_249) hK252 rfl rfl rfl rfl
              have k_257 : PKp F G G252 := PKp.kx (show PKp F G G241 from k_250) hK252 rfl rfl
              unfold mb_element_86
              refine PP.ite (fun c_258 => ?_) (fun c_258 => ?_)
              · skip
                unfold mb_element_89
                refine PP.ret ?_
                exact ⟨Or.inl rfl, (show 0 ≤ (F252 60).toInt from k_254), (show sN F ≤ sN F252 from k_255), (show CB F G G252 from k_256), fun h => absurd h (by decide)⟩
              · skip
                unfold mb_element_91
                refine PP.bind (mq_step (6 : Int32) (G 20 x1.toNatClampNeg) (1 : Int32) F252 G252) ?_
                rintro _ F259 G259 ⟨hK259, rfl, e259, g259, n259⟩
                dsimp only
                have k_260 : F259 70 = F 70 := (hK259.1 70 rfl).trans (show F252 70 = F 70 from k_253)
                have k_261 : 0 ≤ (F259 60).toInt := inc60 n259 e259
                have k_262 : sN F ≤ sN F259 := S_st (show sN F ≤ sN F252 from k_255) n259 e259
                have k_263 : CB F G G259 := CB.stp (show CB F G G252 from k_256) (show sN F ≤ sN F252 from k_255) g259
                have k_264 : PKp F G G259 := PKp.kx (show PKp F G G252 from k_257) hK259 rfl rfl
                unfold mb_element_100
                refine PP.ite (fun _ => ?_) (fun c_265 => absurd (by decide) c_265)
                unfold mb_element_120
                unfold mb_element_121
                refine PP.ix (fun _ => ?_)
                unfold mb_element_123
                refine PP.ret ?_
                exact ⟨Or.inr rfl, (show 0 ≤ (F259 60).toInt from k_261), (show sN F ≤ sN F259 from k_262), (show CB F G (gup G259 59 (F252 60).toNatClampNeg (((2 : Int32) * (G 6 (F 42).toNatClampNeg)) + (0 : Int32))) from (CB.g59 (p := sN F252) k_263 k_255)), fun _ => ⟨(show F259 70 = F 70 from k_260), (show PKp F G (gup G259 59 (F252 60).toNatClampNeg (((2 : Int32) * (G 6 (F 42).toNatClampNeg)) + (0 : Int32))) from k_264)⟩⟩
        · skip
          unfold mb_element_57
          unfold mb_element_62
          refine PP.bind (mw_openSign (24 : Int32) F G) ?_
          intro r266 F266 G266 hK266
          dsimp only
          have k_267 : F266 70 = F 70 := (hK266.1 70 rfl).trans (show F 70 = F 70 from (rfl : F 70 = F 70))
          have k_268 : 0 ≤ (F266 60).toInt := by rw [hK266.1 60 rfl]; exact (show 0 ≤ (F 60).toInt from t60)
          have k_269 : sN F ≤ sN F266 := S_eq (show sN F ≤ sN F from (Nat.le_refl _ : sN F ≤ sN F)) (hK266.1 60 rfl)
          have k_270 : CB F G G266 := CB.kx (show CB F G G from (fun _ _ => cEq.rf : CB F G G)) hK266 rfl rfl rfl rfl
          have k_271 : PKp F G G266 := PKp.kx (show PKp F G G from (fun _ _ => ⟨rfl, rfl⟩ : PKp F G G)) hK266 rfl rfl
          unfold mb_element_70
          refine PP.ite (fun c_272 => ?_) (fun c_272 => ?_)
          · skip
            unfold mb_element_89
            refine PP.ret ?_
            exact ⟨Or.inl rfl, (show 0 ≤ (F266 60).toInt from k_268), (show sN F ≤ sN F266 from k_269), (show CB F G G266 from k_270), fun h => absurd h (by decide)⟩
          · skip
            unfold mb_element_73
            refine PP.bind (ihC 4 0 0 F266 G266 (show 0 ≤ (F266 60).toInt from k_268) (by rw [(show F266 70 = F 70 from k_267)]; exact t70)) ?_
            rintro r273 F273 G273 ⟨(rfl | rfl), u273⟩
            · dsimp only
              obtain ⟨b273, d273, e273, -⟩ := u273
              have k_274 : 0 ≤ (F273 60).toInt := b273
              have k_275 : sN F ≤ sN F273 := Nat.le_trans (show sN F ≤ sN F266 from k_269) d273
              have k_276 : CB F G G273 := CB.tr (show CB F G G266 from k_270) (show sN F ≤ sN F266 from k_269) e273
              unfold mb_element_77
              refine PP.ite (fun _ => ?_) (fun c_277 => absurd (by decide) c_277)
              unfold mb_element_89
              refine PP.ret ?_
              exact ⟨Or.inl rfl, (show 0 ≤ (F273 60).toInt from k_274), (show sN F ≤ sN F273 from k_275), (show CB F G G273 from k_276), fun h => absurd h (by decide)⟩
            · dsimp only
              obtain ⟨b273, d273, e273, u273⟩ := u273
              obtain ⟨a273, c273⟩ := u273 rfl
              have k_278 : F273 70 = F 70 := a273.trans (show F266 70 = F 70 from k_267)
              have k_279 : 0 ≤ (F273 60).toInt := b273
              have k_280 : sN F ≤ sN F273 := Nat.le_trans (show sN F ≤ sN F266 from k_269) d273
              have k_281 : CB F G G273 := CB.tr (show CB F G G266 from k_270) (show sN F ≤ sN F266 from k_269) e273
              have k_282 : PKp F G G273 := PKp.tr (show PKp F G G266 from k_271) c273 (show F266 70 = F 70 from k_267)
              unfold mb_element_77
              refine PP.ite (fun c_283 => absurd c_283 (by decide)) (fun _ => ?_)
              unfold mb_element_80
              refine PP.bind (mw_closeSign (25 : Int32) F273 G273) ?_
              intro r284 F284 G284 hK284
              dsimp only
              have k_285 : F284 70 = F 70 := (hK284.1 70 rfl).trans (show F273 70 = F 70 from k_278)
              have k_286 : 0 ≤ (F284 60).toInt := by rw [hK284.1 60 rfl]; exact (show 0 ≤ (F273 60).toInt from k_279)
              have k_287 : sN F ≤ sN F284 := S_eq (show sN F ≤ sN F273 from k_280) (hK284.1 60 rfl)
              have k_288 : CB F G G284 := CB.kx (show CB F G G273 from k_281) hK284 rfl rfl rfl rfl
              have k_289 : PKp F G G284 := PKp.kx (show PKp F G G273 from k_282) hK284 rfl rfl
              unfold mb_element_86
              refine PP.ite (fun c_290 => ?_) (fun c_290 => ?_)
              · skip
                unfold mb_element_89
                refine PP.ret ?_
                exact ⟨Or.inl rfl, (show 0 ≤ (F284 60).toInt from k_286), (show sN F ≤ sN F284 from k_287), (show CB F G G284 from k_288), fun h => absurd h (by decide)⟩
              · skip
                unfold mb_element_91
                refine PP.bind (mq_step (6 : Int32) (G 20 x1.toNatClampNeg) (1 : Int32) F284 G284) ?_
                rintro _ F291 G291 ⟨hK291, rfl, e291, g291, n291⟩
                dsimp only
                have k_292 : F291 70 = F 70 := (hK291.1 70 rfl).trans (show F284 70 = F 70 from k_285)
                have k_293 : 0 ≤ (F291 60).toInt := inc60 n291 e291
                have k_294 : sN F ≤ sN F291 := S_st (show sN F ≤ sN F284 from k_287) n291 e291
                have k_295 : CB F G G291 := CB.stp (show CB F G G284 from k_288) (show sN F ≤ sN F284 from k_287) g291
                have k_296 : PKp F G G291 := PKp.kx (show PKp F G G284 from k_289) hK291 rfl rfl
                unfold mb_element_100
                refine PP.ite (fun c_297 => absurd c_297 (by decide)) (fun _ => ?_)
                unfold mb_element_116
                unfold mb_element_121
                refine PP.ix (fun _ => ?_)
                unfold mb_element_123
                refine PP.ret ?_
                exact ⟨Or.inr rfl, (show 0 ≤ (F291 60).toInt from k_293), (show sN F ≤ sN F291 from k_294), (show CB F G (gup G291 59 (F284 60).toNatClampNeg (((2 : Int32) * (G 6 (F 42).toNatClampNeg)) + (1 : Int32))) from (CB.g59 (p := sN F284) k_295 k_287)), fun _ => ⟨(show F291 70 = F 70 from k_292), (show PKp F G (gup G291 59 (F284 60).toNatClampNeg (((2 : Int32) * (G 6 (F 42).toNatClampNeg)) + (1 : Int32))) from k_296)⟩⟩
    · skip
      unfold mb_element_35
      refine PP.ix (fun _ => ?_)
      unfold mb_element_41
      refine PP.ite (fun c_298 => ?_) (fun c_298 => ?_)
      · skip
        unfold mb_element_61
        unfold mb_element_62
        refine PP.bind (mw_openSign (24 : Int32) F G) ?_
        intro r299 F299 G299 hK299
        dsimp only
        have k_300 : F299 70 = F 70 := (hK299.1 70 rfl).trans (show F 70 = F 70 from (rfl : F 70 = F 70))
        have k_301 : 0 ≤ (F299 60).toInt := by rw [hK299.1 60 rfl]; exact (show 0 ≤ (F 60).toInt from t60)
        have k_302 : sN F ≤ sN F299 := S_eq (show sN F ≤ sN F from (Nat.le_refl _ : sN F ≤ sN F)) (hK299.1 60 rfl)
        have k_303 : CB F G G299 := CB.kx (show CB F G G from (fun _ _ => cEq.rf : CB F G G)) hK299 rfl rfl rfl rfl
        have k_304 : PKp F G G299 := PKp.kx (show PKp F G G from (fun _ _ => ⟨rfl, rfl⟩ : PKp F G G)) hK299 rfl rfl
        unfold mb_element_70
        refine PP.ite (fun c_305 => ?_) (fun c_305 => ?_)
        · skip
          unfold mb_element_89
          refine PP.ret ?_
          exact ⟨Or.inl rfl, (show 0 ≤ (F299 60).toInt from k_301), (show sN F ≤ sN F299 from k_302), (show CB F G G299 from k_303), fun h => absurd h (by decide)⟩
        · skip
          unfold mb_element_73
          refine PP.bind (ihC 4 0 0 F299 G299 (show 0 ≤ (F299 60).toInt from k_301) (by rw [(show F299 70 = F 70 from k_300)]; exact t70)) ?_
          rintro r306 F306 G306 ⟨(rfl | rfl), u306⟩
          · dsimp only
            obtain ⟨b306, d306, e306, -⟩ := u306
            have k_307 : 0 ≤ (F306 60).toInt := b306
            have k_308 : sN F ≤ sN F306 := Nat.le_trans (show sN F ≤ sN F299 from k_302) d306
            have k_309 : CB F G G306 := CB.tr (show CB F G G299 from k_303) (show sN F ≤ sN F299 from k_302) e306
            unfold mb_element_77
            refine PP.ite (fun _ => ?_) (fun c_310 => absurd (by decide) c_310)
            unfold mb_element_89
            refine PP.ret ?_
            exact ⟨Or.inl rfl, (show 0 ≤ (F306 60).toInt from k_307), (show sN F ≤ sN F306 from k_308), (show CB F G G306 from k_309), fun h => absurd h (by decide)⟩
          · dsimp only
            obtain ⟨b306, d306, e306, u306⟩ := u306
            obtain ⟨a306, c306⟩ := u306 rfl
            have k_311 : F306 70 = F 70 := a306.trans (show F299 70 = F 70 from k_300)
            have k_312 : 0 ≤ (F306 60).toInt := b306
            have k_313 : sN F ≤ sN F306 := Nat.le_trans (show sN F ≤ sN F299 from k_302) d306
            have k_314 : CB F G G306 := CB.tr (show CB F G G299 from k_303) (show sN F ≤ sN F299 from k_302) e306
            have k_315 : PKp F G G306 := PKp.tr (show PKp F G G299 from k_304) c306 (show F299 70 = F 70 from k_300)
            unfold mb_element_77
            refine PP.ite (fun c_316 => absurd c_316 (by decide)) (fun _ => ?_)
            unfold mb_element_80
            refine PP.bind (mw_closeSign (25 : Int32) F306 G306) ?_
            intro r317 F317 G317 hK317
            dsimp only
            have k_318 : F317 70 = F 70 := (hK317.1 70 rfl).trans (show F306 70 = F 70 from k_311)
            have k_319 : 0 ≤ (F317 60).toInt := by rw [hK317.1 60 rfl]; exact (show 0 ≤ (F306 60).toInt from k_312)
            have k_320 : sN F ≤ sN F317 := S_eq (show sN F ≤ sN F306 from k_313) (hK317.1 60 rfl)
            have k_321 : CB F G G317 := CB.kx (show CB F G G306 from k_314) hK317 rfl rfl rfl rfl
            have k_322 : PKp F G G317 := PKp.kx (show PKp F G G306 from k_315) hK317 rfl rfl
            unfold mb_element_86
            refine PP.ite (fun c_323 => ?_) (fun c_323 => ?_)
            · skip
              unfold mb_element_89
              refine PP.ret ?_
              exact ⟨Or.inl rfl, (show 0 ≤ (F317 60).toInt from k_319), (show sN F ≤ sN F317 from k_320), (show CB F G G317 from k_321), fun h => absurd h (by decide)⟩
            · skip
              unfold mb_element_91
              refine PP.bind (mq_step (6 : Int32) (G 20 x1.toNatClampNeg) (G 21 x1.toNatClampNeg) F317 G317) ?_
              rintro _ F324 G324 ⟨hK324, rfl, e324, g324, n324⟩
              dsimp only
              have k_325 : F324 70 = F 70 := (hK324.1 70 rfl).trans (show F317 70 = F 70 from k_318)
              have k_326 : 0 ≤ (F324 60).toInt := inc60 n324 e324
              have k_327 : sN F ≤ sN F324 := S_st (show sN F ≤ sN F317 from k_320) n324 e324
              have k_328 : CB F G G324 := CB.stp (show CB F G G317 from k_321) (show sN F ≤ sN F317 from k_320) g324
              have k_329 : PKp F G G324 := PKp.kx (show PKp F G G317 from k_322) hK324 rfl rfl
              unfold mb_element_100
              refine PP.ite (fun _ => ?_) (fun c_330 => absurd (by decide) c_330)
              unfold mb_element_120
              unfold mb_element_121
              refine PP.ix (fun _ => ?_)
              unfold mb_element_123
              refine PP.ret ?_
              exact ⟨Or.inr rfl, (show 0 ≤ (F324 60).toInt from k_326), (show sN F ≤ sN F324 from k_327), (show CB F G (gup G324 59 (F317 60).toNatClampNeg (((2 : Int32) * (G 6 (F 42).toNatClampNeg)) + (0 : Int32))) from (CB.g59 (p := sN F317) k_328 k_320)), fun _ => ⟨(show F324 70 = F 70 from k_325), (show PKp F G (gup G324 59 (F317 60).toNatClampNeg (((2 : Int32) * (G 6 (F 42).toNatClampNeg)) + (0 : Int32))) from k_329)⟩⟩
      · skip
        unfold mb_element_48
        refine PP.ix (fun _ => ?_)
        refine PP.ite (fun c_331 => ?_) (fun c_331 => ?_)
        · skip
          unfold mb_element_61
          unfold mb_element_62
          refine PP.bind (mw_openSign (24 : Int32) F G) ?_
          intro r332 F332 G332 hK332
          dsimp only
          have k_333 : F332 70 = F 70 := (hK332.1 70 rfl).trans (show F 70 = F 70 from (rfl : F 70 = F 70))
          have k_334 : 0 ≤ (F332 60).toInt := by rw [hK332.1 60 rfl]; exact (show 0 ≤ (F 60).toInt from t60)
          have k_335 : sN F ≤ sN F332 := S_eq (show sN F ≤ sN F from (Nat.le_refl _ : sN F ≤ sN F)) (hK332.1 60 rfl)
          have k_336 : CB F G G332 := CB.kx (show CB F G G from (fun _ _ => cEq.rf : CB F G G)) hK332 rfl rfl rfl rfl
          have k_337 : PKp F G G332 := PKp.kx (show PKp F G G from (fun _ _ => ⟨rfl, rfl⟩ : PKp F G G)) hK332 rfl rfl
          unfold mb_element_70
          refine PP.ite (fun c_338 => ?_) (fun c_338 => ?_)
          · skip
            unfold mb_element_89
            refine PP.ret ?_
            exact ⟨Or.inl rfl, (show 0 ≤ (F332 60).toInt from k_334), (show sN F ≤ sN F332 from k_335), (show CB F G G332 from k_336), fun h => absurd h (by decide)⟩
          · skip
            unfold mb_element_73
            refine PP.bind (ihC 4 0 0 F332 G332 (show 0 ≤ (F332 60).toInt from k_334) (by rw [(show F332 70 = F 70 from k_333)]; exact t70)) ?_
            rintro r339 F339 G339 ⟨(rfl | rfl), u339⟩
            · dsimp only
              obtain ⟨b339, d339, e339, -⟩ := u339
              have k_340 : 0 ≤ (F339 60).toInt := b339
              have k_341 : sN F ≤ sN F339 := Nat.le_trans (show sN F ≤ sN F332 from k_335) d339
              have k_342 : CB F G G339 := CB.tr (show CB F G G332 from k_336) (show sN F ≤ sN F332 from k_335) e339
              unfold mb_element_77
              refine PP.ite (fun _ => ?_) (fun c_343 => absurd (by decide) c_343)
              unfold mb_element_89
              refine PP.ret ?_
              exact ⟨Or.inl rfl, (show 0 ≤ (F339 60).toInt from k_340), (show sN F ≤ sN F339 from k_341), (show CB F G G339 from k_342), fun h => absurd h (by decide)⟩
            · dsimp only
              obtain ⟨b339, d339, e339, u339⟩ := u339
              obtain ⟨a339, c339⟩ := u339 rfl
              have k_344 : F339 70 = F 70 := a339.trans (show F332 70 = F 70 from k_333)
              have k_345 : 0 ≤ (F339 60).toInt := b339
              have k_346 : sN F ≤ sN F339 := Nat.le_trans (show sN F ≤ sN F332 from k_335) d339
              have k_347 : CB F G G339 := CB.tr (show CB F G G332 from k_336) (show sN F ≤ sN F332 from k_335) e339
              have k_348 : PKp F G G339 := PKp.tr (show PKp F G G332 from k_337) c339 (show F332 70 = F 70 from k_333)
              unfold mb_element_77
              refine PP.ite (fun c_349 => absurd c_349 (by decide)) (fun _ => ?_)
              unfold mb_element_80
              refine PP.bind (mw_closeSign (25 : Int32) F339 G339) ?_
              intro r350 F350 G350 hK350
              dsimp only
              have k_351 : F350 70 = F 70 := (hK350.1 70 rfl).trans (show F339 70 = F 70 from k_344)
              have k_352 : 0 ≤ (F350 60).toInt := by rw [hK350.1 60 rfl]; exact (show 0 ≤ (F339 60).toInt from k_345)
              have k_353 : sN F ≤ sN F350 := S_eq (show sN F ≤ sN F339 from k_346) (hK350.1 60 rfl)
              have k_354 : CB F G G350 := CB.kx (show CB F G G339 from k_347) hK350 rfl rfl rfl rfl
              have k_355 : PKp F G G350 := PKp.kx (show PKp F G G339 from k_348) hK350 rfl rfl
              unfold mb_element_86
              refine PP.ite (fun c_356 => ?_) (fun c_356 => ?_)
              · skip
                unfold mb_element_89
                refine PP.ret ?_
                exact ⟨Or.inl rfl, (show 0 ≤ (F350 60).toInt from k_352), (show sN F ≤ sN F350 from k_353), (show CB F G G350 from k_354), fun h => absurd h (by decide)⟩
              · skip
                unfold mb_element_91
                refine PP.bind (mq_step (6 : Int32) (G 20 x1.toNatClampNeg) (G 21 x1.toNatClampNeg) F350 G350) ?_
                rintro _ F357 G357 ⟨hK357, rfl, e357, g357, n357⟩
                dsimp only
                have k_358 : F357 70 = F 70 := (hK357.1 70 rfl).trans (show F350 70 = F 70 from k_351)
                have k_359 : 0 ≤ (F357 60).toInt := inc60 n357 e357
                have k_360 : sN F ≤ sN F357 := S_st (show sN F ≤ sN F350 from k_353) n357 e357
                have k_361 : CB F G G357 := CB.stp (show CB F G G350 from k_354) (show sN F ≤ sN F350 from k_353) g357
                have k_362 : PKp F G G357 := PKp.kx (show PKp F G G350 from k_355) hK357 rfl rfl
                unfold mb_element_100
                refine PP.ite (fun _ => ?_) (fun c_363 => absurd (by decide) c_363)
                unfold mb_element_120
                unfold mb_element_121
                refine PP.ix (fun _ => ?_)
                unfold mb_element_123
                refine PP.ret ?_
                exact ⟨Or.inr rfl, (show 0 ≤ (F357 60).toInt from k_359), (show sN F ≤ sN F357 from k_360), (show CB F G (gup G357 59 (F350 60).toNatClampNeg (((2 : Int32) * (G 6 (F 42).toNatClampNeg)) + (0 : Int32))) from (CB.g59 (p := sN F350) k_361 k_353)), fun _ => ⟨(show F357 70 = F 70 from k_358), (show PKp F G (gup G357 59 (F350 60).toNatClampNeg (((2 : Int32) * (G 6 (F 42).toNatClampNeg)) + (0 : Int32))) from k_362)⟩⟩
        · skip
          unfold mb_element_57
          unfold mb_element_62
          refine PP.bind (mw_openSign (24 : Int32) F G) ?_
          intro r364 F364 G364 hK364
          dsimp only
          have k_365 : F364 70 = F 70 := (hK364.1 70 rfl).trans (show F 70 = F 70 from (rfl : F 70 = F 70))
          have k_366 : 0 ≤ (F364 60).toInt := by rw [hK364.1 60 rfl]; exact (show 0 ≤ (F 60).toInt from t60)
          have k_367 : sN F ≤ sN F364 := S_eq (show sN F ≤ sN F from (Nat.le_refl _ : sN F ≤ sN F)) (hK364.1 60 rfl)
          have k_368 : CB F G G364 := CB.kx (show CB F G G from (fun _ _ => cEq.rf : CB F G G)) hK364 rfl rfl rfl rfl
          have k_369 : PKp F G G364 := PKp.kx (show PKp F G G from (fun _ _ => ⟨rfl, rfl⟩ : PKp F G G)) hK364 rfl rfl
          unfold mb_element_70
          refine PP.ite (fun c_370 => ?_) (fun c_370 => ?_)
          · skip
            unfold mb_element_89
            refine PP.ret ?_
            exact ⟨Or.inl rfl, (show 0 ≤ (F364 60).toInt from k_366), (show sN F ≤ sN F364 from k_367), (show CB F G G364 from k_368), fun h => absurd h (by decide)⟩
          · skip
            unfold mb_element_73
            refine PP.bind (ihC 4 0 0 F364 G364 (show 0 ≤ (F364 60).toInt from k_366) (by rw [(show F364 70 = F 70 from k_365)]; exact t70)) ?_
            rintro r371 F371 G371 ⟨(rfl | rfl), u371⟩
            · dsimp only
              obtain ⟨b371, d371, e371, -⟩ := u371
              have k_372 : 0 ≤ (F371 60).toInt := b371
              have k_373 : sN F ≤ sN F371 := Nat.le_trans (show sN F ≤ sN F364 from k_367) d371
              have k_374 : CB F G G371 := CB.tr (show CB F G G364 from k_368) (show sN F ≤ sN F364 from k_367) e371
              unfold mb_element_77
              refine PP.ite (fun _ => ?_) (fun c_375 => absurd (by decide) c_375)
              unfold mb_element_89
              refine PP.ret ?_
              exact ⟨Or.inl rfl, (show 0 ≤ (F371 60).toInt from k_372), (show sN F ≤ sN F371 from k_373), (show CB F G G371 from k_374), fun h => absurd h (by decide)⟩
            · dsimp only
              obtain ⟨b371, d371, e371, u371⟩ := u371
              obtain ⟨a371, c371⟩ := u371 rfl
              have k_376 : F371 70 = F 70 := a371.trans (show F364 70 = F 70 from k_365)
              have k_377 : 0 ≤ (F371 60).toInt := b371
              have k_378 : sN F ≤ sN F371 := Nat.le_trans (show sN F ≤ sN F364 from k_367) d371
              have k_379 : CB F G G371 := CB.tr (show CB F G G364 from k_368) (show sN F ≤ sN F364 from k_367) e371
              have k_380 : PKp F G G371 := PKp.tr (show PKp F G G364 from k_369) c371 (show F364 70 = F 70 from k_365)
              unfold mb_element_77
              refine PP.ite (fun c_381 => absurd c_381 (by decide)) (fun _ => ?_)
              unfold mb_element_80
              refine PP.bind (mw_closeSign (25 : Int32) F371 G371) ?_
              intro r382 F382 G382 hK382
              dsimp only
              have k_383 : F382 70 = F 70 := (hK382.1 70 rfl).trans (show F371 70 = F 70 from k_376)
              have k_384 : 0 ≤ (F382 60).toInt := by rw [hK382.1 60 rfl]; exact (show 0 ≤ (F371 60).toInt from k_377)
              have k_385 : sN F ≤ sN F382 := S_eq (show sN F ≤ sN F371 from k_378) (hK382.1 60 rfl)
              have k_386 : CB F G G382 := CB.kx (show CB F G G371 from k_379) hK382 rfl rfl rfl rfl
              have k_387 : PKp F G G382 := PKp.kx (show PKp F G G371 from k_380) hK382 rfl rfl
              unfold mb_element_86
              refine PP.ite (fun c_388 => ?_) (fun c_388 => ?_)
              · skip
                unfold mb_element_89
                refine PP.ret ?_
                exact ⟨Or.inl rfl, (show 0 ≤ (F382 60).toInt from k_384), (show sN F ≤ sN F382 from k_385), (show CB F G G382 from k_386), fun h => absurd h (by decide)⟩
              · skip
                unfold mb_element_91
                refine PP.bind (mq_step (6 : Int32) (G 20 x1.toNatClampNeg) (G 21 x1.toNatClampNeg) F382 G382) ?_
                rintro _ F389 G389 ⟨hK389, rfl, e389, g389, n389⟩
                dsimp only
                have k_390 : F389 70 = F 70 := (hK389.1 70 rfl).trans (show F382 70 = F 70 from k_383)
                have k_391 : 0 ≤ (F389 60).toInt := inc60 n389 e389
                have k_392 : sN F ≤ sN F389 := S_st (show sN F ≤ sN F382 from k_385) n389 e389
                have k_393 : CB F G G389 := CB.stp (show CB F G G382 from k_386) (show sN F ≤ sN F382 from k_385) g389
                have k_394 : PKp F G G389 := PKp.kx (show PKp F G G382 from k_387) hK389 rfl rfl
                unfold mb_element_100
                refine PP.ite (fun c_395 => absurd c_395 (by decide)) (fun _ => ?_)
                unfold mb_element_116
                unfold mb_element_121
                refine PP.ix (fun _ => ?_)
                unfold mb_element_123
                refine PP.ret ?_
                exact ⟨Or.inr rfl, (show 0 ≤ (F389 60).toInt from k_391), (show sN F ≤ sN F389 from k_392), (show CB F G (gup G389 59 (F382 60).toNatClampNeg (((2 : Int32) * (G 6 (F 42).toNatClampNeg)) + (1 : Int32))) from (CB.g59 (p := sN F382) k_393 k_385)), fun _ => ⟨(show F389 70 = F 70 from k_390), (show PKp F G (gup G389 59 (F382 60).toNatClampNeg (((2 : Int32) * (G 6 (F 42).toNatClampNeg)) + (1 : Int32))) from k_394)⟩⟩
theorem mct_expression {fu : Nat} (rc : RC) (ihC : mCI rc) (F : PF) (G : PG) (t60 : 0 ≤ (F 60).toInt) (t70 : 0 ≤ (F 70).toInt) : PP (mh_expression fu rc F G) (fun r' F' G' => CQ F G r' F' G') := by
  unfold mh_expression
  unfold mb_expression_0
  refine PP.bind (ihC 2 0 0 F G (show 0 ≤ (F 60).toInt from t60) (by rw [(show F 70 = F 70 from (rfl : F 70 = F 70))]; exact t70)) ?_
  rintro r1 F1 G1 ⟨(rfl | rfl), u1⟩
  · dsimp only
    obtain ⟨b1, d1, e1, -⟩ := u1
    have k_2 : 0 ≤ (F1 60).toInt := b1
    have k_3 : sN F ≤ sN F1 := Nat.le_trans (show sN F ≤ sN F from (Nat.le_refl _ : sN F ≤ sN F)) d1
    have k_4 : CB F G G1 := CB.tr (show CB F G G from (fun _ _ => cEq.rf : CB F G G)) (show sN F ≤ sN F from (Nat.le_refl _ : sN F ≤ sN F)) e1
    unfold mb_expression_4
    refine PP.ite (fun _ => ?_) (fun c_5 => absurd (by decide) c_5)
    unfold mb_expression_7
    refine PP.ret ?_
    exact ⟨Or.inl rfl, (show 0 ≤ (F1 60).toInt from k_2), (show sN F ≤ sN F1 from k_3), (show CB F G G1 from k_4), fun h => absurd h (by decide)⟩
  · dsimp only
    obtain ⟨b1, d1, e1, u1⟩ := u1
    obtain ⟨a1, c1⟩ := u1 rfl
    have k_6 : F1 70 = F 70 := a1.trans (show F 70 = F 70 from (rfl : F 70 = F 70))
    have k_7 : 0 ≤ (F1 60).toInt := b1
    have k_8 : sN F ≤ sN F1 := Nat.le_trans (show sN F ≤ sN F from (Nat.le_refl _ : sN F ≤ sN F)) d1
    have k_9 : CB F G G1 := CB.tr (show CB F G G from (fun _ _ => cEq.rf : CB F G G)) (show sN F ≤ sN F from (Nat.le_refl _ : sN F ≤ sN F)) e1
    have k_10 : PKp F G G1 := PKp.tr (show PKp F G G from (fun _ _ => ⟨rfl, rfl⟩ : PKp F G G)) c1 (show F 70 = F 70 from (rfl : F 70 = F 70))
    unfold mb_expression_4
    refine PP.ite (fun c_11 => absurd c_11 (by decide)) (fun _ => ?_)
    unfold mb_expression_9
    refine PP.bind (mp_isSign (30 : Int32) F1 G1) ?_
    rintro _ _ _ ⟨rfl, rfl, (⟨rfl, -⟩ | ⟨rfl, -⟩)⟩
    · dsimp only
      unfold mb_expression_15
      refine PP.ite (fun c_13 => absurd c_13 (by decide)) (fun _ => ?_)
      unfold mb_expression_20
      refine PP.bind (mw_opens F1 G1) ?_
      intro r14 F14 G14 hK14
      dsimp only
      have k_15 : F14 70 = F 70 := (hK14.1 70 rfl).trans (show F1 70 = F 70 from k_6)
      have k_16 : 0 ≤ (F14 60).toInt := by rw [hK14.1 60 rfl]; exact (show 0 ≤ (F1 60).toInt from k_7)
      have k_17 : sN F ≤ sN F14 := S_eq (show sN F ≤ sN F1 from k_8) (hK14.1 60 rfl)
      have k_18 : CB F G G14 := CB.kx (show CB F G G1 from k_9) hK14 rfl rfl rfl rfl
      have k_19 : PKp F G G14 := PKp.kx (show PKp F G G1 from k_10) hK14 rfl rfl
      unfold mb_expression_24
      refine PP.ite (fun c_20 => ?_) (fun c_20 => ?_)
      · skip
        unfold mb_expression_27
        refine PP.ret ?_
        exact ⟨Or.inl rfl, (show 0 ≤ (F14 60).toInt from k_16), (show sN F ≤ sN F14 from k_17), (show CB F G G14 from k_18), fun h => absurd h (by decide)⟩
      · skip
        unfold mb_expression_29
        refine PP.bind (mq_step (13 : Int32) (0 : Int32) (0 : Int32) F14 G14) ?_
        rintro _ F21 G21 ⟨hK21, rfl, e21, g21, n21⟩
        dsimp only
        have k_22 : F21 70 = F 70 := (hK21.1 70 rfl).trans (show F14 70 = F 70 from k_15)
        have k_23 : 0 ≤ (F21 60).toInt := inc60 n21 e21
        have k_24 : sN F ≤ sN F21 := S_st (show sN F ≤ sN F14 from k_17) n21 e21
        have k_25 : CB F G G21 := CB.stp (show CB F G G14 from k_18) (show sN F ≤ sN F14 from k_17) g21
        have k_26 : PKp F G G21 := PKp.kx (show PKp F G G14 from k_19) hK21 rfl rfl
        unfold mb_expression_37
        refine PP.bind (ihC 4 0 0 F21 G21 (show 0 ≤ (F21 60).toInt from k_23) (by rw [(show F21 70 = F 70 from k_22)]; exact t70)) ?_
        rintro r27 F27 G27 ⟨(rfl | rfl), u27⟩
        · dsimp only
          obtain ⟨b27, d27, e27, -⟩ := u27
          have k_28 : 0 ≤ (F27 60).toInt := b27
          have k_29 : sN F ≤ sN F27 := Nat.le_trans (show sN F ≤ sN F21 from k_24) d27
          have k_30 : CB F G G27 := CB.tr (show CB F G G21 from k_25) (show sN F ≤ sN F21 from k_24) e27
          unfold mb_expression_42
          refine PP.ite (fun _ => ?_) (fun c_31 => absurd (by decide) c_31)
          unfold mb_expression_54
          refine PP.ret ?_
          exact ⟨Or.inl rfl, (show 0 ≤ (F27 60).toInt from k_28), (show sN F ≤ sN F27 from k_29), (show CB F G G27 from k_30), fun h => absurd h (by decide)⟩
        · dsimp only
          obtain ⟨b27, d27, e27, u27⟩ := u27
          obtain ⟨a27, c27⟩ := u27 rfl
          have k_32 : F27 70 = F 70 := a27.trans (show F21 70 = F 70 from k_22)
          have k_33 : 0 ≤ (F27 60).toInt := b27
          have k_34 : sN F ≤ sN F27 := Nat.le_trans (show sN F ≤ sN F21 from k_24) d27
          have k_35 : CB F G G27 := CB.tr (show CB F G G21 from k_25) (show sN F ≤ sN F21 from k_24) e27
          have k_36 : PKp F G G27 := PKp.tr (show PKp F G G21 from k_26) c27 (show F21 70 = F 70 from k_22)
          unfold mb_expression_42
          refine PP.ite (fun c_37 => absurd c_37 (by decide)) (fun _ => ?_)
          unfold mb_expression_45
          refine PP.bind (mw_sign (31 : Int32) F27 G27) ?_
          intro r38 F38 G38 hK38
          dsimp only
          have k_39 : F38 70 = F 70 := (hK38.1 70 rfl).trans (show F27 70 = F 70 from k_32)
          have k_40 : 0 ≤ (F38 60).toInt := by rw [hK38.1 60 rfl]; exact (show 0 ≤ (F27 60).toInt from k_33)
          have k_41 : sN F ≤ sN F38 := S_eq (show sN F ≤ sN F27 from k_34) (hK38.1 60 rfl)
          have k_42 : CB F G G38 := CB.kx (show CB F G G27 from k_35) hK38 rfl rfl rfl rfl
          have k_43 : PKp F G G38 := PKp.kx (show PKp F G G27 from k_36) hK38 rfl rfl
          unfold mb_expression_51
          refine PP.ite (fun c_44 => ?_) (fun c_44 => ?_)
          · skip
            unfold mb_expression_54
            refine PP.ret ?_
            exact ⟨Or.inl rfl, (show 0 ≤ (F38 60).toInt from k_40), (show sN F ≤ sN F38 from k_41), (show CB F G G38 from k_42), fun h => absurd h (by decide)⟩
          · skip
            unfold mb_expression_56
            refine PP.bind (mq_step (12 : Int32) (0 : Int32) (0 : Int32) F38 G38) ?_
            rintro _ F45 G45 ⟨hK45, rfl, e45, g45, n45⟩
            dsimp only
            have k_46 : F45 70 = F 70 := (hK45.1 70 rfl).trans (show F38 70 = F 70 from k_39)
            have k_47 : 0 ≤ (F45 60).toInt := inc60 n45 e45
            have k_48 : sN F ≤ sN F45 := S_st (show sN F ≤ sN F38 from k_41) n45 e45
            have k_49 : CB F G G45 := CB.stp (show CB F G G38 from k_42) (show sN F ≤ sN F38 from k_41) g45
            have k_50 : PKp F G G45 := PKp.kx (show PKp F G G38 from k_43) hK45 rfl rfl
            unfold mb_expression_64
            refine PP.ix (fun _ => ?_)
            unfold mb_expression_75
            refine PP.bind (ihC 4 0 0 F45 (gup G45 57 (F14 60).toNatClampNeg (F45 60)) (show 0 ≤ (F45 60).toInt from k_47) (by rw [(show F45 70 = F 70 from k_46)]; exact t70)) ?_
            rintro r51 F51 G51 ⟨(rfl | rfl), u51⟩
            · dsimp only
              obtain ⟨b51, d51, e51, -⟩ := u51
              have k_52 : 0 ≤ (F51 60).toInt := b51
              have k_53 : sN F ≤ sN F51 := Nat.le_trans (show sN F ≤ sN F45 from k_48) d51
              have k_54 : CB F G G51 := CB.tr (show CB F G (gup G45 57 (F14 60).toNatClampNeg (F45 60)) from (CB.g57 (p := sN F14) k_49 k_17)) (show sN F ≤ sN F45 from k_48) e51
              unfold mb_expression_79
              refine PP.ite (fun _ => ?_) (fun c_55 => absurd (by decide) c_55)
              unfold mb_expression_82
              refine PP.ret ?_
              exact ⟨Or.inl rfl, (show 0 ≤ (F51 60).toInt from k_52), (show sN F ≤ sN F51 from k_53), (show CB F G G51 from k_54), fun h => absurd h (by decide)⟩
            · dsimp only
              obtain ⟨b51, d51, e51, u51⟩ := u51
              obtain ⟨a51, c51⟩ := u51 rfl
              have k_56 : F51 70 = F 70 := a51.trans (show F45 70 = F 70 from k_46)
              have k_57 : 0 ≤ (F51 60).toInt := b51
              have k_58 : sN F ≤ sN F51 := Nat.le_trans (show sN F ≤ sN F45 from k_48) d51
              have k_59 : CB F G G51 := CB.tr (show CB F G (gup G45 57 (F14 60).toNatClampNeg (F45 60)) from (CB.g57 (p := sN F14) k_49 k_17)) (show sN F ≤ sN F45 from k_48) e51
              have k_60 : PKp F G G51 := PKp.tr (show PKp F G (gup G45 57 (F14 60).toNatClampNeg (F45 60)) from k_50) c51 (show F45 70 = F 70 from k_46)
              unfold mb_expression_79
              refine PP.ite (fun c_61 => absurd c_61 (by decide)) (fun _ => ?_)
              unfold mb_expression_84
              refine PP.ix (fun _ => ?_)
              unfold mb_expression_94
              unfold mb_expression_104
              refine PP.ret ?_
              exact ⟨Or.inr rfl, (show 0 ≤ ((fup F51 43 ((F51 43) - (1 : Int32))) 60).toInt from k_57), (show sN F ≤ sN (fup F51 43 ((F51 43) - (1 : Int32))) from k_58), (show CB F G (gup G51 57 (F38 60).toNatClampNeg (F51 60)) from (CB.g57 (p := sN F38) k_59 k_41)), fun _ => ⟨(show (fup F51 43 ((F51 43) - (1 : Int32))) 70 = F 70 from k_56), (show PKp F G (gup G51 57 (F38 60).toNatClampNeg (F51 60)) from k_60)⟩⟩
    · dsimp only
      unfold mb_expression_15
      refine PP.ite (fun _ => ?_) (fun c_62 => absurd (by decide) c_62)
      unfold mb_expression_18
      refine PP.ret ?_
      exact ⟨Or.inr rfl, (show 0 ≤ (F1 60).toInt from k_7), (show sN F ≤ sN F1 from k_8), (show CB F G G1 from k_9), fun _ => ⟨(show F1 70 = F 70 from k_6), (show PKp F G G1 from k_10)⟩⟩
theorem mcj_inConstant_248 {fu : Nat} (rc : RC) (ihC : mCI rc) {F0 : PF} {G0 : PG} (t70 : 0 ≤ (F0 70).toInt) (F : PF) (G : PG) (hA : F 70 = F0 70 ∧ 0 ≤ (F 60).toInt ∧ PKp F0 G0 G ∧ sN F0 ≤ sN F ∧ CB F0 G0 G) : PP (mb_inConstant_248 fu rc F G) (fun r' F' G' => CQ F0 G0 r' F' G') := by
  obtain ⟨hE, h6, hP, hS, hC⟩ := hA
  unfold mb_inConstant_248
  refine PP.ret ?_
  exact ⟨Or.inr rfl, (show 0 ≤ (F 60).toInt from h6), (show sN F0 ≤ sN F from hS), (show CB F0 G0 G from hC), fun _ => ⟨(show F 70 = F0 70 from hE), (show PKp F0 G0 G from hP)⟩⟩
theorem mcj_inConstant_243 {fu : Nat} (rc : RC) (ihC : mCI rc) {F0 : PF} {G0 : PG} (t70 : 0 ≤ (F0 70).toInt) (z0 : Int32) (z1 : Int32) (F : PF) (G : PG) (hA : F 70 = F0 70 ∧ 0 ≤ (F 60).toInt ∧ PKp F0 G0 G ∧ sN F0 ≤ sN F ∧ CB F0 G0 G) : PP (mb_inConstant_243 fu rc z0 z1 F G) (fun r' F' G' => CQ F0 G0 r' F' G') := by
  obtain ⟨hE, h6, hP, hS, hC⟩ := hA
  unfold mb_inConstant_243
  refine PP.bind (mq_step z1 z0 (0 : Int32) F G) ?_
  rintro _ F1 G1 ⟨hK1, rfl, e1, g1, n1⟩
  dsimp only
  have k_2 : F1 70 = F0 70 := (hK1.1 70 rfl).trans (show F 70 = F0 70 from hE)
  have k_3 : 0 ≤ (F1 60).toInt := inc60 n1 e1
  have k_4 : sN F0 ≤ sN F1 := S_st (show sN F0 ≤ sN F from hS) n1 e1
  have k_5 : CB F0 G0 G1 := CB.stp (show CB F0 G0 G from hC) (show sN F0 ≤ sN F from hS) g1
  have k_6 : PKp F0 G0 G1 := PKp.kx (show PKp F0 G0 G from hP) hK1 rfl rfl
  unfold mb_inConstant_247
  exact mcj_inConstant_248 rc ihC t70 F1 G1 ⟨(show F1 70 = F0 70 from k_2), (show 0 ≤ (F1 60).toInt from k_3), (show PKp F0 G0 G1 from k_6), (show sN F0 ≤ sN F1 from k_4), (show CB F0 G0 G1 from k_5)⟩
theorem mcj_inConstant_221 {fu : Nat} (rc : RC) (ihC : mCI rc) {F0 : PF} {G0 : PG} (t70 : 0 ≤ (F0 70).toInt) (x2 : Int32) (x4 : Int32) (x5 : Int32) (F : PF) (G : PG) (hA : F 70 = F0 70 ∧ 0 ≤ (F 60).toInt ∧ PKp F0 G0 G ∧ sN F0 ≤ sN F ∧ CB F0 G0 G) : PP (mb_inConstant_221 fu rc x2 x4 x5 F G) (fun r' F' G' => CQ F0 G0 r' F' G') := by
  obtain ⟨hE, h6, hP, hS, hC⟩ := hA
  unfold mb_inConstant_221
  refine PP.ite (fun c_1 => ?_) (fun c_1 => ?_)
  · skip
    unfold mb_inConstant_226
    refine PP.ite (fun c_2 => ?_) (fun c_2 => ?_)
    · skip
      unfold mb_inConstant_242
      exact mcj_inConstant_243 rc ihC t70 (0 : Int32) (0 : Int32) F G ⟨(show F 70 = F0 70 from hE), (show 0 ≤ (F 60).toInt from h6), (show PKp F0 G0 G from hP), (show sN F0 ≤ sN F from hS), (show CB F0 G0 G from hC)⟩
    · skip
      unfold mb_inConstant_233
      refine PP.ix (fun _ => ?_)
      exact mcj_inConstant_243 rc ihC t70 (G 20 x2.toNatClampNeg) (0 : Int32) F G ⟨(show F 70 = F0 70 from hE), (show 0 ≤ (F 60).toInt from h6), (show PKp F0 G0 G from hP), (show sN F0 ≤ sN F from hS), (show CB F0 G0 G from hC)⟩
  · skip
    exact mcj_inConstant_248 rc ihC t70 F G ⟨(show F 70 = F0 70 from hE), (show 0 ≤ (F 60).toInt from h6), (show PKp F0 G0 G from hP), (show sN F0 ≤ sN F from hS), (show CB F0 G0 G from hC)⟩
theorem mcj_inConstant_182 {fu : Nat} (rc : RC) (ihC : mCI rc) {F0 : PF} {G0 : PG} (t70 : 0 ≤ (F0 70).toInt) (x2 : Int32) (x4 : Int32) (x5 : Int32) (F : PF) (G : PG) (hA : F 70 = F0 70 ∧ 0 ≤ (F 60).toInt ∧ PKp F0 G0 G ∧ sN F0 ≤ sN F ∧ CB F0 G0 G) : PP (mb_inConstant_182 fu rc x2 x4 x5 F G) (fun r' F' G' => CQ F0 G0 r' F' G') := by
  obtain ⟨hE, h6, hP, hS, hC⟩ := hA
  unfold mb_inConstant_182
  refine PP.bind (mp_isSign (24 : Int32) F G) ?_
  rintro _ _ _ ⟨rfl, rfl, (⟨rfl, -⟩ | ⟨rfl, -⟩)⟩
  · dsimp only
    unfold mb_inConstant_188
    refine PP.ite (fun c_2 => absurd c_2 (by decide)) (fun _ => ?_)
    unfold mb_inConstant_191
    refine PP.ite (fun c_3 => ?_) (fun c_3 => ?_)
    · skip
      exact mcj_inConstant_221 rc ihC t70 x2 x4 x5 F G ⟨(show F 70 = F0 70 from hE), (show 0 ≤ (F 60).toInt from h6), (show PKp F0 G0 G from hP), (show sN F0 ≤ sN F from hS), (show CB F0 G0 G from hC)⟩
    · skip
      unfold mb_inConstant_196
      refine PP.ix (fun _ => ?_)
      refine PP.ite (fun c_4 => ?_) (fun c_4 => ?_)
      · skip
        unfold mb_inConstant_211
        refine PP.bind (ihC 3 (-1 : Int32) 0 F G (show 0 ≤ (F 60).toInt from h6) (by rw [(show F 70 = F0 70 from hE)]; exact t70)) ?_
        rintro r5 F5 G5 ⟨(rfl | rfl), u5⟩
        · dsimp only
          obtain ⟨b5, d5, e5, -⟩ := u5
          have k_6 : 0 ≤ (F5 60).toInt := b5
          have k_7 : sN F0 ≤ sN F5 := Nat.le_trans (show sN F0 ≤ sN F from hS) d5
          have k_8 : CB F0 G0 G5 := CB.tr (show CB F0 G0 G from hC) (show sN F0 ≤ sN F from hS) e5
          unfold mb_inConstant_216
          refine PP.ite (fun _ => ?_) (fun c_9 => absurd (by decide) c_9)
          unfold mb_inConstant_219
          refine PP.ret ?_
          exact ⟨Or.inl rfl, (show 0 ≤ (F5 60).toInt from k_6), (show sN F0 ≤ sN F5 from k_7), (show CB F0 G0 G5 from k_8), fun h => absurd h (by decide)⟩
        · dsimp only
          obtain ⟨b5, d5, e5, u5⟩ := u5
          obtain ⟨a5, c5⟩ := u5 rfl
          have k_10 : F5 70 = F0 70 := a5.trans (show F 70 = F0 70 from hE)
          have k_11 : 0 ≤ (F5 60).toInt := b5
          have k_12 : sN F0 ≤ sN F5 := Nat.le_trans (show sN F0 ≤ sN F from hS) d5
          have k_13 : CB F0 G0 G5 := CB.tr (show CB F0 G0 G from hC) (show sN F0 ≤ sN F from hS) e5
          have k_14 : PKp F0 G0 G5 := PKp.tr (show PKp F0 G0 G from hP) c5 (show F 70 = F0 70 from hE)
          unfold mb_inConstant_216
          refine PP.ite (fun c_15 => absurd c_15 (by decide)) (fun _ => ?_)
          exact mcj_inConstant_221 rc ihC t70 x2 x4 x5 F5 G5 ⟨(show F5 70 = F0 70 from k_10), (show 0 ≤ (F5 60).toInt from k_11), (show PKp F0 G0 G5 from k_14), (show sN F0 ≤ sN F5 from k_12), (show CB F0 G0 G5 from k_13)⟩
      · skip
        exact mcj_inConstant_221 rc ihC t70 x2 x4 x5 F G ⟨(show F 70 = F0 70 from hE), (show 0 ≤ (F 60).toInt from h6), (show PKp F0 G0 G from hP), (show sN F0 ≤ sN F from hS), (show CB F0 G0 G from hC)⟩
  · dsimp only
    unfold mb_inConstant_188
    refine PP.ite (fun _ => ?_) (fun c_16 => absurd (by decide) c_16)
    exact mcj_inConstant_221 rc ihC t70 x2 x4 x5 F G ⟨(show F 70 = F0 70 from hE), (show 0 ≤ (F 60).toInt from h6), (show PKp F0 G0 G from hP), (show sN F0 ≤ sN F from hS), (show CB F0 G0 G from hC)⟩
theorem mcj_inConstant_162 {fu : Nat} (rc : RC) (ihC : mCI rc) {F0 : PF} {G0 : PG} (t70 : 0 ≤ (F0 70).toInt) (x1 : Int32) (x2 : Int32) (x4 : Int32) (x5 : Int32) (F : PF) (G : PG) (hA : F 70 = F0 70 ∧ 0 ≤ (F 60).toInt ∧ PKp F0 G0 G ∧ sN F0 ≤ sN F ∧ CB F0 G0 G) : PP (mb_inConstant_162 fu rc x1 x2 x4 x5 F G) (fun r' F' G' => CQ F0 G0 r' F' G') := by
  obtain ⟨hE, h6, hP, hS, hC⟩ := hA
  unfold mb_inConstant_162
  refine PP.bind (mp_isSign (22 : Int32) F G) ?_
  rintro _ _ _ ⟨rfl, rfl, (⟨rfl, -⟩ | ⟨rfl, -⟩)⟩
  · dsimp only
    unfold mb_inConstant_168
    refine PP.ite (fun c_2 => absurd c_2 (by decide)) (fun _ => ?_)
    unfold mb_inConstant_171
    refine PP.bind (ihC 1 x1 (0 : Int32) F G (show 0 ≤ (F 60).toInt from h6) (by rw [(show F 70 = F0 70 from hE)]; exact t70)) ?_
    rintro r3 F3 G3 ⟨(rfl | rfl), u3⟩
    · dsimp only
      obtain ⟨b3, d3, e3, -⟩ := u3
      have k_4 : 0 ≤ (F3 60).toInt := b3
      have k_5 : sN F0 ≤ sN F3 := Nat.le_trans (show sN F0 ≤ sN F from hS) d3
      have k_6 : CB F0 G0 G3 := CB.tr (show CB F0 G0 G from hC) (show sN F0 ≤ sN F from hS) e3
      unfold mb_inConstant_177
      refine PP.ite (fun _ => ?_) (fun c_7 => absurd (by decide) c_7)
      unfold mb_inConstant_180
      refine PP.ret ?_
      exact ⟨Or.inl rfl, (show 0 ≤ (F3 60).toInt from k_4), (show sN F0 ≤ sN F3 from k_5), (show CB F0 G0 G3 from k_6), fun h => absurd h (by decide)⟩
    · dsimp only
      obtain ⟨b3, d3, e3, u3⟩ := u3
      obtain ⟨a3, c3⟩ := u3 rfl
      have k_8 : F3 70 = F0 70 := a3.trans (show F 70 = F0 70 from hE)
      have k_9 : 0 ≤ (F3 60).toInt := b3
      have k_10 : sN F0 ≤ sN F3 := Nat.le_trans (show sN F0 ≤ sN F from hS) d3
      have k_11 : CB F0 G0 G3 := CB.tr (show CB F0 G0 G from hC) (show sN F0 ≤ sN F from hS) e3
      have k_12 : PKp F0 G0 G3 := PKp.tr (show PKp F0 G0 G from hP) c3 (show F 70 = F0 70 from hE)
      unfold mb_inConstant_177
      refine PP.ite (fun c_13 => absurd c_13 (by decide)) (fun _ => ?_)
      exact mcj_inConstant_182 rc ihC t70 x2 x4 x5 F3 G3 ⟨(show F3 70 = F0 70 from k_8), (show 0 ≤ (F3 60).toInt from k_9), (show PKp F0 G0 G3 from k_12), (show sN F0 ≤ sN F3 from k_10), (show CB F0 G0 G3 from k_11)⟩
  · dsimp only
    unfold mb_inConstant_168
    refine PP.ite (fun _ => ?_) (fun c_14 => absurd (by decide) c_14)
    exact mcj_inConstant_182 rc ihC t70 x2 x4 x5 F G ⟨(show F 70 = F0 70 from hE), (show 0 ≤ (F 60).toInt from h6), (show PKp F0 G0 G from hP), (show sN F0 ≤ sN F from hS), (show CB F0 G0 G from hC)⟩
theorem mcj_inConstant_157 {fu : Nat} (rc : RC) (ihC : mCI rc) {F0 : PF} {G0 : PG} (t70 : 0 ≤ (F0 70).toInt) (x1 : Int32) (x2 : Int32) (x4 : Int32) (x5 : Int32) (F : PF) (G : PG) (hA : F 70 = F0 70 ∧ 0 ≤ (F 60).toInt ∧ PKp F0 G0 G ∧ sN F0 ≤ sN F ∧ CB F0 G0 G) : PP (mb_inConstant_157 fu rc x1 x2 x4 x5 F G) (fun r' F' G' => CQ F0 G0 r' F' G') := by
  obtain ⟨hE, h6, hP, hS, hC⟩ := hA
  unfold mb_inConstant_157
  exact mcj_inConstant_162 rc ihC t70 x1 x2 x4 x5 (fup F 55 (1 : Int32)) G ⟨(show (fup F 55 (1 : Int32)) 70 = F0 70 from hE), (show 0 ≤ ((fup F 55 (1 : Int32)) 60).toInt from h6), (show PKp F0 G0 G from hP), (show sN F0 ≤ sN (fup F 55 (1 : Int32)) from hS), (show CB F0 G0 G from hC)⟩
theorem mcj_inConstant_137 {fu : Nat} (rc : RC) (ihC : mCI rc) {F0 : PF} {G0 : PG} (t70 : 0 ≤ (F0 70).toInt) (x1 : Int32) (x2 : Int32) (x4 : Int32) (x5 : Int32) (F : PF) (G : PG) (hA : F 70 = F0 70 ∧ 0 ≤ (F 60).toInt ∧ PKp F0 G0 G ∧ sN F0 ≤ sN F ∧ CB F0 G0 G) : PP (mb_inConstant_137 fu rc x1 x2 x4 x5 F G) (fun r' F' G' => CQ F0 G0 r' F' G') := by
  obtain ⟨hE, h6, hP, hS, hC⟩ := hA
  unfold mb_inConstant_137
  refine PP.ite (fun c_1 => ?_) (fun c_1 => ?_)
  · skip
    exact mcj_inConstant_157 rc ihC t70 x1 x2 x4 x5 F G ⟨(show F 70 = F0 70 from hE), (show 0 ≤ (F 60).toInt from h6), (show PKp F0 G0 G from hP), (show sN F0 ≤ sN F from hS), (show CB F0 G0 G from hC)⟩
  · skip
    unfold mb_inConstant_142
    refine PP.ite (fun c_2 => ?_) (fun c_2 => ?_)
    · skip
      unfold mb_inConstant_147
      refine PP.ix (fun _ => ?_)
      refine PP.ite (fun c_3 => ?_) (fun c_3 => ?_)
      · skip
        exact mcj_inConstant_157 rc ihC t70 x1 x2 x4 x5 F G ⟨(show F 70 = F0 70 from hE), (show 0 ≤ (F 60).toInt from h6), (show PKp F0 G0 G from hP), (show sN F0 ≤ sN F from hS), (show CB F0 G0 G from hC)⟩
      · skip
        exact mcj_inConstant_162 rc ihC t70 x1 x2 x4 x5 F G ⟨(show F 70 = F0 70 from hE), (show 0 ≤ (F 60).toInt from h6), (show PKp F0 G0 G from hP), (show sN F0 ≤ sN F from hS), (show CB F0 G0 G from hC)⟩
    · skip
      exact mcj_inConstant_157 rc ihC t70 x1 x2 x4 x5 F G ⟨(show F 70 = F0 70 from hE), (show 0 ≤ (F 60).toInt from h6), (show PKp F0 G0 G from hP), (show sN F0 ≤ sN F from hS), (show CB F0 G0 G from hC)⟩
theorem mcj_inConstant_125 {fu : Nat} (rc : RC) (ihC : mCI rc) {F0 : PF} {G0 : PG} (t70 : 0 ≤ (F0 70).toInt) (x1 : Int32) (x2 : Int32) (x4 : Int32) (x5 : Int32) (F : PF) (G : PG) (hA : F 70 = F0 70 ∧ 0 ≤ (F 60).toInt ∧ PKp F0 G0 G ∧ sN F0 ≤ sN F ∧ CB F0 G0 G) : PP (mb_inConstant_125 fu rc x1 x2 x4 x5 F G) (fun r' F' G' => CQ F0 G0 r' F' G') := by
  obtain ⟨hE, h6, hP, hS, hC⟩ := hA
  unfold mb_inConstant_125
  refine PP.ix (fun _ => ?_)
  refine PP.bind (mw_note (10 : Int32) (G 6 x1.toNatClampNeg) F G) ?_
  intro r1 F1 G1 hK1
  dsimp only
  have k_2 : F1 70 = F0 70 := (hK1.1 70 rfl).trans (show F 70 = F0 70 from hE)
  have k_3 : 0 ≤ (F1 60).toInt := by rw [hK1.1 60 rfl]; exact (show 0 ≤ (F 60).toInt from h6)
  have k_4 : sN F0 ≤ sN F1 := S_eq (show sN F0 ≤ sN F from hS) (hK1.1 60 rfl)
  have k_5 : CB F0 G0 G1 := CB.kx (show CB F0 G0 G from hC) hK1 rfl rfl rfl rfl
  have k_6 : PKp F0 G0 G1 := PKp.kx (show PKp F0 G0 G from hP) hK1 rfl rfl
  exact mcj_inConstant_137 rc ihC t70 x1 x2 x4 x5 F1 G1 ⟨(show F1 70 = F0 70 from k_2), (show 0 ≤ (F1 60).toInt from k_3), (show PKp F0 G0 G1 from k_6), (show sN F0 ≤ sN F1 from k_4), (show CB F0 G0 G1 from k_5)⟩
theorem mcj_inConstant_104 {fu : Nat} (rc : RC) (ihC : mCI rc) {F0 : PF} {G0 : PG} (t70 : 0 ≤ (F0 70).toInt) (x1 : Int32) (x2 : Int32) (x3 : Int32) (x4 : Int32) (x5 : Int32) (F : PF) (G : PG) (hA : F 70 = F0 70 ∧ 0 ≤ (F 60).toInt ∧ PKp F0 G0 G ∧ sN F0 ≤ sN F ∧ CB F0 G0 G) : PP (mb_inConstant_104 fu rc x1 x2 x3 x4 x5 F G) (fun r' F' G' => CQ F0 G0 r' F' G') := by
  obtain ⟨hE, h6, hP, hS, hC⟩ := hA
  unfold mb_inConstant_104
  refine PP.ite (fun c_1 => ?_) (fun c_1 => ?_)
  · skip
    exact mcj_inConstant_137 rc ihC t70 x1 x2 x4 x5 F G ⟨(show F 70 = F0 70 from hE), (show 0 ≤ (F 60).toInt from h6), (show PKp F0 G0 G from hP), (show sN F0 ≤ sN F from hS), (show CB F0 G0 G from hC)⟩
  · skip
    unfold mb_inConstant_111
    refine PP.ite (fun c_2 => ?_) (fun c_2 => ?_)
    · skip
      unfold mb_inConstant_115
      refine PP.ite (fun c_3 => ?_) (fun c_3 => ?_)
      · skip
        exact mcj_inConstant_125 rc ihC t70 x1 x2 x4 x5 F G ⟨(show F 70 = F0 70 from hE), (show 0 ≤ (F 60).toInt from h6), (show PKp F0 G0 G from hP), (show sN F0 ≤ sN F from hS), (show CB F0 G0 G from hC)⟩
      · skip
        unfold mb_inConstant_120
        refine PP.ite (fun c_4 => ?_) (fun c_4 => ?_)
        · skip
          exact mcj_inConstant_137 rc ihC t70 x1 x2 x4 x5 F G ⟨(show F 70 = F0 70 from hE), (show 0 ≤ (F 60).toInt from h6), (show PKp F0 G0 G from hP), (show sN F0 ≤ sN F from hS), (show CB F0 G0 G from hC)⟩
        · skip
          exact mcj_inConstant_125 rc ihC t70 x1 x2 x4 x5 F G ⟨(show F 70 = F0 70 from hE), (show 0 ≤ (F 60).toInt from h6), (show PKp F0 G0 G from hP), (show sN F0 ≤ sN F from hS), (show CB F0 G0 G from hC)⟩
    · skip
      exact mcj_inConstant_137 rc ihC t70 x1 x2 x4 x5 F G ⟨(show F 70 = F0 70 from hE), (show 0 ≤ (F 60).toInt from h6), (show PKp F0 G0 G from hP), (show sN F0 ≤ sN F from hS), (show CB F0 G0 G from hC)⟩
theorem mcj_inConstant_80 {fu : Nat} (rc : RC) (ihC : mCI rc) {F0 : PF} {G0 : PG} (t70 : 0 ≤ (F0 70).toInt) (x1 : Int32) (x2 : Int32) (x3 : Int32) (x4 : Int32) (z0 : Int32) (F : PF) (G : PG) (hA : F 70 = F0 70 ∧ 0 ≤ (F 60).toInt ∧ PKp F0 G0 G ∧ sN F0 ≤ sN F ∧ CB F0 G0 G) : PP (mb_inConstant_80 fu rc x1 x2 x3 x4 z0 F G) (fun r' F' G' => CQ F0 G0 r' F' G') := by
  obtain ⟨hE, h6, hP, hS, hC⟩ := hA
  unfold mb_inConstant_80
  refine PP.ite (fun c_1 => ?_) (fun c_1 => ?_)
  · skip
    exact mcj_inConstant_104 rc ihC t70 x1 x2 x3 x4 z0 F G ⟨(show F 70 = F0 70 from hE), (show 0 ≤ (F 60).toInt from h6), (show PKp F0 G0 G from hP), (show sN F0 ≤ sN F from hS), (show CB F0 G0 G from hC)⟩
  · skip
    unfold mb_inConstant_89
    refine PP.ite (fun c_2 => ?_) (fun c_2 => ?_)
    · skip
      exact mcj_inConstant_104 rc ihC t70 x1 x2 x3 x4 z0 F G ⟨(show F 70 = F0 70 from hE), (show 0 ≤ (F 60).toInt from h6), (show PKp F0 G0 G from hP), (show sN F0 ≤ sN F from hS), (show CB F0 G0 G from hC)⟩
    · skip
      unfold mb_inConstant_93
      refine PP.ix (fun _ => ?_)
      refine PP.bind (mw_note (4 : Int32) (G 6 x1.toNatClampNeg) F G) ?_
      intro r3 F3 G3 hK3
      dsimp only
      have k_4 : F3 70 = F0 70 := (hK3.1 70 rfl).trans (show F 70 = F0 70 from hE)
      have k_5 : 0 ≤ (F3 60).toInt := by rw [hK3.1 60 rfl]; exact (show 0 ≤ (F 60).toInt from h6)
      have k_6 : sN F0 ≤ sN F3 := S_eq (show sN F0 ≤ sN F from hS) (hK3.1 60 rfl)
      have k_7 : CB F0 G0 G3 := CB.kx (show CB F0 G0 G from hC) hK3 rfl rfl rfl rfl
      have k_8 : PKp F0 G0 G3 := PKp.kx (show PKp F0 G0 G from hP) hK3 rfl rfl
      exact mcj_inConstant_104 rc ihC t70 x1 x2 x3 x4 z0 F3 G3 ⟨(show F3 70 = F0 70 from k_4), (show 0 ≤ (F3 60).toInt from k_5), (show PKp F0 G0 G3 from k_8), (show sN F0 ≤ sN F3 from k_6), (show CB F0 G0 G3 from k_7)⟩
theorem mcj_inConstant_79 {fu : Nat} (rc : RC) (ihC : mCI rc) {F0 : PF} {G0 : PG} (t70 : 0 ≤ (F0 70).toInt) (x1 : Int32) (x2 : Int32) (x3 : Int32) (x4 : Int32) (F : PF) (G : PG) (hA : F 70 = F0 70 ∧ 0 ≤ (F 60).toInt ∧ PKp F0 G0 G ∧ sN F0 ≤ sN F ∧ CB F0 G0 G) : PP (mb_inConstant_79 fu rc x1 x2 x3 x4 F G) (fun r' F' G' => CQ F0 G0 r' F' G') := by
  obtain ⟨hE, h6, hP, hS, hC⟩ := hA
  unfold mb_inConstant_79
  exact mcj_inConstant_80 rc ihC t70 x1 x2 x3 x4 (0 : Int32) F G ⟨(show F 70 = F0 70 from hE), (show 0 ≤ (F 60).toInt from h6), (show PKp F0 G0 G from hP), (show sN F0 ≤ sN F from hS), (show CB F0 G0 G from hC)⟩
theorem mcj_inConstant_59 {fu : Nat} (rc : RC) (ihC : mCI rc) {F0 : PF} {G0 : PG} (t70 : 0 ≤ (F0 70).toInt) (x1 : Int32) (x2 : Int32) (x3 : Int32) (z0 : Int32) (F : PF) (G : PG) (hA : F 70 = F0 70 ∧ 0 ≤ (F 60).toInt ∧ PKp F0 G0 G ∧ sN F0 ≤ sN F ∧ CB F0 G0 G) : PP (mb_inConstant_59 fu rc x1 x2 x3 z0 F G) (fun r' F' G' => CQ F0 G0 r' F' G') := by
  obtain ⟨hE, h6, hP, hS, hC⟩ := hA
  unfold mb_inConstant_59
  refine PP.ite (fun c_1 => ?_) (fun c_1 => ?_)
  · skip
    exact mcj_inConstant_79 rc ihC t70 x1 x2 x3 z0 F G ⟨(show F 70 = F0 70 from hE), (show 0 ≤ (F 60).toInt from h6), (show PKp F0 G0 G from hP), (show sN F0 ≤ sN F from hS), (show CB F0 G0 G from hC)⟩
  · skip
    unfold mb_inConstant_66
    refine PP.ix (fun _ => ?_)
    refine PP.ite (fun c_2 => ?_) (fun c_2 => ?_)
    · skip
      unfold mb_inConstant_75
      exact mcj_inConstant_80 rc ihC t70 x1 x2 x3 z0 (1 : Int32) F G ⟨(show F 70 = F0 70 from hE), (show 0 ≤ (F 60).toInt from h6), (show PKp F0 G0 G from hP), (show sN F0 ≤ sN F from hS), (show CB F0 G0 G from hC)⟩
    · skip
      exact mcj_inConstant_79 rc ihC t70 x1 x2 x3 z0 F G ⟨(show F 70 = F0 70 from hE), (show 0 ≤ (F 60).toInt from h6), (show PKp F0 G0 G from hP), (show sN F0 ≤ sN F from hS), (show CB F0 G0 G from hC)⟩
theorem mcj_inConstant_54 {fu : Nat} (rc : RC) (ihC : mCI rc) {F0 : PF} {G0 : PG} (t70 : 0 ≤ (F0 70).toInt) (x1 : Int32) (x2 : Int32) (x3 : Int32) (F : PF) (G : PG) (hA : F 70 = F0 70 ∧ 0 ≤ (F 60).toInt ∧ PKp F0 G0 G ∧ sN F0 ≤ sN F ∧ CB F0 G0 G) : PP (mb_inConstant_54 fu rc x1 x2 x3 F G) (fun r' F' G' => CQ F0 G0 r' F' G') := by
  obtain ⟨hE, h6, hP, hS, hC⟩ := hA
  unfold mb_inConstant_54
  exact mcj_inConstant_59 rc ihC t70 x1 x2 x3 (1 : Int32) F G ⟨(show F 70 = F0 70 from hE), (show 0 ≤ (F 60).toInt from h6), (show PKp F0 G0 G from hP), (show sN F0 ≤ sN F from hS), (show CB F0 G0 G from hC)⟩
theorem mcj_inConstant_35 {fu : Nat} (rc : RC) (ihC : mCI rc) {F0 : PF} {G0 : PG} (t70 : 0 ≤ (F0 70).toInt) (x1 : Int32) (x2 : Int32) (z0 : Int32) (F : PF) (G : PG) (hA : F 70 = F0 70 ∧ 0 ≤ (F 60).toInt ∧ PKp F0 G0 G ∧ sN F0 ≤ sN F ∧ CB F0 G0 G) : PP (mb_inConstant_35 fu rc x1 x2 z0 F G) (fun r' F' G' => CQ F0 G0 r' F' G') := by
  obtain ⟨hE, h6, hP, hS, hC⟩ := hA
  unfold mb_inConstant_35
  refine PP.bind (mp_isSign (24 : Int32) F G) ?_
  rintro _ _ _ ⟨rfl, rfl, (⟨rfl, -⟩ | ⟨rfl, -⟩)⟩
  · dsimp only
    unfold mb_inConstant_42
    refine PP.ite (fun c_2 => absurd c_2 (by decide)) (fun _ => ?_)
    exact mcj_inConstant_54 rc ihC t70 x1 x2 z0 F G ⟨(show F 70 = F0 70 from hE), (show 0 ≤ (F 60).toInt from h6), (show PKp F0 G0 G from hP), (show sN F0 ≤ sN F from hS), (show CB F0 G0 G from hC)⟩
  · dsimp only
    unfold mb_inConstant_42
    refine PP.ite (fun _ => ?_) (fun c_3 => absurd (by decide) c_3)
    unfold mb_inConstant_45
    refine PP.bind (mp_isSign (22 : Int32) F G) ?_
    rintro _ _ _ ⟨rfl, rfl, (⟨rfl, -⟩ | ⟨rfl, -⟩)⟩
    · dsimp only
      unfold mb_inConstant_51
      refine PP.ite (fun c_5 => absurd c_5 (by decide)) (fun _ => ?_)
      exact mcj_inConstant_54 rc ihC t70 x1 x2 z0 F G ⟨(show F 70 = F0 70 from hE), (show 0 ≤ (F 60).toInt from h6), (show PKp F0 G0 G from hP), (show sN F0 ≤ sN F from hS), (show CB F0 G0 G from hC)⟩
    · dsimp only
      unfold mb_inConstant_51
      refine PP.ite (fun _ => ?_) (fun c_6 => absurd (by decide) c_6)
      unfold mb_inConstant_58
      exact mcj_inConstant_59 rc ihC t70 x1 x2 z0 (0 : Int32) F G ⟨(show F 70 = F0 70 from hE), (show 0 ≤ (F 60).toInt from h6), (show PKp F0 G0 G from hP), (show sN F0 ≤ sN F from hS), (show CB F0 G0 G from hC)⟩
theorem mcj_inConstant_34 {fu : Nat} (rc : RC) (ihC : mCI rc) {F0 : PF} {G0 : PG} (t70 : 0 ≤ (F0 70).toInt) (x1 : Int32) (x2 : Int32) (F : PF) (G : PG) (hA : F 70 = F0 70 ∧ 0 ≤ (F 60).toInt ∧ PKp F0 G0 G ∧ sN F0 ≤ sN F ∧ CB F0 G0 G) : PP (mb_inConstant_34 fu rc x1 x2 F G) (fun r' F' G' => CQ F0 G0 r' F' G') := by
  obtain ⟨hE, h6, hP, hS, hC⟩ := hA
  unfold mb_inConstant_34
  exact mcj_inConstant_35 rc ihC t70 x1 x2 (0 : Int32) F G ⟨(show F 70 = F0 70 from hE), (show 0 ≤ (F 60).toInt from h6), (show PKp F0 G0 G from hP), (show sN F0 ≤ sN F from hS), (show CB F0 G0 G from hC)⟩
theorem mcj_inConstant_16 {fu : Nat} (rc : RC) (ihC : mCI rc) {F0 : PF} {G0 : PG} (t70 : 0 ≤ (F0 70).toInt) (x1 : Int32) (z0 : Int32) (F : PF) (G : PG) (hA : F 70 = F0 70 ∧ 0 ≤ (F 60).toInt ∧ PKp F0 G0 G ∧ sN F0 ≤ sN F ∧ CB F0 G0 G) : PP (mb_inConstant_16 fu rc x1 z0 F G) (fun r' F' G' => CQ F0 G0 r' F' G') := by
  obtain ⟨hE, h6, hP, hS, hC⟩ := hA
  unfold mb_inConstant_16
  refine PP.ite (fun c_1 => ?_) (fun c_1 => ?_)
  · skip
    unfold mb_inConstant_22
    refine PP.ite (fun c_2 => ?_) (fun c_2 => ?_)
    · skip
      unfold mb_inConstant_30
      exact mcj_inConstant_35 rc ihC t70 x1 z0 (1 : Int32) F G ⟨(show F 70 = F0 70 from hE), (show 0 ≤ (F 60).toInt from h6), (show PKp F0 G0 G from hP), (show sN F0 ≤ sN F from hS), (show CB F0 G0 G from hC)⟩
    · skip
      exact mcj_inConstant_34 rc ihC t70 x1 z0 F G ⟨(show F 70 = F0 70 from hE), (show 0 ≤ (F 60).toInt from h6), (show PKp F0 G0 G from hP), (show sN F0 ≤ sN F from hS), (show CB F0 G0 G from hC)⟩
  · skip
    exact mcj_inConstant_34 rc ihC t70 x1 z0 F G ⟨(show F 70 = F0 70 from hE), (show 0 ≤ (F 60).toInt from h6), (show PKp F0 G0 G from hP), (show sN F0 ≤ sN F from hS), (show CB F0 G0 G from hC)⟩
theorem mct_inConstant {fu : Nat} (rc : RC) (ihC : mCI rc) (x1 : Int32) (F : PF) (G : PG) (t60 : 0 ≤ (F 60).toInt) (t70 : 0 ≤ (F 70).toInt) : PP (mh_inConstant fu rc x1 F G) (fun r' F' G' => CQ F G r' F' G') := by
  unfold mh_inConstant
  unfold mb_inConstant_0
  refine PP.ite (fun c_1 => ?_) (fun c_1 => ?_)
  · skip
    unfold mb_inConstant_7
    exact mcj_inConstant_16 rc ihC t70 x1 (-1 : Int32) F G ⟨(show F 70 = F 70 from (rfl : F 70 = F 70)), (show 0 ≤ (F 60).toInt from t60), (show PKp F G G from (fun _ _ => ⟨rfl, rfl⟩ : PKp F G G)), (show sN F ≤ sN F from (Nat.le_refl _ : sN F ≤ sN F)), (show CB F G G from (fun _ _ => cEq.rf : CB F G G))⟩
  · skip
    unfold mb_inConstant_11
    refine PP.bind (mw_meaning x1 F G) ?_
    intro r2 F2 G2 hK2
    dsimp only
    have k_3 : F2 70 = F 70 := (hK2.1 70 rfl).trans (show F 70 = F 70 from (rfl : F 70 = F 70))
    have k_4 : 0 ≤ (F2 60).toInt := by rw [hK2.1 60 rfl]; exact (show 0 ≤ (F 60).toInt from t60)
    have k_5 : sN F ≤ sN F2 := S_eq (show sN F ≤ sN F from (Nat.le_refl _ : sN F ≤ sN F)) (hK2.1 60 rfl)
    have k_6 : CB F G G2 := CB.kx (show CB F G G from (fun _ _ => cEq.rf : CB F G G)) hK2 rfl rfl rfl rfl
    have k_7 : PKp F G G2 := PKp.kx (show PKp F G G from (fun _ _ => ⟨rfl, rfl⟩ : PKp F G G)) hK2 rfl rfl
    exact mcj_inConstant_16 rc ihC t70 x1 r2 F2 G2 ⟨(show F2 70 = F 70 from k_3), (show 0 ≤ (F2 60).toInt from k_4), (show PKp F G G2 from k_7), (show sN F ≤ sN F2 from k_5), (show CB F G G2 from k_6)⟩
theorem mcj_named_212 {fu : Nat} (rc : RC) (ihC : mCI rc) {F0 : PF} {G0 : PG} (t70 : 0 ≤ (F0 70).toInt) (F : PF) (G : PG) (hA : F 70 = F0 70 ∧ 0 ≤ (F 60).toInt ∧ PKp F0 G0 G ∧ sN F0 ≤ sN F ∧ CB F0 G0 G) : PP (mb_named_212 fu rc F G) (fun r' F' G' => CQ F0 G0 r' F' G') := by
  obtain ⟨hE, h6, hP, hS, hC⟩ := hA
  unfold mb_named_212
  refine PP.ret ?_
  exact ⟨Or.inr rfl, (show 0 ≤ (F 60).toInt from h6), (show sN F0 ≤ sN F from hS), (show CB F0 G0 G from hC), fun _ => ⟨(show F 70 = F0 70 from hE), (show PKp F0 G0 G from hP)⟩⟩
theorem mcj_named_207 {fu : Nat} (rc : RC) (ihC : mCI rc) {F0 : PF} {G0 : PG} (t70 : 0 ≤ (F0 70).toInt) (z0 : Int32) (z1 : Int32) (F : PF) (G : PG) (hA : F 70 = F0 70 ∧ 0 ≤ (F 60).toInt ∧ PKp F0 G0 G ∧ sN F0 ≤ sN F ∧ CB F0 G0 G) : PP (mb_named_207 fu rc z0 z1 F G) (fun r' F' G' => CQ F0 G0 r' F' G') := by
  obtain ⟨hE, h6, hP, hS, hC⟩ := hA
  unfold mb_named_207
  refine PP.bind (mq_step z1 z0 (0 : Int32) F G) ?_
  rintro _ F1 G1 ⟨hK1, rfl, e1, g1, n1⟩
  dsimp only
  have k_2 : F1 70 = F0 70 := (hK1.1 70 rfl).trans (show F 70 = F0 70 from hE)
  have k_3 : 0 ≤ (F1 60).toInt := inc60 n1 e1
  have k_4 : sN F0 ≤ sN F1 := S_st (show sN F0 ≤ sN F from hS) n1 e1
  have k_5 : CB F0 G0 G1 := CB.stp (show CB F0 G0 G from hC) (show sN F0 ≤ sN F from hS) g1
  have k_6 : PKp F0 G0 G1 := PKp.kx (show PKp F0 G0 G from hP) hK1 rfl rfl
  unfold mb_named_211
  exact mcj_named_212 rc ihC t70 F1 G1 ⟨(show F1 70 = F0 70 from k_2), (show 0 ≤ (F1 60).toInt from k_3), (show PKp F0 G0 G1 from k_6), (show sN F0 ≤ sN F1 from k_4), (show CB F0 G0 G1 from k_5)⟩
theorem mcj_named_192 {fu : Nat} (rc : RC) (ihC : mCI rc) {F0 : PF} {G0 : PG} (t70 : 0 ≤ (F0 70).toInt) (x2 : Int32) (z0 : Int32) (F : PF) (G : PG) (hA : F 70 = F0 70 ∧ 0 ≤ (F 60).toInt ∧ PKp F0 G0 G ∧ sN F0 ≤ sN F ∧ CB F0 G0 G) : PP (mb_named_192 fu rc x2 z0 F G) (fun r' F' G' => CQ F0 G0 r' F' G') := by
  obtain ⟨hE, h6, hP, hS, hC⟩ := hA
  unfold mb_named_192
  refine PP.ite (fun c_1 => ?_) (fun c_1 => ?_)
  · skip
    unfold mb_named_197
    exact mcj_named_207 rc ihC t70 (0 : Int32) z0 F G ⟨(show F 70 = F0 70 from hE), (show 0 ≤ (F 60).toInt from h6), (show PKp F0 G0 G from hP), (show sN F0 ≤ sN F from hS), (show CB F0 G0 G from hC)⟩
  · skip
    unfold mb_named_201
    refine PP.ix (fun _ => ?_)
    exact mcj_named_207 rc ihC t70 (G 20 x2.toNatClampNeg) z0 F G ⟨(show F 70 = F0 70 from hE), (show 0 ≤ (F 60).toInt from h6), (show PKp F0 G0 G from hP), (show sN F0 ≤ sN F from hS), (show CB F0 G0 G from hC)⟩
theorem mcj_named_191 {fu : Nat} (rc : RC) (ihC : mCI rc) {F0 : PF} {G0 : PG} (t70 : 0 ≤ (F0 70).toInt) (x2 : Int32) (F : PF) (G : PG) (hA : F 70 = F0 70 ∧ 0 ≤ (F 60).toInt ∧ PKp F0 G0 G ∧ sN F0 ≤ sN F ∧ CB F0 G0 G) : PP (mb_named_191 fu rc x2 F G) (fun r' F' G' => CQ F0 G0 r' F' G') := by
  obtain ⟨hE, h6, hP, hS, hC⟩ := hA
  unfold mb_named_191
  exact mcj_named_192 rc ihC t70 x2 (3 : Int32) F G ⟨(show F 70 = F0 70 from hE), (show 0 ≤ (F 60).toInt from h6), (show PKp F0 G0 G from hP), (show sN F0 ≤ sN F from hS), (show CB F0 G0 G from hC)⟩
theorem mcj_named_172 {fu : Nat} (rc : RC) (ihC : mCI rc) {F0 : PF} {G0 : PG} (t70 : 0 ≤ (F0 70).toInt) (x2 : Int32) (F : PF) (G : PG) (hA : F 70 = F0 70 ∧ 0 ≤ (F 60).toInt ∧ PKp F0 G0 G ∧ sN F0 ≤ sN F ∧ CB F0 G0 G) : PP (mb_named_172 fu rc x2 F G) (fun r' F' G' => CQ F0 G0 r' F' G') := by
  obtain ⟨hE, h6, hP, hS, hC⟩ := hA
  unfold mb_named_172
  refine PP.ite (fun c_1 => ?_) (fun c_1 => ?_)
  · skip
    exact mcj_named_191 rc ihC t70 x2 F G ⟨(show F 70 = F0 70 from hE), (show 0 ≤ (F 60).toInt from h6), (show PKp F0 G0 G from hP), (show sN F0 ≤ sN F from hS), (show CB F0 G0 G from hC)⟩
  · skip
    unfold mb_named_178
    refine PP.ix (fun _ => ?_)
    refine PP.ite (fun c_2 => ?_) (fun c_2 => ?_)
    · skip
      exact mcj_named_191 rc ihC t70 x2 F G ⟨(show F 70 = F0 70 from hE), (show 0 ≤ (F 60).toInt from h6), (show PKp F0 G0 G from hP), (show sN F0 ≤ sN F from hS), (show CB F0 G0 G from hC)⟩
    · skip
      unfold mb_named_187
      exact mcj_named_192 rc ihC t70 x2 (1 : Int32) F G ⟨(show F 70 = F0 70 from hE), (show 0 ≤ (F 60).toInt from h6), (show PKp F0 G0 G from hP), (show sN F0 ≤ sN F from hS), (show CB F0 G0 G from hC)⟩
theorem mcj_named_115 {fu : Nat} (rc : RC) (ihC : mCI rc) {F0 : PF} {G0 : PG} (t70 : 0 ≤ (F0 70).toInt) (x2 : Int32) (x4 : Int32) (F : PF) (G : PG) (hA : F 70 = F0 70 ∧ 0 ≤ (F 60).toInt ∧ PKp F0 G0 G ∧ sN F0 ≤ sN F ∧ CB F0 G0 G) : PP (mb_named_115 fu rc x2 x4 F G) (fun r' F' G' => CQ F0 G0 r' F' G') := by
  obtain ⟨hE, h6, hP, hS, hC⟩ := hA
  unfold mb_named_115
  refine PP.ite (fun c_1 => ?_) (fun c_1 => ?_)
  · skip
    unfold mb_named_142
    refine PP.ite (fun c_2 => ?_) (fun c_2 => ?_)
    · skip
      exact mcj_named_172 rc ihC t70 x2 F G ⟨(show F 70 = F0 70 from hE), (show 0 ≤ (F 60).toInt from h6), (show PKp F0 G0 G from hP), (show sN F0 ≤ sN F from hS), (show CB F0 G0 G from hC)⟩
    · skip
      unfold mb_named_147
      refine PP.ix (fun _ => ?_)
      refine PP.ite (fun c_3 => ?_) (fun c_3 => ?_)
      · skip
        unfold mb_named_156
        refine PP.ix (fun _ => ?_)
        refine PP.bind (mq_step (0 : Int32) (G 20 x2.toNatClampNeg) (0 : Int32) F G) ?_
        rintro _ F4 G4 ⟨hK4, rfl, e4, g4, n4⟩
        dsimp only
        have k_5 : F4 70 = F0 70 := (hK4.1 70 rfl).trans (show F 70 = F0 70 from hE)
        have k_6 : 0 ≤ (F4 60).toInt := inc60 n4 e4
        have k_7 : sN F0 ≤ sN F4 := S_st (show sN F0 ≤ sN F from hS) n4 e4
        have k_8 : CB F0 G0 G4 := CB.stp (show CB F0 G0 G from hC) (show sN F0 ≤ sN F from hS) g4
        have k_9 : PKp F0 G0 G4 := PKp.kx (show PKp F0 G0 G from hP) hK4 rfl rfl
        unfold mb_named_168
        exact mcj_named_212 rc ihC t70 F4 G4 ⟨(show F4 70 = F0 70 from k_5), (show 0 ≤ (F4 60).toInt from k_6), (show PKp F0 G0 G4 from k_9), (show sN F0 ≤ sN F4 from k_7), (show CB F0 G0 G4 from k_8)⟩
      · skip
        exact mcj_named_172 rc ihC t70 x2 F G ⟨(show F 70 = F0 70 from hE), (show 0 ≤ (F 60).toInt from h6), (show PKp F0 G0 G from hP), (show sN F0 ≤ sN F from hS), (show CB F0 G0 G from hC)⟩
  · skip
    unfold mb_named_120
    refine PP.bind (ihC 3 x2 0 F G (show 0 ≤ (F 60).toInt from h6) (by rw [(show F 70 = F0 70 from hE)]; exact t70)) ?_
    rintro r10 F10 G10 ⟨(rfl | rfl), u10⟩
    · dsimp only
      obtain ⟨b10, d10, e10, -⟩ := u10
      have k_11 : 0 ≤ (F10 60).toInt := b10
      have k_12 : sN F0 ≤ sN F10 := Nat.le_trans (show sN F0 ≤ sN F from hS) d10
      have k_13 : CB F0 G0 G10 := CB.tr (show CB F0 G0 G from hC) (show sN F0 ≤ sN F from hS) e10
      unfold mb_named_125
      refine PP.ite (fun _ => ?_) (fun c_14 => absurd (by decide) c_14)
      unfold mb_named_128
      refine PP.ret ?_
      exact ⟨Or.inl rfl, (show 0 ≤ (F10 60).toInt from k_11), (show sN F0 ≤ sN F10 from k_12), (show CB F0 G0 G10 from k_13), fun h => absurd h (by decide)⟩
    · dsimp only
      obtain ⟨b10, d10, e10, u10⟩ := u10
      obtain ⟨a10, c10⟩ := u10 rfl
      have k_15 : F10 70 = F0 70 := a10.trans (show F 70 = F0 70 from hE)
      have k_16 : 0 ≤ (F10 60).toInt := b10
      have k_17 : sN F0 ≤ sN F10 := Nat.le_trans (show sN F0 ≤ sN F from hS) d10
      have k_18 : CB F0 G0 G10 := CB.tr (show CB F0 G0 G from hC) (show sN F0 ≤ sN F from hS) e10
      have k_19 : PKp F0 G0 G10 := PKp.tr (show PKp F0 G0 G from hP) c10 (show F 70 = F0 70 from hE)
      unfold mb_named_125
      refine PP.ite (fun c_20 => absurd c_20 (by decide)) (fun _ => ?_)
      unfold mb_named_130
      refine PP.bind (mq_step (7 : Int32) (0 : Int32) (0 : Int32) F10 G10) ?_
      rintro _ F21 G21 ⟨hK21, rfl, e21, g21, n21⟩
      dsimp only
      have k_22 : F21 70 = F0 70 := (hK21.1 70 rfl).trans (show F10 70 = F0 70 from k_15)
      have k_23 : 0 ≤ (F21 60).toInt := inc60 n21 e21
      have k_24 : sN F0 ≤ sN F21 := S_st (show sN F0 ≤ sN F10 from k_17) n21 e21
      have k_25 : CB F0 G0 G21 := CB.stp (show CB F0 G0 G10 from k_18) (show sN F0 ≤ sN F10 from k_17) g21
      have k_26 : PKp F0 G0 G21 := PKp.kx (show PKp F0 G0 G10 from k_19) hK21 rfl rfl
      unfold mb_named_138
      exact mcj_named_212 rc ihC t70 F21 G21 ⟨(show F21 70 = F0 70 from k_22), (show 0 ≤ (F21 60).toInt from k_23), (show PKp F0 G0 G21 from k_26), (show sN F0 ≤ sN F21 from k_24), (show CB F0 G0 G21 from k_25)⟩
theorem mcj_named_103 {fu : Nat} (rc : RC) (ihC : mCI rc) {F0 : PF} {G0 : PG} (t70 : 0 ≤ (F0 70).toInt) (x1 : Int32) (x2 : Int32) (x4 : Int32) (F : PF) (G : PG) (hA : F 70 = F0 70 ∧ 0 ≤ (F 60).toInt ∧ PKp F0 G0 G ∧ sN F0 ≤ sN F ∧ CB F0 G0 G) : PP (mb_named_103 fu rc x1 x2 x4 F G) (fun r' F' G' => CQ F0 G0 r' F' G') := by
  obtain ⟨hE, h6, hP, hS, hC⟩ := hA
  unfold mb_named_103
  refine PP.ix (fun _ => ?_)
  refine PP.bind (mw_note (6 : Int32) (G 6 x1.toNatClampNeg) F G) ?_
  intro r1 F1 G1 hK1
  dsimp only
  have k_2 : F1 70 = F0 70 := (hK1.1 70 rfl).trans (show F 70 = F0 70 from hE)
  have k_3 : 0 ≤ (F1 60).toInt := by rw [hK1.1 60 rfl]; exact (show 0 ≤ (F 60).toInt from h6)
  have k_4 : sN F0 ≤ sN F1 := S_eq (show sN F0 ≤ sN F from hS) (hK1.1 60 rfl)
  have k_5 : CB F0 G0 G1 := CB.kx (show CB F0 G0 G from hC) hK1 rfl rfl rfl rfl
  have k_6 : PKp F0 G0 G1 := PKp.kx (show PKp F0 G0 G from hP) hK1 rfl rfl
  exact mcj_named_115 rc ihC t70 x2 x4 F1 G1 ⟨(show F1 70 = F0 70 from k_2), (show 0 ≤ (F1 60).toInt from k_3), (show PKp F0 G0 G1 from k_6), (show sN F0 ≤ sN F1 from k_4), (show CB F0 G0 G1 from k_5)⟩
theorem mcj_named_100 {fu : Nat} (rc : RC) (ihC : mCI rc) {F0 : PF} {G0 : PG} (t70 : 0 ≤ (F0 70).toInt) (x1 : Int32) (x2 : Int32) (x4 : Int32) (z0 : Int32) (z1 : Int32) (F : PF) (G : PG) (hA : F 70 = F0 70 ∧ 0 ≤ (F 60).toInt ∧ PKp F0 G0 G ∧ sN F0 ≤ sN F ∧ CB F0 G0 G) : PP (mb_named_100 fu rc x1 x2 x4 z0 z1 F G) (fun r' F' G' => CQ F0 G0 r' F' G') := by
  obtain ⟨hE, h6, hP, hS, hC⟩ := hA
  unfold mb_named_100
  refine PP.ite (fun c_1 => ?_) (fun c_1 => ?_)
  · skip
    exact mcj_named_115 rc ihC t70 x2 x4 F G ⟨(show F 70 = F0 70 from hE), (show 0 ≤ (F 60).toInt from h6), (show PKp F0 G0 G from hP), (show sN F0 ≤ sN F from hS), (show CB F0 G0 G from hC)⟩
  · skip
    exact mcj_named_103 rc ihC t70 x1 x2 x4 F G ⟨(show F 70 = F0 70 from hE), (show 0 ≤ (F 60).toInt from h6), (show PKp F0 G0 G from hP), (show sN F0 ≤ sN F from hS), (show CB F0 G0 G from hC)⟩
theorem mcj_named_51 {fu : Nat} (rc : RC) (ihC : mCI rc) {F0 : PF} {G0 : PG} (t70 : 0 ≤ (F0 70).toInt) (x1 : Int32) (x2 : Int32) (z0 : Int32) (F : PF) (G : PG) (hA : F 70 = F0 70 ∧ 0 ≤ (F 60).toInt ∧ PKp F0 G0 G ∧ sN F0 ≤ sN F ∧ CB F0 G0 G) : PP (mb_named_51 fu rc x1 x2 z0 F G) (fun r' F' G' => CQ F0 G0 r' F' G') := by
  obtain ⟨hE, h6, hP, hS, hC⟩ := hA
  unfold mb_named_51
  refine PP.bind (mp_isSign (24 : Int32) F G) ?_
  rintro _ _ _ ⟨rfl, rfl, (⟨rfl, -⟩ | ⟨rfl, -⟩)⟩
  · dsimp only
    unfold mb_named_58
    refine PP.ite (fun c_2 => ?_) (fun c_2 => ?_)
    · skip
      unfold mb_named_78
      refine PP.ite (fun c_3 => ?_) (fun c_3 => ?_)
      · skip
        exact mcj_named_103 rc ihC t70 x1 x2 (1 : Int32) F G ⟨(show F 70 = F0 70 from hE), (show 0 ≤ (F 60).toInt from h6), (show PKp F0 G0 G from hP), (show sN F0 ≤ sN F from hS), (show CB F0 G0 G from hC)⟩
      · skip
        unfold mb_named_83
        refine PP.ix (fun _ => ?_)
        refine PP.ite (fun c_4 => ?_) (fun c_4 => ?_)
        · skip
          unfold mb_named_95
          exact mcj_named_100 rc ihC t70 x1 x2 (1 : Int32) (1 : Int32) (1 : Int32) F G ⟨(show F 70 = F0 70 from hE), (show 0 ≤ (F 60).toInt from h6), (show PKp F0 G0 G from hP), (show sN F0 ≤ sN F from hS), (show CB F0 G0 G from hC)⟩
        · skip
          unfold mb_named_99
          exact mcj_named_100 rc ihC t70 x1 x2 (1 : Int32) (0 : Int32) (1 : Int32) F G ⟨(show F 70 = F0 70 from hE), (show 0 ≤ (F 60).toInt from h6), (show PKp F0 G0 G from hP), (show sN F0 ≤ sN F from hS), (show CB F0 G0 G from hC)⟩
    · skip
      unfold mb_named_64
      refine PP.ix (fun _ => ?_)
      refine PP.bind (mw_note (4 : Int32) (G 6 x1.toNatClampNeg) F G) ?_
      intro r5 F5 G5 hK5
      dsimp only
      have k_6 : F5 70 = F0 70 := (hK5.1 70 rfl).trans (show F 70 = F0 70 from hE)
      have k_7 : 0 ≤ (F5 60).toInt := by rw [hK5.1 60 rfl]; exact (show 0 ≤ (F 60).toInt from h6)
      have k_8 : sN F0 ≤ sN F5 := S_eq (show sN F0 ≤ sN F from hS) (hK5.1 60 rfl)
      have k_9 : CB F0 G0 G5 := CB.kx (show CB F0 G0 G from hC) hK5 rfl rfl rfl rfl
      have k_10 : PKp F0 G0 G5 := PKp.kx (show PKp F0 G0 G from hP) hK5 rfl rfl
      unfold mb_named_75
      exact mcj_named_115 rc ihC t70 x2 (1 : Int32) F5 G5 ⟨(show F5 70 = F0 70 from k_6), (show 0 ≤ (F5 60).toInt from k_7), (show PKp F0 G0 G5 from k_10), (show sN F0 ≤ sN F5 from k_8), (show CB F0 G0 G5 from k_9)⟩
  · dsimp only
    unfold mb_named_58
    refine PP.ite (fun c_11 => ?_) (fun c_11 => ?_)
    · skip
      unfold mb_named_78
      refine PP.ite (fun c_12 => ?_) (fun c_12 => ?_)
      · skip
        exact mcj_named_103 rc ihC t70 x1 x2 (0 : Int32) F G ⟨(show F 70 = F0 70 from hE), (show 0 ≤ (F 60).toInt from h6), (show PKp F0 G0 G from hP), (show sN F0 ≤ sN F from hS), (show CB F0 G0 G from hC)⟩
      · skip
        unfold mb_named_83
        refine PP.ix (fun _ => ?_)
        refine PP.ite (fun c_13 => ?_) (fun c_13 => ?_)
        · skip
          unfold mb_named_95
          exact mcj_named_100 rc ihC t70 x1 x2 (0 : Int32) (1 : Int32) (0 : Int32) F G ⟨(show F 70 = F0 70 from hE), (show 0 ≤ (F 60).toInt from h6), (show PKp F0 G0 G from hP), (show sN F0 ≤ sN F from hS), (show CB F0 G0 G from hC)⟩
        · skip
          unfold mb_named_99
          exact mcj_named_100 rc ihC t70 x1 x2 (0 : Int32) (0 : Int32) (0 : Int32) F G ⟨(show F 70 = F0 70 from hE), (show 0 ≤ (F 60).toInt from h6), (show PKp F0 G0 G from hP), (show sN F0 ≤ sN F from hS), (show CB F0 G0 G from hC)⟩
    · skip
      unfold mb_named_64
      refine PP.ix (fun _ => ?_)
      refine PP.bind (mw_note (4 : Int32) (G 6 x1.toNatClampNeg) F G) ?_
      intro r14 F14 G14 hK14
      dsimp only
      have k_15 : F14 70 = F0 70 := (hK14.1 70 rfl).trans (show F 70 = F0 70 from hE)
      have k_16 : 0 ≤ (F14 60).toInt := by rw [hK14.1 60 rfl]; exact (show 0 ≤ (F 60).toInt from h6)
      have k_17 : sN F0 ≤ sN F14 := S_eq (show sN F0 ≤ sN F from hS) (hK14.1 60 rfl)
      have k_18 : CB F0 G0 G14 := CB.kx (show CB F0 G0 G from hC) hK14 rfl rfl rfl rfl
      have k_19 : PKp F0 G0 G14 := PKp.kx (show PKp F0 G0 G from hP) hK14 rfl rfl
      unfold mb_named_75
      exact mcj_named_115 rc ihC t70 x2 (0 : Int32) F14 G14 ⟨(show F14 70 = F0 70 from k_15), (show 0 ≤ (F14 60).toInt from k_16), (show PKp F0 G0 G14 from k_19), (show sN F0 ≤ sN F14 from k_17), (show CB F0 G0 G14 from k_18)⟩
theorem mcj_named_50 {fu : Nat} (rc : RC) (ihC : mCI rc) {F0 : PF} {G0 : PG} (t70 : 0 ≤ (F0 70).toInt) (x1 : Int32) (x2 : Int32) (F : PF) (G : PG) (hA : F 70 = F0 70 ∧ 0 ≤ (F 60).toInt ∧ PKp F0 G0 G ∧ sN F0 ≤ sN F ∧ CB F0 G0 G) : PP (mb_named_50 fu rc x1 x2 F G) (fun r' F' G' => CQ F0 G0 r' F' G') := by
  obtain ⟨hE, h6, hP, hS, hC⟩ := hA
  unfold mb_named_50
  exact mcj_named_51 rc ihC t70 x1 x2 (0 : Int32) F G ⟨(show F 70 = F0 70 from hE), (show 0 ≤ (F 60).toInt from h6), (show PKp F0 G0 G from hP), (show sN F0 ≤ sN F from hS), (show CB F0 G0 G from hC)⟩
theorem mcj_named_32 {fu : Nat} (rc : RC) (ihC : mCI rc) {F0 : PF} {G0 : PG} (t70 : 0 ≤ (F0 70).toInt) (x1 : Int32) (z0 : Int32) (F : PF) (G : PG) (hA : F 70 = F0 70 ∧ 0 ≤ (F 60).toInt ∧ PKp F0 G0 G ∧ sN F0 ≤ sN F ∧ CB F0 G0 G) : PP (mb_named_32 fu rc x1 z0 F G) (fun r' F' G' => CQ F0 G0 r' F' G') := by
  obtain ⟨hE, h6, hP, hS, hC⟩ := hA
  unfold mb_named_32
  refine PP.ite (fun c_1 => ?_) (fun c_1 => ?_)
  · skip
    unfold mb_named_38
    refine PP.ite (fun c_2 => ?_) (fun c_2 => ?_)
    · skip
      unfold mb_named_46
      exact mcj_named_51 rc ihC t70 x1 z0 (1 : Int32) F G ⟨(show F 70 = F0 70 from hE), (show 0 ≤ (F 60).toInt from h6), (show PKp F0 G0 G from hP), (show sN F0 ≤ sN F from hS), (show CB F0 G0 G from hC)⟩
    · skip
      exact mcj_named_50 rc ihC t70 x1 z0 F G ⟨(show F 70 = F0 70 from hE), (show 0 ≤ (F 60).toInt from h6), (show PKp F0 G0 G from hP), (show sN F0 ≤ sN F from hS), (show CB F0 G0 G from hC)⟩
  · skip
    exact mcj_named_50 rc ihC t70 x1 z0 F G ⟨(show F 70 = F0 70 from hE), (show 0 ≤ (F 60).toInt from h6), (show PKp F0 G0 G from hP), (show sN F0 ≤ sN F from hS), (show CB F0 G0 G from hC)⟩
theorem mct_named {fu : Nat} (rc : RC) (ihC : mCI rc) (x1 : Int32) (F : PF) (G : PG) (t60 : 0 ≤ (F 60).toInt) (t70 : 0 ≤ (F 70).toInt) : PP (mh_named fu rc x1 F G) (fun r' F' G' => CQ F G r' F' G') := by
  unfold mh_named
  unfold mb_named_0
  refine PP.bind (mp_isSign (22 : Int32) F G) ?_
  rintro _ _ _ ⟨rfl, rfl, (⟨rfl, -⟩ | ⟨rfl, -⟩)⟩
  · dsimp only
    unfold mb_named_6
    refine PP.ite (fun c_2 => absurd c_2 (by decide)) (fun _ => ?_)
    unfold mb_named_9
    refine PP.bind (ihC 1 x1 (1 : Int32) F G (show 0 ≤ (F 60).toInt from t60) (by rw [(show F 70 = F 70 from (rfl : F 70 = F 70))]; exact t70)) ?_
    rintro r3 F3 G3 ⟨(rfl | rfl), u3⟩
    · dsimp only
      obtain ⟨b3, d3, e3, -⟩ := u3
      have k_4 : 0 ≤ (F3 60).toInt := b3
      have k_5 : sN F ≤ sN F3 := Nat.le_trans (show sN F ≤ sN F from (Nat.le_refl _ : sN F ≤ sN F)) d3
      have k_6 : CB F G G3 := CB.tr (show CB F G G from (fun _ _ => cEq.rf : CB F G G)) (show sN F ≤ sN F from (Nat.le_refl _ : sN F ≤ sN F)) e3
      unfold mb_named_15
      refine PP.ret ?_
      exact ⟨Or.inl rfl, (show 0 ≤ (F3 60).toInt from k_4), (show sN F ≤ sN F3 from k_5), (show CB F G G3 from k_6), fun h => absurd h (by decide)⟩
    · dsimp only
      obtain ⟨b3, d3, e3, u3⟩ := u3
      obtain ⟨a3, c3⟩ := u3 rfl
      have k_7 : F3 70 = F 70 := a3.trans (show F 70 = F 70 from (rfl : F 70 = F 70))
      have k_8 : 0 ≤ (F3 60).toInt := b3
      have k_9 : sN F ≤ sN F3 := Nat.le_trans (show sN F ≤ sN F from (Nat.le_refl _ : sN F ≤ sN F)) d3
      have k_10 : CB F G G3 := CB.tr (show CB F G G from (fun _ _ => cEq.rf : CB F G G)) (show sN F ≤ sN F from (Nat.le_refl _ : sN F ≤ sN F)) e3
      have k_11 : PKp F G G3 := PKp.tr (show PKp F G G from (fun _ _ => ⟨rfl, rfl⟩ : PKp F G G)) c3 (show F 70 = F 70 from (rfl : F 70 = F 70))
      unfold mb_named_15
      refine PP.ret ?_
      exact ⟨Or.inr rfl, (show 0 ≤ (F3 60).toInt from k_8), (show sN F ≤ sN F3 from k_9), (show CB F G G3 from k_10), fun _ => ⟨(show F3 70 = F 70 from k_7), (show PKp F G G3 from k_11)⟩⟩
  · dsimp only
    unfold mb_named_6
    refine PP.ite (fun _ => ?_) (fun c_12 => absurd (by decide) c_12)
    unfold mb_named_16
    refine PP.ite (fun c_13 => ?_) (fun c_13 => ?_)
    · skip
      unfold mb_named_23
      exact mcj_named_32 rc ihC t70 x1 (-1 : Int32) F G ⟨(show F 70 = F 70 from (rfl : F 70 = F 70)), (show 0 ≤ (F 60).toInt from t60), (show PKp F G G from (fun _ _ => ⟨rfl, rfl⟩ : PKp F G G)), (show sN F ≤ sN F from (Nat.le_refl _ : sN F ≤ sN F)), (show CB F G G from (fun _ _ => cEq.rf : CB F G G))⟩
    · skip
      unfold mb_named_27
      refine PP.bind (mw_meaning x1 F G) ?_
      intro r14 F14 G14 hK14
      dsimp only
      have k_15 : F14 70 = F 70 := (hK14.1 70 rfl).trans (show F 70 = F 70 from (rfl : F 70 = F 70))
      have k_16 : 0 ≤ (F14 60).toInt := by rw [hK14.1 60 rfl]; exact (show 0 ≤ (F 60).toInt from t60)
      have k_17 : sN F ≤ sN F14 := S_eq (show sN F ≤ sN F from (Nat.le_refl _ : sN F ≤ sN F)) (hK14.1 60 rfl)
      have k_18 : CB F G G14 := CB.kx (show CB F G G from (fun _ _ => cEq.rf : CB F G G)) hK14 rfl rfl rfl rfl
      have k_19 : PKp F G G14 := PKp.kx (show PKp F G G from (fun _ _ => ⟨rfl, rfl⟩ : PKp F G G)) hK14 rfl rfl
      exact mcj_named_32 rc ihC t70 x1 r14 F14 G14 ⟨(show F14 70 = F 70 from k_15), (show 0 ≤ (F14 60).toInt from k_16), (show PKp F G G14 from k_19), (show sN F ≤ sN F14 from k_17), (show CB F G G14 from k_18)⟩
theorem mcj_operand_32 {fu : Nat} (rc : RC) (ihC : mCI rc) {F0 : PF} {G0 : PG} (t70 : 0 ≤ (F0 70).toInt) (ag_5 : Int32 → PF → PG → PR) (hag_5 : ∀ (x1 : Int32) (F : PF) (G : PG) (hA : F 70 = F0 70 ∧ 0 ≤ (F 60).toInt ∧ PKp F0 G0 G ∧ sN F0 ≤ sN F ∧ CB F0 G0 G), PP (ag_5 x1 F G) (fun r' F' G' => CQ F0 G0 r' F' G')) (x1 : Int32) (F : PF) (G : PG) (hA : F 70 = F0 70 ∧ 0 ≤ (F 60).toInt ∧ PKp F0 G0 G ∧ sN F0 ≤ sN F ∧ CB F0 G0 G) : PP (mb_operand_32 fu rc ag_5 x1 F G) (fun r' F' G' => CQ F0 G0 r' F' G') := by
  obtain ⟨hE, h6, hP, hS, hC⟩ := hA
  unfold mb_operand_32
  unfold mb_operand_42
  exact hag_5 x1 (fup F 42 ((F 42) + (1 : Int32))) G ⟨(show (fup F 42 ((F 42) + (1 : Int32))) 70 = F0 70 from hE), (show 0 ≤ ((fup F 42 ((F 42) + (1 : Int32))) 60).toInt from h6), (show PKp F0 G0 G from hP), (show sN F0 ≤ sN (fup F 42 ((F 42) + (1 : Int32))) from hS), (show CB F0 G0 G from hC)⟩
theorem mcz_operand_63 {fu : Nat} (rc : RC) (ihC : mCI rc) {F0 : PF} {G0 : PG} (t70 : 0 ≤ (F0 70).toInt) : ∀ (n : Nat) (x1 : Int32) (x3 : Int32) (F : PF) (G : PG) (hA : F 70 = F0 70 ∧ 0 ≤ (F 60).toInt ∧ PKp F0 G0 G ∧ sN F0 ≤ sN F ∧ CB F0 G0 G), PP (ml_operand_63 fu rc n x1 x3 F G) (fun r' F' G' => CQ F0 G0 r' F' G') := by
  intro n
  induction n with
  | zero =>
    intro x1 x3 F G hA
    exact PP.no
  | succ n ihn =>
    intro x1 x3 F G hA
    show PP (mb_operand_63 fu rc (ml_operand_63 fu rc n) x1 x3 F G) _
    obtain ⟨hE, h6, hP, hS, hC⟩ := hA
    unfold mb_operand_63
    refine PP.ite (fun c_1 => ?_) (fun c_1 => ?_)
    · skip
      unfold mb_operand_88
      refine PP.ret ?_
      exact ⟨Or.inr rfl, (show 0 ≤ (F 60).toInt from h6), (show sN F0 ≤ sN F from hS), (show CB F0 G0 G from hC), fun _ => ⟨(show F 70 = F0 70 from hE), (show PKp F0 G0 G from hP)⟩⟩
    · skip
      unfold mb_operand_68
      refine PP.ix (fun _ => ?_)
      refine PP.bind (mq_step (11 : Int32) (G 5 x3.toNatClampNeg) (0 : Int32) F G) ?_
      rintro _ F2 G2 ⟨hK2, rfl, e2, g2, n2⟩
      dsimp only
      have k_3 : F2 70 = F0 70 := (hK2.1 70 rfl).trans (show F 70 = F0 70 from hE)
      have k_4 : 0 ≤ (F2 60).toInt := inc60 n2 e2
      have k_5 : sN F0 ≤ sN F2 := S_st (show sN F0 ≤ sN F from hS) n2 e2
      have k_6 : CB F0 G0 G2 := CB.stp (show CB F0 G0 G from hC) (show sN F0 ≤ sN F from hS) g2
      have k_7 : PKp F0 G0 G2 := PKp.kx (show PKp F0 G0 G from hP) hK2 rfl rfl
      unfold mb_operand_81
      exact ihn x1 (x3 + (-1 : Int32)) F2 G2 ⟨(show F2 70 = F0 70 from k_3), (show 0 ≤ (F2 60).toInt from k_4), (show PKp F0 G0 G2 from k_7), (show sN F0 ≤ sN F2 from k_5), (show CB F0 G0 G2 from k_6)⟩
theorem mcz_operand_5 {fu : Nat} (rc : RC) (ihC : mCI rc) {F0 : PF} {G0 : PG} (t70 : 0 ≤ (F0 70).toInt) : ∀ (n : Nat) (x1 : Int32) (F : PF) (G : PG) (hA : F 70 = F0 70 ∧ 0 ≤ (F 60).toInt ∧ PKp F0 G0 G ∧ sN F0 ≤ sN F ∧ CB F0 G0 G), PP (ml_operand_5 fu rc n x1 F G) (fun r' F' G' => CQ F0 G0 r' F' G') := by
  intro n
  induction n with
  | zero =>
    intro x1 F G hA
    exact PP.no
  | succ n ihn =>
    intro x1 F G hA
    show PP (mb_operand_5 fu rc (ml_operand_5 fu rc n) x1 F G) _
    obtain ⟨hE, h6, hP, hS, hC⟩ := hA
    unfold mb_operand_5
    refine PP.bind (mp_isSign (39 : Int32) F G) ?_
    rintro _ _ _ ⟨rfl, rfl, (⟨rfl, -⟩ | ⟨rfl, -⟩)⟩
    · dsimp only
      unfold mb_operand_11
      refine PP.ite (fun c_2 => absurd c_2 (by decide)) (fun _ => ?_)
      exact mcj_operand_32 rc ihC t70 (ml_operand_5 fu rc n) ihn x1 F G ⟨(show F 70 = F0 70 from hE), (show 0 ≤ (F 60).toInt from h6), (show PKp F0 G0 G from hP), (show sN F0 ≤ sN F from hS), (show CB F0 G0 G from hC)⟩
    · dsimp only
      unfold mb_operand_11
      refine PP.ite (fun _ => ?_) (fun c_3 => absurd (by decide) c_3)
      unfold mb_operand_14
      refine PP.bind (mp_isSign (43 : Int32) F G) ?_
      rintro _ _ _ ⟨rfl, rfl, (⟨rfl, -⟩ | ⟨rfl, -⟩)⟩
      · dsimp only
        unfold mb_operand_20
        refine PP.ite (fun c_5 => absurd c_5 (by decide)) (fun _ => ?_)
        exact mcj_operand_32 rc ihC t70 (ml_operand_5 fu rc n) ihn x1 F G ⟨(show F 70 = F0 70 from hE), (show 0 ≤ (F 60).toInt from h6), (show PKp F0 G0 G from hP), (show sN F0 ≤ sN F from hS), (show CB F0 G0 G from hC)⟩
      · dsimp only
        unfold mb_operand_20
        refine PP.ite (fun _ => ?_) (fun c_6 => absurd (by decide) c_6)
        unfold mb_operand_23
        refine PP.bind (mp_isSign (44 : Int32) F G) ?_
        rintro _ _ _ ⟨rfl, rfl, (⟨rfl, -⟩ | ⟨rfl, -⟩)⟩
        · dsimp only
          unfold mb_operand_29
          refine PP.ite (fun c_8 => absurd c_8 (by decide)) (fun _ => ?_)
          exact mcj_operand_32 rc ihC t70 (ml_operand_5 fu rc n) ihn x1 F G ⟨(show F 70 = F0 70 from hE), (show 0 ≤ (F 60).toInt from h6), (show PKp F0 G0 G from hP), (show sN F0 ≤ sN F from hS), (show CB F0 G0 G from hC)⟩
        · dsimp only
          unfold mb_operand_29
          refine PP.ite (fun _ => ?_) (fun c_9 => absurd (by decide) c_9)
          unfold mb_operand_45
          refine PP.bind (ihC 8 0 0 F G (show 0 ≤ (F 60).toInt from h6) (by rw [(show F 70 = F0 70 from hE)]; exact t70)) ?_
          rintro r10 F10 G10 ⟨(rfl | rfl), u10⟩
          · dsimp only
            obtain ⟨b10, d10, e10, -⟩ := u10
            have k_11 : 0 ≤ (F10 60).toInt := b10
            have k_12 : sN F0 ≤ sN F10 := Nat.le_trans (show sN F0 ≤ sN F from hS) d10
            have k_13 : CB F0 G0 G10 := CB.tr (show CB F0 G0 G from hC) (show sN F0 ≤ sN F from hS) e10
            unfold mb_operand_54
            refine PP.ite (fun _ => ?_) (fun c_14 => absurd (by decide) c_14)
            unfold mb_operand_57
            refine PP.ret ?_
            exact ⟨Or.inl rfl, (show 0 ≤ (F10 60).toInt from k_11), (show sN F0 ≤ sN F10 from k_12), (show CB F0 G0 G10 from k_13), fun h => absurd h (by decide)⟩
          · dsimp only
            obtain ⟨b10, d10, e10, u10⟩ := u10
            obtain ⟨a10, c10⟩ := u10 rfl
            have k_15 : F10 70 = F0 70 := a10.trans (show F 70 = F0 70 from hE)
            have k_16 : 0 ≤ (F10 60).toInt := b10
            have k_17 : sN F0 ≤ sN F10 := Nat.le_trans (show sN F0 ≤ sN F from hS) d10
            have k_18 : CB F0 G0 G10 := CB.tr (show CB F0 G0 G from hC) (show sN F0 ≤ sN F from hS) e10
            have k_19 : PKp F0 G0 G10 := PKp.tr (show PKp F0 G0 G from hP) c10 (show F 70 = F0 70 from hE)
            unfold mb_operand_54
            refine PP.ite (fun c_20 => absurd c_20 (by decide)) (fun _ => ?_)
            unfold mb_operand_59
            exact mcz_operand_63 rc ihC t70 fu x1 ((F 42) - (1 : Int32)) F10 G10 ⟨(show F10 70 = F0 70 from k_15), (show 0 ≤ (F10 60).toInt from k_16), (show PKp F0 G0 G10 from k_19), (show sN F0 ≤ sN F10 from k_17), (show CB F0 G0 G10 from k_18)⟩
theorem mct_operand {fu : Nat} (rc : RC) (ihC : mCI rc) (F : PF) (G : PG) (t60 : 0 ≤ (F 60).toInt) (t70 : 0 ≤ (F 70).toInt) : PP (mh_operand fu rc F G) (fun r' F' G' => CQ F G r' F' G') := by
  unfold mh_operand
  unfold mb_operand_0
  exact mcz_operand_5 rc ihC t70 fu (F 42) F G ⟨(show F 70 = F 70 from (rfl : F 70 = F 70)), (show 0 ≤ (F 60).toInt from t60), (show PKp F G G from (fun _ _ => ⟨rfl, rfl⟩ : PKp F G G)), (show sN F ≤ sN F from (Nat.le_refl _ : sN F ≤ sN F)), (show CB F G G from (fun _ _ => cEq.rf : CB F G G))⟩
theorem mct_plain {fu : Nat} (rc : RC) (ihC : mCI rc) (F : PF) (G : PG) (t60 : 0 ≤ (F 60).toInt) (t70 : 0 ≤ (F 70).toInt) : PP (mh_plain fu rc F G) (fun r' F' G' => CQ F G r' F' G') := by
  unfold mh_plain
  unfold mb_plain_0
  refine PP.ix (fun _ => ?_)
  refine PP.ite (fun c_1 => ?_) (fun c_1 => ?_)
  · skip
    unfold mb_plain_13
    refine PP.ix (fun _ => ?_)
    refine PP.bind (mq_step (0 : Int32) (G 5 (F 42).toNatClampNeg) (0 : Int32) F G) ?_
    rintro _ F2 G2 ⟨hK2, rfl, e2, g2, n2⟩
    dsimp only
    have k_3 : F2 70 = F 70 := (hK2.1 70 rfl).trans (show F 70 = F 70 from (rfl : F 70 = F 70))
    have k_4 : 0 ≤ (F2 60).toInt := inc60 n2 e2
    have k_5 : sN F ≤ sN F2 := S_st (show sN F ≤ sN F from (Nat.le_refl _ : sN F ≤ sN F)) n2 e2
    have k_6 : CB F G G2 := CB.stp (show CB F G G from (fun _ _ => cEq.rf : CB F G G)) (show sN F ≤ sN F from (Nat.le_refl _ : sN F ≤ sN F)) g2
    have k_7 : PKp F G G2 := PKp.kx (show PKp F G G from (fun _ _ => ⟨rfl, rfl⟩ : PKp F G G)) hK2 rfl rfl
    unfold mb_plain_28
    unfold mb_plain_39
    refine PP.ret ?_
    exact ⟨Or.inr rfl, (show 0 ≤ ((fup F2 42 ((F2 42) + (1 : Int32))) 60).toInt from k_4), (show sN F ≤ sN (fup F2 42 ((F2 42) + (1 : Int32))) from k_5), (show CB F G G2 from k_6), fun _ => ⟨(show (fup F2 42 ((F2 42) + (1 : Int32))) 70 = F 70 from k_3), (show PKp F G G2 from k_7)⟩⟩
  · skip
    unfold mb_plain_41
    refine PP.bind (mp_isSign (22 : Int32) F G) ?_
    rintro _ _ _ ⟨rfl, rfl, (⟨rfl, -⟩ | ⟨rfl, -⟩)⟩
    · dsimp only
      unfold mb_plain_47
      refine PP.ite (fun c_9 => absurd c_9 (by decide)) (fun _ => ?_)
      unfold mb_plain_50
      refine PP.bind (mw_opens F G) ?_
      intro r10 F10 G10 hK10
      dsimp only
      have k_11 : F10 70 = F 70 := (hK10.1 70 rfl).trans (show F 70 = F 70 from (rfl : F 70 = F 70))
      have k_12 : 0 ≤ (F10 60).toInt := by rw [hK10.1 60 rfl]; exact (show 0 ≤ (F 60).toInt from t60)
      have k_13 : sN F ≤ sN F10 := S_eq (show sN F ≤ sN F from (Nat.le_refl _ : sN F ≤ sN F)) (hK10.1 60 rfl)
      have k_14 : CB F G G10 := CB.kx (show CB F G G from (fun _ _ => cEq.rf : CB F G G)) hK10 rfl rfl rfl rfl
      have k_15 : PKp F G G10 := PKp.kx (show PKp F G G from (fun _ _ => ⟨rfl, rfl⟩ : PKp F G G)) hK10 rfl rfl
      unfold mb_plain_54
      refine PP.ite (fun c_16 => ?_) (fun c_16 => ?_)
      · skip
        unfold mb_plain_77
        unfold mb_plain_78
        refine PP.ret ?_
        exact ⟨Or.inl rfl, (show 0 ≤ (F10 60).toInt from k_12), (show sN F ≤ sN F10 from k_13), (show CB F G G10 from k_14), fun h => absurd h (by decide)⟩
      · skip
        unfold mb_plain_57
        refine PP.bind (ihC 4 0 0 F10 G10 (show 0 ≤ (F10 60).toInt from k_12) (by rw [(show F10 70 = F 70 from k_11)]; exact t70)) ?_
        rintro r17 F17 G17 ⟨(rfl | rfl), u17⟩
        · dsimp only
          obtain ⟨b17, d17, e17, -⟩ := u17
          have k_18 : 0 ≤ (F17 60).toInt := b17
          have k_19 : sN F ≤ sN F17 := Nat.le_trans (show sN F ≤ sN F10 from k_13) d17
          have k_20 : CB F G G17 := CB.tr (show CB F G G10 from k_14) (show sN F ≤ sN F10 from k_13) e17
          unfold mb_plain_61
          refine PP.ite (fun _ => ?_) (fun c_21 => absurd (by decide) c_21)
          unfold mb_plain_77
          unfold mb_plain_78
          refine PP.ret ?_
          exact ⟨Or.inl rfl, (show 0 ≤ (F17 60).toInt from k_18), (show sN F ≤ sN F17 from k_19), (show CB F G G17 from k_20), fun h => absurd h (by decide)⟩
        · dsimp only
          obtain ⟨b17, d17, e17, u17⟩ := u17
          obtain ⟨a17, c17⟩ := u17 rfl
          have k_22 : F17 70 = F 70 := a17.trans (show F10 70 = F 70 from k_11)
          have k_23 : 0 ≤ (F17 60).toInt := b17
          have k_24 : sN F ≤ sN F17 := Nat.le_trans (show sN F ≤ sN F10 from k_13) d17
          have k_25 : CB F G G17 := CB.tr (show CB F G G10 from k_14) (show sN F ≤ sN F10 from k_13) e17
          have k_26 : PKp F G G17 := PKp.tr (show PKp F G G10 from k_15) c17 (show F10 70 = F 70 from k_11)
          unfold mb_plain_61
          refine PP.ite (fun c_27 => absurd c_27 (by decide)) (fun _ => ?_)
          unfold mb_plain_64
          refine PP.bind (mw_closeSign (23 : Int32) F17 G17) ?_
          intro r28 F28 G28 hK28
          dsimp only
          have k_29 : F28 70 = F 70 := (hK28.1 70 rfl).trans (show F17 70 = F 70 from k_22)
          have k_30 : 0 ≤ (F28 60).toInt := by rw [hK28.1 60 rfl]; exact (show 0 ≤ (F17 60).toInt from k_23)
          have k_31 : sN F ≤ sN F28 := S_eq (show sN F ≤ sN F17 from k_24) (hK28.1 60 rfl)
          have k_32 : CB F G G28 := CB.kx (show CB F G G17 from k_25) hK28 rfl rfl rfl rfl
          have k_33 : PKp F G G28 := PKp.kx (show PKp F G G17 from k_26) hK28 rfl rfl
          unfold mb_plain_70
          refine PP.ite (fun c_34 => ?_) (fun c_34 => ?_)
          · skip
            unfold mb_plain_77
            unfold mb_plain_78
            refine PP.ret ?_
            exact ⟨Or.inl rfl, (show 0 ≤ (F28 60).toInt from k_30), (show sN F ≤ sN F28 from k_31), (show CB F G G28 from k_32), fun h => absurd h (by decide)⟩
          · skip
            unfold mb_plain_73
            unfold mb_plain_78
            refine PP.ret ?_
            exact ⟨Or.inr rfl, (show 0 ≤ (F28 60).toInt from k_30), (show sN F ≤ sN F28 from k_31), (show CB F G G28 from k_32), fun _ => ⟨(show F28 70 = F 70 from k_29), (show PKp F G G28 from k_33)⟩⟩
    · dsimp only
      unfold mb_plain_47
      refine PP.ite (fun _ => ?_) (fun c_35 => absurd (by decide) c_35)
      unfold mb_plain_79
      refine PP.bind (mp_isWord (13 : Int32) F G) ?_
      rintro _ _ _ ⟨rfl, rfl, (⟨rfl, -⟩ | ⟨rfl, -⟩)⟩
      · dsimp only
        unfold mb_plain_85
        refine PP.ite (fun c_37 => absurd c_37 (by decide)) (fun _ => ?_)
        unfold mb_plain_88
        refine PP.ite (fun c_38 => ?_) (fun c_38 => ?_)
        · skip
          unfold mb_plain_115
          unfold mb_plain_125
          refine PP.bind (mw_openSign (22 : Int32) (fup F 42 ((F 42) + (1 : Int32))) G) ?_
          intro r39 F39 G39 hK39
          dsimp only
          have k_40 : F39 70 = F 70 := (hK39.1 70 rfl).trans (show (fup F 42 ((F 42) + (1 : Int32))) 70 = F 70 from (rfl : F 70 = F 70))
          have k_41 : 0 ≤ (F39 60).toInt := by rw [hK39.1 60 rfl]; exact (show 0 ≤ ((fup F 42 ((F 42) + (1 : Int32))) 60).toInt from t60)
          have k_42 : sN F ≤ sN F39 := S_eq (show sN F ≤ sN (fup F 42 ((F 42) + (1 : Int32))) from (Nat.le_refl _ : sN F ≤ sN F)) (hK39.1 60 rfl)
          have k_43 : CB F G G39 := CB.kx (show CB F G G from (fun _ _ => cEq.rf : CB F G G)) hK39 rfl rfl rfl rfl
          have k_44 : PKp F G G39 := PKp.kx (show PKp F G G from (fun _ _ => ⟨rfl, rfl⟩ : PKp F G G)) hK39 rfl rfl
          unfold mb_plain_131
          refine PP.ite (fun c_45 => ?_) (fun c_45 => ?_)
          · skip
            unfold mb_plain_143
            refine PP.ret ?_
            exact ⟨Or.inl rfl, (show 0 ≤ (F39 60).toInt from k_41), (show sN F ≤ sN F39 from k_42), (show CB F G G39 from k_43), fun h => absurd h (by decide)⟩
          · skip
            unfold mb_plain_134
            refine PP.bind (mw_closeSign (23 : Int32) F39 G39) ?_
            intro r46 F46 G46 hK46
            dsimp only
            have k_47 : F46 70 = F 70 := (hK46.1 70 rfl).trans (show F39 70 = F 70 from k_40)
            have k_48 : 0 ≤ (F46 60).toInt := by rw [hK46.1 60 rfl]; exact (show 0 ≤ (F39 60).toInt from k_41)
            have k_49 : sN F ≤ sN F46 := S_eq (show sN F ≤ sN F39 from k_42) (hK46.1 60 rfl)
            have k_50 : CB F G G46 := CB.kx (show CB F G G39 from k_43) hK46 rfl rfl rfl rfl
            have k_51 : PKp F G G46 := PKp.kx (show PKp F G G39 from k_44) hK46 rfl rfl
            unfold mb_plain_140
            refine PP.ite (fun c_52 => ?_) (fun c_52 => ?_)
            · skip
              unfold mb_plain_143
              refine PP.ret ?_
              exact ⟨Or.inl rfl, (show 0 ≤ (F46 60).toInt from k_48), (show sN F ≤ sN F46 from k_49), (show CB F G G46 from k_50), fun h => absurd h (by decide)⟩
            · skip
              unfold mb_plain_145
              refine PP.bind (mq_step (21 : Int32) (0 : Int32) (0 : Int32) F46 G46) ?_
              rintro _ F53 G53 ⟨hK53, rfl, e53, g53, n53⟩
              dsimp only
              have k_54 : F53 70 = F 70 := (hK53.1 70 rfl).trans (show F46 70 = F 70 from k_47)
              have k_55 : 0 ≤ (F53 60).toInt := inc60 n53 e53
              have k_56 : sN F ≤ sN F53 := S_st (show sN F ≤ sN F46 from k_49) n53 e53
              have k_57 : CB F G G53 := CB.stp (show CB F G G46 from k_50) (show sN F ≤ sN F46 from k_49) g53
              have k_58 : PKp F G G53 := PKp.kx (show PKp F G G46 from k_51) hK53 rfl rfl
              unfold mb_plain_153
              refine PP.ret ?_
              exact ⟨Or.inr rfl, (show 0 ≤ (F53 60).toInt from k_55), (show sN F ≤ sN F53 from k_56), (show CB F G G53 from k_57), fun _ => ⟨(show F53 70 = F 70 from k_54), (show PKp F G G53 from k_58)⟩⟩
        · skip
          unfold mb_plain_95
          refine PP.ix (fun _ => ?_)
          refine PP.bind (mw_note (10 : Int32) (G 6 (F 42).toNatClampNeg) F G) ?_
          intro r59 F59 G59 hK59
          dsimp only
          have k_60 : F59 70 = F 70 := (hK59.1 70 rfl).trans (show F 70 = F 70 from (rfl : F 70 = F 70))
          have k_61 : 0 ≤ (F59 60).toInt := by rw [hK59.1 60 rfl]; exact (show 0 ≤ (F 60).toInt from t60)
          have k_62 : sN F ≤ sN F59 := S_eq (show sN F ≤ sN F from (Nat.le_refl _ : sN F ≤ sN F)) (hK59.1 60 rfl)
          have k_63 : CB F G G59 := CB.kx (show CB F G G from (fun _ _ => cEq.rf : CB F G G)) hK59 rfl rfl rfl rfl
          have k_64 : PKp F G G59 := PKp.kx (show PKp F G G from (fun _ _ => ⟨rfl, rfl⟩ : PKp F G G)) hK59 rfl rfl
          unfold mb_plain_110
          unfold mb_plain_115
          unfold mb_plain_125
          refine PP.bind (mw_openSign (22 : Int32) (fup (fup F59 55 (1 : Int32)) 42 ((F59 42) + (1 : Int32))) G59) ?_
          intro r65 F65 G65 hK65
          dsimp only
          have k_66 : F65 70 = F 70 := (hK65.1 70 rfl).trans (show (fup (fup F59 55 (1 : Int32)) 42 ((F59 42) + (1 : Int32))) 70 = F 70 from k_60)
          have k_67 : 0 ≤ (F65 60).toInt := by rw [hK65.1 60 rfl]; exact (show 0 ≤ ((fup (fup F59 55 (1 : Int32)) 42 ((F59 42) + (1 : Int32))) 60).toInt from k_61)
          have k_68 : sN F ≤ sN F65 := S_eq (show sN F ≤ sN (fup (fup F59 55 (1 : Int32)) 42 ((F59 42) + (1 : Int32))) from k_62) (hK65.1 60 rfl)
          have k_69 : CB F G G65 := CB.kx (show CB F G G59 from k_63) hK65 rfl rfl rfl rfl
          have k_70 : PKp F G G65 := PKp.kx (show PKp F G G59 from k_64) hK65 rfl rfl
          unfold mb_plain_131
          refine PP.ite (fun c_71 => ?_) (fun c_71 => ?_)
          · skip
            unfold mb_plain_143
            refine PP.ret ?_
            exact ⟨Or.inl rfl, (show 0 ≤ (F65 60).toInt from k_67), (show sN F ≤ sN F65 from k_68), (show CB F G G65 from k_69), fun h => absurd h (by decide)⟩
          · skip
            unfold mb_plain_134
            refine PP.bind (mw_closeSign (23 : Int32) F65 G65) ?_
            intro r72 F72 G72 hK72
            dsimp only
            have k_73 : F72 70 = F 70 := (hK72.1 70 rfl).trans (show F65 70 = F 70 from k_66)
            have k_74 : 0 ≤ (F72 60).toInt := by rw [hK72.1 60 rfl]; exact (show 0 ≤ (F65 60).toInt from k_67)
            have k_75 : sN F ≤ sN F72 := S_eq (show sN F ≤ sN F65 from k_68) (hK72.1 60 rfl)
            have k_76 : CB F G G72 := CB.kx (show CB F G G65 from k_69) hK72 rfl rfl rfl rfl
            have k_77 : PKp F G G72 := PKp.kx (show PKp F G G65 from k_70) hK72 rfl rfl
            unfold mb_plain_140
            refine PP.ite (fun c_78 => ?_) (fun c_78 => ?_)
            · skip
              unfold mb_plain_143
              refine PP.ret ?_
              exact ⟨Or.inl rfl, (show 0 ≤ (F72 60).toInt from k_74), (show sN F ≤ sN F72 from k_75), (show CB F G G72 from k_76), fun h => absurd h (by decide)⟩
            · skip
              unfold mb_plain_145
              refine PP.bind (mq_step (21 : Int32) (0 : Int32) (0 : Int32) F72 G72) ?_
              rintro _ F79 G79 ⟨hK79, rfl, e79, g79, n79⟩
              dsimp only
              have k_80 : F79 70 = F 70 := (hK79.1 70 rfl).trans (show F72 70 = F 70 from k_73)
              have k_81 : 0 ≤ (F79 60).toInt := inc60 n79 e79
              have k_82 : sN F ≤ sN F79 := S_st (show sN F ≤ sN F72 from k_75) n79 e79
              have k_83 : CB F G G79 := CB.stp (show CB F G G72 from k_76) (show sN F ≤ sN F72 from k_75) g79
              have k_84 : PKp F G G79 := PKp.kx (show PKp F G G72 from k_77) hK79 rfl rfl
              unfold mb_plain_153
              refine PP.ret ?_
              exact ⟨Or.inr rfl, (show 0 ≤ (F79 60).toInt from k_81), (show sN F ≤ sN F79 from k_82), (show CB F G G79 from k_83), fun _ => ⟨(show F79 70 = F 70 from k_80), (show PKp F G G79 from k_84)⟩⟩
      · dsimp only
        unfold mb_plain_85
        refine PP.ite (fun _ => ?_) (fun c_85 => absurd (by decide) c_85)
        unfold mb_plain_156
        refine PP.ix (fun _ => ?_)
        refine PP.ite (fun c_86 => ?_) (fun c_86 => ?_)
        · skip
          unfold mb_plain_175
          unfold mb_plain_190
          refine PP.ite (fun c_87 => ?_) (fun c_87 => ?_)
          · skip
            unfold mb_plain_205
            refine PP.bind (ihC 6 (F 42) 0 (fup F 42 ((F 42) + (1 : Int32))) G (show 0 ≤ ((fup F 42 ((F 42) + (1 : Int32))) 60).toInt from t60) (by rw [(show (fup F 42 ((F 42) + (1 : Int32))) 70 = F 70 from (rfl : F 70 = F 70))]; exact t70)) ?_
            rintro r88 F88 G88 ⟨(rfl | rfl), u88⟩
            · dsimp only
              obtain ⟨b88, d88, e88, -⟩ := u88
              have k_89 : 0 ≤ (F88 60).toInt := b88
              have k_90 : sN F ≤ sN F88 := Nat.le_trans (show sN F ≤ sN (fup F 42 ((F 42) + (1 : Int32))) from (Nat.le_refl _ : sN F ≤ sN F)) d88
              have k_91 : CB F G G88 := CB.tr (show CB F G G from (fun _ _ => cEq.rf : CB F G G)) (show sN F ≤ sN (fup F 42 ((F 42) + (1 : Int32))) from (Nat.le_refl _ : sN F ≤ sN F)) e88
              unfold mb_plain_210
              refine PP.ret ?_
              exact ⟨Or.inl rfl, (show 0 ≤ (F88 60).toInt from k_89), (show sN F ≤ sN F88 from k_90), (show CB F G G88 from k_91), fun h => absurd h (by decide)⟩
            · dsimp only
              obtain ⟨b88, d88, e88, u88⟩ := u88
              obtain ⟨a88, c88⟩ := u88 rfl
              have k_92 : F88 70 = F 70 := a88.trans (show (fup F 42 ((F 42) + (1 : Int32))) 70 = F 70 from (rfl : F 70 = F 70))
              have k_93 : 0 ≤ (F88 60).toInt := b88
              have k_94 : sN F ≤ sN F88 := Nat.le_trans (show sN F ≤ sN (fup F 42 ((F 42) + (1 : Int32))) from (Nat.le_refl _ : sN F ≤ sN F)) d88
              have k_95 : CB F G G88 := CB.tr (show CB F G G from (fun _ _ => cEq.rf : CB F G G)) (show sN F ≤ sN (fup F 42 ((F 42) + (1 : Int32))) from (Nat.le_refl _ : sN F ≤ sN F)) e88
              have k_96 : PKp F G G88 := PKp.tr (show PKp F G G from (fun _ _ => ⟨rfl, rfl⟩ : PKp F G G)) c88 (show (fup F 42 ((F 42) + (1 : Int32))) 70 = F 70 from (rfl : F 70 = F 70))
              unfold mb_plain_210
              refine PP.ret ?_
              exact ⟨Or.inr rfl, (show 0 ≤ (F88 60).toInt from k_93), (show sN F ≤ sN F88 from k_94), (show CB F G G88 from k_95), fun _ => ⟨(show F88 70 = F 70 from k_92), (show PKp F G G88 from k_96)⟩⟩
          · skip
            unfold mb_plain_197
            refine PP.bind (ihC 5 (F 42) 0 (fup F 42 ((F 42) + (1 : Int32))) G (show 0 ≤ ((fup F 42 ((F 42) + (1 : Int32))) 60).toInt from t60) (by rw [(show (fup F 42 ((F 42) + (1 : Int32))) 70 = F 70 from (rfl : F 70 = F 70))]; exact t70)) ?_
            rintro r97 F97 G97 ⟨(rfl | rfl), u97⟩
            · dsimp only
              obtain ⟨b97, d97, e97, -⟩ := u97
              have k_98 : 0 ≤ (F97 60).toInt := b97
              have k_99 : sN F ≤ sN F97 := Nat.le_trans (show sN F ≤ sN (fup F 42 ((F 42) + (1 : Int32))) from (Nat.le_refl _ : sN F ≤ sN F)) d97
              have k_100 : CB F G G97 := CB.tr (show CB F G G from (fun _ _ => cEq.rf : CB F G G)) (show sN F ≤ sN (fup F 42 ((F 42) + (1 : Int32))) from (Nat.le_refl _ : sN F ≤ sN F)) e97
              unfold mb_plain_202
              unfold mb_plain_210
              refine PP.ret ?_
              exact ⟨Or.inl rfl, (show 0 ≤ (F97 60).toInt from k_98), (show sN F ≤ sN F97 from k_99), (show CB F G G97 from k_100), fun h => absurd h (by decide)⟩
            · dsimp only
              obtain ⟨b97, d97, e97, u97⟩ := u97
              obtain ⟨a97, c97⟩ := u97 rfl
              have k_101 : F97 70 = F 70 := a97.trans (show (fup F 42 ((F 42) + (1 : Int32))) 70 = F 70 from (rfl : F 70 = F 70))
              have k_102 : 0 ≤ (F97 60).toInt := b97
              have k_103 : sN F ≤ sN F97 := Nat.le_trans (show sN F ≤ sN (fup F 42 ((F 42) + (1 : Int32))) from (Nat.le_refl _ : sN F ≤ sN F)) d97
              have k_104 : CB F G G97 := CB.tr (show CB F G G from (fun _ _ => cEq.rf : CB F G G)) (show sN F ≤ sN (fup F 42 ((F 42) + (1 : Int32))) from (Nat.le_refl _ : sN F ≤ sN F)) e97
              have k_105 : PKp F G G97 := PKp.tr (show PKp F G G from (fun _ _ => ⟨rfl, rfl⟩ : PKp F G G)) c97 (show (fup F 42 ((F 42) + (1 : Int32))) 70 = F 70 from (rfl : F 70 = F 70))
              unfold mb_plain_202
              unfold mb_plain_210
              refine PP.ret ?_
              exact ⟨Or.inr rfl, (show 0 ≤ (F97 60).toInt from k_102), (show sN F ≤ sN F97 from k_103), (show CB F G G97 from k_104), fun _ => ⟨(show F97 70 = F 70 from k_101), (show PKp F G G97 from k_105)⟩⟩
        · skip
          unfold mb_plain_169
          refine PP.bind (mw_fails (2 : Int32) F G) ?_
          intro r106 F106 G106 hK106
          dsimp only
          have k_107 : F106 70 = F 70 := (hK106.1 70 rfl).trans (show F 70 = F 70 from (rfl : F 70 = F 70))
          have k_108 : 0 ≤ (F106 60).toInt := by rw [hK106.1 60 rfl]; exact (show 0 ≤ (F 60).toInt from t60)
          have k_109 : sN F ≤ sN F106 := S_eq (show sN F ≤ sN F from (Nat.le_refl _ : sN F ≤ sN F)) (hK106.1 60 rfl)
          have k_110 : CB F G G106 := CB.kx (show CB F G G from (fun _ _ => cEq.rf : CB F G G)) hK106 rfl rfl rfl rfl
          have k_111 : PKp F G G106 := PKp.kx (show PKp F G G from (fun _ _ => ⟨rfl, rfl⟩ : PKp F G G)) hK106 rfl rfl
          unfold mb_plain_174
          refine PP.bz (fun hz112 => ?_)
          refine PP.ret ?_
          exact ⟨hz112, (show 0 ≤ (F106 60).toInt from k_108), (show sN F ≤ sN F106 from k_109), (show CB F G G106 from k_110), fun _ => ⟨(show F106 70 = F 70 from k_107), (show PKp F G G106 from k_111)⟩⟩
