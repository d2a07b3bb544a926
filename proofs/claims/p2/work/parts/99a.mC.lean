def CQ (F : PF) (G : PG) (r : Int32) (F1 : PF) (G1 : PG) : Prop := (r = 0 ∨ r = 1) ∧ (r = 1 → F1 70 = F 70 ∧ 0 ≤ (F1 60).toInt ∧ PKp F G G1 ∧ sN F ≤ sN F1 ∧ CB F G G1)
def mCI (rc : RC) : Prop := ∀ (i : Nat) (x y : Int32) (F : PF) (G : PG), 0 ≤ (F 60).toInt → 0 ≤ (F 70).toInt → PP (rc i x y F G) (fun r F1 G1 => CQ F G r F1 G1)
theorem mcj_argument_12 {fu : Nat} (rc : RC) (ihC : mCI rc) {F0 : PF} {G0 : PG} (t70 : 0 ≤ (F0 70).toInt) (F : PF) (G : PG) (hA : F 70 = F0 70 ∧ 0 ≤ (F 60).toInt ∧ PKp F0 G0 G ∧ sN F0 ≤ sN F ∧ CB F0 G0 G) : PP (mb_argument_12 fu rc F G) (fun r' F' G' => CQ F0 G0 r' F' G') := by
  obtain ⟨hE, h6, hP, hS, hC⟩ := hA
  unfold mb_argument_12
  refine PP.bind (ihC 4 0 0 F G (show 0 ≤ (F 60).toInt from h6) (by rw [(show F 70 = F0 70 from hE)]; exact t70)) ?_
  rintro r1 F1 G1 ⟨(rfl | rfl), u1⟩
  · dsimp only
    unfold mb_argument_16
    refine PP.ret ?_
    exact ⟨Or.inl rfl, fun h => absurd h (by decide)⟩
  · dsimp only
    obtain ⟨a1, b1, c1, d1, e1⟩ := u1 rfl
    have k_2 : F1 70 = F0 70 := a1.trans (show F 70 = F0 70 from hE)
    have k_3 : 0 ≤ (F1 60).toInt := b1
    have k_4 : sN F0 ≤ sN F1 := Nat.le_trans (show sN F0 ≤ sN F from hS) d1
    have k_5 : CB F0 G0 G1 := CB.tr (show CB F0 G0 G from hC) (show sN F0 ≤ sN F from hS) e1
    have k_6 : PKp F0 G0 G1 := PKp.tr (show PKp F0 G0 G from hP) c1 (show F 70 = F0 70 from hE)
    unfold mb_argument_16
    refine PP.ret ?_
    exact ⟨Or.inr rfl, fun _ => ⟨(show F1 70 = F0 70 from k_2), (show 0 ≤ (F1 60).toInt from k_3), (show PKp F0 G0 G1 from k_6), (show sN F0 ≤ sN F1 from k_4), (show CB F0 G0 G1 from k_5)⟩⟩
theorem mcj_argument_282 {fu : Nat} (rc : RC) (ihC : mCI rc) {F0 : PF} {G0 : PG} (t70 : 0 ≤ (F0 70).toInt) (x6 : Int32) (z0 : Int32) (z1 : Int32) (z2 : Int32) (F : PF) (G : PG) (hA : F 70 = F0 70 ∧ 0 ≤ (F 60).toInt ∧ PKp F0 G0 G ∧ sN F0 ≤ sN F ∧ CB F0 G0 G) : PP (mb_argument_282 fu rc x6 z0 z1 z2 F G) (fun r' F' G' => CQ F0 G0 r' F' G') := by
  obtain ⟨hE, h6, hP, hS, hC⟩ := hA
  unfold mb_argument_282
  refine PP.bind (mq_step z2 z1 z0 F G) ?_
  rintro _ F1 G1 ⟨hK1, rfl, e1, g1, n1⟩
  dsimp only
  have k_2 : F1 70 = F0 70 := (hK1.1 70 rfl).trans (show F 70 = F0 70 from hE)
  have k_3 : 0 ≤ (F1 60).toInt := inc60 n1 e1
  have k_4 : sN F0 ≤ sN F1 := S_st (show sN F0 ≤ sN F from hS) n1 e1
  have k_5 : CB F0 G0 G1 := CB.stp (show CB F0 G0 G from hC) (show sN F0 ≤ sN F from hS) g1
  have k_6 : PKp F0 G0 G1 := PKp.kx (show PKp F0 G0 G from hP) hK1 rfl rfl
  unfold mb_argument_285
  refine PP.ite (fun c_7 => ?_) (fun c_7 => ?_)
  · skip
    unfold mb_argument_313
    unfold mb_argument_314
    refine PP.ix (fun _ => ?_)
    unfold mb_argument_315
    refine PP.ret ?_
    exact ⟨Or.inr rfl, fun _ => ⟨(show F1 70 = F0 70 from k_2), (show 0 ≤ (F1 60).toInt from k_3), (show PKp F0 G0 (gup G1 59 (F 60).toNatClampNeg (0 : Int32)) from k_6), (show sN F0 ≤ sN F1 from k_4), (show CB F0 G0 (gup G1 59 (F 60).toNatClampNeg (0 : Int32)) from (CB.g59 (p := sN F) k_5 hS))⟩⟩
  · skip
    unfold mb_argument_299
    refine PP.ix (fun _ => ?_)
    refine PP.ite (fun c_8 => ?_) (fun c_8 => ?_)
    · skip
      unfold mb_argument_313
      unfold mb_argument_314
      refine PP.ix (fun _ => ?_)
      unfold mb_argument_315
      refine PP.ret ?_
      exact ⟨Or.inr rfl, fun _ => ⟨(show F1 70 = F0 70 from k_2), (show 0 ≤ (F1 60).toInt from k_3), (show PKp F0 G0 (gup G1 59 (F 60).toNatClampNeg (0 : Int32)) from k_6), (show sN F0 ≤ sN F1 from k_4), (show CB F0 G0 (gup G1 59 (F 60).toNatClampNeg (0 : Int32)) from (CB.g59 (p := sN F) k_5 hS))⟩⟩
    · skip
      unfold mb_argument_309
      unfold mb_argument_314
      refine PP.ix (fun _ => ?_)
      unfold mb_argument_315
      refine PP.ret ?_
      exact ⟨Or.inr rfl, fun _ => ⟨(show F1 70 = F0 70 from k_2), (show 0 ≤ (F1 60).toInt from k_3), (show PKp F0 G0 (gup G1 59 (F 60).toNatClampNeg (1 : Int32)) from k_6), (show sN F0 ≤ sN F1 from k_4), (show CB F0 G0 (gup G1 59 (F 60).toNatClampNeg (1 : Int32)) from (CB.g59 (p := sN F) k_5 hS))⟩⟩
theorem mcj_argument_265 {fu : Nat} (rc : RC) (ihC : mCI rc) {F0 : PF} {G0 : PG} (t70 : 0 ≤ (F0 70).toInt) (x6 : Int32) (z0 : Int32) (z1 : Int32) (F : PF) (G : PG) (hA : F 70 = F0 70 ∧ 0 ≤ (F 60).toInt ∧ PKp F0 G0 G ∧ sN F0 ≤ sN F ∧ CB F0 G0 G) : PP (mb_argument_265 fu rc x6 z0 z1 F G) (fun r' F' G' => CQ F0 G0 r' F' G') := by
  obtain ⟨hE, h6, hP, hS, hC⟩ := hA
  unfold mb_argument_265
  refine PP.ite (fun c_1 => ?_) (fun c_1 => ?_)
  · skip
    unfold mb_argument_271
    exact mcj_argument_282 rc ihC t70 x6 (1 : Int32) z0 z1 F G ⟨(show F 70 = F0 70 from hE), (show 0 ≤ (F 60).toInt from h6), (show PKp F0 G0 G from hP), (show sN F0 ≤ sN F from hS), (show CB F0 G0 G from hC)⟩
  · skip
    unfold mb_argument_275
    refine PP.ix (fun _ => ?_)
    exact mcj_argument_282 rc ihC t70 x6 (G 21 x6.toNatClampNeg) z0 z1 F G ⟨(show F 70 = F0 70 from hE), (show 0 ≤ (F 60).toInt from h6), (show PKp F0 G0 G from hP), (show sN F0 ≤ sN F from hS), (show CB F0 G0 G from hC)⟩
theorem mcj_argument_236 {fu : Nat} (rc : RC) (ihC : mCI rc) {F0 : PF} {G0 : PG} (t70 : 0 ≤ (F0 70).toInt) (x6 : Int32) (F : PF) (G : PG) (hA : F 70 = F0 70 ∧ 0 ≤ (F 60).toInt ∧ PKp F0 G0 G ∧ sN F0 ≤ sN F ∧ CB F0 G0 G) : PP (mb_argument_236 fu rc x6 F G) (fun r' F' G' => CQ F0 G0 r' F' G') := by
  obtain ⟨hE, h6, hP, hS, hC⟩ := hA
  unfold mb_argument_236
  unfold mb_argument_246
  refine PP.ite (fun c_1 => ?_) (fun c_1 => ?_)
  · skip
    unfold mb_argument_254
    exact mcj_argument_265 rc ihC t70 x6 (0 : Int32) (5 : Int32) (fup F 42 ((F 42) + (1 : Int32))) G ⟨(show (fup F 42 ((F 42) + (1 : Int32))) 70 = F0 70 from hE), (show 0 ≤ ((fup F 42 ((F 42) + (1 : Int32))) 60).toInt from h6), (show PKp F0 G0 G from hP), (show sN F0 ≤ sN (fup F 42 ((F 42) + (1 : Int32))) from hS), (show CB F0 G0 G from hC)⟩
  · skip
    unfold mb_argument_258
    refine PP.ix (fun _ => ?_)
    exact mcj_argument_265 rc ihC t70 x6 (G 20 x6.toNatClampNeg) (5 : Int32) (fup F 42 ((F 42) + (1 : Int32))) G ⟨(show (fup F 42 ((F 42) + (1 : Int32))) 70 = F0 70 from hE), (show 0 ≤ ((fup F 42 ((F 42) + (1 : Int32))) 60).toInt from h6), (show PKp F0 G0 G from hP), (show sN F0 ≤ sN (fup F 42 ((F 42) + (1 : Int32))) from hS), (show CB F0 G0 G from hC)⟩
theorem mcj_argument_229 {fu : Nat} (rc : RC) (ihC : mCI rc) {F0 : PF} {G0 : PG} (t70 : 0 ≤ (F0 70).toInt) (x3 : Int32) (x6 : Int32) (F : PF) (G : PG) (hA : F 70 = F0 70 ∧ 0 ≤ (F 60).toInt ∧ PKp F0 G0 G ∧ sN F0 ≤ sN F ∧ CB F0 G0 G) : PP (mb_argument_229 fu rc x3 x6 F G) (fun r' F' G' => CQ F0 G0 r' F' G') := by
  obtain ⟨hE, h6, hP, hS, hC⟩ := hA
  unfold mb_argument_229
  refine PP.bind (mw_note (7 : Int32) x3 F G) ?_
  intro r1 F1 G1 hK1
  dsimp only
  have k_2 : F1 70 = F0 70 := (hK1.1 70 rfl).trans (show F 70 = F0 70 from hE)
  have k_3 : 0 ≤ (F1 60).toInt := by rw [hK1.1 60 rfl]; exact (show 0 ≤ (F 60).toInt from h6)
  have k_4 : sN F0 ≤ sN F1 := S_eq (show sN F0 ≤ sN F from hS) (hK1.1 60 rfl)
  have k_5 : CB F0 G0 G1 := CB.kx (show CB F0 G0 G from hC) hK1 rfl rfl rfl rfl
  have k_6 : PKp F0 G0 G1 := PKp.kx (show PKp F0 G0 G from hP) hK1 rfl rfl
  exact mcj_argument_236 rc ihC t70 x6 F1 G1 ⟨(show F1 70 = F0 70 from k_2), (show 0 ≤ (F1 60).toInt from k_3), (show PKp F0 G0 G1 from k_6), (show sN F0 ≤ sN F1 from k_4), (show CB F0 G0 G1 from k_5)⟩
theorem mcj_argument_191 {fu : Nat} (rc : RC) (ihC : mCI rc) {F0 : PF} {G0 : PG} (t70 : 0 ≤ (F0 70).toInt) (x3 : Int32) (x4 : Int32) (x6 : Int32) (F : PF) (G : PG) (hA : F 70 = F0 70 ∧ 0 ≤ (F 60).toInt ∧ PKp F0 G0 G ∧ sN F0 ≤ sN F ∧ CB F0 G0 G) : PP (mb_argument_191 fu rc x3 x4 x6 F G) (fun r' F' G' => CQ F0 G0 r' F' G') := by
  obtain ⟨hE, h6, hP, hS, hC⟩ := hA
  unfold mb_argument_191
  refine PP.ite (fun c_1 => ?_) (fun c_1 => ?_)
  · skip
    exact mcj_argument_229 rc ihC t70 x3 x6 F G ⟨(show F 70 = F0 70 from hE), (show 0 ≤ (F 60).toInt from h6), (show PKp F0 G0 G from hP), (show sN F0 ≤ sN F from hS), (show CB F0 G0 G from hC)⟩
  · skip
    unfold mb_argument_197
    refine PP.ix (fun _ => ?_)
    refine PP.ite (fun c_2 => ?_) (fun c_2 => ?_)
    · skip
      unfold mb_argument_208
      refine PP.ix (fun _ => ?_)
      refine PP.ite (fun c_3 => ?_) (fun c_3 => ?_)
      · skip
        unfold mb_argument_221
        unfold mb_argument_226
        refine PP.ite (fun c_4 => ?_) (fun c_4 => ?_)
        · skip
          exact mcj_argument_236 rc ihC t70 x6 F G ⟨(show F 70 = F0 70 from hE), (show 0 ≤ (F 60).toInt from h6), (show PKp F0 G0 G from hP), (show sN F0 ≤ sN F from hS), (show CB F0 G0 G from hC)⟩
        · skip
          exact mcj_argument_229 rc ihC t70 x3 x6 F G ⟨(show F 70 = F0 70 from hE), (show 0 ≤ (F 60).toInt from h6), (show PKp F0 G0 G from hP), (show sN F0 ≤ sN F from hS), (show CB F0 G0 G from hC)⟩
      · skip
        unfold mb_argument_225
        unfold mb_argument_226
        refine PP.ite (fun c_5 => ?_) (fun c_5 => ?_)
        · skip
          exact mcj_argument_236 rc ihC t70 x6 F G ⟨(show F 70 = F0 70 from hE), (show 0 ≤ (F 60).toInt from h6), (show PKp F0 G0 G from hP), (show sN F0 ≤ sN F from hS), (show CB F0 G0 G from hC)⟩
        · skip
          exact mcj_argument_229 rc ihC t70 x3 x6 F G ⟨(show F 70 = F0 70 from hE), (show 0 ≤ (F 60).toInt from h6), (show PKp F0 G0 G from hP), (show sN F0 ≤ sN F from hS), (show CB F0 G0 G from hC)⟩
    · skip
      exact mcj_argument_229 rc ihC t70 x3 x6 F G ⟨(show F 70 = F0 70 from hE), (show 0 ≤ (F 60).toInt from h6), (show PKp F0 G0 G from hP), (show sN F0 ≤ sN F from hS), (show CB F0 G0 G from hC)⟩
theorem mcj_argument_139 {fu : Nat} (rc : RC) (ihC : mCI rc) {F0 : PF} {G0 : PG} (t70 : 0 ≤ (F0 70).toInt) (x3 : Int32) (x4 : Int32) (z0 : Int32) (F : PF) (G : PG) (hA : F 70 = F0 70 ∧ 0 ≤ (F 60).toInt ∧ PKp F0 G0 G ∧ sN F0 ≤ sN F ∧ CB F0 G0 G) : PP (mb_argument_139 fu rc x3 x4 z0 F G) (fun r' F' G' => CQ F0 G0 r' F' G') := by
  obtain ⟨hE, h6, hP, hS, hC⟩ := hA
  unfold mb_argument_139
  refine PP.ite (fun c_1 => ?_) (fun c_1 => ?_)
  · skip
    unfold mb_argument_146
    refine PP.bind (mw_note (7 : Int32) x3 F G) ?_
    intro r2 F2 G2 hK2
    dsimp only
    have k_3 : F2 70 = F0 70 := (hK2.1 70 rfl).trans (show F 70 = F0 70 from hE)
    have k_4 : 0 ≤ (F2 60).toInt := by rw [hK2.1 60 rfl]; exact (show 0 ≤ (F 60).toInt from h6)
    have k_5 : sN F0 ≤ sN F2 := S_eq (show sN F0 ≤ sN F from hS) (hK2.1 60 rfl)
    have k_6 : CB F0 G0 G2 := CB.kx (show CB F0 G0 G from hC) hK2 rfl rfl rfl rfl
    have k_7 : PKp F0 G0 G2 := PKp.kx (show PKp F0 G0 G from hP) hK2 rfl rfl
    unfold mb_argument_153
    refine PP.bind (ihC 4 0 0 F2 G2 (show 0 ≤ (F2 60).toInt from k_4) (by rw [(show F2 70 = F0 70 from k_3)]; exact t70)) ?_
    rintro r8 F8 G8 ⟨(rfl | rfl), u8⟩
    · dsimp only
      unfold mb_argument_157
      refine PP.ret ?_
      exact ⟨Or.inl rfl, fun h => absurd h (by decide)⟩
    · dsimp only
      obtain ⟨a8, b8, c8, d8, e8⟩ := u8 rfl
      have k_9 : F8 70 = F0 70 := a8.trans (show F2 70 = F0 70 from k_3)
      have k_10 : 0 ≤ (F8 60).toInt := b8
      have k_11 : sN F0 ≤ sN F8 := Nat.le_trans (show sN F0 ≤ sN F2 from k_5) d8
      have k_12 : CB F0 G0 G8 := CB.tr (show CB F0 G0 G2 from k_6) (show sN F0 ≤ sN F2 from k_5) e8
      have k_13 : PKp F0 G0 G8 := PKp.tr (show PKp F0 G0 G2 from k_7) c8 (show F2 70 = F0 70 from k_3)
      unfold mb_argument_157
      refine PP.ret ?_
      exact ⟨Or.inr rfl, fun _ => ⟨(show F8 70 = F0 70 from k_9), (show 0 ≤ (F8 60).toInt from k_10), (show PKp F0 G0 G8 from k_13), (show sN F0 ≤ sN F8 from k_11), (show CB F0 G0 G8 from k_12)⟩⟩
  · skip
    unfold mb_argument_158
    refine PP.bind (mw_meaning (F 42) F G) ?_
    intro r14 F14 G14 hK14
    dsimp only
    have k_15 : F14 70 = F0 70 := (hK14.1 70 rfl).trans (show F 70 = F0 70 from hE)
    have k_16 : 0 ≤ (F14 60).toInt := by rw [hK14.1 60 rfl]; exact (show 0 ≤ (F 60).toInt from h6)
    have k_17 : sN F0 ≤ sN F14 := S_eq (show sN F0 ≤ sN F from hS) (hK14.1 60 rfl)
    have k_18 : CB F0 G0 G14 := CB.kx (show CB F0 G0 G from hC) hK14 rfl rfl rfl rfl
    have k_19 : PKp F0 G0 G14 := PKp.kx (show PKp F0 G0 G from hP) hK14 rfl rfl
    unfold mb_argument_166
    refine PP.ite (fun c_20 => ?_) (fun c_20 => ?_)
    · skip
      unfold mb_argument_174
      refine PP.ite (fun c_21 => ?_) (fun c_21 => ?_)
      · skip
        unfold mb_argument_182
        refine PP.bind (mw_note (4 : Int32) x3 F14 G14) ?_
        intro r22 F22 G22 hK22
        dsimp only
        have k_23 : F22 70 = F0 70 := (hK22.1 70 rfl).trans (show F14 70 = F0 70 from k_15)
        have k_24 : 0 ≤ (F22 60).toInt := by rw [hK22.1 60 rfl]; exact (show 0 ≤ (F14 60).toInt from k_16)
        have k_25 : sN F0 ≤ sN F22 := S_eq (show sN F0 ≤ sN F14 from k_17) (hK22.1 60 rfl)
        have k_26 : CB F0 G0 G22 := CB.kx (show CB F0 G0 G14 from k_18) hK22 rfl rfl rfl rfl
        have k_27 : PKp F0 G0 G22 := PKp.kx (show PKp F0 G0 G14 from k_19) hK22 rfl rfl
        unfold mb_argument_188
        exact mcj_argument_236 rc ihC t70 r14 F22 G22 ⟨(show F22 70 = F0 70 from k_23), (show 0 ≤ (F22 60).toInt from k_24), (show PKp F0 G0 G22 from k_27), (show sN F0 ≤ sN F22 from k_25), (show CB F0 G0 G22 from k_26)⟩
      · skip
        exact mcj_argument_191 rc ihC t70 x3 x4 r14 F14 G14 ⟨(show F14 70 = F0 70 from k_15), (show 0 ≤ (F14 60).toInt from k_16), (show PKp F0 G0 G14 from k_19), (show sN F0 ≤ sN F14 from k_17), (show CB F0 G0 G14 from k_18)⟩
    · skip
      exact mcj_argument_191 rc ihC t70 x3 x4 r14 F14 G14 ⟨(show F14 70 = F0 70 from k_15), (show 0 ≤ (F14 60).toInt from k_16), (show PKp F0 G0 G14 from k_19), (show sN F0 ≤ sN F14 from k_17), (show CB F0 G0 G14 from k_18)⟩
theorem mct_argument {fu : Nat} (rc : RC) (ihC : mCI rc) (x1 : Int32) (x2 : Int32) (F : PF) (G : PG) (t60 : 0 ≤ (F 60).toInt) (t70 : 0 ≤ (F 70).toInt) : PP (mh_argument fu rc x1 x2 F G) (fun r' F' G' => CQ F G r' F' G') := by
  unfold mh_argument
  unfold mb_argument_0
  refine PP.ite (fun c_1 => ?_) (fun c_1 => ?_)
  · skip
    unfold mb_argument_7
    refine PP.ite (fun c_2 => ?_) (fun c_2 => ?_)
    · skip
      exact mcj_argument_12 rc ihC t70 F G ⟨(show F 70 = F 70 from (rfl : F 70 = F 70)), (show 0 ≤ (F 60).toInt from t60), (show PKp F G G from (fun _ _ => ⟨rfl, rfl⟩ : PKp F G G)), (show sN F ≤ sN F from (Nat.le_refl _ : sN F ≤ sN F)), (show CB F G G from (fun _ _ => cEq.rf : CB F G G))⟩
    · skip
      unfold mb_argument_17
      refine PP.ix (fun _ => ?_)
      refine PP.ix (fun _ => ?_)
      refine PP.ite (fun c_3 => ?_) (fun c_3 => ?_)
      · skip
        unfold mb_argument_49
        refine PP.ix (fun _ => ?_)
        refine PP.ix (fun _ => ?_)
        refine PP.ite (fun c_4 => ?_) (fun c_4 => ?_)
        · skip
          unfold mb_argument_69
          refine PP.bind (ihC 4 0 0 F G (show 0 ≤ (F 60).toInt from t60) (by rw [(show F 70 = F 70 from (rfl : F 70 = F 70))]; exact t70)) ?_
          rintro r5 F5 G5 ⟨(rfl | rfl), u5⟩
          · dsimp only
            unfold mb_argument_73
            refine PP.ret ?_
            exact ⟨Or.inl rfl, fun h => absurd h (by decide)⟩
          · dsimp only
            obtain ⟨a5, b5, c5, d5, e5⟩ := u5 rfl
            have k_6 : F5 70 = F 70 := a5.trans (show F 70 = F 70 from (rfl : F 70 = F 70))
            have k_7 : 0 ≤ (F5 60).toInt := b5
            have k_8 : sN F ≤ sN F5 := Nat.le_trans (show sN F ≤ sN F from (Nat.le_refl _ : sN F ≤ sN F)) d5
            have k_9 : CB F G G5 := CB.tr (show CB F G G from (fun _ _ => cEq.rf : CB F G G)) (show sN F ≤ sN F from (Nat.le_refl _ : sN F ≤ sN F)) e5
            have k_10 : PKp F G G5 := PKp.tr (show PKp F G G from (fun _ _ => ⟨rfl, rfl⟩ : PKp F G G)) c5 (show F 70 = F 70 from (rfl : F 70 = F 70))
            unfold mb_argument_73
            refine PP.ret ?_
            exact ⟨Or.inr rfl, fun _ => ⟨(show F5 70 = F 70 from k_6), (show 0 ≤ (F5 60).toInt from k_7), (show PKp F G G5 from k_10), (show sN F ≤ sN F5 from k_8), (show CB F G G5 from k_9)⟩⟩
        · skip
          unfold mb_argument_74
          refine PP.ix (fun _ => ?_)
          refine PP.ite (fun c_11 => ?_) (fun c_11 => ?_)
          · skip
            unfold mb_argument_87
            refine PP.ix (fun _ => ?_)
            refine PP.ite (fun c_12 => ?_) (fun c_12 => ?_)
            · skip
              unfold mb_argument_102
              refine PP.ix (fun _ => ?_)
              refine PP.ite (fun c_13 => ?_) (fun c_13 => ?_)
              · skip
                unfold mb_argument_134
                exact mcj_argument_139 rc ihC t70 (G 6 (F 42).toNatClampNeg) (G 34 ((G 31 x1.toNatClampNeg) + x2).toNatClampNeg) (1 : Int32) F G ⟨(show F 70 = F 70 from (rfl : F 70 = F 70)), (show 0 ≤ (F 60).toInt from t60), (show PKp F G G from (fun _ _ => ⟨rfl, rfl⟩ : PKp F G G)), (show sN F ≤ sN F from (Nat.le_refl _ : sN F ≤ sN F)), (show CB F G G from (fun _ _ => cEq.rf : CB F G G))⟩
              · skip
                unfold mb_argument_118
                refine PP.ix (fun _ => ?_)
                refine PP.ite (fun c_14 => ?_) (fun c_14 => ?_)
                · skip
                  unfold mb_argument_134
                  exact mcj_argument_139 rc ihC t70 (G 6 (F 42).toNatClampNeg) (G 34 ((G 31 x1.toNatClampNeg) + x2).toNatClampNeg) (1 : Int32) F G ⟨(show F 70 = F 70 from (rfl : F 70 = F 70)), (show 0 ≤ (F 60).toInt from t60), (show PKp F G G from (fun _ _ => ⟨rfl, rfl⟩ : PKp F G G)), (show sN F ≤ sN F from (Nat.le_refl _ : sN F ≤ sN F)), (show CB F G G from (fun _ _ => cEq.rf : CB F G G))⟩
                · skip
                  unfold mb_argument_138
                  exact mcj_argument_139 rc ihC t70 (G 6 (F 42).toNatClampNeg) (G 34 ((G 31 x1.toNatClampNeg) + x2).toNatClampNeg) (0 : Int32) F G ⟨(show F 70 = F 70 from (rfl : F 70 = F 70)), (show 0 ≤ (F 60).toInt from t60), (show PKp F G G from (fun _ _ => ⟨rfl, rfl⟩ : PKp F G G)), (show sN F ≤ sN F from (Nat.le_refl _ : sN F ≤ sN F)), (show CB F G G from (fun _ _ => cEq.rf : CB F G G))⟩
            · skip
              unfold mb_argument_138
              exact mcj_argument_139 rc ihC t70 (G 6 (F 42).toNatClampNeg) (G 34 ((G 31 x1.toNatClampNeg) + x2).toNatClampNeg) (0 : Int32) F G ⟨(show F 70 = F 70 from (rfl : F 70 = F 70)), (show 0 ≤ (F 60).toInt from t60), (show PKp F G G from (fun _ _ => ⟨rfl, rfl⟩ : PKp F G G)), (show sN F ≤ sN F from (Nat.le_refl _ : sN F ≤ sN F)), (show CB F G G from (fun _ _ => cEq.rf : CB F G G))⟩
          · skip
            unfold mb_argument_138
            exact mcj_argument_139 rc ihC t70 (G 6 (F 42).toNatClampNeg) (G 34 ((G 31 x1.toNatClampNeg) + x2).toNatClampNeg) (0 : Int32) F G ⟨(show F 70 = F 70 from (rfl : F 70 = F 70)), (show 0 ≤ (F 60).toInt from t60), (show PKp F G G from (fun _ _ => ⟨rfl, rfl⟩ : PKp F G G)), (show sN F ≤ sN F from (Nat.le_refl _ : sN F ≤ sN F)), (show CB F G G from (fun _ _ => cEq.rf : CB F G G))⟩
      · skip
        unfold mb_argument_37
        refine PP.bind (mw_note (7 : Int32) (G 6 (F 42).toNatClampNeg) F G) ?_
        intro r15 F15 G15 hK15
        dsimp only
        have k_16 : F15 70 = F 70 := (hK15.1 70 rfl).trans (show F 70 = F 70 from (rfl : F 70 = F 70))
        have k_17 : 0 ≤ (F15 60).toInt := by rw [hK15.1 60 rfl]; exact (show 0 ≤ (F 60).toInt from t60)
        have k_18 : sN F ≤ sN F15 := S_eq (show sN F ≤ sN F from (Nat.le_refl _ : sN F ≤ sN F)) (hK15.1 60 rfl)
        have k_19 : CB F G G15 := CB.kx (show CB F G G from (fun _ _ => cEq.rf : CB F G G)) hK15 rfl rfl rfl rfl
        have k_20 : PKp F G G15 := PKp.kx (show PKp F G G from (fun _ _ => ⟨rfl, rfl⟩ : PKp F G G)) hK15 rfl rfl
        unfold mb_argument_44
        refine PP.bind (ihC 4 0 0 F15 G15 (show 0 ≤ (F15 60).toInt from k_17) (by rw [(show F15 70 = F 70 from k_16)]; exact t70)) ?_
        rintro r21 F21 G21 ⟨(rfl | rfl), u21⟩
        · dsimp only
          unfold mb_argument_48
          refine PP.ret ?_
          exact ⟨Or.inl rfl, fun h => absurd h (by decide)⟩
        · dsimp only
          obtain ⟨a21, b21, c21, d21, e21⟩ := u21 rfl
          have k_22 : F21 70 = F 70 := a21.trans (show F15 70 = F 70 from k_16)
          have k_23 : 0 ≤ (F21 60).toInt := b21
          have k_24 : sN F ≤ sN F21 := Nat.le_trans (show sN F ≤ sN F15 from k_18) d21
          have k_25 : CB F G G21 := CB.tr (show CB F G G15 from k_19) (show sN F ≤ sN F15 from k_18) e21
          have k_26 : PKp F G G21 := PKp.tr (show PKp F G G15 from k_20) c21 (show F15 70 = F 70 from k_16)
          unfold mb_argument_48
          refine PP.ret ?_
          exact ⟨Or.inr rfl, fun _ => ⟨(show F21 70 = F 70 from k_22), (show 0 ≤ (F21 60).toInt from k_23), (show PKp F G G21 from k_26), (show sN F ≤ sN F21 from k_24), (show CB F G G21 from k_25)⟩⟩
  · skip
    exact mcj_argument_12 rc ihC t70 F G ⟨(show F 70 = F 70 from (rfl : F 70 = F 70)), (show 0 ≤ (F 60).toInt from t60), (show PKp F G G from (fun _ _ => ⟨rfl, rfl⟩ : PKp F G G)), (show sN F ≤ sN F from (Nat.le_refl _ : sN F ≤ sN F)), (show CB F G G from (fun _ _ => cEq.rf : CB F G G))⟩
theorem mcj_call_256 {fu : Nat} (rc : RC) (ihC : mCI rc) {F0 : PF} {G0 : PG} (t70 : 0 ≤ (F0 70).toInt) (x1 : Int32) (x4 : Int32) (F : PF) (G : PG) (hA : F 70 = F0 70 ∧ 0 ≤ (F 60).toInt ∧ PKp F0 G0 G ∧ sN F0 ≤ sN F ∧ CB F0 G0 G) : PP (mb_call_256 fu rc x1 x4 F G) (fun r' F' G' => CQ F0 G0 r' F' G') := by
  obtain ⟨hE, h6, hP, hS, hC⟩ := hA
  unfold mb_call_256
  refine PP.bind (mw_closeSign (23 : Int32) F G) ?_
  intro r1 F1 G1 hK1
  dsimp only
  have k_2 : F1 70 = F0 70 := (hK1.1 70 rfl).trans (show F 70 = F0 70 from hE)
  have k_3 : 0 ≤ (F1 60).toInt := by rw [hK1.1 60 rfl]; exact (show 0 ≤ (F 60).toInt from h6)
  have k_4 : sN F0 ≤ sN F1 := S_eq (show sN F0 ≤ sN F from hS) (hK1.1 60 rfl)
  have k_5 : CB F0 G0 G1 := CB.kx (show CB F0 G0 G from hC) hK1 rfl rfl rfl rfl
  have k_6 : PKp F0 G0 G1 := PKp.kx (show PKp F0 G0 G from hP) hK1 rfl rfl
  unfold mb_call_262
  refine PP.ite (fun c_7 => ?_) (fun c_7 => ?_)
  · skip
    unfold mb_call_265
    refine PP.ret ?_
    exact ⟨Or.inl rfl, fun h => absurd h (by decide)⟩
  · skip
    unfold mb_call_267
    refine PP.bind (mq_step (15 : Int32) (0 : Int32) (0 : Int32) F1 G1) ?_
    rintro _ F8 G8 ⟨hK8, rfl, e8, g8, n8⟩
    dsimp only
    have k_9 : F8 70 = F0 70 := (hK8.1 70 rfl).trans (show F1 70 = F0 70 from k_2)
    have k_10 : 0 ≤ (F8 60).toInt := inc60 n8 e8
    have k_11 : sN F0 ≤ sN F8 := S_st (show sN F0 ≤ sN F1 from k_4) n8 e8
    have k_12 : CB F0 G0 G8 := CB.stp (show CB F0 G0 G1 from k_5) (show sN F0 ≤ sN F1 from k_4) g8
    have k_13 : PKp F0 G0 G8 := PKp.kx (show PKp F0 G0 G1 from k_6) hK8 rfl rfl
    unfold mb_call_275
    refine PP.ix (fun _ => ?_)
    refine PP.bind (mq_step (16 : Int32) x4 (G8 6 x1.toNatClampNeg) F8 G8) ?_
    rintro _ F14 G14 ⟨hK14, rfl, e14, g14, n14⟩
    dsimp only
    have k_15 : F14 70 = F0 70 := (hK14.1 70 rfl).trans (show F8 70 = F0 70 from k_9)
    have k_16 : 0 ≤ (F14 60).toInt := inc60 n14 e14
    have k_17 : sN F0 ≤ sN F14 := S_st (show sN F0 ≤ sN F8 from k_11) n14 e14
    have k_18 : CB F0 G0 G14 := CB.stp (show CB F0 G0 G8 from k_12) (show sN F0 ≤ sN F8 from k_11) g14
    have k_19 : PKp F0 G0 G14 := PKp.kx (show PKp F0 G0 G8 from k_13) hK14 rfl rfl
    unfold mb_call_290
    refine PP.ret ?_
    exact ⟨Or.inr rfl, fun _ => ⟨(show F14 70 = F0 70 from k_15), (show 0 ≤ (F14 60).toInt from k_16), (show PKp F0 G0 G14 from k_19), (show sN F0 ≤ sN F14 from k_17), (show CB F0 G0 G14 from k_18)⟩⟩
theorem mcj_call_200 {fu : Nat} (rc : RC) (ihC : mCI rc) {F0 : PF} {G0 : PG} (t70 : 0 ≤ (F0 70).toInt) (ag_156 : Int32 → Int32 → Int32 → Int32 → PF → PG → PR) (hag_156 : ∀ (x1 : Int32) (x4 : Int32) (x5 : Int32) (x6 : Int32) (F : PF) (G : PG) (hA : F 70 = F0 70 ∧ 0 ≤ (F 60).toInt ∧ PKp F0 G0 G ∧ sN F0 ≤ sN F ∧ CB F0 G0 G), PP (ag_156 x1 x4 x5 x6 F G) (fun r' F' G' => CQ F0 G0 r' F' G')) (x1 : Int32) (x4 : Int32) (x5 : Int32) (x6 : Int32) (z0 : Int32) (z1 : Int32) (F : PF) (G : PG) (hA : F 70 = F0 70 ∧ 0 ≤ (F 60).toInt ∧ PKp F0 G0 G ∧ sN F0 ≤ sN F ∧ CB F0 G0 G) : PP (mb_call_200 fu rc ag_156 x1 x4 x5 x6 z0 z1 F G) (fun r' F' G' => CQ F0 G0 r' F' G') := by
  obtain ⟨hE, h6, hP, hS, hC⟩ := hA
  unfold mb_call_200
  unfold mb_call_204
  exact hag_156 x1 x4 x5 x6 (fup F 42 (z1 + z0)) G ⟨(show (fup F 42 (z1 + z0)) 70 = F0 70 from hE), (show 0 ≤ ((fup F 42 (z1 + z0)) 60).toInt from h6), (show PKp F0 G0 G from hP), (show sN F0 ≤ sN (fup F 42 (z1 + z0)) from hS), (show CB F0 G0 G from hC)⟩
theorem mcz_call_156 {fu : Nat} (rc : RC) (ihC : mCI rc) {F0 : PF} {G0 : PG} (t70 : 0 ≤ (F0 70).toInt) : ∀ (n : Nat) (x1 : Int32) (x4 : Int32) (x5 : Int32) (x6 : Int32) (F : PF) (G : PG) (hA : F 70 = F0 70 ∧ 0 ≤ (F 60).toInt ∧ PKp F0 G0 G ∧ sN F0 ≤ sN F ∧ CB F0 G0 G), PP (ml_call_156 fu rc n x1 x4 x5 x6 F G) (fun r' F' G' => CQ F0 G0 r' F' G') := by
  intro n
  induction n with
  | zero =>
    intro x1 x4 x5 x6 F G hA
    exact PP.no
  | succ n ihn =>
    intro x1 x4 x5 x6 F G hA
    show PP (mb_call_156 fu rc (ml_call_156 fu rc n) x1 x4 x5 x6 F G) _
    obtain ⟨hE, h6, hP, hS, hC⟩ := hA
    unfold mb_call_156
    refine PP.ite (fun c_1 => ?_) (fun c_1 => ?_)
    · skip
      unfold mb_call_207
      refine PP.ite (fun c_2 => ?_) (fun c_2 => ?_)
      · skip
        unfold mb_call_214
        refine PP.ite (fun c_3 => ?_) (fun c_3 => ?_)
        · skip
          exact mcj_call_256 rc ihC t70 x1 x4 F G ⟨(show F 70 = F0 70 from hE), (show 0 ≤ (F 60).toInt from h6), (show PKp F0 G0 G from hP), (show sN F0 ≤ sN F from hS), (show CB F0 G0 G from hC)⟩
        · skip
          unfold mb_call_220
          refine PP.ix (fun _ => ?_)
          refine PP.ite (fun c_4 => ?_) (fun c_4 => ?_)
          · skip
            exact mcj_call_256 rc ihC t70 x1 x4 F G ⟨(show F 70 = F0 70 from hE), (show 0 ≤ (F 60).toInt from h6), (show PKp F0 G0 G from hP), (show sN F0 ≤ sN F from hS), (show CB F0 G0 G from hC)⟩
          · skip
            unfold mb_call_232
            refine PP.bind (mp_isSign (23 : Int32) F G) ?_
            rintro _ _ _ ⟨rfl, rfl, (⟨rfl, -⟩ | ⟨rfl, -⟩)⟩
            · dsimp only
              unfold mb_call_238
              refine PP.ite (fun c_6 => absurd c_6 (by decide)) (fun _ => ?_)
              unfold mb_call_241
              refine PP.ix (fun _ => ?_)
              refine PP.bind (mw_note (7 : Int32) (G 6 (F 42).toNatClampNeg) F G) ?_
              intro r7 F7 G7 hK7
              dsimp only
              have k_8 : F7 70 = F0 70 := (hK7.1 70 rfl).trans (show F 70 = F0 70 from hE)
              have k_9 : 0 ≤ (F7 60).toInt := by rw [hK7.1 60 rfl]; exact (show 0 ≤ (F 60).toInt from h6)
              have k_10 : sN F0 ≤ sN F7 := S_eq (show sN F0 ≤ sN F from hS) (hK7.1 60 rfl)
              have k_11 : CB F0 G0 G7 := CB.kx (show CB F0 G0 G from hC) hK7 rfl rfl rfl rfl
              have k_12 : PKp F0 G0 G7 := PKp.kx (show PKp F0 G0 G from hP) hK7 rfl rfl
              exact mcj_call_256 rc ihC t70 x1 x4 F7 G7 ⟨(show F7 70 = F0 70 from k_8), (show 0 ≤ (F7 60).toInt from k_9), (show PKp F0 G0 G7 from k_12), (show sN F0 ≤ sN F7 from k_10), (show CB F0 G0 G7 from k_11)⟩
            · dsimp only
              unfold mb_call_238
              refine PP.ite (fun _ => ?_) (fun c_13 => absurd (by decide) c_13)
              exact mcj_call_256 rc ihC t70 x1 x4 F G ⟨(show F 70 = F0 70 from hE), (show 0 ≤ (F 60).toInt from h6), (show PKp F0 G0 G from hP), (show sN F0 ≤ sN F from hS), (show CB F0 G0 G from hC)⟩
      · skip
        exact mcj_call_256 rc ihC t70 x1 x4 F G ⟨(show F 70 = F0 70 from hE), (show 0 ≤ (F 60).toInt from h6), (show PKp F0 G0 G from hP), (show sN F0 ≤ sN F from hS), (show CB F0 G0 G from hC)⟩
    · skip
      unfold mb_call_161
      refine PP.bind (ihC 0 x4 x5 F G (show 0 ≤ (F 60).toInt from h6) (by rw [(show F 70 = F0 70 from hE)]; exact t70)) ?_
      rintro r14 F14 G14 ⟨(rfl | rfl), u14⟩
      · dsimp only
        unfold mb_call_169
        refine PP.ite (fun _ => ?_) (fun c_15 => absurd (by decide) c_15)
        unfold mb_call_172
        refine PP.ret ?_
        exact ⟨Or.inl rfl, fun h => absurd h (by decide)⟩
      · dsimp only
        obtain ⟨a14, b14, c14, d14, e14⟩ := u14 rfl
        have k_16 : F14 70 = F0 70 := a14.trans (show F 70 = F0 70 from hE)
        have k_17 : 0 ≤ (F14 60).toInt := b14
        have k_18 : sN F0 ≤ sN F14 := Nat.le_trans (show sN F0 ≤ sN F from hS) d14
        have k_19 : CB F0 G0 G14 := CB.tr (show CB F0 G0 G from hC) (show sN F0 ≤ sN F from hS) e14
        have k_20 : PKp F0 G0 G14 := PKp.tr (show PKp F0 G0 G from hP) c14 (show F 70 = F0 70 from hE)
        unfold mb_call_169
        refine PP.ite (fun c_21 => absurd c_21 (by decide)) (fun _ => ?_)
        unfold mb_call_174
        refine PP.bind (mp_isSign (28 : Int32) F14 G14) ?_
        rintro _ _ _ ⟨rfl, rfl, (⟨rfl, -⟩ | ⟨rfl, -⟩)⟩
        · dsimp only
          unfold mb_call_183
          refine PP.ite (fun c_23 => absurd c_23 (by decide)) (fun _ => ?_)
          unfold mb_call_195
          exact mcj_call_200 rc ihC t70 (ml_call_156 fu rc n) ihn x1 x4 (x5 + (1 : Int32)) (1 : Int32) (1 : Int32) (F14 42) F14 G14 ⟨(show F14 70 = F0 70 from k_16), (show 0 ≤ (F14 60).toInt from k_17), (show PKp F0 G0 G14 from k_20), (show sN F0 ≤ sN F14 from k_18), (show CB F0 G0 G14 from k_19)⟩
        · dsimp only
          unfold mb_call_183
          refine PP.ite (fun _ => ?_) (fun c_24 => absurd (by decide) c_24)
          unfold mb_call_199
          exact mcj_call_200 rc ihC t70 (ml_call_156 fu rc n) ihn x1 x4 (x5 + (1 : Int32)) (0 : Int32) (0 : Int32) (F14 42) F14 G14 ⟨(show F14 70 = F0 70 from k_16), (show 0 ≤ (F14 60).toInt from k_17), (show PKp F0 G0 G14 from k_20), (show sN F0 ≤ sN F14 from k_18), (show CB F0 G0 G14 from k_19)⟩
theorem mcj_call_154 {fu : Nat} (rc : RC) (ihC : mCI rc) {F0 : PF} {G0 : PG} (t70 : 0 ≤ (F0 70).toInt) (x1 : Int32) (x4 : Int32) (x5 : Int32) (z0 : Int32) (F : PF) (G : PG) (hA : F 70 = F0 70 ∧ 0 ≤ (F 60).toInt ∧ PKp F0 G0 G ∧ sN F0 ≤ sN F ∧ CB F0 G0 G) : PP (mb_call_154 fu rc x1 x4 x5 z0 F G) (fun r' F' G' => CQ F0 G0 r' F' G') := by
  obtain ⟨hE, h6, hP, hS, hC⟩ := hA
  unfold mb_call_154
  exact mcz_call_156 rc ihC t70 fu x1 x4 x5 z0 F G ⟨(show F 70 = F0 70 from hE), (show 0 ≤ (F 60).toInt from h6), (show PKp F0 G0 G from hP), (show sN F0 ≤ sN F from hS), (show CB F0 G0 G from hC)⟩
theorem mcj_call_126 {fu : Nat} (rc : RC) (ihC : mCI rc) {F0 : PF} {G0 : PG} (t70 : 0 ≤ (F0 70).toInt) (x1 : Int32) (x4 : Int32) (F : PF) (G : PG) (hA : F 70 = F0 70 ∧ 0 ≤ (F 60).toInt ∧ PKp F0 G0 G ∧ sN F0 ≤ sN F ∧ CB F0 G0 G) : PP (mb_call_126 fu rc x1 x4 F G) (fun r' F' G' => CQ F0 G0 r' F' G') := by
  obtain ⟨hE, h6, hP, hS, hC⟩ := hA
  unfold mb_call_126
  refine PP.bind (mw_openSign (22 : Int32) F G) ?_
  intro r1 F1 G1 hK1
  dsimp only
  have k_2 : F1 70 = F0 70 := (hK1.1 70 rfl).trans (show F 70 = F0 70 from hE)
  have k_3 : 0 ≤ (F1 60).toInt := by rw [hK1.1 60 rfl]; exact (show 0 ≤ (F 60).toInt from h6)
  have k_4 : sN F0 ≤ sN F1 := S_eq (show sN F0 ≤ sN F from hS) (hK1.1 60 rfl)
  have k_5 : CB F0 G0 G1 := CB.kx (show CB F0 G0 G from hC) hK1 rfl rfl rfl rfl
  have k_6 : PKp F0 G0 G1 := PKp.kx (show PKp F0 G0 G from hP) hK1 rfl rfl
  unfold mb_call_132
  refine PP.ite (fun c_7 => ?_) (fun c_7 => ?_)
  · skip
    unfold mb_call_135
    refine PP.ret ?_
    exact ⟨Or.inl rfl, fun h => absurd h (by decide)⟩
  · skip
    unfold mb_call_137
    refine PP.bind (mp_isSign (23 : Int32) F1 G1) ?_
    rintro _ _ _ ⟨rfl, rfl, (⟨rfl, -⟩ | ⟨rfl, -⟩)⟩
    · dsimp only
      unfold mb_call_146
      refine PP.ite (fun c_9 => absurd c_9 (by decide)) (fun _ => ?_)
      unfold mb_call_153
      exact mcj_call_154 rc ihC t70 x1 x4 (0 : Int32) (0 : Int32) F1 G1 ⟨(show F1 70 = F0 70 from k_2), (show 0 ≤ (F1 60).toInt from k_3), (show PKp F0 G0 G1 from k_6), (show sN F0 ≤ sN F1 from k_4), (show CB F0 G0 G1 from k_5)⟩
    · dsimp only
      unfold mb_call_146
      refine PP.ite (fun _ => ?_) (fun c_10 => absurd (by decide) c_10)
      unfold mb_call_149
      exact mcj_call_154 rc ihC t70 x1 x4 (0 : Int32) (1 : Int32) F1 G1 ⟨(show F1 70 = F0 70 from k_2), (show 0 ≤ (F1 60).toInt from k_3), (show PKp F0 G0 G1 from k_6), (show sN F0 ≤ sN F1 from k_4), (show CB F0 G0 G1 from k_5)⟩
theorem mcj_call_87 {fu : Nat} (rc : RC) (ihC : mCI rc) {F0 : PF} {G0 : PG} (t70 : 0 ≤ (F0 70).toInt) (x1 : Int32) (x2 : Int32) (x4 : Int32) (F : PF) (G : PG) (hA : F 70 = F0 70 ∧ 0 ≤ (F 60).toInt ∧ PKp F0 G0 G ∧ sN F0 ≤ sN F ∧ CB F0 G0 G) : PP (mb_call_87 fu rc x1 x2 x4 F G) (fun r' F' G' => CQ F0 G0 r' F' G') := by
  obtain ⟨hE, h6, hP, hS, hC⟩ := hA
  unfold mb_call_87
  refine PP.ite (fun c_1 => ?_) (fun c_1 => ?_)
  · skip
    unfold mb_call_94
    refine PP.ite (fun c_2 => ?_) (fun c_2 => ?_)
    · skip
      exact mcj_call_126 rc ihC t70 x1 x4 F G ⟨(show F 70 = F0 70 from hE), (show 0 ≤ (F 60).toInt from h6), (show PKp F0 G0 G from hP), (show sN F0 ≤ sN F from hS), (show CB F0 G0 G from hC)⟩
    · skip
      unfold mb_call_100
      refine PP.ite (fun c_3 => ?_) (fun c_3 => ?_)
      · skip
        exact mcj_call_126 rc ihC t70 x1 x4 F G ⟨(show F 70 = F0 70 from hE), (show 0 ≤ (F 60).toInt from h6), (show PKp F0 G0 G from hP), (show sN F0 ≤ sN F from hS), (show CB F0 G0 G from hC)⟩
      · skip
        unfold mb_call_104
        refine PP.ix (fun _ => ?_)
        refine PP.ite (fun c_4 => ?_) (fun c_4 => ?_)
        · skip
          exact mcj_call_126 rc ihC t70 x1 x4 F G ⟨(show F 70 = F0 70 from hE), (show 0 ≤ (F 60).toInt from h6), (show PKp F0 G0 G from hP), (show sN F0 ≤ sN F from hS), (show CB F0 G0 G from hC)⟩
        · skip
          unfold mb_call_114
          refine PP.ix (fun _ => ?_)
          refine PP.bind (mw_note (8 : Int32) (G 6 x1.toNatClampNeg) F G) ?_
          intro r5 F5 G5 hK5
          dsimp only
          have k_6 : F5 70 = F0 70 := (hK5.1 70 rfl).trans (show F 70 = F0 70 from hE)
          have k_7 : 0 ≤ (F5 60).toInt := by rw [hK5.1 60 rfl]; exact (show 0 ≤ (F 60).toInt from h6)
          have k_8 : sN F0 ≤ sN F5 := S_eq (show sN F0 ≤ sN F from hS) (hK5.1 60 rfl)
          have k_9 : CB F0 G0 G5 := CB.kx (show CB F0 G0 G from hC) hK5 rfl rfl rfl rfl
          have k_10 : PKp F0 G0 G5 := PKp.kx (show PKp F0 G0 G from hP) hK5 rfl rfl
          exact mcj_call_126 rc ihC t70 x1 x4 F5 G5 ⟨(show F5 70 = F0 70 from k_6), (show 0 ≤ (F5 60).toInt from k_7), (show PKp F0 G0 G5 from k_10), (show sN F0 ≤ sN F5 from k_8), (show CB F0 G0 G5 from k_9)⟩
  · skip
    exact mcj_call_126 rc ihC t70 x1 x4 F G ⟨(show F 70 = F0 70 from hE), (show 0 ≤ (F 60).toInt from h6), (show PKp F0 G0 G from hP), (show sN F0 ≤ sN F from hS), (show CB F0 G0 G from hC)⟩
theorem mcj_call_63 {fu : Nat} (rc : RC) (ihC : mCI rc) {F0 : PF} {G0 : PG} (t70 : 0 ≤ (F0 70).toInt) (x1 : Int32) (x2 : Int32) (x3 : Int32) (x4 : Int32) (F : PF) (G : PG) (hA : F 70 = F0 70 ∧ 0 ≤ (F 60).toInt ∧ PKp F0 G0 G ∧ sN F0 ≤ sN F ∧ CB F0 G0 G) : PP (mb_call_63 fu rc x1 x2 x3 x4 F G) (fun r' F' G' => CQ F0 G0 r' F' G') := by
  obtain ⟨hE, h6, hP, hS, hC⟩ := hA
  unfold mb_call_63
  refine PP.ite (fun c_1 => ?_) (fun c_1 => ?_)
  · skip
    unfold mb_call_70
    refine PP.ite (fun c_2 => ?_) (fun c_2 => ?_)
    · skip
      exact mcj_call_87 rc ihC t70 x1 x2 x4 F G ⟨(show F 70 = F0 70 from hE), (show 0 ≤ (F 60).toInt from h6), (show PKp F0 G0 G from hP), (show sN F0 ≤ sN F from hS), (show CB F0 G0 G from hC)⟩
    · skip
      unfold mb_call_75
      refine PP.ix (fun _ => ?_)
      refine PP.bind (mw_note (6 : Int32) (G 6 x1.toNatClampNeg) F G) ?_
      intro r3 F3 G3 hK3
      dsimp only
      have k_4 : F3 70 = F0 70 := (hK3.1 70 rfl).trans (show F 70 = F0 70 from hE)
      have k_5 : 0 ≤ (F3 60).toInt := by rw [hK3.1 60 rfl]; exact (show 0 ≤ (F 60).toInt from h6)
      have k_6 : sN F0 ≤ sN F3 := S_eq (show sN F0 ≤ sN F from hS) (hK3.1 60 rfl)
      have k_7 : CB F0 G0 G3 := CB.kx (show CB F0 G0 G from hC) hK3 rfl rfl rfl rfl
      have k_8 : PKp F0 G0 G3 := PKp.kx (show PKp F0 G0 G from hP) hK3 rfl rfl
      exact mcj_call_87 rc ihC t70 x1 x2 x4 F3 G3 ⟨(show F3 70 = F0 70 from k_4), (show 0 ≤ (F3 60).toInt from k_5), (show PKp F0 G0 G3 from k_8), (show sN F0 ≤ sN F3 from k_6), (show CB F0 G0 G3 from k_7)⟩
  · skip
    exact mcj_call_87 rc ihC t70 x1 x2 x4 F G ⟨(show F 70 = F0 70 from hE), (show 0 ≤ (F 60).toInt from h6), (show PKp F0 G0 G from hP), (show sN F0 ≤ sN F from hS), (show CB F0 G0 G from hC)⟩
theorem mcj_call_32 {fu : Nat} (rc : RC) (ihC : mCI rc) {F0 : PF} {G0 : PG} (t70 : 0 ≤ (F0 70).toInt) (x1 : Int32) (x2 : Int32) (x3 : Int32) (z0 : Int32) (F : PF) (G : PG) (hA : F 70 = F0 70 ∧ 0 ≤ (F 60).toInt ∧ PKp F0 G0 G ∧ sN F0 ≤ sN F ∧ CB F0 G0 G) : PP (mb_call_32 fu rc x1 x2 x3 z0 F G) (fun r' F' G' => CQ F0 G0 r' F' G') := by
  obtain ⟨hE, h6, hP, hS, hC⟩ := hA
  unfold mb_call_32
  refine PP.ite (fun c_1 => ?_) (fun c_1 => ?_)
  · skip
    unfold mb_call_41
    refine PP.ite (fun c_2 => ?_) (fun c_2 => ?_)
    · skip
      unfold mb_call_46
      refine PP.ite (fun c_3 => ?_) (fun c_3 => ?_)
      · skip
        unfold mb_call_52
        refine PP.ix (fun _ => ?_)
        refine PP.bind (mw_note (4 : Int32) (G 6 x1.toNatClampNeg) F G) ?_
        intro r4 F4 G4 hK4
        dsimp only
        have k_5 : F4 70 = F0 70 := (hK4.1 70 rfl).trans (show F 70 = F0 70 from hE)
        have k_6 : 0 ≤ (F4 60).toInt := by rw [hK4.1 60 rfl]; exact (show 0 ≤ (F 60).toInt from h6)
        have k_7 : sN F0 ≤ sN F4 := S_eq (show sN F0 ≤ sN F from hS) (hK4.1 60 rfl)
        have k_8 : CB F0 G0 G4 := CB.kx (show CB F0 G0 G from hC) hK4 rfl rfl rfl rfl
        have k_9 : PKp F0 G0 G4 := PKp.kx (show PKp F0 G0 G from hP) hK4 rfl rfl
        exact mcj_call_63 rc ihC t70 x1 x2 x3 z0 F4 G4 ⟨(show F4 70 = F0 70 from k_5), (show 0 ≤ (F4 60).toInt from k_6), (show PKp F0 G0 G4 from k_9), (show sN F0 ≤ sN F4 from k_7), (show CB F0 G0 G4 from k_8)⟩
      · skip
        exact mcj_call_63 rc ihC t70 x1 x2 x3 z0 F G ⟨(show F 70 = F0 70 from hE), (show 0 ≤ (F 60).toInt from h6), (show PKp F0 G0 G from hP), (show sN F0 ≤ sN F from hS), (show CB F0 G0 G from hC)⟩
    · skip
      exact mcj_call_63 rc ihC t70 x1 x2 x3 z0 F G ⟨(show F 70 = F0 70 from hE), (show 0 ≤ (F 60).toInt from h6), (show PKp F0 G0 G from hP), (show sN F0 ≤ sN F from hS), (show CB F0 G0 G from hC)⟩
  · skip
    exact mcj_call_63 rc ihC t70 x1 x2 x3 z0 F G ⟨(show F 70 = F0 70 from hE), (show 0 ≤ (F 60).toInt from h6), (show PKp F0 G0 G from hP), (show sN F0 ≤ sN F from hS), (show CB F0 G0 G from hC)⟩
theorem mcj_call_16 {fu : Nat} (rc : RC) (ihC : mCI rc) {F0 : PF} {G0 : PG} (t70 : 0 ≤ (F0 70).toInt) (x1 : Int32) (x2 : Int32) (z0 : Int32) (F : PF) (G : PG) (hA : F 70 = F0 70 ∧ 0 ≤ (F 60).toInt ∧ PKp F0 G0 G ∧ sN F0 ≤ sN F ∧ CB F0 G0 G) : PP (mb_call_16 fu rc x1 x2 z0 F G) (fun r' F' G' => CQ F0 G0 r' F' G') := by
  obtain ⟨hE, h6, hP, hS, hC⟩ := hA
  unfold mb_call_16
  refine PP.ite (fun c_1 => ?_) (fun c_1 => ?_)
  · skip
    unfold mb_call_24
    exact mcj_call_32 rc ihC t70 x1 x2 z0 (-1 : Int32) F G ⟨(show F 70 = F0 70 from hE), (show 0 ≤ (F 60).toInt from h6), (show PKp F0 G0 G from hP), (show sN F0 ≤ sN F from hS), (show CB F0 G0 G from hC)⟩
  · skip
    unfold mb_call_28
    exact mcj_call_32 rc ihC t70 x1 x2 z0 (F 62) F G ⟨(show F 70 = F0 70 from hE), (show 0 ≤ (F 60).toInt from h6), (show PKp F0 G0 G from hP), (show sN F0 ≤ sN F from hS), (show CB F0 G0 G from hC)⟩
theorem mct_call {fu : Nat} (rc : RC) (ihC : mCI rc) (x1 : Int32) (x2 : Int32) (F : PF) (G : PG) (t60 : 0 ≤ (F 60).toInt) (t70 : 0 ≤ (F 70).toInt) : PP (mh_call fu rc x1 x2 F G) (fun r' F' G' => CQ F G r' F' G') := by
  unfold mh_call
  unfold mb_call_0
  refine PP.ite (fun c_1 => ?_) (fun c_1 => ?_)
  · skip
    unfold mb_call_7
    exact mcj_call_16 rc ihC t70 x1 x2 (-1 : Int32) F G ⟨(show F 70 = F 70 from (rfl : F 70 = F 70)), (show 0 ≤ (F 60).toInt from t60), (show PKp F G G from (fun _ _ => ⟨rfl, rfl⟩ : PKp F G G)), (show sN F ≤ sN F from (Nat.le_refl _ : sN F ≤ sN F)), (show CB F G G from (fun _ _ => cEq.rf : CB F G G))⟩
  · skip
    unfold mb_call_11
    refine PP.bind (mw_meaning x1 F G) ?_
    intro r2 F2 G2 hK2
    dsimp only
    have k_3 : F2 70 = F 70 := (hK2.1 70 rfl).trans (show F 70 = F 70 from (rfl : F 70 = F 70))
    have k_4 : 0 ≤ (F2 60).toInt := by rw [hK2.1 60 rfl]; exact (show 0 ≤ (F 60).toInt from t60)
    have k_5 : sN F ≤ sN F2 := S_eq (show sN F ≤ sN F from (Nat.le_refl _ : sN F ≤ sN F)) (hK2.1 60 rfl)
    have k_6 : CB F G G2 := CB.kx (show CB F G G from (fun _ _ => cEq.rf : CB F G G)) hK2 rfl rfl rfl rfl
    have k_7 : PKp F G G2 := PKp.kx (show PKp F G G from (fun _ _ => ⟨rfl, rfl⟩ : PKp F G G)) hK2 rfl rfl
    exact mcj_call_16 rc ihC t70 x1 x2 r2 F2 G2 ⟨(show F2 70 = F 70 from k_3), (show 0 ≤ (F2 60).toInt from k_4), (show PKp F G G2 from k_7), (show sN F ≤ sN F2 from k_5), (show CB F G G2 from k_6)⟩
theorem mct_element {fu : Nat} (rc : RC) (ihC : mCI rc) (x1 : Int32) (F : PF) (G : PG) (t60 : 0 ≤ (F 60).toInt) (t70 : 0 ≤ (F 70).toInt) : PP (mh_element fu rc x1 F G) (fun r' F' G' => CQ F G r' F' G') := by
  unfold mh_element
  unfold mb_element_0
  refine PP.ix (fun _ => ?_)
  refine PP.ite (fun c_1 => ?_) (fun c_1 => ?_)
  · skip
    unfold mb_element_15
    unfold mb_element_25
    refine PP.ite (fun c_2 => ?_) (fun c_2 => ?_)
    · skip
      unfold mb_element_31
      unfold mb_element_41
      refine PP.ite (fun c_3 => ?_) (fun c_3 => ?_)
      · skip
        unfold mb_element_61
        unfold mb_element_62
        refine PP.bind (mw_openSign (24 : Int32) F G) ?_
        intro r4 F4 G4 hK4
        dsimp only
        have k_5 : F4 70 = F 70 := (hK4.1 70 rfl).trans (show F 70 = F 70 from (rfl : F 70 = F 70))
        have k_6 : 0 ≤ (F4 60).toInt := by rw [hK4.1 60 rfl]; exact (show 0 ≤ (F 60).toInt from t60)
        have k_7 : sN F ≤ sN F4 := S_eq (show sN F ≤ sN F from (Nat.le_refl _ : sN F ≤ sN F)) (hK4.1 60 rfl)
        have k_8 : CB F G G4 := CB.kx (show CB F G G from (fun _ _ => cEq.rf : CB F G G)) hK4 rfl rfl rfl rfl
        have k_9 : PKp F G G4 := PKp.kx (show PKp F G G from (fun _ _ => ⟨rfl, rfl⟩ : PKp F G G)) hK4 rfl rfl
        unfold mb_element_70
        refine PP.ite (fun c_10 => ?_) (fun c_10 => ?_)
        · skip
          unfold mb_element_89
          refine PP.ret ?_
          exact ⟨Or.inl rfl, fun h => absurd h (by decide)⟩
        · skip
          unfold mb_element_73
          refine PP.bind (ihC 4 0 0 F4 G4 (show 0 ≤ (F4 60).toInt from k_6) (by rw [(show F4 70 = F 70 from k_5)]; exact t70)) ?_
          rintro r11 F11 G11 ⟨(rfl | rfl), u11⟩
          · dsimp only
            unfold mb_element_77
            refine PP.ite (fun _ => ?_) (fun c_12 => absurd (by decide) c_12)
            unfold mb_element_89
            refine PP.ret ?_
            exact ⟨Or.inl rfl, fun h => absurd h (by decide)⟩
          · dsimp only
            obtain ⟨a11, b11, c11, d11, e11⟩ := u11 rfl
            have k_13 : F11 70 = F 70 := a11.trans (show F4 70 = F 70 from k_5)
            have k_14 : 0 ≤ (F11 60).toInt := b11
            have k_15 : sN F ≤ sN F11 := Nat.le_trans (show sN F ≤ sN F4 from k_7) d11
            have k_16 : CB F G G11 := CB.tr (show CB F G G4 from k_8) (show sN F ≤ sN F4 from k_7) e11
            have k_17 : PKp F G G11 := PKp.tr (show PKp F G G4 from k_9) c11 (show F4 70 = F 70 from k_5)
            unfold mb_element_77
            refine PP.ite (fun c_18 => absurd c_18 (by decide)) (fun _ => ?_)
            unfold mb_element_80
            refine PP.bind (mw_closeSign (25 : Int32) F11 G11) ?_
            intro r19 F19 G19 hK19
            dsimp only
            have k_20 : F19 70 = F 70 := (hK19.1 70 rfl).trans (show F11 70 = F 70 from k_13)
            have k_21 : 0 ≤ (F19 60).toInt := by rw [hK19.1 60 rfl]; exact (show 0 ≤ (F11 60).toInt from k_14)
            have k_22 : sN F ≤ sN F19 := S_eq (show sN F ≤ sN F11 from k_15) (hK19.1 60 rfl)
            have k_23 : CB F G G19 := CB.kx (show CB F G G11 from k_16) hK19 rfl rfl rfl rfl
            have k_24 : PKp F G G19 := PKp.kx (show PKp F G G11 from k_17) hK19 rfl rfl
            unfold mb_element_86
            refine PP.ite (fun c_25 => ?_) (fun c_25 => ?_)
            · skip
              unfold mb_element_89
              refine PP.ret ?_
              exact ⟨Or.inl rfl, fun h => absurd h (by decide)⟩
            · skip
              unfold mb_element_91
              refine PP.bind (mq_step (6 : Int32) (0 : Int32) (1 : Int32) F19 G19) ?_
              rintro _ F26 G26 ⟨hK26, rfl, e26, g26, n26⟩
              dsimp only
              have k_27 : F26 70 = F 70 := (hK26.1 70 rfl).trans (show F19 70 = F 70 from k_20)
              have k_28 : 0 ≤ (F26 60).toInt := inc60 n26 e26
              have k_29 : sN F ≤ sN F26 := S_st (show sN F ≤ sN F19 from k_22) n26 e26
              have k_30 : CB F G G26 := CB.stp (show CB F G G19 from k_23) (show sN F ≤ sN F19 from k_22) g26
              have k_31 : PKp F G G26 := PKp.kx (show PKp F G G19 from k_24) hK26 rfl rfl
              unfold mb_element_100
              refine PP.ite (fun _ => ?_) (fun c_32 => absurd (by decide) c_32)
              unfold mb_element_120
              unfold mb_element_121
              refine PP.ix (fun _ => ?_)
              unfold mb_element_123
              refine PP.ret ?_
              exact ⟨Or.inr rfl, fun _ => ⟨(show F26 70 = F 70 from k_27), (show 0 ≤ (F26 60).toInt from k_28), (show PKp F G (gup G26 59 (F19 60).toNatClampNeg (((2 : Int32) * (G 6 (F 42).toNatClampNeg)) + (0 : Int32))) from k_31), (show sN F ≤ sN F26 from k_29), (show CB F G (gup G26 59 (F19 60).toNatClampNeg (((2 : Int32) * (G 6 (F 42).toNatClampNeg)) + (0 : Int32))) from (CB.g59 (p := sN F19) k_30 k_22))⟩⟩
      · skip
        unfold mb_element_48
        refine PP.ix (fun _ => ?_)
        refine PP.ite (fun c_33 => ?_) (fun c_33 => ?_)
        · skip
          unfold mb_element_61
          unfold mb_element_62
          refine PP.bind (mw_openSign (24 : Int32) F G) ?_
          intro r34 F34 G34 hK34
          dsimp only
          have k_35 : F34 70 = F 70 := (hK34.1 70 rfl).trans (show F 70 = F 70 from (rfl : F 70 = F 70))
          have k_36 : 0 ≤ (F34 60).toInt := by rw [hK34.1 60 rfl]; exact (show 0 ≤ (F 60).toInt from t60)
          have k_37 : sN F ≤ sN F34 := S_eq (show sN F ≤ sN F from (Nat.le_refl _ : sN F ≤ sN F)) (hK34.1 60 rfl)
          have k_38 : CB F G G34 := CB.kx (show CB F G G from (fun _ _ => cEq.rf : CB F G G)) hK34 rfl rfl rfl rfl
          have k_39 : PKp F G G34 := PKp.kx (show PKp F G G from (fun _ _ => ⟨rfl, rfl⟩ : PKp F G G)) hK34 rfl rfl
          unfold mb_element_70
          refine PP.ite (fun c_40 => ?_) (fun c_40 => ?_)
          · skip
            unfold mb_element_89
            refine PP.ret ?_
            exact ⟨Or.inl rfl, fun h => absurd h (by decide)⟩
          · skip
            unfold mb_element_73
            refine PP.bind (ihC 4 0 0 F34 G34 (show 0 ≤ (F34 60).toInt from k_36) (by rw [(show F34 70 = F 70 from k_35)]; exact t70)) ?_
            rintro r41 F41 G41 ⟨(rfl | rfl), u41⟩
            · dsimp only
              unfold mb_element_77
              refine PP.ite (fun _ => ?_) (fun c_42 => absurd (by decide) c_42)
              unfold mb_element_89
              refine PP.ret ?_
              exact ⟨Or.inl rfl, fun h => absurd h (by decide)⟩
            · dsimp only
              obtain ⟨a41, b41, c41, d41, e41⟩ := u41 rfl
              have k_43 : F41 70 = F 70 := a41.trans (show F34 70 = F 70 from k_35)
              have k_44 : 0 ≤ (F41 60).toInt := b41
              have k_45 : sN F ≤ sN F41 := Nat.le_trans (show sN F ≤ sN F34 from k_37) d41
              have k_46 : CB F G G41 := CB.tr (show CB F G G34 from k_38) (show sN F ≤ sN F34 from k_37) e41
              have k_47 : PKp F G G41 := PKp.tr (show PKp F G G34 from k_39) c41 (show F34 70 = F 70 from k_35)
              unfold mb_element_77
              refine PP.ite (fun c_48 => absurd c_48 (by decide)) (fun _ => ?_)
              unfold mb_element_80
              refine PP.bind (mw_closeSign (25 : Int32) F41 G41) ?_
              intro r49 F49 G49 hK49
              dsimp only
              have k_50 : F49 70 = F 70 := (hK49.1 70 rfl).trans (show F41 70 = F 70 from k_43)
              have k_51 : 0 ≤ (F49 60).toInt := by rw [hK49.1 60 rfl]; exact (show 0 ≤ (F41 60).toInt from k_44)
              have k_52 : sN F ≤ sN F49 := S_eq (show sN F ≤ sN F41 from k_45) (hK49.1 60 rfl)
              have k_53 : CB F G G49 := CB.kx (show CB F G G41 from k_46) hK49 rfl rfl rfl rfl
              have k_54 : PKp F G G49 := PKp.kx (show PKp F G G41 from k_47) hK49 rfl rfl
              unfold mb_element_86
              refine PP.ite (fun c_55 => ?_) (fun c_55 => ?_)
              · skip
                unfold mb_element_89
                refine PP.ret ?_
                exact ⟨Or.inl rfl, fun h => absurd h (by decide)⟩
              · skip
                unfold mb_element_91
                refine PP.bind (mq_step (6 : Int32) (0 : Int32) (1 : Int32) F49 G49) ?_
                rintro _ F56 G56 ⟨hK56, rfl, e56, g56, n56⟩
                dsimp only
                have k_57 : F56 70 = F 70 := (hK56.1 70 rfl).trans (show F49 70 = F 70 from k_50)
                have k_58 : 0 ≤ (F56 60).toInt := inc60 n56 e56
                have k_59 : sN F ≤ sN F56 := S_st (show sN F ≤ sN F49 from k_52) n56 e56
                have k_60 : CB F G G56 := CB.stp (show CB F G G49 from k_53) (show sN F ≤ sN F49 from k_52) g56
                have k_61 : PKp F G G56 := PKp.kx (show PKp F G G49 from k_54) hK56 rfl rfl
                unfold mb_element_100
                refine PP.ite (fun _ => ?_) (fun c_62 => absurd (by decide) c_62)
                unfold mb_element_120
                unfold mb_element_121
                refine PP.ix (fun _ => ?_)
                unfold mb_element_123
                refine PP.ret ?_
                exact ⟨Or.inr rfl, fun _ => ⟨(show F56 70 = F 70 from k_57), (show 0 ≤ (F56 60).toInt from k_58), (show PKp F G (gup G56 59 (F49 60).toNatClampNeg (((2 : Int32) * (G 6 (F 42).toNatClampNeg)) + (0 : Int32))) from k_61), (show sN F ≤ sN F56 from k_59), (show CB F G (gup G56 59 (F49 60).toNatClampNeg (((2 : Int32) * (G 6 (F 42).toNatClampNeg)) + (0 : Int32))) from (CB.g59 (p := sN F49) k_60 k_52))⟩⟩
        · skip
          unfold mb_element_57
          unfold mb_element_62
          refine PP.bind (mw_openSign (24 : Int32) F G) ?_
          intro r63 F63 G63 hK63
          dsimp only
          have k_64 : F63 70 = F 70 := (hK63.1 70 rfl).trans (show F 70 = F 70 from (rfl : F 70 = F 70))
          have k_65 : 0 ≤ (F63 60).toInt := by rw [hK63.1 60 rfl]; exact (show 0 ≤ (F 60).toInt from t60)
          have k_66 : sN F ≤ sN F63 := S_eq (show sN F ≤ sN F from (Nat.le_refl _ : sN F ≤ sN F)) (hK63.1 60 rfl)
          have k_67 : CB F G G63 := CB.kx (show CB F G G from (fun _ _ => cEq.rf : CB F G G)) hK63 rfl rfl rfl rfl
          have k_68 : PKp F G G63 := PKp.kx (show PKp F G G from (fun _ _ => ⟨rfl, rfl⟩ : PKp F G G)) hK63 rfl rfl
          unfold mb_element_70
          refine PP.ite (fun c_69 => ?_) (fun c_69 => ?_)
          · skip
            unfold mb_element_89
            refine PP.ret ?_
            exact ⟨Or.inl rfl, fun h => absurd h (by decide)⟩
          · skip
            unfold mb_element_73
            refine PP.bind (ihC 4 0 0 F63 G63 (show 0 ≤ (F63 60).toInt from k_65) (by rw [(show F63 70 = F 70 from k_64)]; exact t70)) ?_
            rintro r70 F70 G70 ⟨(rfl | rfl), u70⟩
            · dsimp only
              unfold mb_element_77
              refine PP.ite (fun _ => ?_) (fun c_71 => absurd (by decide) c_71)
              unfold mb_element_89
              refine PP.ret ?_
              exact ⟨Or.inl rfl, fun h => absurd h (by decide)⟩
            · dsimp only
              obtain ⟨a70, b70, c70, d70, e70⟩ := u70 rfl
              have k_72 : F70 70 = F 70 := a70.trans (show F63 70 = F 70 from k_64)
              have k_73 : 0 ≤ (F70 60).toInt := b70
              have k_74 : sN F ≤ sN F70 := Nat.le_trans (show sN F ≤ sN F63 from k_66) d70
              have k_75 : CB F G G70 := CB.tr (show CB F G G63 from k_67) (show sN F ≤ sN F63 from k_66) e70
              have k_76 : PKp F G G70 := PKp.tr (show PKp F G G63 from k_68) c70 (show F63 70 = F 70 from k_64)
              unfold mb_element_77
              refine PP.ite (fun c_77 => absurd c_77 (by decide)) (fun _ => ?_)
              unfold mb_element_80
              refine PP.bind (mw_closeSign (25 : Int32) F70 G70) ?_
              intro r78 F78 G78 hK78
              dsimp only
              have k_79 : F78 70 = F 70 := (hK78.1 70 rfl).trans (show F70 70 = F 70 from k_72)
              have k_80 : 0 ≤ (F78 60).toInt := by rw [hK78.1 60 rfl]; exact (show 0 ≤ (F70 60).toInt from k_73)
              have k_81 : sN F ≤ sN F78 := S_eq (show sN F ≤ sN F70 from k_74) (hK78.1 60 rfl)
              have k_82 : CB F G G78 := CB.kx (show CB F G G70 from k_75) hK78 rfl rfl rfl rfl
              have k_83 : PKp F G G78 := PKp.kx (show PKp F G G70 from k_76) hK78 rfl rfl
              unfold mb_element_86
              refine PP.ite (fun c_84 => ?_) (fun c_84 => ?_)
              · skip
                unfold mb_element_89
                refine PP.ret ?_
                exact ⟨Or.inl rfl, fun h => absurd h (by decide)⟩
              · skip
                unfold mb_element_91
                refine PP.bind (mq_step (6 : Int32) (0 : Int32) (1 : Int32) F78 G78) ?_
                rintro _ F85 G85 ⟨hK85, rfl, e85, g85, n85⟩
                dsimp only
                have k_86 : F85 70 = F 70 := (hK85.1 70 rfl).trans (show F78 70 = F 70 from k_79)
                have k_87 : 0 ≤ (F85 60).toInt := inc60 n85 e85
                have k_88 : sN F ≤ sN F85 := S_st (show sN F ≤ sN F78 from k_81) n85 e85
                have k_89 : CB F G G85 := CB.stp (show CB F G G78 from k_82) (show sN F ≤ sN F78 from k_81) g85
                have k_90 : PKp F G G85 := PKp.kx (show PKp F G G78 from k_83) hK85 rfl rfl
                unfold mb_element_100
                refine PP.ite (fun c_91 => absurd c_91 (by decide)) (fun _ => ?_)
                unfold mb_element_116
                unfold mb_element_121
                refine PP.ix (fun _ => ?_)
                unfold mb_element_123
                refine PP.ret ?_
                exact ⟨Or.inr rfl, fun _ => ⟨(show F85 70 = F 70 from k_86), (show 0 ≤ (F85 60).toInt from k_87), (show PKp F G (gup G85 59 (F78 60).toNatClampNeg (((2 : Int32) * (G 6 (F 42).toNatClampNeg)) + (1 : Int32))) from k_90), (show sN F ≤ sN F85 from k_88), (show CB F G (gup G85 59 (F78 60).toNatClampNeg (((2 : Int32) * (G 6 (F 42).toNatClampNeg)) + (1 : Int32))) from (CB.g59 (p := sN F78) k_89 k_81))⟩⟩
    · skip
      unfold mb_element_35
      refine PP.ix (fun _ => ?_)
      unfold mb_element_41
      refine PP.ite (fun c_92 => ?_) (fun c_92 => ?_)
      · skip
        unfold mb_element_61
        unfold mb_element_62
        refine PP.bind (mw_openSign (24 : Int32) F G) ?_
        intro r93 F93 G93 hK93
        dsimp only
        have k_94 : F93 70 = F 70 := (hK93.1 70 rfl).trans (show F 70 = F 70 from (rfl : F 70 = F 70))
        have k_95 : 0 ≤ (F93 60).toInt := by rw [hK93.1 60 rfl]; exact (show 0 ≤ (F 60).toInt from t60)
        have k_96 : sN F ≤ sN F93 := S_eq (show sN F ≤ sN F from (Nat.le_refl _ : sN F ≤ sN F)) (hK93.1 60 rfl)
        have k_97 : CB F G G93 := CB.kx (show CB F G G from (fun _ _ => cEq.rf : CB F G G)) hK93 rfl rfl rfl rfl
        have k_98 : PKp F G G93 := PKp.kx (show PKp F G G from (fun _ _ => ⟨rfl, rfl⟩ : PKp F G G)) hK93 rfl rfl
        unfold mb_element_70
        refine PP.ite (fun c_99 => ?_) (fun c_99 => ?_)
        · skip
          unfold mb_element_89
          refine PP.ret ?_
          exact ⟨Or.inl rfl, fun h => absurd h (by decide)⟩
        · skip
          unfold mb_element_73
          refine PP.bind (ihC 4 0 0 F93 G93 (show 0 ≤ (F93 60).toInt from k_95) (by rw [(show F93 70 = F 70 from k_94)]; exact t70)) ?_
          rintro r100 F100 G100 ⟨(rfl | rfl), u100⟩
          · dsimp only
            unfold mb_element_77
            refine PP.ite (fun _ => ?_) (fun c_101 => absurd (by decide) c_101)
            unfold mb_element_89
            refine PP.ret ?_
            exact ⟨Or.inl rfl, fun h => absurd h (by decide)⟩
          · dsimp only
            obtain ⟨a100, b100, c100, d100, e100⟩ := u100 rfl
            have k_102 : F100 70 = F 70 := a100.trans (show F93 70 = F 70 from k_94)
            have k_103 : 0 ≤ (F100 60).toInt := b100
            have k_104 : sN F ≤ sN F100 := Nat.le_trans (show sN F ≤ sN F93 from k_96) d100
            have k_105 : CB F G G100 := CB.tr (show CB F G G93 from k_97) (show sN F ≤ sN F93 from k_96) e100
            have k_106 : PKp F G G100 := PKp.tr (show PKp F G G93 from k_98) c100 (show F93 70 = F 70 from k_94)
            unfold mb_element_77
            refine PP.ite (fun c_107 => absurd c_107 (by decide)) (fun _ => ?_)
            unfold mb_element_80
            refine PP.bind (mw_closeSign (25 : Int32) F100 G100) ?_
            intro r108 F108 G108 hK108
            dsimp only
            have k_109 : F108 70 = F 70 := (hK108.1 70 rfl).trans (show F100 70 = F 70 from k_102)
            have k_110 : 0 ≤ (F108 60).toInt := by rw [hK108.1 60 rfl]; exact (show 0 ≤ (F100 60).toInt from k_103)
            have k_111 : sN F ≤ sN F108 := S_eq (show sN F ≤ sN F100 from k_104) (hK108.1 60 rfl)
            have k_112 : CB F G G108 := CB.kx (show CB F G G100 from k_105) hK108 rfl rfl rfl rfl
            have k_113 : PKp F G G108 := PKp.kx (show PKp F G G100 from k_106) hK108 rfl rfl
            unfold mb_element_86
            refine PP.ite (fun c_114 => ?_) (fun c_114 => ?_)
            · skip
              unfold mb_element_89
              refine PP.ret ?_
              exact ⟨Or.inl rfl, fun h => absurd h (by decide)⟩
            · skip
              unfold mb_element_91
              refine PP.bind (mq_step (6 : Int32) (0 : Int32) (G 21 x1.toNatClampNeg) F108 G108) ?_
              rintro _ F115 G115 ⟨hK115, rfl, e115, g115, n115⟩
              dsimp only
              have k_116 : F115 70 = F 70 := (hK115.1 70 rfl).trans (show F108 70 = F 70 from k_109)
              have k_117 : 0 ≤ (F115 60).toInt := inc60 n115 e115
              have k_118 : sN F ≤ sN F115 := S_st (show sN F ≤ sN F108 from k_111) n115 e115
              have k_119 : CB F G G115 := CB.stp (show CB F G G108 from k_112) (show sN F ≤ sN F108 from k_111) g115
              have k_120 : PKp F G G115 := PKp.kx (show PKp F G G108 from k_113) hK115 rfl rfl
              unfold mb_element_100
              refine PP.ite (fun _ => ?_) (fun c_121 => absurd (by decide) c_121)
              unfold mb_element_120
              unfold mb_element_121
              refine PP.ix (fun _ => ?_)
              unfold mb_element_123
              refine PP.ret ?_
              exact ⟨Or.inr rfl, fun _ => ⟨(show F115 70 = F 70 from k_116), (show 0 ≤ (F115 60).toInt from k_117), (show PKp F G (gup G115 59 (F108 60).toNatClampNeg (((2 : Int32) * (G 6 (F 42).toNatClampNeg)) + (0 : Int32))) from k_120), (show sN F ≤ sN F115 from k_118), (show CB F G (gup G115 59 (F108 60).toNatClampNeg (((2 : Int32) * (G 6 (F 42).toNatClampNeg)) + (0 : Int32))) from (CB.g59 (p := sN F108) k_119 k_111))⟩⟩
      · skip
        unfold mb_element_48
        refine PP.ix (fun _ => ?_)
        refine PP.ite (fun c_122 => ?_) (fun c_122 => ?_)
        · skip
          unfold mb_element_61
          unfold mb_element_62
          refine PP.bind (mw_openSign (24 : Int32) F G) ?_
          intro r123 F123 G123 hK123
          dsimp only
          have k_124 : F123 70 = F 70 := (hK123.1 70 rfl).trans (show F 70 = F 70 from (rfl : F 70 = F 70))
          have k_125 : 0 ≤ (F123 60).toInt := by rw [hK123.1 60 rfl]; exact (show 0 ≤ (F 60).toInt from t60)
          have k_126 : sN F ≤ sN F123 := S_eq (show sN F ≤ sN F from (Nat.le_refl _ : sN F ≤ sN F)) (hK123.1 60 rfl)
          have k_127 : CB F G G123 := CB.kx (show CB F G G from (fun _ _ => cEq.rf : CB F G G)) hK123 rfl rfl rfl rfl
          have k_128 : PKp F G G123 := PKp.kx (show PKp F G G from (fun _ _ => ⟨rfl, rfl⟩ : PKp F G G)) hK123 rfl rfl
          unfold mb_element_70
          refine PP.ite (fun c_129 => ?_) (fun c_129 => ?_)
          · skip
            unfold mb_element_89
            refine PP.ret ?_
            exact ⟨Or.inl rfl, fun h => absurd h (by decide)⟩
          · skip
            unfold mb_element_73
            refine PP.bind (ihC 4 0 0 F123 G123 (show 0 ≤ (F123 60).toInt from k_125) (by rw [(show F123 70 = F 70 from k_124)]; exact t70)) ?_
            rintro r130 F130 G130 ⟨(rfl | rfl), u130⟩
            · dsimp only
              unfold mb_element_77
              refine PP.ite (fun _ => ?_) (fun c_131 => absurd (by decide) c_131)
              unfold mb_element_89
              refine PP.ret ?_
              exact ⟨Or.inl rfl, fun h => absurd h (by decide)⟩
            · dsimp only
              obtain ⟨a130, b130, c130, d130, e130⟩ := u130 rfl
              have k_132 : F130 70 = F 70 := a130.trans (show F123 70 = F 70 from k_124)
              have k_133 : 0 ≤ (F130 60).toInt := b130
              have k_134 : sN F ≤ sN F130 := Nat.le_trans (show sN F ≤ sN F123 from k_126) d130
              have k_135 : CB F G G130 := CB.tr (show CB F G G123 from k_127) (show sN F ≤ sN F123 from k_126) e130
              have k_136 : PKp F G G130 := PKp.tr (show PKp F G G123 from k_128) c130 (show F123 70 = F 70 from k_124)
              unfold mb_element_77
              refine PP.ite (fun c_137 => absurd c_137 (by decide)) (fun _ => ?_)
              unfold mb_element_80
              refine PP.bind (mw_closeSign (25 : Int32) F130 G130) ?_
              intro r138 F138 G138 hK138
              dsimp only
              have k_139 : F138 70 = F 70 := (hK138.1 70 rfl).trans (show F130 70 = F 70 from k_132)
              have k_140 : 0 ≤ (F138 60).toInt := by rw [hK138.1 60 rfl]; exact (show 0 ≤ (F130 60).toInt from k_133)
              have k_141 : sN F ≤ sN F138 := S_eq (show sN F ≤ sN F130 from k_134) (hK138.1 60 rfl)
              have k_142 : CB F G G138 := CB.kx (show CB F G G130 from k_135) hK138 rfl rfl rfl rfl
              have k_143 : PKp F G G138 := PKp.kx (show PKp F G G130 from k_136) hK138 rfl rfl
              unfold mb_element_86
              refine PP.ite (fun c_144 => ?_) (fun c_144 => ?_)
              · skip
                unfold mb_element_89
                refine PP.ret ?_
                exact ⟨Or.inl rfl, fun h => absurd h (by decide)⟩
              · skip
                unfold mb_element_91
                refine PP.bind (mq_step (6 : Int32) (0 : Int32) (G 21 x1.toNatClampNeg) F138 G138) ?_
                rintro _ F145 G145 ⟨hK145, rfl, e145, g145, n145⟩
                dsimp only
                have k_146 : F145 70 = F 70 := (hK145.1 70 rfl).trans (show F138 70 = F 70 from k_139)
                have k_147 : 0 ≤ (F145 60).toInt := inc60 n145 e145
                have k_148 : sN F ≤ sN F145 := S_st (show sN F ≤ sN F138 from k_141) n145 e145
                have k_149 : CB F G G145 := CB.stp (show CB F G G138 from k_142) (show sN F ≤ sN F138 from k_141) g145
                have k_150 : PKp F G G145 := PKp.kx (show PKp F G G138 from k_143) hK145 rfl rfl
                unfold mb_element_100
                refine PP.ite (fun _ => ?_) (fun c_151 => absurd (by decide) c_151)
                unfold mb_element_120
                unfold mb_element_121
                refine PP.ix (fun _ => ?_)
                unfold mb_element_123
                refine PP.ret ?_
                exact ⟨Or.inr rfl, fun _ => ⟨(show F145 70 = F 70 from k_146), (show 0 ≤ (F145 60).toInt from k_147), (show PKp F G (gup G145 59 (F138 60).toNatClampNeg (((2 : Int32) * (G 6 (F 42).toNatClampNeg)) + (0 : Int32))) from k_150), (show sN F ≤ sN F145 from k_148), (show CB F G (gup G145 59 (F138 60).toNatClampNeg (((2 : Int32) * (G 6 (F 42).toNatClampNeg)) + (0 : Int32))) from (CB.g59 (p := sN F138) k_149 k_141))⟩⟩
        · skip
          unfold mb_element_57
          unfold mb_element_62
          refine PP.bind (mw_openSign (24 : Int32) F G) ?_
          intro r152 F152 G152 hK152
          dsimp only
          have k_153 : F152 70 = F 70 := (hK152.1 70 rfl).trans (show F 70 = F 70 from (rfl : F 70 = F 70))
          have k_154 : 0 ≤ (F152 60).toInt := by rw [hK152.1 60 rfl]; exact (show 0 ≤ (F 60).toInt from t60)
          have k_155 : sN F ≤ sN F152 := S_eq (show sN F ≤ sN F from (Nat.le_refl _ : sN F ≤ sN F)) (hK152.1 60 rfl)
          have k_156 : CB F G G152 := CB.kx (show CB F G G from (fun _ _ => cEq.rf : CB F G G)) hK152 rfl rfl rfl rfl
          have k_157 : PKp F G G152 := PKp.kx (show PKp F G G from (fun _ _ => ⟨rfl, rfl⟩ : PKp F G G)) hK152 rfl rfl
          unfold mb_element_70
          refine PP.ite (fun c_158 => ?_) (fun c_158 => ?_)
          · skip
            unfold mb_element_89
            refine PP.ret ?_
            exact ⟨Or.inl rfl, fun h => absurd h (by decide)⟩
          · skip
            unfold mb_element_73
            refine PP.bind (ihC 4 0 0 F152 G152 (show 0 ≤ (F152 60).toInt from k_154) (by rw [(show F152 70 = F 70 from k_153)]; exact t70)) ?_
            rintro r159 F159 G159 ⟨(rfl | rfl), u159⟩
            · dsimp only
              unfold mb_element_77
              refine PP.ite (fun _ => ?_) (fun c_160 => absurd (by decide) c_160)
              unfold mb_element_89
              refine PP.ret ?_
              exact ⟨Or.inl rfl, fun h => absurd h (by decide)⟩
            · dsimp only
              obtain ⟨a159, b159, c159, d159, e159⟩ := u159 rfl
              have k_161 : F159 70 = F 70 := a159.trans (show F152 70 = F 70 from k_153)
              have k_162 : 0 ≤ (F159 60).toInt := b159
              have k_163 : sN F ≤ sN F159 := Nat.le_trans (show sN F ≤ sN F152 from k_155) d159
              have k_164 : CB F G G159 := CB.tr (show CB F G G152 from k_156) (show sN F ≤ sN F152 from k_155) e159
              have k_165 : PKp F G G159 := PKp.tr (show PKp F G G152 from k_157) c159 (show F152 70 = F 70 from k_153)
              unfold mb_element_77
              refine PP.ite (fun c_166 => absurd c_166 (by decide)) (fun _ => ?_)
              unfold mb_element_80
              refine PP.bind (mw_closeSign (25 : Int32) F159 G159) ?_
              intro r167 F167 G167 hK167
              dsimp only
              have k_168 : F167 70 = F 70 := (hK167.1 70 rfl).trans (show F159 70 = F 70 from k_161)
              have k_169 : 0 ≤ (F167 60).toInt := by rw [hK167.1 60 rfl]; exact (show 0 ≤ (F159 60).toInt from k_162)
              have k_170 : sN F ≤ sN F167 := S_eq (show sN F ≤ sN F159 from k_163) (hK167.1 60 rfl)
              have k_171 : CB F G G167 := CB.kx (show CB F G G159 from k_164) hK167 rfl rfl rfl rfl
              have k_172 : PKp F G G167 := PKp.kx (show PKp F G G159 from k_165) hK167 rfl rfl
              unfold mb_element_86
              refine PP.ite (fun c_173 => ?_) (fun c_173 => ?_)
              · skip
                unfold mb_element_89
                refine PP.ret ?_
                exact ⟨Or.inl rfl, fun h => absurd h (by decide)⟩
              · skip
                unfold mb_element_91
                refine PP.bind (mq_step (6 : Int32) (0 : Int32) (G 21 x1.toNatClampNeg) F167 G167) ?_
                rintro _ F174 G174 ⟨hK174, rfl, e174, g174, n174⟩
                dsimp only
                have k_175 : F174 70 = F 70 := (hK174.1 70 rfl).trans (show F167 70 = F 70 from k_168)
                have k_176 : 0 ≤ (F174 60).toInt := inc60 n174 e174
                have k_177 : sN F ≤ sN F174 := S_st (show sN F ≤ sN F167 from k_170) n174 e174
                have k_178 : CB F G G174 := CB.stp (show CB F G G167 from k_171) (show sN F ≤ sN F167 from k_170) g174
                have k_179 : PKp F G G174 := PKp.kx (show PKp F G G167 from k_172) hK174 rfl rfl
                unfold mb_element_100
                refine PP.ite (fun c_180 => absurd c_180 (by decide)) (fun _ => ?_)
                unfold mb_element_116
                unfold mb_element_121
                refine PP.ix (fun _ => ?_)
                unfold mb_element_123
                refine PP.ret ?_
                exact ⟨Or.inr rfl, fun _ => ⟨(show F174 70 = F 70 from k_175), (show 0 ≤ (F174 60).toInt from k_176), (show PKp F G (gup G174 59 (F167 60).toNatClampNeg (((2 : Int32) * (G 6 (F 42).toNatClampNeg)) + (1 : Int32))) from k_179), (show sN F ≤ sN F174 from k_177), (show CB F G (gup G174 59 (F167 60).toNatClampNeg (((2 : Int32) * (G 6 (F 42).toNatClampNeg)) + (1 : Int32))) from (CB.g59 (p := sN F167) k_178 k_170))⟩⟩
  · skip
    unfold mb_element_19
    refine PP.ix (fun _ => ?_)
    unfold mb_element_25
    refine PP.ite (fun c_181 => ?_) (fun c_181 => ?_)
    · skip
      unfold mb_element_31
      unfold mb_element_41
      refine PP.ite (fun c_182 => ?_) (fun c_182 => ?_)
      · skip
        unfold mb_element_61
        unfold mb_element_62
        refine PP.bind (mw_openSign (24 : Int32) F G) ?_
        intro r183 F183 G183 hK183
        dsimp only
        have k_184 : F183 70 = F 70 := (hK183.1 70 rfl).trans (show F 70 = F 70 from (rfl : F 70 = F 70))
        have k_185 : 0 ≤ (F183 60).toInt := by rw [hK183.1 60 rfl]; exact (show 0 ≤ (F 60).toInt from t60)
        have k_186 : sN F ≤ sN F183 := S_eq (show sN F ≤ sN F from (Nat.le_refl _ : sN F ≤ sN F)) (hK183.1 60 rfl)
        have k_187 : CB F G G183 := CB.kx (show CB F G G from (fun _ _ => cEq.rf : CB F G G)) hK183 rfl rfl rfl rfl
        have k_188 : PKp F G G183 := PKp.kx (show PKp F G G from (fun _ _ => ⟨rfl, rfl⟩ : PKp F G G)) hK183 rfl rfl
        unfold mb_element_70
        refine PP.ite (fun c_189 => ?_) (fun c_189 => ?_)
        · skip
          unfold mb_element_89
          refine PP.ret ?_
          exact ⟨Or.inl rfl, fun h => absurd h (by decide)⟩
        · skip
          unfold mb_element_73
          refine PP.bind (ihC 4 0 0 F183 G183 (show 0 ≤ (F183 60).toInt from k_185) (by rw [(show F183 70 = F 70 from k_184)]; exact t70)) ?_
          rintro r190 F190 G190 ⟨(rfl | rfl), u190⟩
          · dsimp only
            unfold mb_element_77
            refine PP.ite (fun _ => ?_) (fun c_191 => absurd (by decide) c_191)
            unfold mb_element_89
            refine PP.ret ?_
            exact ⟨Or.inl rfl, fun h => absurd h (by decide)⟩
          · dsimp only
            obtain ⟨a190, b190, c190, d190, e190⟩ := u190 rfl
            have k_192 : F190 70 = F 70 := a190.trans (show F183 70 = F 70 from k_184)
            have k_193 : 0 ≤ (F190 60).toInt := b190
            have k_194 : sN F ≤ sN F190 := Nat.le_trans (show sN F ≤ sN F183 from k_186) d190
            have k_195 : CB F G G190 := CB.tr (show CB F G G183 from k_187) (show sN F ≤ sN F183 from k_186) e190
            have k_196 : PKp F G G190 := PKp.tr (show PKp F G G183 from k_188) c190 (show F183 70 = F 70 from k_184)
            unfold mb_element_77
            refine PP.ite (fun c_197 => absurd c_197 (by decide)) (fun _ => ?_)
            unfold mb_element_80
            refine PP.bind (mw_closeSign (25 : Int32) F190 G190) ?_
            intro r198 F198 G198 hK198
            dsimp only
            have k_199 : F198 70 = F 70 := (hK198.1 70 rfl).trans (show F190 70 = F 70 from k_192)
            have k_200 : 0 ≤ (F198 60).toInt := by rw [hK198.1 60 rfl]; exact (show 0 ≤ (F190 60).toInt from k_193)
            have k_201 : sN F ≤ sN F198 := S_eq (show sN F ≤ sN F190 from k_194) (hK198.1 60 rfl)
            have k_202 : CB F G G198 := CB.kx (show CB F G G190 from k_195) hK198 rfl rfl rfl rfl
            have k_203 : PKp F G G198 := PKp.kx (show PKp F G G190 from k_196) hK198 rfl rfl
            unfold mb_element_86
            refine PP.ite (fun c_204 => ?_) (fun c_204 => ?_)
            · skip
              unfold mb_element_89
              refine PP.ret ?_
              exact ⟨Or.inl rfl, fun h => absurd h (by decide)⟩
            · skip
              unfold mb_element_91
              refine PP.bind (mq_step (6 : Int32) (G 20 x1.toNatClampNeg) (1 : Int32) F198 G198) ?_
              rintro _ F205 G205 ⟨hK205, rfl, e205, g205, n205⟩
              dsimp only
              have k_206 : F205 70 = F 70 := (hK205.1 70 rfl).trans (show F198 70 = F 70 from k_199)
              have k_207 : 0 ≤ (F205 60).toInt := inc60 n205 e205
              have k_208 : sN F ≤ sN F205 := S_st (show sN F ≤ sN F198 from k_201) n205 e205
              have k_209 : CB F G G205 := CB.stp (show CB F G G198 from k_202) (show sN F ≤ sN F198 from k_201) g205
              have k_210 : PKp F G G205 := PKp.kx (show PKp F G G198 from k_203) hK205 rfl rfl
              unfold mb_element_100
              refine PP.ite (fun _ => ?_) (fun c_211 => absurd (by decide) c_211)
              unfold mb_element_120
              unfold mb_element_121
              refine PP.ix (fun _ => ?_)
              unfold mb_element_123
              refine PP.ret ?_
              exact ⟨Or.inr rfl, fun _ => ⟨(show F205 70 = F 70 from k_206), (show 0 ≤ (F205 60).toInt from k_207), (show PKp F G (gup G205 59 (F198 60).toNatClampNeg (((2 : Int32) * (G 6 (F 42).toNatClampNeg)) + (0 : Int32))) from k_210), (show sN F ≤ sN F205 from k_208), (show CB F G (gup G205 59 (F198 60).toNatClampNeg (((2 : Int32) * (G 6 (F 42).toNatClampNeg)) + (0 : Int32))) from (CB.g59 (p := sN F198) k_209 k_201))⟩⟩
      · skip
        unfold mb_element_48
        refine PP.ix (fun _ => ?_)
        refine PP.ite (fun c_212 => ?_) (fun c_212 => ?_)
        · skip
          unfold mb_element_61
          unfold mb_element_62
          refine PP.bind (mw_openSign (24 : Int32) F G) ?_
          intro r213 F213 G213 hK213
          dsimp only
          have k_214 : F213 70 = F 70 := (hK213.1 70 rfl).trans (show F 70 = F 70 from (rfl : F 70 = F 70))
          have k_215 : 0 ≤ (F213 60).toInt := by rw [hK213.1 60 rfl]; exact (show 0 ≤ (F 60).toInt from t60)
          have k_216 : sN F ≤ sN F213 := S_eq (show sN F ≤ sN F from (Nat.le_refl _ : sN F ≤ sN F)) (hK213.1 60 rfl)
          have k_217 : CB F G G213 := CB.kx (show CB F G G from (fun _ _ => cEq.rf : CB F G G)) hK213 rfl rfl rfl rfl
          have k_218 : PKp F G G213 := PKp.kx (show PKp F G G from (fun _ _ => ⟨rfl, rfl⟩ : PKp F G G)) hK213 rfl rfl
          unfold mb_element_70
          refine PP.ite (fun c_219 => ?_) (fun c_219 => ?_)
          · skip
            unfold mb_element_89
            refine PP.ret ?_
            exact ⟨Or.inl rfl, fun h => absurd h (by decide)⟩
          · skip
            unfold mb_element_73
            refine PP.bind (ihC 4 0 0 F213 G213 (show 0 ≤ (F213 60).toInt from k_215) (by rw [(show F213 70 = F 70 from k_214)]; exact t70)) ?_
            rintro r220 F220 G220 ⟨(rfl | rfl), u220⟩
            · dsimp only
              unfold mb_element_77
              refine PP.ite (fun _ => ?_) (fun c_221 => absurd (by decide) c_221)
              unfold mb_element_89
              refine PP.ret ?_
              exact ⟨Or.inl rfl, fun h => absurd h (by decide)⟩
            · dsimp only
              obtain ⟨a220, b220, c220, d220, e220⟩ := u220 rfl
              have k_222 : F220 70 = F 70 := a220.trans (show F213 70 = F 70 from k_214)
              have k_223 : 0 ≤ (F220 60).toInt := b220
              have k_224 : sN F ≤ sN F220 := Nat.le_trans (show sN F ≤ sN F213 from k_216) d220
              have k_225 : CB F G G220 := CB.tr (show CB F G G213 from k_217) (show sN F ≤ sN F213 from k_216) e220
              have k_226 : PKp F G G220 := PKp.tr (show PKp F G G213 from k_218) c220 (show F213 70 = F 70 from k_214)
              unfold mb_element_77
              refine PP.ite (fun c_227 => absurd c_227 (by decide)) (fun _ => ?_)
              unfold mb_element_80
              refine PP.bind (mw_closeSign (25 : Int32) F220 G220) ?_
              intro r228 F228 G228 hK228
              dsimp only
              have k_229 : F228 70 = F 70 := (hK228.1 70 rfl).trans (show F220 70 = F 70 from k_222)
              have k_230 : 0 ≤ (F228 60).toInt := by rw [hK228.1 60 rfl]; exact (show 0 ≤ (F220 60).toInt from k_223)
              have k_231 : sN F ≤ sN F228 := S_eq (show sN F ≤ sN F220 from k_224) (hK228.1 60 rfl)
              have k_232 : CB F G G228 := CB.kx (show CB F G G220 from k_225) hK228 rfl rfl rfl rfl
              have k_233 : PKp F G G228 := PKp.kx (show PKp F G G220 from k_226) hK228 rfl rfl
              unfold mb_element_86
              refine PP.ite (fun c_234 => ?_) (fun c_234 => ?_)
              · skip
                unfold mb_element_89
                refine PP.ret ?_
                exact ⟨Or.inl rfl, fun h => absurd h (by decide)⟩
              · skip
                unfold mb_element_91
                refine PP.bind (mq_step (6 : Int32) (G 20 x1.toNatClampNeg) (1 : Int32) F228 G228) ?_
                rintro _ F235 G235 ⟨hK235, rfl, e235, g235, n235⟩
                dsimp only
                have k_236 : F235 70 = F 70 := (hK235.1 70 rfl).trans (show F228 70 = F 70 from k_229)
                have k_237 : 0 ≤ (F235 60).toInt := inc60 n235 e235
                have k_238 : sN F ≤ sN F235 := S_st (show sN F ≤ sN F228 from k_231) n235 e235
                have k_239 : CB F G G235 := CB.stp (show CB F G G228 from k_232) (show sN F ≤ sN F228 from k_231) g235
                have k_240 : PKp F G G235 := PKp.kx (show PKp F G G228 from k_233) hK235 rfl rfl
                unfold mb_element_100
                refine PP.ite (fun _ => ?_) (fun c_241 => absurd (by decide) c_241)
                unfold mb_element_120
                unfold mb_element_121
                refine PP.ix (fun _ => ?_)
                unfold mb_element_123
                refine PP.ret ?_
                exact ⟨Or.inr rfl, fun _ => ⟨(show F235 70 = F 70 from k_236), (show 0 ≤ (F235 60).toInt from k_237), (show PKp F G (gup G235 59 (F228 60).toNatClampNeg (((2 : Int32) * (G 6 (F 42).toNatClampNeg)) + (0 : Int32))) from k_240), (show sN F ≤ sN F235 from k_238), (show CB F G (gup G235 59 (F228 60).toNatClampNeg (((2 : Int32) * (G 6 (F 42).toNatClampNeg)) + (0 : Int32))) from (CB.g59 (p := sN F228) k_239 k_231))⟩⟩
        · skip
          unfold mb_element_57
          unfold mb_element_62
          refine PP.bind (mw_openSign (24 : Int32) F G) ?_
          intro r242 F242 G242 hK242
          dsimp only
          have k_243 : F242 70 = F 70 := (hK242.1 70 rfl).trans (show F 70 = F 70 from (rfl : F 70 = F 70))
          have k_244 : 0 ≤ (F242 60).toInt := by rw [hK242.1 60 rfl]; exact (show 0 ≤ (F 60).toInt from t60)
          have k_245 : sN F ≤ sN F242 := S_eq (show sN F ≤ sN F from (Nat.le_refl _ : sN F ≤ sN F)) (hK242.1 60 rfl)
          have k_246 : CB F G G242 := CB.kx (show CB F G G from (fun _ _ => cEq.rf : CB F G G)) hK242 rfl rfl rfl rfl
          have k_247 : PKp F G G242 := PKp.kx (show PKp F G G from (fun _ _ => ⟨rfl, rfl⟩ : PKp F G G)) hK242 rfl rfl
          unfold mb_element_70
          refine PP.ite (fun c_248 => ?_) (fun c_248 => ?_)
          · skip
            unfold mb_element_89
            refine PP.ret ?_
            exact ⟨Or.inl rfl, fun h => absurd h (by decide)⟩
          · skip
            unfold mb_element_73
            refine PP.bind (ihC 4 0 0 F242 G242 (show 0 ≤ (F242 60).toInt from k_244) (by rw [(show F242 70 = F 70 from k_243)]; exact t70)) ?_
            rintro r249 F249 G249 ⟨(rfl | rfl), u249⟩
            · dsimp only
              unfold mb_element_77
              refine PP.ite (fun _ => ?_) (fun c_250 => absurd (by decide) c_250)
              unfold mb_element_89
              refine PP.ret ?_
              exact ⟨Or.inl rfl, fun h => absurd h (by decide)⟩
            · dsimp only
              obtain ⟨a249, b249, c249, d249, e249⟩ := u249 rfl
              have k_251 : F249 70 = F 70 := a249.trans (show F242 70 = F 70 from k_243)
              have k_252 : 0 ≤ (F249 60).toInt := b249
              have k_253 : sN F ≤ sN F249 := Nat.le_trans (show sN F ≤ sN F242 from k_245) d249
              have k_254 : CB F G G249 := CB.tr (show CB F G G242 from k_246) (show sN F ≤ sN F242 from k_245) e249
              have k_255 : PKp F G G249 := PKp.tr (show PKp F G G242 from k_247) c249 (show F242 70 = F 70 from k_243)
              unfold mb_element_77
              refine PP.ite (fun c_256 => absurd c_256 (by decide)) (fun _ => ?_)
              unfold mb_element_80
              refine PP.bind (mw_closeSign (25 : Int32) F249 G249) ?_
              intro r257 F257 G257 hK257
              dsimp only
              have k_258 : F257 70 = F 70 := (hK257.1 70 rfl).trans (show F249 70 = F 70 from k_251)
              have k_259 : 0 ≤ (F257 60).toInt := by rw [hK257.1 60 rfl]; exact (show 0 ≤ (F249 60).toInt from k_252)
              have k_260 : sN F ≤ sN F257 := S_eq (show sN F ≤ sN F249 from k_253) (hK257.1 60 rfl)
              have k_261 : CB F G G257 := CB.kx (show CB F G G249 from k_254) hK257 rfl rfl rfl rfl
              have k_262 : PKp F G G257 := PKp.kx (show PKp F G G249 from k_255) hK257 rfl rfl
              unfold mb_element_86
              refine PP.ite (fun c_263 => ?_) (fun c_263 => ?_)
              · skip
                unfold mb_element_89
                refine PP.ret ?_
                exact ⟨Or.inl rfl, fun h => absurd h (by decide)⟩
              · skip
                unfold mb_element_91
                refine PP.bind (mq_step (6 : Int32) (G 20 x1.toNatClampNeg) (1 : Int32) F257 G257) ?_
                rintro _ F264 G264 ⟨hK264, rfl, e264, g264, n264⟩
                dsimp only
                have k_265 : F264 70 = F 70 := (hK264.1 70 rfl).trans (show F257 70 = F 70 from k_258)
                have k_266 : 0 ≤ (F264 60).toInt := inc60 n264 e264
                have k_267 : sN F ≤ sN F264 := S_st (show sN F ≤ sN F257 from k_260) n264 e264
                have k_268 : CB F G G264 := CB.stp (show CB F G G257 from k_261) (show sN F ≤ sN F257 from k_260) g264
                have k_269 : PKp F G G264 := PKp.kx (show PKp F G G257 from k_262) hK264 rfl rfl
                unfold mb_element_100
                refine PP.ite (fun c_270 => absurd c_270 (by decide)) (fun _ => ?_)
                unfold mb_element_116
                unfold mb_element_121
                refine PP.ix (fun _ => ?_)
                unfold mb_element_123
                refine PP.ret ?_
                exact ⟨Or.inr rfl, fun _ => ⟨(show F264 70 = F 70 from k_265), (show 0 ≤ (F264 60).toInt from k_266), (show PKp F G (gup G264 59 (F257 60).toNatClampNeg (((2 : Int32) * (G 6 (F 42).toNatClampNeg)) + (1 : Int32))) from k_269), (show sN F ≤ sN F264 from k_267), (show CB F G (gup G264 59 (F257 60).toNatClampNeg (((2 : Int32) * (G 6 (F 42).toNatClampNeg)) + (1 : Int32))) from (CB.g59 (p := sN F257) k_268 k_260))⟩⟩
    · skip
      unfold mb_element_35
      refine PP.ix (fun _ => ?_)
      unfold mb_element_41
      refine PP.ite (fun c_271 => ?_) (fun c_271 => ?_)
      · skip
        unfold mb_element_61
        unfold mb_element_62
        refine PP.bind (mw_openSign (24 : Int32) F G) ?_
        intro r272 F272 G272 hK272
        dsimp only
        have k_273 : F272 70 = F 70 := (hK272.1 70 rfl).trans (show F 70 = F 70 from (rfl : F 70 = F 70))
        have k_274 : 0 ≤ (F272 60).toInt := by rw [hK272.1 60 rfl]; exact (show 0 ≤ (F 60).toInt from t60)
        have k_275 : sN F ≤ sN F272 := S_eq (show sN F ≤ sN F from (Nat.le_refl _ : sN F ≤ sN F)) (hK272.1 60 rfl)
        have k_276 : CB F G G272 := CB.kx (show CB F G G from (fun _ _ => cEq.rf : CB F G G)) hK272 rfl rfl rfl rfl
        have k_277 : PKp F G G272 := PKp.kx (show PKp F G G from (fun _ _ => ⟨rfl, rfl⟩ : PKp F G G)) hK272 rfl rfl
        unfold mb_element_70
        refine PP.ite (fun c_278 => ?_) (fun c_278 => ?_)
        · skip
          unfold mb_element_89
          refine PP.ret ?_
          exact ⟨Or.inl rfl, fun h => absurd h (by decide)⟩
        · skip
          unfold mb_element_73
          refine PP.bind (ihC 4 0 0 F272 G272 (show 0 ≤ (F272 60).toInt from k_274) (by rw [(show F272 70 = F 70 from k_273)]; exact t70)) ?_
          rintro r279 F279 G279 ⟨(rfl | rfl), u279⟩
          · dsimp only
            unfold mb_element_77
            refine PP.ite (fun _ => ?_) (fun c_280 => absurd (by decide) c_280)
            unfold mb_element_89
            refine PP.ret ?_
            exact ⟨Or.inl rfl, fun h => absurd h (by decide)⟩
          · dsimp only
            obtain ⟨a279, b279, c279, d279, e279⟩ := u279 rfl
            have k_281 : F279 70 = F 70 := a279.trans (show F272 70 = F 70 from k_273)
            have k_282 : 0 ≤ (F279 60).toInt := b279
            have k_283 : sN F ≤ sN F279 := Nat.le_trans (show sN F ≤ sN F272 from k_275) d279
            have k_284 : CB F G G279 := CB.tr (show CB F G G272 from k_276) (show sN F ≤ sN F272 from k_275) e279
            have k_285 : PKp F G G279 := PKp.tr (show PKp F G G272 from k_277) c279 (show F272 70 = F 70 from k_273)
            unfold mb_element_77
            refine PP.ite (fun c_286 => absurd c_286 (by decide)) (fun _ => ?_)
            unfold mb_element_80
            refine PP.bind (mw_closeSign (25 : Int32) F279 G279) ?_
            intro r287 F287 G287 hK287
            dsimp only
            have k_288 : F287 70 = F 70 := (hK287.1 70 rfl).trans (show F279 70 = F 70 from k_281)
            have k_289 : 0 ≤ (F287 60).toInt := by rw [hK287.1 60 rfl]; exact (show 0 ≤ (F279 60).toInt from k_282)
            have k_290 : sN F ≤ sN F287 := S_eq (show sN F ≤ sN F279 from k_283) (hK287.1 60 rfl)
            have k_291 : CB F G G287 := CB.kx (show CB F G G279 from k_284) hK287 rfl rfl rfl rfl
            have k_292 : PKp F G G287 := PKp.kx (show PKp F G G279 from k_285) hK287 rfl rfl
            unfold mb_element_86
            refine PP.ite (fun c_293 => ?_) (fun c_293 => ?_)
            · skip
              unfold mb_element_89
              refine PP.ret ?_
              exact ⟨Or.inl rfl, fun h => absurd h (by decide)⟩
            · skip
              unfold mb_element_91
              refine PP.bind (mq_step (6 : Int32) (G 20 x1.toNatClampNeg) (G 21 x1.toNatClampNeg) F287 G287) ?_
              rintro _ F294 G294 ⟨hK294, rfl, e294, g294, n294⟩
              dsimp only
              have k_295 : F294 70 = F 70 := (hK294.1 70 rfl).trans (show F287 70 = F 70 from k_288)
              have k_296 : 0 ≤ (F294 60).toInt := inc60 n294 e294
              have k_297 : sN F ≤ sN F294 := S_st (show sN F ≤ sN F287 from k_290) n294 e294
              have k_298 : CB F G G294 := CB.stp (show CB F G G287 from k_291) (show sN F ≤ sN F287 from k_290) g294
              have k_299 : PKp F G G294 := PKp.kx (show PKp F G G287 from k_292) hK294 rfl rfl
              unfold mb_element_100
              refine PP.ite (fun _ => ?_) (fun c_300 => absurd (by decide) c_300)
              unfold mb_element_120
              unfold mb_element_121
              refine PP.ix (fun _ => ?_)
              unfold mb_element_123
              refine PP.ret ?_
              exact ⟨Or.inr rfl, fun _ => ⟨(show F294 70 = F 70 from k_295), (show 0 ≤ (F294 60).toInt from k_296), (show PKp F G (gup G294 59 (F287 60).toNatClampNeg (((2 : Int32) * (G 6 (F 42).toNatClampNeg)) + (0 : Int32))) from k_299), (show sN F ≤ sN F294 from k_297), (show CB F G (gup G294 59 (F287 60).toNatClampNeg (((2 : Int32) * (G 6 (F 42).toNatClampNeg)) + (0 : Int32))) from (CB.g59 (p := sN F287) k_298 k_290))⟩⟩
      · skip
        unfold mb_element_48
        refine PP.ix (fun _ => ?_)
        refine PP.ite (fun c_301 => ?_) (fun c_301 => ?_)
        · skip
          unfold mb_element_61
          unfold mb_element_62
          refine PP.bind (mw_openSign (24 : Int32) F G) ?_
          intro r302 F302 G302 hK302
          dsimp only
          have k_303 : F302 70 = F 70 := (hK302.1 70 rfl).trans (show F 70 = F 70 from (rfl : F 70 = F 70))
          have k_304 : 0 ≤ (F302 60).toInt := by rw [hK302.1 60 rfl]; exact (show 0 ≤ (F 60).toInt from t60)
          have k_305 : sN F ≤ sN F302 := S_eq (show sN F ≤ sN F from (Nat.le_refl _ : sN F ≤ sN F)) (hK302.1 60 rfl)
          have k_306 : CB F G G302 := CB.kx (show CB F G G from (fun _ _ => cEq.rf : CB F G G)) hK302 rfl rfl rfl rfl
          have k_307 : PKp F G G302 := PKp.kx (show PKp F G G from (fun _ _ => ⟨rfl, rfl⟩ : PKp F G G)) hK302 rfl rfl
          unfold mb_element_70
          refine PP.ite (fun c_308 => ?_) (fun c_308 => ?_)
          · skip
            unfold mb_element_89
            refine PP.ret ?_
            exact ⟨Or.inl rfl, fun h => absurd h (by decide)⟩
          · skip
            unfold mb_element_73
            refine PP.bind (ihC 4 0 0 F302 G302 (show 0 ≤ (F302 60).toInt from k_304) (by rw [(show F302 70 = F 70 from k_303)]; exact t70)) ?_
            rintro r309 F309 G309 ⟨(rfl | rfl), u309⟩
            · dsimp only
              unfold mb_element_77
              refine PP.ite (fun _ => ?_) (fun c_310 => absurd (by decide) c_310)
              unfold mb_element_89
              refine PP.ret ?_
              exact ⟨Or.inl rfl, fun h => absurd h (by decide)⟩
            · dsimp only
              obtain ⟨a309, b309, c309, d309, e309⟩ := u309 rfl
              have k_311 : F309 70 = F 70 := a309.trans (show F302 70 = F 70 from k_303)
              have k_312 : 0 ≤ (F309 60).toInt := b309
              have k_313 : sN F ≤ sN F309 := Nat.le_trans (show sN F ≤ sN F302 from k_305) d309
              have k_314 : CB F G G309 := CB.tr (show CB F G G302 from k_306) (show sN F ≤ sN F302 from k_305) e309
              have k_315 : PKp F G G309 := PKp.tr (show PKp F G G302 from k_307) c309 (show F302 70 = F 70 from k_303)
              unfold mb_element_77
              refine PP.ite (fun c_316 => absurd c_316 (by decide)) (fun _ => ?_)
              unfold mb_element_80
              refine PP.bind (mw_closeSign (25 : Int32) F309 G309) ?_
              intro r317 F317 G317 hK317
              dsimp only
              have k_318 : F317 70 = F 70 := (hK317.1 70 rfl).trans (show F309 70 = F 70 from k_311)
              have k_319 : 0 ≤ (F317 60).toInt := by rw [hK317.1 60 rfl]; exact (show 0 ≤ (F309 60).toInt from k_312)
              have k_320 : sN F ≤ sN F317 := S_eq (show sN F ≤ sN F309 from k_313) (hK317.1 60 rfl)
              have k_321 : CB F G G317 := CB.kx (show CB F G G309 from k_314) hK317 rfl rfl rfl rfl
              have k_322 : PKp F G G317 := PKp.kx (show PKp F G G309 from k_315) hK317 rfl rfl
              unfold mb_element_86
              refine PP.ite (fun c_323 => ?_) (fun c_323 => ?_)
              · skip
                unfold mb_element_89
                refine PP.ret ?_
                exact ⟨Or.inl rfl, fun h => absurd h (by decide)⟩
              · skip
                unfold mb_element_91
                refine PP.bind (mq_step (6 : Int32) (G 20 x1.toNatClampNeg) (G 21 x1.toNatClampNeg) F317 G317) ?_
                rintro _ F324 G324 ⟨hK324, rfl, e324, g324, n324⟩
                dsimp only
                have k_325 : F324 70 = F 70 := (hK324.1 70 rfl).trans (show F317 70 = F 70 from k_318)
                have k_326 : 0 ≤ (F324 60).toInt := inc60 n324 e324
                have k_327 : sN F ≤ sN F324 := S_st (show sN F ≤ sN F317 from k_320) n324 e324
                have k_328 : CB F G G324 := CB.stp (show CB F G G317 from k_321) (show sN F ≤ sN F317 from k_320) g324
                have k_329 : PKp F G G324 := PKp.kx (show PKp F G G317 from k_322) hK324 rfl rfl
                unfold mb_element_100
                refine PP.ite (fun _ => ?_) (fun c_330 => absurd (by decide) c_330)
                unfold mb_element_120
                unfold mb_element_121
                refine PP.ix (fun _ => ?_)
                unfold mb_element_123
                refine PP.ret ?_
                exact ⟨Or.inr rfl, fun _ => ⟨(show F324 70 = F 70 from k_325), (show 0 ≤ (F324 60).toInt from k_326), (show PKp F G (gup G324 59 (F317 60).toNatClampNeg (((2 : Int32) * (G 6 (F 42).toNatClampNeg)) + (0 : Int32))) from k_329), (show sN F ≤ sN F324 from k_327), (show CB F G (gup G324 59 (F317 60).toNatClampNeg (((2 : Int32) * (G 6 (F 42).toNatClampNeg)) + (0 : Int32))) from (CB.g59 (p := sN F317) k_328 k_320))⟩⟩
        · skip
          unfold mb_element_57
          unfold mb_element_62
          refine PP.bind (mw_openSign (24 : Int32) F G) ?_
          intro r331 F331 G331 hK331
          dsimp only
          have k_332 : F331 70 = F 70 := (hK331.1 70 rfl).trans (show F 70 = F 70 from (rfl : F 70 = F 70))
          have k_333 : 0 ≤ (F331 60).toInt := by rw [hK331.1 60 rfl]; exact (show 0 ≤ (F 60).toInt from t60)
          have k_334 : sN F ≤ sN F331 := S_eq (show sN F ≤ sN F from (Nat.le_refl _ : sN F ≤ sN F)) (hK331.1 60 rfl)
          have k_335 : CB F G G331 := CB.kx (show CB F G G from (fun _ _ => cEq.rf : CB F G G)) hK331 rfl rfl rfl rfl
          have k_336 : PKp F G G331 := PKp.kx (show PKp F G G from (fun _ _ => ⟨rfl, rfl⟩ : PKp F G G)) hK331 rfl rfl
          unfold mb_element_70
          refine PP.ite (fun c_337 => ?_) (fun c_337 => ?_)
          · skip
            unfold mb_element_89
            refine PP.ret ?_
            exact ⟨Or.inl rfl, fun h => absurd h (by decide)⟩
          · skip
            unfold mb_element_73
            refine PP.bind (ihC 4 0 0 F331 G331 (show 0 ≤ (F331 60).toInt from k_333) (by rw [(show F331 70 = F 70 from k_332)]; exact t70)) ?_
            rintro r338 F338 G338 ⟨(rfl | rfl), u338⟩
            · dsimp only
              unfold mb_element_77
              refine PP.ite (fun _ => ?_) (fun c_339 => absurd (by decide) c_339)
              unfold mb_element_89
              refine PP.ret ?_
              exact ⟨Or.inl rfl, fun h => absurd h (by decide)⟩
            · dsimp only
              obtain ⟨a338, b338, c338, d338, e338⟩ := u338 rfl
              have k_340 : F338 70 = F 70 := a338.trans (show F331 70 = F 70 from k_332)
              have k_341 : 0 ≤ (F338 60).toInt := b338
              have k_342 : sN F ≤ sN F338 := Nat.le_trans (show sN F ≤ sN F331 from k_334) d338
              have k_343 : CB F G G338 := CB.tr (show CB F G G331 from k_335) (show sN F ≤ sN F331 from k_334) e338
              have k_344 : PKp F G G338 := PKp.tr (show PKp F G G331 from k_336) c338 (show F331 70 = F 70 from k_332)
              unfold mb_element_77
              refine PP.ite (fun c_345 => absurd c_345 (by decide)) (fun _ => ?_)
              unfold mb_element_80
              refine PP.bind (mw_closeSign (25 : Int32) F338 G338) ?_
              intro r346 F346 G346 hK346
              dsimp only
              have k_347 : F346 70 = F 70 := (hK346.1 70 rfl).trans (show F338 70 = F 70 from k_340)
              have k_348 : 0 ≤ (F346 60).toInt := by rw [hK346.1 60 rfl]; exact (show 0 ≤ (F338 60).toInt from k_341)
              have k_349 : sN F ≤ sN F346 := S_eq (show sN F ≤ sN F338 from k_342) (hK346.1 60 rfl)
              have k_350 : CB F G G346 := CB.kx (show CB F G G338 from k_343) hK346 rfl rfl rfl rfl
              have k_351 : PKp F G G346 := PKp.kx (show PKp F G G338 from k_344) hK346 rfl rfl
              unfold mb_element_86
              refine PP.ite (fun c_352 => ?_) (fun c_352 => ?_)
              · skip
                unfold mb_element_89
                refine PP.ret ?_
                exact ⟨Or.inl rfl, fun h => absurd h (by decide)⟩
              · skip
                unfold mb_element_91
                refine PP.bind (mq_step (6 : Int32) (G 20 x1.toNatClampNeg) (G 21 x1.toNatClampNeg) F346 G346) ?_
                rintro _ F353 G353 ⟨hK353, rfl, e353, g353, n353⟩
                dsimp only
                have k_354 : F353 70 = F 70 := (hK353.1 70 rfl).trans (show F346 70 = F 70 from k_347)
                have k_355 : 0 ≤ (F353 60).toInt := inc60 n353 e353
                have k_356 : sN F ≤ sN F353 := S_st (show sN F ≤ sN F346 from k_349) n353 e353
                have k_357 : CB F G G353 := CB.stp (show CB F G G346 from k_350) (show sN F ≤ sN F346 from k_349) g353
                have k_358 : PKp F G G353 := PKp.kx (show PKp F G G346 from k_351) hK353 rfl rfl
                unfold mb_element_100
                refine PP.ite (fun c_359 => absurd c_359 (by decide)) (fun _ => ?_)
                unfold mb_element_116
                unfold mb_element_121
                refine PP.ix (fun _ => ?_)
                unfold mb_element_123
                refine PP.ret ?_
                exact ⟨Or.inr rfl, fun _ => ⟨(show F353 70 = F 70 from k_354), (show 0 ≤ (F353 60).toInt from k_355), (show PKp F G (gup G353 59 (F346 60).toNatClampNeg (((2 : Int32) * (G 6 (F 42).toNatClampNeg)) + (1 : Int32))) from k_358), (show sN F ≤ sN F353 from k_356), (show CB F G (gup G353 59 (F346 60).toNatClampNeg (((2 : Int32) * (G 6 (F 42).toNatClampNeg)) + (1 : Int32))) from (CB.g59 (p := sN F346) k_357 k_349))⟩⟩
theorem mct_expression {fu : Nat} (rc : RC) (ihC : mCI rc) (F : PF) (G : PG) (t60 : 0 ≤ (F 60).toInt) (t70 : 0 ≤ (F 70).toInt) : PP (mh_expression fu rc F G) (fun r' F' G' => CQ F G r' F' G') := by
  unfold mh_expression
  unfold mb_expression_0
  refine PP.bind (ihC 2 0 0 F G (show 0 ≤ (F 60).toInt from t60) (by rw [(show F 70 = F 70 from (rfl : F 70 = F 70))]; exact t70)) ?_
  rintro r1 F1 G1 ⟨(rfl | rfl), u1⟩
  · dsimp only
    unfold mb_expression_4
    refine PP.ite (fun _ => ?_) (fun c_2 => absurd (by decide) c_2)
    unfold mb_expression_7
    refine PP.ret ?_
    exact ⟨Or.inl rfl, fun h => absurd h (by decide)⟩
  · dsimp only
    obtain ⟨a1, b1, c1, d1, e1⟩ := u1 rfl
    have k_3 : F1 70 = F 70 := a1.trans (show F 70 = F 70 from (rfl : F 70 = F 70))
    have k_4 : 0 ≤ (F1 60).toInt := b1
    have k_5 : sN F ≤ sN F1 := Nat.le_trans (show sN F ≤ sN F from (Nat.le_refl _ : sN F ≤ sN F)) d1
    have k_6 : CB F G G1 := CB.tr (show CB F G G from (fun _ _ => cEq.rf : CB F G G)) (show sN F ≤ sN F from (Nat.le_refl _ : sN F ≤ sN F)) e1
    have k_7 : PKp F G G1 := PKp.tr (show PKp F G G from (fun _ _ => ⟨rfl, rfl⟩ : PKp F G G)) c1 (show F 70 = F 70 from (rfl : F 70 = F 70))
    unfold mb_expression_4
    refine PP.ite (fun c_8 => absurd c_8 (by decide)) (fun _ => ?_)
    unfold mb_expression_9
    refine PP.bind (mp_isSign (30 : Int32) F1 G1) ?_
    rintro _ _ _ ⟨rfl, rfl, (⟨rfl, -⟩ | ⟨rfl, -⟩)⟩
    · dsimp only
      unfold mb_expression_15
      refine PP.ite (fun c_10 => absurd c_10 (by decide)) (fun _ => ?_)
      unfold mb_expression_20
      refine PP.bind (mw_opens F1 G1) ?_
      intro r11 F11 G11 hK11
      dsimp only
      have k_12 : F11 70 = F 70 := (hK11.1 70 rfl).trans (show F1 70 = F 70 from k_3)
      have k_13 : 0 ≤ (F11 60).toInt := by rw [hK11.1 60 rfl]; exact (show 0 ≤ (F1 60).toInt from k_4)
      have k_14 : sN F ≤ sN F11 := S_eq (show sN F ≤ sN F1 from k_5) (hK11.1 60 rfl)
      have k_15 : CB F G G11 := CB.kx (show CB F G G1 from k_6) hK11 rfl rfl rfl rfl
      have k_16 : PKp F G G11 := PKp.kx (show PKp F G G1 from k_7) hK11 rfl rfl
      unfold mb_expression_24
      refine PP.ite (fun c_17 => ?_) (fun c_17 => ?_)
      · skip
        unfold mb_expression_27
        refine PP.ret ?_
        exact ⟨Or.inl rfl, fun h => absurd h (by decide)⟩
      · skip
        unfold mb_expression_29
        refine PP.bind (mq_step (13 : Int32) (0 : Int32) (0 : Int32) F11 G11) ?_
        rintro _ F18 G18 ⟨hK18, rfl, e18, g18, n18⟩
        dsimp only
        have k_19 : F18 70 = F 70 := (hK18.1 70 rfl).trans (show F11 70 = F 70 from k_12)
        have k_20 : 0 ≤ (F18 60).toInt := inc60 n18 e18
        have k_21 : sN F ≤ sN F18 := S_st (show sN F ≤ sN F11 from k_14) n18 e18
        have k_22 : CB F G G18 := CB.stp (show CB F G G11 from k_15) (show sN F ≤ sN F11 from k_14) g18
        have k_23 : PKp F G G18 := PKp.kx (show PKp F G G11 from k_16) hK18 rfl rfl
        unfold mb_expression_37
        refine PP.bind (ihC 4 0 0 F18 G18 (show 0 ≤ (F18 60).toInt from k_20) (by rw [(show F18 70 = F 70 from k_19)]; exact t70)) ?_
        rintro r24 F24 G24 ⟨(rfl | rfl), u24⟩
        · dsimp only
          unfold mb_expression_42
          refine PP.ite (fun _ => ?_) (fun c_25 => absurd (by decide) c_25)
          unfold mb_expression_54
          refine PP.ret ?_
          exact ⟨Or.inl rfl, fun h => absurd h (by decide)⟩
        · dsimp only
          obtain ⟨a24, b24, c24, d24, e24⟩ := u24 rfl
          have k_26 : F24 70 = F 70 := a24.trans (show F18 70 = F 70 from k_19)
          have k_27 : 0 ≤ (F24 60).toInt := b24
          have k_28 : sN F ≤ sN F24 := Nat.le_trans (show sN F ≤ sN F18 from k_21) d24
          have k_29 : CB F G G24 := CB.tr (show CB F G G18 from k_22) (show sN F ≤ sN F18 from k_21) e24
          have k_30 : PKp F G G24 := PKp.tr (show PKp F G G18 from k_23) c24 (show F18 70 = F 70 from k_19)
          unfold mb_expression_42
          refine PP.ite (fun c_31 => absurd c_31 (by decide)) (fun _ => ?_)
          unfold mb_expression_45
          refine PP.bind (mw_sign (31 : Int32) F24 G24) ?_
          intro r32 F32 G32 hK32
          dsimp only
          have k_33 : F32 70 = F 70 := (hK32.1 70 rfl).trans (show F24 70 = F 70 from k_26)
          have k_34 : 0 ≤ (F32 60).toInt := by rw [hK32.1 60 rfl]; exact (show 0 ≤ (F24 60).toInt from k_27)
          have k_35 : sN F ≤ sN F32 := S_eq (show sN F ≤ sN F24 from k_28) (hK32.1 60 rfl)
          have k_36 : CB F G G32 := CB.kx (show CB F G G24 from k_29) hK32 rfl rfl rfl rfl
          have k_37 : PKp F G G32 := PKp.kx (show PKp F G G24 from k_30) hK32 rfl rfl
          unfold mb_expression_51
          refine PP.ite (fun c_38 => ?_) (fun c_38 => ?_)
          · skip
            unfold mb_expression_54
            refine PP.ret ?_
            exact ⟨Or.inl rfl, fun h => absurd h (by decide)⟩
          · skip
            unfold mb_expression_56
            refine PP.bind (mq_step (12 : Int32) (0 : Int32) (0 : Int32) F32 G32) ?_
            rintro _ F39 G39 ⟨hK39, rfl, e39, g39, n39⟩
            dsimp only
            have k_40 : F39 70 = F 70 := (hK39.1 70 rfl).trans (show F32 70 = F 70 from k_33)
            have k_41 : 0 ≤ (F39 60).toInt := inc60 n39 e39
            have k_42 : sN F ≤ sN F39 := S_st (show sN F ≤ sN F32 from k_35) n39 e39
            have k_43 : CB F G G39 := CB.stp (show CB F G G32 from k_36) (show sN F ≤ sN F32 from k_35) g39
            have k_44 : PKp F G G39 := PKp.kx (show PKp F G G32 from k_37) hK39 rfl rfl
            unfold mb_expression_64
            refine PP.ix (fun _ => ?_)
            unfold mb_expression_75
            refine PP.bind (ihC 4 0 0 F39 (gup G39 57 (F11 60).toNatClampNeg (F39 60)) (show 0 ≤ (F39 60).toInt from k_41) (by rw [(show F39 70 = F 70 from k_40)]; exact t70)) ?_
            rintro r45 F45 G45 ⟨(rfl | rfl), u45⟩
            · dsimp only
              unfold mb_expression_79
              refine PP.ite (fun _ => ?_) (fun c_46 => absurd (by decide) c_46)
              unfold mb_expression_82
              refine PP.ret ?_
              exact ⟨Or.inl rfl, fun h => absurd h (by decide)⟩
            · dsimp only
              obtain ⟨a45, b45, c45, d45, e45⟩ := u45 rfl
              have k_47 : F45 70 = F 70 := a45.trans (show F39 70 = F 70 from k_40)
              have k_48 : 0 ≤ (F45 60).toInt := b45
              have k_49 : sN F ≤ sN F45 := Nat.le_trans (show sN F ≤ sN F39 from k_42) d45
              have k_50 : CB F G G45 := CB.tr (show CB F G (gup G39 57 (F11 60).toNatClampNeg (F39 60)) from (CB.g57 (p := sN F11) k_43 k_14)) (show sN F ≤ sN F39 from k_42) e45
              have k_51 : PKp F G G45 := PKp.tr (show PKp F G (gup G39 57 (F11 60).toNatClampNeg (F39 60)) from k_44) c45 (show F39 70 = F 70 from k_40)
              unfold mb_expression_79
              refine PP.ite (fun c_52 => absurd c_52 (by decide)) (fun _ => ?_)
              unfold mb_expression_84
              refine PP.ix (fun _ => ?_)
              unfold mb_expression_94
              unfold mb_expression_104
              refine PP.ret ?_
              exact ⟨Or.inr rfl, fun _ => ⟨(show (fup F45 43 ((F45 43) - (1 : Int32))) 70 = F 70 from k_47), (show 0 ≤ ((fup F45 43 ((F45 43) - (1 : Int32))) 60).toInt from k_48), (show PKp F G (gup G45 57 (F32 60).toNatClampNeg (F45 60)) from k_51), (show sN F ≤ sN (fup F45 43 ((F45 43) - (1 : Int32))) from k_49), (show CB F G (gup G45 57 (F32 60).toNatClampNeg (F45 60)) from (CB.g57 (p := sN F32) k_50 k_35))⟩⟩
    · dsimp only
      unfold mb_expression_15
      refine PP.ite (fun _ => ?_) (fun c_53 => absurd (by decide) c_53)
      unfold mb_expression_18
      refine PP.ret ?_
      exact ⟨Or.inr rfl, fun _ => ⟨(show F1 70 = F 70 from k_3), (show 0 ≤ (F1 60).toInt from k_4), (show PKp F G G1 from k_7), (show sN F ≤ sN F1 from k_5), (show CB F G G1 from k_6)⟩⟩
theorem mcj_inConstant_248 {fu : Nat} (rc : RC) (ihC : mCI rc) {F0 : PF} {G0 : PG} (t70 : 0 ≤ (F0 70).toInt) (F : PF) (G : PG) (hA : F 70 = F0 70 ∧ 0 ≤ (F 60).toInt ∧ PKp F0 G0 G ∧ sN F0 ≤ sN F ∧ CB F0 G0 G) : PP (mb_inConstant_248 fu rc F G) (fun r' F' G' => CQ F0 G0 r' F' G') := by
  obtain ⟨hE, h6, hP, hS, hC⟩ := hA
  unfold mb_inConstant_248
  refine PP.ret ?_
  exact ⟨Or.inr rfl, fun _ => ⟨(show F 70 = F0 70 from hE), (show 0 ≤ (F 60).toInt from h6), (show PKp F0 G0 G from hP), (show sN F0 ≤ sN F from hS), (show CB F0 G0 G from hC)⟩⟩
theorem mcj_inConstant_243 {fu : Nat} (rc : RC) (ihC : mCI rc) {F0 : PF} {G0 : PG} (t70 : 0 ≤ (F0 70).toInt) (z0 : Int32) (z1 : Int32) (F : PF) (G : PG) (hA : F 70 = F0 70 ∧ 0 ≤ (F 60).toInt ∧ PKp F0 G0 G ∧ sN F0 ≤ sN F ∧ CB F0 G0 G) : PP (mb_inConstant_243 fu rc z0 z1 F G) (fun r' F' G' => CQ F0 G0 r' F' G') := by
  obtain ⟨hE, h6, hP, hS, hC⟩ := hA
  unfold mb_inConstant_243
  refine PP.bind (mq_step z1 z0 (0 : Int32) F G) ?_
  rintro _ F1 G1 ⟨hK1, rfl, e1, g1, n1⟩
  dsimp only
  have k_2 : F1 70 = F0 70 := (hK1.1 70 rfl).trans (show F 70 = F0 70 from hE)
  have k_3 : 0 ≤ (F1 60).toInt := inc60 n1 e1
  have k_4 : sN F0 ≤ sN F1 := S_st (show sN F0 ≤ sN F from hS) n1 e1
  have k_5 : CB F0 G0 G1 := CB.stp (show CB F0 G0 G from hC) (show sN F0 ≤ sN F from hS) g1
  have k_6 : PKp F0 G0 G1 := PKp.kx (show PKp F0 G0 G from hP) hK1 rfl rfl
  unfold mb_inConstant_247
  exact mcj_inConstant_248 rc ihC t70 F1 G1 ⟨(show F1 70 = F0 70 from k_2), (show 0 ≤ (F1 60).toInt from k_3), (show PKp F0 G0 G1 from k_6), (show sN F0 ≤ sN F1 from k_4), (show CB F0 G0 G1 from k_5)⟩
theorem mcj_inConstant_221 {fu : Nat} (rc : RC) (ihC : mCI rc) {F0 : PF} {G0 : PG} (t70 : 0 ≤ (F0 70).toInt) (x2 : Int32) (x4 : Int32) (x5 : Int32) (F : PF) (G : PG) (hA : F 70 = F0 70 ∧ 0 ≤ (F 60).toInt ∧ PKp F0 G0 G ∧ sN F0 ≤ sN F ∧ CB F0 G0 G) : PP (mb_inConstant_221 fu rc x2 x4 x5 F G) (fun r' F' G' => CQ F0 G0 r' F' G') := by
  obtain ⟨hE, h6, hP, hS, hC⟩ := hA
  unfold mb_inConstant_221
  refine PP.ite (fun c_1 => ?_) (fun c_1 => ?_)
  · skip
    unfold mb_inConstant_226
    refine PP.ite (fun c_2 => ?_) (fun c_2 => ?_)
    · skip
      unfold mb_inConstant_242
      exact mcj_inConstant_243 rc ihC t70 (0 : Int32) (0 : Int32) F G ⟨(show F 70 = F0 70 from hE), (show 0 ≤ (F 60).toInt from h6), (show PKp F0 G0 G from hP), (show sN F0 ≤ sN F from hS), (show CB F0 G0 G from hC)⟩
    · skip
      unfold mb_inConstant_233
      refine PP.ix (fun _ => ?_)
      exact mcj_inConstant_243 rc ihC t70 (G 20 x2.toNatClampNeg) (0 : Int32) F G ⟨(show F 70 = F0 70 from hE), (show 0 ≤ (F 60).toInt from h6), (show PKp F0 G0 G from hP), (show sN F0 ≤ sN F from hS), (show CB F0 G0 G from hC)⟩
  · skip
    exact mcj_inConstant_248 rc ihC t70 F G ⟨(show F 70 = F0 70 from hE), (show 0 ≤ (F 60).toInt from h6), (show PKp F0 G0 G from hP), (show sN F0 ≤ sN F from hS), (show CB F0 G0 G from hC)⟩
theorem mcj_inConstant_182 {fu : Nat} (rc : RC) (ihC : mCI rc) {F0 : PF} {G0 : PG} (t70 : 0 ≤ (F0 70).toInt) (x2 : Int32) (x4 : Int32) (x5 : Int32) (F : PF) (G : PG) (hA : F 70 = F0 70 ∧ 0 ≤ (F 60).toInt ∧ PKp F0 G0 G ∧ sN F0 ≤ sN F ∧ CB F0 G0 G) : PP (mb_inConstant_182 fu rc x2 x4 x5 F G) (fun r' F' G' => CQ F0 G0 r' F' G') := by
  obtain ⟨hE, h6, hP, hS, hC⟩ := hA
  unfold mb_inConstant_182
  refine PP.bind (mp_isSign (24 : Int32) F G) ?_
  rintro _ _ _ ⟨rfl, rfl, (⟨rfl, -⟩ | ⟨rfl, -⟩)⟩
  · dsimp only
    unfold mb_inConstant_188
    refine PP.ite (fun c_2 => absurd c_2 (by decide)) (fun _ => ?_)
    unfold mb_inConstant_191
    refine PP.ite (fun c_3 => ?_) (fun c_3 => ?_)
    · skip
      exact mcj_inConstant_221 rc ihC t70 x2 x4 x5 F G ⟨(show F 70 = F0 70 from hE), (show 0 ≤ (F 60).toInt from h6), (show PKp F0 G0 G from hP), (show sN F0 ≤ sN F from hS), (show CB F0 G0 G from hC)⟩
    · skip
      unfold mb_inConstant_196
      refine PP.ix (fun _ => ?_)
      refine PP.ite (fun c_4 => ?_) (fun c_4 => ?_)
      · skip
        unfold mb_inConstant_211
        refine PP.bind (ihC 3 (-1 : Int32) 0 F G (show 0 ≤ (F 60).toInt from h6) (by rw [(show F 70 = F0 70 from hE)]; exact t70)) ?_
        rintro r5 F5 G5 ⟨(rfl | rfl), u5⟩
        · dsimp only
          unfold mb_inConstant_216
          refine PP.ite (fun _ => ?_) (fun c_6 => absurd (by decide) c_6)
          unfold mb_inConstant_219
          refine PP.ret ?_
          exact ⟨Or.inl rfl, fun h => absurd h (by decide)⟩
        · dsimp only
          obtain ⟨a5, b5, c5, d5, e5⟩ := u5 rfl
          have k_7 : F5 70 = F0 70 := a5.trans (show F 70 = F0 70 from hE)
          have k_8 : 0 ≤ (F5 60).toInt := b5
          have k_9 : sN F0 ≤ sN F5 := Nat.le_trans (show sN F0 ≤ sN F from hS) d5
          have k_10 : CB F0 G0 G5 := CB.tr (show CB F0 G0 G from hC) (show sN F0 ≤ sN F from hS) e5
          have k_11 : PKp F0 G0 G5 := PKp.tr (show PKp F0 G0 G from hP) c5 (show F 70 = F0 70 from hE)
          unfold mb_inConstant_216
          refine PP.ite (fun c_12 => absurd c_12 (by decide)) (fun _ => ?_)
          exact mcj_inConstant_221 rc ihC t70 x2 x4 x5 F5 G5 ⟨(show F5 70 = F0 70 from k_7), (show 0 ≤ (F5 60).toInt from k_8), (show PKp F0 G0 G5 from k_11), (show sN F0 ≤ sN F5 from k_9), (show CB F0 G0 G5 from k_10)⟩
      · skip
        exact mcj_inConstant_221 rc ihC t70 x2 x4 x5 F G ⟨(show F 70 = F0 70 from hE), (show 0 ≤ (F 60).toInt from h6), (show PKp F0 G0 G from hP), (show sN F0 ≤ sN F from hS), (show CB F0 G0 G from hC)⟩
  · dsimp only
    unfold mb_inConstant_188
    refine PP.ite (fun _ => ?_) (fun c_13 => absurd (by decide) c_13)
    exact mcj_inConstant_221 rc ihC t70 x2 x4 x5 F G ⟨(show F 70 = F0 70 from hE), (show 0 ≤ (F 60).toInt from h6), (show PKp F0 G0 G from hP), (show sN F0 ≤ sN F from hS), (show CB F0 G0 G from hC)⟩
theorem mcj_inConstant_162 {fu : Nat} (rc : RC) (ihC : mCI rc) {F0 : PF} {G0 : PG} (t70 : 0 ≤ (F0 70).toInt) (x1 : Int32) (x2 : Int32) (x4 : Int32) (x5 : Int32) (F : PF) (G : PG) (hA : F 70 = F0 70 ∧ 0 ≤ (F 60).toInt ∧ PKp F0 G0 G ∧ sN F0 ≤ sN F ∧ CB F0 G0 G) : PP (mb_inConstant_162 fu rc x1 x2 x4 x5 F G) (fun r' F' G' => CQ F0 G0 r' F' G') := by
  obtain ⟨hE, h6, hP, hS, hC⟩ := hA
  unfold mb_inConstant_162
  refine PP.bind (mp_isSign (22 : Int32) F G) ?_
  rintro _ _ _ ⟨rfl, rfl, (⟨rfl, -⟩ | ⟨rfl, -⟩)⟩
  · dsimp only
    unfold mb_inConstant_168
    refine PP.ite (fun c_2 => absurd c_2 (by decide)) (fun _ => ?_)
    unfold mb_inConstant_171
    refine PP.bind (ihC 1 x1 (0 : Int32) F G (show 0 ≤ (F 60).toInt from h6) (by rw [(show F 70 = F0 70 from hE)]; exact t70)) ?_
    rintro r3 F3 G3 ⟨(rfl | rfl), u3⟩
    · dsimp only
      unfold mb_inConstant_177
      refine PP.ite (fun _ => ?_) (fun c_4 => absurd (by decide) c_4)
      unfold mb_inConstant_180
      refine PP.ret ?_
      exact ⟨Or.inl rfl, fun h => absurd h (by decide)⟩
    · dsimp only
      obtain ⟨a3, b3, c3, d3, e3⟩ := u3 rfl
      have k_5 : F3 70 = F0 70 := a3.trans (show F 70 = F0 70 from hE)
      have k_6 : 0 ≤ (F3 60).toInt := b3
      have k_7 : sN F0 ≤ sN F3 := Nat.le_trans (show sN F0 ≤ sN F from hS) d3
      have k_8 : CB F0 G0 G3 := CB.tr (show CB F0 G0 G from hC) (show sN F0 ≤ sN F from hS) e3
      have k_9 : PKp F0 G0 G3 := PKp.tr (show PKp F0 G0 G from hP) c3 (show F 70 = F0 70 from hE)
      unfold mb_inConstant_177
      refine PP.ite (fun c_10 => absurd c_10 (by decide)) (fun _ => ?_)
      exact mcj_inConstant_182 rc ihC t70 x2 x4 x5 F3 G3 ⟨(show F3 70 = F0 70 from k_5), (show 0 ≤ (F3 60).toInt from k_6), (show PKp F0 G0 G3 from k_9), (show sN F0 ≤ sN F3 from k_7), (show CB F0 G0 G3 from k_8)⟩
  · dsimp only
    unfold mb_inConstant_168
    refine PP.ite (fun _ => ?_) (fun c_11 => absurd (by decide) c_11)
    exact mcj_inConstant_182 rc ihC t70 x2 x4 x5 F G ⟨(show F 70 = F0 70 from hE), (show 0 ≤ (F 60).toInt from h6), (show PKp F0 G0 G from hP), (show sN F0 ≤ sN F from hS), (show CB F0 G0 G from hC)⟩
theorem mcj_inConstant_157 {fu : Nat} (rc : RC) (ihC : mCI rc) {F0 : PF} {G0 : PG} (t70 : 0 ≤ (F0 70).toInt) (x1 : Int32) (x2 : Int32) (x4 : Int32) (x5 : Int32) (F : PF) (G : PG) (hA : F 70 = F0 70 ∧ 0 ≤ (F 60).toInt ∧ PKp F0 G0 G ∧ sN F0 ≤ sN F ∧ CB F0 G0 G) : PP (mb_inConstant_157 fu rc x1 x2 x4 x5 F G) (fun r' F' G' => CQ F0 G0 r' F' G') := by
  obtain ⟨hE, h6, hP, hS, hC⟩ := hA
  unfold mb_inConstant_157
  exact mcj_inConstant_162 rc ihC t70 x1 x2 x4 x5 (fup F 55 (1 : Int32)) G ⟨(show (fup F 55 (1 : Int32)) 70 = F0 70 from hE), (show 0 ≤ ((fup F 55 (1 : Int32)) 60).toInt from h6), (show PKp F0 G0 G from hP), (show sN F0 ≤ sN (fup F 55 (1 : Int32)) from hS), (show CB F0 G0 G from hC)⟩
theorem mcj_inConstant_137 {fu : Nat} (rc : RC) (ihC : mCI rc) {F0 : PF} {G0 : PG} (t70 : 0 ≤ (F0 70).toInt) (x1 : Int32) (x2 : Int32) (x4 : Int32) (x5 : Int32) (F : PF) (G : PG) (hA : F 70 = F0 70 ∧ 0 ≤ (F 60).toInt ∧ PKp F0 G0 G ∧ sN F0 ≤ sN F ∧ CB F0 G0 G) : PP (mb_inConstant_137 fu rc x1 x2 x4 x5 F G) (fun r' F' G' => CQ F0 G0 r' F' G') := by
  obtain ⟨hE, h6, hP, hS, hC⟩ := hA
  unfold mb_inConstant_137
  refine PP.ite (fun c_1 => ?_) (fun c_1 => ?_)
  · skip
    exact mcj_inConstant_157 rc ihC t70 x1 x2 x4 x5 F G ⟨(show F 70 = F0 70 from hE), (show 0 ≤ (F 60).toInt from h6), (show PKp F0 G0 G from hP), (show sN F0 ≤ sN F from hS), (show CB F0 G0 G from hC)⟩
  · skip
    unfold mb_inConstant_142
    refine PP.ite (fun c_2 => ?_) (fun c_2 => ?_)
    · skip
      unfold mb_inConstant_147
      refine PP.ix (fun _ => ?_)
      refine PP.ite (fun c_3 => ?_) (fun c_3 => ?_)
      · skip
        exact mcj_inConstant_157 rc ihC t70 x1 x2 x4 x5 F G ⟨(show F 70 = F0 70 from hE), (show 0 ≤ (F 60).toInt from h6), (show PKp F0 G0 G from hP), (show sN F0 ≤ sN F from hS), (show CB F0 G0 G from hC)⟩
      · skip
        exact mcj_inConstant_162 rc ihC t70 x1 x2 x4 x5 F G ⟨(show F 70 = F0 70 from hE), (show 0 ≤ (F 60).toInt from h6), (show PKp F0 G0 G from hP), (show sN F0 ≤ sN F from hS), (show CB F0 G0 G from hC)⟩
    · skip
      exact mcj_inConstant_157 rc ihC t70 x1 x2 x4 x5 F G ⟨(show F 70 = F0 70 from hE), (show 0 ≤ (F 60).toInt from h6), (show PKp F0 G0 G from hP), (show sN F0 ≤ sN F from hS), (show CB F0 G0 G from hC)⟩
theorem mcj_inConstant_125 {fu : Nat} (rc : RC) (ihC : mCI rc) {F0 : PF} {G0 : PG} (t70 : 0 ≤ (F0 70).toInt) (x1 : Int32) (x2 : Int32) (x4 : Int32) (x5 : Int32) (F : PF) (G : PG) (hA : F 70 = F0 70 ∧ 0 ≤ (F 60).toInt ∧ PKp F0 G0 G ∧ sN F0 ≤ sN F ∧ CB F0 G0 G) : PP (mb_inConstant_125 fu rc x1 x2 x4 x5 F G) (fun r' F' G' => CQ F0 G0 r' F' G') := by
  obtain ⟨hE, h6, hP, hS, hC⟩ := hA
  unfold mb_inConstant_125
  refine PP.ix (fun _ => ?_)
  refine PP.bind (mw_note (10 : Int32) (G 6 x1.toNatClampNeg) F G) ?_
  intro r1 F1 G1 hK1
  dsimp only
  have k_2 : F1 70 = F0 70 := (hK1.1 70 rfl).trans (show F 70 = F0 70 from hE)
  have k_3 : 0 ≤ (F1 60).toInt := by rw [hK1.1 60 rfl]; exact (show 0 ≤ (F 60).toInt from h6)
  have k_4 : sN F0 ≤ sN F1 := S_eq (show sN F0 ≤ sN F from hS) (hK1.1 60 rfl)
  have k_5 : CB F0 G0 G1 := CB.kx (show CB F0 G0 G from hC) hK1 rfl rfl rfl rfl
  have k_6 : PKp F0 G0 G1 := PKp.kx (show PKp F0 G0 G from hP) hK1 rfl rfl
  exact mcj_inConstant_137 rc ihC t70 x1 x2 x4 x5 F1 G1 ⟨(show F1 70 = F0 70 from k_2), (show 0 ≤ (F1 60).toInt from k_3), (show PKp F0 G0 G1 from k_6), (show sN F0 ≤ sN F1 from k_4), (show CB F0 G0 G1 from k_5)⟩
theorem mcj_inConstant_104 {fu : Nat} (rc : RC) (ihC : mCI rc) {F0 : PF} {G0 : PG} (t70 : 0 ≤ (F0 70).toInt) (x1 : Int32) (x2 : Int32) (x3 : Int32) (x4 : Int32) (x5 : Int32) (F : PF) (G : PG) (hA : F 70 = F0 70 ∧ 0 ≤ (F 60).toInt ∧ PKp F0 G0 G ∧ sN F0 ≤ sN F ∧ CB F0 G0 G) : PP (mb_inConstant_104 fu rc x1 x2 x3 x4 x5 F G) (fun r' F' G' => CQ F0 G0 r' F' G') := by
  obtain ⟨hE, h6, hP, hS, hC⟩ := hA
  unfold mb_inConstant_104
  refine PP.ite (fun c_1 => ?_) (fun c_1 => ?_)
  · skip
    exact mcj_inConstant_137 rc ihC t70 x1 x2 x4 x5 F G ⟨(show F 70 = F0 70 from hE), (show 0 ≤ (F 60).toInt from h6), (show PKp F0 G0 G from hP), (show sN F0 ≤ sN F from hS), (show CB F0 G0 G from hC)⟩
  · skip
    unfold mb_inConstant_111
    refine PP.ite (fun c_2 => ?_) (fun c_2 => ?_)
    · skip
      unfold mb_inConstant_115
      refine PP.ite (fun c_3 => ?_) (fun c_3 => ?_)
      · skip
        exact mcj_inConstant_125 rc ihC t70 x1 x2 x4 x5 F G ⟨(show F 70 = F0 70 from hE), (show 0 ≤ (F 60).toInt from h6), (show PKp F0 G0 G from hP), (show sN F0 ≤ sN F from hS), (show CB F0 G0 G from hC)⟩
      · skip
        unfold mb_inConstant_120
        refine PP.ite (fun c_4 => ?_) (fun c_4 => ?_)
        · skip
          exact mcj_inConstant_137 rc ihC t70 x1 x2 x4 x5 F G ⟨(show F 70 = F0 70 from hE), (show 0 ≤ (F 60).toInt from h6), (show PKp F0 G0 G from hP), (show sN F0 ≤ sN F from hS), (show CB F0 G0 G from hC)⟩
        · skip
          exact mcj_inConstant_125 rc ihC t70 x1 x2 x4 x5 F G ⟨(show F 70 = F0 70 from hE), (show 0 ≤ (F 60).toInt from h6), (show PKp F0 G0 G from hP), (show sN F0 ≤ sN F from hS), (show CB F0 G0 G from hC)⟩
    · skip
      exact mcj_inConstant_137 rc ihC t70 x1 x2 x4 x5 F G ⟨(show F 70 = F0 70 from hE), (show 0 ≤ (F 60).toInt from h6), (show PKp F0 G0 G from hP), (show sN F0 ≤ sN F from hS), (show CB F0 G0 G from hC)⟩
theorem mcj_inConstant_80 {fu : Nat} (rc : RC) (ihC : mCI rc) {F0 : PF} {G0 : PG} (t70 : 0 ≤ (F0 70).toInt) (x1 : Int32) (x2 : Int32) (x3 : Int32) (x4 : Int32) (z0 : Int32) (F : PF) (G : PG) (hA : F 70 = F0 70 ∧ 0 ≤ (F 60).toInt ∧ PKp F0 G0 G ∧ sN F0 ≤ sN F ∧ CB F0 G0 G) : PP (mb_inConstant_80 fu rc x1 x2 x3 x4 z0 F G) (fun r' F' G' => CQ F0 G0 r' F' G') := by
  obtain ⟨hE, h6, hP, hS, hC⟩ := hA
  unfold mb_inConstant_80
  refine PP.ite (fun c_1 => ?_) (fun c_1 => ?_)
  · skip
    exact mcj_inConstant_104 rc ihC t70 x1 x2 x3 x4 z0 F G ⟨(show F 70 = F0 70 from hE), (show 0 ≤ (F 60).toInt from h6), (show PKp F0 G0 G from hP), (show sN F0 ≤ sN F from hS), (show CB F0 G0 G from hC)⟩
  · skip
    unfold mb_inConstant_89
    refine PP.ite (fun c_2 => ?_) (fun c_2 => ?_)
    · skip
      exact mcj_inConstant_104 rc ihC t70 x1 x2 x3 x4 z0 F G ⟨(show F 70 = F0 70 from hE), (show 0 ≤ (F 60).toInt from h6), (show PKp F0 G0 G from hP), (show sN F0 ≤ sN F from hS), (show CB F0 G0 G from hC)⟩
    · skip
      unfold mb_inConstant_93
      refine PP.ix (fun _ => ?_)
      refine PP.bind (mw_note (4 : Int32) (G 6 x1.toNatClampNeg) F G) ?_
      intro r3 F3 G3 hK3
      dsimp only
      have k_4 : F3 70 = F0 70 := (hK3.1 70 rfl).trans (show F 70 = F0 70 from hE)
      have k_5 : 0 ≤ (F3 60).toInt := by rw [hK3.1 60 rfl]; exact (show 0 ≤ (F 60).toInt from h6)
      have k_6 : sN F0 ≤ sN F3 := S_eq (show sN F0 ≤ sN F from hS) (hK3.1 60 rfl)
      have k_7 : CB F0 G0 G3 := CB.kx (show CB F0 G0 G from hC) hK3 rfl rfl rfl rfl
      have k_8 : PKp F0 G0 G3 := PKp.kx (show PKp F0 G0 G from hP) hK3 rfl rfl
      exact mcj_inConstant_104 rc ihC t70 x1 x2 x3 x4 z0 F3 G3 ⟨(show F3 70 = F0 70 from k_4), (show 0 ≤ (F3 60).toInt from k_5), (show PKp F0 G0 G3 from k_8), (show sN F0 ≤ sN F3 from k_6), (show CB F0 G0 G3 from k_7)⟩
theorem mcj_inConstant_79 {fu : Nat} (rc : RC) (ihC : mCI rc) {F0 : PF} {G0 : PG} (t70 : 0 ≤ (F0 70).toInt) (x1 : Int32) (x2 : Int32) (x3 : Int32) (x4 : Int32) (F : PF) (G : PG) (hA : F 70 = F0 70 ∧ 0 ≤ (F 60).toInt ∧ PKp F0 G0 G ∧ sN F0 ≤ sN F ∧ CB F0 G0 G) : PP (mb_inConstant_79 fu rc x1 x2 x3 x4 F G) (fun r' F' G' => CQ F0 G0 r' F' G') := by
  obtain ⟨hE, h6, hP, hS, hC⟩ := hA
  unfold mb_inConstant_79
  exact mcj_inConstant_80 rc ihC t70 x1 x2 x3 x4 (0 : Int32) F G ⟨(show F 70 = F0 70 from hE), (show 0 ≤ (F 60).toInt from h6), (show PKp F0 G0 G from hP), (show sN F0 ≤ sN F from hS), (show CB F0 G0 G from hC)⟩
theorem mcj_inConstant_59 {fu : Nat} (rc : RC) (ihC : mCI rc) {F0 : PF} {G0 : PG} (t70 : 0 ≤ (F0 70).toInt) (x1 : Int32) (x2 : Int32) (x3 : Int32) (z0 : Int32) (F : PF) (G : PG) (hA : F 70 = F0 70 ∧ 0 ≤ (F 60).toInt ∧ PKp F0 G0 G ∧ sN F0 ≤ sN F ∧ CB F0 G0 G) : PP (mb_inConstant_59 fu rc x1 x2 x3 z0 F G) (fun r' F' G' => CQ F0 G0 r' F' G') := by
  obtain ⟨hE, h6, hP, hS, hC⟩ := hA
  unfold mb_inConstant_59
  refine PP.ite (fun c_1 => ?_) (fun c_1 => ?_)
  · skip
    exact mcj_inConstant_79 rc ihC t70 x1 x2 x3 z0 F G ⟨(show F 70 = F0 70 from hE), (show 0 ≤ (F 60).toInt from h6), (show PKp F0 G0 G from hP), (show sN F0 ≤ sN F from hS), (show CB F0 G0 G from hC)⟩
  · skip
    unfold mb_inConstant_66
    refine PP.ix (fun _ => ?_)
    refine PP.ite (fun c_2 => ?_) (fun c_2 => ?_)
    · skip
      unfold mb_inConstant_75
      exact mcj_inConstant_80 rc ihC t70 x1 x2 x3 z0 (1 : Int32) F G ⟨(show F 70 = F0 70 from hE), (show 0 ≤ (F 60).toInt from h6), (show PKp F0 G0 G from hP), (show sN F0 ≤ sN F from hS), (show CB F0 G0 G from hC)⟩
    · skip
      exact mcj_inConstant_79 rc ihC t70 x1 x2 x3 z0 F G ⟨(show F 70 = F0 70 from hE), (show 0 ≤ (F 60).toInt from h6), (show PKp F0 G0 G from hP), (show sN F0 ≤ sN F from hS), (show CB F0 G0 G from hC)⟩
theorem mcj_inConstant_54 {fu : Nat} (rc : RC) (ihC : mCI rc) {F0 : PF} {G0 : PG} (t70 : 0 ≤ (F0 70).toInt) (x1 : Int32) (x2 : Int32) (x3 : Int32) (F : PF) (G : PG) (hA : F 70 = F0 70 ∧ 0 ≤ (F 60).toInt ∧ PKp F0 G0 G ∧ sN F0 ≤ sN F ∧ CB F0 G0 G) : PP (mb_inConstant_54 fu rc x1 x2 x3 F G) (fun r' F' G' => CQ F0 G0 r' F' G') := by
  obtain ⟨hE, h6, hP, hS, hC⟩ := hA
  unfold mb_inConstant_54
  exact mcj_inConstant_59 rc ihC t70 x1 x2 x3 (1 : Int32) F G ⟨(show F 70 = F0 70 from hE), (show 0 ≤ (F 60).toInt from h6), (show PKp F0 G0 G from hP), (show sN F0 ≤ sN F from hS), (show CB F0 G0 G from hC)⟩
theorem mcj_inConstant_35 {fu : Nat} (rc : RC) (ihC : mCI rc) {F0 : PF} {G0 : PG} (t70 : 0 ≤ (F0 70).toInt) (x1 : Int32) (x2 : Int32) (z0 : Int32) (F : PF) (G : PG) (hA : F 70 = F0 70 ∧ 0 ≤ (F 60).toInt ∧ PKp F0 G0 G ∧ sN F0 ≤ sN F ∧ CB F0 G0 G) : PP (mb_inConstant_35 fu rc x1 x2 z0 F G) (fun r' F' G' => CQ F0 G0 r' F' G') := by
  obtain ⟨hE, h6, hP, hS, hC⟩ := hA
  unfold mb_inConstant_35
  refine PP.bind (mp_isSign (24 : Int32) F G) ?_
  rintro _ _ _ ⟨rfl, rfl, (⟨rfl, -⟩ | ⟨rfl, -⟩)⟩
  · dsimp only
    unfold mb_inConstant_42
    refine PP.ite (fun c_2 => absurd c_2 (by decide)) (fun _ => ?_)
    exact mcj_inConstant_54 rc ihC t70 x1 x2 z0 F G ⟨(show F 70 = F0 70 from hE), (show 0 ≤ (F 60).toInt from h6), (show PKp F0 G0 G from hP), (show sN F0 ≤ sN F from hS), (show CB F0 G0 G from hC)⟩
  · dsimp only
    unfold mb_inConstant_42
    refine PP.ite (fun _ => ?_) (fun c_3 => absurd (by decide) c_3)
    unfold mb_inConstant_45
    refine PP.bind (mp_isSign (22 : Int32) F G) ?_
    rintro _ _ _ ⟨rfl, rfl, (⟨rfl, -⟩ | ⟨rfl, -⟩)⟩
    · dsimp only
      unfold mb_inConstant_51
      refine PP.ite (fun c_5 => absurd c_5 (by decide)) (fun _ => ?_)
      exact mcj_inConstant_54 rc ihC t70 x1 x2 z0 F G ⟨(show F 70 = F0 70 from hE), (show 0 ≤ (F 60).toInt from h6), (show PKp F0 G0 G from hP), (show sN F0 ≤ sN F from hS), (show CB F0 G0 G from hC)⟩
    · dsimp only
      unfold mb_inConstant_51
      refine PP.ite (fun _ => ?_) (fun c_6 => absurd (by decide) c_6)
      unfold mb_inConstant_58
      exact mcj_inConstant_59 rc ihC t70 x1 x2 z0 (0 : Int32) F G ⟨(show F 70 = F0 70 from hE), (show 0 ≤ (F 60).toInt from h6), (show PKp F0 G0 G from hP), (show sN F0 ≤ sN F from hS), (show CB F0 G0 G from hC)⟩
theorem mcj_inConstant_34 {fu : Nat} (rc : RC) (ihC : mCI rc) {F0 : PF} {G0 : PG} (t70 : 0 ≤ (F0 70).toInt) (x1 : Int32) (x2 : Int32) (F : PF) (G : PG) (hA : F 70 = F0 70 ∧ 0 ≤ (F 60).toInt ∧ PKp F0 G0 G ∧ sN F0 ≤ sN F ∧ CB F0 G0 G) : PP (mb_inConstant_34 fu rc x1 x2 F G) (fun r' F' G' => CQ F0 G0 r' F' G') := by
  obtain ⟨hE, h6, hP, hS, hC⟩ := hA
  unfold mb_inConstant_34
  exact mcj_inConstant_35 rc ihC t70 x1 x2 (0 : Int32) F G ⟨(show F 70 = F0 70 from hE), (show 0 ≤ (F 60).toInt from h6), (show PKp F0 G0 G from hP), (show sN F0 ≤ sN F from hS), (show CB F0 G0 G from hC)⟩
theorem mcj_inConstant_16 {fu : Nat} (rc : RC) (ihC : mCI rc) {F0 : PF} {G0 : PG} (t70 : 0 ≤ (F0 70).toInt) (x1 : Int32) (z0 : Int32) (F : PF) (G : PG) (hA : F 70 = F0 70 ∧ 0 ≤ (F 60).toInt ∧ PKp F0 G0 G ∧ sN F0 ≤ sN F ∧ CB F0 G0 G) : PP (mb_inConstant_16 fu rc x1 z0 F G) (fun r' F' G' => CQ F0 G0 r' F' G') := by
  obtain ⟨hE, h6, hP, hS, hC⟩ := hA
  unfold mb_inConstant_16
  refine PP.ite (fun c_1 => ?_) (fun c_1 => ?_)
  · skip
    unfold mb_inConstant_22
    refine PP.ite (fun c_2 => ?_) (fun c_2 => ?_)
    · skip
      unfold mb_inConstant_30
      exact mcj_inConstant_35 rc ihC t70 x1 z0 (1 : Int32) F G ⟨(show F 70 = F0 70 from hE), (show 0 ≤ (F 60).toInt from h6), (show PKp F0 G0 G from hP), (show sN F0 ≤ sN F from hS), (show CB F0 G0 G from hC)⟩
    · skip
      exact mcj_inConstant_34 rc ihC t70 x1 z0 F G ⟨(show F 70 = F0 70 from hE), (show 0 ≤ (F 60).toInt from h6), (show PKp F0 G0 G from hP), (show sN F0 ≤ sN F from hS), (show CB F0 G0 G from hC)⟩
  · skip
    exact mcj_inConstant_34 rc ihC t70 x1 z0 F G ⟨(show F 70 = F0 70 from hE), (show 0 ≤ (F 60).toInt from h6), (show PKp F0 G0 G from hP), (show sN F0 ≤ sN F from hS), (show CB F0 G0 G from hC)⟩
theorem mct_inConstant {fu : Nat} (rc : RC) (ihC : mCI rc) (x1 : Int32) (F : PF) (G : PG) (t60 : 0 ≤ (F 60).toInt) (t70 : 0 ≤ (F 70).toInt) : PP (mh_inConstant fu rc x1 F G) (fun r' F' G' => CQ F G r' F' G') := by
  unfold mh_inConstant
  unfold mb_inConstant_0
  refine PP.ite (fun c_1 => ?_) (fun c_1 => ?_)
  · skip
    unfold mb_inConstant_7
    exact mcj_inConstant_16 rc ihC t70 x1 (-1 : Int32) F G ⟨(show F 70 = F 70 from (rfl : F 70 = F 70)), (show 0 ≤ (F 60).toInt from t60), (show PKp F G G from (fun _ _ => ⟨rfl, rfl⟩ : PKp F G G)), (show sN F ≤ sN F from (Nat.le_refl _ : sN F ≤ sN F)), (show CB F G G from (fun _ _ => cEq.rf : CB F G G))⟩
  · skip
    unfold mb_inConstant_11
    refine PP.bind (mw_meaning x1 F G) ?_
    intro r2 F2 G2 hK2
    dsimp only
    have k_3 : F2 70 = F 70 := (hK2.1 70 rfl).trans (show F 70 = F 70 from (rfl : F 70 = F 70))
    have k_4 : 0 ≤ (F2 60).toInt := by rw [hK2.1 60 rfl]; exact (show 0 ≤ (F 60).toInt from t60)
    have k_5 : sN F ≤ sN F2 := S_eq (show sN F ≤ sN F from (Nat.le_refl _ : sN F ≤ sN F)) (hK2.1 60 rfl)
    have k_6 : CB F G G2 := CB.kx (show CB F G G from (fun _ _ => cEq.rf : CB F G G)) hK2 rfl rfl rfl rfl
    have k_7 : PKp F G G2 := PKp.kx (show PKp F G G from (fun _ _ => ⟨rfl, rfl⟩ : PKp F G G)) hK2 rfl rfl
    exact mcj_inConstant_16 rc ihC t70 x1 r2 F2 G2 ⟨(show F2 70 = F 70 from k_3), (show 0 ≤ (F2 60).toInt from k_4), (show PKp F G G2 from k_7), (show sN F ≤ sN F2 from k_5), (show CB F G G2 from k_6)⟩
theorem mcj_named_212 {fu : Nat} (rc : RC) (ihC : mCI rc) {F0 : PF} {G0 : PG} (t70 : 0 ≤ (F0 70).toInt) (F : PF) (G : PG) (hA : F 70 = F0 70 ∧ 0 ≤ (F 60).toInt ∧ PKp F0 G0 G ∧ sN F0 ≤ sN F ∧ CB F0 G0 G) : PP (mb_named_212 fu rc F G) (fun r' F' G' => CQ F0 G0 r' F' G') := by
  obtain ⟨hE, h6, hP, hS, hC⟩ := hA
  unfold mb_named_212
  refine PP.ret ?_
  exact ⟨Or.inr rfl, fun _ => ⟨(show F 70 = F0 70 from hE), (show 0 ≤ (F 60).toInt from h6), (show PKp F0 G0 G from hP), (show sN F0 ≤ sN F from hS), (show CB F0 G0 G from hC)⟩⟩
theorem mcj_named_207 {fu : Nat} (rc : RC) (ihC : mCI rc) {F0 : PF} {G0 : PG} (t70 : 0 ≤ (F0 70).toInt) (z0 : Int32) (z1 : Int32) (F : PF) (G : PG) (hA : F 70 = F0 70 ∧ 0 ≤ (F 60).toInt ∧ PKp F0 G0 G ∧ sN F0 ≤ sN F ∧ CB F0 G0 G) : PP (mb_named_207 fu rc z0 z1 F G) (fun r' F' G' => CQ F0 G0 r' F' G') := by
  obtain ⟨hE, h6, hP, hS, hC⟩ := hA
  unfold mb_named_207
  refine PP.bind (mq_step z1 z0 (0 : Int32) F G) ?_
  rintro _ F1 G1 ⟨hK1, rfl, e1, g1, n1⟩
  dsimp only
  have k_2 : F1 70 = F0 70 := (hK1.1 70 rfl).trans (show F 70 = F0 70 from hE)
  have k_3 : 0 ≤ (F1 60).toInt := inc60 n1 e1
  have k_4 : sN F0 ≤ sN F1 := S_st (show sN F0 ≤ sN F from hS) n1 e1
  have k_5 : CB F0 G0 G1 := CB.stp (show CB F0 G0 G from hC) (show sN F0 ≤ sN F from hS) g1
  have k_6 : PKp F0 G0 G1 := PKp.kx (show PKp F0 G0 G from hP) hK1 rfl rfl
  unfold mb_named_211
  exact mcj_named_212 rc ihC t70 F1 G1 ⟨(show F1 70 = F0 70 from k_2), (show 0 ≤ (F1 60).toInt from k_3), (show PKp F0 G0 G1 from k_6), (show sN F0 ≤ sN F1 from k_4), (show CB F0 G0 G1 from k_5)⟩
theorem mcj_named_192 {fu : Nat} (rc : RC) (ihC : mCI rc) {F0 : PF} {G0 : PG} (t70 : 0 ≤ (F0 70).toInt) (x2 : Int32) (z0 : Int32) (F : PF) (G : PG) (hA : F 70 = F0 70 ∧ 0 ≤ (F 60).toInt ∧ PKp F0 G0 G ∧ sN F0 ≤ sN F ∧ CB F0 G0 G) : PP (mb_named_192 fu rc x2 z0 F G) (fun r' F' G' => CQ F0 G0 r' F' G') := by
  obtain ⟨hE, h6, hP, hS, hC⟩ := hA
  unfold mb_named_192
  refine PP.ite (fun c_1 => ?_) (fun c_1 => ?_)
  · skip
    unfold mb_named_197
    exact mcj_named_207 rc ihC t70 (0 : Int32) z0 F G ⟨(show F 70 = F0 70 from hE), (show 0 ≤ (F 60).toInt from h6), (show PKp F0 G0 G from hP), (show sN F0 ≤ sN F from hS), (show CB F0 G0 G from hC)⟩
  · skip
    unfold mb_named_201
    refine PP.ix (fun _ => ?_)
    exact mcj_named_207 rc ihC t70 (G 20 x2.toNatClampNeg) z0 F G ⟨(show F 70 = F0 70 from hE), (show 0 ≤ (F 60).toInt from h6), (show PKp F0 G0 G from hP), (show sN F0 ≤ sN F from hS), (show CB F0 G0 G from hC)⟩
theorem mcj_named_191 {fu : Nat} (rc : RC) (ihC : mCI rc) {F0 : PF} {G0 : PG} (t70 : 0 ≤ (F0 70).toInt) (x2 : Int32) (F : PF) (G : PG) (hA : F 70 = F0 70 ∧ 0 ≤ (F 60).toInt ∧ PKp F0 G0 G ∧ sN F0 ≤ sN F ∧ CB F0 G0 G) : PP (mb_named_191 fu rc x2 F G) (fun r' F' G' => CQ F0 G0 r' F' G') := by
  obtain ⟨hE, h6, hP, hS, hC⟩ := hA
  unfold mb_named_191
  exact mcj_named_192 rc ihC t70 x2 (3 : Int32) F G ⟨(show F 70 = F0 70 from hE), (show 0 ≤ (F 60).toInt from h6), (show PKp F0 G0 G from hP), (show sN F0 ≤ sN F from hS), (show CB F0 G0 G from hC)⟩
theorem mcj_named_172 {fu : Nat} (rc : RC) (ihC : mCI rc) {F0 : PF} {G0 : PG} (t70 : 0 ≤ (F0 70).toInt) (x2 : Int32) (F : PF) (G : PG) (hA : F 70 = F0 70 ∧ 0 ≤ (F 60).toInt ∧ PKp F0 G0 G ∧ sN F0 ≤ sN F ∧ CB F0 G0 G) : PP (mb_named_172 fu rc x2 F G) (fun r' F' G' => CQ F0 G0 r' F' G') := by
  obtain ⟨hE, h6, hP, hS, hC⟩ := hA
  unfold mb_named_172
  refine PP.ite (fun c_1 => ?_) (fun c_1 => ?_)
  · skip
    exact mcj_named_191 rc ihC t70 x2 F G ⟨(show F 70 = F0 70 from hE), (show 0 ≤ (F 60).toInt from h6), (show PKp F0 G0 G from hP), (show sN F0 ≤ sN F from hS), (show CB F0 G0 G from hC)⟩
  · skip
    unfold mb_named_178
    refine PP.ix (fun _ => ?_)
    refine PP.ite (fun c_2 => ?_) (fun c_2 => ?_)
    · skip
      exact mcj_named_191 rc ihC t70 x2 F G ⟨(show F 70 = F0 70 from hE), (show 0 ≤ (F 60).toInt from h6), (show PKp F0 G0 G from hP), (show sN F0 ≤ sN F from hS), (show CB F0 G0 G from hC)⟩
    · skip
      unfold mb_named_187
      exact mcj_named_192 rc ihC t70 x2 (1 : Int32) F G ⟨(show F 70 = F0 70 from hE), (show 0 ≤ (F 60).toInt from h6), (show PKp F0 G0 G from hP), (show sN F0 ≤ sN F from hS), (show CB F0 G0 G from hC)⟩
theorem mcj_named_115 {fu : Nat} (rc : RC) (ihC : mCI rc) {F0 : PF} {G0 : PG} (t70 : 0 ≤ (F0 70).toInt) (x2 : Int32) (x4 : Int32) (F : PF) (G : PG) (hA : F 70 = F0 70 ∧ 0 ≤ (F 60).toInt ∧ PKp F0 G0 G ∧ sN F0 ≤ sN F ∧ CB F0 G0 G) : PP (mb_named_115 fu rc x2 x4 F G) (fun r' F' G' => CQ F0 G0 r' F' G') := by
  obtain ⟨hE, h6, hP, hS, hC⟩ := hA
  unfold mb_named_115
  refine PP.ite (fun c_1 => ?_) (fun c_1 => ?_)
  · skip
    unfold mb_named_142
    refine PP.ite (fun c_2 => ?_) (fun c_2 => ?_)
    · skip
      exact mcj_named_172 rc ihC t70 x2 F G ⟨(show F 70 = F0 70 from hE), (show 0 ≤ (F 60).toInt from h6), (show PKp F0 G0 G from hP), (show sN F0 ≤ sN F from hS), (show CB F0 G0 G from hC)⟩
    · skip
      unfold mb_named_147
      refine PP.ix (fun _ => ?_)
      refine PP.ite (fun c_3 => ?_) (fun c_3 => ?_)
      · skip
        unfold mb_named_156
        refine PP.ix (fun _ => ?_)
        refine PP.bind (mq_step (0 : Int32) (G 20 x2.toNatClampNeg) (0 : Int32) F G) ?_
        rintro _ F4 G4 ⟨hK4, rfl, e4, g4, n4⟩
        dsimp only
        have k_5 : F4 70 = F0 70 := (hK4.1 70 rfl).trans (show F 70 = F0 70 from hE)
        have k_6 : 0 ≤ (F4 60).toInt := inc60 n4 e4
        have k_7 : sN F0 ≤ sN F4 := S_st (show sN F0 ≤ sN F from hS) n4 e4
        have k_8 : CB F0 G0 G4 := CB.stp (show CB F0 G0 G from hC) (show sN F0 ≤ sN F from hS) g4
        have k_9 : PKp F0 G0 G4 := PKp.kx (show PKp F0 G0 G from hP) hK4 rfl rfl
        unfold mb_named_168
        exact mcj_named_212 rc ihC t70 F4 G4 ⟨(show F4 70 = F0 70 from k_5), (show 0 ≤ (F4 60).toInt from k_6), (show PKp F0 G0 G4 from k_9), (show sN F0 ≤ sN F4 from k_7), (show CB F0 G0 G4 from k_8)⟩
      · skip
        exact mcj_named_172 rc ihC t70 x2 F G ⟨(show F 70 = F0 70 from hE), (show 0 ≤ (F 60).toInt from h6), (show PKp F0 G0 G from hP), (show sN F0 ≤ sN F from hS), (show CB F0 G0 G from hC)⟩
  · skip
    unfold mb_named_120
    refine PP.bind (ihC 3 x2 0 F G (show 0 ≤ (F 60).toInt from h6) (by rw [(show F 70 = F0 70 from hE)]; exact t70)) ?_
    rintro r10 F10 G10 ⟨(rfl | rfl), u10⟩
    · dsimp only
      unfold mb_named_125
      refine PP.ite (fun _ => ?_) (fun c_11 => absurd (by decide) c_11)
      unfold mb_named_128
      refine PP.ret ?_
      exact ⟨Or.inl rfl, fun h => absurd h (by decide)⟩
    · dsimp only
      obtain ⟨a10, b10, c10, d10, e10⟩ := u10 rfl
      have k_12 : F10 70 = F0 70 := a10.trans (show F 70 = F0 70 from hE)
      have k_13 : 0 ≤ (F10 60).toInt := b10
      have k_14 : sN F0 ≤ sN F10 := Nat.le_trans (show sN F0 ≤ sN F from hS) d10
      have k_15 : CB F0 G0 G10 := CB.tr (show CB F0 G0 G from hC) (show sN F0 ≤ sN F from hS) e10
      have k_16 : PKp F0 G0 G10 := PKp.tr (show PKp F0 G0 G from hP) c10 (show F 70 = F0 70 from hE)
      unfold mb_named_125
      refine PP.ite (fun c_17 => absurd c_17 (by decide)) (fun _ => ?_)
      unfold mb_named_130
      refine PP.bind (mq_step (7 : Int32) (0 : Int32) (0 : Int32) F10 G10) ?_
      rintro _ F18 G18 ⟨hK18, rfl, e18, g18, n18⟩
      dsimp only
      have k_19 : F18 70 = F0 70 := (hK18.1 70 rfl).trans (show F10 70 = F0 70 from k_12)
      have k_20 : 0 ≤ (F18 60).toInt := inc60 n18 e18
      have k_21 : sN F0 ≤ sN F18 := S_st (show sN F0 ≤ sN F10 from k_14) n18 e18
      have k_22 : CB F0 G0 G18 := CB.stp (show CB F0 G0 G10 from k_15) (show sN F0 ≤ sN F10 from k_14) g18
      have k_23 : PKp F0 G0 G18 := PKp.kx (show PKp F0 G0 G10 from k_16) hK18 rfl rfl
      unfold mb_named_138
      exact mcj_named_212 rc ihC t70 F18 G18 ⟨(show F18 70 = F0 70 from k_19), (show 0 ≤ (F18 60).toInt from k_20), (show PKp F0 G0 G18 from k_23), (show sN F0 ≤ sN F18 from k_21), (show CB F0 G0 G18 from k_22)⟩
theorem mcj_named_103 {fu : Nat} (rc : RC) (ihC : mCI rc) {F0 : PF} {G0 : PG} (t70 : 0 ≤ (F0 70).toInt) (x1 : Int32) (x2 : Int32) (x4 : Int32) (F : PF) (G : PG) (hA : F 70 = F0 70 ∧ 0 ≤ (F 60).toInt ∧ PKp F0 G0 G ∧ sN F0 ≤ sN F ∧ CB F0 G0 G) : PP (mb_named_103 fu rc x1 x2 x4 F G) (fun r' F' G' => CQ F0 G0 r' F' G') := by
  obtain ⟨hE, h6, hP, hS, hC⟩ := hA
  unfold mb_named_103
  refine PP.ix (fun _ => ?_)
  refine PP.bind (mw_note (6 : Int32) (G 6 x1.toNatClampNeg) F G) ?_
  intro r1 F1 G1 hK1
  dsimp only
  have k_2 : F1 70 = F0 70 := (hK1.1 70 rfl).trans (show F 70 = F0 70 from hE)
  have k_3 : 0 ≤ (F1 60).toInt := by rw [hK1.1 60 rfl]; exact (show 0 ≤ (F 60).toInt from h6)
  have k_4 : sN F0 ≤ sN F1 := S_eq (show sN F0 ≤ sN F from hS) (hK1.1 60 rfl)
  have k_5 : CB F0 G0 G1 := CB.kx (show CB F0 G0 G from hC) hK1 rfl rfl rfl rfl
  have k_6 : PKp F0 G0 G1 := PKp.kx (show PKp F0 G0 G from hP) hK1 rfl rfl
  exact mcj_named_115 rc ihC t70 x2 x4 F1 G1 ⟨(show F1 70 = F0 70 from k_2), (show 0 ≤ (F1 60).toInt from k_3), (show PKp F0 G0 G1 from k_6), (show sN F0 ≤ sN F1 from k_4), (show CB F0 G0 G1 from k_5)⟩
theorem mcj_named_100 {fu : Nat} (rc : RC) (ihC : mCI rc) {F0 : PF} {G0 : PG} (t70 : 0 ≤ (F0 70).toInt) (x1 : Int32) (x2 : Int32) (x4 : Int32) (z0 : Int32) (z1 : Int32) (F : PF) (G : PG) (hA : F 70 = F0 70 ∧ 0 ≤ (F 60).toInt ∧ PKp F0 G0 G ∧ sN F0 ≤ sN F ∧ CB F0 G0 G) : PP (mb_named_100 fu rc x1 x2 x4 z0 z1 F G) (fun r' F' G' => CQ F0 G0 r' F' G') := by
  obtain ⟨hE, h6, hP, hS, hC⟩ := hA
  unfold mb_named_100
  refine PP.ite (fun c_1 => ?_) (fun c_1 => ?_)
  · skip
    exact mcj_named_115 rc ihC t70 x2 x4 F G ⟨(show F 70 = F0 70 from hE), (show 0 ≤ (F 60).toInt from h6), (show PKp F0 G0 G from hP), (show sN F0 ≤ sN F from hS), (show CB F0 G0 G from hC)⟩
  · skip
    exact mcj_named_103 rc ihC t70 x1 x2 x4 F G ⟨(show F 70 = F0 70 from hE), (show 0 ≤ (F 60).toInt from h6), (show PKp F0 G0 G from hP), (show sN F0 ≤ sN F from hS), (show CB F0 G0 G from hC)⟩
theorem mcj_named_51 {fu : Nat} (rc : RC) (ihC : mCI rc) {F0 : PF} {G0 : PG} (t70 : 0 ≤ (F0 70).toInt) (x1 : Int32) (x2 : Int32) (z0 : Int32) (F : PF) (G : PG) (hA : F 70 = F0 70 ∧ 0 ≤ (F 60).toInt ∧ PKp F0 G0 G ∧ sN F0 ≤ sN F ∧ CB F0 G0 G) : PP (mb_named_51 fu rc x1 x2 z0 F G) (fun r' F' G' => CQ F0 G0 r' F' G') := by
  obtain ⟨hE, h6, hP, hS, hC⟩ := hA
  unfold mb_named_51
  refine PP.bind (mp_isSign (24 : Int32) F G) ?_
  rintro _ _ _ ⟨rfl, rfl, (⟨rfl, -⟩ | ⟨rfl, -⟩)⟩
  · dsimp only
    unfold mb_named_58
    refine PP.ite (fun c_2 => ?_) (fun c_2 => ?_)
    · skip
      unfold mb_named_78
      refine PP.ite (fun c_3 => ?_) (fun c_3 => ?_)
      · skip
        exact mcj_named_103 rc ihC t70 x1 x2 (1 : Int32) F G ⟨(show F 70 = F0 70 from hE), (show 0 ≤ (F 60).toInt from h6), (show PKp F0 G0 G from hP), (show sN F0 ≤ sN F from hS), (show CB F0 G0 G from hC)⟩
      · skip
        unfold mb_named_83
        refine PP.ix (fun _ => ?_)
        refine PP.ite (fun c_4 => ?_) (fun c_4 => ?_)
        · skip
          unfold mb_named_95
          exact mcj_named_100 rc ihC t70 x1 x2 (1 : Int32) (1 : Int32) (1 : Int32) F G ⟨(show F 70 = F0 70 from hE), (show 0 ≤ (F 60).toInt from h6), (show PKp F0 G0 G from hP), (show sN F0 ≤ sN F from hS), (show CB F0 G0 G from hC)⟩
        · skip
          unfold mb_named_99
          exact mcj_named_100 rc ihC t70 x1 x2 (1 : Int32) (0 : Int32) (1 : Int32) F G ⟨(show F 70 = F0 70 from hE), (show 0 ≤ (F 60).toInt from h6), (show PKp F0 G0 G from hP), (show sN F0 ≤ sN F from hS), (show CB F0 G0 G from hC)⟩
    · skip
      unfold mb_named_64
      refine PP.ix (fun _ => ?_)
      refine PP.bind (mw_note (4 : Int32) (G 6 x1.toNatClampNeg) F G) ?_
      intro r5 F5 G5 hK5
      dsimp only
      have k_6 : F5 70 = F0 70 := (hK5.1 70 rfl).trans (show F 70 = F0 70 from hE)
      have k_7 : 0 ≤ (F5 60).toInt := by rw [hK5.1 60 rfl]; exact (show 0 ≤ (F 60).toInt from h6)
      have k_8 : sN F0 ≤ sN F5 := S_eq (show sN F0 ≤ sN F from hS) (hK5.1 60 rfl)
      have k_9 : CB F0 G0 G5 := CB.kx (show CB F0 G0 G from hC) hK5 rfl rfl rfl rfl
      have k_10 : PKp F0 G0 G5 := PKp.kx (show PKp F0 G0 G from hP) hK5 rfl rfl
      unfold mb_named_75
      exact mcj_named_115 rc ihC t70 x2 (1 : Int32) F5 G5 ⟨(show F5 70 = F0 70 from k_6), (show 0 ≤ (F5 60).toInt from k_7), (show PKp F0 G0 G5 from k_10), (show sN F0 ≤ sN F5 from k_8), (show CB F0 G0 G5 from k_9)⟩
  · dsimp only
    unfold mb_named_58
    refine PP.ite (fun c_11 => ?_) (fun c_11 => ?_)
    · skip
      unfold mb_named_78
      refine PP.ite (fun c_12 => ?_) (fun c_12 => ?_)
      · skip
        exact mcj_named_103 rc ihC t70 x1 x2 (0 : Int32) F G ⟨(show F 70 = F0 70 from hE), (show 0 ≤ (F 60).toInt from h6), (show PKp F0 G0 G from hP), (show sN F0 ≤ sN F from hS), (show CB F0 G0 G from hC)⟩
      · skip
        unfold mb_named_83
        refine PP.ix (fun _ => ?_)
        refine PP.ite (fun c_13 => ?_) (fun c_13 => ?_)
        · skip
          unfold mb_named_95
          exact mcj_named_100 rc ihC t70 x1 x2 (0 : Int32) (1 : Int32) (0 : Int32) F G ⟨(show F 70 = F0 70 from hE), (show 0 ≤ (F 60).toInt from h6), (show PKp F0 G0 G from hP), (show sN F0 ≤ sN F from hS), (show CB F0 G0 G from hC)⟩
        · skip
          unfold mb_named_99
          exact mcj_named_100 rc ihC t70 x1 x2 (0 : Int32) (0 : Int32) (0 : Int32) F G ⟨(show F 70 = F0 70 from hE), (show 0 ≤ (F 60).toInt from h6), (show PKp F0 G0 G from hP), (show sN F0 ≤ sN F from hS), (show CB F0 G0 G from hC)⟩
    · skip
      unfold mb_named_64
      refine PP.ix (fun _ => ?_)
      refine PP.bind (mw_note (4 : Int32) (G 6 x1.toNatClampNeg) F G) ?_
      intro r14 F14 G14 hK14
      dsimp only
      have k_15 : F14 70 = F0 70 := (hK14.1 70 rfl).trans (show F 70 = F0 70 from hE)
      have k_16 : 0 ≤ (F14 60).toInt := by rw [hK14.1 60 rfl]; exact (show 0 ≤ (F 60).toInt from h6)
      have k_17 : sN F0 ≤ sN F14 := S_eq (show sN F0 ≤ sN F from hS) (hK14.1 60 rfl)
      have k_18 : CB F0 G0 G14 := CB.kx (show CB F0 G0 G from hC) hK14 rfl rfl rfl rfl
      have k_19 : PKp F0 G0 G14 := PKp.kx (show PKp F0 G0 G from hP) hK14 rfl rfl
      unfold mb_named_75
      exact mcj_named_115 rc ihC t70 x2 (0 : Int32) F14 G14 ⟨(show F14 70 = F0 70 from k_15), (show 0 ≤ (F14 60).toInt from k_16), (show PKp F0 G0 G14 from k_19), (show sN F0 ≤ sN F14 from k_17), (show CB F0 G0 G14 from k_18)⟩
theorem mcj_named_50 {fu : Nat} (rc : RC) (ihC : mCI rc) {F0 : PF} {G0 : PG} (t70 : 0 ≤ (F0 70).toInt) (x1 : Int32) (x2 : Int32) (F : PF) (G : PG) (hA : F 70 = F0 70 ∧ 0 ≤ (F 60).toInt ∧ PKp F0 G0 G ∧ sN F0 ≤ sN F ∧ CB F0 G0 G) : PP (mb_named_50 fu rc x1 x2 F G) (fun r' F' G' => CQ F0 G0 r' F' G') := by
  obtain ⟨hE, h6, hP, hS, hC⟩ := hA
  unfold mb_named_50
  exact mcj_named_51 rc ihC t70 x1 x2 (0 : Int32) F G ⟨(show F 70 = F0 70 from hE), (show 0 ≤ (F 60).toInt from h6), (show PKp F0 G0 G from hP), (show sN F0 ≤ sN F from hS), (show CB F0 G0 G from hC)⟩
theorem mcj_named_32 {fu : Nat} (rc : RC) (ihC : mCI rc) {F0 : PF} {G0 : PG} (t70 : 0 ≤ (F0 70).toInt) (x1 : Int32) (z0 : Int32) (F : PF) (G : PG) (hA : F 70 = F0 70 ∧ 0 ≤ (F 60).toInt ∧ PKp F0 G0 G ∧ sN F0 ≤ sN F ∧ CB F0 G0 G) : PP (mb_named_32 fu rc x1 z0 F G) (fun r' F' G' => CQ F0 G0 r' F' G') := by
  obtain ⟨hE, h6, hP, hS, hC⟩ := hA
  unfold mb_named_32
  refine PP.ite (fun c_1 => ?_) (fun c_1 => ?_)
  · skip
    unfold mb_named_38
    refine PP.ite (fun c_2 => ?_) (fun c_2 => ?_)
    · skip
      unfold mb_named_46
      exact mcj_named_51 rc ihC t70 x1 z0 (1 : Int32) F G ⟨(show F 70 = F0 70 from hE), (show 0 ≤ (F 60).toInt from h6), (show PKp F0 G0 G from hP), (show sN F0 ≤ sN F from hS), (show CB F0 G0 G from hC)⟩
    · skip
      exact mcj_named_50 rc ihC t70 x1 z0 F G ⟨(show F 70 = F0 70 from hE), (show 0 ≤ (F 60).toInt from h6), (show PKp F0 G0 G from hP), (show sN F0 ≤ sN F from hS), (show CB F0 G0 G from hC)⟩
  · skip
    exact mcj_named_50 rc ihC t70 x1 z0 F G ⟨(show F 70 = F0 70 from hE), (show 0 ≤ (F 60).toInt from h6), (show PKp F0 G0 G from hP), (show sN F0 ≤ sN F from hS), (show CB F0 G0 G from hC)⟩
theorem mct_named {fu : Nat} (rc : RC) (ihC : mCI rc) (x1 : Int32) (F : PF) (G : PG) (t60 : 0 ≤ (F 60).toInt) (t70 : 0 ≤ (F 70).toInt) : PP (mh_named fu rc x1 F G) (fun r' F' G' => CQ F G r' F' G') := by
  unfold mh_named
  unfold mb_named_0
  refine PP.bind (mp_isSign (22 : Int32) F G) ?_
  rintro _ _ _ ⟨rfl, rfl, (⟨rfl, -⟩ | ⟨rfl, -⟩)⟩
  · dsimp only
    unfold mb_named_6
    refine PP.ite (fun c_2 => absurd c_2 (by decide)) (fun _ => ?_)
    unfold mb_named_9
    refine PP.bind (ihC 1 x1 (1 : Int32) F G (show 0 ≤ (F 60).toInt from t60) (by rw [(show F 70 = F 70 from (rfl : F 70 = F 70))]; exact t70)) ?_
    rintro r3 F3 G3 ⟨(rfl | rfl), u3⟩
    · dsimp only
      unfold mb_named_15
      refine PP.ret ?_
      exact ⟨Or.inl rfl, fun h => absurd h (by decide)⟩
    · dsimp only
      obtain ⟨a3, b3, c3, d3, e3⟩ := u3 rfl
      have k_4 : F3 70 = F 70 := a3.trans (show F 70 = F 70 from (rfl : F 70 = F 70))
      have k_5 : 0 ≤ (F3 60).toInt := b3
      have k_6 : sN F ≤ sN F3 := Nat.le_trans (show sN F ≤ sN F from (Nat.le_refl _ : sN F ≤ sN F)) d3
      have k_7 : CB F G G3 := CB.tr (show CB F G G from (fun _ _ => cEq.rf : CB F G G)) (show sN F ≤ sN F from (Nat.le_refl _ : sN F ≤ sN F)) e3
      have k_8 : PKp F G G3 := PKp.tr (show PKp F G G from (fun _ _ => ⟨rfl, rfl⟩ : PKp F G G)) c3 (show F 70 = F 70 from (rfl : F 70 = F 70))
      unfold mb_named_15
      refine PP.ret ?_
      exact ⟨Or.inr rfl, fun _ => ⟨(show F3 70 = F 70 from k_4), (show 0 ≤ (F3 60).toInt from k_5), (show PKp F G G3 from k_8), (show sN F ≤ sN F3 from k_6), (show CB F G G3 from k_7)⟩⟩
  · dsimp only
    unfold mb_named_6
    refine PP.ite (fun _ => ?_) (fun c_9 => absurd (by decide) c_9)
    unfold mb_named_16
    refine PP.ite (fun c_10 => ?_) (fun c_10 => ?_)
    · skip
      unfold mb_named_23
      exact mcj_named_32 rc ihC t70 x1 (-1 : Int32) F G ⟨(show F 70 = F 70 from (rfl : F 70 = F 70)), (show 0 ≤ (F 60).toInt from t60), (show PKp F G G from (fun _ _ => ⟨rfl, rfl⟩ : PKp F G G)), (show sN F ≤ sN F from (Nat.le_refl _ : sN F ≤ sN F)), (show CB F G G from (fun _ _ => cEq.rf : CB F G G))⟩
    · skip
      unfold mb_named_27
      refine PP.bind (mw_meaning x1 F G) ?_
      intro r11 F11 G11 hK11
      dsimp only
      have k_12 : F11 70 = F 70 := (hK11.1 70 rfl).trans (show F 70 = F 70 from (rfl : F 70 = F 70))
      have k_13 : 0 ≤ (F11 60).toInt := by rw [hK11.1 60 rfl]; exact (show 0 ≤ (F 60).toInt from t60)
      have k_14 : sN F ≤ sN F11 := S_eq (show sN F ≤ sN F from (Nat.le_refl _ : sN F ≤ sN F)) (hK11.1 60 rfl)
      have k_15 : CB F G G11 := CB.kx (show CB F G G from (fun _ _ => cEq.rf : CB F G G)) hK11 rfl rfl rfl rfl
      have k_16 : PKp F G G11 := PKp.kx (show PKp F G G from (fun _ _ => ⟨rfl, rfl⟩ : PKp F G G)) hK11 rfl rfl
      exact mcj_named_32 rc ihC t70 x1 r11 F11 G11 ⟨(show F11 70 = F 70 from k_12), (show 0 ≤ (F11 60).toInt from k_13), (show PKp F G G11 from k_16), (show sN F ≤ sN F11 from k_14), (show CB F G G11 from k_15)⟩
theorem mcj_operand_32 {fu : Nat} (rc : RC) (ihC : mCI rc) {F0 : PF} {G0 : PG} (t70 : 0 ≤ (F0 70).toInt) (ag_5 : Int32 → PF → PG → PR) (hag_5 : ∀ (x1 : Int32) (F : PF) (G : PG) (hA : F 70 = F0 70 ∧ 0 ≤ (F 60).toInt ∧ PKp F0 G0 G ∧ sN F0 ≤ sN F ∧ CB F0 G0 G), PP (ag_5 x1 F G) (fun r' F' G' => CQ F0 G0 r' F' G')) (x1 : Int32) (F : PF) (G : PG) (hA : F 70 = F0 70 ∧ 0 ≤ (F 60).toInt ∧ PKp F0 G0 G ∧ sN F0 ≤ sN F ∧ CB F0 G0 G) : PP (mb_operand_32 fu rc ag_5 x1 F G) (fun r' F' G' => CQ F0 G0 r' F' G') := by
  obtain ⟨hE, h6, hP, hS, hC⟩ := hA
  unfold mb_operand_32
  unfold mb_operand_42
  exact hag_5 x1 (fup F 42 ((F 42) + (1 : Int32))) G ⟨(show (fup F 42 ((F 42) + (1 : Int32))) 70 = F0 70 from hE), (show 0 ≤ ((fup F 42 ((F 42) + (1 : Int32))) 60).toInt from h6), (show PKp F0 G0 G from hP), (show sN F0 ≤ sN (fup F 42 ((F 42) + (1 : Int32))) from hS), (show CB F0 G0 G from hC)⟩
theorem mcz_operand_63 {fu : Nat} (rc : RC) (ihC : mCI rc) {F0 : PF} {G0 : PG} (t70 : 0 ≤ (F0 70).toInt) : ∀ (n : Nat) (x1 : Int32) (x3 : Int32) (F : PF) (G : PG) (hA : F 70 = F0 70 ∧ 0 ≤ (F 60).toInt ∧ PKp F0 G0 G ∧ sN F0 ≤ sN F ∧ CB F0 G0 G), PP (ml_operand_63 fu rc n x1 x3 F G) (fun r' F' G' => CQ F0 G0 r' F' G') := by
  intro n
  induction n with
  | zero =>
    intro x1 x3 F G hA
    exact PP.no
  | succ n ihn =>
    intro x1 x3 F G hA
    show PP (mb_operand_63 fu rc (ml_operand_63 fu rc n) x1 x3 F G) _
    obtain ⟨hE, h6, hP, hS, hC⟩ := hA
    unfold mb_operand_63
    refine PP.ite (fun c_1 => ?_) (fun c_1 => ?_)
    · skip
      unfold mb_operand_88
      refine PP.ret ?_
      exact ⟨Or.inr rfl, fun _ => ⟨(show F 70 = F0 70 from hE), (show 0 ≤ (F 60).toInt from h6), (show PKp F0 G0 G from hP), (show sN F0 ≤ sN F from hS), (show CB F0 G0 G from hC)⟩⟩
    · skip
      unfold mb_operand_68
      refine PP.ix (fun _ => ?_)
      refine PP.bind (mq_step (11 : Int32) (G 5 x3.toNatClampNeg) (0 : Int32) F G) ?_
      rintro _ F2 G2 ⟨hK2, rfl, e2, g2, n2⟩
      dsimp only
      have k_3 : F2 70 = F0 70 := (hK2.1 70 rfl).trans (show F 70 = F0 70 from hE)
      have k_4 : 0 ≤ (F2 60).toInt := inc60 n2 e2
      have k_5 : sN F0 ≤ sN F2 := S_st (show sN F0 ≤ sN F from hS) n2 e2
      have k_6 : CB F0 G0 G2 := CB.stp (show CB F0 G0 G from hC) (show sN F0 ≤ sN F from hS) g2
      have k_7 : PKp F0 G0 G2 := PKp.kx (show PKp F0 G0 G from hP) hK2 rfl rfl
      unfold mb_operand_81
      exact ihn x1 (x3 + (-1 : Int32)) F2 G2 ⟨(show F2 70 = F0 70 from k_3), (show 0 ≤ (F2 60).toInt from k_4), (show PKp F0 G0 G2 from k_7), (show sN F0 ≤ sN F2 from k_5), (show CB F0 G0 G2 from k_6)⟩
theorem mcz_operand_5 {fu : Nat} (rc : RC) (ihC : mCI rc) {F0 : PF} {G0 : PG} (t70 : 0 ≤ (F0 70).toInt) : ∀ (n : Nat) (x1 : Int32) (F : PF) (G : PG) (hA : F 70 = F0 70 ∧ 0 ≤ (F 60).toInt ∧ PKp F0 G0 G ∧ sN F0 ≤ sN F ∧ CB F0 G0 G), PP (ml_operand_5 fu rc n x1 F G) (fun r' F' G' => CQ F0 G0 r' F' G') := by
  intro n
  induction n with
  | zero =>
    intro x1 F G hA
    exact PP.no
  | succ n ihn =>
    intro x1 F G hA
    show PP (mb_operand_5 fu rc (ml_operand_5 fu rc n) x1 F G) _
    obtain ⟨hE, h6, hP, hS, hC⟩ := hA
    unfold mb_operand_5
    refine PP.bind (mp_isSign (39 : Int32) F G) ?_
    rintro _ _ _ ⟨rfl, rfl, (⟨rfl, -⟩ | ⟨rfl, -⟩)⟩
    · dsimp only
      unfold mb_operand_11
      refine PP.ite (fun c_2 => absurd c_2 (by decide)) (fun _ => ?_)
      exact mcj_operand_32 rc ihC t70 (ml_operand_5 fu rc n) ihn x1 F G ⟨(show F 70 = F0 70 from hE), (show 0 ≤ (F 60).toInt from h6), (show PKp F0 G0 G from hP), (show sN F0 ≤ sN F from hS), (show CB F0 G0 G from hC)⟩
    · dsimp only
      unfold mb_operand_11
      refine PP.ite (fun _ => ?_) (fun c_3 => absurd (by decide) c_3)
      unfold mb_operand_14
      refine PP.bind (mp_isSign (43 : Int32) F G) ?_
      rintro _ _ _ ⟨rfl, rfl, (⟨rfl, -⟩ | ⟨rfl, -⟩)⟩
      · dsimp only
        unfold mb_operand_20
        refine PP.ite (fun c_5 => absurd c_5 (by decide)) (fun _ => ?_)
        exact mcj_operand_32 rc ihC t70 (ml_operand_5 fu rc n) ihn x1 F G ⟨(show F 70 = F0 70 from hE), (show 0 ≤ (F 60).toInt from h6), (show PKp F0 G0 G from hP), (show sN F0 ≤ sN F from hS), (show CB F0 G0 G from hC)⟩
      · dsimp only
        unfold mb_operand_20
        refine PP.ite (fun _ => ?_) (fun c_6 => absurd (by decide) c_6)
        unfold mb_operand_23
        refine PP.bind (mp_isSign (44 : Int32) F G) ?_
        rintro _ _ _ ⟨rfl, rfl, (⟨rfl, -⟩ | ⟨rfl, -⟩)⟩
        · dsimp only
          unfold mb_operand_29
          refine PP.ite (fun c_8 => absurd c_8 (by decide)) (fun _ => ?_)
          exact mcj_operand_32 rc ihC t70 (ml_operand_5 fu rc n) ihn x1 F G ⟨(show F 70 = F0 70 from hE), (show 0 ≤ (F 60).toInt from h6), (show PKp F0 G0 G from hP), (show sN F0 ≤ sN F from hS), (show CB F0 G0 G from hC)⟩
        · dsimp only
          unfold mb_operand_29
          refine PP.ite (fun _ => ?_) (fun c_9 => absurd (by decide) c_9)
          unfold mb_operand_45
          refine PP.bind (ihC 8 0 0 F G (show 0 ≤ (F 60).toInt from h6) (by rw [(show F 70 = F0 70 from hE)]; exact t70)) ?_
          rintro r10 F10 G10 ⟨(rfl | rfl), u10⟩
          · dsimp only
            unfold mb_operand_54
            refine PP.ite (fun _ => ?_) (fun c_11 => absurd (by decide) c_11)
            unfold mb_operand_57
            refine PP.ret ?_
            exact ⟨Or.inl rfl, fun h => absurd h (by decide)⟩
          · dsimp only
            obtain ⟨a10, b10, c10, d10, e10⟩ := u10 rfl
            have k_12 : F10 70 = F0 70 := a10.trans (show F 70 = F0 70 from hE)
            have k_13 : 0 ≤ (F10 60).toInt := b10
            have k_14 : sN F0 ≤ sN F10 := Nat.le_trans (show sN F0 ≤ sN F from hS) d10
            have k_15 : CB F0 G0 G10 := CB.tr (show CB F0 G0 G from hC) (show sN F0 ≤ sN F from hS) e10
            have k_16 : PKp F0 G0 G10 := PKp.tr (show PKp F0 G0 G from hP) c10 (show F 70 = F0 70 from hE)
            unfold mb_operand_54
            refine PP.ite (fun c_17 => absurd c_17 (by decide)) (fun _ => ?_)
            unfold mb_operand_59
            exact mcz_operand_63 rc ihC t70 fu x1 ((F 42) - (1 : Int32)) F10 G10 ⟨(show F10 70 = F0 70 from k_12), (show 0 ≤ (F10 60).toInt from k_13), (show PKp F0 G0 G10 from k_16), (show sN F0 ≤ sN F10 from k_14), (show CB F0 G0 G10 from k_15)⟩
theorem mct_operand {fu : Nat} (rc : RC) (ihC : mCI rc) (F : PF) (G : PG) (t60 : 0 ≤ (F 60).toInt) (t70 : 0 ≤ (F 70).toInt) : PP (mh_operand fu rc F G) (fun r' F' G' => CQ F G r' F' G') := by
  unfold mh_operand
  unfold mb_operand_0
  exact mcz_operand_5 rc ihC t70 fu (F 42) F G ⟨(show F 70 = F 70 from (rfl : F 70 = F 70)), (show 0 ≤ (F 60).toInt from t60), (show PKp F G G from (fun _ _ => ⟨rfl, rfl⟩ : PKp F G G)), (show sN F ≤ sN F from (Nat.le_refl _ : sN F ≤ sN F)), (show CB F G G from (fun _ _ => cEq.rf : CB F G G))⟩
theorem mct_plain {fu : Nat} (rc : RC) (ihC : mCI rc) (F : PF) (G : PG) (t60 : 0 ≤ (F 60).toInt) (t70 : 0 ≤ (F 70).toInt) : PP (mh_plain fu rc F G) (fun r' F' G' => CQ F G r' F' G') := by
  unfold mh_plain
  unfold mb_plain_0
  refine PP.ix (fun _ => ?_)
  refine PP.ite (fun c_1 => ?_) (fun c_1 => ?_)
  · skip
    unfold mb_plain_13
    refine PP.ix (fun _ => ?_)
    refine PP.bind (mq_step (0 : Int32) (G 5 (F 42).toNatClampNeg) (0 : Int32) F G) ?_
    rintro _ F2 G2 ⟨hK2, rfl, e2, g2, n2⟩
    dsimp only
    have k_3 : F2 70 = F 70 := (hK2.1 70 rfl).trans (show F 70 = F 70 from (rfl : F 70 = F 70))
    have k_4 : 0 ≤ (F2 60).toInt := inc60 n2 e2
    have k_5 : sN F ≤ sN F2 := S_st (show sN F ≤ sN F from (Nat.le_refl _ : sN F ≤ sN F)) n2 e2
    have k_6 : CB F G G2 := CB.stp (show CB F G G from (fun _ _ => cEq.rf : CB F G G)) (show sN F ≤ sN F from (Nat.le_refl _ : sN F ≤ sN F)) g2
    have k_7 : PKp F G G2 := PKp.kx (show PKp F G G from (fun _ _ => ⟨rfl, rfl⟩ : PKp F G G)) hK2 rfl rfl
    unfold mb_plain_28
    unfold mb_plain_39
    refine PP.ret ?_
    exact ⟨Or.inr rfl, fun _ => ⟨(show (fup F2 42 ((F2 42) + (1 : Int32))) 70 = F 70 from k_3), (show 0 ≤ ((fup F2 42 ((F2 42) + (1 : Int32))) 60).toInt from k_4), (show PKp F G G2 from k_7), (show sN F ≤ sN (fup F2 42 ((F2 42) + (1 : Int32))) from k_5), (show CB F G G2 from k_6)⟩⟩
  · skip
    unfold mb_plain_41
    refine PP.bind (mp_isSign (22 : Int32) F G) ?_
    rintro _ _ _ ⟨rfl, rfl, (⟨rfl, -⟩ | ⟨rfl, -⟩)⟩
    · dsimp only
      unfold mb_plain_47
      refine PP.ite (fun c_9 => absurd c_9 (by decide)) (fun _ => ?_)
      unfold mb_plain_50
      refine PP.bind (mw_opens F G) ?_
      intro r10 F10 G10 hK10
      dsimp only
      have k_11 : F10 70 = F 70 := (hK10.1 70 rfl).trans (show F 70 = F 70 from (rfl : F 70 = F 70))
      have k_12 : 0 ≤ (F10 60).toInt := by rw [hK10.1 60 rfl]; exact (show 0 ≤ (F 60).toInt from t60)
      have k_13 : sN F ≤ sN F10 := S_eq (show sN F ≤ sN F from (Nat.le_refl _ : sN F ≤ sN F)) (hK10.1 60 rfl)
      have k_14 : CB F G G10 := CB.kx (show CB F G G from (fun _ _ => cEq.rf : CB F G G)) hK10 rfl rfl rfl rfl
      have k_15 : PKp F G G10 := PKp.kx (show PKp F G G from (fun _ _ => ⟨rfl, rfl⟩ : PKp F G G)) hK10 rfl rfl
      unfold mb_plain_54
      refine PP.ite (fun c_16 => ?_) (fun c_16 => ?_)
      · skip
        unfold mb_plain_77
        unfold mb_plain_78
        refine PP.ret ?_
        exact ⟨Or.inl rfl, fun h => absurd h (by decide)⟩
      · skip
        unfold mb_plain_57
        refine PP.bind (ihC 4 0 0 F10 G10 (show 0 ≤ (F10 60).toInt from k_12) (by rw [(show F10 70 = F 70 from k_11)]; exact t70)) ?_
        rintro r17 F17 G17 ⟨(rfl | rfl), u17⟩
        · dsimp only
          unfold mb_plain_61
          refine PP.ite (fun _ => ?_) (fun c_18 => absurd (by decide) c_18)
          unfold mb_plain_77
          unfold mb_plain_78
          refine PP.ret ?_
          exact ⟨Or.inl rfl, fun h => absurd h (by decide)⟩
        · dsimp only
          obtain ⟨a17, b17, c17, d17, e17⟩ := u17 rfl
          have k_19 : F17 70 = F 70 := a17.trans (show F10 70 = F 70 from k_11)
          have k_20 : 0 ≤ (F17 60).toInt := b17
          have k_21 : sN F ≤ sN F17 := Nat.le_trans (show sN F ≤ sN F10 from k_13) d17
          have k_22 : CB F G G17 := CB.tr (show CB F G G10 from k_14) (show sN F ≤ sN F10 from k_13) e17
          have k_23 : PKp F G G17 := PKp.tr (show PKp F G G10 from k_15) c17 (show F10 70 = F 70 from k_11)
          unfold mb_plain_61
          refine PP.ite (fun c_24 => absurd c_24 (by decide)) (fun _ => ?_)
          unfold mb_plain_64
          refine PP.bind (mw_closeSign (23 : Int32) F17 G17) ?_
          intro r25 F25 G25 hK25
          dsimp only
          have k_26 : F25 70 = F 70 := (hK25.1 70 rfl).trans (show F17 70 = F 70 from k_19)
          have k_27 : 0 ≤ (F25 60).toInt := by rw [hK25.1 60 rfl]; exact (show 0 ≤ (F17 60).toInt from k_20)
          have k_28 : sN F ≤ sN F25 := S_eq (show sN F ≤ sN F17 from k_21) (hK25.1 60 rfl)
          have k_29 : CB F G G25 := CB.kx (show CB F G G17 from k_22) hK25 rfl rfl rfl rfl
          have k_30 : PKp F G G25 := PKp.kx (show PKp F G G17 from k_23) hK25 rfl rfl
          unfold mb_plain_70
          refine PP.ite (fun c_31 => ?_) (fun c_31 => ?_)
          · skip
            unfold mb_plain_77
            unfold mb_plain_78
            refine PP.ret ?_
            exact ⟨Or.inl rfl, fun h => absurd h (by decide)⟩
          · skip
            unfold mb_plain_73
            unfold mb_plain_78
            refine PP.ret ?_
            exact ⟨Or.inr rfl, fun _ => ⟨(show F25 70 = F 70 from k_26), (show 0 ≤ (F25 60).toInt from k_27), (show PKp F G G25 from k_30), (show sN F ≤ sN F25 from k_28), (show CB F G G25 from k_29)⟩⟩
    · dsimp only
      unfold mb_plain_47
      refine PP.ite (fun _ => ?_) (fun c_32 => absurd (by decide) c_32)
      unfold mb_plain_79
      refine PP.bind (mp_isWord (13 : Int32) F G) ?_
      rintro _ _ _ ⟨rfl, rfl, (⟨rfl, -⟩ | ⟨rfl, -⟩)⟩
      · dsimp only
        unfold mb_plain_85
        refine PP.ite (fun c_34 => absurd c_34 (by decide)) (fun _ => ?_)
        unfold mb_plain_88
        refine PP.ite (fun c_35 => ?_) (fun c_35 => ?_)
        · skip
          unfold mb_plain_115
          unfold mb_plain_125
          refine PP.bind (mw_openSign (22 : Int32) (fup F 42 ((F 42) + (1 : Int32))) G) ?_
          intro r36 F36 G36 hK36
          dsimp only
          have k_37 : F36 70 = F 70 := (hK36.1 70 rfl).trans (show (fup F 42 ((F 42) + (1 : Int32))) 70 = F 70 from (rfl : F 70 = F 70))
          have k_38 : 0 ≤ (F36 60).toInt := by rw [hK36.1 60 rfl]; exact (show 0 ≤ ((fup F 42 ((F 42) + (1 : Int32))) 60).toInt from t60)
          have k_39 : sN F ≤ sN F36 := S_eq (show sN F ≤ sN (fup F 42 ((F 42) + (1 : Int32))) from (Nat.le_refl _ : sN F ≤ sN F)) (hK36.1 60 rfl)
          have k_40 : CB F G G36 := CB.kx (show CB F G G from (fun _ _ => cEq.rf : CB F G G)) hK36 rfl rfl rfl rfl
          have k_41 : PKp F G G36 := PKp.kx (show PKp F G G from (fun _ _ => ⟨rfl, rfl⟩ : PKp F G G)) hK36 rfl rfl
          unfold mb_plain_131
          refine PP.ite (fun c_42 => ?_) (fun c_42 => ?_)
          · skip
            unfold mb_plain_143
            refine PP.ret ?_
            exact ⟨Or.inl rfl, fun h => absurd h (by decide)⟩
          · skip
            unfold mb_plain_134
            refine PP.bind (mw_closeSign (23 : Int32) F36 G36) ?_
            intro r43 F43 G43 hK43
            dsimp only
            have k_44 : F43 70 = F 70 := (hK43.1 70 rfl).trans (show F36 70 = F 70 from k_37)
            have k_45 : 0 ≤ (F43 60).toInt := by rw [hK43.1 60 rfl]; exact (show 0 ≤ (F36 60).toInt from k_38)
            have k_46 : sN F ≤ sN F43 := S_eq (show sN F ≤ sN F36 from k_39) (hK43.1 60 rfl)
            have k_47 : CB F G G43 := CB.kx (show CB F G G36 from k_40) hK43 rfl rfl rfl rfl
            have k_48 : PKp F G G43 := PKp.kx (show PKp F G G36 from k_41) hK43 rfl rfl
            unfold mb_plain_140
            refine PP.ite (fun c_49 => ?_) (fun c_49 => ?_)
            · skip
              unfold mb_plain_143
              refine PP.ret ?_
              exact ⟨Or.inl rfl, fun h => absurd h (by decide)⟩
            · skip
              unfold mb_plain_145
              refine PP.bind (mq_step (21 : Int32) (0 : Int32) (0 : Int32) F43 G43) ?_
              rintro _ F50 G50 ⟨hK50, rfl, e50, g50, n50⟩
              dsimp only
              have k_51 : F50 70 = F 70 := (hK50.1 70 rfl).trans (show F43 70 = F 70 from k_44)
              have k_52 : 0 ≤ (F50 60).toInt := inc60 n50 e50
              have k_53 : sN F ≤ sN F50 := S_st (show sN F ≤ sN F43 from k_46) n50 e50
              have k_54 : CB F G G50 := CB.stp (show CB F G G43 from k_47) (show sN F ≤ sN F43 from k_46) g50
              have k_55 : PKp F G G50 := PKp.kx (show PKp F G G43 from k_48) hK50 rfl rfl
              unfold mb_plain_153
              refine PP.ret ?_
              exact ⟨Or.inr rfl, fun _ => ⟨(show F50 70 = F 70 from k_51), (show 0 ≤ (F50 60).toInt from k_52), (show PKp F G G50 from k_55), (show sN F ≤ sN F50 from k_53), (show CB F G G50 from k_54)⟩⟩
        · skip
          unfold mb_plain_95
          refine PP.ix (fun _ => ?_)
          refine PP.bind (mw_note (10 : Int32) (G 6 (F 42).toNatClampNeg) F G) ?_
          intro r56 F56 G56 hK56
          dsimp only
          have k_57 : F56 70 = F 70 := (hK56.1 70 rfl).trans (show F 70 = F 70 from (rfl : F 70 = F 70))
          have k_58 : 0 ≤ (F56 60).toInt := by rw [hK56.1 60 rfl]; exact (show 0 ≤ (F 60).toInt from t60)
          have k_59 : sN F ≤ sN F56 := S_eq (show sN F ≤ sN F from (Nat.le_refl _ : sN F ≤ sN F)) (hK56.1 60 rfl)
          have k_60 : CB F G G56 := CB.kx (show CB F G G from (fun _ _ => cEq.rf : CB F G G)) hK56 rfl rfl rfl rfl
          have k_61 : PKp F G G56 := PKp.kx (show PKp F G G from (fun _ _ => ⟨rfl, rfl⟩ : PKp F G G)) hK56 rfl rfl
          unfold mb_plain_110
          unfold mb_plain_115
          unfold mb_plain_125
          refine PP.bind (mw_openSign (22 : Int32) (fup (fup F56 55 (1 : Int32)) 42 ((F56 42) + (1 : Int32))) G56) ?_
          intro r62 F62 G62 hK62
          dsimp only
          have k_63 : F62 70 = F 70 := (hK62.1 70 rfl).trans (show (fup (fup F56 55 (1 : Int32)) 42 ((F56 42) + (1 : Int32))) 70 = F 70 from k_57)
          have k_64 : 0 ≤ (F62 60).toInt := by rw [hK62.1 60 rfl]; exact (show 0 ≤ ((fup (fup F56 55 (1 : Int32)) 42 ((F56 42) + (1 : Int32))) 60).toInt from k_58)
          have k_65 : sN F ≤ sN F62 := S_eq (show sN F ≤ sN (fup (fup F56 55 (1 : Int32)) 42 ((F56 42) + (1 : Int32))) from k_59) (hK62.1 60 rfl)
          have k_66 : CB F G G62 := CB.kx (show CB F G G56 from k_60) hK62 rfl rfl rfl rfl
          have k_67 : PKp F G G62 := PKp.kx (show PKp F G G56 from k_61) hK62 rfl rfl
          unfold mb_plain_131
          refine PP.ite (fun c_68 => ?_) (fun c_68 => ?_)
          · skip
            unfold mb_plain_143
            refine PP.ret ?_
            exact ⟨Or.inl rfl, fun h => absurd h (by decide)⟩
          · skip
            unfold mb_plain_134
            refine PP.bind (mw_closeSign (23 : Int32) F62 G62) ?_
            intro r69 F69 G69 hK69
            dsimp only
            have k_70 : F69 70 = F 70 := (hK69.1 70 rfl).trans (show F62 70 = F 70 from k_63)
            have k_71 : 0 ≤ (F69 60).toInt := by rw [hK69.1 60 rfl]; exact (show 0 ≤ (F62 60).toInt from k_64)
            have k_72 : sN F ≤ sN F69 := S_eq (show sN F ≤ sN F62 from k_65) (hK69.1 60 rfl)
            have k_73 : CB F G G69 := CB.kx (show CB F G G62 from k_66) hK69 rfl rfl rfl rfl
            have k_74 : PKp F G G69 := PKp.kx (show PKp F G G62 from k_67) hK69 rfl rfl
            unfold mb_plain_140
            refine PP.ite (fun c_75 => ?_) (fun c_75 => ?_)
            · skip
              unfold mb_plain_143
              refine PP.ret ?_
              exact ⟨Or.inl rfl, fun h => absurd h (by decide)⟩
            · skip
              unfold mb_plain_145
              refine PP.bind (mq_step (21 : Int32) (0 : Int32) (0 : Int32) F69 G69) ?_
              rintro _ F76 G76 ⟨hK76, rfl, e76, g76, n76⟩
              dsimp only
              have k_77 : F76 70 = F 70 := (hK76.1 70 rfl).trans (show F69 70 = F 70 from k_70)
              have k_78 : 0 ≤ (F76 60).toInt := inc60 n76 e76
              have k_79 : sN F ≤ sN F76 := S_st (show sN F ≤ sN F69 from k_72) n76 e76
              have k_80 : CB F G G76 := CB.stp (show CB F G G69 from k_73) (show sN F ≤ sN F69 from k_72) g76
              have k_81 : PKp F G G76 := PKp.kx (show PKp F G G69 from k_74) hK76 rfl rfl
              unfold mb_plain_153
              refine PP.ret ?_
              exact ⟨Or.inr rfl, fun _ => ⟨(show F76 70 = F 70 from k_77), (show 0 ≤ (F76 60).toInt from k_78), (show PKp F G G76 from k_81), (show sN F ≤ sN F76 from k_79), (show CB F G G76 from k_80)⟩⟩
      · dsimp only
        unfold mb_plain_85
        refine PP.ite (fun _ => ?_) (fun c_82 => absurd (by decide) c_82)
        unfold mb_plain_156
        refine PP.ix (fun _ => ?_)
        refine PP.ite (fun c_83 => ?_) (fun c_83 => ?_)
        · skip
          unfold mb_plain_175
          unfold mb_plain_190
          refine PP.ite (fun c_84 => ?_) (fun c_84 => ?_)
          · skip
            unfold mb_plain_205
            refine PP.bind (ihC 6 (F 42) 0 (fup F 42 ((F 42) + (1 : Int32))) G (show 0 ≤ ((fup F 42 ((F 42) + (1 : Int32))) 60).toInt from t60) (by rw [(show (fup F 42 ((F 42) + (1 : Int32))) 70 = F 70 from (rfl : F 70 = F 70))]; exact t70)) ?_
            rintro r85 F85 G85 ⟨(rfl | rfl), u85⟩
            · dsimp only
              unfold mb_plain_210
              refine PP.ret ?_
              exact ⟨Or.inl rfl, fun h => absurd h (by decide)⟩
            · dsimp only
              obtain ⟨a85, b85, c85, d85, e85⟩ := u85 rfl
              have k_86 : F85 70 = F 70 := a85.trans (show (fup F 42 ((F 42) + (1 : Int32))) 70 = F 70 from (rfl : F 70 = F 70))
              have k_87 : 0 ≤ (F85 60).toInt := b85
              have k_88 : sN F ≤ sN F85 := Nat.le_trans (show sN F ≤ sN (fup F 42 ((F 42) + (1 : Int32))) from (Nat.le_refl _ : sN F ≤ sN F)) d85
              have k_89 : CB F G G85 := CB.tr (show CB F G G from (fun _ _ => cEq.rf : CB F G G)) (show sN F ≤ sN (fup F 42 ((F 42) + (1 : Int32))) from (Nat.le_refl _ : sN F ≤ sN F)) e85
              have k_90 : PKp F G G85 := PKp.tr (show PKp F G G from (fun _ _ => ⟨rfl, rfl⟩ : PKp F G G)) c85 (show (fup F 42 ((F 42) + (1 : Int32))) 70 = F 70 from (rfl : F 70 = F 70))
              unfold mb_plain_210
              refine PP.ret ?_
              exact ⟨Or.inr rfl, fun _ => ⟨(show F85 70 = F 70 from k_86), (show 0 ≤ (F85 60).toInt from k_87), (show PKp F G G85 from k_90), (show sN F ≤ sN F85 from k_88), (show CB F G G85 from k_89)⟩⟩
          · skip
            unfold mb_plain_197
            refine PP.bind (ihC 5 (F 42) 0 (fup F 42 ((F 42) + (1 : Int32))) G (show 0 ≤ ((fup F 42 ((F 42) + (1 : Int32))) 60).toInt from t60) (by rw [(show (fup F 42 ((F 42) + (1 : Int32))) 70 = F 70 from (rfl : F 70 = F 70))]; exact t70)) ?_
            rintro r91 F91 G91 ⟨(rfl | rfl), u91⟩
            · dsimp only
              unfold mb_plain_202
              unfold mb_plain_210
              refine PP.ret ?_
              exact ⟨Or.inl rfl, fun h => absurd h (by decide)⟩
            · dsimp only
              obtain ⟨a91, b91, c91, d91, e91⟩ := u91 rfl
              have k_92 : F91 70 = F 70 := a91.trans (show (fup F 42 ((F 42) + (1 : Int32))) 70 = F 70 from (rfl : F 70 = F 70))
              have k_93 : 0 ≤ (F91 60).toInt := b91
              have k_94 : sN F ≤ sN F91 := Nat.le_trans (show sN F ≤ sN (fup F 42 ((F 42) + (1 : Int32))) from (Nat.le_refl _ : sN F ≤ sN F)) d91
              have k_95 : CB F G G91 := CB.tr (show CB F G G from (fun _ _ => cEq.rf : CB F G G)) (show sN F ≤ sN (fup F 42 ((F 42) + (1 : Int32))) from (Nat.le_refl _ : sN F ≤ sN F)) e91
              have k_96 : PKp F G G91 := PKp.tr (show PKp F G G from (fun _ _ => ⟨rfl, rfl⟩ : PKp F G G)) c91 (show (fup F 42 ((F 42) + (1 : Int32))) 70 = F 70 from (rfl : F 70 = F 70))
              unfold mb_plain_202
              unfold mb_plain_210
              refine PP.ret ?_
              exact ⟨Or.inr rfl, fun _ => ⟨(show F91 70 = F 70 from k_92), (show 0 ≤ (F91 60).toInt from k_93), (show PKp F G G91 from k_96), (show sN F ≤ sN F91 from k_94), (show CB F G G91 from k_95)⟩⟩
        · skip
          unfold mb_plain_169
          refine PP.bind (mw_fails (2 : Int32) F G) ?_
          intro r97 F97 G97 hK97
          dsimp only
          have k_98 : F97 70 = F 70 := (hK97.1 70 rfl).trans (show F 70 = F 70 from (rfl : F 70 = F 70))
          have k_99 : 0 ≤ (F97 60).toInt := by rw [hK97.1 60 rfl]; exact (show 0 ≤ (F 60).toInt from t60)
          have k_100 : sN F ≤ sN F97 := S_eq (show sN F ≤ sN F from (Nat.le_refl _ : sN F ≤ sN F)) (hK97.1 60 rfl)
          have k_101 : CB F G G97 := CB.kx (show CB F G G from (fun _ _ => cEq.rf : CB F G G)) hK97 rfl rfl rfl rfl
          have k_102 : PKp F G G97 := PKp.kx (show PKp F G G from (fun _ _ => ⟨rfl, rfl⟩ : PKp F G G)) hK97 rfl rfl
          unfold mb_plain_174
          refine PP.bz (fun hz103 => ?_)
          refine PP.ret ?_
          exact ⟨hz103, fun _ => ⟨(show F97 70 = F 70 from k_98), (show 0 ≤ (F97 60).toInt from k_99), (show PKp F G G97 from k_102), (show sN F ≤ sN F97 from k_100), (show CB F G G97 from k_101)⟩⟩
