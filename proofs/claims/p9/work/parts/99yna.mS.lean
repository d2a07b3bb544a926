/-- what is told stands in the order of its scopes -/
def SI (F : PF) (G : PG) : Prop := 0 ≤ (F 14).toInt ∧ (∀ k : Nat, (k : Int) < (F 14).toInt → 0 ≤ (G 19 k).toInt ∧ (G 19 k).toInt ≤ (F 15).toInt ∧ (¬ G 23 k = 0 → 1 ≤ (G 19 k).toInt) ∧ (G 23 k = 0 → G 17 k = 2 → ¬ G 21 k = -1)) ∧ ∀ i j : Nat, i ≤ j → (j : Int) < (F 14).toInt → (G 19 i).toInt ≤ (G 19 j).toInt
def SS (c : Int) (F : PF) (G : PG) : Prop := SI F G ∧ 1 ≤ (F 15).toInt ∧ (F 15).toInt + c ≤ 400
def SJ (c j : Int) (x : Int32) (F0 : PF) (G0 : PG) (F : PF) (G : PG) : Prop := F 44 = 0 → F0 44 = 0 ∧ (SS c F0 G0 → SI F G ∧ (F 15).toInt = (F0 15).toInt + j ∧ x = F0 15)
section SJS
variable {c j : Int} {x : Int32} {F0 F F1 : PF} {G0 G G1 : PG}
theorem SJ.rf : SJ c 0 (F 15) F G F G := fun h => ⟨h, fun s => ⟨s.1, by omega, rfl⟩⟩
theorem SI.kx {a b : List Nat} (h : SI F G) (K : KX a b F G F1 G1) (e14 : a.contains 14 = false) (e15 : a.contains 15 = false) (g17 : b.contains 17 = false) (g19 : b.contains 19 = false) (g21 : b.contains 21 = false) (g23 : b.contains 23 = false) : SI F1 G1 := by
  unfold SI
  rw [K.1 14 e14, K.1 15 e15, K.2 17 g17, K.2 19 g19, K.2 21 g21, K.2 23 g23]
  exact h
theorem SJ.f {k : Nat} {v : Int32} (e : (k != 14 && k != 15 && k != 44) = true) (h : SJ c j x F0 G0 F G) : SJ c j x F0 G0 (fup F k v) G := by
  simp only [Bool.and_eq_true, bne_iff_ne] at e
  intro z
  have e44 : fup F k v 44 = F 44 := fup_n (Ne.symm e.2)
  have e14 : fup F k v 14 = F 14 := fup_n (Ne.symm e.1.1)
  have e15 : fup F k v 15 = F 15 := fup_n (Ne.symm e.1.2)
  rw [e44] at z
  obtain ⟨h1, h2⟩ := h z
  refine ⟨h1, fun s => ?_⟩
  unfold SI
  rw [e14, e15]
  exact h2 s
theorem SJ.g {k i : Nat} {v : Int32} (e : (k != 19 && k != 23 && k != 17 && k != 21) = true) (h : SJ c j x F0 G0 F G) : SJ c j x F0 G0 F (gup G k i v) := by
  simp only [Bool.and_eq_true, bne_iff_ne] at e
  intro z
  obtain ⟨h1, h2⟩ := h z
  refine ⟨h1, fun s => ?_⟩
  have g19 : gup G k i v 19 = G 19 := gup_o (Ne.symm e.1.1.1)
  have g23 : gup G k i v 23 = G 23 := gup_o (Ne.symm e.1.1.2)
  have g17 : gup G k i v 17 = G 17 := gup_o (Ne.symm e.1.2)
  have g21 : gup G k i v 21 = G 21 := gup_o (Ne.symm e.2)
  unfold SI
  rw [g17, g19, g21, g23]
  exact h2 s
def sio (a b : List Nat) : Bool := !(a.contains 14 || a.contains 15 || b.contains 17 || b.contains 19 || b.contains 21 || b.contains 23)
theorem SJ.kx {a b : List Nat} (h : SJ c j x F0 G0 F G) (K : KX a b F G F1 G1) (M : M4 F F1) (e : sio a b = true) : SJ c j x F0 G0 F1 G1 := by
  unfold sio at e
  simp only [Bool.not_eq_true', Bool.or_eq_false_iff] at e
  obtain ⟨⟨⟨⟨⟨e14, e15⟩, g17⟩, g19⟩, g21⟩, g23⟩ := e
  intro z
  obtain ⟨h1, h2⟩ := h (M z)
  refine ⟨h1, fun s => ?_⟩
  obtain ⟨s1, s2, s3⟩ := h2 s
  exact ⟨s1.kx K e14 e15 g17 g19 g21 g23, by rw [K.1 15 e15]; exact s2, s3⟩
theorem SJ.tr {c1 : Int} (h : SJ c j x F0 G0 F G) (h1 : SJ c1 0 (F 15) F G F1 G1) (hc : c1 + j ≤ c) (hj : 0 ≤ j) : SJ c j x F0 G0 F1 G1 := by
  intro z
  obtain ⟨a1, a2⟩ := h1 z
  obtain ⟨b1, b2⟩ := h a1
  refine ⟨b1, fun s => ?_⟩
  obtain ⟨s1, s2, s3⟩ := b2 s
  obtain ⟨-, p1, p2⟩ := s
  obtain ⟨t1, t2, -⟩ := a2 ⟨s1, by omega, by omega⟩
  exact ⟨t1, by omega, s3⟩
theorem mp_begins {fu : Nat} (F : PF) (G : PG) : PP (mf_begins fu F G) (fun _ F1 G1 => F1 = fup F 15 (F 15 + 1) ∧ G1 = G) := PP.ret ⟨rfl, rfl⟩
theorem SJ.bg (h : SJ c 0 x F0 G0 F G) (e : F1 = fup F 15 (F 15 + 1) ∧ G1 = G) (hc : 1 ≤ c) : SJ c 1 (F 15) F0 G0 F1 G1 := by
  obtain ⟨rfl, rfl⟩ := e
  intro z
  obtain ⟨b1, b2⟩ := h z
  refine ⟨b1, fun s => ?_⟩
  obtain ⟨⟨s0, s1, s4⟩, s2, s3⟩ := b2 s
  obtain ⟨-, p1, p2⟩ := s
  have i1 : (F 15 + 1).toInt = (F 15).toInt + 1 := i_addn _ rfl (by omega) (by omega)
  refine ⟨⟨s0, fun k hk => ?_, s4⟩, ?_, i_eq.mpr (by omega)⟩
  · have := s1 k hk
    refine ⟨this.1, ?_, this.2.2⟩
    show _ ≤ (F 15 + 1).toInt
    omega
  · show (F 15 + 1).toInt = _
    omega
/-- what ends leaves -/
def ENQ (x : Int32) (F : PF) (G : PG) (F1 : PF) (G1 : PG) : Prop := G1 = G ∧ F1 15 = x ∧ F1 44 = F 44 ∧ (0 ≤ (F 14).toInt → 0 ≤ (F1 14).toInt ∧ (F1 14).toInt ≤ (F 14).toInt ∧ ((F1 14).toInt ≤ 0 ∨ (G 19 ((F1 14).toInt - 1).toNat).toInt ≤ x.toInt))
theorem mp_ends2 {fu : Nat} (x : Int32) (F : PF) (G : PG) : PP (mf_ends fu x F G) (fun _ F1 G1 => ENQ x F G F1 G1) := by
  have lp : ∀ (n : Nat) (F : PF), PP (ml_ends_0 fu n x F G) (fun _ F1 G1 => ENQ x F G F1 G1) := by
    intro n
    induction n with
    | zero => intro F; exact PP.no
    | succ n ih =>
      intro F
      show PP (mb_ends_0 fu (ml_ends_0 fu n) x F G) _
      unfold mb_ends_0
      refine PP.ite (fun c => ?_) (fun c => ?_)
      · unfold mb_ends_35 mb_ends_40
        have c := i_le.mp c
        have z : (0 : Int32).toInt = 0 := rfl
        exact PP.ret ⟨rfl, rfl, rfl, fun h => ⟨h, Int.le_refl _, Or.inl (by show (F 14).toInt ≤ 0; omega)⟩⟩
      · have c := mt i_le.mpr c
        have z : (0 : Int32).toInt = 0 := rfl
        have i1 : (F 14 - 1).toInt = (F 14).toInt - 1 := i_subn _ rfl (by have := i_rng (F 14); omega) (by have := i_rng (F 14); omega)
        unfold mb_ends_7
        refine PP.ix (fun _ => PP.ite (fun c1 => ?_) (fun _ => ?_))
        · unfold mb_ends_35 mb_ends_40
          refine PP.ret ⟨rfl, rfl, rfl, fun h => ⟨h, Int.le_refl _, Or.inr ?_⟩⟩
          have c1 := i_le.mp c1
          show (G 19 ((F 14).toInt - 1).toNat).toInt ≤ _
          rw [← i1]
          exact c1
        · unfold mb_ends_22 mb_ends_32
          refine PP.mono (ih (fup F 14 (F 14 - 1))) ?_
          rintro r F1 G1 ⟨e1, e2, e3, e4⟩
          refine ⟨e1, e2, e3, fun h => ?_⟩
          have e4 := e4 (show 0 ≤ (F 14 - 1).toInt by omega)
          have e5 : (F1 14).toInt ≤ (F 14 - 1).toInt := e4.2.1
          exact ⟨e4.1, by omega, e4.2.2⟩
  exact lp fu F
theorem SI.en (h : SI F G) (e : ENQ x F G F1 G1) (hx : 0 ≤ x.toInt) : SI F1 G1 := by
  obtain ⟨rfl, e15, -, e⟩ := e
  obtain ⟨s0, s1, s2⟩ := h
  obtain ⟨e1, e2, e3⟩ := e s0
  refine ⟨e1, fun k hk => ?_, fun i j hij hj => s2 i j hij (by omega)⟩
  have := s1 k (by omega)
  refine ⟨this.1, ?_, this.2.2⟩
  rw [e15]
  rcases e3 with e3 | e3
  · omega
  · have := s2 k ((F1 14).toInt - 1).toNat (by omega) (by omega)
    omega
theorem SJ.en (h : SJ c 1 x F0 G0 F G) (e : ENQ x F G F1 G1) : SJ c 0 (F0 15) F0 G0 F1 G1 := by
  intro z
  rw [e.2.2.1] at z
  obtain ⟨b1, b2⟩ := h z
  refine ⟨b1, fun s => ?_⟩
  obtain ⟨s1, s2, s3⟩ := b2 s
  refine ⟨s1.en e (by rw [s3]; have := s.2.1; omega), ?_, rfl⟩
  rw [e.2.1, s3]
  omega
theorem SJ.dc {x2 x4 x5 x6 : Int32} (h : SJ c 0 x F0 G0 F G) (e : KX [14] [16, 17, 18, 19, 20, 21, 22, 23] F G F1 G1 ∧ ((F 46 = 0 ∧ F1 = F ∧ G1 = G) ∨ (¬ F 46 = 0 ∧ DCL F G x2 x4 x5 x6 F1 G1))) (h6 : ¬ vp_nar .boolean x6 = 0) : SJ c 0 x F0 G0 F1 G1 := by
  obtain ⟨K, e⟩ := e
  intro z
  rw [K.1 44 rfl] at z
  obtain ⟨b1, b2⟩ := h z
  refine ⟨b1, fun s => ?_⟩
  obtain ⟨⟨s0, s1, s4⟩, s2, s3⟩ := b2 s
  have p1 := s.2.1
  rw [K.1 15 rfl]
  refine ⟨?_, s2, s3⟩
  rcases e with ⟨-, rfl, rfl⟩ | ⟨-, d1, d2, d3, d4, d5, d6, d7, d8⟩
  · exact ⟨s0, s1, s4⟩
  · have v := vp_in_iff.mp d1
    have i1 : (F 14 + 1).toInt = (F 14).toInt + 1 := i_addn _ rfl (by omega) (by omega)
    have nn := nN_of s0
    unfold SI
    rw [d2, K.1 15 rfl, i1]
    refine ⟨by omega, fun k hk => ?_, fun i j hij hj => ?_⟩
    · by_cases ek : k = (F 14).toNatClampNeg
      · rw [ek, d5, d8]
        exact ⟨by omega, Int.le_refl _, fun _ => by omega, fun z => absurd z h6⟩
      · obtain ⟨f1, f2, -, f4, f5⟩ := d3 k ek
        rw [f1, f2, f4, f5]
        exact s1 k (by omega)
    · by_cases ej : j = (F 14).toNatClampNeg
      · rw [ej, d5]
        by_cases ei : i = (F 14).toNatClampNeg
        · rw [ei, d5]
          exact Int.le_refl _
        · rw [(d3 i ei).2.1]
          exact (s1 i (by omega)).2.1
      · rw [(d3 j ej).2.1, (d3 i (by omega)).2.1]
        exact s4 i j hij (by omega)
theorem SJ.up {o : PR} {OX : OR} (h : PP o (fun r F1 G1 => r = 1 → SJ c 0 (F 15) F G F1 G1)) (h4 : PP o (fun _ F1 _ => M4 F F1)) (hr : F 44 = 0 → PP o (fun r F1 _ => ROK OX F r F1)) : PP o (fun _ F1 G1 => SJ c 0 (F 15) F G F1 G1) := by
  intro r F1 G1 e z
  have z0 := h4 r F1 G1 e z
  rcases hr z0 r F1 G1 e with ⟨r1, -⟩ | ⟨-, q, -⟩
  · exact h r F1 G1 e r1 z
  · rw [z] at q
    exact absurd q (by decide)
end SJS
def mSGI (d : Nat) (rc : RC) : Prop := ∀ (i : Nat) (x y : Int32) (F : PF) (G : PG), PP (rc i x y F G) (fun _ F1 G1 => SJ (d : Int) 0 (F 15) F G F1 G1)

theorem mksj_tellHere_326 {fu : Nat} {F0 : PF} {G0 : PG} (x3 : Int32) (x4 : Int32) (F : PF) (G : PG) (hM : SJ 0 0 (F0 15) F0 G0 F G) : PP (mb_tellHere_326 fu x3 x4 F G) (fun _ F' G' => SJ 0 0 (F0 15) F0 G0 F' G') := by
  unfold mb_tellHere_326
  refine PP.bind (mw_step (2 : Int32) x4 (0 : Int32) F G) ?_
  intro r1 F1 G1 hM1
  dsimp only
  unfold mb_tellHere_334
  refine PP.bind (mp_declare x3 (1 : Int32) (0 : Int32) x4 (1 : Int32) (1 : Int32) F1 G1) ?_
  intro r2 F2 G2 hM2
  dsimp only
  unfold mb_tellHere_346
  refine PP.ret ?_
  exact (SJ.dc (SJ.kx hM hM1 (M4.kx hM1 rfl) rfl) hM2 (by decide))
theorem mksj_tellHere_273 {fu : Nat} {F0 : PF} {G0 : PG} (x1 : Int32) (x3 : Int32) (x4 : Int32) (z0 : Int32) (z1 : Int32) (F : PF) (G : PG) (hM : SJ 0 0 (F0 15) F0 G0 F G) : PP (mb_tellHere_273 fu x1 x3 x4 z0 z1 F G) (fun _ F' G' => SJ 0 0 (F0 15) F0 G0 F' G') := by
  unfold mb_tellHere_273
  unfold mb_tellHere_277
  refine PP.bind (mw_isSign (32 : Int32) (fup F 53 (z1 + z0)) G) ?_
  intro r1 F1 G1 hM1
  dsimp only
  unfold mb_tellHere_283
  refine PP.ite (fun c_2 => ?_) (fun c_2 => ?_)
  · skip
    unfold mb_tellHere_305
    refine PP.ite (fun c_3 => ?_) (fun c_3 => ?_)
    · skip
      unfold mb_tellHere_320
      refine PP.bind (PP.and (mw_fails (2 : Int32) F1 G1) (m4_fails (2 : Int32) (by decide) F1 G1)) ?_
      intro r4 F4 G4 hM4
      dsimp only
      unfold mb_tellHere_325
      refine PP.bz (fun _ => ?_)
      refine PP.ret ?_
      exact (SJ.kx (SJ.kx (SJ.f (k := 53) (by decide) hM) hM1 (M4.kx hM1 rfl) rfl) hM4.1 hM4.2 rfl)
    · skip
      unfold mb_tellHere_309
      refine PP.bind (mw_step (0 : Int32) (0 : Int32) (0 : Int32) F1 G1) ?_
      intro r5 F5 G5 hM5
      dsimp only
      unfold mb_tellHere_316
      exact mksj_tellHere_326 x3 x4 F5 G5 (SJ.kx (SJ.kx (SJ.f (k := 53) (by decide) hM) hM1 (M4.kx hM1 rfl) rfl) hM5 (M4.kx hM5 rfl) rfl)
  · skip
    unfold mb_tellHere_286
    unfold mb_tellHere_296
    refine PP.bind (PP.and (mw_expression (fup F1 42 ((F1 42) + (1 : Int32))) G1) (m4_expression (fup F1 42 ((F1 42) + (1 : Int32))) G1)) ?_
    intro r6 F6 G6 hM6
    dsimp only
    unfold mb_tellHere_300
    refine PP.ite (fun c_7 => ?_) (fun c_7 => ?_)
    · skip
      unfold mb_tellHere_303
      refine PP.ret ?_
      exact (SJ.kx (SJ.f (k := 42) (by decide) (SJ.kx (SJ.f (k := 53) (by decide) hM) hM1 (M4.kx hM1 rfl) rfl)) hM6.1 hM6.2 rfl)
    · skip
      exact mksj_tellHere_326 x3 x4 F6 G6 (SJ.kx (SJ.f (k := 42) (by decide) (SJ.kx (SJ.f (k := 53) (by decide) hM) hM1 (M4.kx hM1 rfl) rfl)) hM6.1 hM6.2 rfl)
theorem mksj_tellHere_247 {fu : Nat} {F0 : PF} {G0 : PG} (x1 : Int32) (x3 : Int32) (F : PF) (G : PG) (hM : SJ 0 0 (F0 15) F0 G0 F G) : PP (mb_tellHere_247 fu x1 x3 F G) (fun _ F' G' => SJ 0 0 (F0 15) F0 G0 F' G') := by
  unfold mb_tellHere_247
  refine PP.ite (fun c_1 => ?_) (fun c_1 => ?_)
  · skip
    unfold mb_tellHere_272
    exact mksj_tellHere_273 x1 x3 (F 53) (1 : Int32) (F 53) F G hM
  · skip
    unfold mb_tellHere_268
    exact mksj_tellHere_273 x1 x3 (F 53) (0 : Int32) (F 53) F G hM
theorem mksj_tellHere_210 {fu : Nat} {F0 : PF} {G0 : PG} (x1 : Int32) (x3 : Int32) (F : PF) (G : PG) (hM : SJ 0 0 (F0 15) F0 G0 F G) : PP (mb_tellHere_210 fu x1 x3 F G) (fun _ F' G' => SJ 0 0 (F0 15) F0 G0 F' G') := by
  unfold mb_tellHere_210
  refine PP.bind (mw_twice x3 F G) ?_
  intro r1 F1 G1 hM1
  dsimp only
  unfold mb_tellHere_215
  unfold mb_tellHere_225
  refine PP.ite (fun c_2 => ?_) (fun c_2 => ?_)
  · skip
    exact mksj_tellHere_247 x1 x3 (fup F1 52 ((F1 52) + (1 : Int32))) G1 (SJ.f (k := 52) (by decide) (SJ.kx hM hM1 (M4.kx hM1 rfl) rfl))
  · skip
    unfold mb_tellHere_235
    refine PP.ix (fun _ => ?_)
    refine PP.bind (mw_note (11 : Int32) (G1 6 x3.toNatClampNeg) (fup F1 52 ((F1 52) + (1 : Int32))) G1) ?_
    intro r3 F3 G3 hM3
    dsimp only
    exact mksj_tellHere_247 x1 x3 F3 G3 (SJ.kx (SJ.f (k := 52) (by decide) (SJ.kx hM hM1 (M4.kx hM1 rfl) rfl)) hM3 (M4.kx hM3 rfl) rfl)
theorem mksj_tellHere_193 {fu : Nat} {F0 : PF} {G0 : PG} (x5 : Int32) (z0 : Int32) (z1 : Int32) (z2 : Int32) (z3 : Int32) (z4 : Int32) (F : PF) (G : PG) (hM : SJ 0 0 (F0 15) F0 G0 F G) : PP (mb_tellHere_193 fu x5 z0 z1 z2 z3 z4 F G) (fun _ F' G' => SJ 0 0 (F0 15) F0 G0 F' G') := by
  unfold mb_tellHere_193
  refine PP.bind (mp_declare z4 z3 z2 z1 z0 (1 : Int32) F G) ?_
  intro r1 F1 G1 hM1
  dsimp only
  unfold mb_tellHere_197
  unfold mb_tellHere_208
  refine PP.ret ?_
  exact (SJ.f (k := 53) (by decide) (SJ.dc hM hM1 (by decide)))
theorem mksj_tellHere_158 {fu : Nat} {F0 : PF} {G0 : PG} (x2 : Int32) (x3 : Int32) (x4 : Int32) (z0 : Int32) (F : PF) (G : PG) (hM : SJ 0 0 (F0 15) F0 G0 F G) : PP (mb_tellHere_158 fu x2 x3 x4 z0 F G) (fun _ F' G' => SJ 0 0 (F0 15) F0 G0 F' G') := by
  unfold mb_tellHere_158
  refine PP.bind (mw_step (22 : Int32) (F 53) z0 F G) ?_
  intro r1 F1 G1 hM1
  dsimp only
  unfold mb_tellHere_172
  refine PP.ite (fun c_2 => ?_) (fun c_2 => ?_)
  · skip
    unfold mb_tellHere_187
    exact mksj_tellHere_193 z0 (1 : Int32) (F1 53) x2 (2 : Int32) x3 F1 G1 (SJ.kx hM hM1 (M4.kx hM1 rfl) rfl)
  · skip
    unfold mb_tellHere_191
    exact mksj_tellHere_193 z0 x4 (F1 53) x2 (2 : Int32) x3 F1 G1 (SJ.kx hM hM1 (M4.kx hM1 rfl) rfl)
theorem mksj_tellHere_152 {fu : Nat} {F0 : PF} {G0 : PG} (x2 : Int32) (x3 : Int32) (x4 : Int32) (F : PF) (G : PG) (hM : SJ 0 0 (F0 15) F0 G0 F G) : PP (mb_tellHere_152 fu x2 x3 x4 F G) (fun _ F' G' => SJ 0 0 (F0 15) F0 G0 F' G') := by
  unfold mb_tellHere_152
  exact mksj_tellHere_158 x2 x3 x4 (0 : Int32) F G hM
theorem mksj_tellHere_136 {fu : Nat} {F0 : PF} {G0 : PG} (x2 : Int32) (x3 : Int32) (x4 : Int32) (F : PF) (G : PG) (hM : SJ 0 0 (F0 15) F0 G0 F G) : PP (mb_tellHere_136 fu x2 x3 x4 F G) (fun _ F' G' => SJ 0 0 (F0 15) F0 G0 F' G') := by
  unfold mb_tellHere_136
  refine PP.ite (fun c_1 => ?_) (fun c_1 => ?_)
  · skip
    exact mksj_tellHere_152 x2 x3 x4 F G hM
  · skip
    unfold mb_tellHere_142
    refine PP.ite (fun c_2 => ?_) (fun c_2 => ?_)
    · skip
      unfold mb_tellHere_156
      exact mksj_tellHere_158 x2 x3 x4 x4 F G hM
    · skip
      exact mksj_tellHere_152 x2 x3 x4 F G hM
theorem mksj_tellHere_110 {fu : Nat} {F0 : PF} {G0 : PG} (x2 : Int32) (x3 : Int32) (x4 : Int32) (z0 : Int32) (z1 : Int32) (F : PF) (G : PG) (hM : SJ 0 0 (F0 15) F0 G0 F G) : PP (mb_tellHere_110 fu x2 x3 x4 z0 z1 F G) (fun _ F' G' => SJ 0 0 (F0 15) F0 G0 F' G') := by
  unfold mb_tellHere_110
  unfold mb_tellHere_114
  refine PP.ite (fun c_1 => ?_) (fun c_1 => ?_)
  · skip
    exact mksj_tellHere_136 x2 x3 x4 (fup F 52 (z1 + z0)) G (SJ.f (k := 52) (by decide) hM)
  · skip
    unfold mb_tellHere_124
    refine PP.ix (fun _ => ?_)
    refine PP.bind (mw_note (11 : Int32) (G 6 x3.toNatClampNeg) (fup F 52 (z1 + z0)) G) ?_
    intro r2 F2 G2 hM2
    dsimp only
    exact mksj_tellHere_136 x2 x3 x4 F2 G2 (SJ.kx (SJ.f (k := 52) (by decide) hM) hM2 (M4.kx hM2 rfl) rfl)
theorem mksj_tellHere_47 {fu : Nat} {F0 : PF} {G0 : PG} (x2 : Int32) (x3 : Int32) (F : PF) (G : PG) (hM : SJ 0 0 (F0 15) F0 G0 F G) : PP (mb_tellHere_47 fu x2 x3 F G) (fun _ F' G' => SJ 0 0 (F0 15) F0 G0 F' G') := by
  unfold mb_tellHere_47
  refine PP.bind (mw_twice x3 F G) ?_
  intro r1 F1 G1 hM1
  dsimp only
  unfold mb_tellHere_52
  refine PP.bind (PP.and (mw_openSign (24 : Int32) F1 G1) (m4_openSign (24 : Int32) F1 G1)) ?_
  intro r2 F2 G2 hM2
  dsimp only
  unfold mb_tellHere_58
  refine PP.ite (fun c_3 => ?_) (fun c_3 => ?_)
  · skip
    unfold mb_tellHere_61
    refine PP.ret ?_
    exact (SJ.kx (SJ.kx hM hM1 (M4.kx hM1 rfl) rfl) hM2.1 hM2.2 rfl)
  · skip
    unfold mb_tellHere_63
    refine PP.bind (PP.and (mw_sizeHere F2 G2) (m4_sizeHere F2 G2)) ?_
    intro r4 F4 G4 hM4
    dsimp only
    unfold mb_tellHere_67
    refine PP.bind (PP.and (mw_closeSign (25 : Int32) F4 G4) (m4_closeSign (25 : Int32) F4 G4)) ?_
    intro r5 F5 G5 hM5
    dsimp only
    unfold mb_tellHere_75
    refine PP.ite (fun c_6 => ?_) (fun c_6 => ?_)
    · skip
      unfold mb_tellHere_78
      refine PP.ret ?_
      exact (SJ.kx (SJ.kx (SJ.kx (SJ.kx hM hM1 (M4.kx hM1 rfl) rfl) hM2.1 hM2.2 rfl) hM4.1 hM4.2 rfl) hM5.1 hM5.2 rfl)
    · skip
      unfold mb_tellHere_80
      refine PP.ite (fun c_7 => ?_) (fun c_7 => ?_)
      · skip
        unfold mb_tellHere_91
        exact mksj_tellHere_110 x2 x3 r4 (0 : Int32) (F5 52) F5 G5 (SJ.kx (SJ.kx (SJ.kx (SJ.kx hM hM1 (M4.kx hM1 rfl) rfl) hM2.1 hM2.2 rfl) hM4.1 hM4.2 rfl) hM5.1 hM5.2 rfl)
      · skip
        unfold mb_tellHere_95
        refine PP.ite (fun c_8 => ?_) (fun c_8 => ?_)
        · skip
          unfold mb_tellHere_108
          exact mksj_tellHere_110 x2 x3 r4 r4 (F5 52) F5 G5 (SJ.kx (SJ.kx (SJ.kx (SJ.kx hM hM1 (M4.kx hM1 rfl) rfl) hM2.1 hM2.2 rfl) hM4.1 hM4.2 rfl) hM5.1 hM5.2 rfl)
        · skip
          unfold mb_tellHere_99
          exact mksj_tellHere_110 x2 x3 r4 ((r4 + (3 : Int32)) / (4 : Int32)) (F5 52) F5 G5 (SJ.kx (SJ.kx (SJ.kx (SJ.kx hM hM1 (M4.kx hM1 rfl) rfl) hM2.1 hM2.2 rfl) hM4.1 hM4.2 rfl) hM5.1 hM5.2 rfl)
theorem mks_tellHere {fu : Nat} (x1 : Int32) (F : PF) (G : PG) : PP (mf_tellHere fu x1 F G) (fun _ F' G' => SJ 0 0 (F 15) F G F' G') := by
  unfold mf_tellHere
  unfold mb_tellHere_0
  refine PP.bind (mw_isWord (1 : Int32) F G) ?_
  intro r1 F1 G1 hM1
  dsimp only
  unfold mb_tellHere_5
  unfold mb_tellHere_16
  refine PP.bind (PP.and (mw_name (fup F1 42 ((F1 42) + (1 : Int32))) G1) (m4_name (fup F1 42 ((F1 42) + (1 : Int32))) G1)) ?_
  intro r2 F2 G2 hM2
  dsimp only
  unfold mb_tellHere_20
  refine PP.ite (fun c_3 => ?_) (fun c_3 => ?_)
  · skip
    unfold mb_tellHere_30
    refine PP.ite (fun c_4 => ?_) (fun c_4 => ?_)
    · skip
      exact mksj_tellHere_210 x1 r2 F2 G2 (SJ.kx (SJ.f (k := 42) (by decide) (SJ.kx SJ.rf hM1 (M4.kx hM1 rfl) rfl)) hM2.1 hM2.2 rfl)
    · skip
      unfold mb_tellHere_34
      refine PP.ite (fun c_5 => ?_) (fun c_5 => ?_)
      · skip
        unfold mb_tellHere_38
        refine PP.bind (mw_isSign (24 : Int32) F2 G2) ?_
        intro r6 F6 G6 hM6
        dsimp only
        unfold mb_tellHere_44
        refine PP.ite (fun c_7 => ?_) (fun c_7 => ?_)
        · skip
          exact mksj_tellHere_210 x1 r2 F6 G6 (SJ.kx (SJ.kx (SJ.f (k := 42) (by decide) (SJ.kx SJ.rf hM1 (M4.kx hM1 rfl) rfl)) hM2.1 hM2.2 rfl) hM6 (M4.kx hM6 rfl) rfl)
        · skip
          exact mksj_tellHere_47 r1 r2 F6 G6 (SJ.kx (SJ.kx (SJ.f (k := 42) (by decide) (SJ.kx SJ.rf hM1 (M4.kx hM1 rfl) rfl)) hM2.1 hM2.2 rfl) hM6 (M4.kx hM6 rfl) rfl)
      · skip
        exact mksj_tellHere_47 r1 r2 F2 G2 (SJ.kx (SJ.f (k := 42) (by decide) (SJ.kx SJ.rf hM1 (M4.kx hM1 rfl) rfl)) hM2.1 hM2.2 rfl)
  · skip
    unfold mb_tellHere_28
    refine PP.ret ?_
    exact (SJ.kx (SJ.f (k := 42) (by decide) (SJ.kx SJ.rf hM1 (M4.kx hM1 rfl) rfl)) hM2.1 hM2.2 rfl)
theorem mksj_formalHere_185 {fu : Nat} {F0 : PF} {G0 : PG} (z0 : Int32) (F : PF) (G : PG) (hM : SJ 0 0 (F0 15) F0 G0 F G) : PP (mb_formalHere_185 fu z0 F G) (fun _ F' G' => SJ 0 0 (F0 15) F0 G0 F' G') := by
  unfold mb_formalHere_185
  refine PP.ret ?_
  exact hM
theorem mksj_formalHere_163 {fu : Nat} {F0 : PF} {G0 : PG} (x2 : Int32) (x4 : Int32) (z0 : Int32) (z1 : Int32) (F : PF) (G : PG) (hM : SJ 0 0 (F0 15) F0 G0 F G) : PP (mb_formalHere_163 fu x2 x4 z0 z1 F G) (fun _ F' G' => SJ 0 0 (F0 15) F0 G0 F' G') := by
  unfold mb_formalHere_163
  unfold mb_formalHere_167
  refine PP.ite (fun c_1 => ?_) (fun c_1 => ?_)
  · skip
    unfold mb_formalHere_172
    exact mksj_formalHere_185 (0 : Int32) (fup F 53 (z1 + z0)) G (SJ.f (k := 53) (by decide) hM)
  · skip
    unfold mb_formalHere_176
    refine PP.ite (fun c_2 => ?_) (fun c_2 => ?_)
    · skip
      unfold mb_formalHere_184
      exact mksj_formalHere_185 (1 : Int32) (fup F 53 (z1 + z0)) G (SJ.f (k := 53) (by decide) hM)
    · skip
      unfold mb_formalHere_180
      exact mksj_formalHere_185 (2 : Int32) (fup F 53 (z1 + z0)) G (SJ.f (k := 53) (by decide) hM)
theorem mksj_formalHere_144 {fu : Nat} {F0 : PF} {G0 : PG} (x2 : Int32) (x4 : Int32) (z0 : Int32) (z1 : Int32) (z2 : Int32) (z3 : Int32) (z4 : Int32) (F : PF) (G : PG) (hM : SJ 0 0 (F0 15) F0 G0 F G) : PP (mb_formalHere_144 fu x2 x4 z0 z1 z2 z3 z4 F G) (fun _ F' G' => SJ 0 0 (F0 15) F0 G0 F' G') := by
  unfold mb_formalHere_144
  refine PP.bind (mp_declare z4 z3 z2 z1 z0 (1 : Int32) F G) ?_
  intro r1 F1 G1 hM1
  dsimp only
  unfold mb_formalHere_148
  refine PP.ite (fun c_2 => ?_) (fun c_2 => ?_)
  · skip
    unfold mb_formalHere_162
    exact mksj_formalHere_163 x2 x4 (1 : Int32) (F1 53) F1 G1 (SJ.dc hM hM1 (by decide))
  · skip
    unfold mb_formalHere_158
    exact mksj_formalHere_163 x2 x4 (2 : Int32) (F1 53) F1 G1 (SJ.dc hM hM1 (by decide))
theorem mksj_formalHere_129 {fu : Nat} {F0 : PF} {G0 : PG} (x2 : Int32) (x4 : Int32) (z0 : Int32) (z1 : Int32) (F : PF) (G : PG) (hM : SJ 0 0 (F0 15) F0 G0 F G) : PP (mb_formalHere_129 fu x2 x4 z0 z1 F G) (fun _ F' G' => SJ 0 0 (F0 15) F0 G0 F' G') := by
  unfold mb_formalHere_129
  refine PP.ite (fun c_1 => ?_) (fun c_1 => ?_)
  · skip
    unfold mb_formalHere_143
    exact mksj_formalHere_144 x2 x4 (1 : Int32) (F 53) x2 z0 z1 F G hM
  · skip
    unfold mb_formalHere_139
    exact mksj_formalHere_144 x2 x4 (-1 : Int32) (F 53) x2 z0 z1 F G hM
theorem mksj_formalHere_117 {fu : Nat} {F0 : PF} {G0 : PG} (x2 : Int32) (x3 : Int32) (x4 : Int32) (F : PF) (G : PG) (hM : SJ 0 0 (F0 15) F0 G0 F G) : PP (mb_formalHere_117 fu x2 x3 x4 F G) (fun _ F' G' => SJ 0 0 (F0 15) F0 G0 F' G') := by
  unfold mb_formalHere_117
  refine PP.ite (fun c_1 => ?_) (fun c_1 => ?_)
  · skip
    unfold mb_formalHere_128
    exact mksj_formalHere_129 x2 x4 (1 : Int32) x3 F G hM
  · skip
    unfold mb_formalHere_124
    exact mksj_formalHere_129 x2 x4 (2 : Int32) x3 F G hM
theorem mksj_formalHere_115 {fu : Nat} {F0 : PF} {G0 : PG} (F : PF) (G : PG) (hM : SJ 0 0 (F0 15) F0 G0 F G) : PP (mb_formalHere_115 fu F G) (fun _ F' G' => SJ 0 0 (F0 15) F0 G0 F' G') := by
  unfold mb_formalHere_115
  refine PP.ret ?_
  exact hM
theorem mksj_formalHere_90 {fu : Nat} {F0 : PF} {G0 : PG} (x2 : Int32) (x3 : Int32) (z0 : Int32) (F : PF) (G : PG) (hM : SJ 0 0 (F0 15) F0 G0 F G) : PP (mb_formalHere_90 fu x2 x3 z0 F G) (fun _ F' G' => SJ 0 0 (F0 15) F0 G0 F' G') := by
  unfold mb_formalHere_90
  refine PP.ite (fun c_1 => ?_) (fun c_1 => ?_)
  · skip
    exact mksj_formalHere_117 x2 x3 z0 F G hM
  · skip
    unfold mb_formalHere_97
    refine PP.bind (PP.and (mw_openSign (24 : Int32) F G) (m4_openSign (24 : Int32) F G)) ?_
    intro r2 F2 G2 hM2
    dsimp only
    unfold mb_formalHere_103
    refine PP.ite (fun c_3 => ?_) (fun c_3 => ?_)
    · skip
      exact mksj_formalHere_115 F2 G2 (SJ.kx hM hM2.1 hM2.2 rfl)
    · skip
      unfold mb_formalHere_106
      refine PP.bind (PP.and (mw_closeSign (25 : Int32) F2 G2) (m4_closeSign (25 : Int32) F2 G2)) ?_
      intro r4 F4 G4 hM4
      dsimp only
      unfold mb_formalHere_112
      refine PP.ite (fun c_5 => ?_) (fun c_5 => ?_)
      · skip
        exact mksj_formalHere_115 F4 G4 (SJ.kx (SJ.kx hM hM2.1 hM2.2 rfl) hM4.1 hM4.2 rfl)
      · skip
        exact mksj_formalHere_117 x2 x3 z0 F4 G4 (SJ.kx (SJ.kx hM hM2.1 hM2.2 rfl) hM4.1 hM4.2 rfl)
theorem mksj_formalHere_85 {fu : Nat} {F0 : PF} {G0 : PG} (x2 : Int32) (x3 : Int32) (F : PF) (G : PG) (hM : SJ 0 0 (F0 15) F0 G0 F G) : PP (mb_formalHere_85 fu x2 x3 F G) (fun _ F' G' => SJ 0 0 (F0 15) F0 G0 F' G') := by
  unfold mb_formalHere_85
  exact mksj_formalHere_90 x2 x3 (1 : Int32) F G hM
theorem mksj_formalHere_72 {fu : Nat} {F0 : PF} {G0 : PG} (x2 : Int32) (x3 : Int32) (F : PF) (G : PG) (hM : SJ 0 0 (F0 15) F0 G0 F G) : PP (mb_formalHere_72 fu x2 x3 F G) (fun _ F' G' => SJ 0 0 (F0 15) F0 G0 F' G') := by
  unfold mb_formalHere_72
  refine PP.ite (fun c_1 => ?_) (fun c_1 => ?_)
  · skip
    unfold mb_formalHere_76
    refine PP.bind (mw_isSign (24 : Int32) F G) ?_
    intro r2 F2 G2 hM2
    dsimp only
    unfold mb_formalHere_82
    refine PP.ite (fun c_3 => ?_) (fun c_3 => ?_)
    · skip
      unfold mb_formalHere_89
      exact mksj_formalHere_90 x2 x3 (0 : Int32) F2 G2 (SJ.kx hM hM2 (M4.kx hM2 rfl) rfl)
    · skip
      exact mksj_formalHere_85 x2 x3 F2 G2 (SJ.kx hM hM2 (M4.kx hM2 rfl) rfl)
  · skip
    exact mksj_formalHere_85 x2 x3 F G hM
theorem mksj_formalHere_26 {fu : Nat} {F0 : PF} {G0 : PG} (x1 : Int32) (x2 : Int32) (F : PF) (G : PG) (hM : SJ 0 0 (F0 15) F0 G0 F G) : PP (mb_formalHere_26 fu x1 x2 F G) (fun _ F' G' => SJ 0 0 (F0 15) F0 G0 F' G') := by
  unfold mb_formalHere_26
  unfold mb_formalHere_36
  refine PP.bind (PP.and (mw_name (fup F 42 ((F 42) + (1 : Int32))) G) (m4_name (fup F 42 ((F 42) + (1 : Int32))) G)) ?_
  intro r1 F1 G1 hM1
  dsimp only
  unfold mb_formalHere_40
  refine PP.ite (fun c_2 => ?_) (fun c_2 => ?_)
  · skip
    unfold mb_formalHere_50
    refine PP.bind (mw_twice r1 F1 G1) ?_
    intro r3 F3 G3 hM3
    dsimp only
    unfold mb_formalHere_55
    refine PP.ite (fun c_4 => ?_) (fun c_4 => ?_)
    · skip
      unfold mb_formalHere_60
      refine PP.ix (fun _ => ?_)
      refine PP.bind (mw_note (11 : Int32) (G3 6 r1.toNatClampNeg) F3 G3) ?_
      intro r5 F5 G5 hM5
      dsimp only
      exact mksj_formalHere_72 x2 r1 F5 G5 (SJ.kx (SJ.kx (SJ.kx (SJ.f (k := 42) (by decide) hM) hM1.1 hM1.2 rfl) hM3 (M4.kx hM3 rfl) rfl) hM5 (M4.kx hM5 rfl) rfl)
    · skip
      exact mksj_formalHere_72 x2 r1 F3 G3 (SJ.kx (SJ.kx (SJ.f (k := 42) (by decide) hM) hM1.1 hM1.2 rfl) hM3 (M4.kx hM3 rfl) rfl)
  · skip
    unfold mb_formalHere_48
    refine PP.ret ?_
    exact (SJ.kx (SJ.f (k := 42) (by decide) hM) hM1.1 hM1.2 rfl)
theorem mks_formalHere {fu : Nat} (x1 : Int32) (F : PF) (G : PG) : PP (mf_formalHere fu x1 F G) (fun _ F' G' => SJ 0 0 (F 15) F G F' G') := by
  unfold mf_formalHere
  unfold mb_formalHere_0
  refine PP.bind (mw_isWord (1 : Int32) F G) ?_
  intro r1 F1 G1 hM1
  dsimp only
  unfold mb_formalHere_5
  refine PP.ite (fun c_2 => ?_) (fun c_2 => ?_)
  · skip
    unfold mb_formalHere_10
    refine PP.bind (mw_isWord (0 : Int32) F1 G1) ?_
    intro r3 F3 G3 hM3
    dsimp only
    unfold mb_formalHere_15
    refine PP.ite (fun c_4 => ?_) (fun c_4 => ?_)
    · skip
      unfold mb_formalHere_18
      refine PP.bind (PP.and (mw_fails (2 : Int32) F3 G3) (m4_fails (2 : Int32) (by decide) F3 G3)) ?_
      intro r5 F5 G5 hM5
      dsimp only
      unfold mb_formalHere_23
      refine PP.ret ?_
      exact (SJ.kx (SJ.kx (SJ.kx SJ.rf hM1 (M4.kx hM1 rfl) rfl) hM3 (M4.kx hM3 rfl) rfl) hM5.1 hM5.2 rfl)
    · skip
      exact mksj_formalHere_26 x1 r1 F3 G3 (SJ.kx (SJ.kx SJ.rf hM1 (M4.kx hM1 rfl) rfl) hM3 (M4.kx hM3 rfl) rfl)
  · skip
    exact mksj_formalHere_26 x1 r1 F1 G1 (SJ.kx SJ.rf hM1 (M4.kx hM1 rfl) rfl)
theorem mksj_block_35 {fu : Nat} {d : Nat} (rc : RC) (ihS : mSGI d rc) {F0 : PF} {G0 : PG} (F : PF) (G : PG) (hM : SJ ((d : Int) + 1) 0 (F0 15) F0 G0 F G) : PP (mb_block_35 fu rc F G) (fun _ F' G' => SJ ((d : Int) + 1) 0 (F0 15) F0 G0 F' G') := by
  unfold mb_block_35
  refine PP.bind (PP.and (mw_closeSign (27 : Int32) F G) (m4_closeSign (27 : Int32) F G)) ?_
  intro r1 F1 G1 hM1
  dsimp only
  unfold mb_block_41
  refine PP.bz (fun _ => ?_)
  refine PP.ret ?_
  exact (SJ.kx hM hM1.1 hM1.2 rfl)
theorem mksz_block_11 {fu : Nat} {d : Nat} (rc : RC) (ihS : mSGI d rc) {F0 : PF} {G0 : PG} : ∀ (n : Nat) (F : PF) (G : PG) (hM : SJ ((d : Int) + 1) 0 (F0 15) F0 G0 F G), PP (ml_block_11 fu rc n F G) (fun _ F' G' => SJ ((d : Int) + 1) 0 (F0 15) F0 G0 F' G') := by
  intro n
  induction n with
  | zero =>
    intro F G hM
    exact PP.no
  | succ n ihn =>
    intro F G hM
    show PP (mb_block_11 fu rc (ml_block_11 fu rc n) F G) _
    unfold mb_block_11
    refine PP.ite (fun c_1 => ?_) (fun c_1 => ?_)
    · skip
      unfold mb_block_18
      refine PP.bind (mw_isSign (27 : Int32) F G) ?_
      intro r2 F2 G2 hM2
      dsimp only
      unfold mb_block_24
      refine PP.ite (fun c_3 => ?_) (fun c_3 => ?_)
      · skip
        unfold mb_block_27
        refine PP.bind (ihS 6 0 0 F2 G2) ?_
        intro r4 F4 G4 hM4
        dsimp only
        unfold mb_block_31
        exact ihn F4 G4 (SJ.tr (SJ.kx hM hM2 (M4.kx hM2 rfl) rfl) hM4 (by omega) (by omega))
      · skip
        exact mksj_block_35 rc ihS F2 G2 (SJ.kx hM hM2 (M4.kx hM2 rfl) rfl)
    · skip
      exact mksj_block_35 rc ihS F G hM
theorem mkst_block {fu : Nat} {d : Nat} (rc : RC) (ihS : mSGI d rc) (F : PF) (G : PG) : PP (mh_block fu rc F G) (fun _ F' G' => SJ ((d : Int) + 1) 0 (F 15) F G F' G') := by
  unfold mh_block
  unfold mb_block_0
  refine PP.bind (PP.and (mw_openSign (26 : Int32) F G) (m4_openSign (26 : Int32) F G)) ?_
  intro r1 F1 G1 hM1
  dsimp only
  unfold mb_block_6
  refine PP.ite (fun c_2 => ?_) (fun c_2 => ?_)
  · skip
    unfold mb_block_9
    refine PP.ret ?_
    exact (SJ.kx SJ.rf hM1.1 hM1.2 rfl)
  · skip
    exact mksz_block_11 rc ihS fu F1 G1 (SJ.kx SJ.rf hM1.1 hM1.2 rfl)
theorem mksj_body_90 {fu : Nat} {d : Nat} (rc : RC) (ihS : mSGI d rc) {F0 : PF} {G0 : PG} (x2 : Int32) (x4 : Int32) (F : PF) (G : PG) (hM : SJ ((d : Int) + 1) 0 (F0 15) F0 G0 F G) : PP (mb_body_90 fu rc x2 x4 F G) (fun _ F' G' => SJ ((d : Int) + 1) 0 (F0 15) F0 G0 F' G') := by
  unfold mb_body_90
  unfold mb_body_98
  unfold mb_body_103
  refine PP.bz (fun _ => ?_)
  refine PP.ret ?_
  exact (SJ.f (k := 63) (by decide) (SJ.f (k := 65) (by decide) hM))
theorem mkst_body {fu : Nat} {d : Nat} (rc : RC) (ihS : mSGI d rc) (x1 : Int32) (F : PF) (G : PG) : PP (mh_body fu rc x1 F G) (fun _ F' G' => SJ ((d : Int) + 1) 0 (F 15) F G F' G') := by
  unfold mh_body
  unfold mb_body_0
  unfold mb_body_15
  unfold mb_body_20
  unfold mb_body_30
  refine PP.bind (mw_step (15 : Int32) (0 : Int32) (0 : Int32) (fup (fup (fup F 63 (-1 : Int32)) 64 (-1 : Int32)) 51 ((F 51) + (1 : Int32))) G) ?_
  intro r1 F1 G1 hM1
  dsimp only
  unfold mb_body_38
  refine PP.bind (ihS 5 0 0 F1 G1) ?_
  intro r2 F2 G2 hM2
  dsimp only
  unfold mb_body_43
  unfold mb_body_55
  refine PP.ite (fun c_3 => ?_) (fun c_3 => ?_)
  · skip
    unfold mb_body_77
    unfold mb_body_85
    exact mksj_body_90 rc ihS (F 63) r2 (fup (fup (fup F2 51 ((F2 51) - (1 : Int32))) 66 (F2 64)) 64 (F 64)) G2 (SJ.f (k := 64) (by decide) (SJ.f (k := 66) (by decide) (SJ.f (k := 51) (by decide) (SJ.tr (SJ.kx (SJ.f (k := 51) (by decide) (SJ.f (k := 64) (by decide) (SJ.f (k := 63) (by decide) SJ.rf))) hM1 (M4.kx hM1 rfl) rfl) hM2 (by omega) (by omega)))))
  · skip
    unfold mb_body_60
    refine PP.bind (mw_settle (F2 64) x1 (fup F2 51 ((F2 51) - (1 : Int32))) G2) ?_
    intro r4 F4 G4 hM4
    dsimp only
    unfold mb_body_69
    unfold mb_body_74
    exact mksj_body_90 rc ihS (F 63) r2 (fup F4 64 (F 64)) G4 (SJ.f (k := 64) (by decide) (SJ.kx (SJ.f (k := 51) (by decide) (SJ.tr (SJ.kx (SJ.f (k := 51) (by decide) (SJ.f (k := 64) (by decide) (SJ.f (k := 63) (by decide) SJ.rf))) hM1 (M4.kx hM1 rfl) rfl) hM2 (by omega) (by omega))) hM4 (M4.kx hM4 rfl) rfl))
theorem mksj_choice_14 {fu : Nat} {d : Nat} (rc : RC) (ihS : mSGI d rc) {F0 : PF} {G0 : PG} (F : PF) (G : PG) (hM : SJ ((d : Int) + 1) 0 (F0 15) F0 G0 F G) : PP (mb_choice_14 fu rc F G) (fun _ F' G' => SJ ((d : Int) + 1) 0 (F0 15) F0 G0 F' G') := by
  unfold mb_choice_14
  refine PP.ret ?_
  exact hM
theorem mksj_choice_132 {fu : Nat} {d : Nat} (rc : RC) (ihS : mSGI d rc) {F0 : PF} {G0 : PG} (z0 : Int32) (F : PF) (G : PG) (hM : SJ ((d : Int) + 1) 0 (F0 15) F0 G0 F G) : PP (mb_choice_132 fu rc z0 F G) (fun _ F' G' => SJ ((d : Int) + 1) 0 (F0 15) F0 G0 F' G') := by
  unfold mb_choice_132
  refine PP.bz (fun _ => ?_)
  refine PP.ret ?_
  exact hM
theorem mksj_choice_110 {fu : Nat} {d : Nat} (rc : RC) (ihS : mSGI d rc) {F0 : PF} {G0 : PG} (F : PF) (G : PG) (hM : SJ ((d : Int) + 1) 0 (F0 15) F0 G0 F G) : PP (mb_choice_110 fu rc F G) (fun _ F' G' => SJ ((d : Int) + 1) 0 (F0 15) F0 G0 F' G') := by
  unfold mb_choice_110
  unfold mb_choice_120
  refine PP.ite (fun c_1 => ?_) (fun c_1 => ?_)
  · skip
    unfold mb_choice_127
    exact mksj_choice_132 rc ihS (1 : Int32) (fup F 43 ((F 43) - (1 : Int32))) G (SJ.f (k := 43) (by decide) hM)
  · skip
    unfold mb_choice_131
    exact mksj_choice_132 rc ihS (0 : Int32) (fup F 43 ((F 43) - (1 : Int32))) G (SJ.f (k := 43) (by decide) hM)
theorem mksj_choice_100 {fu : Nat} {d : Nat} (rc : RC) (ihS : mSGI d rc) {F0 : PF} {G0 : PG} (x1 : Int32) (F : PF) (G : PG) (hM : SJ ((d : Int) + 1) 0 (F0 15) F0 G0 F G) : PP (mb_choice_100 fu rc x1 F G) (fun _ F' G' => SJ ((d : Int) + 1) 0 (F0 15) F0 G0 F' G') := by
  unfold mb_choice_100
  refine PP.ix (fun _ => ?_)
  exact mksj_choice_110 rc ihS F (gup G 57 x1.toNatClampNeg (F 60)) (SJ.g (k := 57) (by decide) hM)
theorem mkst_choice {fu : Nat} {d : Nat} (rc : RC) (ihS : mSGI d rc) (F : PF) (G : PG) : PP (mh_choice fu rc F G) (fun _ F' G' => SJ ((d : Int) + 1) 0 (F 15) F G F' G') := by
  unfold mh_choice
  unfold mb_choice_0
  refine PP.bind (PP.and (mw_opens F G) (m4_opens F G)) ?_
  intro r1 F1 G1 hM1
  dsimp only
  unfold mb_choice_4
  refine PP.ite (fun c_2 => ?_) (fun c_2 => ?_)
  · skip
    exact mksj_choice_14 rc ihS F1 G1 (SJ.kx SJ.rf hM1.1 hM1.2 rfl)
  · skip
    unfold mb_choice_7
    refine PP.bind (PP.and (mw_condition F1 G1) (m4_condition F1 G1)) ?_
    intro r3 F3 G3 hM3
    dsimp only
    unfold mb_choice_11
    refine PP.ite (fun c_4 => ?_) (fun c_4 => ?_)
    · skip
      exact mksj_choice_14 rc ihS F3 G3 (SJ.kx (SJ.kx SJ.rf hM1.1 hM1.2 rfl) hM3.1 hM3.2 rfl)
    · skip
      unfold mb_choice_16
      refine PP.bind (mw_step (13 : Int32) (0 : Int32) (0 : Int32) F3 G3) ?_
      intro r5 F5 G5 hM5
      dsimp only
      unfold mb_choice_24
      refine PP.bind (ihS 5 0 0 F5 G5) ?_
      intro r6 F6 G6 hM6
      dsimp only
      unfold mb_choice_29
      refine PP.ite (fun c_7 => ?_) (fun c_7 => ?_)
      · skip
        unfold mb_choice_32
        refine PP.ret ?_
        exact (SJ.tr (SJ.kx (SJ.kx (SJ.kx SJ.rf hM1.1 hM1.2 rfl) hM3.1 hM3.2 rfl) hM5 (M4.kx hM5 rfl) rfl) hM6 (by omega) (by omega))
      · skip
        unfold mb_choice_34
        refine PP.ite (fun c_8 => ?_) (fun c_8 => ?_)
        · skip
          unfold mb_choice_41
          refine PP.bind (mw_isWord (5 : Int32) F6 G6) ?_
          intro r9 F9 G9 hM9
          dsimp only
          unfold mb_choice_46
          refine PP.ite (fun c_10 => ?_) (fun c_10 => ?_)
          · skip
            exact mksj_choice_100 rc ihS r5 F9 G9 (SJ.kx (SJ.tr (SJ.kx (SJ.kx (SJ.kx SJ.rf hM1.1 hM1.2 rfl) hM3.1 hM3.2 rfl) hM5 (M4.kx hM5 rfl) rfl) hM6 (by omega) (by omega)) hM9 (M4.kx hM9 rfl) rfl)
          · skip
            unfold mb_choice_49
            unfold mb_choice_59
            refine PP.bind (mw_step (12 : Int32) (0 : Int32) (0 : Int32) (fup F9 42 ((F9 42) + (1 : Int32))) G9) ?_
            intro r11 F11 G11 hM11
            dsimp only
            unfold mb_choice_67
            refine PP.ix (fun _ => ?_)
            unfold mb_choice_78
            refine PP.bind (ihS 5 0 0 F11 (gup G11 57 r5.toNatClampNeg (F11 60))) ?_
            intro r12 F12 G12 hM12
            dsimp only
            unfold mb_choice_82
            refine PP.ite (fun c_13 => ?_) (fun c_13 => ?_)
            · skip
              unfold mb_choice_85
              refine PP.ret ?_
              exact (SJ.tr (SJ.g (k := 57) (by decide) (SJ.kx (SJ.f (k := 42) (by decide) (SJ.kx (SJ.tr (SJ.kx (SJ.kx (SJ.kx SJ.rf hM1.1 hM1.2 rfl) hM3.1 hM3.2 rfl) hM5 (M4.kx hM5 rfl) rfl) hM6 (by omega) (by omega)) hM9 (M4.kx hM9 rfl) rfl)) hM11 (M4.kx hM11 rfl) rfl)) hM12 (by omega) (by omega))
            · skip
              unfold mb_choice_87
              refine PP.ix (fun _ => ?_)
              unfold mb_choice_97
              exact mksj_choice_110 rc ihS F12 (gup G12 57 r11.toNatClampNeg (F12 60)) (SJ.g (k := 57) (by decide) (SJ.tr (SJ.g (k := 57) (by decide) (SJ.kx (SJ.f (k := 42) (by decide) (SJ.kx (SJ.tr (SJ.kx (SJ.kx (SJ.kx SJ.rf hM1.1 hM1.2 rfl) hM3.1 hM3.2 rfl) hM5 (M4.kx hM5 rfl) rfl) hM6 (by omega) (by omega)) hM9 (M4.kx hM9 rfl) rfl)) hM11 (M4.kx hM11 rfl) rfl)) hM12 (by omega) (by omega)))
        · skip
          exact mksj_choice_100 rc ihS r5 F6 G6 (SJ.tr (SJ.kx (SJ.kx (SJ.kx SJ.rf hM1.1 hM1.2 rfl) hM3.1 hM3.2 rfl) hM5 (M4.kx hM5 rfl) rfl) hM6 (by omega) (by omega))
theorem mksj_counted_16 {fu : Nat} {d : Nat} (rc : RC) (ihS : mSGI d rc) {F0 : PF} {G0 : PG} (F : PF) (G : PG) (hM : SJ ((d : Int) + 1) 0 (F0 15) F0 G0 F G) : PP (mb_counted_16 fu rc F G) (fun r F' G' => r = 1 → SJ ((d : Int) + 1) 0 (F0 15) F0 G0 F' G') := by
  unfold mb_counted_16
  refine PP.ret ?_
  exact fun e => absurd e (by decide)
theorem mksj_counted_226 {fu : Nat} {d : Nat} (rc : RC) (ihS : mSGI d rc) {F0 : PF} {G0 : PG} (x1 : Int32) (x6 : Int32) (F : PF) (G : PG) (hM : SJ ((d : Int) + 1) 1 x1 F0 G0 F G) : PP (mb_counted_226 fu rc x1 x6 F G) (fun r F' G' => r = 1 → SJ ((d : Int) + 1) 0 (F0 15) F0 G0 F' G') := by
  unfold mb_counted_226
  refine PP.bind (mw_settle x6 (F 60) F G) ?_
  intro r1 F1 G1 hM1
  dsimp only
  unfold mb_counted_236
  refine PP.bind (mp_ends2 x1 F1 G1) ?_
  intro r2 F2 G2 hM2
  dsimp only
  unfold mb_counted_241
  unfold mb_counted_251
  refine PP.ret ?_
  exact fun _ => (SJ.f (k := 43) (by decide) (SJ.en (SJ.kx hM hM1 (M4.kx hM1 rfl) rfl) hM2))
theorem mksj_counted_153 {fu : Nat} {d : Nat} (rc : RC) (ihS : mSGI d rc) {F0 : PF} {G0 : PG} (x1 : Int32) (x2 : Int32) (x3 : Int32) (x4 : Int32) (x5 : Int32) (F : PF) (G : PG) (hM : SJ ((d : Int) + 1) 1 x1 F0 G0 F G) : PP (mb_counted_153 fu rc x1 x2 x3 x4 x5 F G) (fun r F' G' => r = 1 → SJ ((d : Int) + 1) 0 (F0 15) F0 G0 F' G') := by
  unfold mb_counted_153
  refine PP.bind (PP.and (mw_closeSign (23 : Int32) F G) (m4_closeSign (23 : Int32) F G)) ?_
  intro r1 F1 G1 hM1
  dsimp only
  unfold mb_counted_159
  refine PP.ite (fun c_2 => ?_) (fun c_2 => ?_)
  · skip
    unfold mb_counted_162
    refine PP.ret ?_
    exact fun e => absurd e (by decide)
  · skip
    unfold mb_counted_164
    refine PP.bind (mw_step (12 : Int32) x2 (0 : Int32) F1 G1) ?_
    intro r3 F3 G3 hM3
    dsimp only
    unfold mb_counted_172
    refine PP.ix (fun _ => ?_)
    unfold mb_counted_184
    refine PP.bind (ihS 1 x5 0 F3 (gup G3 57 x4.toNatClampNeg (F3 60))) ?_
    intro r4 F4 G4 hM4
    dsimp only
    unfold mb_counted_190
    refine PP.ite (fun c_5 => ?_) (fun c_5 => ?_)
    · skip
      unfold mb_counted_193
      refine PP.ret ?_
      exact fun e => absurd e (by decide)
    · skip
      unfold mb_counted_195
      refine PP.bind (mw_step (12 : Int32) x5 (0 : Int32) F4 G4) ?_
      intro r6 F6 G6 hM6
      dsimp only
      unfold mb_counted_210
      refine PP.ite (fun c_7 => ?_) (fun c_7 => ?_)
      · skip
        exact mksj_counted_226 rc ihS x1 (F4 65) F6 G6 (SJ.kx (SJ.tr (SJ.g (k := 57) (by decide) (SJ.kx (SJ.kx hM hM1.1 hM1.2 rfl) hM3 (M4.kx hM3 rfl) rfl)) hM4 (by omega) (by omega)) hM6 (M4.kx hM6 rfl) rfl)
      · skip
        unfold mb_counted_216
        refine PP.ix (fun _ => ?_)
        exact mksj_counted_226 rc ihS x1 (F4 65) F6 (gup G6 57 x3.toNatClampNeg (F6 60)) (SJ.g (k := 57) (by decide) (SJ.kx (SJ.tr (SJ.g (k := 57) (by decide) (SJ.kx (SJ.kx hM hM1.1 hM1.2 rfl) hM3 (M4.kx hM3 rfl) rfl)) hM4 (by omega) (by omega)) hM6 (M4.kx hM6 rfl) rfl))
theorem mksj_counted_108 {fu : Nat} {d : Nat} (rc : RC) (ihS : mSGI d rc) {F0 : PF} {G0 : PG} (x1 : Int32) (x2 : Int32) (x3 : Int32) (F : PF) (G : PG) (hM : SJ ((d : Int) + 1) 1 x1 F0 G0 F G) : PP (mb_counted_108 fu rc x1 x2 x3 F G) (fun r F' G' => r = 1 → SJ ((d : Int) + 1) 0 (F0 15) F0 G0 F' G') := by
  unfold mb_counted_108
  refine PP.bind (PP.and (mw_sign (29 : Int32) F G) (m4_sign (29 : Int32) F G)) ?_
  intro r1 F1 G1 hM1
  dsimp only
  unfold mb_counted_114
  refine PP.ite (fun c_2 => ?_) (fun c_2 => ?_)
  · skip
    unfold mb_counted_117
    refine PP.ret ?_
    exact fun e => absurd e (by decide)
  · skip
    unfold mb_counted_119
    refine PP.bind (mw_step (12 : Int32) (0 : Int32) (0 : Int32) F1 G1) ?_
    intro r3 F3 G3 hM3
    dsimp only
    unfold mb_counted_127
    refine PP.bind (mw_isSign (23 : Int32) F3 G3) ?_
    intro r4 F4 G4 hM4
    dsimp only
    unfold mb_counted_141
    refine PP.ite (fun c_5 => ?_) (fun c_5 => ?_)
    · skip
      unfold mb_counted_144
      refine PP.bind (PP.and (mw_simple F4 G4) (m4_simple F4 G4)) ?_
      intro r6 F6 G6 hM6
      dsimp only
      unfold mb_counted_148
      refine PP.ite (fun c_7 => ?_) (fun c_7 => ?_)
      · skip
        unfold mb_counted_151
        refine PP.ret ?_
        exact fun e => absurd e (by decide)
      · skip
        exact mksj_counted_153 rc ihS x1 x2 x3 r3 (F3 60) F6 G6 (SJ.kx (SJ.kx (SJ.kx (SJ.kx hM hM1.1 hM1.2 rfl) hM3 (M4.kx hM3 rfl) rfl) hM4 (M4.kx hM4 rfl) rfl) hM6.1 hM6.2 rfl)
    · skip
      exact mksj_counted_153 rc ihS x1 x2 x3 r3 (F3 60) F4 G4 (SJ.kx (SJ.kx (SJ.kx hM hM1.1 hM1.2 rfl) hM3 (M4.kx hM3 rfl) rfl) hM4 (M4.kx hM4 rfl) rfl)
theorem mksj_counted_63 {fu : Nat} {d : Nat} (rc : RC) (ihS : mSGI d rc) {F0 : PF} {G0 : PG} (x1 : Int32) (F : PF) (G : PG) (hM : SJ ((d : Int) + 1) 1 x1 F0 G0 F G) : PP (mb_counted_63 fu rc x1 F G) (fun r F' G' => r = 1 → SJ ((d : Int) + 1) 0 (F0 15) F0 G0 F' G') := by
  unfold mb_counted_63
  refine PP.bind (PP.and (mw_sign (29 : Int32) F G) (m4_sign (29 : Int32) F G)) ?_
  intro r1 F1 G1 hM1
  dsimp only
  unfold mb_counted_69
  refine PP.ite (fun c_2 => ?_) (fun c_2 => ?_)
  · skip
    unfold mb_counted_72
    refine PP.ret ?_
    exact fun e => absurd e (by decide)
  · skip
    unfold mb_counted_74
    refine PP.bind (mw_isSign (29 : Int32) F1 G1) ?_
    intro r3 F3 G3 hM3
    dsimp only
    unfold mb_counted_87
    refine PP.ite (fun c_4 => ?_) (fun c_4 => ?_)
    · skip
      unfold mb_counted_90
      refine PP.bind (PP.and (mw_expression F3 G3) (m4_expression F3 G3)) ?_
      intro r5 F5 G5 hM5
      dsimp only
      unfold mb_counted_94
      refine PP.ite (fun c_6 => ?_) (fun c_6 => ?_)
      · skip
        unfold mb_counted_97
        refine PP.ret ?_
        exact fun e => absurd e (by decide)
      · skip
        unfold mb_counted_99
        refine PP.bind (mw_step (13 : Int32) (0 : Int32) (0 : Int32) F5 G5) ?_
        intro r7 F7 G7 hM7
        dsimp only
        unfold mb_counted_107
        exact mksj_counted_108 rc ihS x1 (F1 60) r7 F7 G7 (SJ.kx (SJ.kx (SJ.kx (SJ.kx hM hM1.1 hM1.2 rfl) hM3 (M4.kx hM3 rfl) rfl) hM5.1 hM5.2 rfl) hM7 (M4.kx hM7 rfl) rfl)
    · skip
      exact mksj_counted_108 rc ihS x1 (F1 60) (-1 : Int32) F3 G3 (SJ.kx (SJ.kx hM hM1.1 hM1.2 rfl) hM3 (M4.kx hM3 rfl) rfl)
theorem mksj_counted_56 {fu : Nat} {d : Nat} (rc : RC) (ihS : mSGI d rc) {F0 : PF} {G0 : PG} (x1 : Int32) (z0 : Int32) (F : PF) (G : PG) (hM : SJ ((d : Int) + 1) 1 x1 F0 G0 F G) : PP (mb_counted_56 fu rc x1 z0 F G) (fun r F' G' => r = 1 → SJ ((d : Int) + 1) 0 (F0 15) F0 G0 F' G') := by
  unfold mb_counted_56
  refine PP.ite (fun c_1 => ?_) (fun c_1 => ?_)
  · skip
    unfold mb_counted_61
    refine PP.ret ?_
    exact fun e => absurd e (by decide)
  · skip
    exact mksj_counted_63 rc ihS x1 F G hM
theorem mkst_counted {fu : Nat} {d : Nat} (rc : RC) (ihS : mSGI d rc) (F : PF) (G : PG) : PP (mh_counted fu rc F G) (fun r F' G' => r = 1 → SJ ((d : Int) + 1) 0 (F 15) F G F' G') := by
  unfold mh_counted
  unfold mb_counted_0
  refine PP.bind (PP.and (mw_opens F G) (m4_opens F G)) ?_
  intro r1 F1 G1 hM1
  dsimp only
  unfold mb_counted_4
  refine PP.ite (fun c_2 => ?_) (fun c_2 => ?_)
  · skip
    exact mksj_counted_16 rc ihS F1 G1 (SJ.kx SJ.rf hM1.1 hM1.2 rfl)
  · skip
    unfold mb_counted_7
    refine PP.bind (PP.and (mw_openSign (22 : Int32) F1 G1) (m4_openSign (22 : Int32) F1 G1)) ?_
    intro r3 F3 G3 hM3
    dsimp only
    unfold mb_counted_13
    refine PP.ite (fun c_4 => ?_) (fun c_4 => ?_)
    · skip
      exact mksj_counted_16 rc ihS F3 G3 (SJ.kx (SJ.kx SJ.rf hM1.1 hM1.2 rfl) hM3.1 hM3.2 rfl)
    · skip
      unfold mb_counted_18
      refine PP.bind (mp_begins F3 G3) ?_
      intro r5 F5 G5 hM5
      dsimp only
      unfold mb_counted_27
      refine PP.bind (mw_isSign (29 : Int32) F5 G5) ?_
      intro r6 F6 G6 hM6
      dsimp only
      unfold mb_counted_33
      refine PP.ite (fun c_7 => ?_) (fun c_7 => ?_)
      · skip
        unfold mb_counted_36
        refine PP.bind (mw_isWord (0 : Int32) F6 G6) ?_
        intro r8 F8 G8 hM8
        dsimp only
        unfold mb_counted_41
        refine PP.ite (fun c_9 => ?_) (fun c_9 => ?_)
        · skip
          unfold mb_counted_52
          refine PP.bind (PP.and (mw_simple F8 G8) (m4_simple F8 G8)) ?_
          intro r10 F10 G10 hM10
          dsimp only
          exact mksj_counted_56 rc ihS (F3 15) r10 F10 G10 (SJ.kx (SJ.kx (SJ.kx (SJ.bg (SJ.kx (SJ.kx SJ.rf hM1.1 hM1.2 rfl) hM3.1 hM3.2 rfl) hM5 (by omega)) hM6 (M4.kx hM6 rfl) rfl) hM8 (M4.kx hM8 rfl) rfl) hM10.1 hM10.2 rfl)
        · skip
          unfold mb_counted_44
          refine PP.bind (mks_tellHere (0 : Int32) F8 G8) ?_
          intro r11 F11 G11 hM11
          dsimp only
          unfold mb_counted_49
          exact mksj_counted_56 rc ihS (F3 15) r11 F11 G11 (SJ.tr (SJ.kx (SJ.kx (SJ.bg (SJ.kx (SJ.kx SJ.rf hM1.1 hM1.2 rfl) hM3.1 hM3.2 rfl) hM5 (by omega)) hM6 (M4.kx hM6 rfl) rfl) hM8 (M4.kx hM8 rfl) rfl) hM11 (by omega) (by omega))
      · skip
        exact mksj_counted_63 rc ihS (F3 15) F6 G6 (SJ.kx (SJ.bg (SJ.kx (SJ.kx SJ.rf hM1.1 hM1.2 rfl) hM3.1 hM3.2 rfl) hM5 (by omega)) hM6 (M4.kx hM6 rfl) rfl)
theorem mksj_loop_19 {fu : Nat} {d : Nat} (rc : RC) (ihS : mSGI d rc) {F0 : PF} {G0 : PG} (F : PF) (G : PG) (hM : SJ ((d : Int) + 1) 0 (F0 15) F0 G0 F G) : PP (mb_loop_19 fu rc F G) (fun _ F' G' => SJ ((d : Int) + 1) 0 (F0 15) F0 G0 F' G') := by
  unfold mb_loop_19
  refine PP.ret ?_
  exact hM
theorem mkst_loop {fu : Nat} {d : Nat} (rc : RC) (ihS : mSGI d rc) (F : PF) (G : PG) : PP (mh_loop fu rc F G) (fun _ F' G' => SJ ((d : Int) + 1) 0 (F 15) F G F' G') := by
  unfold mh_loop
  unfold mb_loop_0
  refine PP.bind (PP.and (mw_opens F G) (m4_opens F G)) ?_
  intro r1 F1 G1 hM1
  dsimp only
  unfold mb_loop_9
  refine PP.ite (fun c_2 => ?_) (fun c_2 => ?_)
  · skip
    exact mksj_loop_19 rc ihS F1 G1 (SJ.kx SJ.rf hM1.1 hM1.2 rfl)
  · skip
    unfold mb_loop_12
    refine PP.bind (PP.and (mw_condition F1 G1) (m4_condition F1 G1)) ?_
    intro r3 F3 G3 hM3
    dsimp only
    unfold mb_loop_16
    refine PP.ite (fun c_4 => ?_) (fun c_4 => ?_)
    · skip
      exact mksj_loop_19 rc ihS F3 G3 (SJ.kx (SJ.kx SJ.rf hM1.1 hM1.2 rfl) hM3.1 hM3.2 rfl)
    · skip
      unfold mb_loop_21
      refine PP.bind (mw_step (13 : Int32) (0 : Int32) (0 : Int32) F3 G3) ?_
      intro r5 F5 G5 hM5
      dsimp only
      unfold mb_loop_29
      refine PP.bind (ihS 1 (F 60) 0 F5 G5) ?_
      intro r6 F6 G6 hM6
      dsimp only
      unfold mb_loop_35
      refine PP.ite (fun c_7 => ?_) (fun c_7 => ?_)
      · skip
        unfold mb_loop_38
        refine PP.ret ?_
        exact (SJ.tr (SJ.kx (SJ.kx (SJ.kx SJ.rf hM1.1 hM1.2 rfl) hM3.1 hM3.2 rfl) hM5 (M4.kx hM5 rfl) rfl) hM6 (by omega) (by omega))
      · skip
        unfold mb_loop_40
        refine PP.bind (mw_step (12 : Int32) (F 60) (0 : Int32) F6 G6) ?_
        intro r8 F8 G8 hM8
        dsimp only
        unfold mb_loop_53
        refine PP.ix (fun _ => ?_)
        unfold mb_loop_64
        refine PP.bind (mw_settle (F6 65) (F8 60) F8 (gup G8 57 r5.toNatClampNeg (F8 60))) ?_
        intro r9 F9 G9 hM9
        dsimp only
        unfold mb_loop_73
        unfold mb_loop_83
        refine PP.ret ?_
        exact (SJ.f (k := 43) (by decide) (SJ.kx (SJ.g (k := 57) (by decide) (SJ.kx (SJ.tr (SJ.kx (SJ.kx (SJ.kx SJ.rf hM1.1 hM1.2 rfl) hM3.1 hM3.2 rfl) hM5 (M4.kx hM5 rfl) rfl) hM6 (by omega) (by omega)) hM8 (M4.kx hM8 rfl) rfl)) hM9 (M4.kx hM9 rfl) rfl))
theorem mkst_scoped {fu : Nat} {d : Nat} (rc : RC) (ihS : mSGI d rc) (F : PF) (G : PG) : PP (mh_scoped fu rc F G) (fun _ F' G' => SJ ((d : Int) + 1) 0 (F 15) F G F' G') := by
  unfold mh_scoped
  unfold mb_scoped_0
  refine PP.bind (mp_begins F G) ?_
  intro r1 F1 G1 hM1
  dsimp only
  unfold mb_scoped_9
  refine PP.bind (ihS 6 0 0 F1 G1) ?_
  intro r2 F2 G2 hM2
  dsimp only
  unfold mb_scoped_13
  refine PP.bind (mp_ends2 (F 15) F2 G2) ?_
  intro r3 F3 G3 hM3
  dsimp only
  unfold mb_scoped_19
  refine PP.bz (fun _ => ?_)
  refine PP.ret ?_
  exact (SJ.en (SJ.tr (SJ.bg SJ.rf hM1 (by omega)) hM2 (by omega) (by omega)) hM3)
theorem mksj_statement_80 {fu : Nat} {d : Nat} (rc : RC) (ihS : mSGI d rc) {F0 : PF} {G0 : PG} (z0 : Int32) (F : PF) (G : PG) (hM : SJ ((d : Int) + 1) 0 (F0 15) F0 G0 F G) : PP (mb_statement_80 fu rc z0 F G) (fun _ F' G' => SJ ((d : Int) + 1) 0 (F0 15) F0 G0 F' G') := by
  unfold mb_statement_80
  refine PP.bz (fun _ => ?_)
  refine PP.ret ?_
  exact hM
theorem mksj_statement_79 {fu : Nat} {d : Nat} (rc : RC) (ihS : mSGI d rc) {F0 : PF} {G0 : PG} (F : PF) (G : PG) (hM : SJ ((d : Int) + 1) 0 (F0 15) F0 G0 F G) : PP (mb_statement_79 fu rc F G) (fun _ F' G' => SJ ((d : Int) + 1) 0 (F0 15) F0 G0 F' G') := by
  unfold mb_statement_79
  exact mksj_statement_80 rc ihS (0 : Int32) F G hM
theorem mksj_statement_206 {fu : Nat} {d : Nat} (rc : RC) (ihS : mSGI d rc) {F0 : PF} {G0 : PG} (z0 : Int32) (F : PF) (G : PG) (hM : SJ ((d : Int) + 1) 0 (F0 15) F0 G0 F G) : PP (mb_statement_206 fu rc z0 F G) (fun _ F' G' => SJ ((d : Int) + 1) 0 (F0 15) F0 G0 F' G') := by
  unfold mb_statement_206
  refine PP.bz (fun _ => ?_)
  refine PP.ret ?_
  exact hM
theorem mksj_statement_205 {fu : Nat} {d : Nat} (rc : RC) (ihS : mSGI d rc) {F0 : PF} {G0 : PG} (F : PF) (G : PG) (hM : SJ ((d : Int) + 1) 0 (F0 15) F0 G0 F G) : PP (mb_statement_205 fu rc F G) (fun _ F' G' => SJ ((d : Int) + 1) 0 (F0 15) F0 G0 F' G') := by
  unfold mb_statement_205
  exact mksj_statement_206 rc ihS (0 : Int32) F G hM
theorem mksj_statement_289 {fu : Nat} {d : Nat} (rc : RC) (ihS : mSGI d rc) {F0 : PF} {G0 : PG} (F : PF) (G : PG) (hM : SJ ((d : Int) + 1) 0 (F0 15) F0 G0 F G) : PP (mb_statement_289 fu rc F G) (fun _ F' G' => SJ ((d : Int) + 1) 0 (F0 15) F0 G0 F' G') := by
  unfold mb_statement_289
  refine PP.ret ?_
  exact hM
theorem mksj_statement_253 {fu : Nat} {d : Nat} (rc : RC) (ihS : mSGI d rc) {F0 : PF} {G0 : PG} (z0 : Int32) (F : PF) (G : PG) (hM : SJ ((d : Int) + 1) 0 (F0 15) F0 G0 F G) : PP (mb_statement_253 fu rc z0 F G) (fun _ F' G' => SJ ((d : Int) + 1) 0 (F0 15) F0 G0 F' G') := by
  unfold mb_statement_253
  unfold mb_statement_264
  refine PP.bind (PP.and (mw_openSign (22 : Int32) (fup F 42 ((F 42) + (1 : Int32))) G) (m4_openSign (22 : Int32) (fup F 42 ((F 42) + (1 : Int32))) G)) ?_
  intro r1 F1 G1 hM1
  dsimp only
  unfold mb_statement_270
  refine PP.ite (fun c_2 => ?_) (fun c_2 => ?_)
  · skip
    exact mksj_statement_289 rc ihS F1 G1 (SJ.kx (SJ.f (k := 42) (by decide) hM) hM1.1 hM1.2 rfl)
  · skip
    unfold mb_statement_273
    refine PP.bind (PP.and (mw_expression F1 G1) (m4_expression F1 G1)) ?_
    intro r3 F3 G3 hM3
    dsimp only
    unfold mb_statement_277
    refine PP.ite (fun c_4 => ?_) (fun c_4 => ?_)
    · skip
      exact mksj_statement_289 rc ihS F3 G3 (SJ.kx (SJ.kx (SJ.f (k := 42) (by decide) hM) hM1.1 hM1.2 rfl) hM3.1 hM3.2 rfl)
    · skip
      unfold mb_statement_280
      refine PP.bind (PP.and (mw_closeSign (23 : Int32) F3 G3) (m4_closeSign (23 : Int32) F3 G3)) ?_
      intro r5 F5 G5 hM5
      dsimp only
      unfold mb_statement_286
      refine PP.ite (fun c_6 => ?_) (fun c_6 => ?_)
      · skip
        exact mksj_statement_289 rc ihS F5 G5 (SJ.kx (SJ.kx (SJ.kx (SJ.f (k := 42) (by decide) hM) hM1.1 hM1.2 rfl) hM3.1 hM3.2 rfl) hM5.1 hM5.2 rfl)
      · skip
        unfold mb_statement_291
        refine PP.bind (mw_step z0 (0 : Int32) (0 : Int32) F5 G5) ?_
        intro r7 F7 G7 hM7
        dsimp only
        unfold mb_statement_298
        refine PP.bind (PP.and (mw_sign (29 : Int32) F7 G7) (m4_sign (29 : Int32) F7 G7)) ?_
        intro r8 F8 G8 hM8
        dsimp only
        unfold mb_statement_305
        refine PP.bz (fun _ => ?_)
        refine PP.ret ?_
        exact (SJ.kx (SJ.kx (SJ.kx (SJ.kx (SJ.kx (SJ.f (k := 42) (by decide) hM) hM1.1 hM1.2 rfl) hM3.1 hM3.2 rfl) hM5.1 hM5.2 rfl) hM7 (M4.kx hM7 rfl) rfl) hM8.1 hM8.2 rfl)
theorem mkst_statement {fu : Nat} {d : Nat} (rc : RC) (ihS : mSGI d rc) (F : PF) (G : PG) : PP (mh_statement fu rc F G) (fun _ F' G' => SJ ((d : Int) + 1) 0 (F 15) F G F' G') := by
  unfold mh_statement
  unfold mb_statement_0
  refine PP.bind (mw_isSign (26 : Int32) F G) ?_
  intro r1 F1 G1 hM1
  dsimp only
  unfold mb_statement_6
  refine PP.ite (fun c_2 => ?_) (fun c_2 => ?_)
  · skip
    unfold mb_statement_30
    refine PP.bind (mw_isSign (29 : Int32) F1 G1) ?_
    intro r3 F3 G3 hM3
    dsimp only
    unfold mb_statement_36
    refine PP.ite (fun c_4 => ?_) (fun c_4 => ?_)
    · skip
      unfold mb_statement_46
      refine PP.ix (fun _ => ?_)
      refine PP.ite (fun c_5 => ?_) (fun c_5 => ?_)
      · skip
        unfold mb_statement_59
        refine PP.bind (PP.and (mw_simple F3 G3) (m4_simple F3 G3)) ?_
        intro r6 F6 G6 hM6
        dsimp only
        unfold mb_statement_63
        refine PP.ite (fun c_7 => ?_) (fun c_7 => ?_)
        · skip
          exact mksj_statement_79 rc ihS F6 G6 (SJ.kx (SJ.kx (SJ.kx SJ.rf hM1 (M4.kx hM1 rfl) rfl) hM3 (M4.kx hM3 rfl) rfl) hM6.1 hM6.2 rfl)
        · skip
          unfold mb_statement_66
          refine PP.bind (PP.and (mw_sign (29 : Int32) F6 G6) (m4_sign (29 : Int32) F6 G6)) ?_
          intro r8 F8 G8 hM8
          dsimp only
          unfold mb_statement_72
          refine PP.ite (fun c_9 => ?_) (fun c_9 => ?_)
          · skip
            exact mksj_statement_79 rc ihS F8 G8 (SJ.kx (SJ.kx (SJ.kx (SJ.kx SJ.rf hM1 (M4.kx hM1 rfl) rfl) hM3 (M4.kx hM3 rfl) rfl) hM6.1 hM6.2 rfl) hM8.1 hM8.2 rfl)
          · skip
            unfold mb_statement_75
            exact mksj_statement_80 rc ihS (1 : Int32) F8 G8 (SJ.kx (SJ.kx (SJ.kx (SJ.kx SJ.rf hM1 (M4.kx hM1 rfl) rfl) hM3 (M4.kx hM3 rfl) rfl) hM6.1 hM6.2 rfl) hM8.1 hM8.2 rfl)
      · skip
        unfold mb_statement_81
        refine PP.ix (fun _ => ?_)
        refine PP.ite (fun c_10 => ?_) (fun c_10 => ?_)
        · skip
          unfold mb_statement_100
          refine PP.ix (fun _ => ?_)
          refine PP.ite (fun c_11 => ?_) (fun c_11 => ?_)
          · have e_12 : (G3 5 (F3 42).toNatClampNeg).toInt < 0 ∨ 14 < (G3 5 (F3 42).toNatClampNeg).toInt := c_11
            unfold mb_statement_306
            refine PP.bind (PP.and (mw_fails (2 : Int32) F3 G3) (m4_fails (2 : Int32) (by decide) F3 G3)) ?_
            intro r13 F13 G13 hM13
            dsimp only
            unfold mb_statement_311
            refine PP.bz (fun _ => ?_)
            refine PP.ret ?_
            exact (SJ.kx (SJ.kx (SJ.kx SJ.rf hM1 (M4.kx hM1 rfl) rfl) hM3 (M4.kx hM3 rfl) rfl) hM13.1 hM13.2 rfl)
          have e_14 : ¬ ((G3 5 (F3 42).toNatClampNeg).toInt < 0 ∨ 14 < (G3 5 (F3 42).toNatClampNeg).toInt) := c_11
          refine PP.ite (fun c_15 => ?_) (fun c_15 => ?_)
          · skip
            unfold mb_statement_184
            refine PP.bind (mks_tellHere (1 : Int32) F3 G3) ?_
            intro r16 F16 G16 hM16
            dsimp only
            unfold mb_statement_189
            refine PP.ite (fun c_17 => ?_) (fun c_17 => ?_)
            · skip
              exact mksj_statement_205 rc ihS F16 G16 (SJ.tr (SJ.kx (SJ.kx SJ.rf hM1 (M4.kx hM1 rfl) rfl) hM3 (M4.kx hM3 rfl) rfl) hM16 (by omega) (by omega))
            · skip
              unfold mb_statement_192
              refine PP.bind (PP.and (mw_sign (29 : Int32) F16 G16) (m4_sign (29 : Int32) F16 G16)) ?_
              intro r18 F18 G18 hM18
              dsimp only
              unfold mb_statement_198
              refine PP.ite (fun c_19 => ?_) (fun c_19 => ?_)
              · skip
                exact mksj_statement_205 rc ihS F18 G18 (SJ.kx (SJ.tr (SJ.kx (SJ.kx SJ.rf hM1 (M4.kx hM1 rfl) rfl) hM3 (M4.kx hM3 rfl) rfl) hM16 (by omega) (by omega)) hM18.1 hM18.2 rfl)
              · skip
                unfold mb_statement_201
                exact mksj_statement_206 rc ihS (1 : Int32) F18 G18 (SJ.kx (SJ.tr (SJ.kx (SJ.kx SJ.rf hM1 (M4.kx hM1 rfl) rfl) hM3 (M4.kx hM3 rfl) rfl) hM16 (by omega) (by omega)) hM18.1 hM18.2 rfl)
          refine PP.ite (fun c_20 => ?_) (fun c_20 => ?_)
          · skip
            unfold mb_statement_184
            refine PP.bind (mks_tellHere (1 : Int32) F3 G3) ?_
            intro r21 F21 G21 hM21
            dsimp only
            unfold mb_statement_189
            refine PP.ite (fun c_22 => ?_) (fun c_22 => ?_)
            · skip
              exact mksj_statement_205 rc ihS F21 G21 (SJ.tr (SJ.kx (SJ.kx SJ.rf hM1 (M4.kx hM1 rfl) rfl) hM3 (M4.kx hM3 rfl) rfl) hM21 (by omega) (by omega))
            · skip
              unfold mb_statement_192
              refine PP.bind (PP.and (mw_sign (29 : Int32) F21 G21) (m4_sign (29 : Int32) F21 G21)) ?_
              intro r23 F23 G23 hM23
              dsimp only
              unfold mb_statement_198
              refine PP.ite (fun c_24 => ?_) (fun c_24 => ?_)
              · skip
                exact mksj_statement_205 rc ihS F23 G23 (SJ.kx (SJ.tr (SJ.kx (SJ.kx SJ.rf hM1 (M4.kx hM1 rfl) rfl) hM3 (M4.kx hM3 rfl) rfl) hM21 (by omega) (by omega)) hM23.1 hM23.2 rfl)
              · skip
                unfold mb_statement_201
                exact mksj_statement_206 rc ihS (1 : Int32) F23 G23 (SJ.kx (SJ.tr (SJ.kx (SJ.kx SJ.rf hM1 (M4.kx hM1 rfl) rfl) hM3 (M4.kx hM3 rfl) rfl) hM21 (by omega) (by omega)) hM23.1 hM23.2 rfl)
          refine PP.ite (fun c_25 => ?_) (fun c_25 => ?_)
          · skip
            unfold mb_statement_306
            refine PP.bind (PP.and (mw_fails (2 : Int32) F3 G3) (m4_fails (2 : Int32) (by decide) F3 G3)) ?_
            intro r26 F26 G26 hM26
            dsimp only
            unfold mb_statement_311
            refine PP.bz (fun _ => ?_)
            refine PP.ret ?_
            exact (SJ.kx (SJ.kx (SJ.kx SJ.rf hM1 (M4.kx hM1 rfl) rfl) hM3 (M4.kx hM3 rfl) rfl) hM26.1 hM26.2 rfl)
          refine PP.ite (fun c_27 => ?_) (fun c_27 => ?_)
          · skip
            unfold mb_statement_306
            refine PP.bind (PP.and (mw_fails (2 : Int32) F3 G3) (m4_fails (2 : Int32) (by decide) F3 G3)) ?_
            intro r28 F28 G28 hM28
            dsimp only
            unfold mb_statement_311
            refine PP.bz (fun _ => ?_)
            refine PP.ret ?_
            exact (SJ.kx (SJ.kx (SJ.kx SJ.rf hM1 (M4.kx hM1 rfl) rfl) hM3 (M4.kx hM3 rfl) rfl) hM28.1 hM28.2 rfl)
          refine PP.ite (fun c_29 => ?_) (fun c_29 => ?_)
          · skip
            unfold mb_statement_207
            refine PP.bind (ihS 2 0 0 F3 G3) ?_
            intro r30 F30 G30 hM30
            dsimp only
            unfold mb_statement_211
            refine PP.bz (fun _ => ?_)
            refine PP.ret ?_
            exact (SJ.tr (SJ.kx (SJ.kx SJ.rf hM1 (M4.kx hM1 rfl) rfl) hM3 (M4.kx hM3 rfl) rfl) hM30 (by omega) (by omega))
          refine PP.ite (fun c_31 => ?_) (fun c_31 => ?_)
          · skip
            unfold mb_statement_306
            refine PP.bind (PP.and (mw_fails (2 : Int32) F3 G3) (m4_fails (2 : Int32) (by decide) F3 G3)) ?_
            intro r32 F32 G32 hM32
            dsimp only
            unfold mb_statement_311
            refine PP.bz (fun _ => ?_)
            refine PP.ret ?_
            exact (SJ.kx (SJ.kx (SJ.kx SJ.rf hM1 (M4.kx hM1 rfl) rfl) hM3 (M4.kx hM3 rfl) rfl) hM32.1 hM32.2 rfl)
          refine PP.ite (fun c_33 => ?_) (fun c_33 => ?_)
          · skip
            unfold mb_statement_212
            refine PP.bind (ihS 4 0 0 F3 G3) ?_
            intro r34 F34 G34 hM34
            dsimp only
            unfold mb_statement_216
            refine PP.bz (fun _ => ?_)
            refine PP.ret ?_
            exact (SJ.tr (SJ.kx (SJ.kx SJ.rf hM1 (M4.kx hM1 rfl) rfl) hM3 (M4.kx hM3 rfl) rfl) hM34 (by omega) (by omega))
          refine PP.ite (fun c_35 => ?_) (fun c_35 => ?_)
          · skip
            unfold mb_statement_217
            refine PP.bind (ihS 7 0 0 F3 G3) ?_
            intro r36 F36 G36 hM36
            dsimp only
            unfold mb_statement_221
            refine PP.bz (fun _ => ?_)
            refine PP.ret ?_
            exact (SJ.tr (SJ.kx (SJ.kx SJ.rf hM1 (M4.kx hM1 rfl) rfl) hM3 (M4.kx hM3 rfl) rfl) hM36 (by omega) (by omega))
          refine PP.ite (fun c_37 => ?_) (fun c_37 => ?_)
          · skip
            unfold mb_statement_222
            refine PP.bind (ihS 3 0 0 F3 G3) ?_
            intro r38 F38 G38 hM38
            dsimp only
            unfold mb_statement_226
            refine PP.bz (fun _ => ?_)
            refine PP.ret ?_
            exact (SJ.tr (SJ.kx (SJ.kx SJ.rf hM1 (M4.kx hM1 rfl) rfl) hM3 (M4.kx hM3 rfl) rfl) hM38 (by omega) (by omega))
          refine PP.ite (fun c_39 => ?_) (fun c_39 => ?_)
          · skip
            unfold mb_statement_227
            refine PP.bind (PP.and (mw_leaves F3 G3) (m4_leaves F3 G3)) ?_
            intro r40 F40 G40 hM40
            dsimp only
            unfold mb_statement_231
            refine PP.bz (fun _ => ?_)
            refine PP.ret ?_
            exact (SJ.kx (SJ.kx (SJ.kx SJ.rf hM1 (M4.kx hM1 rfl) rfl) hM3 (M4.kx hM3 rfl) rfl) hM40.1 hM40.2 rfl)
          refine PP.ite (fun c_41 => ?_) (fun c_41 => ?_)
          · skip
            unfold mb_statement_227
            refine PP.bind (PP.and (mw_leaves F3 G3) (m4_leaves F3 G3)) ?_
            intro r42 F42 G42 hM42
            dsimp only
            unfold mb_statement_231
            refine PP.bz (fun _ => ?_)
            refine PP.ret ?_
            exact (SJ.kx (SJ.kx (SJ.kx SJ.rf hM1 (M4.kx hM1 rfl) rfl) hM3 (M4.kx hM3 rfl) rfl) hM42.1 hM42.2 rfl)
          refine PP.ite (fun c_43 => ?_) (fun c_43 => ?_)
          · skip
            unfold mb_statement_232
            refine PP.bind (PP.and (mw_returns F3 G3) (m4_returns F3 G3)) ?_
            intro r44 F44 G44 hM44
            dsimp only
            unfold mb_statement_236
            refine PP.bz (fun _ => ?_)
            refine PP.ret ?_
            exact (SJ.kx (SJ.kx (SJ.kx SJ.rf hM1 (M4.kx hM1 rfl) rfl) hM3 (M4.kx hM3 rfl) rfl) hM44.1 hM44.2 rfl)
          refine PP.ite (fun c_45 => ?_) (fun c_45 => ?_)
          · skip
            unfold mb_statement_237
            refine PP.bind (mw_isWord (12 : Int32) F3 G3) ?_
            intro r46 F46 G46 hM46
            dsimp only
            unfold mb_statement_243
            refine PP.ite (fun c_47 => ?_) (fun c_47 => ?_)
            · skip
              unfold mb_statement_251
              exact mksj_statement_253 rc ihS (20 : Int32) F46 G46 (SJ.kx (SJ.kx (SJ.kx SJ.rf hM1 (M4.kx hM1 rfl) rfl) hM3 (M4.kx hM3 rfl) rfl) hM46 (M4.kx hM46 rfl) rfl)
            · skip
              unfold mb_statement_246
              exact mksj_statement_253 rc ihS (19 : Int32) F46 G46 (SJ.kx (SJ.kx (SJ.kx SJ.rf hM1 (M4.kx hM1 rfl) rfl) hM3 (M4.kx hM3 rfl) rfl) hM46 (M4.kx hM46 rfl) rfl)
          refine PP.ite (fun c_48 => ?_) (fun c_48 => ?_)
          · skip
            unfold mb_statement_306
            refine PP.bind (PP.and (mw_fails (2 : Int32) F3 G3) (m4_fails (2 : Int32) (by decide) F3 G3)) ?_
            intro r49 F49 G49 hM49
            dsimp only
            unfold mb_statement_311
            refine PP.bz (fun _ => ?_)
            refine PP.ret ?_
            exact (SJ.kx (SJ.kx (SJ.kx SJ.rf hM1 (M4.kx hM1 rfl) rfl) hM3 (M4.kx hM3 rfl) rfl) hM49.1 hM49.2 rfl)
          unfold mb_statement_237
          refine PP.bind (mw_isWord (12 : Int32) F3 G3) ?_
          intro r50 F50 G50 hM50
          dsimp only
          unfold mb_statement_243
          refine PP.ite (fun c_51 => ?_) (fun c_51 => ?_)
          · skip
            unfold mb_statement_251
            exact mksj_statement_253 rc ihS (20 : Int32) F50 G50 (SJ.kx (SJ.kx (SJ.kx SJ.rf hM1 (M4.kx hM1 rfl) rfl) hM3 (M4.kx hM3 rfl) rfl) hM50 (M4.kx hM50 rfl) rfl)
          · skip
            unfold mb_statement_246
            exact mksj_statement_253 rc ihS (19 : Int32) F50 G50 (SJ.kx (SJ.kx (SJ.kx SJ.rf hM1 (M4.kx hM1 rfl) rfl) hM3 (M4.kx hM3 rfl) rfl) hM50 (M4.kx hM50 rfl) rfl)
        · skip
          unfold mb_statement_94
          refine PP.bind (PP.and (mw_fails (2 : Int32) F3 G3) (m4_fails (2 : Int32) (by decide) F3 G3)) ?_
          intro r52 F52 G52 hM52
          dsimp only
          unfold mb_statement_99
          refine PP.bz (fun _ => ?_)
          refine PP.ret ?_
          exact (SJ.kx (SJ.kx (SJ.kx SJ.rf hM1 (M4.kx hM1 rfl) rfl) hM3 (M4.kx hM3 rfl) rfl) hM52.1 hM52.2 rfl)
    · skip
      unfold mb_statement_39
      refine PP.bind (PP.and (mw_sign (29 : Int32) F3 G3) (m4_sign (29 : Int32) F3 G3)) ?_
      intro r53 F53 G53 hM53
      dsimp only
      unfold mb_statement_45
      refine PP.bz (fun _ => ?_)
      refine PP.ret ?_
      exact (SJ.kx (SJ.kx (SJ.kx SJ.rf hM1 (M4.kx hM1 rfl) rfl) hM3 (M4.kx hM3 rfl) rfl) hM53.1 hM53.2 rfl)
  · skip
    unfold mb_statement_9
    refine PP.bind (mp_begins F1 G1) ?_
    intro r54 F54 G54 hM54
    dsimp only
    unfold mb_statement_18
    refine PP.bind (ihS 0 0 0 F54 G54) ?_
    intro r55 F55 G55 hM55
    dsimp only
    unfold mb_statement_22
    refine PP.bind (mp_ends2 (F1 15) F55 G55) ?_
    intro r56 F56 G56 hM56
    dsimp only
    unfold mb_statement_28
    refine PP.bz (fun _ => ?_)
    refine PP.ret ?_
    exact (SJ.en (SJ.tr (SJ.bg (SJ.kx SJ.rf hM1 (M4.kx hM1 rfl) rfl) hM54 (by omega)) hM55 (by omega) (by omega)) hM56)
theorem mksj_turnLoop_20 {fu : Nat} {d : Nat} (rc : RC) (ihS : mSGI d rc) {F0 : PF} {G0 : PG} (F : PF) (G : PG) (hM : SJ ((d : Int) + 1) 0 (F0 15) F0 G0 F G) : PP (mb_turnLoop_20 fu rc F G) (fun _ F' G' => SJ ((d : Int) + 1) 0 (F0 15) F0 G0 F' G') := by
  unfold mb_turnLoop_20
  refine PP.ret ?_
  exact hM
theorem mksj_turnLoop_58 {fu : Nat} {d : Nat} (rc : RC) (ihS : mSGI d rc) {F0 : PF} {G0 : PG} (F : PF) (G : PG) (hM : SJ ((d : Int) + 1) 0 (F0 15) F0 G0 F G) : PP (mb_turnLoop_58 fu rc F G) (fun _ F' G' => SJ ((d : Int) + 1) 0 (F0 15) F0 G0 F' G') := by
  unfold mb_turnLoop_58
  refine PP.ret ?_
  exact hM
theorem mkst_turnLoop {fu : Nat} {d : Nat} (rc : RC) (ihS : mSGI d rc) (F : PF) (G : PG) : PP (mh_turnLoop fu rc F G) (fun _ F' G' => SJ ((d : Int) + 1) 0 (F 15) F G F' G') := by
  unfold mh_turnLoop
  unfold mb_turnLoop_0
  refine PP.bind (PP.and (mw_opens F G) (m4_opens F G)) ?_
  intro r1 F1 G1 hM1
  dsimp only
  unfold mb_turnLoop_9
  refine PP.ite (fun c_2 => ?_) (fun c_2 => ?_)
  · skip
    exact mksj_turnLoop_20 rc ihS F1 G1 (SJ.kx SJ.rf hM1.1 hM1.2 rfl)
  · skip
    unfold mb_turnLoop_12
    refine PP.bind (ihS 1 (-1 : Int32) 0 F1 G1) ?_
    intro r3 F3 G3 hM3
    dsimp only
    unfold mb_turnLoop_17
    refine PP.ite (fun c_4 => ?_) (fun c_4 => ?_)
    · skip
      exact mksj_turnLoop_20 rc ihS F3 G3 (SJ.tr (SJ.kx SJ.rf hM1.1 hM1.2 rfl) hM3 (by omega) (by omega))
    · skip
      unfold mb_turnLoop_22
      refine PP.bind (mw_settle (F3 66) (F3 60) F3 G3) ?_
      intro r5 F5 G5 hM5
      dsimp only
      unfold mb_turnLoop_41
      refine PP.bind (PP.and (mw_word (6 : Int32) (1 : Int32) F5 G5) (m4_word (6 : Int32) (1 : Int32) F5 G5)) ?_
      intro r6 F6 G6 hM6
      dsimp only
      unfold mb_turnLoop_48
      refine PP.ite (fun c_7 => ?_) (fun c_7 => ?_)
      · skip
        exact mksj_turnLoop_58 rc ihS F6 G6 (SJ.kx (SJ.kx (SJ.tr (SJ.kx SJ.rf hM1.1 hM1.2 rfl) hM3 (by omega) (by omega)) hM5 (M4.kx hM5 rfl) rfl) hM6.1 hM6.2 rfl)
      · skip
        unfold mb_turnLoop_51
        refine PP.bind (PP.and (mw_condition F6 G6) (m4_condition F6 G6)) ?_
        intro r8 F8 G8 hM8
        dsimp only
        unfold mb_turnLoop_55
        refine PP.ite (fun c_9 => ?_) (fun c_9 => ?_)
        · skip
          exact mksj_turnLoop_58 rc ihS F8 G8 (SJ.kx (SJ.kx (SJ.kx (SJ.tr (SJ.kx SJ.rf hM1.1 hM1.2 rfl) hM3 (by omega) (by omega)) hM5 (M4.kx hM5 rfl) rfl) hM6.1 hM6.2 rfl) hM8.1 hM8.2 rfl)
        · skip
          unfold mb_turnLoop_60
          refine PP.bind (mw_step (14 : Int32) (F 60) (0 : Int32) F8 G8) ?_
          intro r10 F10 G10 hM10
          dsimp only
          unfold mb_turnLoop_68
          refine PP.bind (mw_settle (F3 65) (F10 60) F10 G10) ?_
          intro r11 F11 G11 hM11
          dsimp only
          unfold mb_turnLoop_78
          unfold mb_turnLoop_88
          refine PP.bind (PP.and (mw_sign (29 : Int32) (fup F11 43 ((F11 43) - (1 : Int32))) G11) (m4_sign (29 : Int32) (fup F11 43 ((F11 43) - (1 : Int32))) G11)) ?_
          intro r12 F12 G12 hM12
          dsimp only
          unfold mb_turnLoop_94
          refine PP.bz (fun _ => ?_)
          refine PP.ret ?_
          exact (SJ.kx (SJ.f (k := 43) (by decide) (SJ.kx (SJ.kx (SJ.kx (SJ.kx (SJ.kx (SJ.tr (SJ.kx SJ.rf hM1.1 hM1.2 rfl) hM3 (by omega) (by omega)) hM5 (M4.kx hM5 rfl) rfl) hM6.1 hM6.2 rfl) hM8.1 hM8.2 rfl) hM10 (M4.kx hM10 rfl) rfl) hM11 (M4.kx hM11 rfl) rfl)) hM12.1 hM12.2 rfl)
theorem mksS2 {fu : Nat} : ∀ d : Nat, mSGI d (mS2 fu d) := by
  intro d
  induction d with
  | zero => exact fun _ _ _ _ _ => PP.no
  | succ d ih =>
    intro i x y F G
    show PP _ (fun _ F1 G1 => SJ ((d + 1 : Nat) : Int) 0 (F 15) F G F1 G1)
    rw [show ((d + 1 : Nat) : Int) = (d : Int) + 1 from rfl]
    by_cases h0 : i = 0
    · subst h0
      exact mkst_block (mS2 fu d) ih F G
    by_cases h1 : i = 1
    · subst h1
      exact mkst_body (mS2 fu d) ih x F G
    by_cases h2 : i = 2
    · subst h2
      exact mkst_choice (mS2 fu d) ih F G
    by_cases h3 : i = 3
    · subst h3
      exact SJ.up (mkst_counted (mS2 fu d) ih F G) (m4S2 (d + 1) 3 x y F G) (fun z => mrS2 (K := G 4) (V := G 5) (d + 1) 3 x y F G rfl rfl z)
    by_cases h4 : i = 4
    · subst h4
      exact mkst_loop (mS2 fu d) ih F G
    by_cases h5 : i = 5
    · subst h5
      exact mkst_scoped (mS2 fu d) ih F G
    by_cases h6 : i = 6
    · subst h6
      exact mkst_statement (mS2 fu d) ih F G
    by_cases h7 : i = 7
    · subst h7
      exact mkst_turnLoop (mS2 fu d) ih F G
    show PP (if i = 0 then _ else if i = 1 then _ else if i = 2 then _ else if i = 3 then _ else if i = 4 then _ else if i = 5 then _ else if i = 6 then _ else if i = 7 then _ else none) _
    rw [if_neg h0, if_neg h1, if_neg h2, if_neg h3, if_neg h4, if_neg h5, if_neg h6, if_neg h7]
    exact PP.no
theorem mks_block {fu : Nat} (F : PF) (G : PG) : PP (mf_block fu F G) (fun _ F' G' => SJ 300 0 (F 15) F G F' G') := mksS2 300 0 0 0 F G
theorem mks_statement {fu : Nat} (F : PF) (G : PG) : PP (mf_statement fu F G) (fun _ F' G' => SJ 300 0 (F 15) F G F' G') := mksS2 300 6 0 0 F G
