/-- what is told of one name -/
def NE (X : TX) (kd cell size loc : Int32) : Prop := (kd = 0 ∧ ¬ size = -1) ∨ (kd = 1 ∧ (¬ loc = 0 → 0 ≤ cell.toInt ∧ cell.toInt < (X.2.2.2.2.1 : Int) ∧ icell X.2.2.2.2.2 cell.toInt.toNat) ∧ (loc = 0 → 0 ≤ cell.toInt ∧ cell.toInt < (X.2.2.2.1 : Int))) ∨ (kd = 2 ∧ (¬ loc = 0 → arr X cell size 1) ∧ (loc = 0 → arr X cell size 0))
theorem NE.mono {X X1 : TX} {a b c d : Int32} (hX : XL X X1) (h : NE X a b c d) : NE X1 a b c d := by
  obtain ⟨x1, x2, x3, x4, x5, x6⟩ := hX
  rcases h with q | ⟨q, q1, q2⟩ | ⟨q, q1, q2⟩
  · exact Or.inl q
  · refine Or.inr (Or.inl ⟨q, fun z => ?_, fun z => ?_⟩)
    · have w := q1 z
      rw [x6]
      exact ⟨w.1, by have := w.2.1; omega, w.2.2⟩
    · have w := q2 z
      exact ⟨w.1, by have := w.2; omega⟩
  · exact Or.inr (Or.inr ⟨q, fun z => arr.mono ⟨x1, x2, x3, x4, x5, x6⟩ (q1 z), fun z => arr.mono ⟨x1, x2, x3, x4, x5, x6⟩ (q2 z)⟩)
/-- one more name is told -/
def DCL (F : PF) (G : PG) (x2 x4 x5 x6 : Int32) (F1 : PF) (G1 : PG) : Prop := vp_in (F 14) 900 ∧ F1 14 = F 14 + 1 ∧ (∀ k, k ≠ (F 14).toNatClampNeg → G1 17 k = G 17 k ∧ G1 19 k = G 19 k ∧ G1 20 k = G 20 k ∧ G1 21 k = G 21 k ∧ G1 23 k = G 23 k) ∧ G1 17 (F 14).toNatClampNeg = x2 ∧ G1 19 (F 14).toNatClampNeg = F 15 ∧ G1 20 (F 14).toNatClampNeg = x4 ∧ G1 21 (F 14).toNatClampNeg = x5 ∧ G1 23 (F 14).toNatClampNeg = vp_nar .boolean x6
theorem mp_declare {fu : Nat} (x1 x2 x3 x4 x5 x6 : Int32) (F : PF) (G : PG) : PP (mf_declare fu x1 x2 x3 x4 x5 x6 F G) (fun _ F1 G1 => KX [14] [16, 17, 18, 19, 20, 21, 22, 23] F G F1 G1 ∧ ((F 46 = 0 ∧ F1 = F ∧ G1 = G) ∨ (¬ F 46 = 0 ∧ DCL F G x2 x4 x5 x6 F1 G1))) := by
  refine PP.and (mw_declare x1 x2 x3 x4 x5 x6 F G) ?_
  unfold mf_declare mb_declare_0
  refine PP.ite (fun c => ?_) (fun c => ?_)
  · unfold mb_declare_7
    exact PP.ret (Or.inl ⟨c, rfl, rfl⟩)
  · unfold mb_declare_8
    refine PP.ix (fun _ => PP.ix (fun hn => ?_))
    unfold mb_declare_23
    refine PP.ix (fun _ => ?_)
    unfold mb_declare_33
    refine PP.ix (fun _ => PP.ix (fun _ => ?_))
    unfold mb_declare_48
    refine PP.ix (fun _ => ?_)
    unfold mb_declare_61
    refine PP.ix (fun _ => ?_)
    unfold mb_declare_71
    refine PP.ix (fun _ => ?_)
    unfold mb_declare_82
    refine PP.ix (fun _ => ?_)
    unfold mb_declare_93
    refine PP.ix (fun _ => ?_)
    unfold mb_declare_104 mb_declare_114
    refine PP.ret (Or.inr ⟨c, hn, rfl, fun k hk => ⟨?_, ?_, ?_, ?_, ?_⟩, ?_, ?_, ?_, ?_, ?_⟩)
    · exact gup_x (G := gup G 16 (F 14).toNatClampNeg _) (k := 17) hk
    · exact gup_x (G := gup (gup (gup G 16 (F 14).toNatClampNeg _) 17 _ _) 18 _ _) (k := 19) hk
    · exact gup_x (G := gup (gup (gup (gup (gup G 16 (F 14).toNatClampNeg _) 17 _ _) 18 _ _) 19 _ _) 22 _ _) (k := 20) hk
    · exact gup_x (G := gup (gup (gup (gup (gup (gup G 16 (F 14).toNatClampNeg _) 17 _ _) 18 _ _) 19 _ _) 22 _ _) 20 _ _) (k := 21) hk
    · exact gup_x (G := gup (gup (gup (gup (gup (gup (gup G 16 (F 14).toNatClampNeg _) 17 _ _) 18 _ _) 19 _ _) 22 _ _) 20 _ _) 21 _ _) (k := 23) hk
    · exact gup_i (G := gup G 16 (F 14).toNatClampNeg _) (k := 17)
    · exact gup_i (G := gup (gup (gup G 16 (F 14).toNatClampNeg _) 17 _ _) 18 _ _) (k := 19)
    · exact gup_i (G := gup (gup (gup (gup (gup G 16 (F 14).toNatClampNeg _) 17 _ _) 18 _ _) 19 _ _) 22 _ _) (k := 20)
    · exact gup_i (G := gup (gup (gup (gup (gup (gup G 16 (F 14).toNatClampNeg _) 17 _ _) 18 _ _) 19 _ _) 22 _ _) 20 _ _) (k := 21)
    · exact gup_i (G := gup (gup (gup (gup (gup (gup (gup G 16 (F 14).toNatClampNeg _) 17 _ _) 18 _ _) 19 _ _) 22 _ _) 20 _ _) 21 _ _) (k := 23)
theorem DI.dcl {X X1 : TX} {F F1 : PF} {G G1 : PG} {x2 x4 x5 x6 : Int32} (h : DI X F G) (hX : XL X X1) (hd : DCL F G x2 x4 x5 x6 F1 G1) (hn : NE X1 x2 x4 x5 (vp_nar .boolean x6)) : DI X1 F1 G1 := by
  obtain ⟨d1, d2, d3, d4, -, d6, d7, d8⟩ := hd
  obtain ⟨i0, i1⟩ := vp_in_iff.mp d1
  have e : (F 14 + 1).toInt = (F 14).toInt + 1 := i_addn (F 14) rfl (by omega) (by omega)
  intro k hk
  rw [d2, e] at hk
  show NE X1 (G1 17 k) (G1 20 k) (G1 21 k) (G1 23 k)
  by_cases c : k = (F 14).toNatClampNeg
  · rw [c, d4, d6, d7, d8]
    exact hn
  · obtain ⟨q1, -, q3, q4, q5⟩ := d3 k c
    rw [q1, q3, q4, q5]
    have hk2 : (k : Int) < (F 14).toInt := by
      have : k ≠ (F 14).toInt.toNat := c
      omega
    exact NE.mono hX (h k hk2)
theorem KX.rm {a a1 b : List Nat} {F F1 : PF} {G G1 : PG} {k : Nat} (h : KX a b F G F1 G1) (e : F1 k = F k) (ea : a.all (fun j => a1.contains j || j == k) = true) : KX a1 b F G F1 G1 := by
  refine ⟨fun j hj => ?_, h.2⟩
  by_cases c : j = k
  · rw [c]; exact e
  · refine h.1 j ?_
    cases q : a.contains j
    · rfl
    · have := List.all_eq_true.mp ea j (List.contains_iff_mem.mp q)
      rw [hj, Bool.false_or] at this
      exact absurd (beq_iff_eq.mp this) c
/-- fields and arrays that what is sure reads -/
def spo (a b : List Nat) : Bool := !(a.contains 60 || a.contains 44 || a.contains 70 || a.contains 54 || a.contains 43 || a.contains 51 || a.contains 63 || a.contains 64 || b.contains 56 || b.contains 57 || b.contains 58 || b.contains 59)
theorem spo.e {a b : List Nat} (h : spo a b = true) : a.contains 60 = false ∧ a.contains 44 = false ∧ a.contains 70 = false ∧ a.contains 54 = false ∧ a.contains 43 = false ∧ a.contains 51 = false ∧ a.contains 63 = false ∧ a.contains 64 = false ∧ b.contains 56 = false ∧ b.contains 57 = false ∧ b.contains 58 = false ∧ b.contains 59 = false := by
  unfold spo at h
  simp only [Bool.not_eq_true', Bool.or_eq_false_iff] at h
  exact ⟨h.1.1.1.1.1.1.1.1.1.1.1, h.1.1.1.1.1.1.1.1.1.1.2, h.1.1.1.1.1.1.1.1.1.2, h.1.1.1.1.1.1.1.1.2, h.1.1.1.1.1.1.1.2, h.1.1.1.1.1.1.2, h.1.1.1.1.1.2, h.1.1.1.1.2, h.1.1.1.2, h.1.1.2, h.1.2, h.2⟩
section SETS
variable {L : List Nat} {F0 F F1 F2 : PF} {G0 G G1 G2 : PG} {j : Int} {s s1 : SH} {e : Nat} {hs : Nat → Nat → Nat → HLs} {ls : Nat → HLs} {LB LC : List Nat} {a b : List Nat}
/-- nothing is made, but what is told changes -/
theorem PQ.set (h : PQ L F0 G0 j F G s e hs ls LB LC) (K : KX a b F G F1 G1) (hM : M7 F F1) (eq : spo a b = true) (t : ST L F0 G0 → ST L F G → F1 47 = 0 → ST L F1 G1 ∧ XL (XS L F G) (XS L F1 G1)) : PQ L F0 G0 j F1 G1 s e hs ls LB LC := by
  obtain ⟨h1, h2, h3, h4, h5, h6, h7, h8⟩ := h
  obtain ⟨e60, e44, e70, e54, e43, e51, e63, e64, q4, q5, q6, q7⟩ := spo.e eq
  refine ⟨h1.kx K e60 e44 e70 e54 e43 e51, S_eq h2 (K.1 60 e60), CB.kx h3 K q4 q5 q6 q7, M7.tr h4 hM, by rw [K.1 43 e43]; exact h5, (K.1 51 e51).trans h6, CK.lo h7 (K.1 63 e63) (K.1 64 e64) (Nat.le_of_eq ?_) (fun p _ => by rw [K.2 57 q5]), fun hS h47 => ?_⟩
  · show (F 60).toNatClampNeg = (F1 60).toNatClampNeg
    rw [K.1 60 e60]
  · obtain ⟨S1, X1, E⟩ := h8 hS (hM h47)
    obtain ⟨t1, t2⟩ := t hS S1 h47
    exact ⟨t1, X1.tr t2, fun A d dB dC hB hC hA => EY.st (EY.mono t2 (E A d dB dC hB hC hA)) (K.1 60 e60) (KX.c K q4 q5 q6 q7)⟩
/-- a step, and what is told changes behind it: the step is typed by what is told then -/
theorem PQ.big {w x y : Int32} (h : PQ L F0 G0 j F G s e hs ls LB LC) (hl : s.length ≤ 600) (K1 : KX [60] [56, 57, 58] F G F1 G1) (e60 : F1 60 = F 60 + 1) (eg : G1 = g3s G (sN F) w x y) (hn : vp_in (F 60) 9000) (K : KX a b F1 G1 F2 G2) (hM : M7 F1 F2) (eq : spo a b = true) (t : ST L F0 G0 → ST L F G → F2 47 = 0 → ST L F2 G2 ∧ XL (XS L F G) (XS L F2 G2) ∧ ∀ z, opI (XS L F2 G2) w x y z s s1) : PQ L F0 G0 j F2 G2 s1 e hs ls LB LC := by
  obtain ⟨h1, h2, h3, h4, h5, h6, h7, h8⟩ := h
  obtain ⟨i60, e44, e70, e54, e43, e51, e63, e64, q4, q5, q6, q7⟩ := spo.e eq
  have S1 : sN F ≤ sN F1 := S_st (Nat.le_refl _) hn e60
  have en : sN F2 = sN F1 := by show (F2 60).toNatClampNeg = (F1 60).toNatClampNeg; rw [K.1 60 i60]
  have M1 : M7 F F1 := M7.kx K1 rfl
  refine ⟨?_, by rw [en]; exact S_st h2 hn e60, CB.kx (CB.stp h3 h2 eg) K q4 q5 q6 q7, M7.tr h4 (M7.tr M1 hM), by rw [K.1 43 e43, K1.1 43 rfl]; exact h5, (K.1 51 e51).trans ((K1.1 51 rfl).trans h6), CK.lo h7 ((K.1 63 e63).trans (K1.1 63 rfl)) ((K.1 64 e64).trans (K1.1 64 rfl)) (by rw [en]; exact S1) (fun p hp => ?_), ?_⟩
  · have g1 : GP F1 := by
      obtain ⟨b1, b2, b3, b4, b5, b6, b7, b8⟩ := h1
      unfold GP
      rw [K1.1 44 rfl, K1.1 70 rfl, K1.1 54 rfl, K1.1 43 rfl, K1.1 51 rfl]
      exact ⟨inc60 hn e60, b2, b3, b4, b5, b6, b7, b8⟩
    exact g1.kx K i60 e44 e70 e54 e43 e51
  · rw [K.2 57 q5, eg]
    exact (g3s_c p (by have := (h7.2.2.1 p hp).2; omega)).2.1
  · refine TY.seq (hs1 := fun _ _ _ => []) h8 (M7.tr M1 hM) (fun hS0 hS h47 => ?_)
    obtain ⟨t1, t2, t3⟩ := t hS0 hS h47
    exact ⟨t1, t2, fun A d _ _ _ _ hA _ => EX.st (EX.stp (EX.rf hA) hn e60 eg hl t3) (K.1 60 i60) (KX.c K q4 q5 q6 q7)⟩
/-- behind a constant's value -/
theorem PQ.val (h : PQ L F0 G0 j F G s e hs ls LB LC) (v : VQ F G F1 G1) (h44 : F1 44 = 0 ∧ F1 43 = F 43 ∧ F1 70 = F 70) : PQ L F0 G0 j F1 G1 s e hs ls LB LC := by
  obtain ⟨h1, h2, h3, h4, h5, h6, h7, h8⟩ := h
  obtain ⟨v1, v2, v3, v4, v5, -, -⟩ := v
  have K : KX [42, 43, 44, 45, 47, 48, 49, 55, 62, 70, 72] [56, 57, 58, 59, 67, 68, 69, 71] F G F1 G1 := (v1.rm (k := 54) (a1 := [42, 43, 44, 45, 47, 48, 49, 55, 60, 62, 70, 72]) v3 rfl).rm (k := 60) v2 rfl
  have en : sN F1 = sN F := by show (F1 60).toNatClampNeg = (F 60).toNatClampNeg; rw [v2]
  obtain ⟨z1, z2, z3⟩ := h44
  refine ⟨?_, by rw [en]; exact h2, CB.tr h3 h2 v4, M7.tr h4 v5, by rw [z2]; exact h5, (K.1 51 rfl).trans h6, CK.lo h7 (K.1 63 rfl) (K.1 64 rfl) (Nat.le_of_eq en.symm) (fun p hp => (v4 p (h7.2.2.1 p hp).2).2.1), ?_⟩
  · obtain ⟨b1, b2, b3, b4, b5, b6, b7, b8⟩ := h1
    unfold GP
    rw [v2, z3, v3, z2, K.1 51 rfl]
    exact ⟨b1, z1, b3, b4, b5, b6, b7, b8⟩
  · refine TY.seq (hs1 := fun _ _ _ => []) h8 v5 (fun _ hS h47 => ?_)
    have hX := XS.kx (L := L) K rfl
    refine ⟨hS.kx K v5 rfl rfl rfl, XL.of hX, fun A d dB dC _ _ hA _ => ?_⟩
    rw [hX]
    exact EX.lo (EX.rf hA) v2 v4
theorem PQ.valB (h : PQ L F0 G0 j F G s e hs ls LB LC) (v : VQ F G F1 G1) (u : FLT F1 F2 G1 G2) : SQ0 L F0 G0 0 F2 G2 := by
  obtain ⟨h1, h2, h3, h4, h5, h6, h7, h8⟩ := h
  obtain ⟨v1, v2, v3, v4, v5, -, -⟩ := v
  obtain ⟨-, rfl, K⟩ := u
  have en : sN F2 = sN F := by show (F2 60).toNatClampNeg = (F 60).toNatClampNeg; rw [K.1 60 rfl, v2]
  refine ⟨⟨Or.inl rfl, by rw [K.1 60 rfl, v2]; exact h1.1, by rw [en]; exact h2, CB.tr h3 h2 v4, fun z => absurd z (by decide)⟩, LB, LC, CK.lo h7 ((K.1 63 rfl).trans (v1.1 63 rfl)) ((K.1 64 rfl).trans (v1.1 64 rfl)) (Nat.le_of_eq en.symm) (fun p hp => (v4 p (h7.2.2.1 p hp).2).2.1), fun z => absurd z (by decide)⟩
end SETS
theorem icell_ge : ∀ (L : List Nat) (n : Nat), cellsOf L ≤ n → icell L n := by
  intro L
  induction L with
  | nil => intro n _; exact trivial
  | cons k L ih =>
    intro n h
    unfold cellsOf at h
    unfold icell
    by_cases c : k = 0
    · rw [if_pos c] at h ⊢
      exact Or.inr (ih _ (by omega))
    · rw [if_neg c] at h ⊢
      exact ⟨by omega, ih _ (by omega)⟩
theorem ST.dc {L : List Nat} {F : PF} {G : PG} (h : ST L F G) (hg : GP F) : DC F G := (h.tp hg).dc h.2.1 (by rw [h.1]; decide)
theorem quart {x : Int32} (h1 : 1 ≤ x.toInt) (h2 : x.toInt ≤ 500) : ((x + 3) / 4).toInt = (x.toInt + 3) / 4 := by
  have e : (x + 3).toInt = x.toInt + 3 := i_addn x rfl (by omega) (by omega)
  have z : (0 : Int32).toInt = 0 := rfl
  have lt : ¬ x + 3 < 0 := fun h => by have := i_lt.mp h; omega
  obtain ⟨n, hn, e1⟩ := nI_of (x := x + 3) lt
  rw [e1] at e ⊢
  rw [nI_toInt hn] at e
  rw [show (4 : Int32) = nI 4 from rfl, pk_div hn (by decide) (by decide), nI_toInt (by omega)]
  omega
section TELL
variable {fu : Nat} {L : List Nat} {F0 : PF} {G0 : PG}
/-- a place for an own number is there -/
def TC (L : List Nat) (F0 : PF) (G0 : PG) (F : PF) (c : Int32) : Prop := ST L F0 G0 → F 47 = 0 → (cellsOf L : Int) ≤ c.toInt ∧ c.toInt < (F 53).toInt
theorem tl_326 (hg : GP F0) (x3 x4 : Int32) (F : PF) (G : PG) (h : PQ L F0 G0 0 F G [0] 0 hN0 lN0 [] []) (hc : TC L F0 G0 F x4) : PP (mb_tellHere_326 fu x3 x4 F G) (fun r F1 G1 => XQ L [] F0 G0 r F1 G1) := by
  unfold mb_tellHere_326
  have pre : ST L F0 G0 → ST L F G → F 47 = 0 → 0 ≤ x4.toInt ∧ x4.toInt < ((XS L F G).2.2.2.2.1 : Int) ∧ icell (XS L F G).2.2.2.2.2 x4.toInt.toNat := by
    intro hS0 hS h47
    obtain ⟨c1, c2⟩ := hc hS0 h47
    refine ⟨by omega, ?_, icell_ge L _ (by omega)⟩
    show x4.toInt < (((F 53).toInt.toNat : Nat) : Int)
    omega
  refine PP.bind (h.stp (s1 := []) (e1 := 0) (hs1 := hN0) 2 x4 0 ?_) ?_
  · intro F1 G1 e60 eg hn hS0 hS h47 A d dB dC _ _ hA _
    have q := pre hS0 hS h47
    exact EX.stp (EX.rf hA) hn e60 eg (by decide) (fun _ => Or.inr (Or.inr (Or.inr (Or.inr ⟨hS.m, Or.inr (Or.inl ⟨rfl, q.1, q.2.1, q.2.2, rfl⟩)⟩))))
  · rintro _ F1 G1 ⟨rfl, K, -, -, q⟩
    dsimp only
    unfold mb_tellHere_334
    refine PP.bind (mp_declare x3 1 0 x4 1 1 F1 G1) ?_
    rintro r F2 G2 ⟨K2, hd⟩
    dsimp only
    unfold mb_tellHere_346
    refine PP.ret (Or.inl ⟨rfl, ?_⟩)
    refine q.set K2 (M7.kx K2 rfl) rfl (fun hS0 hS h47 => ?_)
    rcases hd with ⟨q1, -⟩ | ⟨-, hd⟩
    · exact absurd q1 hS.n0
    · have z1 : F1 47 = 0 := (K2.1 47 rfl).symm.trans h47
      have z : F 47 = 0 := (K.1 47 rfl).symm.trans z1
      obtain ⟨c1, c2⟩ := hc hS0 z
      have hk : kindsOf G2 = kindsOf G1 := by
        funext f
        unfold kindsOf
        rw [K2.2 27 rfl, K2.2 31 rfl, K2.2 34 rfl]
      have hX : XS L F2 G2 = XS L F1 G1 := by
        unfold XS
        rw [K2.1 24 rfl, K2.1 37 rfl, K2.1 53 rfl, K2.1 54 rfl, hk]
      obtain ⟨s1, s2, s3, s4, s5, s6⟩ := hS
      have s6 := s6 z1
      obtain ⟨i0, i1⟩ := vp_in_iff.mp hd.1
      have e14 : (F1 14 + 1).toInt = (F1 14).toInt + 1 := i_addn (F1 14) rfl (by omega) (by omega)
      refine ⟨⟨by rw [K2.1 46 rfl]; exact s1, by rw [K2.1 54 rfl]; exact s2, ?_, by rw [hd.2.1, e14]; omega, by rw [K2.1 24 rfl]; exact s5, fun _ => ?_⟩, XL.of hX⟩
      · unfold FTb at s3 ⊢
        rw [K2.1 24 rfl, K2.2 27 rfl, K2.2 31 rfl, K2.2 34 rfl]
        exact s3
      · rw [K2.1 52 rfl, K2.1 53 rfl]
        refine ⟨?_, s6.2⟩
        rw [hX]
        refine DI.dcl s6.1 XL.rf hd (Or.inr (Or.inl ⟨rfl, fun _ => ⟨by omega, ?_, icell_ge L _ (by omega)⟩, fun q0 => absurd q0 (by decide)⟩))
        show x4.toInt < (((F1 53).toInt.toNat : Nat) : Int)
        rw [K.1 53 rfl]
        omega
theorem tl_277 (hg : GP F0) (x1 x3 x4 : Int32) (F : PF) (G : PG) (h : PQ L F0 G0 0 F G [] 0 hN0 lN0 [] []) (hc : TC L F0 G0 F x4) : PP (mb_tellHere_277 fu x1 x3 x4 F G) (fun r F1 G1 => XQ L [] F0 G0 r F1 G1) := by
  unfold mb_tellHere_277
  refine PP.bind (mp_isSign 32 F G) ?_
  rintro z0 _ _ ⟨rfl, rfl, -⟩
  dsimp only
  unfold mb_tellHere_283
  refine PP.ite (fun _ => ?_) (fun _ => ?_)
  · unfold mb_tellHere_305
    refine PP.ite (fun _ => ?_) (fun _ => ?_)
    · unfold mb_tellHere_320
      refine PP.bind (mp_fails 2 (by decide) F G) ?_
      rintro r F1 G1 ⟨rfl, u⟩
      dsimp only
      unfold mb_tellHere_325
      exact PP.bz (fun _ => PP.ret (Or.inr ⟨rfl, h.flt u⟩))
    · unfold mb_tellHere_309
      refine PP.bind (h.step 0 0 0 [0] (by decide) (fun _ _ _ => Or.inl ⟨rfl, rfl⟩)) ?_
      rintro _ F1 G1 ⟨rfl, K, -, -, q⟩
      dsimp only
      unfold mb_tellHere_316
      refine tl_326 hg x3 x4 F1 G1 q (fun hS z => ?_)
      rw [K.1 53 rfl]
      exact hc hS ((K.1 47 rfl).symm.trans z)
  · unfold mb_tellHere_286 mb_tellHere_296
    refine PP.bind (PP.and (mn_expression _ _) ((PQ.f (k := 42) h).expr (by decide))) ?_
    rintro r F1 G1 ⟨hM, K, (⟨rfl, q⟩ | ⟨rfl, q⟩)⟩
    · dsimp only
      unfold mb_tellHere_300
      rw [if_neg (by decide)]
      refine tl_326 hg x3 x4 F1 G1 q (fun hS z => ?_)
      rw [K.1 53 rfl]
      exact hc hS (hM z)
    · dsimp only
      unfold mb_tellHere_300 mb_tellHere_303
      rw [if_pos rfl]
      exact PP.ret (Or.inr ⟨rfl, q⟩)
theorem tl_210 (hg : GP F0) (x1 x3 : Int32) (F : PF) (G : PG) (h : PQ L F0 G0 0 F G [] 0 hN0 lN0 [] []) : PP (mb_tellHere_210 fu x1 x3 F G) (fun r F1 G1 => XQ L [] F0 G0 r F1 G1) := by
  unfold mb_tellHere_210
  refine PP.bind (PP.and (mw_twice x3 F G) (mn_twice x3 F G)) ?_
  rintro r F1 G1 ⟨K, hM⟩
  dsimp only
  have h1 : PQ L F0 G0 0 F1 G1 [] 0 hN0 lN0 [] [] := h.kx K hM rfl rfl rfl rfl
  unfold mb_tellHere_215
  have l2 : (200 : Int32).toInt = 200 := rfl
  -- how the rest goes: with the room, or behind a note
  have rest : ∀ (F2 : PF) (G2 : PG), KX [47, 48, 49, 52] [] F1 G1 F2 G2 → M7 F1 F2 → F2 52 = F1 52 + 1 → (F2 52 ≤ 200 ∨ (ST L F0 G0 → ¬ F2 47 = 0)) → PP (mb_tellHere_247 fu x1 x3 F2 G2) (fun r F1 G1 => XQ L [] F0 G0 r F1 G1) := by
    intro F2 G2 K2 M2 e52 hor
    have key : ∀ (v : Int32), (ST L F0 G0 → F2 47 = 0 → v = 1) → PQ L F0 G0 0 (fup F2 53 (F2 53 + v)) G2 [] 0 hN0 lN0 [] [] ∧ TC L F0 G0 (fup F2 53 (F2 53 + v)) (F2 53) := by
      intro v hv
      have K3 : KX [47, 48, 49, 52, 53] [] F1 G1 (fup F2 53 (F2 53 + v)) G2 := KX.f rfl (KX.tr KX.rf K2 rfl rfl)
      have num : ST L F0 G0 → ST L F1 G1 → F2 47 = 0 → v = 1 ∧ (F2 52).toInt = (F1 52).toInt + 1 ∧ (F2 52).toInt ≤ 200 ∧ 0 ≤ (F1 52).toInt ∧ cellsOf L ≤ 8 ∧ (cellsOf L : Int) ≤ (F1 53).toInt ∧ (F1 53).toInt ≤ (cellsOf L : Int) + 4 * (F1 52).toInt ∧ (F2 53 + v).toInt = (F1 53).toInt + 1 ∧ DI (XS L F1 G1) F1 G1 := by
        intro hS0 hS z
        obtain ⟨s1, s2, s3, s4, s5, s6⟩ := hS
        obtain ⟨t1, t2, t3, t4, t5, t6⟩ := s6 (M2 z)
        have hv := hv hS0 z
        have e : (F1 52 + 1).toInt = (F1 52).toInt + 1 := i_addn _ rfl (by omega) (by omega)
        have e3 : (F1 53 + 1).toInt = (F1 53).toInt + 1 := i_addn _ rfl (by omega) (by omega)
        refine ⟨hv, by rw [e52]; exact e, ?_, t3, t2, t5, t6, by rw [hv, K2.1 53 rfl]; exact e3, t1⟩
        rcases hor with q | q
        · have := i_le.mp q
          omega
        · exact absurd z (q hS0)
      refine ⟨h1.set K3 (M7.f (by decide) M2) rfl (fun hS0 hS z => ?_), fun hS0 z => ?_⟩
      · obtain ⟨n0, n1, n2, n3, n4, n5, n6, n7, n8⟩ := num hS0 hS z
        obtain ⟨s1, s2, s3, s4, s5, s6⟩ := hS
        have hk : kindsOf G2 = kindsOf G1 := by
          funext f
          unfold kindsOf
          rw [K2.2 27 rfl, K2.2 31 rfl, K2.2 34 rfl]
        have hX : XL (XS L F1 G1) (XS L (fup F2 53 (F2 53 + v)) G2) := by
          refine ⟨?_, ?_, hk, ?_, ?_, rfl⟩
          · show decide (¬ F2 54 = 0) = decide (¬ F1 54 = 0)
            rw [K2.1 54 rfl]
          · show (F2 24).toInt.toNat = _
            rw [K2.1 24 rfl]
            rfl
          · show (F1 37).toInt.toNat ≤ (F2 37).toInt.toNat
            rw [K2.1 37 rfl]
            exact Nat.le_refl _
          · show (F1 53).toInt.toNat ≤ (F2 53 + v).toInt.toNat
            omega
        refine ⟨⟨(K2.1 46 rfl).trans s1, (K2.1 54 rfl).trans s2, ?_, by show 0 ≤ (F2 14).toInt; rw [K2.1 14 rfl]; exact s4, by show 0 ≤ (F2 24).toInt; rw [K2.1 24 rfl]; exact s5, fun _ => ⟨?_, n4, ?_, n2, ?_, ?_⟩⟩, hX⟩
        · unfold FTb at s3 ⊢
          show ∀ f : Nat, (f : Int) < (F2 24).toInt → _
          rw [K2.1 24 rfl, K2.2 27 rfl, K2.2 31 rfl, K2.2 34 rfl]
          exact s3
        · intro k hk2
          have hk2 : (k : Int) < (F2 14).toInt := hk2
          rw [K2.1 14 rfl] at hk2
          rw [K2.2 17 rfl, K2.2 20 rfl, K2.2 21 rfl, K2.2 23 rfl]
          exact NE.mono hX (n8 k hk2)
        · show 0 ≤ (F2 52).toInt
          omega
        · show (cellsOf L : Int) ≤ (F2 53 + v).toInt
          omega
        · show (F2 53 + v).toInt ≤ (cellsOf L : Int) + 4 * (F2 52).toInt
          omega
      · have z1 : F2 47 = 0 := z
        obtain ⟨S1, -, -⟩ := h1.2.2.2.2.2.2.2 hS0 (M2 z1)
        obtain ⟨n0, n1, n2, n3, n4, n5, n6, n7, n8⟩ := num hS0 S1 z1
        refine ⟨by rw [K2.1 53 rfl]; exact n5, ?_⟩
        show (F2 53).toInt < (F2 53 + v).toInt
        rw [n7, K2.1 53 rfl]
        omega
    unfold mb_tellHere_247
    refine PP.ite (fun c => ?_) (fun c => ?_)
    · unfold mb_tellHere_272 mb_tellHere_273
      obtain ⟨k1, k2⟩ := key 1 (fun _ _ => rfl)
      exact tl_277 hg x1 x3 _ _ _ k1 k2
    · unfold mb_tellHere_268 mb_tellHere_273
      rcases hor with q | q
      · exact absurd q c
      · obtain ⟨k1, k2⟩ := key 0 (fun hS z => absurd z (q hS))
        exact tl_277 hg x1 x3 _ _ _ k1 k2
  have K2 : KX [47, 48, 49, 52] [] F1 G1 (fup F1 52 (F1 52 + 1)) G1 := KX.f rfl KX.rf
  unfold mb_tellHere_225
  refine PP.ite (fun c => ?_) (fun c => ?_)
  · exact rest _ _ K2 (M7.f (by decide) M7.rf) rfl (Or.inl c)
  · unfold mb_tellHere_235
    refine PP.ix (fun _ => PP.bind (PP.and (mp_note 11 _ (by decide) _ _) (mm_note 11 _ (by decide) _ _)) ?_)
    rintro r F3 G3 ⟨⟨K3, rfl, n1, -⟩, hM3⟩
    dsimp only
    refine rest F3 G1 (KX.tr K2 K3 rfl rfl) (M7.tr (M7.f (by decide) M7.rf) hM3.1) (K3.1 52 rfl) (Or.inr (fun hS q => ?_))
    have S1 := (h1.2.2.2.2.2.2.2 hS (hM3.1 q)).1
    have := n1 S1.n0
    rw [q] at this
    exact absurd this (by decide)
theorem tl_193 (hg : GP F0) (x2 x3 x4 z0 : Int32) (F : PF) (G : PG) (h : PQ L F0 G0 0 F G [] 0 hN0 lN0 [] []) (hr : ST L F0 G0 → F 47 = 0 → z0 = x4 ∧ 1 ≤ x4.toInt ∧ x4.toInt ≤ 500 ∧ (F 53).toInt + x4.toInt ≤ (cellsOf L : Int) + 4 * (F 52).toInt) : PP (mb_tellHere_158 fu x2 x3 x4 z0 F G) (fun r F1 G1 => XQ L [] F0 G0 r F1 G1) := by
  unfold mb_tellHere_158
  refine PP.bind (mq_step 22 (F 53) z0 F G) ?_
  rintro _ F1 G1 ⟨K1, rfl, e60, eg, hn⟩
  dsimp only
  have nx : ∀ sz : Int32, (ST L F0 G0 → F 47 = 0 → sz = x4) → PP (mb_tellHere_193 fu z0 sz (F1 53) x2 2 x3 F1 G1) (fun r F1 G1 => XQ L [] F0 G0 r F1 G1) := by
    intro sz hsz
    unfold mb_tellHere_193
    refine PP.bind (mp_declare x3 2 x2 (F1 53) sz 1 F1 G1) ?_
    rintro r F2 G2 ⟨K2, hd⟩
    dsimp only
    unfold mb_tellHere_197 mb_tellHere_208
    refine PP.ret (Or.inl ⟨rfl, ?_⟩)
    have K3 : KX [14, 53] [16, 17, 18, 19, 20, 21, 22, 23] F1 G1 (fup F2 53 (F2 53 + z0)) G2 := KX.f rfl (KX.tr KX.rf K2 rfl rfl)
    refine h.big (by decide) K1 e60 eg hn K3 (M7.kx K3 rfl) rfl (fun hS0 hS z => ?_)
    have z2 : F2 47 = 0 := z
    have z1 : F1 47 = 0 := (K2.1 47 rfl).symm.trans z2
    have z0' : F 47 = 0 := (K1.1 47 rfl).symm.trans z1
    obtain ⟨r1, r2, r3, r5⟩ := hr hS0 z0'
    have hsz := hsz hS0 z0'
    obtain ⟨s1, s2, s3, s4, s5, s6⟩ := hS
    obtain ⟨t1, t2, t3, t4, t5, t6⟩ := s6 z0'
    rcases hd with ⟨q1, -⟩ | ⟨-, hd⟩
    · rw [K1.1 46 rfl, s1] at q1
      exact absurd q1 (by decide)
    · have e53 : F2 53 = F 53 := (K2.1 53 rfl).trans (K1.1 53 rfl)
      have e52 : F2 52 = F 52 := (K2.1 52 rfl).trans (K1.1 52 rfl)
      have e5 : (F 53 + x4).toInt = (F 53).toInt + x4.toInt := i_addn _ rfl (by omega) (by omega)
      have en : (F2 53 + z0).toInt = (F 53).toInt + x4.toInt := by rw [e53, r1]; exact e5
      have hk : kindsOf G2 = kindsOf G := by
        funext f
        unfold kindsOf
        rw [K2.2 27 rfl, K2.2 31 rfl, K2.2 34 rfl, K1.2 27 rfl, K1.2 31 rfl, K1.2 34 rfl]
      have hX : XL (XS L F G) (XS L (fup F2 53 (F2 53 + z0)) G2) := by
        refine ⟨?_, ?_, hk, ?_, ?_, rfl⟩
        · show decide (¬ F2 54 = 0) = decide (¬ F 54 = 0)
          rw [K2.1 54 rfl, K1.1 54 rfl]
        · show (F2 24).toInt.toNat = _
          rw [K2.1 24 rfl, K1.1 24 rfl]
          rfl
        · show (F 37).toInt.toNat ≤ (F2 37).toInt.toNat
          rw [K2.1 37 rfl, K1.1 37 rfl]
          exact Nat.le_refl _
        · show (F 53).toInt.toNat ≤ (F2 53 + z0).toInt.toNat
          omega
      obtain ⟨i0, i1⟩ := vp_in_iff.mp hd.1
      have e14 : (F1 14 + 1).toInt = (F1 14).toInt + 1 := i_addn (F1 14) rfl (by omega) (by omega)
      have own : ((XS L (fup F2 53 (F2 53 + z0)) G2).2.2.2.2.1 : Int) = (F 53).toInt + x4.toInt := by
        show (((F2 53 + z0).toInt.toNat : Nat) : Int) = _
        omega
      have hd1 : DI (XS L F G) F1 G1 := by
        intro k hk2
        rw [K1.1 14 rfl] at hk2
        rw [K1.2 17 rfl, K1.2 20 rfl, K1.2 21 rfl, K1.2 23 rfl]
        exact t1 k hk2
      have cl : (cellsOf (XS L (fup F2 53 (F2 53 + z0)) G2).2.2.2.2.2 : Int) = (cellsOf L : Int) := rfl
      refine ⟨⟨by show F2 46 = 1; rw [K2.1 46 rfl, K1.1 46 rfl]; exact s1, by show F2 54 = 0; rw [K2.1 54 rfl, K1.1 54 rfl]; exact s2, ?_, by show 0 ≤ (F2 14).toInt; rw [hd.2.1, e14]; omega, by show 0 ≤ (F2 24).toInt; rw [K2.1 24 rfl, K1.1 24 rfl]; exact s5, fun _ => ⟨?_, t2, ?_, ?_, ?_, ?_⟩⟩, hX, fun zz => ?_⟩
      · unfold FTb at s3 ⊢
        show ∀ f : Nat, (f : Int) < (F2 24).toInt → _
        rw [K2.1 24 rfl, K2.2 27 rfl, K2.2 31 rfl, K2.2 34 rfl, K1.1 24 rfl, K1.2 27 rfl, K1.2 31 rfl, K1.2 34 rfl]
        exact s3
      · refine DI.dcl (F1 := fup F2 53 (F2 53 + z0)) hd1 hX hd (Or.inr (Or.inr ⟨rfl, fun _ => Or.inr (Or.inl ⟨?_, rfl, ?_, ?_⟩), fun q0 => absurd q0 (by decide)⟩))
        · rw [hsz]; exact r2
        · rw [cl, K1.1 53 rfl]; exact t5
        · rw [own, K1.1 53 rfl, hsz]; omega
      · show 0 ≤ (F2 52).toInt
        rw [e52]; exact t3
      · show (F2 52).toInt ≤ 200
        rw [e52]; exact t4
      · show (cellsOf L : Int) ≤ (F2 53 + z0).toInt
        omega
      · show (F2 53 + z0).toInt ≤ (cellsOf L : Int) + 4 * (F2 52).toInt
        rw [e52]; omega
      · refine Or.inr (Or.inr (Or.inr (Or.inr ⟨?_, Or.inr (Or.inr (Or.inr (Or.inr (Or.inr (Or.inr (Or.inr (Or.inr (Or.inr (Or.inr (Or.inr (Or.inr ⟨rfl, ?_, ?_, ?_, rfl⟩)))))))))))⟩)))
        · show decide (¬ F2 54 = 0) = false
          rw [K2.1 54 rfl, K1.1 54 rfl, s2]
          rfl
        · rw [r1]; omega
        · rw [cl]; exact t5
        · rw [own, r1]
          omega
  unfold mb_tellHere_172 mb_tellHere_187 mb_tellHere_191
  refine PP.ite (fun c => nx 1 (fun hS z => ?_)) (fun _ => nx x4 (fun _ _ => rfl))
  obtain ⟨-, r2, -⟩ := hr hS z
  rw [c] at r2
  exact absurd r2 (by decide)
theorem tl_80 (hg : GP F0) (x2 x3 x4 : Int32) (F : PF) (G : PG) (h : PQ L F0 G0 0 F G [] 0 hN0 lN0 [] []) (h4 : x4 = -1 ∨ (1 ≤ x4.toInt ∧ x4.toInt ≤ 500)) (hr : ST L F0 G0 → F 47 = 0 → ¬ x4 = -1) : PP (mb_tellHere_80 fu x2 x3 x4 F G) (fun r F1 G1 => XQ L [] F0 G0 r F1 G1) := by
  have l2 : (200 : Int32).toInt = 200 := rfl
  have rest : ∀ (w : Int32) (F2 : PF) (G2 : PG), (ST L F0 G0 → F 47 = 0 → 0 ≤ w.toInt ∧ w.toInt ≤ 500 ∧ x4.toInt ≤ 4 * w.toInt) → KX [47, 48, 49, 52] [] F G F2 G2 → M7 F F2 → F2 52 = F 52 + w → (F2 52 ≤ 200 ∨ (ST L F0 G0 → ¬ F2 47 = 0)) → PP (mb_tellHere_136 fu x2 x3 x4 F2 G2) (fun r F1 G1 => XQ L [] F0 G0 r F1 G1) := by
    intro w F2 G2 hw K2 M2 e52 hor
    have num : ST L F0 G0 → ST L F G → F2 47 = 0 → (F2 52).toInt = (F 52).toInt + w.toInt ∧ (F2 52).toInt ≤ 200 ∧ 0 ≤ w.toInt ∧ x4.toInt ≤ 4 * w.toInt ∧ 1 ≤ x4.toInt ∧ x4.toInt ≤ 500 := by
      intro hS0 hS z
      obtain ⟨s1, s2, s3, s4, s5, s6⟩ := hS
      obtain ⟨t1, t2, t3, t4, t5, t6⟩ := s6 (M2 z)
      obtain ⟨w1, w2, w3⟩ := hw hS0 (M2 z)
      have e : (F 52 + w).toInt = (F 52).toInt + w.toInt := i_addn _ rfl (by omega) (by omega)
      have x := hr hS0 (M2 z)
      rcases h4 with q | q
      · exact absurd q x
      · refine ⟨by rw [e52]; exact e, ?_, w1, w3, q.1, q.2⟩
        rcases hor with q | q
        · have := i_le.mp q
          omega
        · exact absurd z (q hS0)
    have h2 : PQ L F0 G0 0 F2 G2 [] 0 hN0 lN0 [] [] := by
      refine h.set K2 M2 rfl (fun hS0 hS z => ?_)
      obtain ⟨n1, n2, n3, n4, n5, n6⟩ := num hS0 hS z
      have hX : XS L F2 G2 = XS L F G := XS.kx K2 rfl
      obtain ⟨s1, s2, s3, s4, s5, s6⟩ := hS
      obtain ⟨t1, t2, t3, t4, t5, t6⟩ := s6 (M2 z)
      refine ⟨⟨(K2.1 46 rfl).trans s1, (K2.1 54 rfl).trans s2, FTb.kx s3 K2 rfl, by rw [K2.1 14 rfl]; exact s4, by rw [K2.1 24 rfl]; exact s5, fun _ => ⟨?_, t2, by omega, n2, by rw [K2.1 53 rfl]; exact t5, by rw [K2.1 53 rfl]; omega⟩⟩, XL.of hX⟩
      rw [hX]
      unfold DI at t1 ⊢
      rw [K2.1 14 rfl, K2.2 17 rfl, K2.2 20 rfl, K2.2 21 rfl, K2.2 23 rfl]
      exact t1
    have fin : ∀ z0 : Int32, (ST L F0 G0 → F2 47 = 0 → z0 = x4) → PP (mb_tellHere_158 fu x2 x3 x4 z0 F2 G2) (fun r F1 G1 => XQ L [] F0 G0 r F1 G1) := by
      intro z0 hz
      refine tl_193 hg x2 x3 x4 z0 F2 G2 h2 (fun hS0 z => ?_)
      have S1 := (h.2.2.2.2.2.2.2 hS0 (M2 z)).1
      obtain ⟨n1, n2, n3, n4, n5, n6⟩ := num hS0 S1 z
      obtain ⟨s1, s2, s3, s4, s5, s6⟩ := S1
      obtain ⟨t1, t2, t3, t4, t5, t6⟩ := s6 (M2 z)
      refine ⟨hz hS0 z, n5, n6, ?_⟩
      rw [K2.1 53 rfl]
      omega
    unfold mb_tellHere_136 mb_tellHere_142 mb_tellHere_152 mb_tellHere_156
    refine PP.ite (fun c => fin 0 (fun hS z => absurd c (hr hS (M2 z)))) (fun _ => PP.ite (fun _ => fin x4 (fun _ _ => rfl)) (fun c => fin 0 (fun hS z => ?_)))
    rcases hor with q | q
    · exact absurd q c
    · exact absurd z (q hS)
  have add : ∀ w : Int32, (ST L F0 G0 → F 47 = 0 → 0 ≤ w.toInt ∧ w.toInt ≤ 500 ∧ x4.toInt ≤ 4 * w.toInt) → PP (mb_tellHere_110 fu x2 x3 x4 w (F 52) F G) (fun r F1 G1 => XQ L [] F0 G0 r F1 G1) := by
    intro w hw
    unfold mb_tellHere_110
    have K2 : KX [47, 48, 49, 52] [] F G (fup F 52 (F 52 + w)) G := KX.f rfl KX.rf
    unfold mb_tellHere_114
    refine PP.ite (fun c => ?_) (fun c => ?_)
    · exact rest w _ _ hw K2 (M7.f (by decide) M7.rf) rfl (Or.inl c)
    · unfold mb_tellHere_124
      refine PP.ix (fun _ => PP.bind (PP.and (mp_note 11 _ (by decide) _ _) (mm_note 11 _ (by decide) _ _)) ?_)
      rintro r F3 G3 ⟨⟨K3, rfl, n1, -⟩, hM3⟩
      dsimp only
      refine rest w F3 G hw (KX.tr K2 K3 rfl rfl) (M7.tr (M7.f (by decide) M7.rf) hM3.1) (K3.1 52 rfl) (Or.inr (fun hS q => ?_))
      have S1 := (h.2.2.2.2.2.2.2 hS (hM3.1 q)).1
      have := n1 S1.n0
      rw [q] at this
      exact absurd this (by decide)
  unfold mb_tellHere_80 mb_tellHere_91 mb_tellHere_95 mb_tellHere_108 mb_tellHere_99
  refine PP.ite (fun c => add 0 (fun hS z => absurd c (hr hS z))) (fun c => ?_)
  rcases h4 with q | ⟨q1, q2⟩
  · exact absurd q c
  · refine PP.ite (fun _ => add x4 (fun _ _ => ⟨by omega, by omega, by omega⟩)) (fun _ => add _ (fun _ _ => ?_))
    rw [quart q1 q2]
    omega
theorem tl_47 (hg : GP F0) (x2 x3 : Int32) (F : PF) (G : PG) (h : PQ L F0 G0 0 F G [] 0 hN0 lN0 [] []) : PP (mb_tellHere_47 fu x2 x3 F G) (fun r F1 G1 => XQ L [] F0 G0 r F1 G1) := by
  unfold mb_tellHere_47
  refine PP.bind (PP.and (mw_twice x3 F G) (mn_twice x3 F G)) ?_
  rintro r F1 G1 ⟨K, hM⟩
  dsimp only
  have h1 : PQ L F0 G0 0 F1 G1 [] 0 hN0 lN0 [] [] := h.kx K hM rfl rfl rfl rfl
  unfold mb_tellHere_52
  refine PP.bind (mp_openSign 24 F1 G1) ?_
  rintro r F2 G2 (⟨rfl, rfl, rfl, -, u, -⟩ | ⟨rfl, u, -⟩)
  · dsimp only
    unfold mb_tellHere_58
    rw [if_neg (by decide)]
    have h2 := h1.op (v := F1 42 + 1) u
    generalize fup (fup F1 43 (F1 43 + 1)) 42 (F1 42 + 1) = F2 at h2
    unfold mb_tellHere_63
    refine PP.bind (mg_sizeHere F2 G1 ⟨h2.1.1, h2.1.2.1, by rw [h2.1.2.2.1]; decide⟩) ?_
    rintro x4 F3 G3 ⟨v, x1, x5⟩
    dsimp only
    unfold mb_tellHere_67
    refine PP.bind (mp_closeSign 25 F3 G3) ?_
    rintro r F4 G4 (⟨rfl, rfl, rfl, -, u⟩ | ⟨rfl, u, -⟩)
    · dsimp only
      unfold mb_tellHere_75
      rw [if_neg (by decide)]
      rcases v.2.2.2.2.2.1 with q | q
      · have h3 := h2.val v q
        have h4 := h3.cl (v := F3 42 + 1) hg (by decide)
        refine tl_80 hg x2 x3 x4 _ _ h4 x1 (fun hS z => ?_)
        have z : F3 47 = 0 := z
        have S2 := (h2.2.2.2.2.2.2.2 hS (v.2.2.2.2.1 z)).1
        exact x5 (S2.dc h2.1) z
      · exact absurd q u
    · dsimp only
      unfold mb_tellHere_75 mb_tellHere_78
      rw [if_pos rfl]
      exact PP.ret (Or.inr ⟨rfl, h2.valB v u⟩)
  · dsimp only
    unfold mb_tellHere_58 mb_tellHere_61
    rw [if_pos rfl]
    exact PP.ret (Or.inr ⟨rfl, h1.flt u⟩)
end TELL
theorem mg_tellHere {fu : Nat} {L : List Nat} (x1 : Int32) (F : PF) (G : PG) (hg : GP F) : PP (mf_tellHere fu x1 F G) (fun r F1 G1 => XQ L [] F G r F1 G1) := by
  have h0 : PQ L F G 0 F G [] 0 hN0 lN0 [] [] := PQ.rf hg
  unfold mf_tellHere mb_tellHere_0
  refine PP.bind (mp_isWord 1 F G) ?_
  rintro x2 _ _ ⟨rfl, rfl, -⟩
  dsimp only
  unfold mb_tellHere_5 mb_tellHere_16
  have h1 : PQ L F G 0 (fup F 42 (F 42 + 1)) G [] 0 hN0 lN0 [] [] := h0.f
  generalize fup F 42 (F 42 + 1) = F1 at h1
  refine PP.bind (mp_name F1 G) ?_
  rintro r F2 G2 (⟨rfl, rfl, rfl, -, -, -⟩ | ⟨rfl, u, -⟩)
  · dsimp only
    have h2 : PQ L F G 0 (fup F1 42 (F1 42 + 1)) G [] 0 hN0 lN0 [] [] := h1.f
    generalize F1 42 + 1 - 1 = n
    generalize fup F1 42 (F1 42 + 1) = F2 at h2
    unfold mb_tellHere_20
    refine PP.ite (fun _ => ?_) (fun c => ?_)
    · unfold mb_tellHere_30
      refine PP.ite (fun _ => tl_210 hg x1 n F2 G h2) (fun _ => ?_)
      unfold mb_tellHere_34
      refine PP.ite (fun _ => ?_) (fun _ => tl_47 hg x2 n F2 G h2)
      unfold mb_tellHere_38
      refine PP.bind (mp_isSign 24 F2 G) ?_
      rintro z0 _ _ ⟨rfl, rfl, -⟩
      dsimp only
      unfold mb_tellHere_44
      exact PP.ite (fun _ => tl_210 hg x1 n F2 G h2) (fun _ => tl_47 hg x2 n F2 G h2)
    · exact absurd (by rw [h2.1.2.1]; decide) c
  · dsimp only
    unfold mb_tellHere_20
    refine PP.ite (fun c => ?_) (fun _ => ?_)
    · have := u.1
      have := i_le.mp c
      have : (0 : Int32).toInt = 0 := rfl
      omega
    · unfold mb_tellHere_28
      exact PP.ret (Or.inr ⟨rfl, h1.flt u⟩)
