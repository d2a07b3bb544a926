theorem nI_t (a : Nat) (h : a < 2147483647) : nI a + 1 = nI (a + 1) := by
  have e : (nI a).toInt = a := nI_toInt (by omega)
  have e1 : (nI a + 1).toInt = (nI a).toInt + 1 := i_addn _ rfl (by omega) (by omega)
  refine i_eq.mpr ?_
  rw [e1, e, nI_toInt (by omega)]
  omega
theorem nI_c (a : Nat) (h : a < 2147483648) : (nI a).toNatClampNeg = a := by
  show (nI a).toInt.toNat = a
  rw [nI_toInt (by omega)]
  omega
section JK3
variable {fu : Nat}
/-- the reference's constant, a step at a time -/
theorem mp_pl {k : Nat} (hk : k < 2147483647) {F : PF} {G : PG} {a : PR} {f : Int32 × PF × PG → PR} {Q : Int32 → PF → PG → Int32 → PF → PG → Prop} (h : JP a ((if G 56 k = 0 then mb_plainly_72 fu (nI k) (G 57 k) F G else if G 56 k = 10 then mb_plainly_96 fu (nI k) (G 57 k) F G else if G 56 k = 11 then mb_plainly_145 fu (nI k) (G 57 k) F G else if G 56 k = 12 then mb_plainly_209 fu (G 57 k) F G else if G 56 k = 14 then mb_plainly_211 fu (nI k) (G 57 k) F G else if G 56 k = 23 then mb_plainly_175 fu (nI k) F G else mb_plainly_241 fu (nI k) (G 57 k) F G).bind f) Q) : JP a ((mf_plainly fu (nI k) F G).bind f) Q := by
  have e : mf_plainly fu (nI k) F G = (if ixb (nI k) 9000 = true then (if ixb (nI k) 9000 = true then (if G 56 k = 0 then mb_plainly_72 fu (nI k) (G 57 k) F G else if G 56 k = 10 then mb_plainly_96 fu (nI k) (G 57 k) F G else if G 56 k = 11 then mb_plainly_145 fu (nI k) (G 57 k) F G else if G 56 k = 12 then mb_plainly_209 fu (G 57 k) F G else if G 56 k = 14 then mb_plainly_211 fu (nI k) (G 57 k) F G else if G 56 k = 23 then mb_plainly_175 fu (nI k) F G else mb_plainly_241 fu (nI k) (G 57 k) F G) else none) else none) := by
    unfold mf_plainly mb_plainly_0
    rw [nI_c k (by omega)]
  rw [e]
  intro s1 E1 H1 s2 E2 H2 e1 e2
  obtain ⟨q, e3, e4⟩ := bind_elim e2
  obtain ⟨-, e3⟩ := ix_elim e3
  obtain ⟨-, e3⟩ := ix_elim e3
  refine h s1 E1 H1 s2 E2 H2 e1 ?_
  rw [e3]
  exact e4
theorem JP.RR {a b : PR} {f g : Int32 × PF × PG → PR} {V : Int32 → PF → PG → Prop} {Q : Int32 → PF → PG → Int32 → PF → PG → Prop} (h : PP b V) (k : ∀ (r : Int32) (F : PF) (G : PG), V r F G → JP a ((g (r, F, G)).bind f) Q) : JP a ((b.bind g).bind f) Q := by
  rw [Option.bind_assoc]
  exact JP.R h k
theorem JP.ixRR {i : Int32} {n : Nat} {A a : PR} {f : Int32 × PF × PG → PR} {Q : Int32 → PF → PG → Int32 → PF → PG → Prop} (k : vp_in i n → JP a (A.bind f) Q) : JP a ((if ixb i n = true then A else none).bind f) Q := by
  intro s1 E1 H1 s2 E2 H2 e1 e2
  obtain ⟨q, e3, e4⟩ := bind_elim e2
  obtain ⟨h, e3⟩ := ix_elim e3
  refine k h s1 E1 H1 s2 E2 H2 e1 ?_
  rw [e3]
  exact e4
/-- both reckon a constant alike -/
theorem jk_run {X : JCX} (hX : X.1 = true) {k0 B : Nat} {mu : Nat → Nat} {A : JAN} {Fc Fm : PF} {Gc Gm : PG} (b60 : (Fm 60).toInt = B) (b6 : (Fc 6).toInt = mu B) (m8 : mu B ≤ 8400) (mo : jMo mu k0 B) (AB : (A B).1 = [0]) (T : ∀ k, k0 ≤ k → k < B → jT X Gm Gc mu A B k) : ∀ (d n m k : Nat) (x2 : Int32) (F1 : PF) (G1 : PG) (F2 : PF) (G2 : PG), B ≤ k + d → k0 ≤ k → k ≤ B → (∃ l : JLY, (A k).2 = some l) → KX [56, 57, 300] [55] Fc Gc F1 G1 → KX [72] [71] Fm Gm F2 G2 → jXn F1 → F1 57 = nI (mu k) → (F1 56).toInt = (A k).1.length → (F2 72).toInt = (A k).1.length → (∀ i : Nat, i < (A k).1.length → G1 55 i = G2 71 i) → (A k).1.length + mu k0 ≤ mu k → 0 ≤ x2.toInt → x2.toInt + mu k0 ≤ mu k → JP (cl_X6_valueFrom_12 fu n x2 F1 G1) (ml_reckon_7 fu m (nI k) F2 G2) (fun r1 _ _ r2 _ _ => r1 = r2) := by
  have lx : (100000000 : Int32).toInt = 100000000 := rfl
  have B9 : B < 2147483648 := by
    have := i_rng (Fm 60)
    omega
  have l0 : (0 : Int32).toInt = 0 := rfl
  have l62 : (62 : Int32).toInt = 62 := rfl
  have l84 : (84 : Int32).toInt = 84 := rfl
  -- the end
  have fin : ∀ (n m : Nat) (x2 : Int32) (F1 : PF) (G1 : PG) (F2 : PF) (G2 : PG), KX [56, 57, 300] [55] Fc Gc F1 G1 → KX [72] [71] Fm Gm F2 G2 → F1 57 = nI (mu B) → (F1 56).toInt = (A B).1.length → (∀ i : Nat, i < (A B).1.length → G1 55 i = G2 71 i) → JP (cl_X6_valueFrom_12 fu n x2 F1 G1) (ml_reckon_7 fu m (nI B) F2 G2) (fun r1 _ _ r2 _ _ => r1 = r2) := by
    intro n m x2 F1 G1 F2 G2 kc km p57 h56 hst
    have l1 : (A B).1.length = 1 := by rw [AB]; rfl
    cases n with
    | zero => exact JP.noL
    | succ n =>
      cases m with
      | zero => exact JP.noR
      | succ m =>
        show JP (cb_X6_valueFrom_12 fu (cl_X6_valueFrom_12 fu n) x2 F1 G1) (mb_reckon_7 fu (ml_reckon_7 fu m) (nI B) F2 G2) _
        have k119 : JP (cb_X6_valueFrom_119 fu F1 G1) (mb_reckon_7 fu (ml_reckon_7 fu m) (nI B) F2 G2) (fun r1 _ _ r2 _ _ => r1 = r2) := by
          unfold cb_X6_valueFrom_119 mb_reckon_7
          rw [if_pos (show F2 60 ≤ nI B from i_le.mpr (by rw [km.1 60 rfl, nI_toInt (by omega)]; omega))]
          unfold mb_reckon_24
          refine JP.ixR (fun _ => ?_)
          refine JP.L (cp_pop (by omega)) ?_
          rintro r _ _ ⟨rfl, rfl, rfl⟩
          dsimp only
          unfold cb_X6_valueFrom_123
          refine JP.ret ?_
          rw [show (F1 56).toInt.toNat - 1 = 0 by omega]
          exact hst 0 (by omega)
        unfold cb_X6_valueFrom_12
        by_cases c : (100000000 : Int32) ≤ x2
        · rw [if_pos c]
          exact k119
        · rw [if_neg c]
          unfold cb_X6_valueFrom_18
          rw [if_pos (show F1 6 ≤ F1 57 from i_le.mpr (by rw [kc.1 6 rfl, p57, nI_toInt (by omega)]; omega))]
          exact k119
  intro d
  induction d with
  | zero =>
    intro n m k x2 F1 G1 F2 G2 hd k0k kB hf kc km xc p57 h56 h72 hst hh x0 xd
    have e : k = B := by omega
    rw [e] at p57 h56 hst ⊢
    exact fin n m x2 F1 G1 F2 G2 kc km p57 h56 hst
  | succ d ih =>
    intro n m k x2 F1 G1 F2 G2 hd k0k kB hf kc km xc p57 h56 h72 hst hh x0 xd
    by_cases e : k = B
    · rw [e] at p57 h56 hst ⊢
      exact fin n m x2 F1 G1 F2 G2 kc km p57 h56 hst
    have kB' : k < B := by omega
    have g5 : G1 5 = Gc 5 := kc.2 5 rfl
    have g56 : G2 56 = Gm 56 := km.2 56 rfl
    have g57 : G2 57 = Gm 57 := km.2 57 rfl
    have f6 : F1 6 = Fc 6 := kc.1 6 rfl
    have mk : mu k ≤ mu B := mo k B k0k kB (Nat.le_refl _)
    have mk1 : mu (k + 1) ≤ mu B := mo (k + 1) B (by omega) (by omega) (Nat.le_refl _)
    have x21 : (x2 + 1).toInt = x2.toInt + 1 := i_addn _ rfl (by omega) (by omega)
    have n57 : (F1 57).toInt = mu k := by rw [p57, nI_toInt (by omega)]
    have t57 : fup F1 57 (F1 57 + 1) 57 = nI (mu k + 1) := by rw [fup_s, p57]; exact nI_t _ (by omega)
    have q57 : (fup F1 57 (F1 57 + 1) 57).toInt = mu k + 1 := by rw [t57, nI_toInt (by omega)]; omega
    have t6 : fup F1 57 (F1 57 + 1) 6 = Fc 6 := by rw [fup_n (by decide)]; exact f6
    have t56 : fup F1 57 (F1 57 + 1) 56 = F1 56 := fup_n (by decide)
    have kc1 : KX [56, 57, 300] [55] Fc Gc (fup F1 57 (F1 57 + 1)) G1 := KX.f rfl kc
    have xc1 : jXn (fup F1 57 (F1 57 + 1)) := xc.f (by decide) (by decide)
    have c72 : (F2 72).toNatClampNeg = (A k).1.length := by show (F2 72).toInt.toNat = _; omega
    -- a turn of the reference
    have rlg : ∀ (a : PR) (m : Nat) (k : Nat) (F2 : PF) (G2 : PG), KX [72] [71] Fm Gm F2 G2 → k < B → (∀ m : Nat, JP a ((mf_plainly fu (nI k) F2 G2).bind (fun q => ml_reckon_7 fu m q.1 q.2.1 q.2.2)) (fun r1 _ _ r2 _ _ => r1 = r2)) → JP a (ml_reckon_7 fu m (nI k) F2 G2) (fun r1 _ _ r2 _ _ => r1 = r2) := by
      intro a m k F2 G2 km hk h
      cases m with
      | zero => exact JP.noR
      | succ m =>
        show JP a (mb_reckon_7 fu (ml_reckon_7 fu m) (nI k) F2 G2) _
        unfold mb_reckon_7
        rw [if_neg (show ¬ F2 60 ≤ nI k from fun z => absurd (i_le.mp z) (by rw [km.1 60 rfl, nI_toInt (by omega)]; omega))]
        unfold mb_reckon_15 mb_reckon_20
        exact h m
    have rl : ∀ (a : PR) (m : Nat) (k : Nat), k < B → (∀ m : Nat, JP a ((mf_plainly fu (nI k) F2 G2).bind (fun q => ml_reckon_7 fu m q.1 q.2.1 q.2.2)) (fun r1 _ _ r2 _ _ => r1 = r2)) → JP a (ml_reckon_7 fu m (nI k) F2 G2) (fun r1 _ _ r2 _ _ => r1 = r2) := fun a m k hk h => rlg a m k F2 G2 km hk h
    -- a turn of the class
    have cl : ∀ (b : PR) (n : Nat), mu k + 1 ≤ mu B → (∀ n : Nat, JP (cb_X6_valueFrom_36 fu (cl_X6_valueFrom_12 fu n) x2 (Gc 5 (mu k)) (fup F1 57 (F1 57 + 1)) G1) b (fun r1 _ _ r2 _ _ => r1 = r2)) → JP (cl_X6_valueFrom_12 fu n x2 F1 G1) b (fun r1 _ _ r2 _ _ => r1 = r2) := by
      intro b n hm h
      cases n with
      | zero => exact JP.noL
      | succ n =>
        show JP (cb_X6_valueFrom_12 fu (cl_X6_valueFrom_12 fu n) x2 F1 G1) b _
        unfold cb_X6_valueFrom_12
        rw [if_neg (show ¬ (100000000 : Int32) ≤ x2 from fun z => absurd (i_le.mp z) (by omega))]
        unfold cb_X6_valueFrom_18
        rw [if_neg (show ¬ F1 6 ≤ F1 57 from fun z => absurd (i_le.mp z) (by rw [f6]; omega))]
        unfold cb_X6_valueFrom_32
        refine JP.L (cp_nxt (by omega) (by rw [f6]; omega)) ?_
        rintro r _ _ ⟨rfl, rfl, rfl⟩
        dsimp only
        rw [p57, nI_c (mu k) (by omega), g5, ← p57]
        exact h n
    have i56 : ∀ (F : PF) (v : Int32), fup F 57 v 56 = F 56 := fun F v => fup_n (by decide)
    rcases T k k0k kB' with h | ⟨ll, -, ⟨s1, nn, ho, ⟨lA, hA, -⟩, hm⟩ | ⟨w12, t, tB, kt, e57, ⟨lA, At, -⟩, ht⟩ | ⟨s0, t, a0, ⟨lA, a1, -⟩, a2, a3, co⟩ | ⟨xf, -⟩⟩
    · obtain ⟨lf, hf⟩ := hf
      rw [hf] at h
      cases h
    · rcases ho with ⟨e0, rfl, c0, c1, rfl⟩ | ⟨e0, rfl, ⟨v, hv, ea, ec⟩, s0, es, rfl⟩ | ⟨e0, rfl, ha, s0, es, rfl⟩ | ⟨e0, rfl, ec, s0, es, rfl⟩ | ⟨xf, -⟩
      · -- a number
        have c0 : Gc 5 (mu k) = 66 := c0
        have c1 : Gc 5 (mu k + 1) = Gm 57 k := c1
        refine rl _ m k kB' (fun m => mp_pl (by omega) ?_)
        rw [g56, g57, if_pos e0]
        unfold mb_plainly_72
        refine JP.ixRR (fun _ => ?_)
        unfold mb_plainly_82 mb_plainly_92
        refine cl _ n (by omega) (fun n => ?_)
        unfold cb_X6_valueFrom_36
        rw [if_pos c0]
        unfold cb_X6_valueFrom_43
        refine JP.L (cp_nxt (by omega) (by rw [t6]; omega)) ?_
        rintro r _ _ ⟨rfl, rfl, rfl⟩
        dsimp only
        unfold cb_X6_valueFrom_48
        rw [t57, nI_c _ (by omega), g5, c1, nI_t _ (by omega)]
        refine JP.L (cp_push (Gm 57 k) (F := fup (fup F1 57 (F1 57 + 1)) 57 (nI (mu k + 1 + 1))) (xc1.f (by decide) (by decide)) (by rw [i56, t56]; omega)) ?_
        rintro r F3 G3 ⟨u1, u2, u3, u4, u5⟩
        rw [i56, t56] at u2 u4 u5
        dsimp only
        unfold cb_X6_valueFrom_51 cb_X6_valueFrom_113
        show JP _ (ml_reckon_7 fu m (nI k + 1) (fup F2 72 (F2 72 + 1)) (gup G2 71 (F2 72).toNatClampNeg (Gm 57 k))) _
        rw [nI_t k (by omega), c72]
        have hl : (A (k + 1)).1.length = (A k).1.length + 1 := by rw [hA]; rfl
        have a72 : (F2 72 + 1).toInt = (F2 72).toInt + 1 := i_addn _ rfl (by omega) (by omega)
        refine ih n m (k + 1) (x2 + 1) F3 G3 _ _ (by omega) (by omega) (by omega) ⟨_, by rw [hA]⟩ (KX.tr (KX.f rfl kc1) u1 rfl rfl) (KX.f rfl (KX.g rfl km)) u3 ?_ (by omega) (by rw [fup_s]; omega) (fun i hi => ?_) (by omega) (by omega) (by omega)
        · rw [u1.1 57 rfl, fup_s, hm]
        · by_cases c : i = (A k).1.length
          · rw [c, gup_i]
            rw [show (F1 56).toInt.toNat = (A k).1.length by omega] at u5
            exact u5
          · rw [gup_x c, u4 i (by omega)]
            exact hst i (by omega)
      · -- a sign between two
        have ec : Gc 5 (mu k) = kS v := ec
        have hl0 : (A k).1.length = s0.length + 1 + 1 := by rw [es]; rfl
        have hl : (A (k + 1)).1.length = s0.length + 1 := by rw [hA]; rfl
        obtain ⟨ks1, ks2⟩ := (kS_lv v hv.1).1.mpr (fun z => by have := hv.2; rw [z] at this; exact absurd this (by decide))
        refine rl _ m k kB' (fun m => mp_pl (by omega) ?_)
        rw [g56, g57, if_neg (show ¬ Gm 56 k = 0 by rw [e0]; decide), if_pos e0]
        unfold mb_plainly_96 mb_plainly_106
        have a72 : (F2 72 - 1).toInt = (F2 72).toInt - 1 := i_subn _ rfl (by omega) (by omega)
        have b72 : (F2 72 - 1 - 1).toInt = (F2 72).toInt - 2 := by
          have := i_subn (F2 72 - 1) (n := 1) (m := 1) rfl (by omega) (by omega)
          omega
        rw [fup_s]
        refine JP.ixRR (fun _ => JP.ixRR (fun _ => ?_))
        rw [show (F2 72 - 1).toNatClampNeg = s0.length + 1 by show (F2 72 - 1).toInt.toNat = _; omega, show (F2 72 - 1 - 1).toNatClampNeg = s0.length by show (F2 72 - 1 - 1).toInt.toNat = _; omega, ea]
        refine cl _ n (by omega) (fun n => ?_)
        rw [ec]
        unfold cb_X6_valueFrom_36
        rw [if_neg (show ¬ kS v = 66 from fun z => by rw [z] at ks2; exact absurd ks2 (by decide))]
        unfold cb_X6_valueFrom_54
        rw [if_pos (show kS v < 84 from i_lt.mpr (by omega))]
        unfold cb_X6_valueFrom_72
        rw [if_pos (show kS v < 62 from i_lt.mpr (by omega))]
        unfold cb_X6_valueFrom_93
        refine JP.L (cp_pop (by rw [t56]; omega)) ?_
        rintro r _ _ ⟨rfl, rfl, rfl⟩
        dsimp only
        rw [t56]
        unfold cb_X6_valueFrom_97
        obtain ⟨y1, y2⟩ := xc1.pop (by rw [t56]; omega)
        rw [t56] at y1 y2
        refine JP.L (cp_pop (by rw [y2]; omega)) ?_
        rintro r _ _ ⟨rfl, rfl, rfl⟩
        dsimp only
        obtain ⟨y3, y4⟩ := y1.pop (by rw [y2]; omega)
        rw [y2] at y4
        unfold cb_X6_valueFrom_105
        rw [y2, show ((F1 56).toInt - 1).toNat - 1 = s0.length by omega, show (F1 56).toInt.toNat - 1 = s0.length + 1 by omega, hst s0.length (by omega), hst (s0.length + 1) (by omega)]
        rw [Option.bind_assoc]
        refine JP.both (jk_do _ _ hv) ?_
        rintro r1 _ _ r2 _ _ ⟨rfl, rfl, rfl, rfl, rfl⟩
        dsimp only
        unfold cb_X6_valueFrom_110 mb_plainly_140
        refine JP.ixRR (fun _ => ?_)
        unfold mb_plainly_141
        generalize hF : fup (fup (fup F1 57 (F1 57 + 1)) 56 (F1 56 - 1)) 56 (fup (fup F1 57 (F1 57 + 1)) 56 (F1 56 - 1) 56 - 1) = F5
        rw [hF] at y3 y4
        have kc5 : KX [56, 57, 300] [55] Fc Gc F5 G1 := by
          rw [← hF]
          exact KX.f rfl (KX.f rfl kc1)
        have p5 : F5 57 = nI (mu k + 1) := by
          rw [← hF, fup_n (by decide), fup_n (by decide)]
          exact t57
        refine JP.L (cp_push r1 y3 (by omega)) ?_
        rintro r F6 G6 ⟨u1, u2, u3, u4, u5⟩
        dsimp only
        unfold cb_X6_valueFrom_113
        show JP _ (ml_reckon_7 fu m (nI k + 1) (fup F2 72 (F2 72 - 1)) (gup G2 71 (F2 72 - 1 - 1).toNatClampNeg r1)) _
        rw [nI_t k (by omega), show (F2 72 - 1 - 1).toNatClampNeg = s0.length by show (F2 72 - 1 - 1).toInt.toNat = _; omega]
        refine ih n m (k + 1) (x2 + 1) F6 G6 _ _ (by omega) (by omega) (by omega) ⟨_, by rw [hA]⟩ (KX.tr kc5 u1 rfl rfl) (KX.f rfl (KX.g rfl km)) u3 ?_ (by omega) (by rw [fup_s]; omega) (fun i hi => ?_) (by omega) (by omega) (by omega)
        · rw [u1.1 57 rfl, p5, hm]
        · by_cases c : i = s0.length
          · rw [c, gup_i]
            rw [show (F5 56).toInt.toNat = s0.length by omega] at u5
            exact u5
          · rw [gup_x c, u4 i (by omega)]
            exact hst i (by omega)
      · -- a sign ahead
        have hl0 : (A k).1.length = s0.length + 1 := by rw [es]; rfl
        have hl : (A (k + 1)).1.length = s0.length + 1 := by rw [hA]; rfl
        have ha : (Gm 57 k = 39 ∧ Gc 5 (mu k) = 64) ∨ (Gm 57 k = 43 ∧ Gc 5 (mu k) = 62) ∨ (Gm 57 k = 44 ∧ Gc 5 (mu k) = 63) := ha
        refine rl _ m k kB' (fun m => mp_pl (by omega) ?_)
        rw [g56, g57, if_neg (show ¬ Gm 56 k = 0 by rw [e0]; decide), if_neg (show ¬ Gm 56 k = 10 by rw [e0]; decide), if_pos e0]
        unfold mb_plainly_145
        have a72 : (F2 72 - 1).toInt = (F2 72).toInt - 1 := i_subn _ rfl (by omega) (by omega)
        refine JP.ixRR (fun _ => ?_)
        rw [show (F2 72 - 1).toNatClampNeg = s0.length by show (F2 72 - 1).toInt.toNat = _; omega]
        refine cl _ n (by omega) (fun n => ?_)
        have wd : ¬ Gc 5 (mu k) = 66 ∧ Gc 5 (mu k) < 84 ∧ ¬ Gc 5 (mu k) < 62 := by
          rcases ha with ⟨-, z⟩ | ⟨-, z⟩ | ⟨-, z⟩
          · rw [z]; decide
          · rw [z]; decide
          · rw [z]; decide
        unfold cb_X6_valueFrom_36
        rw [if_neg wd.1]
        unfold cb_X6_valueFrom_54
        rw [if_pos wd.2.1]
        unfold cb_X6_valueFrom_72
        rw [if_neg wd.2.2]
        unfold cb_X6_valueFrom_78
        refine JP.L (cp_pop (by rw [t56]; omega)) ?_
        rintro r _ _ ⟨rfl, rfl, rfl⟩
        dsimp only
        rw [t56]
        obtain ⟨y1, y2⟩ := xc1.pop (by rw [t56]; omega)
        rw [t56] at y1 y2
        unfold cb_X6_valueFrom_84
        rw [show (F1 56).toInt.toNat - 1 = s0.length by omega, hst s0.length (by omega)]
        rw [Option.bind_assoc]
        refine JP.both (jk_alone _ ha) ?_
        rintro r1 _ _ r2 _ _ ⟨rfl, rfl, rfl, rfl, rfl⟩
        dsimp only
        unfold cb_X6_valueFrom_87 mb_plainly_170
        refine JP.ixRR (fun _ => ?_)
        unfold mb_plainly_171
        refine JP.L (cp_push r1 y1 (by rw [y2]; omega)) ?_
        rintro r F6 G6 ⟨u1, u2, u3, u4, u5⟩
        rw [y2] at u2 u4 u5
        dsimp only
        unfold cb_X6_valueFrom_90 cb_X6_valueFrom_113
        show JP _ (ml_reckon_7 fu m (nI k + 1) F2 (gup G2 71 (F2 72 - 1).toNatClampNeg r1)) _
        rw [nI_t k (by omega), show (F2 72 - 1).toNatClampNeg = s0.length by show (F2 72 - 1).toInt.toNat = _; omega]
        refine ih n m (k + 1) (x2 + 1) F6 G6 _ _ (by omega) (by omega) (by omega) ⟨_, by rw [hA]⟩ (KX.tr (KX.f rfl kc1) u1 rfl rfl) (KX.g rfl km) u3 ?_ (by omega) (by omega) (fun i hi => ?_) (by omega) (by omega) (by omega)
        · rw [u1.1 57 rfl, fup_n (by decide), t57, hm]
        · by_cases c : i = s0.length
          · rw [c, gup_i]
            rw [show ((F1 56).toInt - 1).toNat = s0.length by omega] at u5
            exact u5
          · rw [gup_x c, u4 i (by omega)]
            exact hst i (by omega)
      · -- a truth
        have ec : Gc 5 (mu k) = 65 := ec
        have hl0 : (A k).1.length = s0.length + 1 := by rw [es]; rfl
        have hl : (A (k + 1)).1.length = s0.length + 1 := by rw [hA]; rfl
        refine rl _ m k kB' (fun m => mp_pl (by omega) ?_)
        rw [g56, if_neg (show ¬ Gm 56 k = 0 by rw [e0]; decide), if_neg (show ¬ Gm 56 k = 10 by rw [e0]; decide), if_neg (show ¬ Gm 56 k = 11 by rw [e0]; decide), if_neg (show ¬ Gm 56 k = 12 by rw [e0]; decide), if_neg (show ¬ Gm 56 k = 14 by rw [e0]; decide), if_pos e0]
        unfold mb_plainly_175
        have a72 : (F2 72 - 1).toInt = (F2 72).toInt - 1 := i_subn _ rfl (by omega) (by omega)
        have d72 : (F2 72 - 1).toNatClampNeg = s0.length := by show (F2 72 - 1).toInt.toNat = _; omega
        refine JP.ixRR (fun _ => ?_)
        rw [d72]
        refine cl _ n (by omega) (fun n => ?_)
        rw [ec]
        unfold cb_X6_valueFrom_36
        rw [if_neg (show ¬ (65 : Int32) = 66 by decide)]
        unfold cb_X6_valueFrom_54
        rw [if_pos (show (65 : Int32) < 84 by decide)]
        unfold cb_X6_valueFrom_72
        rw [if_neg (show ¬ (65 : Int32) < 62 by decide)]
        unfold cb_X6_valueFrom_78
        refine JP.L (cp_pop (by rw [t56]; omega)) ?_
        rintro r _ _ ⟨rfl, rfl, rfl⟩
        dsimp only
        rw [t56]
        obtain ⟨y1, y2⟩ := xc1.pop (by rw [t56]; omega)
        rw [t56] at y1 y2
        unfold cb_X6_valueFrom_84
        rw [show (F1 56).toInt.toNat - 1 = s0.length by omega, hst s0.length (by omega)]
        refine JP.L (cp_tr65 _ _ G1) ?_
        rintro r1 _ _ ⟨rfl, rfl, rfl⟩
        dsimp only
        unfold cb_X6_valueFrom_87
        refine JP.L (cp_push _ y1 (by rw [y2]; omega)) ?_
        rintro r F6 G6 ⟨u1, u2, u3, u4, u5⟩
        rw [y2] at u2 u4 u5
        dsimp only
        unfold cb_X6_valueFrom_90 cb_X6_valueFrom_113
        have go : ∀ z : Int32, (if G2 71 s0.length = 0 then (0 : Int32) else 1) = z → JP (cl_X6_valueFrom_12 fu n (x2 + 1) F6 G6) ((mb_plainly_204 fu (nI k) z (F2 72 - 1) F2 G2).bind (fun q => ml_reckon_7 fu m q.1 q.2.1 q.2.2)) (fun r1 _ _ r2 _ _ => r1 = r2) := by
          intro z hz
          unfold mb_plainly_204
          refine JP.ixRR (fun _ => ?_)
          unfold mb_plainly_205
          show JP _ (ml_reckon_7 fu m (nI k + 1) F2 (gup G2 71 (F2 72 - 1).toNatClampNeg z)) _
          rw [nI_t k (by omega), d72]
          refine ih n m (k + 1) (x2 + 1) F6 G6 _ _ (by omega) (by omega) (by omega) ⟨_, by rw [hA]⟩ (KX.tr (KX.f rfl kc1) u1 rfl rfl) (KX.g rfl km) u3 ?_ (by omega) (by omega) (fun i hi => ?_) (by omega) (by omega) (by omega)
          · rw [u1.1 57 rfl, fup_n (by decide), t57, hm]
          · by_cases c : i = s0.length
            · rw [c, gup_i]
              rw [show ((F1 56).toInt - 1).toNat = s0.length by omega] at u5
              exact u5.trans hz
            · rw [gup_x c, u4 i (by omega)]
              exact hst i (by omega)
        by_cases c : G2 71 s0.length = 0
        · rw [if_pos c]
          unfold mb_plainly_203
          exact go 0 (if_pos c)
        · rw [if_neg c]
          unfold mb_plainly_199
          exact go 1 (if_neg c)
      · have xf : X.1 = false := xf
        rw [hX] at xf
        cases xf
    · have kt := kt hX
      have hl : (A t).1.length = (A k).1.length := by rw [At]
      have mtB : mu t ≤ mu B := mo t B (by omega) tB (Nat.le_refl _)
      have mt1 : mu (k + 1) ≤ mu t := mo (k + 1) t (by omega) (by omega) tB
      refine rl _ m k kB' (fun m => mp_pl (by omega) ?_)
      rw [g56, g57, if_neg (show ¬ Gm 56 k = 0 by rw [w12]; decide), if_neg (show ¬ Gm 56 k = 10 by rw [w12]; decide), if_neg (show ¬ Gm 56 k = 11 by rw [w12]; decide), if_pos w12]
      unfold mb_plainly_209
      show JP _ (ml_reckon_7 fu m (Gm 57 k) F2 G2) _
      rw [e57]
      rcases ht with z | ⟨z1, z2, z3⟩
      · exact ih n m t x2 F1 G1 F2 G2 (by omega) (by omega) tB ⟨_, by rw [At]⟩ kc km xc (by rw [z]; exact p57) (by omega) (by omega) (by rw [hl]; exact hst) (by omega) x0 (by omega)
      · refine cl _ n (by omega) (fun n => ?_)
        rw [z1]
        unfold cb_X6_valueFrom_36
        rw [if_neg (show ¬ (84 : Int32) = 66 by decide)]
        unfold cb_X6_valueFrom_54
        rw [if_neg (show ¬ (84 : Int32) < 84 by decide)]
        unfold cb_X6_valueFrom_60
        refine JP.L (cp_nxt (by omega) (by rw [t6]; omega)) ?_
        rintro r _ _ ⟨rfl, rfl, rfl⟩
        dsimp only
        unfold cb_X6_valueFrom_66
        rw [t57, nI_c _ (by omega), g5, z2]
        refine JP.L (cp_jgo _ _ G1) ?_
        rintro r _ _ ⟨rfl, rfl⟩
        dsimp only
        unfold cb_X6_valueFrom_69 cb_X6_valueFrom_113
        exact ih n m t (x2 + 1) _ G1 F2 G2 (by omega) (by omega) tB ⟨_, by rw [At]⟩ (KX.f rfl (KX.f rfl kc1)) km ((xc1.f (by decide) (by decide)).f (by decide) (by decide)) (by rw [fup_s]) (by rw [i56, i56, t56, hl]; exact h56) (by rw [hl]; exact h72) (by rw [hl]; exact hst) (by omega) (by omega) (by omega)
    · have hl0 : (A k).1.length = s0.length + 1 := by rw [a0]; rfl
      have hl1 : (A (k + 1)).1.length = s0.length := by rw [a1]
      have a72 : (F2 72 - 1).toInt = (F2 72).toInt - 1 := i_subn _ rfl (by omega) (by omega)
      have d72 : (F2 72 - 1).toNatClampNeg = s0.length := by show (F2 72 - 1).toInt.toNat = _; omega
      have km1 : KX [72] [71] Fm Gm (fup F2 72 (F2 72 - 1)) G2 := KX.f rfl km
      have n72 : (fup F2 72 (F2 72 - 1) 72).toInt = s0.length := by rw [fup_s]; omega
      -- the reference
      have rj : ∀ (a : PR) (m : Nat), (Gm 56 k = 13 ∨ Gm 56 k = 14) → (∀ m : Nat, ((Gm 56 k = 13 ∧ G2 71 s0.length = 0) ∨ (Gm 56 k = 14 ∧ ¬ G2 71 s0.length = 0)) → JP a (ml_reckon_7 fu m (nI t) (fup F2 72 (F2 72 - 1)) G2) (fun r1 _ _ r2 _ _ => r1 = r2)) → (∀ m : Nat, ((Gm 56 k = 13 ∧ ¬ G2 71 s0.length = 0) ∨ (Gm 56 k = 14 ∧ G2 71 s0.length = 0)) → JP a (ml_reckon_7 fu m (nI (k + 1)) (fup F2 72 (F2 72 - 1)) G2) (fun r1 _ _ r2 _ _ => r1 = r2)) → JP a (ml_reckon_7 fu m (nI k) F2 G2) (fun r1 _ _ r2 _ _ => r1 = r2) := by
        intro a m hw hj hn
        refine rl _ m k kB' (fun m => mp_pl (by omega) ?_)
        rcases hw with z | z
        · rw [g56, g57, if_neg (show ¬ Gm 56 k = 0 by rw [z]; decide), if_neg (show ¬ Gm 56 k = 10 by rw [z]; decide), if_neg (show ¬ Gm 56 k = 11 by rw [z]; decide), if_neg (show ¬ Gm 56 k = 12 by rw [z]; decide), if_neg (show ¬ Gm 56 k = 14 by rw [z]; decide), if_neg (show ¬ Gm 56 k = 23 by rw [z]; decide)]
          unfold mb_plainly_241 mb_plainly_251
          rw [fup_s, d72, a3]
          refine JP.ixRR (fun _ => ?_)
          by_cases c : G2 71 s0.length = 0
          · rw [if_pos c]
            exact hj m (.inl ⟨z, c⟩)
          · rw [if_neg c]
            have := hn m (.inl ⟨z, c⟩)
            rw [← nI_t k (by omega)] at this
            exact this
        · rw [g56, g57, if_neg (show ¬ Gm 56 k = 0 by rw [z]; decide), if_neg (show ¬ Gm 56 k = 10 by rw [z]; decide), if_neg (show ¬ Gm 56 k = 11 by rw [z]; decide), if_neg (show ¬ Gm 56 k = 12 by rw [z]; decide), if_pos z]
          unfold mb_plainly_211 mb_plainly_221
          rw [fup_s, d72, a3]
          refine JP.ixRR (fun _ => ?_)
          by_cases c : G2 71 s0.length = 0
          · rw [if_pos c]
            have := hn m (.inr ⟨z, c⟩)
            rw [← nI_t k (by omega)] at this
            exact this
          · rw [if_neg c]
            exact hj m (.inr ⟨z, c⟩)
      -- the class, up to its jump
      have p58 : ∀ v : Int32, fup (fup F1 57 (F1 57 + 1)) 57 v 56 = F1 56 := fun v => (i56 _ v).trans t56
      have cj : ∀ (b : PR) (n : Nat) (tw : Nat), (Gc 5 (mu k) = 85 ∨ Gc 5 (mu k) = 86 ∨ Gc 5 (mu k) = 87 ∨ Gc 5 (mu k) = 88) → Gc 5 (mu k + 1) = nI tw → (∀ (n : Nat) (F3 : PF) (G3 : PG), KX [56, 57, 300] [55] Fc Gc F3 G3 → jXn F3 → (((((Gc 5 (mu k) = 85 ∨ Gc 5 (mu k) = 87) ∧ G2 71 s0.length = 0) ∨ ((Gc 5 (mu k) = 86 ∨ Gc 5 (mu k) = 88) ∧ ¬ G2 71 s0.length = 0)) ∧ F3 57 = nI (mu k + 2) ∧ (F3 56).toInt = s0.length ∧ ∀ i : Nat, i < s0.length → G3 55 i = G2 71 i) ∨ (((Gc 5 (mu k) = 85 ∧ ¬ G2 71 s0.length = 0) ∨ (Gc 5 (mu k) = 86 ∧ G2 71 s0.length = 0)) ∧ F3 57 = nI tw ∧ (F3 56).toInt = s0.length ∧ ∀ i : Nat, i < s0.length → G3 55 i = G2 71 i) ∨ (∃ bb : Int32, ((Gc 5 (mu k) = 87 ∧ ¬ G2 71 s0.length = 0 ∧ bb = 1) ∨ (Gc 5 (mu k) = 88 ∧ G2 71 s0.length = 0 ∧ bb = 0)) ∧ F3 57 = nI tw ∧ (F3 56).toInt = s0.length + 1 ∧ (∀ i : Nat, i < s0.length → G3 55 i = G2 71 i) ∧ G3 55 s0.length = bb)) → JP (cl_X6_valueFrom_12 fu n (x2 + 1) F3 G3) b (fun r1 _ _ r2 _ _ => r1 = r2)) → JP (cl_X6_valueFrom_12 fu n x2 F1 G1) b (fun r1 _ _ r2 _ _ => r1 = r2) := by
        intro b n tw hw htw h
        have wd : ¬ Gc 5 (mu k) = 66 ∧ ¬ Gc 5 (mu k) < 84 := by
          rcases hw with z | z | z | z
          · rw [z]; decide
          · rw [z]; decide
          · rw [z]; decide
          · rw [z]; decide
        refine cl _ n (by omega) (fun n => ?_)
        unfold cb_X6_valueFrom_36
        rw [if_neg wd.1]
        unfold cb_X6_valueFrom_54
        rw [if_neg wd.2]
        unfold cb_X6_valueFrom_60
        refine JP.L (cp_nxt (by omega) (by rw [t6]; omega)) ?_
        rintro r _ _ ⟨rfl, rfl, rfl⟩
        dsimp only
        unfold cb_X6_valueFrom_66
        rw [t57, nI_c _ (by omega), g5, htw, nI_t _ (by omega)]
        have xx : jXn (fup (fup F1 57 (F1 57 + 1)) 57 (nI (mu k + 1 + 1))) := xc1.f (by decide) (by decide)
        have kk : KX [56, 57, 300] [55] Fc Gc (fup (fup F1 57 (F1 57 + 1)) 57 (nI (mu k + 1 + 1))) G1 := KX.f rfl kc1
        obtain ⟨y1, y2⟩ := xx.pop (by rw [p58]; omega)
        have vv : G1 55 ((fup (fup F1 57 (F1 57 + 1)) 57 (nI (mu k + 1 + 1)) 56).toInt.toNat - 1) = G2 71 s0.length := by
          rw [p58, show (F1 56).toInt.toNat - 1 = s0.length by omega]
          exact hst _ (by omega)
        refine JP.L (cp_jif _ _ hw xx (by rw [p58]; omega) (by rw [p58]; omega)) ?_
        rw [vv]
        have y2 := y2.trans (congrArg (fun z : Int32 => z.toInt - 1) (p58 _))
        rintro r F3 G3 (⟨z1, rfl, rfl⟩ | ⟨z1, rfl, rfl⟩ | ⟨bb, F4, z1, ⟨u1, u2, u3, u4, u5⟩, rfl⟩)
        · dsimp only
          unfold cb_X6_valueFrom_69 cb_X6_valueFrom_113
          exact h n _ G1 (KX.f rfl kk) y1 (.inl ⟨z1, by rw [fup_n (by decide), fup_s], by rw [y2]; omega, fun i hi => hst i (by omega)⟩)
        · dsimp only
          unfold cb_X6_valueFrom_69 cb_X6_valueFrom_113
          exact h n _ G1 (KX.f rfl (KX.f rfl kk)) (y1.f (by decide) (by decide)) (.inr (.inl ⟨z1, by rw [fup_s], by rw [i56, y2]; omega, fun i hi => hst i (by omega)⟩))
        · dsimp only
          unfold cb_X6_valueFrom_69 cb_X6_valueFrom_113
          rw [y2] at u2 u4 u5
          refine h n _ G3 (KX.f rfl (KX.tr (KX.f rfl kk) u1 rfl rfl)) (u3.f (by decide) (by decide)) (.inr (.inr ⟨bb, z1, by rw [fup_s], by rw [i56, u2]; omega, fun i hi => ?_, ?_⟩))
          · rw [u4 i (by omega)]
            exact hst i (by omega)
          · rw [show ((F1 56).toInt - 1).toNat = s0.length by omega] at u5
            exact u5
      -- where nobody jumps
      have nj : ∀ (n m : Nat) (F3 : PF) (G3 : PG), KX [56, 57, 300] [55] Fc Gc F3 G3 → jXn F3 → F3 57 = nI (mu k + 2) → (F3 56).toInt = s0.length → (∀ i : Nat, i < s0.length → G3 55 i = G2 71 i) → JP (cl_X6_valueFrom_12 fu n (x2 + 1) F3 G3) (ml_reckon_7 fu m (nI (k + 1)) (fup F2 72 (F2 72 - 1)) G2) (fun r1 _ _ r2 _ _ => r1 = r2) := by
        intro n m F3 G3 b1 b2 b3 b4 b5
        exact ih n m (k + 1) (x2 + 1) F3 G3 _ G2 (by omega) (by omega) (by omega) ⟨_, by rw [a1]⟩ b1 km1 b2 (by rw [b3, a2]) (by rw [hl1]; exact b4) (by rw [hl1]; exact n72) (by rw [hl1]; exact b5) (by omega) (by omega) (by omega)
      rcases co with ⟨tB, kt, ⟨lT, At, -⟩, c1, cw⟩ | ⟨tB, kt, ⟨lT, At, -⟩, c1, et, cw⟩
      · have kt := kt hX
        have mt1 : mu (k + 1) ≤ mu t := mo (k + 1) t (by omega) (by omega) tB
        have hlt : (A t).1.length = s0.length := by rw [At]
        have ju : ∀ (n m : Nat) (F3 : PF) (G3 : PG), KX [56, 57, 300] [55] Fc Gc F3 G3 → jXn F3 → F3 57 = nI (mu t) → (F3 56).toInt = s0.length → (∀ i : Nat, i < s0.length → G3 55 i = G2 71 i) → JP (cl_X6_valueFrom_12 fu n (x2 + 1) F3 G3) (ml_reckon_7 fu m (nI t) (fup F2 72 (F2 72 - 1)) G2) (fun r1 _ _ r2 _ _ => r1 = r2) := by
          intro n m F3 G3 b1 b2 b3 b4 b5
          exact ih n m t (x2 + 1) F3 G3 _ G2 (by omega) (by omega) tB ⟨_, by rw [At]⟩ b1 km1 b2 b3 (by rw [hlt]; exact b4) (by rw [hlt]; exact n72) (by rw [hlt]; exact b5) (by omega) (by omega) (by omega)
        rcases cw with ⟨e13, c86⟩ | ⟨e14, c85⟩
        · refine cj _ n (mu t) (.inr (.inl c86)) c1 (fun n F3 G3 b1 b2 b => ?_)
          rw [c86] at b
          refine rj _ m (.inl e13) (fun m y => ?_) (fun m y => ?_)
          · rcases y with ⟨-, y⟩ | ⟨y, -⟩
            · rcases b with ⟨⟨z | z, -⟩ | ⟨-, z⟩, -⟩ | ⟨-, b3, b4, b5⟩ | ⟨bb, ⟨z, -⟩ | ⟨z, -⟩, -⟩
              · exact absurd z (by decide)
              · exact absurd z (by decide)
              · exact absurd y z
              · exact ju n m F3 G3 b1 b2 b3 b4 b5
              · exact absurd z (by decide)
              · exact absurd z (by decide)
            · rw [e13] at y
              exact absurd y (by decide)
          · rcases y with ⟨-, y⟩ | ⟨y, -⟩
            · rcases b with ⟨-, b3, b4, b5⟩ | ⟨⟨z, -⟩ | ⟨-, z⟩, -⟩ | ⟨bb, ⟨z, -⟩ | ⟨z, -⟩, -⟩
              · exact nj n m F3 G3 b1 b2 b3 b4 b5
              · exact absurd z (by decide)
              · exact absurd z y
              · exact absurd z (by decide)
              · exact absurd z (by decide)
            · rw [e13] at y
              exact absurd y (by decide)
        · refine cj _ n (mu t) (.inl c85) c1 (fun n F3 G3 b1 b2 b => ?_)
          rw [c85] at b
          refine rj _ m (.inr e14) (fun m y => ?_) (fun m y => ?_)
          · rcases y with ⟨y, -⟩ | ⟨-, y⟩
            · rw [e14] at y
              exact absurd y (by decide)
            · rcases b with ⟨⟨-, z⟩ | ⟨z | z, -⟩, -⟩ | ⟨-, b3, b4, b5⟩ | ⟨bb, ⟨z, -⟩ | ⟨z, -⟩, -⟩
              · exact absurd z y
              · exact absurd z (by decide)
              · exact absurd z (by decide)
              · exact ju n m F3 G3 b1 b2 b3 b4 b5
              · exact absurd z (by decide)
              · exact absurd z (by decide)
          · rcases y with ⟨y, -⟩ | ⟨-, y⟩
            · rw [e14] at y
              exact absurd y (by decide)
            · rcases b with ⟨-, b3, b4, b5⟩ | ⟨⟨-, z⟩ | ⟨z, -⟩, -⟩ | ⟨bb, ⟨z, -⟩ | ⟨z, -⟩, -⟩
              · exact nj n m F3 G3 b1 b2 b3 b4 b5
              · exact absurd y z
              · exact absurd z (by decide)
              · exact absurd z (by decide)
              · exact absurd z (by decide)
      · have mt1 : mu (k + 1) ≤ mu (t + 1) := mo (k + 1) (t + 1) (by omega) (by omega) tB
        have hlt : (A (t + 1)).1.length = s0.length + 1 := by rw [At]; rfl
        have jt : ∀ (n m : Nat) (F3 : PF) (G3 : PG) (bb : Int32), Gm 57 t = bb → KX [56, 57, 300] [55] Fc Gc F3 G3 → jXn F3 → F3 57 = nI (mu (t + 1)) → (F3 56).toInt = s0.length + 1 → (∀ i : Nat, i < s0.length → G3 55 i = G2 71 i) → G3 55 s0.length = bb → JP (cl_X6_valueFrom_12 fu n (x2 + 1) F3 G3) (ml_reckon_7 fu m (nI t) (fup F2 72 (F2 72 - 1)) G2) (fun r1 _ _ r2 _ _ => r1 = r2) := by
          intro n m F3 G3 bb hb b1 b2 b3 b4 b5 b6
          refine rlg _ m t _ G2 km1 (by omega) (fun m => mp_pl (by omega) ?_)
          rw [g56, g57, if_pos et]
          unfold mb_plainly_72
          refine JP.ixRR (fun _ => ?_)
          unfold mb_plainly_82 mb_plainly_92
          show JP _ (ml_reckon_7 fu m (nI t + 1) (fup (fup F2 72 (F2 72 - 1)) 72 (fup F2 72 (F2 72 - 1) 72 + 1)) (gup G2 71 (fup F2 72 (F2 72 - 1) 72).toNatClampNeg (Gm 57 t))) _
          rw [nI_t t (by omega), fup_s, d72, hb]
          have e72 : (F2 72 - 1 + 1).toInt = (F2 72 - 1).toInt + 1 := i_addn _ rfl (by omega) (by omega)
          refine ih n m (t + 1) (x2 + 1) F3 G3 _ _ (by omega) (by omega) tB ⟨_, by rw [At]⟩ b1 (KX.f rfl (KX.g rfl km1)) b2 b3 (by rw [hlt]; omega) (by rw [hlt, fup_s]; omega) (fun i hi => ?_) (by omega) (by omega) (by omega)
          by_cases c : i = s0.length
          · rw [c, gup_i]
            exact b6
          · rw [gup_x c]
            exact b5 i (by omega)
        rcases cw with ⟨e13, c88, v0⟩ | ⟨e14, c87, v1⟩
        · refine cj _ n (mu (t + 1)) (.inr (.inr (.inr c88))) c1 (fun n F3 G3 b1 b2 b => ?_)
          rw [c88] at b
          refine rj _ m (.inl e13) (fun m y => ?_) (fun m y => ?_)
          · rcases y with ⟨-, y⟩ | ⟨y, -⟩
            · rcases b with ⟨⟨z | z, -⟩ | ⟨-, z⟩, -⟩ | ⟨⟨z, -⟩ | ⟨z, -⟩, -⟩ | ⟨bb, ⟨z, -⟩ | ⟨-, -, z⟩, b3, b4, b5, b6⟩
              · exact absurd z (by decide)
              · exact absurd z (by decide)
              · exact absurd y z
              · exact absurd z (by decide)
              · exact absurd z (by decide)
              · exact absurd z (by decide)
              · exact jt n m F3 G3 bb (v0.trans z.symm) b1 b2 b3 b4 b5 b6
            · rw [e13] at y
              exact absurd y (by decide)
          · rcases y with ⟨-, y⟩ | ⟨y, -⟩
            · rcases b with ⟨-, b3, b4, b5⟩ | ⟨⟨z, -⟩ | ⟨z, -⟩, -⟩ | ⟨bb, ⟨z, -⟩ | ⟨-, z, -⟩, -⟩
              · exact nj n m F3 G3 b1 b2 b3 b4 b5
              · exact absurd z (by decide)
              · exact absurd z (by decide)
              · exact absurd z (by decide)
              · exact absurd z y
            · rw [e13] at y
              exact absurd y (by decide)
        · refine cj _ n (mu (t + 1)) (.inr (.inr (.inl c87))) c1 (fun n F3 G3 b1 b2 b => ?_)
          rw [c87] at b
          refine rj _ m (.inr e14) (fun m y => ?_) (fun m y => ?_)
          · rcases y with ⟨y, -⟩ | ⟨-, y⟩
            · rw [e14] at y
              exact absurd y (by decide)
            · rcases b with ⟨⟨-, z⟩ | ⟨z | z, -⟩, -⟩ | ⟨⟨z, -⟩ | ⟨z, -⟩, -⟩ | ⟨bb, ⟨-, -, z⟩ | ⟨z, -⟩, b3, b4, b5, b6⟩
              · exact absurd z y
              · exact absurd z (by decide)
              · exact absurd z (by decide)
              · exact absurd z (by decide)
              · exact absurd z (by decide)
              · exact jt n m F3 G3 bb (v1.trans z.symm) b1 b2 b3 b4 b5 b6
              · exact absurd z (by decide)
          · rcases y with ⟨y, -⟩ | ⟨-, y⟩
            · rw [e14] at y
              exact absurd y (by decide)
            · rcases b with ⟨-, b3, b4, b5⟩ | ⟨⟨z, -⟩ | ⟨z, -⟩, -⟩ | ⟨bb, ⟨-, z, -⟩ | ⟨z, -⟩, -⟩
              · exact nj n m F3 G3 b1 b2 b3 b4 b5
              · exact absurd z (by decide)
              · exact absurd z (by decide)
              · exact absurd y z
              · exact absurd z (by decide)
    · rw [hX] at xf
      cases xf
end JK3
