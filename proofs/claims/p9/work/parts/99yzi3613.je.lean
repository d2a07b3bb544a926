section JE13
variable {fu : Nat} {X : JCX} {p : Int32} {N K n q nf t : Nat}
/-- the class writes what an entry that is no array holds -/
theorem jO.ld {e : Nat} {s : SH} {a b : Int32} {wd : Int32} {mg : Int32} {c : Nat → Int32} {Gc Gm : PG} {gl ll : JLY} (hg : gl = X.2.1) (hl : ll = X.2.2.1) (n2 : Gc 34 (q + e) = Gm 19 e) (n6 : jEN gl ll (Gc 35 (q + e)) (Gc 37 (q + e)) (Gc 38 (q + e)) (Gm 19 e) (Gm 17 e) (Gm 20 e) (Gm 21 e) (Gm 22 e) (Gm 23 e)) (n17 : ¬ Gm 17 e = 2) (hX : X.1 = true → Gm 17 e = 0) (u1 : a = (if Gc 35 (q + e) = 1 then (if Gc 34 (q + e) = 0 then 69 else 70) else 66)) (u2 : b = Gc 37 (q + e)) (hw : (Gm 17 e = 0 ∧ wd = 0) ∨ (¬ Gm 17 e = 0 ∧ ((Gm 23 e = 0 ∧ wd = 3) ∨ (¬ Gm 23 e = 0 ∧ wd = 1)))) (c0 : c 0 = a) (c1 : c 1 = b) : jO X wd (Gm 20 e) 0 mg c s (0 :: s) 2 := by
  rcases n6 with ⟨v1, v2, v3, -⟩ | ⟨v1, v2, v3, v4⟩ | ⟨κ, -, -, v2, -⟩
  · rcases hw with ⟨-, w⟩ | ⟨w, -⟩
    · refine .inl ⟨w, rfl, ?_, ?_, rfl⟩
      · rw [c0, u1, v1, if_neg (by decide)]
      · rw [c1, u2, v3]
    · exact absurd v2 w
  · rcases hw with ⟨w, -⟩ | ⟨-, w⟩
    · rw [v2] at w
      exact absurd w (by decide)
    · have x1 : X.1 = false := by
        cases z : X.1
        · rfl
        · have := hX z
          rw [v2] at this
          exact absurd this (by decide)
      rw [v1, if_pos rfl, n2] at u1
      refine .inr (.inr (.inr (.inr ⟨x1, ?_⟩)))
      rcases v4 with ⟨y1, y2, pp, o, y3, y4, y5⟩ | ⟨y1, y2, pp, o, y3, y4, y5⟩
      · rw [if_pos y1] at u1
        rcases w with ⟨w1, w2⟩ | ⟨w1, -⟩
        · exact .inr (.inr (.inl ⟨w2, rfl, rfl, c0.trans u1, pp, o, by rw [← hg]; exact y3, y4, c1.trans (u2.trans y5)⟩))
        · exact absurd y2 w1
      · rw [if_neg y1] at u1
        rcases w with ⟨w1, -⟩ | ⟨w1, w2⟩
        · rw [y2] at w1
          exact absurd w1 (by decide)
        · exact .inl ⟨w2, rfl, rfl, c0.trans u1, pp, o, by rw [← hl]; exact y3, y4, c1.trans (u2.trans y5)⟩
  · exact absurd v2 n17
/-- a name where a value is wanted, in the second pass, where it may stand -/
theorem je_name1 {dm dc j : Nat} {s : SH} {sym x1 pl m f : Int32} {pa sq : Bool} {Fc Fm : PF} {Gc Gm : PG} (ihE : ∀ d : Nat, d < dm → jPx fu X p N K n q nf t 1 4 d) (I : jIn X p N K n q nf t j Fc Gc Fm Gm) (hp : p = 1) (hx : Gm 6 x1.toNatClampNeg = pl) (hm : jMn nf t Gm (Gm 5 x1.toNatClampNeg) m f) (hs : (∃ e : Nat, e < t ∧ sym = nI (q + e) ∧ m = nI e) ∨ (m = -1 ∧ ∃ j' g : Nat, j' < q ∧ g < nf ∧ sym = nI j' ∧ f = nI g ∧ Gc 37 j' = nI g ∧ Gc 35 j' = 4)) (hpa : pa = sgn (Gm 4) (Gm 5) (Fm 42) 22) (hsq : sq = sgn (Gm 4) (Gm 5) (Fm 42) 24) (gd : jGd (Fm 54) nf t Gm m f pa sq) : JP (cb_X3_named_47 fu (cS1 fu dc) pl sym Fc Gc) (mb_plain_190 fu (mS1 fu dm) x1 Fm Gm) (fun _ F1 G1 r2 F2 G2 => jOut X p N j 2 s (0 :: s) Fc Gc Fm Gm r2 F1 G1 F2 G2) := by
  obtain ⟨x0, SA, SE, SU, SL, FT⟩ := I.1.2.2.2.2.2 hp
  have p0 : ∀ {P : Prop}, p = 0 → P := fun z => by rw [hp] at z; exact absurd z (by decide)
  have t9 := SE.2.2.1
  have f4 := FT.2.1
  have h461 : Fm 46 = 1 := by rw [I.1.2.2.1.1, hp]
  have h46 : ¬ Fm 46 = 0 := by rw [h461]; decide
  have h71 : Fc 7 = 1 := I.h7.2 hp
  have sg22 := I.sg (w := 22) (a := 19) (b := 22) (by decide) (by decide) (by decide)
  have sg24 := I.sg (w := 24) (a := 21) (b := 24) (by decide) (by decide) (by decide)
  have rm2 := (jAl.rf (X := X) (p := p) (s := s) I.2.1).room (m := 2) I.1 I.2.2 (by omega)
  have n22 : sgn (Gm 4) (Gm 5) (Fm 42) 22 = false → ¬ Fc 11 = 19 := fun z w => by rw [sg22.mp w] at z; cases z
  have n24 : sgn (Gm 4) (Gm 5) (Fm 42) 24 = false → ¬ Fc 11 = 21 := fun z w => by rw [sg24.mp w] at z; cases z
  -- both load
  have ld : ∀ (e : Nat) (wd : Int32) (F2 : PF), e < t → sym = nI (q + e) → KX [62] [] Fm Gm F2 Gm → ¬ Gm 17 e = 2 → (X.1 = true → Gm 17 e = 0) → ((Gm 17 e = 0 ∧ wd = 0) ∨ (¬ Gm 17 e = 0 ∧ ((Gm 23 e = 0 ∧ wd = 3) ∨ (¬ Gm 23 e = 0 ∧ wd = 1)))) → ∀ g : Int32 × PF × PG → PR, (∀ q : Int32 × PF × PG, g q = some (1, q.2.1, q.2.2)) → JP (cb_X3_named_93 fu (cS1 fu dc) sym Fc Gc) ((mf_step fu wd (Gm 20 e) 0 F2 Gm).bind g) (fun _ F1 G1 r2 F2 G2 => jOut X p N j 2 s (0 :: s) Fc Gc Fm Gm r2 F1 G1 F2 G2) := by
    intro e wd F2 e0 e1 kx n17 hX hw g hg
    have m1 := jAl.mm (X := X) (p := p) (s := s) I.2.1 (KX.tr (a := [55, 62]) (b := []) KX.rf kx rfl rfl) (fun _ => kx.1 55 rfl)
    have I2 := I.next m1 (Int.le_refl _)
    unfold cb_X3_named_93
    refine JP.L (cp_load sym rm2) ?_
    rintro _ F3 G3 ⟨a, b, w1, w2⟩
    obtain ⟨u1, u2⟩ := w2 (q + e) (q + t) SE.2.1 (by omega) (by omega) e1
    refine JP.R (mp_em wd (Gm 20 e) 0 F2 Gm) ?_
    rintro r4 F4 G4 ⟨-, -, v2, -⟩
    rw [hg]
    dsimp only
    unfold cb_X3_named_98
    have e2 : jAl X p N j j 0 2 s (0 :: s) [] Fc Gc F2 Gm F3 G3 F4 G4 := by
      refine jAl.em (ws := [a, b]) I2.h7.1 I2.h7.2 I2.2.1 w1 v2 (fun _ => ?_)
      obtain ⟨n1, n2, n3, n4, n5, n6⟩ := SE.2.2.2.2.2 e e0
      have W := (w1.2.2 h71).2.2
      exact jO.ld rfl rfl n2 n6 n17 hX u1 u2 hw (W 0 a rfl) (W 1 b rfl)
    exact JP.ret (.inl ⟨rfl, j, (m1.tr e2).ca (by omega) (by omega)⟩)
  unfold mb_plain_190
  rcases gd with ⟨cn, g1, g2, e, e0, e1, e2⟩ | ⟨cn, ⟨g1, e, e0, e1, gd⟩ | ⟨g1, g2, g, g3, g4, g5⟩⟩
  · -- in a constant
    rw [g1] at hpa
    rw [g2] at hsq
    have es : sym = nI (q + e) := by
      rcases hs with ⟨e', a1, a2, a3⟩ | ⟨a1, -⟩
      · rw [nI_ij (a3.symm.trans e1) (by omega) (by omega)] at a2
        exact a2
      · rw [a1] at e1
        exact absurd e1.symm (nI_n1 (by omega))
    have nm : ¬ m = -1 := by rw [e1]; exact nI_n1 (by omega)
    have em : m.toNatClampNeg = e := by
      show m.toInt.toNat = e
      rw [e1, nI_toInt (by omega)]
      omega
    rw [if_neg cn]
    unfold mb_plain_197
    refine JP.bR (Q1 := fun _ F1 G1 r2 F2 G2 => jOut X p N j 2 s (0 :: s) Fc Gc Fm Gm r2 F1 G1 F2 G2) ?_ (fun r1 F1 G1 r2 F2 G2 h => by dsimp only; unfold mb_plain_202 mb_plain_210; exact PP.bz (fun _ => PP.ret h))
    cases dm with
    | zero => exact JP.noR
    | succ dm =>
      show JP _ (mh_inConstant fu (mS1 fu dm) x1 Fm Gm) _
      unfold cb_X3_named_47
      rw [if_neg (n22 hpa.symm)]
      unfold cb_X3_named_68
      rw [if_neg (n24 hsq.symm)]
      unfold mh_inConstant mb_inConstant_0
      rw [if_neg h46]
      unfold mb_inConstant_11
      refine JP.R (mp_meanX x1 SU SE.1 SA.1 (by omega) (by omega) hm) ?_
      rintro m' F2 _ ⟨rfl, kx, rfl, k62⟩
      dsimp only
      have e461 : F2 46 = 1 := (kx.1 46 rfl).trans h461
      have g46 : ¬ F2 46 ≤ 0 := by rw [e461]; decide
      have f22 : sgn (Gm 4) (Gm 5) (F2 42) 22 = false := by rw [kx.1 42 rfl]; exact hpa.symm
      have f24 : sgn (Gm 4) (Gm 5) (F2 42) 24 = false := by rw [kx.1 42 rfl]; exact hsq.symm
      unfold mb_inConstant_16
      rw [if_neg nm]
      unfold mb_inConstant_34 mb_inConstant_35
      refine JP.isS (fun z => by rw [f24] at z; cases z) (fun _ => ?_)
      dsimp only
      unfold mb_inConstant_42
      rw [if_pos rfl]
      unfold mb_inConstant_45
      refine JP.isS (fun z => by rw [f22] at z; cases z) (fun _ => ?_)
      dsimp only
      unfold mb_inConstant_51
      rw [if_pos rfl]
      unfold mb_inConstant_58 mb_inConstant_59
      rw [if_neg nm]
      unfold mb_inConstant_66
      refine JP.ixR (fun _ => ?_)
      rw [em, if_pos e2]
      unfold mb_inConstant_75 mb_inConstant_80
      rw [if_neg g46]
      unfold mb_inConstant_89
      rw [if_pos rfl]
      unfold mb_inConstant_104
      rw [if_neg g46]
      unfold mb_inConstant_111
      rw [if_pos rfl]
      unfold mb_inConstant_115
      rw [if_neg i10n]
      unfold mb_inConstant_120
      rw [if_pos rfl]
      unfold mb_inConstant_137
      rw [if_neg i10n]
      unfold mb_inConstant_142
      rw [if_pos rfl]
      unfold mb_inConstant_147
      refine JP.ixR (fun _ => ?_)
      obtain ⟨n1, n2, n3, n4, n5, n6⟩ := SE.2.2.2.2.2 e e0
      have mz : ¬ Gm 21 e = -1 := by
        rcases n6 with ⟨-, -, -, z, -⟩ | ⟨-, z, -⟩ | ⟨κ, -, -, z, -⟩
        · exact z
        · rw [e2] at z; exact absurd z (by decide)
        · rw [e2] at z; exact absurd z (by decide)
      rw [em, if_neg mz]
      unfold mb_inConstant_162
      refine JP.isS (fun z => by rw [f22] at z; cases z) (fun _ => ?_)
      dsimp only
      unfold mb_inConstant_168
      rw [if_pos rfl]
      unfold mb_inConstant_182
      refine JP.isS (fun z => by rw [f24] at z; cases z) (fun _ => ?_)
      dsimp only
      unfold mb_inConstant_188
      rw [if_pos rfl]
      unfold mb_inConstant_221
      rw [if_pos rfl]
      unfold mb_inConstant_226
      rw [if_neg i10n]
      unfold mb_inConstant_233
      refine JP.ixR (fun _ => ?_)
      rw [em]
      unfold mb_inConstant_243
      exact ld e 0 F2 e0 es kx (by rw [e2]; decide) (fun _ => e2) (.inl ⟨e2, rfl⟩) _ (fun _ => rfl)
  · -- an entry
    rw [g1] at hpa
    have xf : X.1 = false := by
      cases z : X.1
      · rfl
      · exact absurd cn (x0.mp z)
    have es : sym = nI (q + e) := by
      rcases hs with ⟨e', a1, a2, a3⟩ | ⟨a1, -⟩
      · rw [nI_ij (a3.symm.trans e1) (by omega) (by omega)] at a2
        exact a2
      · rw [a1] at e1
        exact absurd e1.symm (nI_n1 (by omega))
    have nm : ¬ m = -1 := by rw [e1]; exact nI_n1 (by omega)
    have em : m.toNatClampNeg = e := by
      show m.toInt.toNat = e
      rw [e1, nI_toInt (by omega)]
      omega
    rw [if_pos cn]
    unfold mb_plain_205
    refine JP.bR (Q1 := fun _ F1 G1 r2 F2 G2 => jOut X p N j 2 s (0 :: s) Fc Gc Fm Gm r2 F1 G1 F2 G2) ?_ (fun r1 F1 G1 r2 F2 G2 h => by dsimp only; unfold mb_plain_210; exact PP.bz (fun _ => PP.ret h))
    cases dm with
    | zero => exact JP.noR
    | succ dm =>
      show JP _ (mh_named fu (mS1 fu dm) x1 Fm Gm) _
      unfold cb_X3_named_47
      rw [if_neg (n22 hpa.symm)]
      unfold mh_named mb_named_0
      refine JP.isS (fun z => by rw [← hpa] at z; cases z) (fun _ => ?_)
      dsimp only
      unfold mb_named_6
      rw [if_pos rfl]
      unfold mb_named_16
      rw [if_neg h46]
      unfold mb_named_27
      refine JP.R (mp_meanX x1 SU SE.1 SA.1 (by omega) (by omega) hm) ?_
      rintro m' F2 _ ⟨rfl, kx, rfl, k62⟩
      dsimp only
      have m1 := jAl.mm (X := X) (p := p) (s := s) I.2.1 (KX.tr (a := [55, 62]) (b := []) KX.rf kx rfl rfl) (fun _ => kx.1 55 rfl)
      have I2 := I.next m1 (Int.le_refl _)
      have f24 : sgn (Gm 4) (Gm 5) (F2 42) 24 = sq := by rw [kx.1 42 rfl]; exact hsq.symm
      unfold mb_named_32
      rw [if_neg nm]
      unfold mb_named_50 mb_named_51
      rcases gd with ⟨c17, hq⟩ | ⟨c17, hq⟩
      · rw [hq] at f24 hsq
        refine JP.isS (fun _ => ?_) (fun z => by rw [f24] at z; cases z)
        dsimp only
        unfold mb_named_58
        rw [if_pos rfl]
        unfold mb_named_78
        rw [if_neg nm]
        unfold mb_named_83
        refine JP.ixR (fun _ => ?_)
        rw [em, if_pos c17]
        unfold mb_named_95 mb_named_100
        rw [if_pos rfl]
        unfold cb_X3_named_68 mb_named_115
        rw [if_pos (sg24.mpr hsq.symm), if_neg i10n]
        obtain ⟨n1, n2, n3, n4, n5, n6⟩ := SE.2.2.2.2.2 e e0
        obtain ⟨κ, g, l, z1, z2, z3, z4, z5, z6, z7, z8⟩ := jEN.arr (kf := X.2.2.2) (b := X.1) n6 c17
        unfold cb_X3_named_80 mb_named_120
        refine JP.both (je_indexD (s := s) (κ := κ) (fun d hd => ihE d (by omega)) I2 (sg24.mpr hsq.symm) p0 (fun _ => ⟨xf, e, e0, es, e1, c17, z3⟩) z1) ?_
        rintro r1 F1 G1 r2 F4 G4 (⟨rfl, k, h⟩ | h)
        · dsimp only
          have h2 := m1.tr h
          have rm1 := h2.room (m := 1) I.1 I.2.2 (by omega)
          unfold cb_X3_named_85 mb_named_125
          rw [if_neg i10n]
          unfold mb_named_130
          refine JP.L (cp_fetch sym rm1) ?_
          rintro _ F5 G5 ⟨a, w1, w2⟩
          have f35 : G1 35 = Gc 35 := h2.1.1.2 35 rfl
          have wa := w2 (q + e) (q + t) (by rw [h2.1.1.1 41 rfl]; exact SE.2.1) (by omega) (by omega) es
          rw [f35, z3] at wa
          refine JP.R (mp_em 7 0 0 F4 G4) ?_
          rintro r6 F6 G6 ⟨-, -, v2, -⟩
          dsimp only
          unfold cb_X3_named_90 cb_X3_named_98 mb_named_138 mb_named_212
          have e7 : F1 7 = 1 := (h2.1.1.1 7 rfl).trans h71
          have e3 : jAl X p N k k 0 1 (κ :: s) (0 :: s) [] F1 G1 F4 G4 F5 G5 F6 G6 := by
            refine jAl.em (ws := [a]) (.inr e7) (fun _ => e7) h2.2.1 w1 v2 (fun _ => ?_)
            have W := (w1.2.2 e7).2.2
            refine .inr (.inr (.inr (.inr ⟨xf, .inr (.inr (.inr (.inr (.inr (.inr (.inl ⟨rfl, rfl, κ, s, z1, rfl, rfl, ?_⟩))))))⟩)))
            show G5 5 (wN F1 + 0) = _
            rw [W 0 a rfl, wa]
            rcases z1 with e | e
            · rw [e]; rfl
            · rw [e]; rfl
          exact JP.ret (.inl ⟨rfl, k, (h2.tr e3).ca (by omega) (by omega)⟩)
        · exact JP.fin (kqj_X3_named_85 _ (kqS1 dc) _ F1 G1 CFS.rf) (nqj_named_125 _ (nqS1 dm) r2 F4 G4 MFS.rf) h (fun _ _ _ _ _ _ w => .inr w)
      · rw [hq] at f24 hsq
        refine JP.isS (fun z => by rw [f24] at z; cases z) (fun _ => ?_)
        dsimp only
        unfold mb_named_58
        rw [if_pos rfl]
        unfold mb_named_78
        rw [if_neg nm]
        unfold mb_named_83
        refine JP.ixR (fun _ => ?_)
        rw [em, if_neg c17]
        unfold mb_named_99 mb_named_100
        rw [if_pos rfl]
        unfold cb_X3_named_68 mb_named_115
        rw [if_neg (n24 hsq.symm), if_pos rfl]
        unfold mb_named_142
        rw [if_neg nm]
        unfold mb_named_147
        refine JP.ixR (fun _ => ?_)
        rw [em]
        have hX : X.1 = true → Gm 17 e = 0 := fun z => by rw [xf] at z; cases z
        refine JP.iteR (fun c0 => ?_) (fun c0 => ?_)
        · unfold mb_named_156
          refine JP.ixR (fun _ => ?_)
          rw [em]
          exact ld e 0 F2 e0 es kx c17 hX (.inl ⟨c0, rfl⟩) _ (fun _ => rfl)
        · unfold mb_named_172
          rw [if_neg nm]
          unfold mb_named_178
          refine JP.ixR (fun _ => ?_)
          rw [em]
          refine JP.iteR (fun c23 => ?_) (fun c23 => ?_)
          · unfold mb_named_191 mb_named_192
            rw [if_neg nm]
            unfold mb_named_201
            refine JP.ixR (fun _ => ?_)
            rw [em]
            unfold mb_named_207
            exact ld e 3 F2 e0 es kx c17 hX (.inr ⟨c0, .inl ⟨c23, rfl⟩⟩) _ (fun _ => rfl)
          · unfold mb_named_187 mb_named_192
            rw [if_neg nm]
            unfold mb_named_201
            refine JP.ixR (fun _ => ?_)
            rw [em]
            unfold mb_named_207
            exact ld e 1 F2 e0 es kx c17 hX (.inr ⟨c0, .inr ⟨c23, rfl⟩⟩) _ (fun _ => rfl)
  · -- a function
    rw [g1] at hpa
    have xf : X.1 = false := by
      cases z : X.1
      · rfl
      · exact absurd cn (x0.mp z)
    rcases hs with ⟨e', a1, a2, a3⟩ | ⟨-, j', g', a1, a2, a3, a4, a5, a6⟩
    · rw [g2] at a3
      exact absurd a3.symm (nI_n1 (by omega))
    rw [nI_ij (a4.symm.trans g4) (by omega) (by omega)] at a5 a2
    rw [if_pos cn]
    unfold mb_plain_205
    refine JP.bR (Q1 := fun _ F1 G1 r2 F2 G2 => jOut X p N j 2 s (0 :: s) Fc Gc Fm Gm r2 F1 G1 F2 G2) ?_ (fun r1 F1 G1 r2 F2 G2 h => by dsimp only; unfold mb_plain_210; exact PP.bz (fun _ => PP.ret h))
    cases dm with
    | zero => exact JP.noR
    | succ dm =>
      show JP _ (mh_named fu (mS1 fu dm) x1 Fm Gm) _
      unfold cb_X3_named_47
      rw [if_pos (sg22.mpr hpa.symm)]
      unfold mh_named mb_named_0
      refine JP.isS (fun _ => ?_) (fun z => by rw [← hpa] at z; cases z)
      dsimp only
      unfold mb_named_6
      rw [if_neg i10n]
      unfold cb_X3_named_59 mb_named_9
      rw [g2, g4] at hm
      refine JP.both (je_call1 (s := s) (fun d hd => je_callT (fun d' hd' => ihE d' (by omega))) I hp xf hx a1 a2 a3 a5 a6 hm (.inr g5)) ?_
      rintro r1 F1 G1 r2 F2 G2 (⟨rfl, k, h⟩ | h)
      · dsimp only
        unfold cb_X3_named_65 cb_X3_named_98 mb_named_15
        exact JP.bzR (fun _ => JP.ret (.inl ⟨rfl, k, h.le (by omega)⟩))
      · exact JP.fin (kqj_X3_named_65 _ (kqS1 dc) F1 G1 CFS.rf) (nqj_named_15 _ (nqS1 dm) r2 F2 G2 MFS.rf) h (fun _ _ _ _ _ _ w => .inr w)
end JE13
