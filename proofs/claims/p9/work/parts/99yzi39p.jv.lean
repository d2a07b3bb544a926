section JVP
variable {fu : Nat} {X : JCX} {p : Int32} {N K n q nf t i f n0 : Nat} {φ : Nat → Nat} {cid pl v x1 x2 x3 x4 x5 x6 z0 z1 z2 : Int32} {Fc Fm Fa Fb F0 F F2 : PF} {Gc Gm Ga Gb G : PG} {ag : Int32 → Int32 → PF → PG → PR} {g : Int32 × PF × PG → PR} {Q : Int32 → PF → PG → Int32 → PF → PG → Prop}
/-- a TOLD -/
theorem jt_turn (hQ : ∀ (r1 : Int32) (F1 : PF) (G1 : PG) (r2 : Int32) (F2 : PF) (G2 : PG), jEnd F1 F2 → Q r1 F1 G1 r2 F2 G2) (hag : ∀ (F0 : PF) (y z : Int32) (F : PF) (G : PG), CFS F0 F → PP (ag y z F G) (fun _ F' _ => CFS F0 F')) (hg : ∀ (F0 : PF) (r : Int32) (F : PF) (G : PG), MFS F0 F → PP (g (r, F, G)) (fun _ F' _ => MFS F0 F')) (hN : ∀ (r1 : Int32) (F1 : PF) (G1 : PG) (r2 : Int32) (F2 : PF) (G2 : PG), p = 1 → f < nf → Gb 25 f = Fa 27 → ¬ Gb 32 f = -1 → (F1 43).toInt ≤ 4000 → Q r1 F1 G1 r2 F2 G2)
    (T : jGs X p N K n q nf t i f φ Fa Ga Fb Gb) (hi : i < N) (hwd : p = 1 → jWd X Fa Ga Fb Gb) (hfn : p = 1 → isfn (Gb 4) (Gb 5) (nI i) = true → f < nf ∧ φ f = i + 1) (hma : p = 0 → jMa f Fa Gb)
    (HO : ∀ (Y : JCX) (t1 j : Nat) (F1 : PF) (G1 : PG) (F2 : PF) (G2 : PG), isfn (Gb 4) (Gb 5) (nI i) = false → jGs Y p N K n q nf t1 j f φ F1 G1 F2 G2 → (p = 1 → jWd Y F1 G1 F2 G2) → i < j → (F1 10).toInt = (Fa 10).toInt → (F1 27 = Fa 27 ∧ F1 76 = Fa 76 ∧ G2 25 = Gb 25 ∧ G2 32 = Gb 32 ∧ F2 24 = Fb 24 ∧ Y.2.2.2 = X.2.2.2) → JP (cb_X4_walk_245 fu ag x1 x2 F1 G1) (g (1, F2, G2)) Q)
    (HF1 : ∀ (Y : JCX) (t1 j : Nat) (F1 : PF) (G1 : PG) (F2 : PF) (G2 : PG), p = 1 → isfn (Gb 4) (Gb 5) (nI i) = true → jGs Y 1 N K n q nf t1 j (f + 1) φ F1 G1 F2 G2 → jWd Y F1 G1 F2 G2 → i < j → (F1 10).toInt = (Fa 10).toInt → (F1 27 = Fa 27 ∧ F1 76 = Fa 76 ∧ G2 25 = Gb 25 ∧ G2 32 = Gb 32 ∧ F2 24 = Fb 24 ∧ Y.2.2.2 = X.2.2.2) → (Gb 25 f = Fa 27 → Gb 32 f = -1) → JP (cb_X4_walk_245 fu ag x1 x2 F1 G1) (g (1, F2, G2)) Q)
    (HF0 : ∀ (Y : JCX) (q' t1 j : Nat) (φ' : Nat → Nat) (F1 : PF) (G1 : PG) (F2 : PF) (G2 : PG), p = 0 → isfn (Gb 4) (Gb 5) (nI i) = true → jGs Y 0 N K n q' (f + 1) t1 j (f + 1) φ' F1 G1 F2 G2 → ((∀ y : Nat, y < f → φ' y = φ y) ∧ φ' f = i + 1) → i < j → (F1 10).toInt = (Fa 10).toInt → jMa (f + 1) F1 G2 → F1 27 = Fa 27 → JP (cb_X4_walk_245 fu ag x1 x2 F1 G1) (g (1, F2, G2)) Q) : JP (cb_X4_walk_36 fu ag x1 x2 Fa Ga) ((mf_tells fu (nI f) Fb Gb).bind g) Q := by
  unfold mf_tells mb_tells_0 mb_tells_5
  have k61 : KX [61] [] Fb Gb (fup Fb 61 0) Gb := KX.f rfl KX.rf
  generalize fup Fb 61 0 = Fz at k61 ⊢
  have T0 := T.m61 k61
  have I := T0.1
  have hp := I.1.2.1
  have n4 := I.1.1.1
  have h44 : Fz 44 = 0 := I.2.1.1.2.2.2.2.2.2.2.1
  have ix := I.2.1.1.ix I.1.1
  have fz42 : Fz 42 = nI i := I.2.1.1.2.2.1
  have wd0 := I.wd (w := 0) (a := 4) (b := 0) (by decide) (by decide) (by decide)
  have wd1 := I.wd (w := 1) (a := 5) (b := 1) (by decide) (by decide) (by decide)
  have wd2 := I.wd (w := 2) (a := 6) (b := 2) (by decide) (by decide) (by decide)
  have wd3 := I.wd (w := 3) (a := 7) (b := 3) (by decide) (by decide) (by decide)
  -- both fail at the word of a kind
  have dead : ∀ (xk : Int32) (F1 : PF) (G1 : PG) (b : PR), 0 ≤ (F1 13).toInt → (F1 13).toInt ≤ 4000 → cf_X4_kindWord fu xk F1 G1 = cb_X4_kindWord_38 fu (F1 11) F1 G1 → PP b (fun _ F' _ => ¬ F' 44 = 0) → JP (cb_X4_walk_65 fu ag x1 x2 xk F1 G1) (b.bind g) Q := by
    intro xk F1 G1 b p0 p1 ek hb
    have c1 : PP (cb_X4_walk_65 fu ag x1 x2 xk F1 G1) (fun _ F' _ => ¬ F' 14 = 0 ∧ F' 11 = -2) := by
      unfold cb_X4_walk_65
      rw [ek]
      unfold cb_X4_kindWord_38
      rw [Option.bind_assoc]
      refine PP.bind (cp_fail (by decide) (by decide) p0 (by omega)) ?_
      rintro r F G ⟨-, -, w1, w2⟩
      exact PP.mono (kw_70 hag (F := F) (G := G) CFS.rf) (fun _ F' _ v => v.1 ⟨w1, w2⟩)
    have c2 : PP (b.bind g) (fun _ F' _ => ¬ F' 44 = 0) := PP.bind hb (fun r F G h => PP.mono (hg F r F G MFS.rf) (fun _ F' _ v y => h (v.1 y)))
    exact JP.pp c1 c2 (fun _ _ _ _ _ _ w1 w2 => hQ _ _ _ _ _ _ (.inr ⟨w1.1, w1.2, .inl w2⟩))
  -- the class behind the word
  have kw : ∀ (xk : Int32) (F1 : PF) (G1 : PG), cf_X4_kindWord fu xk F1 G1 = cb_X4_kindWord_28 fu (F1 11) F1 G1 → cb_X4_walk_65 fu ag x1 x2 xk F1 G1 = (cf_X2_next fu F1 G1).bind (fun q => cb_X4_walk_70 fu ag x1 x2 xk (F1 11) q.2.1 q.2.2) := by
    intro xk F1 G1 ek
    unfold cb_X4_walk_65
    rw [ek]
    unfold cb_X4_kindWord_28
    rw [Option.bind_assoc]
    rfl
  unfold cb_X4_walk_36
  by_cases c7 : Fa 11 = 7
  · rw [if_pos c7]
    unfold cb_X4_walk_48 cb_X4_walk_53
    rw [if_neg i10n]
    unfold cb_X4_walk_58
    refine JP.RR (mp_word 3 0 Fz Gb h44) ?_
    rintro r F' G' (⟨rfl, rfl, rfl, -⟩ | ⟨-, y, -⟩)
    · dsimp only
      unfold mb_tells_11
      rw [if_neg i10n]
      refine JP.L (jo_next I.1.1 I.2.1.1 hi) ?_
      rintro r1 F1 G1 (o | o)
      · dsimp only
        have e0 := jAl.on (X := X) (p := p) (s := []) I.1 I.2.1 hi (I.1.t1 hi) o
        have T1 := T0.al e0 (by omega)
        generalize fup Fz 42 (Fz 42 + 1) = Fy at e0 T1 o ⊢
        have C1 := T1.1.2.1.1
        have S1 := T1.1.1.1
        have y44 : Fy 44 = 0 := C1.2.2.2.2.2.2.2.1
        have ix1 := C1.ix S1
        have wd4 := T1.1.wd (w := 0) (a := 4) (b := 0) (by decide) (by decide) (by decide)
        obtain ⟨pl0, pl1, -⟩ := C1.place S1
        unfold mb_tells_14
        by_cases c4 : F1 11 = 4
        · have l1 := C1.ltW S1 (wd4.mp c4)
          rw [kw 1 F1 G1 (by unfold cf_X4_kindWord cb_X4_kindWord_0; rw [if_pos c4])]
          refine JP.RR (mp_word 0 1 Fy Gb y44) ?_
          rintro r F' G' (⟨rfl, rfl, rfl, hw0⟩ | ⟨-, y, -⟩)
          · dsimp only
            unfold mb_tells_20
            rw [if_neg i10n]
            refine JP.L (jo_next S1 C1 l1) ?_
            rintro r2 F2 G2 (o2 | o2)
            · dsimp only
              have e1 := jAl.on (X := X) (p := p) (s := []) T1.1.1 T1.1.2.1 l1 (T1.1.1.t1 l1) o2
              have T2 := T1.al e1 (by omega)
              generalize fup Fy 42 (Fy 42 + 1) = Fx at e1 T2 o2 ⊢
              have C2 := T2.1.2.1.1
              have S2 := T2.1.1.1
              have fx42 : Fx 42 = nI (i + 1 + 1) := C2.2.2.1
              obtain ⟨-, -, pl2⟩ := C2.place S2
              unfold cb_X4_walk_70 mb_tells_23 mf_constantTold mb_constantTold_0
              rw [Option.bind_assoc, Option.bind_assoc]
              refine JP.both (jo_name S2 C2) ?_
              rintro r3 F3 G3 r4 F4 G4 (⟨rfl, g4, h11, o3⟩ | o3)
              · dsimp only
                have l2 : i + 1 + 1 < N := C2.lt S2 (by rw [g4]; decide)
                have e2 := jAl.on (X := X) (p := p) (s := []) T2.1.1 T2.1.2.1 l2 (T2.1.1.t1 l2) o3
                have T3 := T2.al e2 (by omega)
                obtain ⟨tk, -⟩ := S2.2.2.2.1 (i + 1 + 1) l2
                have eG : G4 = Gb := o3.2.1.1.symm
                subst eG
                have ev : F2 12 = G4 5 (i + 1 + 1) := by
                  have e12 : F2 12 = G2 91 (i + 1 + 1) := C2.2.2.2.2.2.2.2.2.2.1
                  rcases tk.2 with ⟨-, -, z⟩ | ⟨z, -⟩ | ⟨z, -⟩ | ⟨z, -⟩
                  · rw [e12, z]
                  · rw [g4] at z; exact absurd z (by decide)
                  · rw [g4] at z; exact absurd z (by decide)
                  · rw [g4] at z; exact absurd z (by decide)
                obtain ⟨s4, s5⟩ := of_decide_eq_true hw0
                rw [ix1] at s4 s5
                have kcl : KX jXc jYc Fa Ga F3 G3 := KX.tr (KX.tr (KX.tr KX.rf e0.1.1 rfl rfl) e1.1.1 rfl rfl) e2.1.1 rfl rfl
                have kml : KX (61 :: jXm) jYm Fb G4 F4 G4 := KX.tr (KX.tr (KX.tr (KX.tr KX.rf k61 rfl rfl) e0.1.2 rfl rfl) e1.1.2 rfl rfl) e2.1.2 rfl rfl
                have d10 : (F3 10).toInt = (Fa 10).toInt := by
                  have y0 := e0.2.2.2.1
                  have y1 := e1.2.2.2.1
                  have y2 := e2.2.2.2.1
                  omega
                rw [fx42]
                have M : jNg X p N K n q nf t (i + 1 + 1) f φ (F2 12) (F2 13) (nI (i + 1 + 1)) F3 G3 F4 G4 := by
                  refine ⟨T3, ⟨ev, pl2, rfl, l2⟩, ⟨by omega, s4, .inl s5, g4⟩, fun z => ⟨?_, ?_⟩⟩
                  · exact ((T.2.2.2.2.2.2 z).1).le (by omega)
                  · have := hwd z
                    unfold jWd at this ⊢
                    rw [kcl.1 75 rfl, kml.1 36 rfl, kml.1 37 rfl, kcl.2 86 rfl, kml.2 41 rfl, kml.2 38 rfl, kml.2 39 rfl, kml.2 40 rfl]
                    exact this
                have isf : isfn (G4 4) (G4 5) (nI i) = false := by
                  have y := wd3.mp c7
                  rw [fz42] at y
                  unfold isfn
                  rw [y]
                  rfl
                unfold cb_X4_walk_98
                rw [if_neg i10n]
                unfold cb_X4_walk_102
                refine JP.both (jt_const M) ?_
                rintro r5 F5 G5 r6 F6 G6 (⟨rfl, Y, t1, j, T5, wdj, nj, ⟨k1, k2⟩, f1, f2⟩ | h)
                · show JP (cb_X4_walk_245 fu ag x1 x2 F5 G5) (g (1, F6, G6)) Q
                  exact HO Y t1 j F5 G5 F6 G6 isf T5 wdj (by omega) (by omega) ⟨(k1.1 27 rfl).trans (kcl.1 27 rfl), (k1.1 76 rfl).trans (kcl.1 76 rfl), k2.2 25 rfl, k2.2 32 rfl, (k2.1 24 rfl).trans (kml.1 24 rfl), f1⟩
                · exact JP.fin (hag F5 _ _ F5 G5 CFS.rf) (PP.bind (nqj_tells_27 r6 F6 G6 MFS.rf) (fun r F G y => hg F6 r F G y)) h hQ
              · dsimp only
                exact JP.fin (kw_98 hag (F := F3) (G := G3) CFS.rf) (PP.bind (nqj_constantTold_4 r4 F4 G4 MFS.rf) (fun r F G y => PP.bind (nqj_tells_27 r F G y) (fun r F G y => hg F4 r F G y))) (.inr o3) hQ
            · dsimp only
              exact JP.fin (kw_70 hag (F := F2) (G := G2) CFS.rf) (PP.bind (nqj_tells_23 _ Gb MFS.rf) (fun r F G y => hg _ r F G y)) (.inr o2) hQ
          · rw [wd4.mp c4] at y
            cases y
        · refine dead 1 F1 G1 _ pl0 (by omega) ?_ ?_
          · unfold cf_X4_kindWord cb_X4_kindWord_0
            rw [if_neg c4]
            unfold cb_X4_kindWord_13
            rw [if_neg i10n]
          · refine PP.bind (mp_word 0 1 Fy Gb y44) ?_
            rintro r F' G' (⟨-, -, -, y⟩ | ⟨-, -, ⟨y, -⟩ | ⟨-, y⟩⟩)
            · exact absurd (wd4.mpr y) c4
            · exact absurd y (by decide)
            · exact PP.mono (nqj_tells_20 r F' G' MFS.rf) (fun _ F' _ v z => by
                have := y.1
                rw [v.1 z] at this
                exact absurd this (by decide))
      · dsimp only
        exact JP.fin (kw_65 hag (F := F1) (G := G1) CFS.rf) (PP.bind (nqj_tells_14 _ Gb MFS.rf) (fun r F G y => hg _ r F G y)) (.inr o) hQ
    · rw [wd3.mp c7] at y
      cases y
  · rw [if_neg c7]
    unfold cb_X4_walk_52 cb_X4_walk_53
    rw [if_pos rfl]
    refine JP.RR (mp_word 3 0 Fz Gb h44) ?_
    rintro r F' G' (⟨-, -, -, y⟩ | ⟨rfl, w3f, ⟨-, rfl, rfl⟩ | ⟨y, -⟩⟩)
    · exact absurd (wd3.mpr y) c7
    · dsimp only
      unfold mb_tells_11
      rw [if_pos rfl]
      unfold mb_tells_36
      refine JP.RR (mp_isWord 2 Fz Gb) ?_
      rintro bv _ _ ⟨rfl, rfl, hbv⟩
      dsimp only
      unfold mb_tells_41
      refine JP.RR (mp_isWord 1 Fz Gb) ?_
      rintro bb _ _ ⟨rfl, rfl, hbb⟩
      dsimp only
      by_cases hk : (Fa 11 = 4 ∧ bv = 0 ∧ bb = 0) ∨ (Fa 11 = 5 ∧ bv = 0 ∧ bb = 1) ∨ (Fa 11 = 6 ∧ bv = 1 ∧ bb = 0)
      · -- the reference
        have r70 : ∀ a : PR, JP a ((mb_tells_70 fu (nI f) bv bb Fz Gb).bind g) Q → JP a ((mb_tells_47 fu (nI f) bv bb Fz Gb).bind g) Q := by
          intro a h
          unfold mb_tells_47
          rcases hk with ⟨y1, y2, y3⟩ | ⟨y1, y2, y3⟩ | ⟨y1, y2, y3⟩
          · rw [if_pos y2]
            unfold mb_tells_52
            rw [if_pos y3]
            unfold mb_tells_56
            refine JP.RR (mp_isWord 0 Fz Gb) ?_
            rintro b0 _ _ ⟨rfl, rfl, hb0⟩
            dsimp only
            unfold mb_tells_61
            rcases hb0 with ⟨y, -⟩ | ⟨-, y⟩
            · rw [y, if_neg i10n]
              exact h
            · rw [wd0.mp y1] at y
              cases y
          · rw [if_pos y2]
            unfold mb_tells_52
            rw [if_neg (by rw [y3]; decide)]
            exact h
          · rw [if_neg (by rw [y2]; decide)]
            exact h
        refine r70 _ ?_
        have ek : cf_X4_kindWord fu 0 Fa Ga = cb_X4_kindWord_28 fu (Fa 11) Fa Ga := by
          unfold cf_X4_kindWord cb_X4_kindWord_0
          rcases hk with ⟨y1, -⟩ | ⟨y1, -⟩ | ⟨y1, -⟩
          · rw [if_pos y1]
          · rw [if_neg (by rw [y1]; decide)]
            unfold cb_X4_kindWord_13
            rw [if_pos rfl]
            unfold cb_X4_kindWord_17
            rw [if_pos y1]
          · rw [if_neg (by rw [y1]; decide)]
            unfold cb_X4_kindWord_13
            rw [if_pos rfl]
            unfold cb_X4_kindWord_17
            rw [if_neg (by rw [y1]; decide)]
            unfold cb_X4_kindWord_22
            rw [if_pos y1]
        rw [kw 0 Fa Ga ek]
        unfold mb_tells_70
        refine JP.L (jo_next I.1.1 I.2.1.1 hi) ?_
        rintro r2 F2 G2 (o2 | o2)
        · dsimp only
          have e1 := jAl.on (X := X) (p := p) (s := []) I.1 I.2.1 hi (I.1.t1 hi) o2
          have T2 := T0.al e1 (by omega)
          generalize fup Fz 42 (Fz 42 + 1) = Fx at e1 T2 o2 ⊢
          have C2 := T2.1.2.1.1
          have S2 := T2.1.1.1
          have fx42 : Fx 42 = nI (i + 1) := C2.2.2.1
          obtain ⟨-, -, pl2⟩ := C2.place S2
          unfold cb_X4_walk_70 mb_tells_80
          rw [Option.bind_assoc]
          refine JP.both (jo_name S2 C2) ?_
          rintro r3 F3 G3 r4 F4 G4 (⟨rfl, g4, h11, o3⟩ | o3)
          · dsimp only
            have l2 : i + 1 < N := C2.lt S2 (by rw [g4]; decide)
            have e2 := jAl.on (X := X) (p := p) (s := []) T2.1.1 T2.1.2.1 l2 (T2.1.1.t1 l2) o3
            have T3 := T2.al e2 (by omega)
            obtain ⟨tk, -⟩ := S2.2.2.2.1 (i + 1) l2
            have eG : G4 = Gb := o3.2.1.1.symm
            subst eG
            have ev : F2 12 = G4 5 (i + 1) := by
              have e12 : F2 12 = G2 91 (i + 1) := C2.2.2.2.2.2.2.2.2.2.1
              rcases tk.2 with ⟨-, -, z⟩ | ⟨z, -⟩ | ⟨z, -⟩ | ⟨z, -⟩
              · rw [e12, z]
              · rw [g4] at z; exact absurd z (by decide)
              · rw [g4] at z; exact absurd z (by decide)
              · rw [g4] at z; exact absurd z (by decide)
            have kcl : KX jXc jYc Fa Ga F3 G3 := KX.tr (KX.tr KX.rf e1.1.1 rfl rfl) e2.1.1 rfl rfl
            have kml : KX (61 :: jXm) jYm Fb G4 F4 G4 := KX.tr (KX.tr (KX.tr KX.rf k61 rfl rfl) e1.1.2 rfl rfl) e2.1.2 rfl rfl
            have d10 : (F3 10).toInt = (Fa 10).toInt := by
              have y1 := e1.2.2.2.1
              have y2 := e2.2.2.2.1
              omega
            have wv : G4 4 i = 2 ∧ ((Fa 11 = 4 ∧ bv = 0 ∧ bb = 0 ∧ G4 5 i = 0) ∨ (Fa 11 = 5 ∧ bv = 0 ∧ bb = 1 ∧ G4 5 i = 1) ∨ (Fa 11 = 6 ∧ bv = 1 ∧ bb = 0 ∧ G4 5 i = 2)) := by
              rcases hk with ⟨y1, y2, y3⟩ | ⟨y1, y2, y3⟩ | ⟨y1, y2, y3⟩
              · have y := of_decide_eq_true (wd0.mp y1)
                rw [ix] at y
                exact ⟨y.1, .inl ⟨y1, y2, y3, y.2⟩⟩
              · have y := of_decide_eq_true (wd1.mp y1)
                rw [ix] at y
                exact ⟨y.1, .inr (.inl ⟨y1, y2, y3, y.2⟩)⟩
              · have y := of_decide_eq_true (wd2.mp y1)
                rw [ix] at y
                exact ⟨y.1, .inr (.inr ⟨y1, y2, y3, y.2⟩)⟩
            have f42 : F4 42 = nI (i + 1 + 1) := T3.1.2.1.1.2.2.1
            rw [fx42]
            have M : jNg X p N K n q nf t (i + 1) f φ (F2 12) (F2 13) (nI (i + 1)) F3 G3 F4 G4 := by
              refine ⟨T3, ⟨ev, pl2, rfl, l2⟩, ⟨by omega, wv.1, ?_, g4⟩, fun z => ⟨?_, ?_⟩⟩
              · rcases wv.2 with ⟨-, -, -, y⟩ | ⟨-, -, -, y⟩ | ⟨-, -, -, y⟩
                · exact .inl y
                · exact .inr (.inl y)
                · exact .inr (.inr y)
              · exact ((T.2.2.2.2.2.2 z).1).le (by omega)
              · have := hwd z
                unfold jWd at this ⊢
                rw [kcl.1 75 rfl, kml.1 36 rfl, kml.1 37 rfl, kcl.2 86 rfl, kml.2 41 rfl, kml.2 38 rfl, kml.2 39 rfl, kml.2 40 rfl]
                exact this
            unfold cb_X4_walk_98 mb_tells_84
            rw [if_pos rfl, if_pos (show F4 44 ≤ 0 by rw [T3.1.2.1.1.2.2.2.2.2.2.2.1]; decide)]
            have c27 : F3 27 = Fa 27 := kcl.1 27 rfl
            rw [fz42] at w3f
            have ist : ¬ Fa 11 = 5 → sgn (G4 4) (G4 5) (F4 42) 22 = true → isfn (G4 4) (G4 5) (nI i) = true := by
              intro n5 s
              have w1f : wdn (G4 4) (G4 5) (nI i) 1 = false := by
                cases hh : wdn (G4 4) (G4 5) (nI i) 1 with
                | false => rfl
                | true =>
                  rw [← fz42] at hh
                  exact absurd (wd1.mpr hh) n5
              rw [f42] at s
              unfold isfn
              rw [w3f, w1f, nI_s i (by omega), nI_s (i + 1) (by omega), s]
              rfl
            have isf : ¬ sgn (G4 4) (G4 5) (F4 42) 22 = true → isfn (G4 4) (G4 5) (nI i) = false := by
              intro s
              rw [f42] at s
              unfold isfn
              rw [nI_s i (by omega), nI_s (i + 1) (by omega), Bool.eq_false_iff.mpr s, Bool.and_false]
            refine jt_behind hQ hag hg (fun r1 F1 G1 r2 F2 G2 y1 y2 y3 y4 y5 => hN r1 F1 G1 r2 F2 G2 y1 y2 (by rw [← c27]; exact y3) y4 y5) M wv.2 (fun z n5 s => hfn z (ist n5 s)) (fun z => ⟨fun y hy => ?_, ?_, ?_⟩) (fun Y t1 j F1 G1 F5 G5 n5 T5 wdj nj f2 ⟨a1, a2, a3, a4, a5, a6⟩ => HO Y t1 j F1 G1 F5 G5 (isf n5) T5 wdj (by omega) (by omega) ⟨a1.trans c27, a2.trans (kcl.1 76 rfl), a3, a4, a5.trans (kml.1 24 rfl), a6⟩) (fun Y t1 j F1 G1 F5 G5 z n5 T5 wdj nj f2 ⟨a1, a2, a3, a4, a5, a6⟩ hm => HF1 Y t1 j F1 G1 F5 G5 z (ist n5.1 n5.2) T5 wdj (by omega) (by omega) ⟨a1.trans c27, a2.trans (kcl.1 76 rfl), a3, a4, a5.trans (kml.1 24 rfl), a6⟩ (fun y => hm (y.trans c27.symm))) (fun Y q' t1 j φ' F1 G1 F5 G5 z n5 T5 pφ nj f2 ma e27 => HF0 Y q' t1 j φ' F1 G1 F5 G5 z (ist n5.1 n5.2) T5 pφ (by omega) (by omega) ma (e27.trans c27))
            · have := ((T.2.2.2.2.2.1 z).2.2.2.2.2.2.2 y (by have := (T.2.2.2.2.2.1 z).1; omega)).1
              omega
            · have := (T.2.2.2.2.2.1 z).2.2.2.2.2.2.1.1
              exact this
            · have := hma z
              unfold jMa at this ⊢
              rw [c27, kcl.1 76 rfl]
              exact this
          · dsimp only
            exact JP.fin (kw_98 hag (F := F3) (G := G3) CFS.rf) (PP.bind (nqj_tells_84 (nI f) bv bb r4 F4 G4 MFS.rf) (fun r F G y => hg F4 r F G y)) (.inr o3) hQ
        · dsimp only
          exact JP.fin (kw_70 hag (F := F2) (G := G2) CFS.rf) (PP.bind (nqj_tells_80 (nI f) bv bb _ Gb MFS.rf) (fun r F G y => hg _ r F G y)) (.inr o2) hQ
      · obtain ⟨pl0, pl1, -⟩ := I.2.1.1.place I.1.1
        have n6 : ¬ Fa 11 = 6 ∧ bv = 0 := by
          rcases hbv with ⟨y1, y2⟩ | ⟨y1, y2⟩
          · exfalso
            refine hk (.inr (.inr ⟨wd2.mpr y2, y1, ?_⟩))
            rcases hbb with ⟨z1, z2⟩ | ⟨z1, z2⟩
            · exact absurd ((of_decide_eq_true y2).2.symm.trans (of_decide_eq_true z2).2) (by decide)
            · exact z1
          · exact ⟨fun z => by (rw [wd2.mp z] at y2; cases y2), y1⟩
        have n5 : ¬ Fa 11 = 5 ∧ bb = 0 := by
          rcases hbb with ⟨y1, y2⟩ | ⟨y1, y2⟩
          · exact absurd (.inr (.inl ⟨wd1.mpr y2, n6.2, y1⟩)) hk
          · exact ⟨fun z => by (rw [wd1.mp z] at y2; cases y2), y1⟩
        have n4' : ¬ Fa 11 = 4 := fun z => hk (.inl ⟨z, n6.2, n5.2⟩)
        refine dead 0 Fa Ga _ pl0 (by omega) ?_ ?_
        · unfold cf_X4_kindWord cb_X4_kindWord_0
          rw [if_neg n4']
          unfold cb_X4_kindWord_13
          rw [if_pos rfl]
          unfold cb_X4_kindWord_17
          rw [if_neg n5.1]
          unfold cb_X4_kindWord_22
          rw [if_neg n6.1]
        · unfold mb_tells_47
          rw [if_pos n6.2]
          unfold mb_tells_52
          rw [if_pos n5.2]
          unfold mb_tells_56
          refine PP.bind (mp_isWord 0 Fz Gb) ?_
          rintro b0 _ _ ⟨rfl, rfl, hb0⟩
          dsimp only
          unfold mb_tells_61
          rcases hb0 with ⟨-, y⟩ | ⟨y, -⟩
          · exact absurd (wd0.mpr y) n4'
          · rw [if_pos y]
            unfold mb_tells_64
            refine PP.bind (mp_fails 2 (by decide) Fz Gb) ?_
            rintro r F G ⟨-, w⟩
            exact PP.mono (nqj_tells_69 r F G MFS.rf) (fun _ F' _ v z => by
              have := w.1
              rw [v.1 z] at this
              exact absurd this (by decide))
    · exact absurd rfl y
end JVP
