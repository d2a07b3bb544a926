section JVA
variable {fu : Nat} {X : JCX} {p : Int32} {N K n q nf t i j : Nat} {cid pl x1 x3 r : Int32} {Fa Fb Fc Fm F1 F2 F3 F4 F5 F6 : PF} {Ga Gb Gc Gm G1 G2 G3 G4 G5 G6 : PG}
/-- a FORMAL behind its name -/
theorem jt_fname {k : Nat} {x2 b : Int32} (hk : k < 4001) (k4 : p = 1 → k ≤ 4) (h49 : p = 1 → (Fc 49).toInt ≤ 2 * (k : Int)) (hx2 : p = 1 → x2 = 0) (M : jNm X p N K n q nf t i cid pl x3 Fc Gc Fm Gm F3 G3 F4 G4) (ka : KX [9, 10, 11, 12, 13, 14] [] Fc Gc F3 G3) (hb : (Fc 11 = 4 ∧ b = 0) ∨ (Fc 11 = 5 ∧ b = 1)) : JP (cb_X4_formal_80 fu (nI k) (Fc 11) cid pl F3 G3) (mb_formalHere_50 fu (nI k) b x3 F4 G4) (fun _ F1 G1 r2 F2 G2 => jQf X p N K n q nf i k x2 Fc Gc Fm Gm r2 F1 G1 F2 G2) := by
  have VA := M.va
  have hp := VA.1.1.2.1
  have m46 : F4 46 = p := VA.1.1.2.2.1.1
  have c45 : F3 45 = p := VA.1.1.2.2.1.2.1
  have kI : (nI k).toInt = k := nI_toInt (by omega)
  have l4 : (4 : Int32).toInt = 4 := rfl
  have C := VA.1.2.1.1
  have ix := C.ix VA.1.1.1
  have o0 := C.2.2.2.2.1
  have sg24 := VA.1.sg (w := 24) (a := 21) (b := 24) (by decide) (by decide) (by decide)
  have sg28 := VA.1.sg (w := 28) (a := 25) (b := 28) (by decide) (by decide) (by decide)
  have sg23 := VA.1.sg (w := 23) (a := 20) (b := 23) (by decide) (by decide) (by decide)
  have ga4 : G4 4 = Gm 4 := M.2.1.1.2.2 4 rfl
  have ga5 : G4 5 = Gm 5 := M.2.1.1.2.2 5 rfl
  have tk2 : ∀ y : Nat, i ≤ y → y < i + 2 → ¬ (Gm 4 y = 4 ∧ (Gm 5 y = 23 ∨ Gm 5 y = 28)) := by
    intro y y1 y2 y3
    obtain ⟨-, -, -, g1, -, g3⟩ := M
    rcases (show y = i ∨ y = i + 1 by omega) with e | e
    · rw [e, g1] at y3
      exact absurd y3.1 (by decide)
    · rw [e, g3] at y3
      exact absurd y3.1 (by decide)
  have hv : (b = 0 ∧ Gm 5 i = 0) ∨ (b = 1 ∧ Gm 5 i = 1) := by
    have I := M.1.1
    have wd := I.wd (w := 1) (a := 5) (b := 1) (by decide) (by decide) (by decide)
    have wd0 := I.wd (w := 0) (a := 4) (b := 0) (by decide) (by decide) (by decide)
    rcases hb with ⟨z1, z2⟩ | ⟨z1, z2⟩
    · have y := of_decide_eq_true (wd0.mp z1)
      rw [I.2.1.1.ix I.1.1] at y
      exact .inl ⟨z2, y.2⟩
    · have y := of_decide_eq_true (wd.mp z1)
      rw [I.2.1.1.ix I.1.1] at y
      exact .inr ⟨z2, y.2⟩
  -- where it may be told
  have clean : (p = 1 → ¬ jTw nf t x3 F4 G4 ∧ k < 4) → JP (cb_X4_formal_80 fu (nI k) (Fc 11) cid pl F3 G3) (mb_formalHere_72 fu b x3 F4 G4) (fun _ F1 G1 r2 F2 G2 => jQf X p N K n q nf i k x2 Fc Gc Fm Gm r2 F1 G1 F2 G2) := by
    intro nt
    by_cases ar : F3 11 = 21 ∨ Fc 11 = 5
    · -- an array
      obtain ⟨kd, hd, cls⟩ : ∃ kd : Nat, ((kd = 1 ∧ b = 0) ∨ (kd = 2 ∧ b = 1)) ∧ cb_X4_formal_80 fu (nI k) (Fc 11) cid pl F3 G3 = cb_X4_formal_110 fu (nI k) cid pl (nI (kd + 1)) F3 G3 := by
        have e100 : cb_X4_formal_80 fu (nI k) (Fc 11) cid pl F3 G3 = cb_X4_formal_100 fu (nI k) (Fc 11) cid pl F3 G3 := by
          unfold cb_X4_formal_80
          by_cases c : F3 11 = 21
          · rw [if_pos c]
          · rw [if_neg c]
            unfold cb_X4_formal_95
            rcases ar with z | z
            · exact absurd z c
            · rw [if_pos z]
        rw [e100]
        unfold cb_X4_formal_100
        rcases hb with ⟨z1, z2⟩ | ⟨z1, z2⟩
        · refine ⟨1, .inl ⟨rfl, z2⟩, ?_⟩
          rw [if_pos z1]
          rfl
        · refine ⟨2, .inr ⟨rfl, z2⟩, ?_⟩
          rw [if_neg (by rw [z1]; decide)]
          rfl
      have rf : ∀ (a : PR) (Q : Int32 → PF → PG → Int32 → PF → PG → Prop), JP a (mb_formalHere_97 fu b x3 1 F4 G4) Q → JP a (mb_formalHere_72 fu b x3 F4 G4) Q := by
        intro a Q h
        have e85 : mb_formalHere_85 fu b x3 F4 G4 = mb_formalHere_97 fu b x3 1 F4 G4 := by
          unfold mb_formalHere_85 mb_formalHere_90
          rw [if_neg i10n]
        unfold mb_formalHere_72
        rw [e85]
        refine JP.iteR (fun z => ?_) (fun _ => h)
        unfold mb_formalHere_76
        have h24 : F3 11 = 21 := by
          rcases ar with y | y
          · exact y
          · rcases hb with ⟨z1, -⟩ | ⟨-, z2⟩
            · rw [z1] at y
              exact absurd y (by decide)
            · rw [z2] at z
              exact absurd z (by decide)
        refine JP.isS (fun _ => ?_) (fun y => ?_)
        · dsimp only
          unfold mb_formalHere_82
          rw [if_neg i10n, e85]
          exact h
        · rw [sg24.mp h24] at y
          cases y
      rw [cls]
      refine rf _ _ ?_
      unfold cb_X4_formal_110 mb_formalHere_97
      refine JP.both (jo_open VA.1.1.1 C (w := 24) (by decide) (by decide) (by decide)) ?_
      rintro r1 F5 G5 r2 F6 G6 (⟨rfl, rfl, hz, o⟩ | o)
      · dsimp only
        have li := C.ltS VA.1.1.1 hz
        obtain ⟨s4, s5⟩ := of_decide_eq_true hz
        rw [ix, ga4] at s4
        rw [ix, ga5] at s5
        have e5 := jAl.on (X := X) (p := p) (s := []) VA.1.1 VA.1.2.1 li (VA.1.1.t1 li) o
        have V5 := VA.al e5 (by omega)
        unfold cb_X4_formal_121 mb_formalHere_103
        rw [if_neg i10n, if_neg i10n]
        unfold cb_X4_formal_124 mb_formalHere_106
        refine JP.both (jo_close V5.1.1.1 V5.1.2.1.1 (by have := e5.2.2.2.1; omega) (w := 25) (by decide) (by decide) (by decide)) ?_
        rintro r3 F7 G7 r4 F8 G8 (⟨rfl, hy, o2⟩ | o2)
        · dsimp only
          have l2 := V5.1.2.1.1.ltS V5.1.1.1 hy
          have ix5 := V5.1.2.1.1.ix V5.1.1.1
          obtain ⟨u4, u5⟩ := of_decide_eq_true hy
          have gb4 : G6 4 = Gm 4 := (e5.1.2.2 4 rfl).trans ga4
          have gb5 : G6 5 = Gm 5 := (e5.1.2.2 5 rfl).trans ga5
          rw [ix5, gb4] at u4
          rw [ix5, gb5] at u5
          have e6 := jAl.on (X := X) (p := p) (s := []) V5.1.1 V5.1.2.1 l2 (V5.1.1.t1 l2) o2
          have V6 := V5.al e6 (by omega)
          unfold mb_formalHere_112
          rw [if_neg i10n]
          have kc : KX [9, 10, 11, 12, 13, 14] [] F3 G3 F7 G7 := KX.tr (KX.tr KX.rf o.1.2 rfl rfl) o2.1.2 rfl rfl
          have km : KX [42, 43, 44, 45] [] F4 G4 F8 G8 := KX.tr o.2.1.2 o2.2.1.2 rfl rfl
          refine jt_told (fun z => (nt z).2) h49 hx2 M V6 (by omega) ka kc km ?_ (fun y y1 y2 => ?_) ?_ (fun _ => ⟨s4, by rw [s5]; decide⟩) (fun z => (nt z).1) ?_
          · have y1 := e5.2.2.2.1
            have y2 := e6.2.2.2.1
            omega
          · rcases (show y < i + 2 ∨ y = i + 2 ∨ y = i + 2 + 1 by omega) with z | z | z
            · exact tk2 y y1 z
            · rw [z, s5]
              exact fun w => by rcases w.2 with w | w <;> exact absurd w (by decide)
            · rw [z, u5]
              exact fun w => by rcases w.2 with w | w <;> exact absurd w (by decide)
          · rcases hd with ⟨z1, z2⟩ | ⟨z1, z2⟩
            · exact .inr (.inl ⟨z1, rfl, z2⟩)
            · exact .inr (.inr ⟨z1, rfl, z2⟩)
          · unfold jKt
            rcases hd with ⟨z1, z2⟩ | ⟨z1, z2⟩
            · rcases hv with ⟨v1, v2⟩ | ⟨v1, v2⟩
              · rw [z1, if_neg (by rw [v2]; decide), if_pos ⟨s4, s5⟩]
              · rw [z2] at v1
                exact absurd v1 (by decide)
            · rcases hv with ⟨v1, v2⟩ | ⟨v1, v2⟩
              · rw [z2] at v1
                exact absurd v1 (by decide)
              · rw [z1, if_pos v2]
        · dsimp only
          exact JP.fin (kqj_X4_formal_133 (nI k) cid pl (nI (kd + 1)) F7 G7 CFS.rf) (nqj_formalHere_112 b x3 1 r4 F8 G8 MFS.rf) (.inr o2) (fun _ _ _ _ _ _ w => .inr (.inl w))
      · dsimp only
        exact JP.fin (kqj_X4_formal_121 (nI k) cid pl (nI (kd + 1)) r1 F5 G5 CFS.rf) (nqj_formalHere_103 b x3 1 r2 F6 G6 MFS.rf) (.inr o) (fun _ _ _ _ _ _ w => .inr (.inl w))
    · -- an int
      have n21 : ¬ F3 11 = 21 := fun z => ar (.inl z)
      have b0 : Fc 11 = 4 ∧ b = 0 := by
        rcases hb with z | ⟨z, -⟩
        · exact z
        · exact absurd (.inr z) ar
      have ec : cb_X4_formal_80 fu (nI k) (Fc 11) cid pl F3 G3 = cb_X4_formal_133 fu (nI k) cid pl (nI (0 + 1)) F3 G3 := by
        unfold cb_X4_formal_80 cb_X4_formal_95
        rw [if_neg n21, if_neg (by rw [b0.1]; decide)]
        rfl
      have rf : ∀ (a : PR) (Q : Int32 → PF → PG → Int32 → PF → PG → Prop), JP a (mb_formalHere_117 fu b x3 0 F4 G4) Q → JP a (mb_formalHere_72 fu b x3 F4 G4) Q := by
        intro a Q h
        unfold mb_formalHere_72
        rw [if_pos b0.2]
        unfold mb_formalHere_76
        refine JP.isS (fun y => ?_) (fun y => ?_)
        · exact absurd (sg24.mpr y) n21
        · dsimp only
          unfold mb_formalHere_82
          rw [if_pos rfl]
          unfold mb_formalHere_89 mb_formalHere_90
          rw [if_pos rfl]
          exact h
      have k0 : 0 = jKt (Gm 4) (Gm 5) i := by
        unfold jKt
        rcases hv with ⟨v1, v2⟩ | ⟨v1, v2⟩
        · rw [if_neg (by rw [v2]; decide), if_neg]
          intro w
          refine n21 (sg24.mpr ?_)
          unfold sgn
          rw [ix, ga4, ga5]
          exact decide_eq_true w
        · rw [b0.2] at v1
          exact absurd v1 (by decide)
      rw [ec]
      by_cases sep : p = 0 ∨ F3 11 = 25 ∨ F3 11 = 20
      · refine rf _ _ (jt_told (fun z => (nt z).2) h49 hx2 M VA (Nat.le_refl _) ka KX.rf KX.rf rfl tk2 (.inl ⟨rfl, rfl, b0.2⟩) (fun z => ?_) (fun z => (nt z).1) k0)
        have hs : (G4 4 (i + 2) = 4 ∧ G4 5 (i + 2) = 28) ∨ (G4 4 (i + 2) = 4 ∧ G4 5 (i + 2) = 23) := by
          rcases sep with y | y | y
          · rw [y] at z
            exact absurd z (by decide)
          · have := of_decide_eq_true (sg28.mp y)
            rw [ix] at this
            exact .inl this
          · have := of_decide_eq_true (sg23.mp y)
            rw [ix] at this
            exact .inr this
        rw [← ga4, ← ga5]
        rcases hs with ⟨y1, y2⟩ | ⟨y1, y2⟩
        · exact ⟨y1, by rw [y2]; decide⟩
        · exact ⟨y1, by rw [y2]; decide⟩
      · -- what can't go on
        have c1 : PP (cb_X4_formal_133 fu (nI k) cid pl (nI (0 + 1)) F3 G3) (fun _ F' G' => KX [41, 43, 44, 47, 49, 85] [33, 34, 35, 36, 37, 38, 39, 40, 78, 81, 84] F3 G3 F' G') := by
          unfold cb_X4_formal_133
          refine PP.ite (fun _ => ?_) (fun _ => ?_)
          · unfold cb_X4_formal_143
            refine PP.bind (cp_addFormal 0 F3 G3) ?_
            rintro r F G ⟨w, -⟩
            exact PP.ret (KX.tr KX.rf w rfl rfl)
          · unfold cb_X4_formal_153
            refine PP.bind (cw_X5_tellFormal cid pl _ F3 G3) ?_
            rintro r F G w
            dsimp only
            unfold cb_X4_formal_166
            refine PP.ite (fun _ => PP.ret (KX.tr KX.rf w rfl rfl)) (fun _ => ?_)
            unfold cb_X4_formal_171
            refine PP.bind (cp_note 8 pl (by decide) (by decide) F G) ?_
            rintro r2 F2 G2 ⟨-, w2, -⟩
            exact PP.ret (KX.tr (KX.tr KX.rf w rfl rfl) w2 rfl rfl)
        have c2 : PP (mb_formalHere_117 fu b x3 0 F4 G4) (fun _ F' G' => KX [14, 53] [16, 17, 18, 19, 20, 21, 22, 23] F4 G4 F' G') := by
          unfold mb_formalHere_117
          rw [if_pos rfl]
          unfold mb_formalHere_128 mb_formalHere_129
          rw [if_pos rfl]
          unfold mb_formalHere_143 mb_formalHere_144
          refine PP.bind (mw_declare x3 _ _ _ _ 1 F4 G4) ?_
          rintro r F G w
          dsimp only
          unfold mb_formalHere_148
          rw [if_pos rfl]
          exact PP.ret (KX.f rfl (KX.tr KX.rf w rfl rfl))
        refine rf _ _ (JP.pp c1 c2 (fun _ F' G' _ F'' G'' w1 w2 => .inr (.inr (.inr ⟨?_, ?_, ⟨i + 2, ?_⟩, ?_, ?_, ?_⟩))))
        · rw [w2.1 44 rfl]; exact C.2.2.2.2.2.2.2.1
        · exact VA.1.1.1.keep (w1.1 93 rfl) (w1.2 90 rfl) (w1.2 91 rfl) (w1.2 92 rfl) (w2.1 7 rfl) (w2.1 8 rfl) (w2.2 4 rfl) (w2.2 5 rfl) (w2.2 6 rfl)
        · have C' := C.kx w1 rfl rfl
          unfold CU at C' ⊢
          rw [w2.1 42 rfl, w2.1 43 rfl, w2.1 44 rfl]
          exact C'
        · rw [w1.1 11 rfl]
          exact fun z => sep (.inr (.inr z))
        · rw [w1.1 11 rfl]
          exact fun z => sep (.inr (.inl z))
        · rw [w1.1 10 rfl]
          have := M.2.1.2.2.2.1
          omega
  unfold mb_formalHere_50
  rcases hp with z | z
  · refine JP.R (mp_twice0 (m46.trans z)) ?_
    rintro _ _ _ ⟨rfl, rfl⟩
    dsimp only
    have cl := clean (fun y => absurd (z.symm.trans y) (by decide))
    unfold mb_formalHere_55
    refine JP.iteR (fun _ => ?_) (fun _ => cl)
    unfold mb_formalHere_60
    refine JP.ixR (fun _ => JP.R (mp_n0 (m46.trans z) (by decide)) ?_)
    rintro _ _ _ ⟨rfl, rfl⟩
    exact cl
  · obtain ⟨-, SA, SE, -⟩ := VA.1.1.2.2.2.2.2 z
    have FT := (VA.1.1.2.2.2.2.2 z).2.2.2.2.2
    have k4' := k4 z
    by_cases bad : jTw nf t x3 F4 G4 ∨ k = 4
    · obtain ⟨r, kn, tw⟩ := M.kn z
      have c133 : ∀ (kind : Int32) (F : PF) (G : PG), KX [9, 10, 11, 12, 13, 14] [] F3 G3 F G → PP (cb_X4_formal_133 fu (nI k) cid pl kind F G) (fun _ F' _ => (F' 43).toInt ≤ 4000) := by
        intro kind F G kf
        have h45 : ¬ F 45 = 0 := by rw [kf.1 45 rfl, c45, z]; decide
        unfold cb_X4_formal_133
        rw [if_neg h45]
        unfold cb_X4_formal_153
        by_cases ck : k = 4
        · refine PP.bind (cw_X5_tellFormal cid pl kind F G) ?_
          rintro r1 F1 G1 w
          dsimp only
          unfold cb_X4_formal_166
          rw [if_neg (fun y => by have := i_lt.mp y; omega)]
          unfold cb_X4_formal_171
          refine PP.bind (cp_note 8 pl (by decide) (by decide) F1 G1) ?_
          rintro r2 F2 G2 ⟨-, -, -, y⟩
          exact PP.ret (y (by rw [w.1 45 rfl]; exact h45) kn.2.2.2.2.2)
        · have hT : jTw nf t x3 F4 G4 := by
            rcases bad with y | y
            · exact y
            · exact absurd y ck
          have tf : PP (cf_X5_tellFormal fu cid pl kind F G) (fun _ F' _ => (F' 43).toInt ≤ 4000) := by
            have t25 : ∀ (v w : Int32), PP (cb_X5_tellFormal_25 fu cid pl kind v (fup F 49 w) G) (fun _ F' _ => (F' 43).toInt ≤ 4000) := by
              intro v w
              have kx : KX [9, 10, 11, 12, 13, 14, 49] [] F3 G3 (fup F 49 w) G := KX.f rfl (KX.tr KX.rf kf rfl rfl)
              obtain ⟨⟨k1, k2⟩, ⟨k3, k4⟩, k5, k6, k7, k8⟩ := kn.kx kx rfl rfl
              unfold cb_X5_tellFormal_25
              refine PP.bind (cp_tell cid pl kind v 0 k1 (by omega) k3 k4 k5 k6 k7 k8) ?_
              rintro rt F7 G7 ⟨hi, -⟩
              refine PP.ret (hi ?_)
              obtain ⟨jj, z1, z2, z3, z4⟩ := tw.mp hT
              exact ⟨jj, z1, z2, by rw [kx.2 34 rfl, kx.1 42 rfl]; exact z3, by rw [kx.2 35 rfl, kx.2 36 rfl]; exact z4⟩
            unfold cf_X5_tellFormal cb_X5_tellFormal_0 cf_X5_measure cb_X5_measure_0
            show PP (cb_X5_tellFormal_4 fu cid pl kind (4 + F 49 + F 50) F G) _
            unfold cb_X5_tellFormal_4
            exact PP.ite (fun _ => t25 _ _) (fun _ => t25 _ _)
          refine PP.bind tf ?_
          rintro r1 F1 G1 w
          exact PP.mono (kqj_X4_formal_166 (nI k) pl F1 G1 CFS.rf) (fun _ F' _ y => y.2 w)
      have c110 : ∀ kind : Int32, PP (cb_X4_formal_110 fu (nI k) cid pl kind F3 G3) (fun _ F' _ => (F' 43).toInt ≤ 4000) := by
        intro kind
        unfold cb_X4_formal_110
        refine PP.bind (cw_X2_opens 21 F3 G3) ?_
        rintro r1 F1 G1 w1
        dsimp only
        unfold cb_X4_formal_121
        refine PP.ite (fun _ => c133 kind F1 G1 w1) (fun _ => ?_)
        unfold cb_X4_formal_124
        refine PP.bind (cw_X2_closesWith 22 F1 G1) ?_
        rintro r2 F2 G2 w2
        exact c133 kind F2 G2 (KX.tr w1 w2 rfl rfl)
      have c100 : PP (cb_X4_formal_100 fu (nI k) (Fc 11) cid pl F3 G3) (fun _ F' _ => (F' 43).toInt ≤ 4000) := by
        unfold cb_X4_formal_100
        exact PP.ite (fun _ => c110 _) (fun _ => c110 _)
      have c1 : PP (cb_X4_formal_80 fu (nI k) (Fc 11) cid pl F3 G3) (fun _ F' _ => (F' 43).toInt ≤ 4000) := by
        unfold cb_X4_formal_80
        refine PP.ite (fun _ => c100) (fun _ => ?_)
        unfold cb_X4_formal_95
        exact PP.ite (fun _ => c100) (fun _ => c133 _ F3 G3 KX.rf)
      have c2 : PP ((mf_twice fu x3 F4 G4).bind (fun q => mb_formalHere_55 fu (nI k) b x3 q.2.1 q.2.2)) (fun _ F' _ => ¬ F' 47 = 0) := by
        refine PP.bind (mp_twice SE.1 (by have := SE.2.2.1; omega) SA.1 (by have := FT.2.1; omega) (by rw [m46, z]; decide)) ?_
        rintro rt F6 G6 ⟨rfl, h6, h7⟩
        dsimp only
        by_cases hT : jTw nf t x3 F4 G4
        · exact PP.mono (nqj_formalHere_55 (nI k) b x3 F6 G4 MFS.rf) (fun _ F' _ w y => h6 hT (w.2.1 y))
        · obtain rfl := h7 hT
          have ek : k = 4 := by
            rcases bad with y | y
            · exact absurd y hT
            · exact y
          unfold mb_formalHere_55
          rw [if_pos (show nI k = 4 by rw [ek]; decide)]
          unfold mb_formalHere_60
          exact PP.ix (fun _ => mp_nt (A := fun F' G' => mb_formalHere_72 fu b x3 F' G') (by rw [m46, z]; decide) (by decide) (fun F' G' => nqj_formalHere_72 b x3 F' G' MFS.rf))
      exact JP.pp c1 c2 (fun _ _ _ _ _ _ w1 w2 => .inr (.inl (.inl ⟨w1, w2⟩)))
    · have c1 : ¬ jTw nf t x3 F4 G4 := fun y => bad (.inl y)
      have c2 : k < 4 := by
        have : ¬ k = 4 := fun y => bad (.inr y)
        omega
      refine JP.R (mp_twice SE.1 (by have := SE.2.2.1; omega) SA.1 (by have := FT.2.1; omega) (by rw [m46, z]; decide)) ?_
      rintro rt F6 G6 ⟨rfl, -, h7⟩
      obtain rfl := h7 c1
      dsimp only
      unfold mb_formalHere_55
      rw [if_neg (show ¬ nI k = 4 from fun y => by have := nI_ij (a := k) (b := 4) y (by omega) (by omega); omega)]
      exact clean (fun _ => ⟨c1, c2⟩)
end JVA
