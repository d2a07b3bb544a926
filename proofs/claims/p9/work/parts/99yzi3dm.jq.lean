section JQM
variable {fu : Nat} {S S1 : JST} {gl : JLY} {K : Nat → List Nat} {nf B WB : Nat} {Fc Fm F1 F2 F3 F4 : PF} {Gc Gm G1 G2 G3 G4 : PG}
theorem jFw.k {g a b : Nat} {mu : Nat → Nat} {A : JAN} {le : JLY} (h : jFw gl K g B WB Gc Gm a b mu A le) (e5 : G1 5 = Gc 5) (e80 : G1 80 = Gc 80) (e28 : G2 28 = Gm 28) (e29 : G2 29 = Gm 29) (e30 : G2 30 = Gm 30) (ec : ∀ k : Nat, 56 ≤ k → k ≤ 59 → G2 k = Gm k) : jFw gl K g B WB G1 G2 a b mu A le := by
  obtain ⟨⟨a1, a2, a3⟩, ⟨a4, a5, a6⟩, a7, ⟨a8, a9, a10⟩, a11, a12⟩ := h
  refine ⟨⟨by rw [e30]; exact a1, a2, a3⟩, ⟨by rw [e80]; exact a4, a5, a6⟩, a7, ⟨by rw [e28]; exact a8, by rw [e29]; exact a9, a10⟩, a11, fun k k1 k2 => ?_⟩
  exact (a12 k k1 k2).ext (C := mu b) ⟨k1, k2⟩ a6 (Nat.le_refl _) (fun _ _ => ⟨rfl, rfl⟩) (Nat.le_refl _) (fun j _ _ => ⟨by rw [ec 56 (by decide) (by decide)], by rw [ec 57 (by decide) (by decide)], by rw [ec 58 (by decide) (by decide)], by rw [ec 59 (by decide) (by decide)]⟩) (fun j _ => by rw [e5])
theorem jRg.mS (hS : ∀ g a b mu A le, S g a b mu A le → S1 g a b mu A le) (h : jRg S gl F1 G1 F2 G2) : jRg S1 gl F1 G1 F2 G2 := by
  obtain ⟨hx, H, n, g, a, b, mu, A, le, cb, wb, t, k, s, l, R⟩ := h
  have h0 := jH0 R.2.2.2.2.2.2.2.2.2.2.2.1 R.2.2.2.2.2.2.2.2.2.2.2.2.1
  obtain ⟨r1, r2, rest⟩ := R
  exact ⟨hx, H, n, g, a, b, mu, A, le, cb, wb, t, k, s, l, jFS.cg (w0 := wb + 2) (v0 := 0) hS h0 (fun _ _ => rfl) n cb wb t r1 (fun _ _ _ _ _ => Iff.rfl) (fun _ _ => ⟨rfl, rfl⟩) (fun _ _ => ⟨rfl, rfl⟩) (fun _ _ => rfl) (.inl (Nat.le_refl _)), hS _ _ _ _ _ _ r2, rest⟩
theorem jRg.rb (h : jRg (jSS gl K nf B WB Gc Gm) gl F1 G1 F2 G2) (kc : KX jcA jcB Fc Gc F3 G3) (km : KX wkA wkB Fm Gm F4 G4) : jRg (jSS gl K nf B WB G3 G4) gl F1 G1 F2 G2 := h.mS (fun g a b mu A le q => ⟨q.1, q.2.k (kc.2 5 rfl) (kc.2 80 rfl) (km.2 28 rfl) (km.2 29 rfl) (km.2 30 rfl) (fun k l u => by rcases (show k = 56 ∨ k = 57 ∨ k = 58 ∨ k = 59 by omega) with z | z | z | z <;> rw [z] <;> first | exact km.2 56 rfl | exact km.2 57 rfl | exact km.2 58 rfl | exact km.2 59 rfl)⟩)
/-- the class's loop leaves inMain -/
theorem cq_60 : ∀ (d : Nat) (x2 : Int32) (F : PF) (G : PG), PP (cl_X6_goOn_45 fu d x2 F G) (fun _ F' _ => F' 60 = F 60) := by
  intro d
  induction d with
  | zero => intro x2 F G; exact PP.no
  | succ d ih =>
    intro x2 F G
    show PP (cb_X6_goOn_45 fu (cl_X6_goOn_45 fu d) x2 F G) _
    unfold cb_X6_goOn_45 cb_X6_goOn_68
    refine PP.ite (fun _ => PP.ret rfl) (fun _ => ?_)
    unfold cb_X6_goOn_51 cb_X6_goOn_68
    refine PP.ite (fun _ => PP.ret rfl) (fun _ => ?_)
    unfold cb_X6_goOn_58
    refine PP.bind (cw_X6_step F G) ?_
    intro r F1 G1 k
    dsimp only
    unfold cb_X6_goOn_62
    exact PP.mono (ih (x2 + 1) F1 G1) (fun _ F' _ w => w.trans (k.1 60 rfl))
theorem q6 (n m : Nat) (F : PF) (G : PG) (h : F 75 = 6) : PP (ml_run_77 n m 0 F G) (fun _ F' _ => F' 75 = 6) := by
  cases m with
  | zero => exact PP.no
  | succ m =>
    show PP (mb_run_77 n (ml_run_77 n m) 0 F G) _
    unfold mb_run_77 mb_run_97
    rw [if_pos rfl]
    exact PP.ret h
/-- how main begins -/
theorem jq_main {y : Nat} {E1 E2 : PF} (hfu : 8589934592 ≤ fu) (X : jFx gl K nf B WB Fc Gc Fm Gm) (kc : KX jcA jcB Fc Gc E1 Gc) (km : KX wkA wkB Fm Gm E2 Gm) (ik : jK E1 Gc E2 Gm) (gm : jGm gl Gc Gm) (hg : (Fm 37).toInt = jsC gl ∧ jsW gl ≤ 2000) (hy : y < nf) (y1 : Fc 76 = nI y) (y2 : Fm 74 = nI y) (hx : jXn E1) (e56 : E1 56 = 0) (e59 : E1 59 = 2000) (e61 : E1 61 = 1) (e63 : E1 63 = 1) (e66 : E1 66 = -1) (e65 : E1 65 = 0) (q75 : E2 75 = 1) (q85 : E2 85 = 0) (q83 : E2 83 = 0) (q72 : E2 72 = 0) (cn : CNR E2) : JP (cb_X6_goOn_39 fu E1 Gc) (mb_run_50 fu E2 Gm) (fun _ F3 G3 r F4 G4 => r = F4 75 ∧ jStx (jSS gl K nf B WB Gc Gm) gl Fc Gc Fm Gm F3 G3 F4 G4 ∧ (F4 75 = 1 ∨ F4 75 = 2 → F3 60 = 1)) := by
  obtain ⟨⟨x1, x2, x3, x4, x5, x6⟩, T, hC, hP, h84⟩ := id X
  have l0 : (0 : Int32).toInt = 0 := rfl
  obtain ⟨t79, t77, t81, tK, s1, c1, t31, t27, tsc, tN⟩ := T y hy
  obtain ⟨a', b', mu', A', le', fw⟩ := hC y hy
  obtain ⟨⟨f30, -, -⟩, ⟨f80, -, -⟩, -, ⟨f28, f29, f208⟩, -⟩ := id fw
  have Ky : K y = [] := by
    have kn := hP.2.2.2.2.2.2.2.2.1
    have c0 : c1 = 0 := by
      unfold kindsOf at kn
      have := congrArg List.length kn
      rw [List.length_map, List.length_range, y2, nI_c y (by omega), t27, nI_toInt (by omega)] at this
      have this : (c1 : Int).toNat = 0 := this
      omega
    rw [c0] at tN
    have tN : 0 = jsC (jFl (K y)) := tN
    cases hk : K y with
    | nil => rfl
    | cons z L =>
      rw [hk] at tN
      have : jsC (jFl (z :: L)) = (if z = 0 then 1 else 2) + jsC (jFl L) := by
        show joC (if z = 0 then (0, 1) else (z + 2, 0)) + _ = _
        have z2 := tK z (by rw [hk]; exact List.mem_cons_self ..)
        rcases (show z = 0 ∨ z = 1 ∨ z = 2 by omega) with e | e | e <;> subst e <;> rfl
      rw [this] at tN
      split at tN <;> omega
  have w0 : jsC (jFl (K y)) = 0 := by rw [Ky]; rfl
  have w1 : jsW (jFl (K y)) = 0 := by rw [Ky]; rfl
  rw [w1] at t81
  rw [w0] at tN
  have g76 : E1 76 = nI y := (kc.1 76 rfl).trans y1
  have g74 : E2 74 = nI y := (km.1 74 rfl).trans y2
  have yI : (nI y).toInt = y := nI_toInt (by omega)
  -- how deep
  have d1 : E1 59 - 2000 + Gc 79 y = E2 83 + Gm 28 y := by
    rw [e59, q83, t79]
    rfl
  have d2 : (E2 83 + Gm 28 y).toInt = ((4 + jsW le' : Nat) : Int) := by
    rw [q83, f28]
    have : (0 : Int32) + nI (4 + jsW le') = nI (0 + (4 + jsW le')) := nI_ad (a := 0) (by omega)
    rw [this, nI_toInt (by omega)]
    omega
  obtain ⟨H, hp, h0⟩ := gm
  -- the class enters
  have cE : PP ((cf_X6_enterMain fu E1 Gc).bind (fun q => some (0, q.2.1, q.2.2))) (fun _ F3 G3 => (((E2 83 + Gm 28 y).toInt ≤ (E2 84).toInt ∧ F3 60 = 1 ∧ KX [56, 57, 58, 59, 60, 300] [54, 55] E1 Gc F3 G3 ∧ F3 57 = Gc 80 y ∧ F3 58 = nI 2000 ∧ F3 59 = nI 2000 + Gc 79 y ∧ jXn F3 ∧ jSk 0 0 [] (Gc 55) (G3 55) (F3 56) ∧ G3 54 = jAr (upd (upd (Gc 54) 2000 (E1 57)) 2001 (E1 58)) (Gc 55) 2004 0 0 0) ∨ ((E2 84).toInt < (E2 83 + Gm 28 y).toInt ∧ KX [60, 61, 63, 66] [] E1 Gc F3 G3 ∧ F3 61 = 0 ∧ F3 63 = 6 ∧ F3 66 = Gc 77 y))) := by
    unfold cf_X6_enterMain cb_X6_enterMain_0 cf_X8_has cb_X8_has_0
    rw [g76, if_neg (fun z => by have := i_lt.mp z; omega)]
    unfold cb_X8_has_4
    rw [if_neg (fun z => by have := i_le.mp z; rw [kc.1 74 rfl] at this; omega)]
    show PP ((cb_X6_enterMain_23 fu E1 Gc).bind (fun q => some (0, q.2.1, q.2.2))) _
    unfold cb_X6_enterMain_23
    rw [g76, nI_c y (by omega)]
    by_cases ci : ixb (nI y) 450 = true
    · rw [if_pos ci, Option.bind_assoc]
      refine cq_en (W := 2000) (w := 0) (y := 0) e56 hx (by omega) (Nat.le_refl _) e59 (fun _ => by omega) (by omega) t81 (fun d F3 G3 k1 k2 k3 k4 k5 k6 k7 => ?_) (fun d => ?_)
      · rw [d1, kc.1 67 rfl] at d
        show PP (some (0, fup F3 60 1, G3)) _
        refine PP.ret (.inl ⟨?_, fup_s, KX.f rfl (k1.sub rfl rfl), ?_, ?_, ?_, k5.f (by decide) (by decide), ?_, k7⟩)
        · rw [← ik.1.2.2, kc.1 67 rfl]; exact d
        · rw [fup_n (by decide)]; exact k2
        · rw [fup_n (by decide)]; exact k3
        · rw [fup_n (by decide)]; exact k4
        · rw [fup_n (by decide)]; exact k6
      · rw [d1, kc.1 67 rfl] at d
        show PP (some (0, fup (fup (fup (fup E1 66 (Gc 77 y)) 63 6) 61 0) 60 0, Gc)) _
        refine PP.ret (.inr ⟨?_, KX.f rfl (KX.f rfl (KX.f rfl (KX.f rfl KX.rf))), ?_, ?_, ?_⟩)
        · rw [← ik.1.2.2, kc.1 67 rfl]; exact d
        · rw [fup_n (by decide), fup_s]
        · rw [fup_n (by decide), fup_n (by decide), fup_s]
        · rw [fup_n (by decide), fup_n (by decide), fup_n (by decide), fup_s]
    · rw [if_neg ci]
      exact PP.no
  unfold cb_X6_goOn_39 mb_run_50
  have e37 : E2 37 = nI (jsC gl) := by
    rw [km.1 37 rfl]
    exact i_eq2 (by rw [hg.1, nI_toInt (by have := jsC4 gl; omega)])
  have c4 := jsC4 le'
  have c5 := jsC4 gl
  refine JP.ixR (fun _ => ?_)
  rw [g74, nI_c y (by omega)]
  have cm := cur_main hfu hP h84 km q85 q83 q72 cn (Gm 26 y)
  rw [y2] at cm
  have mm := mq_ca (fu := fu) (k := 0) (y := 0) (F := E2) (G := Gm) (b := jsC gl) (C := jsC le') (g := y) (s := s1) (c := c1) (pl := Gm 26 y) (pk := 0) q72 (by omega) (by omega) (by rw [if_pos q85]; exact e37) t31 t27 tsc f29 (by omega) (by rw [tN]; omega)
  rw [tN] at mm
  have eqL : (cf_X6_enterMain fu E1 Gc).bind (fun q => cb_X6_goOn_43 fu q.2.1 q.2.2) = ((cf_X6_enterMain fu E1 Gc).bind (fun q => some ((0 : Int32), q.2.1, q.2.2))).bind (fun q => cb_X6_goOn_43 fu q.2.1 q.2.2) := by
    rw [Option.bind_assoc]
    rfl
  rw [eqL]
  refine JP.both (JP.pp cE (PP.and mm cm) (Q := fun _ F3 G3 r F4 G4 => (r = 1 ∧ (∃ φ, CUR Fm Gm F4 G4 φ) ∧ F3 60 = 1 ∧ jInv (jSS gl K nf B WB Gc Gm) gl Fc Gc Fm Gm F3 G3 F4 G4) ∨ (r = 0 ∧ F4 75 = 6 ∧ jStx (jSS gl K nf B WB Gc Gm) gl Fc Gc Fm Gm F3 G3 F4 G4)) ?_) ?_
  · rintro _ F3 G3 r F4 G4 cc ⟨mm, cm⟩
    rcases cc with ⟨cd, c60, k1, k2, k3, k4, k5, k6, k7⟩ | ⟨cd, k1, k2, k3, k4⟩
    · rcases mm with ⟨-, n2, -⟩ | ⟨n1, -, mc⟩
      · omega
      · left
        obtain ⟨g75, cu⟩ := cm n1
        obtain ⟨z1, z2, z3, z4, z5, z6, z7, z9, z10, z11, z12⟩ := mc
        rw [q85] at z10 z11 z12
        refine ⟨n1, cu, c60, ⟨KX.tr kc k1 rfl rfl, KX.tr km z1 rfl rfl⟩, ?_, ik.kx k1 z1 rfl rfl, ?_, ?_, g75.trans q75, ?_, ?_⟩
        · refine jRg.ent (n := 0) (H := H) (f := y) (w := 0) (W := 2000) (y := 0) (t := 0) (cb := jsC gl) (C := 0) (st := Gc 55) (op := Gm 71) (ce := Gm 90) (wd := Gc 54) (v := E1 57) (u := E1 58) (s0 := []) ⟨hy, fw⟩ fw tK k5 hp ?_ ?_ w0.symm rfl h0 hg.2 ⟨rfl, rfl, rfl⟩ ?_ ?_ ?_ z6 ?_ ?_ k3 ?_ ?_ ?_ ?_ ?_ z9 k7 ?_ (by omega)
          · intro i c w x hi q
            have ei : i = 0 := by omega
            rw [ei] at q
            exact jH0 h0 hg.2 c w x q
          · rw [Ky]; exact trivial
          · rw [z10]; exact upd_s
          · rw [z12]; exact upd_s
          · rw [z5, q85]; rfl
          · rw [z7]; exact nI_ad (by omega)
          · rw [z4, q83, f28]
            have : (0 : Int32) + nI (4 + jsW le') = nI (0 + (4 + jsW le')) := nI_ad (a := 0) (by omega)
            rw [this]
            exact congrArg nI (by omega)
          · rw [k4, t79, f28, nI_ad (by omega)]
            exact congrArg nI (by omega)
          · rw [z3]; exact f30
          · rw [k2]; exact f80
          · exact z2
          · exact k6.1
          · have : (E2 84).toInt ≤ 2000 := by rw [km.1 84 rfl]; exact h84
            omega
        · rw [k1.1 61 rfl]; exact e61
        · rw [k1.1 63 rfl]; exact e63
        · rw [k1.1 66 rfl]; exact e66
        · rw [k1.1 65 rfl]; exact e65
    · rcases mm with ⟨n1, -, n3, n4, n5⟩ | ⟨-, n2, -⟩
      · right
        refine ⟨n1, n4, ⟨KX.tr kc k1 rfl rfl, KX.tr km n3 rfl rfl⟩, k2, ik.kx k1 n3 rfl rfl, k3.trans n4.symm, ?_, ?_, ⟨fun _ => ?_, fun z => absurd (.inr n4) z, fun z => ?_, fun _ => ?_⟩, fun z => ?_⟩
        · rw [k1.1 59 rfl, e59, n3.1 83 rfl, q83]; rfl
        · refine ⟨H, ?_, h0⟩
          rw [k1.2 54 rfl, n3.2 90 rfl]; exact hp
        · rw [k4, n5]; exact t77
        · rw [n4] at z; exact absurd z (by decide)
        · rw [k1.1 65 rfl]; exact e65
        · rw [n4] at z; exact absurd z (by decide)
      · omega
  · rintro r1 F3 G3 r F4 G4 (⟨rr, ⟨φ, cu⟩, c60, I⟩ | ⟨rr, h6, st⟩)
    · dsimp only
      unfold cb_X6_goOn_43 mb_run_68
      rw [rr, if_neg (by decide)]
      unfold mb_run_71 mb_run_76
      have le := cu.le2 hP
      refine JP.mono (JP.wL (jq_loop hfu X fu fu φ 0 F3 G3 F4 G4 I cu (by omega) (by omega)) (cq_60 fu 0 F3 G3)) ?_
      rintro _ F5 G5 r6 F6 G6 ⟨⟨w1, w2⟩, w3⟩
      exact ⟨w1, w2, fun _ => w3.trans c60⟩
    · dsimp only
      unfold cb_X6_goOn_43 mb_run_68
      rw [rr, if_pos rfl]
      unfold mb_run_75 mb_run_76
      refine JP.mono (JP.wR (jq_fin st (by omega) (by omega) fu fu) (q6 fu fu F4 G4 h6)) ?_
      rintro _ F5 G5 r6 F6 G6 ⟨⟨w1, w2⟩, w3⟩
      refine ⟨w1, w2, fun z => ?_⟩
      rw [w3] at z
      exact absurd z (by decide)
end JQM
