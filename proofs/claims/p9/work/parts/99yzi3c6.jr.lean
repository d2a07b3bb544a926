section JR6
variable {fu : Nat} {Fc Fm : PF} {Gc Gm : PG}
/-- read, in both -/
theorem same_read (hfu : 8589934592 ≤ fu) (ci : CI Fc Gc) (rb : RB Fm Gm) (tp : jTp Fc Gc Fm Gm) : JP (cf_X11_read fu Fc Gc) (mf_read fu Fm Gm) (fun _ F1 G1 _ F2 G2 => jRd F1 G1 F2 G2) := by
  have z0 : (0 : Int32).toInt = 0 := rfl
  have no : ∀ (a b : PR), PP a (fun _ F' _ => F' 73 = 0) → PP b (fun _ F' _ => F' 73 = 0) → JP a b (fun _ F1 G1 _ F2 G2 => jRd F1 G1 F2 G2) := fun a b h1 h2 => JP.pp h1 h2 (fun _ _ _ _ _ _ w1 w2 => .inl ⟨w1, w2⟩)
  obtain ⟨⟨rb1, rb2⟩, rb3, rb4, -⟩ := rb
  unfold cf_X11_read cb_X11_read_0 mf_read mb_read_0 mb_read_8
  refine JP.L (PP.and (cw_X6_forget Fc Gc) (cs_X6_forget hfu Fc Gc ci).to) ?_
  rintro _ Fa Ga ⟨ka, cia, -⟩
  dsimp only
  unfold cb_X11_read_7
  refine JP.L (PP.and (cw_X7_forgetInput Fa Ga) (cs_X7_forgetInput hfu Fa Ga cia).to) ?_
  rintro _ Fb Gb ⟨kb, cib, -⟩
  dsimp only
  unfold cb_X11_read_14
  refine JP.L (PP.and (cw_X7_forgetOutput Fb Gb) (cs_X7_forgetOutput hfu Fb Gb cib).to) ?_
  rintro _ F3 G3 ⟨k3, ci3, -⟩
  dsimp only
  unfold cb_X11_read_21
  have f88 : F3 88 = Fm 2 := by rw [k3.1 88 rfl, kb.1 88 rfl, ka.1 88 rfl]; exact tp.1
  have g87 : G3 87 = Gc 87 := by rw [k3.2 87 rfl, kb.2 87 rfl, ka.2 87 rfl]
  have kM : KX [3] [] Fm Gm (fup Fm 3 (Fm 2)) Gm := KX.f rfl KX.rf
  have vM : fup Fm 3 (Fm 2) 3 = Fm 2 := fup_s
  generalize fup Fm 3 (Fm 2) = Fo at kM vM ⊢
  refine mh_copy (F := Fo) (G := Gm) (by rw [vM]; exact rb2) (fun G' kg hg hor => ?_) fu 0 Gm KX.rf (by decide) (fun i hi => by omega) (fun i => .inr rfl)
  rw [vM] at hg
  unfold mb_read_36 mb_read_41 mb_read_46 mb_read_51 mb_read_56 mb_read_61 mb_read_66 mb_read_71
  have e3 : (fup (fup (fup (fup (fup (fup (fup (fup Fo 2 0) 73 0) 75 0) 80 0) 79 0) 44 0) 47 0) 54 0) 3 = Fo 3 := rfl
  have e73 : (fup (fup (fup (fup (fup (fup (fup (fup Fo 2 0) 73 0) 75 0) 80 0) 79 0) 44 0) 47 0) 54 0) 73 = 0 := rfl
  have e44 : (fup (fup (fup (fup (fup (fup (fup (fup Fo 2 0) 73 0) 75 0) 80 0) 79 0) 44 0) 47 0) 54 0) 44 = 0 := rfl
  have e47 : (fup (fup (fup (fup (fup (fup (fup (fup Fo 2 0) 73 0) 75 0) 80 0) 79 0) 44 0) 47 0) 54 0) 47 = 0 := rfl
  have e54 : (fup (fup (fup (fup (fup (fup (fup (fup Fo 2 0) 73 0) 75 0) 80 0) 79 0) 44 0) 47 0) 54 0) 54 = 0 := rfl
  generalize fup (fup (fup (fup (fup (fup (fup (fup Fo 2 0) 73 0) 75 0) 80 0) 79 0) 44 0) 47 0) 54 0 = Fx at e3 e73 e44 e47 e54 ⊢
  unfold mb_read_76
  obtain ⟨n, en⟩ : ∃ n : Nat, (Fm 2).toInt = n := ⟨(Fm 2).toInt.toNat, by omega⟩
  have n4 : n ≤ 4000 := by omega
  have hB0 : BT (fun i => if i < n then Gm 0 i else 0) n F3 G3 Fx G' := by
    refine ⟨n4, by rw [f88]; exact en, by rw [e3, vM]; exact en, fun i hi => ?_, fun i hi => if_neg (by omega)⟩
    show G3 87 i &&& 255 = (if i < n then Gm 0 i else 0) ∧ G' 1 i = (if i < n then Gm 0 i else 0) ∧ 0 ≤ ((if i < n then Gm 0 i else 0 : Int32)).toInt ∧ ((if i < n then Gm 0 i else 0 : Int32)).toInt ≤ 255
    rw [if_pos hi, g87]
    exact ⟨tp.2 i (by omega), hg i (by omega), (rb3 i).1, (rb3 i).2⟩
  generalize (fun i => if i < n then Gm 0 i else 0) = b at hB0
  have tx1 : ∀ j : Nat, 0 ≤ (G' 1 j).toInt ∧ (G' 1 j).toInt ≤ 255 := by
    intro j
    rcases hor j with y | y
    · rw [y]
      exact rb3 j
    · rw [y]
      exact rb4 j
  refine JP.both (JP.wR (JP.wL (fun r1 F1 G1 r2 F2 G2 h1 h2 => same_scan hB0 h1 h2) (cs_X10_scan hfu F3 G3 ci3).to) (mz_cut hfu Fx G' ⟨by rw [e3, vM]; exact rb1, by rw [e3, vM]; exact rb2, tx1⟩).to) ?_
  rintro _ F4 G4 _ F5 G5 ⟨⟨⟨N, K, ps, ls, hB, S, hN, hC, hM, -, tx⟩, ci4, -⟩, kcut, TB⟩
  have K8 := hN.few n4
  have d44 : F5 44 = 0 := (kcut.1 44 rfl).trans e44
  have d47 : F5 47 = 0 := (kcut.1 47 rfl).trans e47
  have d54 : F5 54 = 0 := (kcut.1 54 rfl).trans e54
  have d73 : F5 73 = 0 := (kcut.1 73 rfl).trans e73
  dsimp only
  unfold cb_X11_read_28 mb_read_80 mb_read_85
  refine JP.L (cp_mainId hB hN hC) ?_
  rintro c27 _ _ ⟨rfl, rfl, mi⟩
  dsimp only
  unfold cb_X11_read_39
  refine JP.L (cp_clear4 c27 F4 G4) ?_
  rintro _ Fk Gk ⟨kk, ⟨i6, i27, i41, i43, i46, i47⟩, ⟨i74, i75, i76, i85⟩, g40, g86⟩
  dsimp only
  unfold cb_X11_read_42
  have k46 : KX [46] [] F5 G5 (fup F5 46 0) G5 := KX.f rfl KX.rf
  have m46 : fup F5 46 0 46 = 0 := fup_s
  generalize fup F5 46 0 = Fd at k46 m46 ⊢
  have S' : TKE N K n Fk Gk Fd G5 := S.keep (kk.1 93 rfl) (kk.2 90 rfl) (kk.2 91 rfl) (kk.2 92 rfl) (k46.1 7 rfl) (k46.1 8 rfl) rfl rfl rfl
  have TB' : TBL Fd G5 := TB.kx k46 rfl rfl rfl rfl rfl
  have xb : jXB Fk := by
    obtain ⟨-, ⟨-, i, hi, ei⟩, -⟩ := ci4
    have ex : xn Fk = xn F4 := by
      show (Fk 300).toNatClampNeg = (F4 300).toNatClampNeg
      rw [kk.1 300 rfl]
    have p2 : 1 ≤ 2 ^ i ∧ 2 ^ i ≤ 512 := by
      rcases (show i = 0 ∨ i = 1 ∨ i = 2 ∨ i = 3 ∨ i = 4 ∨ i = 5 ∨ i = 6 ∨ i = 7 ∨ i = 8 ∨ i = 9 by omega) with z | z | z | z | z | z | z | z | z | z <;> rw [z] <;> decide
    unfold jXB
    rw [ex, ei]
    omega
  have m44 : Fd 44 = 0 := (k46.1 44 rfl).trans d44
  have m54 : Fd 54 = 0 := (k46.1 54 rfl).trans d54
  have p0t : 0 ≤ (G5 6 0).toInt := by
    rcases Nat.lt_or_ge 0 N with y | y
    · exact (S.2.2.2.1 0 y).2.2.1
    · have e : N = 0 := by omega
      have := S.2.2.2.2.2.1
      rw [e] at this
      omega
  refine JP.both (JP.wR (JP.wL (jt_pass0 (c27 := c27) hfu S' p0t (by omega) i6 i41 i43 i46 i47 i74 i76 i85 (fun k hk => g40 k (by omega)) xb i27 TB' m44 ((k46.1 47 rfl).trans d47) m54 m46) (PP.and (cp_walk0 Fk Gk) (PP.and (cp_off Fk Gk i6 i75) (kz_walk0 Fk Gk g86)))) (PP.and (PP.and (wz_texts0 hfu Fd G5 TB' m44 m54 m46).to (mw_texts Fd G5)) (PP.and (nk_texts Fd G5) (mr_texts (K := G5 4) (V := G5 5) Fd G5 rfl rfl m44)))) ?_
  rintro r3 F6 G6 r4 F7 G7 ⟨⟨hq, e14, ⟨e6, e75⟩, z86⟩, ⟨lq, km⟩, mn, tq⟩
  dsimp only
  have p47 : 0 ≤ (F7 47).toInt := mn (by rw [k46.1 47 rfl, d47]; decide)
  have h73 : F7 73 = 0 := (km.1 73 rfl).trans ((k46.1 73 rfl).trans d73)
  -- the class, once something is noted
  have c50 : ∀ (r : Int32) (F : PF) (G : PG), (F 43).toInt ≤ 4000 → PP (cb_X11_read_50 fu r F G) (fun _ F' _ => F' 73 = 0) := by
    intro r F G h
    unfold cb_X11_read_50
    refine PP.ite (fun _ => ?_) (fun c => PP.mono (cp_64 r F G) (fun _ F' _ w => w.2.2 c))
    unfold cb_X11_read_55
    have cf : PP (cf_X4_walk fu 1 F G) (fun _ F' _ => (F' 43).toInt ≤ 4000) := by
      unfold cf_X4_walk cb_X4_walk_0
      refine PP.bind (cw_X4_start 1 F G) (fun r1 F1 G1 k => ?_)
      exact PP.mono (kw_7 fu F1 1 0 F1 G1 CFS.rf) (fun _ F' _ w => w.2 (by rw [k.1 43 rfl]; exact h))
    refine PP.bind (PP.and cf (cp_walk1 F G)) (fun r1 F1 G1 w => ?_)
    exact PP.mono (cp_64 r1 F1 G1) (fun _ F' _ v => v.2.2 (w.2.1 w.1))
  rcases hq with hE | ⟨hr1, hr2, X, m, q, t, f, φ, inv⟩
  · rcases hE with ⟨h43, h47⟩ | ⟨q1, q2, q3⟩
    · refine no _ _ (c50 r3 F6 G6 h43) ?_
      unfold mb_read_89
      refine PP.ite (fun _ => PP.ret h73) (fun _ => ?_)
      unfold mb_read_105 mb_read_110
      have kj : KX [46] [] F7 G7 (fup F7 46 1) G7 := KX.f rfl KX.rf
      generalize fup F7 46 1 = Fj at kj ⊢
      refine PP.bind (PP.and (PP.and (mw_texts Fj G7) (nq_texts Fj G7)) (nk_texts Fj G7)) (fun r5 F8 G8 w => ?_)
      obtain ⟨⟨w1, w2⟩, w3⟩ := w
      show PP (mb_read_114 fu r5 F8 G8) _
      unfold mb_read_114 mb_read_120
      have kl : KX [74] [] F8 G8 (fup F8 74 (-1)) G8 := KX.f rfl KX.rf
      generalize fup F8 74 (-1) = Fl at kl ⊢
      refine mp_mainN fu _ Fl G8 ?_ ?_ ?_
      · rw [kl.1 47 rfl]
        exact fun y => h47 ((kj.1 47 rfl).symm.trans (w2.2.1 y))
      · rw [kl.1 47 rfl]
        exact w3 (by rw [kj.1 47 rfl]; exact p47)
      · rw [kl.1 73 rfl, w1.1 73 rfl, kj.1 73 rfl]; exact h73
    · refine no _ _ ?_ ?_
      · unfold cb_X11_read_50
        rw [if_neg (by rw [e14]; exact q1)]
        exact PP.mono (cp_64 r3 F6 G6) (fun _ F' _ w => w.2.2 (by rw [e14]; exact q1))
      · have r0 : r4 = 0 := by
          rcases lq with ⟨-, y1, y2, -⟩ | ⟨y, -⟩
          · rcases q3 with z | z
            · exact absurd y1 z
            · exact absurd y2 z
          · exact y
        unfold mb_read_89
        rw [if_pos r0]
        exact PP.ret h73
  · subst hr1 hr2
    have inv' := inv
    obtain ⟨T, L, e27, w0, -⟩ := inv
    obtain ⟨ma, -⟩ := w0 rfl
    have PO := T.2.2.2.2.1
    have S7 := T.1.1.1
    have CN := T.1.2.1.1
    have f4 : f ≤ 449 := (T.2.2.2.2.2.1 rfl).2.2.2.2.1.2.1
    have f24 : (F7 24).toInt = f := (T.2.2.2.2.2.1 rfl).2.2.1.1
    have b8 : F7 8 = -1 := S7.bad (CN.2.2.2.2.2.2.2.2.2.2.2 rfl)
    have b44 : F7 44 = 0 := CN.2.2.2.2.2.2.2.1
    have b46 : F7 46 = 0 := T.1.1.2.2.1.1
    obtain ⟨M, P⟩ := LQ.p1 lq b46
    unfold cb_X11_read_50 mb_read_89
    rw [if_pos rfl, if_neg i10n]
    unfold cb_X11_read_55 mb_read_105 mb_read_110
    have kj : KX [46] [] F7 G7 (fup F7 46 1) G7 := KX.f rfl KX.rf
    have j46 : fup F7 46 1 46 = 1 := fup_s
    generalize fup F7 46 1 = Fj at kj j46 ⊢
    have P' := P.k46 kj
    refine JP.both (JP.wR (JP.wL (jt_pass1 hfu inv' e6 e75 z86 kj j46) (cp_walk1 F6 G6)) (PP.and (PP.and (mw_texts Fj G7) (nk_texts Fj G7)) (PP.and (mt_texts1 hfu P' j46) (mr_texts (K := G7 4) (V := G7 5) Fj G7 rfl rfl ((kj.1 44 rfl).trans b44))))) ?_
    rintro r5 F8 G8 r6 F9 G9 ⟨⟨hq1, v1, v2⟩, ⟨w1, w2⟩, w3, w4⟩
    dsimp only
    have g4 : G7 4 = G5 4 := km.2 4 rfl
    have g5 : G7 5 = G5 5 := km.2 5 rfl
    have g6 : G7 6 = G5 6 := km.2 6 rfl
    have r61 : r6 = 1 := by
      rcases w4 with ⟨y, -⟩ | ⟨-, -, y⟩
      · exact y
      · rcases tq with ⟨-, -, -, tt, z⟩ | ⟨z, -⟩
        · rcases y with y | y
          · rw [g4, g5, z] at y
            exact absurd (Option.some.inj y) (fun w => by cases w)
          · exact absurd ((kj.1 8 rfl).trans b8) y
        · exact absurd z (by decide)
    obtain ⟨x44, x8, x24, x25, x26, x32⟩ := w3 r61
    unfold cb_X11_read_63 mb_read_114 mb_read_120
    have kl : KX [74] [] F9 G9 (fup F9 74 (-1)) G9 := KX.f rfl KX.rf
    have l74 : fup F9 74 (-1) 74 = -1 := fup_s
    generalize fup F9 74 (-1) = Fl at kl l74 ⊢
    have kall : KX (46 :: 74 :: [14, 15, 24, 35, 36, 37, 42, 43, 44, 45, 47, 48, 49, 50, 51, 52, 53, 54, 55, 60, 61, 62, 63, 64, 65, 66, 70, 72]) [16, 17, 18, 19, 20, 21, 22, 23, 25, 26, 27, 28, 29, 30, 31, 32, 33, 34, 38, 39, 40, 41, 56, 57, 58, 59, 67, 68, 69, 71] F5 G5 Fl G9 := KX.tr (KX.tr (KX.tr (KX.tr (KX.tr KX.rf k46 rfl rfl) km rfl rfl) kj rfl rfl) w1 rfl rfl) kl rfl rfl
    have l24 : (Fl 24).toInt = f := by rw [kl.1 24 rfl, x24, kj.1 24 rfl]; exact f24
    have l47 : 0 ≤ (Fl 47).toInt := by
      rw [kl.1 47 rfl]
      exact w2 (by rw [kj.1 47 rfl]; exact p47)
    have hBl : BT b n F4 G4 Fl G9 := hB.keep rfl rfl (kall.1 3 rfl) (kall.2 1 rfl)
    have tok : ∀ y : Nat, y < f → φ y < N ∧ G7 25 y = G5 5 (φ y) ∧ G7 26 y = G5 6 (φ y) ∧ G5 4 (φ y) = 1 := by
      intro y hy
      obtain ⟨⟨a1, a2, -⟩, ⟨a3, a4⟩, -⟩ := PO.1 y hy
      have a5 := a1.2.2.2.1
      rw [g4] at a5
      rw [g5] at a3
      rw [g6] at a4
      exact ⟨a2, a3, a4, a5⟩
    have R := mp_main127 (fu := fu) (c27 := c27) (nf := f) hBl f4 (fun y hy => by
      obtain ⟨a1, -, a3, -⟩ := tok y hy
      rw [x26, a3]
      have := (S.2.2.2.1 (φ y) a1).2.2
      omega) (fun y hy => by
      obtain ⟨a1, a2, a3, a4⟩ := tok y hy
      rw [x25, x26, a2, a3, kall.2 10 rfl]
      exact jMi.fn hN hM tx mi a1 a4 ((S.2.2.2.1 (φ y) a1).2.1 a4) n4) (by rw [kl.1 46 rfl, w1.1 46 rfl, j46]; decide) (by rw [kl.1 73 rfl, w1.1 73 rfl, kj.1 73 rfl]; exact h73) fu (Fl 24 - 1) f Fl (by rw [i_dec (by omega), l24]) (Nat.le_refl _) KX.rf (.inl ⟨l74, fun y y1 y2 => by omega⟩) l47 (fun y => by
      rcases y with y | ⟨y, y1, y2, -⟩
      · exact y
      · omega) (fun y _ => y)
    rw [x25, x32] at R
    have lr := PP.and R (mw_main fu (Fl 24 - 1) Fl G9 Fl G9 KX.rf)
    have c27e : F6 27 = c27 := e27
    rcases hq1 with (⟨h43, h47⟩ | ⟨q1, q2, q3⟩) | ⟨h43, hmain⟩ | ⟨n47, nof, ⟨c76, h43⟩ | ⟨c76, h43, e76, tab⟩⟩
    · refine no _ _ (PP.mono (cp_64 r5 F8 G8) (fun _ F' _ w => w.2.2 (v1 h43))) (PP.mono R (fun _ F' _ w => w.1 (.inl ?_)))
      rw [kl.1 47 rfl]
      exact h47
    · rcases q3 with y | y
      · exact absurd x44 y
      · exact absurd x8 y
    · exact no _ _ (PP.mono (cp_64 r5 F8 G8) (fun _ F' _ w => w.2.2 (v1 h43))) (PP.mono R (fun _ F' _ w => w.1 (.inr (.inr hmain))))
    · refine no _ _ (PP.mono (cp_64 r5 F8 G8) (fun _ F' _ w => w.2.2 (v1 h43))) (PP.mono R (fun _ F' _ w => w.1 (.inr (.inl ?_))))
      rcases ma with ⟨-, y⟩ | ⟨y, y1, y2, -⟩
      · rw [c27e] at y
        exact y
      · rw [c76] at y2
        exact absurd y2.symm (nI_n1 (by omega))
    · have mn' : ∃ y : Nat, y < f ∧ G7 25 y = c27 := by
        rcases ma with ⟨y, -⟩ | ⟨y, y1, y2, y3, -⟩
        · exact absurd y c76
        · exact ⟨y, y1, by rw [y3]; exact c27e⟩
      refine JP.pp (cp_64 r5 F8 G8) lr (fun _ Fp Gp _ Fr Gr u1 u2 => .inr ⟨u1.2.1 (v2 h43), (u2.1.2 ⟨by rw [kl.1 47 rfl]; exact n47, mn', nof⟩).1, f, ?_, ?_⟩)
      rotate_left
      · obtain ⟨y, y1, y2, y3, y4⟩ := (u2.1.2 ⟨by rw [kl.1 47 rfl]; exact n47, mn', nof⟩).2
        refine ⟨y, y1, ?_, y2⟩
        rw [u1.1.1 76 rfl, e76]
        rcases ma with ⟨v, -⟩ | ⟨v, v1, v2, v3, v4⟩
        · exact absurd v c76
        · have ev : v = y := by
            rw [c27e] at v3
            rcases Nat.lt_trichotomy v y with q | q | q
            · exact absurd v3 (y4 v q)
            · exact q
            · exact absurd (by rw [c27e]; exact y3) (v4 y q)
          rw [← ev]
          exact v2
      obtain ⟨b1, b2, b3, b4, gl, K, ⟨d1, d2, d3⟩, d4, d5, d6⟩ := tab
      have kp := u1.1
      have kr := u2.2
      unfold jTab
      rw [kp.1 74 rfl, kp.1 75 rfl, kp.2 77 rfl, kp.2 78 rfl, kp.2 79 rfl, kp.2 82 rfl, kr.1 24 rfl, kr.1 36 rfl, kr.2 26 rfl, kr.2 27 rfl, kr.2 28 rfl, kr.2 33 rfl, kl.1 24 rfl, kl.1 36 rfl, kr.1 37 rfl, kl.1 37 rfl]
      refine ⟨b1, b2, b3, b4, gl, K, ⟨d1, d2, d3⟩, fun g hg => ?_, ?_, by rw [kp.2 86 rfl, kr.2 41 rfl, kr.2 38 rfl, kr.2 39 rfl, kr.2 40 rfl]; exact d6⟩
      rotate_left
      · unfold jFT at d5 ⊢
        rw [kp.1 74 rfl, kp.2 77 rfl, kp.2 78 rfl, kp.2 82 rfl, kp.2 83 rfl, kp.2 84 rfl, kr.2 26 rfl, kr.2 27 rfl, kr.2 31 rfl, kr.2 33 rfl, kr.2 34 rfl]
        exact d5
      have w := (d4 g hg).ext (ml := []) (jCB.of ((kr.1 60 rfl).trans (kl.1 60 rfl)) (kp.1 6 rfl) (kp.2 5 rfl) (fun k _ _ => kr.2 k rfl)) (by rw [kr.2 28 rfl]) (by rw [kr.2 29 rfl]) (by rw [kr.2 30 rfl]) (by rw [kp.2 80 rfl])
      rw [List.append_nil] at w
      exact w
end JR6
