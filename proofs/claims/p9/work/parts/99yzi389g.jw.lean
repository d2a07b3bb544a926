/-- how the statement of a loop may end: x is where its continues go, in the reference, -1 if it is not known yet -/
def jOb (X : JCX) (p : Int32) (N K n q nf i : Nat) (x : Int32) (Fc : PF) (Gc : PG) (Fm : PF) (Gm : PG) (r2 : Int32) (F1 : PF) (G1 : PG) (F2 : PF) (G2 : PG) : Prop :=
  (r2 = 1 ∧ ∃ (Y : JCX) (t1 j : Nat) (LB LC : List JHO) (Fd : PF) (Gd : PG), jV Y p N K n q nf t1 j F1 G1 Fd Gd ∧ jW X Y p N i j 0 1 [] [] (LB ++ LC) [] Fc Gc Fm Gm F1 G1 Fd Gd ∧ (Fd 15 = Fm 15 ∧ Fd 51 = Fm 51 ∧ i < j) ∧ (p = 1 → jLk LB (wN Fc) (wN F1) (Fd 63) (F1 30) (-1) (-1) ∧ jLk LC (wN Fc) (wN F1) (Fd 64) (F1 31) (-1) (-1)) ∧ (KX [63, 64, 65, 66] [57] Fd Gd F2 G2 ∧ F2 65 = Fd 63 ∧ F2 63 = Fm 63 ∧ F2 64 = Fm 64) ∧ (x = -1 → F2 66 = Fd 64 ∧ G2 = Gd) ∧ (¬ x = -1 → p = 1 → G2 = jPa 57 x (LC.map (fun y => y.1)) Gd) ∧ jLe Y.2.2.1 X.2.2.1) ∨ jEnd F1 F2
def jPbd (fu : Nat) (p : Int32) (N K n q nf : Nat) (dm : Nat) : Prop := ∀ (dc t i : Nat) (x : Int32) (X : JCX) (Fc : PF) (Gc : PG) (Fm : PF) (Gm : PG), jV X p N K n q nf t i Fc Gc Fm Gm → (Fm 15).toInt + 2 ≤ 4 * (i : Int) + 1 → (Fm 51).toInt + 1 ≤ (i : Int) → (Fc 6).toInt + 1 ≤ 2 * (Gm 6 i).toInt + 100 → JP (cS2 fu dc 5 0 0 Fc Gc) (mS2 fu dm 1 x 0 Fm Gm) (fun _ F1 G1 r2 F2 G2 => jOb X p N K n q nf i x Fc Gc Fm Gm r2 F1 G1 F2 G2)
section JW9G
variable {fu : Nat} {X Y Z : JCX} {p : Int32} {N K n q nf t i j l : Nat} {d d1 κ κ1 : Int} {s s1 : SH} {hs LB LC l0 : List JHO} {ls : List (Nat × Nat × SH)} {Fc Fm F1 F2 F3 F4 F6 F7 F8 Fd : PF} {Gc Gm G1 G2 G3 G4 G6 G7 Gd : PG} {x : Int32}
/-- loops and chains alone -/
theorem jV.lp (V : jV X p N K n q nf t j F1 G1 F2 G2) (kc : KX [29, 30, 31] [] F1 G1 F3 G1) (km : KX [51, 63, 64, 65, 66] [] F2 G2 F4 G2) (e : F3 29 = F4 51) (b : 0 ≤ (F4 51).toInt ∧ (F4 51).toInt ≤ j) : jV X p N K n q nf t j F3 G1 F4 G2 := by
  have z46 := V.x0
  obtain ⟨⟨S, D, R⟩, ⟨⟨a1, a2, a3⟩, ⟨b1, b2, b3⟩, ⟨c1, c2, c3⟩, d1, d2⟩⟩ := V
  refine ⟨⟨S.keepV (KX.tr KX.rf kc rfl rfl) (KX.tr KX.rf km rfl rfl) (kc.1 46 rfl) (km.1 54 rfl), D.mv (KX.tr KX.rf kc rfl rfl) (KX.tr KX.rf km rfl rfl), by rw [kc.1 6 rfl]; exact R⟩, ⟨⟨a1, by rw [km.1 54 rfl]; exact a2, a3.kx kc rfl⟩, ⟨e, b.1, b.2⟩, ?_, ?_, ?_⟩⟩
  · rw [kc.1 42 rfl, km.1 15 rfl]
    exact ⟨c1, c2, c3⟩
  · rw [kc.1 41 rfl]
    exact d1
  · rw [km.1 50 rfl, kc.1 48 rfl, km.1 53 rfl, kc.1 50 rfl, km.1 52 rfl, kc.1 49 rfl]
    exact d2
/-- the reference aims the jumps of a chain -/
theorem mp_setJ2 {v : Int32} {F : PF} : ∀ (L : List JHO) (lo hi n : Nat) (hm hc bc : Int32) (G : PG), jLk L lo hi hm hc (-1) bc → (∀ y ∈ L, y.1 < 2147483648 ∧ G 57 y.1 = y.2.2.2.2.1) → (L.map (fun y => y.1)).Nodup → PP (ml_settle_2 fu n v hm F G) (fun _ F1 G1 => F = F1 ∧ G1 = jPa 57 v (L.map (fun y => y.1)) G) := by
  intro L
  induction L with
  | nil =>
    intro lo hi n hm hc bc G h _ _
    cases n with
    | zero => exact PP.no
    | succ n =>
      show PP (mb_settle_2 fu (ml_settle_2 fu n) v hm F G) _
      unfold mb_settle_2 mb_settle_28
      rw [if_pos (show hm = -1 from h.1)]
      exact PP.ret ⟨rfl, rfl⟩
  | cons y L ih =>
    intro lo hi n hm hc bc G h hv hn
    obtain ⟨h1, h2, -, -, h6⟩ := h
    obtain ⟨v1, v2⟩ := hv y (List.mem_cons_self ..)
    rw [List.map_cons] at hn
    obtain ⟨n1, n2⟩ := List.nodup_cons.mp hn
    cases n with
    | zero => exact PP.no
    | succ n =>
      show PP (mb_settle_2 fu (ml_settle_2 fu n) v hm F G) _
      unfold mb_settle_2
      rw [if_neg (show ¬ hm = -1 by rw [h1]; exact nI_n1 v1)]
      unfold mb_settle_7 mb_settle_22
      refine PP.ix (fun _ => PP.ix (fun _ => ?_))
      rw [h1, nI_c _ v1, v2]
      refine ih _ _ n _ _ bc (gup G 57 y.1 v) h6 (fun z hz => ?_) n2
      obtain ⟨w1, w2⟩ := hv z (List.mem_cons_of_mem _ hz)
      refine ⟨w1, ?_⟩
      rw [gup_x (fun e => n1 (List.mem_map.mpr ⟨z, hz, e⟩))]
      exact w2
theorem mp_setJ {v hm hc bc : Int32} {F : PF} {G : PG} {L : List JHO} {lo hi : Nat} (h : jLk L lo hi hm hc (-1) bc) (hv : ∀ y ∈ L, y.1 < 2147483648 ∧ G 57 y.1 = y.2.2.2.2.1) (hn : (L.map (fun y => y.1)).Nodup) : PP (mf_settle fu hm v F G) (fun _ F1 G1 => F = F1 ∧ G1 = jPa 57 v (L.map (fun y => y.1)) G) := by
  unfold mf_settle mb_settle_0
  exact mp_setJ2 L lo hi fu hm hc bc G h hv hn
theorem sN_lt (F : PF) : sN F < 2147483648 := by
  show (F 60).toInt.toNat < _
  have := i_rng (F 60)
  omega
/-- the statement of a loop -/
theorem jb_body {dm dc : Nat} (ih : jPst fu p N K n q nf 4 5 2 dm) (V : jV X p N K n q nf t i Fc Gc Fm Gm) (h15 : (Fm 15).toInt + 2 ≤ 4 * (i : Int) + 1) (h51 : (Fm 51).toInt + 1 ≤ (i : Int)) (sl : (Fc 6).toInt + 1 ≤ 2 * (Gm 6 i).toInt + 100) : JP (ch_X4_loopBody fu (cS2 fu dc) Fc Gc) (mh_body fu (mS2 fu dm) x Fm Gm) (fun _ F1 G1 r2 F2 G2 => jOb X p N K n q nf i x Fc Gc Fm Gm r2 F1 G1 F2 G2) := by
  have hX := V.2.1.1
  have hp := V.1.1.2.1
  have i4 : (i : Int) ≤ 4000 := by
    have := V.1.2.1.1.1
    have := V.1.1.1.1
    omega
  obtain ⟨n1, n2, n3⟩ := V.2.2.1
  have ea : (Fm 51 + 1).toInt = (Fm 51).toInt + 1 := i_addn _ rfl (by omega) (by omega)
  unfold ch_X4_loopBody cb_X4_loopBody_0 cb_X4_loopBody_5 cb_X4_loopBody_10 mh_body mb_body_0 mb_body_15 mb_body_20
  have kc : KX [29, 30, 31] [] Fc Gc (fup (fup (fup Fc 30 (-1)) 31 (-1)) 29 (fup (fup Fc 30 (-1)) 31 (-1) 29 + 1)) Gc := KX.f rfl (KX.f rfl (KX.f rfl KX.rf))
  have f30 : fup (fup (fup Fc 30 (-1)) 31 (-1)) 29 (fup (fup Fc 30 (-1)) 31 (-1) 29 + 1) 30 = -1 := by rw [fup_n (by decide), fup_n (by decide), fup_s]
  have f31 : fup (fup (fup Fc 30 (-1)) 31 (-1)) 29 (fup (fup Fc 30 (-1)) 31 (-1) 29 + 1) 31 = -1 := by rw [fup_n (by decide), fup_s]
  have f29 : fup (fup (fup Fc 30 (-1)) 31 (-1)) 29 (fup (fup Fc 30 (-1)) 31 (-1) 29 + 1) 29 = Fc 29 + 1 := by rw [fup_s, fup_n (by decide), fup_n (by decide)]
  generalize fup (fup (fup Fc 30 (-1)) 31 (-1)) 29 (fup (fup Fc 30 (-1)) 31 (-1) 29 + 1) = F1 at kc f30 f31 f29 ⊢
  have km : KX [51, 63, 64, 65, 66] [] Fm Gm (fup (fup (fup Fm 63 (-1)) 64 (-1)) 51 (fup (fup Fm 63 (-1)) 64 (-1) 51 + 1)) Gm := KX.f rfl (KX.f rfl (KX.f rfl KX.rf))
  have f63 : fup (fup (fup Fm 63 (-1)) 64 (-1)) 51 (fup (fup Fm 63 (-1)) 64 (-1) 51 + 1) 63 = -1 := by rw [fup_n (by decide), fup_n (by decide), fup_s]
  have f64 : fup (fup (fup Fm 63 (-1)) 64 (-1)) 51 (fup (fup Fm 63 (-1)) 64 (-1) 51 + 1) 64 = -1 := by rw [fup_n (by decide), fup_s]
  have f51 : fup (fup (fup Fm 63 (-1)) 64 (-1)) 51 (fup (fup Fm 63 (-1)) 64 (-1) 51 + 1) 51 = Fm 51 + 1 := by rw [fup_s, fup_n (by decide), fup_n (by decide)]
  generalize fup (fup (fup Fm 63 (-1)) 64 (-1)) 51 (fup (fup Fm 63 (-1)) 64 (-1) 51 + 1) = F2 at km f63 f64 f51 ⊢
  have V1 : jV X p N K n q nf t i F1 Gc F2 Gm := V.lp kc km (by rw [f29, f51, n1]) (by rw [f51]; omega)
  have W0 : jW X X p N i i 0 0 [] [] [] [] Fc Gc Fm Gm F1 Gc F2 Gm := jW.rf.st (KX.tr KX.rf kc rfl rfl) (KX.tr KX.rf km rfl rfl) (kc.1 10 rfl) (kc.1 6 rfl) rfl (km.1 60 rfl) (fun _ _ _ => rfl) (fun _ => jPe.of kc km rfl rfl)
  unfold cb_X4_loopBody_20 mb_body_30
  refine JP.L (cp_wadd 89 Gc (jAl.room (m := 1) (κ := 0) V1.1.1 (jAl.rf (X := X) (p := p) (s := []) V1.1.2.1) V1.1.2.2 (by omega))) ?_
  rintro ra F3 G3 c1
  dsimp only
  refine JP.R (mp_em 15 0 0 F2 Gm) ?_
  rintro rb F4 G4 ⟨-, -, m2, -⟩
  dsimp only
  have e1 : jAl X p N i i 0 1 [] [] [] F1 Gc F2 Gm F3 G3 F4 G4 := jAl.trn hX V1.1.h7.1 V1.1.h7.2 V1.1.2.1 c1 m2
  have V2 : jV X p N K n q nf t i F3 G3 F4 G4 := by
    refine V1.mv (KX.tr KX.rf e1.1.1 rfl rfl) (KX.tr KX.rf e1.1.2 rfl rfl) ?_ ?_ (V1.2.1.2.2.kx e1.1.1 rfl) e1.2.1 ?_ (Nat.le_refl _)
    · rw [e1.1.1.1 46 rfl]; exact V1.x0
    · rw [e1.1.2.1 54 rfl]; exact V1.2.1.2.1
    · have y := e1.2.2.2.2.2.2.1
      rw [kc.1 6 rfl] at y
      omega
  unfold cb_X4_loopBody_29 mb_body_38
  refine JP.both (ih dc t i X F3 G3 F4 G4 V2 (by rw [e1.1.2.1 15 rfl, km.1 15 rfl]; exact h15)) ?_
  rintro r5 F5 G5 r6 F6 G6 (⟨rfl, Y, t1, j, LB, LC, V3, W3, ⟨b1, b2, b3⟩, b4, bL, -⟩ | h)
  · dsimp only
    unfold cb_X4_loopBody_33 cb_X4_loopBody_43 mb_body_43
    have g51 : F6 51 = Fm 51 + 1 := by rw [b2, e1.1.2.1 51 rfl, f51]
    have g29 : F5 29 = F6 51 := V3.2.2.1.1
    have ks : KX [51, 63, 64, 65, 66] [] F6 G6 (fup F6 51 (F6 51 - 1)) G6 := KX.f rfl KX.rf
    have s51 : fup F6 51 (F6 51 - 1) 51 = Fm 51 := by rw [fup_s, g51, i_as]
    have k5 : KX [29, 30, 31] [] F5 G5 (fup F5 29 (F5 29 - 1)) G5 := KX.f rfl KX.rf
    have s29 : fup F5 29 (F5 29 - 1) 29 = Fm 51 := by rw [fup_s, g29, g51, i_as]
    have s30 : fup F5 29 (F5 29 - 1) 30 = F5 30 := fup_n (by decide)
    have s31 : fup F5 29 (F5 29 - 1) 31 = F5 31 := fup_n (by decide)
    have s63 : fup F6 51 (F6 51 - 1) 63 = F6 63 := fup_n (by decide)
    have s64 : fup F6 51 (F6 51 - 1) 64 = F6 64 := fup_n (by decide)
    have s6 : fup F5 29 (F5 29 - 1) 6 = F5 6 := fup_n (by decide)
    have s60 : fup F6 51 (F6 51 - 1) 60 = F6 60 := fup_n (by decide)
    have s15 : fup F6 51 (F6 51 - 1) 15 = F6 15 := fup_n (by decide)
    generalize fup F6 51 (F6 51 - 1) = Fd at ks s51 s63 s64 s60 s15 ⊢
    generalize fup F5 29 (F5 29 - 1) = Fz at k5 s29 s30 s31 s6 ⊢
    have V4 : jV Y p N K n q nf t1 j Fz G5 Fd G6 := V3.lp k5 ks (by rw [s29, s51]) (by rw [s51]; omega)
    have W4 : jW X Y p N i j 0 1 [] [] (LB ++ LC) [] Fc Gc Fm Gm Fz G5 Fd G6 := ((((W0.tr (jW.al e1)).tr W3).st (KX.tr KX.rf k5 rfl rfl) (KX.tr KX.rf ks rfl rfl) (k5.1 10 rfl) s6 rfl s60 (fun _ _ _ => rfl) (fun _ => jPe.of k5 ks rfl rfl)).pm (List.Perm.of_eq (by simp))).ca (by omega) (by omega)
    have wz : wN Fz = wN F5 := by show (Fz 6).toNatClampNeg = _; rw [s6]
    have ch : p = 1 → jLk LB (wN Fc) (wN Fz) (Fd 63) (Fz 30) (-1) (-1) ∧ jLk LC (wN Fc) (wN Fz) (Fd 64) (Fz 31) (-1) (-1) := fun z => by
      obtain ⟨y1, y2⟩ := b4 z
      have y3 := ((W0.tr (jW.al e1)).wl z).1
      rw [wz]
      exact ⟨y1.up2 y3 (by rw [e1.1.2.1 63 rfl, f63]) (by rw [e1.1.1.1 30 rfl, f30]) s63.symm s30.symm, y2.up2 y3 (by rw [e1.1.2.1 64 rfl, f64]) (by rw [e1.1.1.1 31 rfl, f31]) s64.symm s31.symm⟩
    have d15 : Fd 15 = Fm 15 := by rw [s15, b1, e1.1.2.1 15 rfl, km.1 15 rfl]
    -- the reference's end
    have fin : ∀ (F7 : PF) (G7 : PG), KX [66] [57] Fd G6 F7 G7 → (x = -1 → F7 66 = Fd 64 ∧ G7 = G6) → (¬ x = -1 → p = 1 → G7 = jPa 57 x (LC.map (fun y => y.1)) G6) → JP (some (0, Fz, G5)) (mb_body_90 fu (mS2 fu dm) (Fm 63) 1 (fup F7 64 (Fm 64)) G7) (fun _ F1 G1 r2 F2 G2 => jOb X p N K n q nf i x Fc Gc Fm Gm r2 F1 G1 F2 G2) := by
      intro F7 G7 k7 u1 u2
      unfold mb_body_90 mb_body_98 mb_body_103
      rw [if_pos (show b01 1 = true from rfl)]
      have z63 : fup F7 64 (Fm 64) 63 = Fd 63 := by rw [fup_n (by decide)]; exact k7.1 63 rfl
      rw [z63]
      refine JP.ret (.inl ⟨rfl, Y, t1, j, LB, LC, Fd, G6, V4, W4, ⟨d15, s51, b3⟩, ch, ⟨KX.f rfl (KX.f rfl (KX.f rfl (KX.tr KX.rf k7 rfl rfl))), ?_, fup_s, ?_⟩, fun z => ⟨?_, (u1 z).2⟩, u2, bL rfl⟩)
      · rw [fup_n (by decide), fup_s]
      · rw [fup_n (by decide), fup_n (by decide), fup_s]
      · rw [fup_n (by decide), fup_n (by decide), fup_n (by decide)]
        exact (u1 z).1
    unfold mb_body_55
    by_cases c : x = -1
    · rw [if_pos c]
      unfold mb_body_77 mb_body_85
      exact fin (fup Fd 66 (Fd 64)) G6 (KX.f rfl KX.rf) (fun _ => ⟨fup_s, rfl⟩) (fun z => absurd c z)
    · rw [if_neg c]
      unfold mb_body_60
      rcases hp with hp0 | hp1
      · refine JP.R (mw_settle (Fd 64) x Fd G6) ?_
        rintro _ F7 G7 k7
        dsimp only
        unfold mb_body_69 mb_body_74
        exact fin F7 G7 (KX.tr KX.rf k7 rfl rfl) (fun z => absurd z c) (fun _ z => absurd (hp0.symm.trans z) (by decide))
      · obtain ⟨nd, hol⟩ := W4.hol hp1
        have nd' : (LC.map (fun y => y.1)).Nodup := by
          unfold jND at nd
          rw [List.map_append, List.nodup_append] at nd
          exact nd.2.1
        refine JP.R (mp_setJ (ch hp1).2 (fun y hy => ?_) nd') ?_
        · obtain ⟨y1, -, y3, -⟩ := hol y (List.mem_append_right _ hy)
          have := sN_lt Fd
          exact ⟨by omega, y3⟩
        · rintro _ F7 G7 ⟨rfl, y⟩
          dsimp only
          unfold mb_body_69 mb_body_74
          refine fin Fd G7 ?_ (fun z => absurd z c) (fun _ _ => y)
          rw [y]
          exact KX.tr KX.rf (jPa_k57 (F := Fd) _ _) rfl rfl
  · dsimp only
    exact JP.fin (kqj_X4_loopBody_33 _ (kqS2 dc) F5 G5 CFS.rf) (nqj_body_43 _ (nqS2 dm) _ _ _ _ F6 G6 MFS.rf) h (fun _ _ _ _ _ _ w => .inr w)
/-- different jumps stand at different places -/
theorem JX.dis {Fc0 Fm0 : PF} {Gc0 Gm0 : PG} {mu0 : Nat → Nat} {A0 : JAN} (h : JX X Fc0 Gc0 Fm0 Gm0 mu0 A0 Fc Gc Fm Gm s hs ls) : ∀ y ∈ hs, ∀ z ∈ hs, y.1 ≠ z.1 → y.2.1 ≠ z.2.1 := by
  obtain ⟨mu, A, lz, e0, ⟨a0, a1, a2, a3, az⟩, a4, ⟨a5, a6⟩, a7, a9, a10, aZ, a11⟩ := h
  intro y hy z hz ne
  obtain ⟨b1, b2, b3, b4, -⟩ := a9 y hy
  obtain ⟨c1, c2, c3, c4, -⟩ := a9 z hz
  rcases Nat.lt_or_gt_of_ne ne with w | w
  · have := a3 (y.1 + 1) z.1 (by omega) (by omega) (by omega)
    omega
  · have := a3 (z.1 + 1) y.1 (by omega) (by omega) (by omega)
    omega
/-- the end of a loop: back to a known place, continues there, what leaves the loop behind it -/
theorem JX.lend {Fc0 Fm0 : PF} {Gc0 Gm0 : PG} {mu0 : Nat → Nat} {A0 : JAN} {tt ww : Nat} (hb : jBg A0 (sN Fm0) X.2.2.1) (lc : ∀ y ∈ LC, tt ≤ y.1) (hX : X.1 = false) (h : JX X Fc0 Gc0 Fm0 Gm0 mu0 A0 F7 G7 Fd Gd [] (LB ++ (LC ++ l0)) ls) (hl : (tt, ww, []) ∈ ls) (kLB : ∀ y ∈ LB, y.2.2.1 = [] ∧ y.2.2.2.1 ≤ 1) (kLC : ∀ y ∈ LC, y.2.2.1 = [] ∧ y.2.2.2.1 ≤ 1) (kl0 : ∀ y ∈ l0, y.2.2.1 = [] ∧ y.2.2.2.1 ≤ 1) (e60 : F8 60 = Fd 60) (h60 : 0 ≤ (Fd 60).toInt) (h6 : 0 ≤ (F7 6).toInt) (z7 : F7 7 = 1) (c : EMC [84, nI ww] F7 G7 F3 G3) (m : EMM 12 (nI tt) 0 F8 (jPa 57 (nI tt) (LC.map (fun y => y.1)) Gd) F6 G6) : JX X Fc0 Gc0 Fm0 Gm0 mu0 A0 F3 (jPa 5 (nI (wN F3)) (LB.map (fun y => y.2.1)) (jPa 5 (nI (wN F3)) (l0.map (fun y => y.2.1)) (jPa 5 (nI ww) (LC.map (fun y => y.2.1)) G3))) F6 (jPa 57 (nI (sN F6)) (LB.map (fun y => y.1)) (jPa 57 (nI (sN F6)) (l0.map (fun y => y.1)) G6)) [] [] ls := by
  have hol := h.hol.2
  have j1 := JX.pts (sT := []) (t := tt) (w := ww) hX LC LB l0 G7 Gd (.inr ⟨hl, lc⟩) h kLC
  have es : sN F8 = sN Fd := by show (F8 60).toNatClampNeg = _; rw [e60]
  have j2 := j1.st (Fm1 := F8) (Gm1 := jPa 57 (nI tt) (LC.map (fun y => y.1)) Gd) (Fc1 := F7) (Gc1 := jPa 5 (nI ww) (LC.map (fun y => y.2.1)) G7) e60 (fun _ _ _ => rfl) rfl rfl
  have w3 : wN F3 = wN F7 + 2 := c.wn z7 h6
  have sl : ∀ y ∈ LC, y.2.1 < wN F7 := fun y hy => (hol y (List.mem_append_right _ (List.mem_append_left _ hy))).2.1.2
  have nin : ∀ k : Nat, wN F7 ≤ k → k ∉ LC.map (fun y => y.2.1) := fun k hk q => by
    obtain ⟨y, y1, y2⟩ := List.mem_map.mp q
    have := sl y y1
    omega
  obtain ⟨c1, c2, c3⟩ := c.2.2 z7
  have j3 := JX.goL (t := tt) (w := ww) (F1 := F3) (G1 := jPa 5 (nI ww) (LC.map (fun y => y.2.1)) G3) (F2 := F6) (G2 := G6) (s1 := []) hX j2 hl (m.sn (by rw [e60]; exact h60)) w3 (fun k hk => m.2.2.1 k (Nat.ne_of_lt hk)) (fun k hk => ?_) m.2.2.2.1 m.2.2.2.2.1 ?_ ?_
  · have j4 := JX.pts (sT := []) (t := sN F6) (w := wN F3) hX l0 LB [] _ _ (.inl ⟨rfl, hb⟩) (by rw [List.append_nil]; exact j3) kl0
    have j5 := JX.pts (sT := []) (t := sN F6) (w := wN F3) hX LB [] [] _ _ (.inl ⟨rfl, hb⟩) j4 kLB
    exact j5
  · by_cases q : k ∈ LC.map (fun y => y.2.1)
    · rw [jPa_i _ _ q, jPa_i _ _ q]
    · rw [jPa_x _ _ q, jPa_x _ _ q]
      exact c2 k hk
  · rw [jPa_x _ _ (nin _ (Nat.le_refl _))]
    exact c3 0 84 rfl
  · rw [jPa_x _ _ (nin _ (Nat.le_succ _))]
    exact c3 1 _ rfl
end JW9G
