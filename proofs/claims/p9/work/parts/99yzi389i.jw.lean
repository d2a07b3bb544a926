section JW9I
variable {fu : Nat} {X Y : JCX} {p : Int32} {N K n q nf t i k : Nat} {d κ : Int} {L l1 l2 : List JHO} {ls : List (Nat × Nat × SH)} {Fc Fm F1 F2 : PF} {Gc Gm G1 G2 : PG}
theorem jo_word (T : TKE N K n Fc Gc Fm Gm) (c : CU N i Fc Gc Fm Gm) {w : Nat} (hw : w < 15) {a b : Int32} (ha : a = nI (4 + w)) (hb : b = nI w) : JP (cf_X2_expect fu a Fc Gc) (mf_word fu b 1 Fm Gm) (fun _ F1 G1 r2 F2 G2 => (r2 = 1 ∧ jOn N (i + 1) 0 Fc Gc Fm Gm F1 G1 F2 G2 ∧ i < N) ∨ DEAD F1 F2) := by
  intro r1 F1 G1 r2 F2 G2 e1 e2
  have sg := c.wd T hw ha hb
  have m := mp_word b 1 Fm Gm c.2.2.2.2.2.2.2.1 r2 F2 G2 e2
  unfold cf_X2_expect cb_X2_expect_0 cb_X2_expect_8 cb_X2_expect_18 cb_X2_expect_21 cb_X2_expect_26 at e1
  by_cases q : Fc 11 = a
  · rw [if_pos q] at e1
    obtain ⟨⟨r, F', G'⟩, e3, e4⟩ := bind_elim e1
    dsimp only at e4
    obtain ⟨-, rfl, rfl⟩ := ret_el e4
    rcases m with ⟨m1, rfl, rfl, m4⟩ | ⟨m1, m2, m3⟩
    · obtain ⟨k1, k2, k3⟩ := CU.move T c (c.ltW T m4) KX.rf e3 (F2 := fup Fm 42 (Fm 42 + 1)) fup_s ((fup_n (by decide)).trans c.2.2.2.1.symm) (KX.f rfl KX.rf) c.2.2.2.2.1 c.2.2.2.2.2.1
      rcases k3 with k3 | k3
      · exact .inl ⟨m1, ⟨k1, ⟨rfl, KX.f rfl KX.rf⟩, k3, by rw [k2]; omega⟩, c.ltW T m4⟩
      · exact .inr k3
    · exfalso
      rw [sg.mp q] at m2
      cases m2
  · rw [if_neg q] at e1
    obtain ⟨⟨r, F', G'⟩, e3, e4⟩ := bind_elim e1
    dsimp only at e4
    obtain ⟨-, rfl, rfl⟩ := ret_el e4
    rcases m with ⟨m1, rfl, rfl, m4⟩ | ⟨m1, m2, m3⟩
    · exact absurd (sg.mpr m4) q
    · rcases m3 with ⟨m3, -⟩ | ⟨-, m3⟩
      · exact absurd m3 (by decide)
      · exact .inr (c.fl T (by decide) (by decide) KX.rf e3 m3)
/-- the class alone goes on; the reference will -/
theorem jo_expL (T : TKE N K n Fc Gc Fm Gm) (c : CU N i Fc Gc Fm Gm) {a : Int32} (hi : Fc 11 = a → i < N) : PP (cf_X2_expect fu a Fc Gc) (fun _ F1 G1 => (Fc 11 = a ∧ (jOn N (i + 1) 0 Fc Gc Fm Gm F1 G1 (fup Fm 42 (Fm 42 + 1)) Gm ∨ DEAD F1 (fup Fm 42 (Fm 42 + 1)))) ∨ (¬ Fc 11 = a ∧ ¬ F1 14 = 0 ∧ F1 11 = -2)) := by
  intro r1 F1 G1 e1
  unfold cf_X2_expect cb_X2_expect_0 cb_X2_expect_8 cb_X2_expect_18 cb_X2_expect_21 cb_X2_expect_26 at e1
  by_cases q : Fc 11 = a
  · rw [if_pos q] at e1
    obtain ⟨⟨r, F', G'⟩, e3, e4⟩ := bind_elim e1
    dsimp only at e4
    obtain ⟨-, rfl, rfl⟩ := ret_el e4
    obtain ⟨k1, k2, k3⟩ := CU.move T c (hi q) KX.rf e3 (F2 := fup Fm 42 (Fm 42 + 1)) fup_s ((fup_n (by decide)).trans c.2.2.2.1.symm) (KX.f rfl KX.rf) c.2.2.2.2.1 c.2.2.2.2.2.1
    rcases k3 with k3 | k3
    · exact .inl ⟨q, .inl ⟨k1, ⟨rfl, KX.f rfl KX.rf⟩, k3, by rw [k2]; omega⟩⟩
    · exact .inl ⟨q, .inr k3⟩
  · rw [if_neg q] at e1
    obtain ⟨⟨r, F', G'⟩, e3, e4⟩ := bind_elim e1
    dsimp only at e4
    obtain ⟨-, rfl, rfl⟩ := ret_el e4
    have pl := c.place T
    obtain ⟨-, -, q1, q2⟩ := cp_fail (by decide) (by decide) pl.1 (by omega) r F' G' e3
    exact .inr ⟨q, q1, q2⟩
theorem EMM.c42 {w a b v : Int32} (m : EMM w a b Fm Gm F2 G2) : EMM w a b (fup Fm 42 v) Gm (fup F2 42 v) G2 := by
  obtain ⟨⟨a1, a2⟩, a3, a4, a5⟩ := m
  have es : sN (fup Fm 42 v) = sN Fm := by show (fup Fm 42 v 60).toInt.toNat = (Fm 60).toInt.toNat; rw [fup_n (by decide)]
  refine ⟨⟨fun z hz => ?_, a2⟩, ?_, ?_, ?_⟩
  · by_cases e : z = 42
    · rw [e, fup_s, fup_s]
    · rw [fup_n e, fup_n e]
      exact a1 z hz
  · rw [fup_n (by decide), fup_n (by decide)]
    exact a3
  · rw [es]
    exact a4
  · rw [es]
    exact a5
/-- a whole chain is aimed here, by both -/
theorem jw_aimL {kc km : PF → PG → PR} {Q : Int32 → PF → PG → Int32 → PF → PG → Prop} {hm hc : Int32} {lo hi : Nat} {Fa : PF} (le : jLe Y.2.2.1 X.2.2.1) (V0 : jV X p N K n q nf t i Fc Gc Fm Gm) (hY : Y.1 = false) (hp : p = 0 ∨ p = 1) (D : jD N k F1 G1 F2 G2) (W : jW X Y p N i k d κ [] [] (l1 ++ (L ++ l2)) ls Fc Gc Fm Gm F1 G1 F2 G2) (hκ : κ ≤ 290) (ch : p = 1 → jLk L lo hi hm hc (-1) (-1) ∧ hi ≤ wN F1) (e60 : Fa 60 = F2 60)
    (H : ∀ (G3 G4 : PG), KX [] [5] F1 G1 F1 G3 → KX [] [57] F2 G2 F2 G4 → jW X Y p N i k d κ [] [] (l1 ++ l2) ls Fc Gc Fm Gm F1 G3 F2 G4 → JP (kc F1 G3) (km Fa G4) Q) : JP ((cf_X1_aim fu hc (F1 6) F1 G1).bind (fun q => kc q.2.1 q.2.2)) ((mf_settle fu hm (Fa 60) Fa G2).bind (fun q => km q.2.1 q.2.2)) Q := by
  have cap := W.cap V0 D hκ
  rcases hp with hp0 | hp1
  · have no : p = 1 → False := fun z => by rw [hp0] at z; exact absurd z (by decide)
    refine JP.L (cw_X1_aim _ _ F1 G1) ?_
    rintro _ Fx Gx kx
    dsimp only
    refine JP.R (mw_settle hm (Fa 60) Fa G2) ?_
    rintro _ Fy Gy ky
    dsimp only
    have ex : Fx = F1 := funext (fun m => kx.1 m rfl)
    have ey : Fy = Fa := funext (fun m => ky.1 m rfl)
    subst ex ey
    obtain ⟨a0, ⟨a1, a2⟩, a4, a5, a6, a7, a8⟩ := W
    have ky' : KX [] [57] F2 G2 F2 Gy := ⟨fun _ _ => rfl, ky.2⟩
    exact H Gx Gy kx ky' ⟨a0, ⟨KX.tr a1 kx rfl rfl, KX.tr a2 ky' rfl rfl⟩, a4, a5, a6, fun z => KX.tr (a7 z) kx rfl rfl, fun z => (no z).elim, fun z => (no z).elim⟩
  · obtain ⟨c1, c2⟩ := ch hp1
    obtain ⟨nd, hol⟩ := W.hol hp1
    have mL : ∀ y ∈ L, y ∈ l1 ++ (L ++ l2) := fun y hy => List.mem_append_right _ (List.mem_append_left _ hy)
    unfold jND at nd
    rw [List.map_append, List.map_append, List.nodup_append, List.nodup_append] at nd
    refine JP.L (cp_aimL (L := L) (lo := lo) (hm := hm) (bm := -1) (jLk.wd L lo lo _ _ _ _ _ _ c1 (Nat.le_refl _) c2) D.2.2.2.1 cap (fun y hy => (hol y (mL y hy)).2.2.2)) ?_
    rintro _ _ Gx ⟨rfl, gx⟩
    dsimp only
    refine JP.R (mp_setJ (L := L) (lo := lo) (hi := hi) (hc := hc) (bc := -1) c1 (fun y hy => ?_) nd.2.1.1) ?_
    · obtain ⟨v1, -, v3, -⟩ := hol y (mL y hy)
      have := sN_lt F2
      exact ⟨by omega, v3⟩
    rintro _ _ Gy ⟨rfl, gy⟩
    dsimp only
    have e6 : F1 6 = nI (wN F1) := (jnI D.2.2.2.1).symm
    have e61 : F2 60 = nI (sN F2) := (jnI D.2.2.2.2.1).symm
    have kx : KX [] [5] F1 G1 F1 Gx := by
      rw [gx]
      exact jPa_k5 _ _
    have ky : KX [] [57] F2 G2 F2 Gy := by
      rw [gy]
      exact jPa_k57 _ _
    obtain ⟨a0, ⟨a1, a2⟩, a4, a5, a6, a7, pe, a8⟩ := W
    refine H Gx Gy kx ky ⟨a0, ⟨KX.tr a1 kx rfl rfl, KX.tr a2 ky rfl rfl⟩, a4, a5, a6, fun z => KX.tr (a7 z) kx rfl rfl, fun z => (pe z).tr (jPe.of kx ky rfl rfl), fun z mu A h1 h2 => ?_⟩
    have J := JX.pts (sT := []) (t := sN F2) (w := wN F1) hY L l1 l2 G1 G2 (.inl ⟨rfl, (jBg.of h1).le le⟩) (a8 z mu A h1 h2) (fun y hy => by
      obtain ⟨-, -, v1, v2⟩ := jLk.mem L _ _ _ _ _ _ c1 y hy
      exact ⟨v1, by omega⟩)
    rw [gx, gy, e60, e6, e61]
    exact J
theorem mt_dobad {rc : RC} {x1 x2 : Int32} {F : PF} {G : PG} (h : ¬ sgn (G 4) (G 5) (F 42) 29 = true) : PP (mb_turnLoop_60 fu rc x1 x2 F G) (fun _ F' _ => 0 < (F' 44).toInt) := by
  unfold mb_turnLoop_60
  refine PP.bind (mp_em 14 x1 0 F G) ?_
  rintro r F1 G1 ⟨-, -, m, -⟩
  dsimp only
  unfold mb_turnLoop_68
  refine PP.bind (mw_settle x2 (F1 60) F1 G1) ?_
  rintro r2 F2 G2 k
  dsimp only
  unfold mb_turnLoop_78 mb_turnLoop_88
  refine PP.bind (mp_sign 29 _ G2) ?_
  rintro r3 F3 G3 (⟨-, -, -, z, -⟩ | ⟨-, z, -⟩)
  · exfalso
    apply h
    rw [fup_n (by decide), k.1 42 rfl, m.1.1 42 rfl, k.2 4 rfl, k.2 5 rfl, m.1.2 4 rfl, m.1.2 5 rfl] at z
    exact z
  · dsimp only
    unfold mb_turnLoop_94
    exact PP.bz (fun _ => PP.ret z.1)
/-- do -/
theorem jb_do {dm dc : Nat} (ih : jPbd fu p N K n q nf dm) (V : jV X p N K n q nf t i Fc Gc Fm Gm) (he : (Fm 15).toInt + 1 ≤ 4 * (i : Int) + 1) (h11 : Fc 11 = 11) : JP (ch_X4_doStatement fu (cS2 fu dc) Fc Gc) (mh_turnLoop fu (mS2 fu dm) Fm Gm) (fun _ F1 G1 r2 F2 G2 => jOs X p N K n q nf i 0 Fc Gc Fm Gm r2 F1 G1 F2 G2) := by
  have I := V.1
  have hX := V.2.1.1
  have hp := I.1.2.1
  have o0 := I.2.1.1.2.2.2.2.1
  have wd := I.wd (w := 7) (a := 11) (b := 7) (by decide) (by decide) (by decide)
  have li := I.2.1.1.ltW I.1.1 (wd.mp h11)
  unfold ch_X4_doStatement cb_X4_doStatement_0 mh_turnLoop mb_turnLoop_0
  refine JP.both (jo_opT I.1.1 I.2.1.1 li h11) ?_
  rintro r1 F1 G1 r2 F2 G2 (⟨rfl, rfl, o⟩ | o)
  · dsimp only
    have e0 := jAl.on (X := X) (p := p) (s := []) I.1 I.2.1 li (I.1.t1 li) o
    have V1 := V.al e0 (by omega)
    have t60 : Fm 60 = nI (sN F2) := by
      have y := e0.2.1.2.2.2.2.1
      rw [← show F2 60 = Fm 60 from o.2.1.2.1 60 rfl]
      exact (jnI y).symm
    have t6 : F1 6 = nI (wN F1) := (jnI e0.2.1.2.2.2.1).symm
    unfold cb_X4_doStatement_9 mb_turnLoop_9
    rw [if_neg i10n, if_neg i10n]
    unfold cb_X4_doStatement_13 mb_turnLoop_12
    refine JP.both (ih dc t (i + 1) (-1) X F1 G1 F2 G2 V1 (by rw [e0.1.2.1 15 rfl]; omega) ?_ ?_) ?_
    · have y := V.2.2.1.2.2
      rw [e0.1.2.1 51 rfl]
      omega
    · have y1 := e0.2.2.2.2.2.2.1
      have y2 := I.2.2
      rw [e0.1.2.2 6 rfl]
      omega
    · rintro r7 F7 G7 r8 F8 G8 (⟨rfl, Y, t1, k, LB, LC, Fd, Gd, V4, W4, ⟨b1, b2, b3⟩, b4, ⟨kd, d65, d63, d64⟩, g8, -, bL⟩ | h)
      · dsimp only
        obtain ⟨d66, g8⟩ := g8 rfl
        subst g8
        have hY := V4.2.1.1
        have W : jW X Y p N i k 1 (-1) [] [] (LB ++ (LC ++ [])) [(sN F2, wN F1, [])] Fc Gc Fm Gm F7 G7 Fd G8 := (((jW.al e0).la.tr W4).pm (List.Perm.of_eq (by simp))).ca (by omega) (by omega)
        have kd' : KX [63, 64, 65, 66] [] Fd G8 F8 G8 := ⟨kd.1, fun _ _ => rfl⟩
        have V5 : jV Y p N K n q nf t1 k F7 G7 F8 G8 := V4.fl KX.rf kd'
        have W5 := W.st KX.rf (KX.tr KX.rf kd' rfl rfl) rfl rfl rfl (kd.1 60 rfl) (fun _ _ _ => rfl) (fun _ => jPe.of (x := []) (y := []) KX.rf kd' rfl rfl)
        unfold mb_turnLoop_17
        rw [if_neg i10n]
        unfold cb_X4_doStatement_35 mb_turnLoop_22
        refine jw_aimL (kc := fun F G => cb_X4_doStatement_53 fu (cS2 fu dc) (F1 30) (F1 31) (F1 6) F G) (km := fun F G => mb_turnLoop_41 fu (mS2 fu dm) (Fm 60) (F8 65) F G) (L := LC) (l1 := LB) (l2 := []) (lo := wN F1) (hi := wN F7) (Fa := F8) bL V hY hp V5.1.2.1 W5 (by omega) (fun z => ⟨by rw [d66]; exact (b4 z).2, Nat.le_refl _⟩) rfl ?_
        intro Ga Gb ka kb Wa
        have V6 := V5.gg ka kb
        unfold cb_X4_doStatement_53 mb_turnLoop_41
        refine JP.both (jo_word V6.1.1.1 V6.1.2.1.1 (w := 6) (by decide) (by decide) (by decide)) ?_
        rintro r9 F9 G9 ra Fx Gx (⟨rfl, o2, lk⟩ | o2)
        · dsimp only
          have e2 := jAl.on (X := Y) (p := p) (s := []) V6.1.1 V6.1.2.1 lk (V6.1.1.t1 lk) o2
          have V7 := V6.al e2 (by omega)
          unfold mb_turnLoop_48
          rw [if_neg i10n]
          unfold cb_X4_doStatement_62 mb_turnLoop_51
          refine JP.both (jc_condition (s := []) V7.1) ?_
          rintro r3 F3 G3 r4 F4 G4 (⟨rfl, j, h1⟩ | h1)
          · dsimp only
            have V8 := V7.al h1 (by omega)
            have kj : k + 1 ≤ j := h1.2.2.1.1
            unfold mb_turnLoop_55
            rw [if_neg i10n]
            unfold cb_X4_doStatement_66
            have sg := V8.1.sg (w := 29) (a := 26) (b := 29) (by decide) (by decide) (by decide)
            refine JP.L (jo_expL (a := 26) V8.1.1.1 V8.1.2.1.1 (fun z => V8.1.2.1.1.ltS V8.1.1.1 (sg.mp z))) ?_
            rintro rb Fb Gy (⟨q1, o3⟩ | ⟨q1, q2, q3⟩)
            · dsimp only
              rcases o3 with o3 | o3
              · have lj := V8.1.2.1.1.ltS V8.1.1.1 (sg.mp q1)
                have e3 := jAl.on (X := Y) (p := p) (s := [0]) V8.1.1 V8.1.2.1 lj (V8.1.1.t1 lj) o3
                have V9 := V8.al e3 (by omega)
                have D9 := V9.1.2.1
                have W9 : jW X Y p N i (j + 1) 1 (-9) [] [0] LB [(sN F2, wN F1, [])] Fc Gc Fm Gm Fb Gy (fup F4 42 (F4 42 + 1)) G4 := ((((Wa.tr (jW.al e2)).tr (jW.al h1)).tr (jW.al e3)).pm (List.Perm.of_eq (by simp))).ca (by omega) (by omega)
                have wl9 : p = 1 → wN F7 ≤ wN Fb := fun z => ((((jW.al e2).tr (jW.al h1)).tr (jW.al e3)).wl z).1
                unfold cb_X4_doStatement_75 mb_turnLoop_60
                refine JP.L (cp_wpair 85 (F1 6) Gy (W9.room V D9 (by omega))) ?_
                rintro rc Fe Ge c1
                dsimp only
                refine JP.R (mp_em 14 (Fm 60) 0 F4 G4) ?_
                rintro rd Ff Gf ⟨-, -, m2, -⟩
                dsimp only
                have m3 := m2.c42 (v := F4 42 + 1)
                obtain ⟨Wb, Db⟩ := W9.em (s2 := []) (hs1 := LB) (ls1 := [(sN F2, wN F1, [])]) V9.1.1 D9 c1 m3 (fun z z7 mu A J => JX.ifL hY J (List.mem_cons_self ..) (m3.sn D9.2.2.2.2.1) (c1.wn z7 D9.2.2.2.1) (fun k hk => m3.2.2.1 k (Nat.ne_of_lt hk)) (c1.2.2 z7).2.1 m3.2.2.2.1 (m3.2.2.2.2.1.trans t60) ((c1.2.2 z7).2.2 0 85 rfl) (((c1.2.2 z7).2.2 1 _ rfl).trans t6))
                have Wb' : jW X Y p N i (j + 1) 1 (-7) [] [] ([] ++ (LB ++ [])) [(sN F2, wN F1, [])] Fc Gc Fm Gm Fe Ge (fup Ff 42 (F4 42 + 1)) Gf := (Wb.pm (List.Perm.of_eq (by simp))).ca (by omega) (by show (-9 : Int) + ((2 : Nat) : Int) ≤ _; omega)
                have f30 : Fe 30 = F7 30 := by rw [c1.1.1 30 rfl, e3.1.1.1 30 rfl, h1.1.1.1 30 rfl, e2.1.1.1 30 rfl]
                unfold cb_X4_doStatement_85 mb_turnLoop_68
                refine jw_aimL (kc := fun F G => cb_X4_doStatement_103 fu (cS2 fu dc) (F1 30) (F1 31) F G) (km := fun F G => mb_turnLoop_78 fu (mS2 fu dm) F G) (L := LB) (l1 := []) (l2 := []) (lo := wN F1) (hi := wN F7) (Fa := Ff) bL V hY hp Db Wb' (by omega) (fun z => ⟨by rw [d65, f30]; exact (b4 z).1, by have := wl9 z; have := c1.wn (V9.1.h7.2 z) D9.2.2.2.1; omega⟩) (fup_n (by decide)).symm ?_
                intro Gg Gh kg kh Wc
                have V10 : jV Y p N K n q nf t1 (j + 1) Fe Gg (fup Ff 42 (F4 42 + 1)) Gh := by
                  have kc : KX [6] [5] Fb Gy Fe Gg := KX.tr c1.1 kg rfl rfl
                  have km : KX [60] [56, 57, 58, 59] (fup F4 42 (F4 42 + 1)) G4 (fup Ff 42 (F4 42 + 1)) Gh := KX.tr m3.1 kh rfl rfl
                  refine V9.mv (KX.tr KX.rf kc rfl rfl) (KX.tr KX.rf km rfl rfl) ?_ ?_ (V9.2.1.2.2.kx kc rfl) (Db.gg kg kh) ?_ (Nat.le_refl _)
                  · rw [kc.1 46 rfl]; exact V9.x0
                  · rw [km.1 54 rfl]; exact V9.2.1.2.1
                  · have y := V.1.2.2
                    have y1 := W9.2.1.2.2 6 rfl
                    have y2 := Wc.2.2.2.2.1
                    rw [y1]
                    omega
                have kf : KX [30, 31] [] Fe Gg (fup (fup Fe 30 (F1 30)) 31 (F1 31)) Gg := KX.f rfl (KX.f rfl KX.rf)
                have V11 := V10.fl kf (KX.rf (F := fup Ff 42 (F4 42 + 1)) (G := Gh))
                have W11 := Wc.st (KX.tr KX.rf kf rfl rfl) KX.rf (kf.1 10 rfl) (kf.1 6 rfl) rfl rfl (fun _ _ _ => rfl) (fun _ => jPe.of (z := []) (w := []) kf KX.rf rfl rfl)
                unfold cb_X4_doStatement_103 cb_X4_doStatement_108 cb_X4_doStatement_113 mb_turnLoop_78 mb_turnLoop_88
                refine JP.L (jo_closes (Fm := fup Ff 42 (F4 42 + 1)) (Gm := Gh) V11.1.2.1.1 (by have := W11.2.2.2.1; omega)) ?_
                rintro r9 Fg Gi oe
                dsimp only
                have e9 := jAl.cl (X := Y) (p := p) (s := []) V11.1.2.1 oe
                unfold cb_X4_doStatement_120
                have f42 : Ff 42 = F4 42 := m2.1.1 42 rfl
                refine JP.R (mp_sign 29 _ Gh) ?_
                rintro rs Fs Gs (⟨rfl, rfl, rfl, -, -⟩ | ⟨-, -, bad⟩)
                · dsimp only
                  unfold mb_turnLoop_94
                  rw [if_pos (show b01 1 = true from rfl)]
                  have eF : fup (fup Ff 43 (Ff 43 - 1)) 42 (fup Ff 43 (Ff 43 - 1) 42 + 1) = fup (fup Ff 42 (F4 42 + 1)) 43 (fup Ff 42 (F4 42 + 1) 43 - 1) := by
                    rw [fup_n (by decide), fup_n (by decide), f42]
                    funext z
                    by_cases z1 : z = 42
                    · rw [z1, fup_s, fup_n (by decide), fup_s]
                    · by_cases z2 : z = 43
                      · rw [z2, fup_n (by decide), fup_s, fup_s]
                      · rw [fup_n z1, fup_n z2, fup_n z2, fup_n z1]
                  rw [eF]
                  have kt : ∀ m : Nat, m = 15 ∨ m = 51 ∨ m = 63 ∨ m = 64 → fup (fup Ff 42 (F4 42 + 1)) 43 (fup Ff 42 (F4 42 + 1) 43 - 1) m = F8 m := fun m hm => by
                    rcases hm with z | z | z | z <;> rw [z, fup_n (by decide), fup_n (by decide)]
                    · rw [m2.1.1 15 rfl, h1.1.2.1 15 rfl, e2.1.2.1 15 rfl]
                    · rw [m2.1.1 51 rfl, h1.1.2.1 51 rfl, e2.1.2.1 51 rfl]
                    · rw [m2.1.1 63 rfl, h1.1.2.1 63 rfl, e2.1.2.1 63 rfl]
                    · rw [m2.1.1 64 rfl, h1.1.2.1 64 rfl, e2.1.2.1 64 rfl]
                  have w30 : Fg 30 = Fc 30 := by rw [e9.1.1.1 30 rfl, fup_n (by decide), fup_s]; exact e0.1.1.1 30 rfl
                  have w31 : Fg 31 = Fc 31 := by rw [e9.1.1.1 31 rfl, fup_s]; exact e0.1.1.1 31 rfl
                  refine JP.ret (jOs.ac (LB := []) (LC := []) (V11.al e9 (Int.le_refl _)) ⟨((W11.fo.tr (jW.al e9)).pm (List.Perm.refl _)).ca (by omega) (by omega), ⟨?_, ?_⟩, fun _ => ⟨⟨?_, w30⟩, ?_, w31⟩, fun _ _ => ⟨rfl, rfl⟩⟩ (by omega))
                  · rw [kt 15 (.inl rfl), kd.1 15 rfl, b1, e0.1.2.1 15 rfl]
                  · rw [kt 51 (.inr (.inl rfl)), kd.1 51 rfl, b2, e0.1.2.1 51 rfl]
                  · rw [kt 63 (.inr (.inr (.inl rfl))), d63, e0.1.2.1 63 rfl]
                  · rw [kt 64 (.inr (.inr (.inr rfl))), d64, e0.1.2.1 64 rfl]
                · exfalso
                  rcases bad with z | z
                  · rw [fup_n (by decide), m2.1.1 44 rfl, V8.1.2.1.1.2.2.2.2.2.2.2.1] at z
                    exact absurd z (by decide)
                  · rw [fup_n (by decide), f42, kh.2 4 rfl, kh.2 5 rfl, m2.1.2 4 rfl, m2.1.2 5 rfl, sg.mp q1] at z
                    cases z
              · exact JP.fin (kqj_X4_doStatement_75 _ (kqS2 dc) _ _ _ Fb Gy CFS.rf) (nqj_turnLoop_60 _ (nqS2 dm) _ _ F4 G4 MFS.rf) (.inr (by
                  obtain ⟨x, y, z⟩ := o3
                  rw [fup_n (by decide), fup_n (by decide)] at z
                  exact ⟨x, y, z⟩)) (fun _ _ _ _ _ _ w => .inr w)
            · dsimp only
              refine JP.pp (kqj_X4_doStatement_75 _ (kqS2 dc) _ _ _ Fb Gy CFS.rf) (mt_dobad (fun z => q1 (sg.mpr z))) (fun _ F' _ _ F'' _ w1 w2 => .inr (jEnd.st (.inr ⟨q2, q3, .inl (fun z => ?_)⟩) w1 MFS.rf))
              rw [z] at w2
              exact absurd w2 (by decide)
          · dsimp only
            exact JP.fin (kqj_X4_doStatement_66 _ (kqS2 dc) _ _ _ F3 G3 CFS.rf) (nqj_turnLoop_55 _ (nqS2 dm) _ _ _ F4 G4 MFS.rf) h1 (fun _ _ _ _ _ _ w => .inr w)
        · dsimp only
          exact JP.fin (kqj_X4_doStatement_62 _ (kqS2 dc) _ _ _ F9 G9 CFS.rf) (nqj_turnLoop_48 _ (nqS2 dm) _ _ _ Fx Gx MFS.rf) (.inr o2) (fun _ _ _ _ _ _ w => .inr w)
      · dsimp only
        exact JP.fin (kqj_X4_doStatement_35 _ (kqS2 dc) _ _ _ F7 G7 CFS.rf) (nqj_turnLoop_17 _ (nqS2 dm) _ _ F8 G8 MFS.rf) h (fun _ _ _ _ _ _ w => .inr w)
  · dsimp only
    exact JP.fin (kqj_X4_doStatement_9 _ (kqS2 dc) _ F1 G1 CFS.rf) (nqj_turnLoop_9 _ (nqS2 dm) _ _ F2 G2 MFS.rf) (.inr o) (fun _ _ _ _ _ _ w => .inr w)
end JW9I
