section JW9F
variable {fu : Nat} {X Y Z : JCX} {p : Int32} {N K n q nf t i j l k : Nat} {d d1 κ κ1 : Int} {s s1 : SH} {hs hs1 l1 l2 LB LC LB1 LC1 : List JHO} {ls : List (Nat × Nat × SH)} {Fc Fm F1 F2 F3 F4 : PF} {Gc Gm G1 G2 G3 G4 : PG} {x : JHO}
theorem jD.gg (D : jD N j F1 G1 F2 G2) (kc : KX [] [5] F1 G1 F1 G3) (km : KX [] [57] F2 G2 F2 G4) : jD N j F1 G3 F2 G4 := by
  obtain ⟨D1, D2, D5, D7⟩ := D
  refine ⟨?_, D2, ?_, D7⟩
  · unfold CU at D1 ⊢
    rw [kc.2 90 rfl, kc.2 91 rfl, kc.2 92 rfl]
    exact D1
  · rw [km.2 6 rfl]
    exact D5
theorem jV.gg (V : jV X p N K n q nf t j F1 G1 F2 G2) (kc : KX [] [5] F1 G1 F1 G3) (km : KX [] [57] F2 G2 F2 G4) : jV X p N K n q nf t j F1 G3 F2 G4 := V.mv (KX.tr KX.rf kc rfl rfl) (KX.tr KX.rf km rfl rfl) V.x0 V.2.1.2.1 V.2.1.2.2 (V.1.2.1.gg kc km) V.1.2.2 (Nat.le_refl _)
/-- fields of chains alone -/
theorem jV.fl (V : jV X p N K n q nf t j F1 G1 F2 G2) (kc : KX [30, 31] [] F1 G1 F3 G1) (km : KX [63, 64, 65, 66] [] F2 G2 F4 G2) : jV X p N K n q nf t j F3 G1 F4 G2 := by
  refine V.mv (KX.tr KX.rf kc rfl rfl) (KX.tr KX.rf km rfl rfl) ?_ ?_ (V.2.1.2.2.kx kc rfl) (V.1.2.1.mv (KX.tr KX.rf kc rfl rfl) (KX.tr KX.rf km rfl rfl)) ?_ (Nat.le_refl _)
  · rw [kc.1 46 rfl]; exact V.x0
  · rw [km.1 54 rfl]; exact V.2.1.2.1
  · rw [kc.1 6 rfl]; exact V.1.2.2
/-- what is known of the waiting jumps -/
theorem jW.hol (h : jW X Y p N i j d κ s s1 hs ls Fc Gc Fm Gm F1 G1 F2 G2) (hp : p = 1) : jND hs ∧ ∀ x ∈ hs, (sN Fm ≤ x.1 ∧ x.1 < sN F2) ∧ (wN Fc < x.2.1 ∧ x.2.1 < wN F1) ∧ G2 57 x.1 = x.2.2.2.2.1 ∧ G1 5 x.2.1 = x.2.2.2.2.2 := (h.2.2.2.2.2.2.2 hp (fun _ => wN Fc) (fun _ => (s, some X.2.2.1)) rfl rfl).hol
theorem jW.wl (h : jW X Y p N i j d κ s s1 hs ls Fc Gc Fm Gm F1 G1 F2 G2) (hp : p = 1) : wN Fc ≤ wN F1 ∧ sN Fm ≤ sN F2 := by
  obtain ⟨mu, A, lz, -, ⟨-, a1, a2, -⟩, -⟩ := h.2.2.2.2.2.2.2 hp (fun _ => wN Fc) (fun _ => (s, some X.2.2.1)) rfl rfl
  exact ⟨a2, a1⟩
/-- the class aims one jump -/
theorem jw_aim {r : Int32} (hp : p = 0 ∨ p = 1) (h : jW X Y p N i j d κ s s1 hs ls Fc Gc Fm Gm F1 G1 F2 G2) (hx : x ∈ hs) (h6 : 0 ≤ (F1 6).toInt ∧ (F1 6).toInt ≤ 8400) (r0 : p = 0 → r = -1) (r1 : p = 1 → r = nI x.2.1) (hy : x.2.2.2.2.2 = -1) : PP (cf_X1_aim fu r (F1 6) F1 G1) (fun _ F3 G3 => F1 = F3 ∧ (p = 0 → G1 = G3) ∧ (p = 1 → G3 = gup G1 5 x.2.1 (F1 6))) := by
  rcases hp with z | z
  · rw [r0 z]
    refine PP.mono (cp_aim0 (-1) _ (by decide) F1 G1) (fun _ F3 G3 q => ⟨q.1, fun _ => q.2, fun y => ?_⟩)
    rw [z] at y
    exact absurd y (by decide)
  · obtain ⟨-, y2, -, y3⟩ := (h.hol z).2 x hx
    have k4 : wN F1 = (F1 6).toInt.toNat := rfl
    refine PP.mono (cp_aim1 x.2.1 r _ F1 G1 (r1 z) (by omega) (by omega) (y3.trans hy)) (fun _ F3 G3 q => ⟨q.1, fun y => ?_, fun _ => q.2⟩)
    rw [z] at y
    exact absurd y (by decide)
/-- both aim one jump at where they stand -/
theorem jW.pt1 (le : jLe Y.2.2.1 X.2.2.1) (hX : Y.1 = false) (hp : p = 0 ∨ p = 1) (h : jW X Y p N i j d κ s s1 (l1 ++ x :: l2) ls Fc Gc Fm Gm F1 G1 F2 G2) (D : jD N j F1 G1 F2 G2) (ht : x.2.2.2.1 ≤ 1 ∧ x.2.2.1 = s1) (hk : k = x.1) (g0 : p = 0 → G1 = G3) (g1 : p = 1 → G3 = gup G1 5 x.2.1 (F1 6)) : jW X Y p N i j d κ s s1 (l1 ++ l2) ls Fc Gc Fm Gm F1 G3 F2 (gup G2 57 k (F2 60)) := by
  obtain ⟨a0, ⟨a1, a2⟩, a4, a5, a6, a7, pe, a8⟩ := h
  have kc : KX [] [5] F1 G1 F1 G3 := by
    rcases hp with z | z
    · rw [← g0 z]
      exact KX.rf
    · rw [g1 z]
      exact KX.g rfl KX.rf
  refine ⟨a0, ⟨KX.tr a1 kc rfl rfl, KX.g rfl a2⟩, a4, a5, a6, fun z => KX.tr (a7 z) kc rfl rfl, fun z => (pe z).tr (jPe.of (z := []) (w := [57]) kc (KX.g rfl KX.rf) rfl rfl), fun z mu A h1 h2 => ?_⟩
  refine JX.patch (x := x) (t := sN F2) (w := wN F1) (a8 z mu A h1 h2) (.inl ⟨ht.1, .inl ⟨by rw [ht.2], (jBg.of h1).le le⟩, fun y => absurd (hX.symm.trans y) (by decide)⟩) rfl rfl (fun m hm => ⟨rfl, gup_x (by rw [hk]; exact hm), rfl, rfl⟩) rfl ?_ (fun m hm => ?_) ?_
  · rw [hk, gup_i]
    exact (jnI D.2.2.2.2.1).symm
  · rw [g1 z]
    exact gup_x hm
  · rw [g1 z, gup_i]
    exact (jnI D.2.2.2.1).symm
theorem g57 {F : PF} {G : PG} {k : Nat} {v : Int32} : KX [] [57] F G F (gup G 57 k v) := KX.g rfl KX.rf
theorem g5z {F : PF} {G G' : PG} {v : Int32} {m : Nat} (hp : p = 0 ∨ p = 1) (g0 : p = 0 → G = G') (g1 : p = 1 → G' = gup G 5 m v) : KX [] [5] F G F G' := by
  rcases hp with z | z
  · rw [← g0 z]
    exact KX.rf
  · rw [g1 z]
    exact KX.g rfl KX.rf
/-- chains, seen from an earlier state -/
theorem jLk.up2 {lo lo1 hi : Nat} {a b c e a' b' c' e' : Int32} (h : jLk LB lo1 hi a b c e) (h1 : lo ≤ lo1) (ec : c = c') (ee : e = e') (ea : a = a') (eb : b = b') : jLk LB lo hi a' b' c' e' := by
  rw [← ec, ← ee, ← ea, ← eb]
  exact jLk.wd LB lo lo1 hi hi a b c e h h1 (Nat.le_refl _)
/-- if -/
theorem jb_if {dm dc : Nat} (ih : jPst fu p N K n q nf 4 5 2 dm) (V : jV X p N K n q nf t i Fc Gc Fm Gm) (he : (Fm 15).toInt + 1 ≤ 4 * (i : Int) + 1) (h11 : Fc 11 = 8) : JP (ch_X4_ifStatement fu (cS2 fu dc) Fc Gc) (mh_choice fu (mS2 fu dm) Fm Gm) (fun _ F1 G1 r2 F2 G2 => jOs X p N K n q nf i 0 Fc Gc Fm Gm r2 F1 G1 F2 G2) := by
  have I := V.1
  have hX := V.2.1.1
  have hp := I.1.2.1
  have o0 := I.2.1.1.2.2.2.2.1
  have wd := I.wd (w := 4) (a := 8) (b := 4) (by decide) (by decide) (by decide)
  have li := I.2.1.1.ltW I.1.1 (wd.mp h11)
  -- the end
  have fin : ∀ (Y : JCX) (t1 k : Nat) (LB LC : List JHO) (F1 : PF) (G1 : PG) (F2 : PF) (G2 : PG), jV Y p N K n q nf t1 k F1 G1 F2 G2 → jAc X Y p N i k 1 0 LB LC Fc Gc Fm Gm F1 G1 F2 G2 → i < k → JP (cb_X4_ifStatement_114 fu (cS2 fu dc) F1 G1) (mb_choice_110 fu (mS2 fu dm) F2 G2) (fun _ F1 G1 r2 F2 G2 => jOs X p N K n q nf i 0 Fc Gc Fm Gm r2 F1 G1 F2 G2) := by
    intro Y t1 k LB LC F1 G1 F2 G2 V1 A hik
    unfold cb_X4_ifStatement_114 mb_choice_110
    refine JP.L (jo_closes (Fm := F2) (Gm := G2) V1.1.2.1.1 (by have := A.1.2.2.2.1; omega)) ?_
    rintro r3 F3 G3 o
    dsimp only
    have e := jAl.cl (X := Y) (p := p) (s := []) V1.1.2.1 o
    unfold cb_X4_ifStatement_121 mb_choice_120
    rw [if_pos (show fup F2 43 (F2 43 - 1) 44 = 0 by rw [fup_n (by decide)]; exact V1.1.2.1.1.2.2.2.2.2.2.2.1)]
    unfold mb_choice_127 mb_choice_132
    rw [if_pos (show b01 1 = true from rfl)]
    exact JP.ret (jOs.ac (V1.al e (Int.le_refl _)) ((A.tr (jAc.al e)).ca (by omega) (by omega)) hik)
  unfold ch_X4_ifStatement cb_X4_ifStatement_0 mh_choice mb_choice_0
  refine JP.both (jo_opT I.1.1 I.2.1.1 li h11) ?_
  rintro r1 F1 G1 r2 F2 G2 (⟨rfl, rfl, o⟩ | o)
  · dsimp only
    have e0 := jAl.on (X := X) (p := p) (s := []) I.1 I.2.1 li (I.1.t1 li) o
    have I1 := I.next e0 (by omega)
    unfold cb_X4_ifStatement_9 mb_choice_4
    rw [if_neg i10n, if_neg i10n]
    unfold cb_X4_ifStatement_13 mb_choice_7
    refine JP.both (jc_condition (s := []) I1) ?_
    rintro r3 F3 G3 r4 F4 G4 (⟨rfl, j, h1⟩ | h1)
    · dsimp only
      have h2 := e0.tr h1
      have I2 := I.next h2 (by omega)
      unfold mb_choice_11
      rw [if_neg i10n]
      unfold cb_X4_ifStatement_17 mb_choice_16
      refine JP.L (cp_wjump 86 (-1) G3 (h2.room I.1 I.2.2 (by omega))) ?_
      rintro ra F5 G5 ⟨c1, c2, c3⟩
      dsimp only
      refine JP.R (mp_em 13 0 0 F4 G4) ?_
      rintro rb F6 G6 ⟨m0, m1, m2, m3⟩
      dsimp only
      have e1 : jAl X p N j j 0 2 [0] [] [(sN F4, wN F3 + 1, [], 1, 0, -1)] F3 G3 F4 G4 F5 G5 F6 G6 := jAl.jm I2.h7.1 I2.h7.2 I2.2.1 c1 m2 (.inr ⟨rfl, .inl ⟨rfl, rfl, rfl, rfl⟩⟩)
      have h3 : jAl X p N i j 1 (-4) [] [] [(sN F4, wN F3 + 1, [], 1, 0, -1)] Fc Gc Fm Gm F5 G5 F6 G6 := (h2.tr e1).ca (by omega) (by omega)
      have ij : i + 1 ≤ j := h1.2.2.1.1
      have V3 := V.al h3 (by omega)
      generalize hx0 : ((sN F4, wN F3 + 1, [], 1, 0, -1) : JHO) = x0 at h3
      have x01 : x0.1 = sN F4 := by rw [← hx0]
      have x02 : x0.2.1 = wN F3 + 1 := by rw [← hx0]
      have x03 : x0.2.2.2.1 ≤ 1 ∧ x0.2.2.1 = [] := by rw [← hx0]; exact ⟨Nat.le_refl _, rfl⟩
      have x04 : x0.2.2.2.2.2 = -1 := by rw [← hx0]
      have q0 : p = 0 → ra = -1 := fun z => c2 (by rw [I2.1.2.2.1.2.2, z])
      have q1 : p = 1 → ra = nI x0.2.1 := fun z => by rw [x02]; exact c3 (by rw [I2.1.2.2.1.2.2, z])
      have rn : rb.toNatClampNeg = x0.1 := by rw [m0, x01]
      unfold cb_X4_ifStatement_27 mb_choice_24
      refine JP.both (ih dc t j X F5 G5 F6 G6 V3 (by rw [h3.1.2.1 15 rfl]; omega)) ?_
      rintro r7 F7 G7 r8 F8 G8 (⟨rfl, Y, t1, k, LB, LC, V4, W4, ⟨b1, b2, b3⟩, b4, bL, bN⟩ | h)
      · dsimp only
        have bL := bL rfl
        have hY := V4.2.1.1
        have W : jW X Y p N i k 1 (-4) [] [] ((LB ++ LC) ++ x0 :: []) [] Fc Gc Fm Gm F7 G7 F8 G8 := ((jW.al h3).tr W4).ca (by omega) (by omega)
        have f15 : F8 15 = Fm 15 := b1.trans (h3.1.2.1 15 rfl)
        have f51 : F8 51 = Fm 51 := b2.trans (h3.1.2.1 51 rfl)
        have D7 := V4.1.2.1
        have cap := W.cap V D7 (by omega)
        have chn4 : p = 1 → jLk LB (wN Fc) (wN F7) (F8 63) (F7 30) (Fm 63) (Fc 30) ∧ jLk LC (wN Fc) (wN F7) (F8 64) (F7 31) (Fm 64) (Fc 31) := fun z => by
          obtain ⟨y1, y2⟩ := b4 z
          have y3 := ((jW.al h3).wl z).1
          exact ⟨y1.up2 y3 (h3.1.2.1 63 rfl) (h3.1.1.1 30 rfl) rfl rfl, y2.up2 y3 (h3.1.2.1 64 rfl) (h3.1.1.1 31 rfl) rfl rfl⟩
        unfold mb_choice_29
        rw [if_neg i10n]
        unfold cb_X4_ifStatement_32 mb_choice_34
        rw [if_pos (show F8 44 = 0 from D7.1.2.2.2.2.2.2.2.1)]
        unfold mb_choice_41
        have wd9 := V4.1.wd (w := 5) (a := 9) (b := 5) (by decide) (by decide) (by decide)
        refine JP.R (mp_isWord 5 F8 G8) ?_
        rintro z _ _ ⟨rfl, rfl, hz⟩
        dsimp only
        unfold mb_choice_46
        rcases hz with ⟨rfl, hz⟩ | ⟨rfl, hz⟩
        · rw [if_pos (wd9.mpr hz), if_neg i10n]
          have lk := D7.1.ltW V4.1.1.1 hz
          unfold cb_X4_ifStatement_44 mb_choice_49
          refine JP.L (jo_next V4.1.1.1 D7.1 lk) ?_
          rintro r9 F9 G9 (o2 | o2)
          · dsimp only
            have e5 := jAl.on (X := Y) (p := p) (s := []) V4.1.1 D7 lk (V4.1.1.t1 lk) o2
            have V5 := V4.al e5 (by omega)
            generalize fup F8 42 (F8 42 + 1) = Fx at e5 V5 ⊢
            have W5 := W.tr (jW.al e5)
            unfold cb_X4_ifStatement_51 mb_choice_59
            refine JP.L (cp_wjump 84 (-1) G9 (W5.room V V5.1.2.1 (by omega))) ?_
            rintro rc Fa Ga ⟨c4, c5, c6⟩
            dsimp only
            refine JP.R (mp_em 12 0 0 Fx G8) ?_
            rintro rd Fb Gb ⟨m4, m5, m6, m7⟩
            dsimp only
            have e6 : jAl Y p N (k + 1) (k + 1) 0 2 [] [] [(sN Fx, wN F9 + 1, [], 0, 0, -1)] F9 G9 Fx G8 Fa Ga Fb Gb := jAl.jm V5.1.h7.1 V5.1.h7.2 V5.1.2.1 c4 m6 (.inl ⟨rfl, rfl, rfl, rfl⟩)
            have V6 := V4.al (e5.tr e6) (by omega)
            generalize hx1 : ((sN Fx, wN F9 + 1, [], 0, 0, -1) : JHO) = x1 at e6
            have x11 : x1.1 = sN Fx := by rw [← hx1]
            have x12 : x1.2.1 = wN F9 + 1 := by rw [← hx1]
            have x13 : x1.2.2.2.1 ≤ 1 ∧ x1.2.2.1 = [] := by rw [← hx1]; exact ⟨Nat.zero_le _, rfl⟩
            have x14 : x1.2.2.2.2.2 = -1 := by rw [← hx1]
            have W6 : jW X Y p N i (k + 1) 1 (-4) [] [] ((x1 :: (LB ++ LC)) ++ x0 :: []) [] Fc Gc Fm Gm Fa Ga Fb Gb := ((W5.tr (jW.al e6)).pm (List.Perm.refl _)).ca (by omega) (by omega)
            unfold cb_X4_ifStatement_61 mb_choice_67
            refine JP.L (jw_aim hp W6 (x := x0) (by simp) ⟨V6.1.2.1.2.2.2.1, W6.cap V V6.1.2.1 (by omega)⟩ q0 q1 x04) ?_
            rintro re Fe Ge ⟨rfl, g0, g1⟩
            dsimp only
            refine JP.ixR (fun _ => ?_)
            rw [rn]
            have W7 := W6.pt1 bL hY hp V6.1.2.1 x03 rfl g0 g1
            have V7 := V6.gg (g5z (F := Fa) hp g0 g1) (g57 (k := x0.1) (v := Fb 60))
            rw [List.append_nil] at W7
            unfold cb_X4_ifStatement_77 mb_choice_78
            refine JP.both (ih dc t1 (k + 1) Y _ _ _ _ V7 ?_) ?_
            · rw [(e5.tr e6).1.2.1 15 rfl, f15]
              omega
            · rintro rf Ff Gf rg Fg Gg (⟨rfl, Z, t2, m, LB2, LC2, V8, W8, ⟨b5, b6, b7⟩, b8, bM, bP⟩ | h)
              · dsimp only
                have bM := bM rfl
                have hZ := V8.2.1.1
                have D8 := V8.1.2.1
                have W9 : jW X Z p N i m 1 (-4) [] [] ((LB2 ++ LC2) ++ x1 :: (LB ++ LC)) [] Fc Gc Fm Gm Ff Gf Fg Gg := (W7.tr W8).ca (by omega) (by omega)
                unfold cb_X4_ifStatement_81 mb_choice_82
                rw [if_neg i10n]
                unfold mb_choice_87
                refine JP.L (jw_aim hp W9 (x := x1) (by simp) ⟨D8.2.2.2.1, W9.cap V D8 (by omega)⟩ (fun z => c5 (by rw [V5.1.1.2.2.1.2.2, z])) (fun z => by rw [x12]; exact c6 (by rw [V5.1.1.2.2.1.2.2, z])) x14) ?_
                rintro ri Fi Gi ⟨rfl, g2, g3⟩
                dsimp only
                refine JP.ixR (fun _ => ?_)
                rw [show rd.toNatClampNeg = x1.1 by rw [m4, x11]]
                have Wa := W9.pt1 (bM.tr bL) hZ hp D8 x13 rfl g2 g3
                have V9 := V8.gg (g5z (F := Ff) hp g2 g3) (g57 (k := x1.1) (v := Fg 60))
                unfold cb_X4_ifStatement_96 mb_choice_97
                refine fin Z t2 m (LB2 ++ LB) (LC2 ++ LC) _ _ _ _ V9 ⟨(Wa.pm ?_).ca rfl (by omega), ⟨?_, ?_⟩, fun z => ?_, fun z y => ?_⟩ (by omega)
                · rw [List.append_assoc, List.append_assoc]
                  exact (List.perm_append_comm_assoc LC2 LB LC).append_left LB2
                · rw [b5, (e5.tr e6).1.2.1 15 rfl]; exact f15
                · rw [b6, (e5.tr e6).1.2.1 51 rfl]; exact f51
                · obtain ⟨y1, y2⟩ := chn4 z
                  obtain ⟨y3, y4⟩ := b8 z
                  have w1 := ((jW.al (e5.tr e6)).wl z).1
                  have w2 := (W.wl z).1
                  have w3 := (W8.wl z).1
                  rw [(e5.tr e6).1.2.1 63 rfl, (e5.tr e6).1.1.1 30 rfl] at y3
                  rw [(e5.tr e6).1.2.1 64 rfl, (e5.tr e6).1.1.1 31 rfl] at y4
                  exact ⟨jLk.app LB2 LB _ _ _ _ _ _ _ _ _ _ y3 y1 (by omega) w1 w3, jLk.app LC2 LC _ _ _ _ _ _ _ _ _ _ y4 y2 (by omega) w1 w3⟩
                · obtain ⟨c1, c2⟩ := bN z ((h3.1.2.1 51 rfl).trans y)
                  obtain ⟨e1, e2⟩ := bP z (((e5.tr e6).1.2.1 51 rfl).trans (f51.trans y))
                  rw [c1, c2, e1, e2]
                  exact ⟨rfl, rfl⟩
              · dsimp only
                exact JP.fin (kqj_X4_ifStatement_81 _ (kqS2 dc) _ Ff Gf CFS.rf) (nqj_choice_82 _ (nqS2 dm) _ _ Fg Gg MFS.rf) h (fun _ _ _ _ _ _ w => .inr w)
          · dsimp only
            exact JP.fin (kqj_X4_ifStatement_51 _ (kqS2 dc) _ F9 G9 CFS.rf) (nqj_choice_59 _ (nqS2 dm) _ _ G8 MFS.rf) (.inr o2) (fun _ _ _ _ _ _ w => .inr w)
        · rw [if_neg (fun w => by rw [wd9.mp w] at hz; cases hz), if_pos rfl]
          unfold cb_X4_ifStatement_99 mb_choice_100
          refine JP.L (jw_aim hp W (x := x0) (by simp) ⟨D7.2.2.2.1, cap⟩ q0 q1 x04) ?_
          rintro re Fe Ge ⟨rfl, g0, g1⟩
          dsimp only
          refine JP.ixR (fun _ => ?_)
          rw [rn]
          have W7 := W.pt1 bL hY hp D7 x03 rfl g0 g1
          have V7 := V4.gg (g5z (F := F7) hp g0 g1) (g57 (k := x0.1) (v := F8 60))
          rw [List.append_nil] at W7
          exact fin Y t1 k LB LC _ _ _ _ V7 ⟨W7.ca rfl (by omega), ⟨f15, f51⟩, chn4, fun z y => bN z ((h3.1.2.1 51 rfl).trans y)⟩ (by omega)
      · dsimp only
        exact JP.fin (kqj_X4_ifStatement_32 _ (kqS2 dc) _ F7 G7 CFS.rf) (nqj_choice_29 _ (nqS2 dm) _ _ F8 G8 MFS.rf) h (fun _ _ _ _ _ _ w => .inr w)
    · dsimp only
      exact JP.fin (kqj_X4_ifStatement_17 _ (kqS2 dc) F3 G3 CFS.rf) (nqj_choice_11 _ (nqS2 dm) _ F4 G4 MFS.rf) h1 (fun _ _ _ _ _ _ w => .inr w)
  · dsimp only
    exact JP.fin (kqj_X4_ifStatement_9 _ (kqS2 dc) _ F1 G1 CFS.rf) (nqj_choice_4 _ (nqS2 dm) _ F2 G2 MFS.rf) (.inr o) (fun _ _ _ _ _ _ w => .inr w)
end JW9F
