section JW9H
variable {fu : Nat} {X Y : JCX} {p : Int32} {N K n q nf t t1 i j k : Nat} {d κ : Int} {s s1 : SH} {hs hs1 LB LC l0 : List JHO} {ls : List (Nat × Nat × SH)} {Fc Fm F1 F2 F3 F4 F7 F8 Fd : PF} {Gc Gm G1 G2 G3 G4 G7 G8 Gd : PG} {ws : List Int32} {w a b : Int32}
theorem jD.em (h7 : F1 7 = 0 ∨ F1 7 = 1) (D : jD N j F1 G1 F2 G2) (c : EMC ws F1 G1 F3 G3) (m : EMM w a b F2 G2 F4 G4) : jD N j F3 G3 F4 G4 := (jAl.fx (X := (false, [], [], fun _ => [])) (p := 0) (s := []) (s1 := []) (hs := []) h7 (fun z => absurd z (by decide)) D c m (fun z => absurd z (by decide))).2.1
/-- the end of a loop, for both -/
theorem jW.lab {y : Nat × Nat × SH} (h : jW X Y p N i j d κ s s1 hs ls Fc Gc Fm Gm F1 G1 F2 G2) (hp : p = 1) (hy : y ∈ ls) : y.1 ≤ sN F2 := by
  obtain ⟨mu, A, lz, -, -, -, -, -, -, a10, -⟩ := h.2.2.2.2.2.2.2 hp (fun _ => wN Fc) (fun _ => (s, some X.2.2.1)) rfl rfl
  exact (a10 y hy).2.1
theorem jb_lend {kc km Rx : PF → PG → PR} {Q : Int32 → PF → PG → Int32 → PF → PG → Prop} {xr lw lt chv : Int32} {tt ww lo : Nat} (V0 : jV X p N K n q nf t i Fc Gc Fm Gm) (V4 : jV Y p N K n q nf t1 k F7 G7 Fd Gd) (W : jW X Y p N i k d κ [] [] (LB ++ (LC ++ l0)) ls Fc Gc Fm Gm F7 G7 Fd Gd) (hκ : κ + 2 ≤ 200) (hr : (Fc 6).toInt + (κ + 2) ≤ 2 * (Gm 6 i).toInt + 100) (le : jLe Y.2.2.1 X.2.2.1) (lc : p = 1 → ∀ y ∈ LC, tt ≤ y.1) (hl : (tt, ww, []) ∈ ls) (ew : p = 1 → lw = nI ww) (et : p = 1 → lt = nI tt)
    (ch : p = 1 → jLk LB lo (wN F7) (Fd 63) (F7 30) (-1) (-1) ∧ jLk LC lo (wN F7) (Fd 64) (F7 31) (-1) (-1)) (kd : KX [63, 64, 65, 66] [57] Fd Gd F8 G8) (g8 : p = 1 → G8 = jPa 57 lt (LC.map (fun y => y.1)) Gd) (e65 : chv = Fd 63)
    (hl0 : (l0 = [] ∧ xr = -1) ∨ ∃ x0 : JHO, l0 = [x0] ∧ (x0.2.2.1 = [] ∧ x0.2.2.2.1 ≤ 1 ∧ x0.2.2.2.2.2 = -1) ∧ (p = 0 → xr = -1) ∧ (p = 1 → xr = nI x0.2.1))
    (hR : ∀ (a : PR) (F : PF) (G : PG), JP a ((mf_settle fu chv (F 60) F (jPa 57 (F 60) (l0.map (fun y => y.1)) G)).bind (fun q => km q.2.1 q.2.2)) Q → JP a (Rx F G) Q)
    (H : ∀ (F9 : PF) (G9 : PG) (Fy : PF) (Gy : PG), jV Y p N K n q nf t1 k F9 G9 Fy Gy → jW X Y p N i k d (κ + 2) [] [] [] ls Fc Gc Fm Gm F9 G9 Fy Gy → KX [6] [5] F7 G7 F9 G9 → KX [60] [56, 57, 58, 59] F8 G8 Fy Gy → JP (kc F9 G9) (km Fy Gy) Q) :
    JP ((cf_X1_addPair fu 84 lw F7 G7).bind (fun q => (cf_X1_aim fu (q.2.1 31) lw q.2.1 q.2.2).bind (fun q => (cf_X1_aim fu xr (q.2.1 6) q.2.1 q.2.2).bind (fun q => (cf_X1_aim fu (q.2.1 30) (q.2.1 6) q.2.1 q.2.2).bind (fun q => kc q.2.1 q.2.2))))) ((mf_step fu 12 lt 0 F8 G8).bind (fun q => Rx q.2.1 q.2.2)) Q := by
  have hp := V4.1.1.2.1
  have hY := V4.2.1.1
  have h7 := V4.1.h7
  have D4 := V4.1.2.1
  have D8 : jD N k F7 G7 F8 G8 := by
    have y1 : KX [63, 64, 65, 66] [] Fd Gd F8 Gd := ⟨fun m hm => kd.1 m hm, fun _ _ => rfl⟩
    have y2 : KX [] [57] F8 Gd F8 G8 := ⟨fun _ _ => rfl, fun m hm => kd.2 m hm⟩
    exact (D4.mv KX.rf (KX.tr KX.rf y1 rfl rfl)).gg KX.rf y2
  have cap := W.cap V0 D4 (by omega)
  -- what comes of it in any case
  have asm : ∀ (F9 : PF) (G9 : PG) (Fy : PF) (Gy : PG), KX [6] [5] F7 G7 F9 G9 → KX [60] [56, 57, 58, 59] F8 G8 Fy Gy → jD N k F9 G9 Fy Gy → (F9 6).toInt ≤ (F7 6).toInt + 2 → (p = 1 → ∀ (mu : Nat → Nat) (A : JAN), A (sN Fm) = ([], some X.2.2.1) → mu (sN Fm) = wN Fc → JX Y Fc Gc Fm Gm mu A F9 G9 Fy Gy [] [] ls) → JP (kc F9 G9) (km Fy Gy) Q := by
    intro F9 G9 Fy Gy k9 ky D9 r9 J
    have kdy : KX [60, 63, 64, 65, 66] [56, 57, 58, 59] Fd Gd Fy Gy := KX.tr (KX.tr KX.rf kd rfl rfl) ky rfl rfl
    obtain ⟨a0, ⟨a1, a2⟩, a4, a5, a6, a7, pe, a8⟩ := W
    refine H F9 G9 Fy Gy (V4.mv (KX.tr KX.rf k9 rfl rfl) (KX.tr KX.rf kdy rfl rfl) ?_ ?_ (V4.2.1.2.2.kx k9 rfl) D9 ?_ (Nat.le_refl _)) ⟨a0, ⟨KX.tr a1 k9 rfl rfl, KX.tr a2 kdy rfl rfl⟩, a4, ?_, by omega, fun z => KX.tr (a7 z) k9 rfl rfl, fun z => (pe z).tr (jPe.of k9 kdy rfl rfl), J⟩ k9 ky
    · rw [k9.1 46 rfl]; exact V4.x0
    · rw [kdy.1 54 rfl]; exact V4.2.1.2.1
    · rw [a2.2 6 rfl]
      omega
    · rw [k9.1 10 rfl]; exact a5
  refine JP.L (cp_wpair 84 lw G7 (W.room V0 D4 (by omega))) ?_
  rintro ra F3 G3 c1
  dsimp only
  have r3 : (F3 6).toInt ≤ (F7 6).toInt + 2 := by
    rcases h7.1 with z | z
    · rw [(c1.2.1 z).1]
      omega
    · have : (F3 6).toInt = (F7 6).toInt + ((2 : Nat) : Int) := (c1.2.2 z).1
      omega
  refine JP.R (mp_em 12 lt 0 F8 G8) ?_
  rintro rb F6 G6 ⟨-, -, m2, -⟩
  dsimp only
  have D6 : jD N k F3 G3 F6 G6 := D8.em h7.1 c1 m2
  refine hR _ F6 G6 ?_
  rcases hp with hp0 | hp1
  · have no : p = 1 → False := fun z => by rw [hp0] at z; exact absurd z (by decide)
    refine JP.L (cw_X1_aim _ _ F3 G3) ?_
    rintro _ Fa Ga ka
    dsimp only
    refine JP.L (cw_X1_aim _ _ Fa Ga) ?_
    rintro _ Fb Gb kb
    dsimp only
    refine JP.L (cw_X1_aim _ _ Fb Gb) ?_
    rintro _ Fe Ge ke
    dsimp only
    have ea : Fa = F3 := funext (fun m => ka.1 m rfl)
    have eb : Fb = Fa := funext (fun m => kb.1 m rfl)
    have ee : Fe = Fb := funext (fun m => ke.1 m rfl)
    subst ee eb ea
    refine JP.R (mw_settle chv (F6 60) F6 _) ?_
    rintro _ Fy Gy ky
    dsimp only
    have ey : Fy = F6 := funext (fun m => ky.1 m rfl)
    subst ey
    have k5 : KX [] [5] Fe G3 Fe Ge := KX.tr (KX.tr ka kb rfl rfl) ke rfl rfl
    have k57 : KX [] [57] Fy G6 Fy Gy := KX.tr (jPa_k57 _ _) ky rfl rfl
    exact asm Fe Ge Fy Gy (KX.tr c1.1 k5 rfl rfl) (KX.tr m2.1 k57 rfl rfl) (D6.gg k5 k57) r3 (fun z => (no z).elim)
  · obtain ⟨chB, chC⟩ := ch hp1
    have z7 := h7.2 hp1
    have lwe := ew hp1
    have lte := et hp1
    have g8' := g8 hp1
    obtain ⟨nd, hol⟩ := W.hol hp1
    have dis := (W.2.2.2.2.2.2.2 hp1 (fun _ => wN Fc) (fun _ => ([], some X.2.2.1)) rfl rfl).dis
    have mB : ∀ y ∈ LB, y ∈ LB ++ (LC ++ l0) := fun y hy => List.mem_append_left _ hy
    have mC : ∀ y ∈ LC, y ∈ LB ++ (LC ++ l0) := fun y hy => List.mem_append_right _ (List.mem_append_left _ hy)
    have m0 : ∀ y ∈ l0, y ∈ LB ++ (LC ++ l0) := fun y hy => List.mem_append_right _ (List.mem_append_right _ hy)
    unfold jND at nd
    rw [List.map_append, List.map_append, List.nodup_append, List.nodup_append] at nd
    obtain ⟨nB, ⟨nC, n0, nC0⟩, nB0⟩ := nd
    have sBC : ∀ y ∈ LB, ∀ z ∈ LC, y.1 ≠ z.1 := fun y hy z hz => nB0 _ (List.mem_map.mpr ⟨y, hy, rfl⟩) _ (List.mem_append_left _ (List.mem_map.mpr ⟨z, hz, rfl⟩))
    have sB0 : ∀ y ∈ LB, ∀ z ∈ l0, y.1 ≠ z.1 := fun y hy z hz => nB0 _ (List.mem_map.mpr ⟨y, hy, rfl⟩) _ (List.mem_append_right _ (List.mem_map.mpr ⟨z, hz, rfl⟩))
    have sC0 : ∀ y ∈ LC, ∀ z ∈ l0, y.1 ≠ z.1 := fun y hy z hz => nC0 _ (List.mem_map.mpr ⟨y, hy, rfl⟩) _ (List.mem_map.mpr ⟨z, hz, rfl⟩)
    obtain ⟨cc1, cc2, cc3⟩ := c1.2.2 z7
    have w3 : wN F3 = wN F7 + 2 := c1.wn z7 D4.2.2.2.1
    have cc1' : (F3 6).toInt = (F7 6).toInt + ((2 : Nat) : Int) := cc1
    have rm : (F7 6).toInt + 2 ≤ 8400 := by
      rcases W.room (m := 2) V0 D4 (by omega) with z | ⟨-, -, z⟩
      · exact absurd (z.symm.trans z7) (by decide)
      · exact z
    have wd3 : wN F3 = (F3 6).toInt.toNat := rfl
    have e6 : F3 6 = nI (wN F3) := (jnI D6.2.2.2.1).symm
    have e60 : F6 60 = nI (sN F6) := (jnI D6.2.2.2.2.1).symm
    have f31 : F3 31 = F7 31 := c1.1.1 31 rfl
    have f30 : F3 30 = F7 30 := c1.1.1 30 rfl
    have low : ∀ y ∈ LB ++ (LC ++ l0), G3 5 y.2.1 = y.2.2.2.2.2 := fun y hy => by
      obtain ⟨-, y2, -, y4⟩ := hol y hy
      rw [cc2 _ y2.2]
      exact y4
    -- continues
    refine JP.L (cp_aimL (L := LC) (lo := lo) (hm := Fd 64) (bm := -1) (by rw [f31]; exact jLk.wd LC lo lo _ _ _ _ _ _ chC (Nat.le_refl _) (by omega)) D6.2.2.2.1 (by omega) (fun y hy => low y (mC y hy))) ?_
    rintro _ _ Ga ⟨rfl, ga⟩
    dsimp only
    -- what ends the loop
    have nC5 : ∀ y ∈ LB ++ (LC ++ l0), (∀ z ∈ LC, y.1 ≠ z.1) → y.2.1 ∉ LC.map (fun y => y.2.1) := fun y hy hn q => by
      obtain ⟨z, z1, z2⟩ := List.mem_map.mp q
      exact dis y hy z (mC z z1) (hn z z1) z2.symm
    have n05 : ∀ y ∈ LB, y.2.1 ∉ l0.map (fun y => y.2.1) := fun y hy q => by
      obtain ⟨z, z1, z2⟩ := List.mem_map.mp q
      exact dis y (mB y hy) z (m0 z z1) (sB0 y hy z z1) z2.symm
    have a2 : PP (cf_X1_aim fu xr (F3 6) F3 Ga) (fun _ F' G' => F3 = F' ∧ G' = jPa 5 (F3 6) (l0.map (fun y => y.2.1)) Ga) := by
      rcases hl0 with ⟨y1, y2⟩ | ⟨x0, y1, ⟨y2, y3, y4⟩, -, y5⟩
      · rw [y2, y1]
        exact PP.mono (cp_aim0 (-1) _ (by decide) F3 Ga) (fun _ F' G' q => ⟨q.1, q.2.symm⟩)
      · have x0m : x0 ∈ l0 := by rw [y1]; exact List.mem_cons_self ..
        obtain ⟨-, v2, -, -⟩ := hol x0 (m0 x0 x0m)
        rw [y1]
        refine PP.mono (cp_aim1 x0.2.1 xr _ F3 Ga (y5 hp1) (by omega) (by omega) ?_) (fun _ F' G' q => ⟨q.1, q.2⟩)
        rw [ga, jPa_x _ _ (nC5 x0 (m0 x0 x0m) (fun z hz => (sC0 z hz x0 x0m).symm)), low x0 (m0 x0 x0m)]
        exact y4
    refine JP.L a2 ?_
    rintro _ _ Gb ⟨rfl, gb⟩
    dsimp only
    -- breaks
    refine JP.L (cp_aimL (L := LB) (lo := lo) (hm := Fd 63) (bm := -1) (by rw [f30]; exact jLk.wd LB lo lo _ _ _ _ _ _ chB (Nat.le_refl _) (by omega)) D6.2.2.2.1 (by omega) (fun y hy => ?_)) ?_
    · rw [gb, jPa_x _ _ (n05 y hy), ga, jPa_x _ _ (nC5 y (mB y hy) (sBC y hy)), low y (mB y hy)]
    rintro _ _ Ge ⟨rfl, ge⟩
    dsimp only
    -- the reference's breaks
    have e8s : sN F8 = sN Fd := by show (F8 60).toNatClampNeg = _; rw [kd.1 60 rfl]
    refine JP.R (mp_setJ (L := LB) (lo := lo) (hi := wN F7) (hc := F7 30) (bc := -1) (by rw [e65]; exact chB) (fun y hy => ?_) nB) ?_
    · obtain ⟨v1, -, v3, -⟩ := hol y (mB y hy)
      have q0 : y.1 ∉ l0.map (fun y => y.1) := fun q => by
        obtain ⟨z, z1, z2⟩ := List.mem_map.mp q
        exact sB0 y hy z z1 z2.symm
      have qC : y.1 ∉ LC.map (fun y => y.1) := fun q => by
        obtain ⟨z, z1, z2⟩ := List.mem_map.mp q
        exact sBC y hy z z1 z2.symm
      have := sN_lt Fd
      refine ⟨by omega, ?_⟩
      rw [jPa_x _ _ q0, (m2.2.2.1 y.1 (by rw [e8s]; omega)).2.1, g8', jPa_x _ _ qC]
      exact v3
    rintro _ _ Gy ⟨rfl, gy⟩
    dsimp only
    have m2' : EMM 12 (nI tt) 0 F8 (jPa 57 (nI tt) (LC.map (fun y => y.1)) Gd) F6 G6 := by
      rw [← lte, ← g8']
      exact m2
    have c1' : EMC [84, nI ww] F7 G7 F3 G3 := by
      rw [← lwe]
      exact c1
    have k5 : KX [] [5] F3 G3 F3 Ge := by
      rw [ge, gb, ga]
      exact KX.tr (KX.tr (jPa_k5 _ _) (jPa_k5 _ _) rfl rfl) (jPa_k5 _ _) rfl rfl
    have k57 : KX [] [57] F6 G6 F6 Gy := by
      rw [gy]
      exact KX.tr (jPa_k57 _ _) (jPa_k57 _ _) rfl rfl
    refine asm F3 Ge F6 Gy (KX.tr c1.1 k5 rfl rfl) (KX.tr m2.1 k57 rfl rfl) (D6.gg k5 k57) r3 (fun _ mu A h1 h2 => ?_)
    have kk : ∀ (L : List JHO) (hm hc : Int32), jLk L lo (wN F7) hm hc (-1) (-1) → ∀ y ∈ L, y.2.2.1 = [] ∧ y.2.2.2.1 ≤ 1 := fun L hm hc h y hy => by
      obtain ⟨-, -, v1, v2⟩ := jLk.mem L _ _ _ _ _ _ h y hy
      exact ⟨v1, by omega⟩
    have J := JX.lend (F8 := F8) ((jBg.of h1).le le) (lc hp1) hY (W.2.2.2.2.2.2.2 hp1 mu A h1 h2) hl (kk LB _ _ chB) (kk LC _ _ chC) (fun y hy => by
      rcases hl0 with ⟨y1, -⟩ | ⟨x0, y1, ⟨y2, y3, -⟩, -⟩
      · rw [y1] at hy
        exact nomatch hy
      · rw [y1] at hy
        rcases List.mem_cons.mp hy with e | e
        · rw [e]
          exact ⟨y2, y3⟩
        · exact nomatch e) (kd.1 60 rfl) D4.2.2.2.2.1 D4.2.2.2.1 z7 c1' m2'
    rw [ge, gb, ga, gy, lwe, e6, e60]
    exact J
/-- while -/
theorem jb_while {dm dc : Nat} (ih : jPbd fu p N K n q nf dm) (V : jV X p N K n q nf t i Fc Gc Fm Gm) (he : (Fm 15).toInt + 1 ≤ 4 * (i : Int) + 1) (h11 : Fc 11 = 10) : JP (ch_X4_whileStatement fu (cS2 fu dc) Fc Gc) (mh_loop fu (mS2 fu dm) Fm Gm) (fun _ F1 G1 r2 F2 G2 => jOs X p N K n q nf i 0 Fc Gc Fm Gm r2 F1 G1 F2 G2) := by
  have I := V.1
  have hX := V.2.1.1
  have hp := I.1.2.1
  have o0 := I.2.1.1.2.2.2.2.1
  have wd := I.wd (w := 6) (a := 10) (b := 6) (by decide) (by decide) (by decide)
  have li := I.2.1.1.ltW I.1.1 (wd.mp h11)
  unfold ch_X4_whileStatement cb_X4_whileStatement_0 mh_loop mb_loop_0
  refine JP.both (jo_opT I.1.1 I.2.1.1 li h11) ?_
  rintro r1 F1 G1 r2 F2 G2 (⟨rfl, rfl, o⟩ | o)
  · dsimp only
    have e0 := jAl.on (X := X) (p := p) (s := []) I.1 I.2.1 li (I.1.t1 li) o
    have I1 := I.next e0 (by omega)
    have t60 : Fm 60 = nI (sN F2) := by
      have y := e0.2.1.2.2.2.2.1
      rw [← show F2 60 = Fm 60 from o.2.1.2.1 60 rfl]
      exact (jnI y).symm
    have t6 : F1 6 = nI (wN F1) := (jnI e0.2.1.2.2.2.1).symm
    unfold cb_X4_whileStatement_9 mb_loop_9
    rw [if_neg i10n, if_neg i10n]
    unfold cb_X4_whileStatement_13 mb_loop_12
    refine JP.both (jc_condition (s := []) I1) ?_
    rintro r3 F3 G3 r4 F4 G4 (⟨rfl, j, h1⟩ | h1)
    · dsimp only
      have I2 := I1.next h1 (by omega)
      unfold mb_loop_16
      rw [if_neg i10n]
      unfold cb_X4_whileStatement_35 mb_loop_21
      refine JP.L (cp_wjump 86 (-1) G3 ((e0.tr h1).room I.1 I.2.2 (by omega))) ?_
      rintro ra F5 G5 ⟨c1, c2, c3⟩
      dsimp only
      refine JP.R (mp_em 13 0 0 F4 G4) ?_
      rintro rb F6 G6 ⟨m0, m1, m2, m3⟩
      dsimp only
      have e1 : jAl X p N j j 0 2 [0] [] [(sN F4, wN F3 + 1, [], 1, 0, -1)] F3 G3 F4 G4 F5 G5 F6 G6 := jAl.jm I2.h7.1 I2.h7.2 I2.2.1 c1 m2 (.inr ⟨rfl, .inl ⟨rfl, rfl, rfl, rfl⟩⟩)
      have hA : jAl X p N (i + 1) j 0 (-2) [] [] [(sN F4, wN F3 + 1, [], 1, 0, -1)] F1 G1 F2 G2 F5 G5 F6 G6 := (h1.tr e1).ca (by omega) (by omega)
      have ij : i + 1 ≤ j := h1.2.2.1.1
      have V3 := V.al (e0.tr hA) (by omega)
      generalize hx0 : ((sN F4, wN F3 + 1, [], 1, 0, -1) : JHO) = x0 at hA
      have x01 : x0.1 = sN F4 := by rw [← hx0]
      have x02 : x0.2.1 = wN F3 + 1 := by rw [← hx0]
      have x03 : x0.2.2.1 = [] ∧ x0.2.2.2.1 ≤ 1 ∧ x0.2.2.2.2.2 = -1 := by rw [← hx0]; exact ⟨rfl, Nat.le_refl _, rfl⟩
      have eA := e0.tr hA
      have n60 : ¬ Fm 60 = -1 := by rw [t60]; exact nI_n1 (sN_lt F2)
      unfold cb_X4_whileStatement_45 mb_loop_29
      refine JP.both (ih dc t j (Fm 60) X F5 G5 F6 G6 V3 (by rw [eA.1.2.1 15 rfl]; omega) ?_ ?_) ?_
      · have y := V.2.2.1.2.2
        rw [eA.1.2.1 51 rfl]
        omega
      · have y1 := eA.2.2.2.2.2.2.1
        have y2 := I.2.2
        rw [eA.1.2.2 6 rfl]
        omega
      · rintro r7 F7 G7 r8 F8 G8 (⟨rfl, Y, t1, k, LB, LC, Fd, Gd, V4, W4, ⟨b1, b2, b3⟩, b4, ⟨kd, d65, d63, d64⟩, -, g8, bL⟩ | h)
        · dsimp only
          have W : jW X Y p N i k 1 (-3) [] [] (LB ++ (LC ++ [x0])) [(sN F2, wN F1, [])] Fc Gc Fm Gm F7 G7 Fd Gd := ((((jW.al e0).la.tr (jW.al hA)).tr W4).pm (List.Perm.of_eq (by simp))).ca (by omega) (by omega)
          unfold mb_loop_35
          rw [if_neg i10n]
          unfold cb_X4_whileStatement_51 cb_X4_whileStatement_61 cb_X4_whileStatement_73 cb_X4_whileStatement_89 mb_loop_40
          refine jb_lend (kc := fun F G => cb_X4_whileStatement_107 fu (cS2 fu dc) (F1 30) (F1 31) F G) (km := fun F G => mb_loop_73 fu (mS2 fu dm) F G) (Rx := fun F G => mb_loop_53 fu (mS2 fu dm) rb (F8 65) 0 F G) (chv := F8 65) (lo := wN F5) (ls := [(sN F2, wN F1, [])]) (tt := sN F2) (ww := wN F1) V V4 W (by omega) (by have := V.1.2.2; omega) bL (fun z y hy => Nat.le_trans ((jW.al hA).wl z).2 ((W4.hol z).2 y (List.mem_append_right _ hy)).1.1) (List.mem_cons_self ..) (fun _ => t6) (fun _ => t60) b4 kd (g8 n60) d65 (.inr ⟨x0, rfl, x03, fun z => c2 (by rw [I2.1.2.2.1.2.2, z]), fun z => by rw [x02]; exact c3 (by rw [I2.1.2.2.1.2.2, z])⟩) ?_ ?_
          · intro a F G h
            unfold mb_loop_53 mb_loop_64
            refine JP.ixR (fun _ => ?_)
            rw [show rb.toNatClampNeg = x0.1 by rw [m0, x01]]
            exact h
          · intro F9 G9 Fy Gy V9 W9 k9 ky
            have kf : KX [30, 31] [] F9 G9 (fup (fup F9 30 (F1 30)) 31 (F1 31)) G9 := KX.f rfl (KX.f rfl KX.rf)
            have V10 := V9.fl kf (KX.rf (F := Fy) (G := Gy))
            have W10 := W9.st (KX.tr KX.rf kf rfl rfl) KX.rf (kf.1 10 rfl) (kf.1 6 rfl) rfl rfl (fun _ _ _ => rfl) (fun _ => jPe.of (z := []) (w := []) kf KX.rf rfl rfl)
            unfold cb_X4_whileStatement_107 cb_X4_whileStatement_112 cb_X4_whileStatement_117 mb_loop_73
            refine JP.L (jo_closes (Fm := Fy) (Gm := Gy) V10.1.2.1.1 (by have := W10.2.2.2.1; omega)) ?_
            rintro r9 Fe Ge oe
            dsimp only
            have e9 := jAl.cl (X := Y) (p := p) (s := []) V10.1.2.1 oe
            unfold cb_X4_whileStatement_124 mb_loop_83
            have kt : ∀ m : Nat, m = 15 ∨ m = 51 ∨ m = 63 ∨ m = 64 → fup Fy 43 (Fy 43 - 1) m = F8 m := fun m hm => by
              rcases hm with z | z | z | z <;> rw [z, fup_n (by decide)]
              · exact ky.1 15 rfl
              · exact ky.1 51 rfl
              · exact ky.1 63 rfl
              · exact ky.1 64 rfl
            have w30 : Fe 30 = Fc 30 := by rw [e9.1.1.1 30 rfl, fup_n (by decide), fup_s]; exact e0.1.1.1 30 rfl
            have w31 : Fe 31 = Fc 31 := by rw [e9.1.1.1 31 rfl, fup_s]; exact e0.1.1.1 31 rfl
            refine JP.ret (jOs.ac (LB := []) (LC := []) (V10.al e9 (Int.le_refl _)) ⟨((W10.fo.tr (jW.al e9)).pm (List.Perm.refl _)).ca (by omega) (by omega), ⟨?_, ?_⟩, fun _ => ⟨⟨?_, w30⟩, ?_, w31⟩, fun _ _ => ⟨rfl, rfl⟩⟩ (by omega))
            · rw [kt 15 (.inl rfl), kd.1 15 rfl, b1, eA.1.2.1 15 rfl]
            · rw [kt 51 (.inr (.inl rfl)), kd.1 51 rfl, b2, eA.1.2.1 51 rfl]
            · rw [kt 63 (.inr (.inr (.inl rfl))), d63, eA.1.2.1 63 rfl]
            · rw [kt 64 (.inr (.inr (.inr rfl))), d64, eA.1.2.1 64 rfl]
        · dsimp only
          exact JP.fin (kqj_X4_whileStatement_51 _ (kqS2 dc) _ _ _ _ F7 G7 CFS.rf) (nqj_loop_35 _ (nqS2 dm) _ _ _ F8 G8 MFS.rf) h (fun _ _ _ _ _ _ w => .inr w)
    · dsimp only
      exact JP.fin (kqj_X4_whileStatement_35 _ (kqS2 dc) _ _ _ F3 G3 CFS.rf) (nqj_loop_16 _ (nqS2 dm) _ _ F4 G4 MFS.rf) h1 (fun _ _ _ _ _ _ w => .inr w)
  · dsimp only
    exact JP.fin (kqj_X4_whileStatement_9 _ (kqS2 dc) _ F1 G1 CFS.rf) (nqj_loop_9 _ (nqS2 dm) _ _ F2 G2 MFS.rf) (.inr o) (fun _ _ _ _ _ _ w => .inr w)
end JW9H
