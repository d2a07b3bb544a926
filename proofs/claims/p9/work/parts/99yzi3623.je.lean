section JE23
variable {fu : Nat} {X : JCX} {p : Int32} {N K n q nf t i l : Nat} {s s6 : SH} {hs : List JHO} {κ : Int} {Fc Fm F1 F2 F3 F4 Fa Fb : PF} {Gc Gm G1 G2 G3 G4 Ga Gb : PG} {Q : Int32 → PF → PG → Int32 → PF → PG → Prop} {ps : List JPE} {ag : Int32 → Int32 → Int32 → PF → PG → PR} {bg : Int32 → Int32 → PF → PG → PR} {x3 : Int32} {dm dc : Nat}
/-- behind a sign between operands -/
theorem je_go {w : Nat} (I : jIn X p N K n q nf t i Fc Gc Fm Gm) (hQ : ∀ (r1 : Int32) (F1 : PF) (G1 : PG) (r2 : Int32) (F2 : PF) (G2 : PG), jEnd F1 F2 → Q r1 F1 G1 r2 F2 G2) (hag : ∀ (F0 : PF) (x1 x2 x3 : Int32) (F : PF) (G : PG), CFS F0 F → PP (ag x1 x2 x3 F G) (fun _ F' _ => CFS F0 F')) (hbg : ∀ (F0 : PF) (x1 x2 : Int32) (F : PF) (G : PG), MFS F0 F → PP (bg x1 x2 F G) (fun _ F' _ => MFS F0 F')) (h6 : jAl X p N i l 0 κ s s6 hs Fc Gc Fm Gm (fup Fa 21 (Fc 21)) Ga (fup Fb 70 (Fm 70)) Gb) (h2 : (Fc 21).toInt ≤ (Fa 21).toInt) (h3 : (Fa 21).toInt ≤ (Gm 6 l).toInt) (h4 : (Fm 70).toInt ≤ (Fb 70).toInt) (ln : l < N) (hw : w ≤ tlen (Gm 4 l) (Gm 5 l)) (kc : KX [21] [20] Fa Ga F3 G3) (km : KX [70] [67, 68, 69] Fb Gb F4 G4) (c21 : (F3 21).toInt = (Fa 21).toInt + w) (c20 : ∀ k : Nat, (k : Int) < (Fa 21).toInt → G3 20 k = Ga 20 k) (m67 : ∀ k : Nat, (k : Int) < (Fb 70).toInt → G4 67 k = Gb 67 k ∧ G4 68 k = Gb 68 k ∧ G4 69 k = Gb 69 k) (H : ∀ F5 : PF, jAl X p N i (l + 1) 0 (κ + -2 * (w : Int)) s s6 hs Fc Gc Fm Gm (fup F5 21 (Fc 21)) G3 (fup (fup F4 42 (F4 42 + 1)) 70 (Fm 70)) G4 → F5 21 = F3 21 → (F5 21).toInt ≤ (Gm 6 (l + 1)).toInt → JP (ag (Fc 21) 1 (x3 + 1) F5 G3) ((mS1 fu dm 7 0 0 (fup F4 42 (F4 42 + 1)) G4).bind (fun q => bg (Fm 70) q.1 q.2.1 q.2.2)) Q) : JP (cb_X3_joinedOperands_149 fu (cS1 fu dc) ag (Fc 21) 1 x3 F3 G3) (mb_chain_139 fu (mS1 fu dm) bg (Fm 70) (fup F4 42 (F4 42 + 1)) G4) Q := by
  have S6 := I.1.keep h6.1.1 h6.1.2
  have kc' : KX [21] [20] (fup Fa 21 (Fc 21)) Ga F3 G3 := KX.tr (KX.tr KX.rf KX.un rfl rfl) kc rfl rfl
  have km' : KX [70] [67, 68, 69] (fup Fb 70 (Fm 70)) Gb F4 G4 := KX.tr (KX.tr KX.rf KX.un rfl rfl) km rfl rfl
  have S3 := S6.keep (KX.tr (KX.rf (a := jXc) (b := jYc)) kc' rfl rfl) (KX.tr (KX.rf (a := jXm) (b := jYm)) km' rfl rfl)
  have C3 : CU N l F3 G3 F4 G4 := by
    have C6 := h6.2.1.1
    unfold CU at C6 ⊢
    rw [kc'.1 9 rfl, km'.1 42 rfl, kc'.1 10 rfl, km'.1 43 rfl, kc'.1 14 rfl, km'.1 44 rfl, kc'.1 11 rfl, kc'.1 12 rfl, kc'.1 13 rfl, kc'.2 90 rfl, kc'.2 91 rfl, kc'.2 92 rfl]
    exact C6
  unfold cb_X3_joinedOperands_149
  refine JP.L (jo_next S3.1 C3 ln) ?_
  rintro _ F5 G5 (o | o)
  · dsimp only
    obtain ⟨u1, ⟨u2, rfl, -, -⟩, u6⟩ := h6.push I h2 h3 h4 ln hw kc km c21 c20 m67 o
    unfold cb_X3_joinedOperands_156 mb_chain_139 mb_chain_143
    exact H F5 u1 u2 u6
  · dsimp only
    exact JP.fin (kqj_X3_joinedOperands_156 _ (kqS1 dc) ag (hag F5) _ _ _ F5 G5 CFS.rf) (nqj_chain_139 _ (nqS1 dm) bg (hbg _) _ _ _ MFS.rf) (.inr o) hQ
/-- a sign between operands goes to what waits -/
theorem je_more {v : Nat} (I : jIn X p N K n q nf t i Fc Gc Fm Gm) (hQ : ∀ (r1 : Int32) (F1 : PF) (G1 : PG) (r2 : Int32) (F2 : PF) (G2 : PG), jEnd F1 F2 → Q r1 F1 G1 r2 F2 G2) (hag : ∀ (F0 : PF) (x1 x2 x3 : Int32) (F : PF) (G : PG), CFS F0 F → PP (ag x1 x2 x3 F G) (fun _ F' _ => CFS F0 F')) (hbg : ∀ (F0 : PF) (x1 x2 : Int32) (F : PF) (G : PG), MFS F0 F → PP (bg x1 x2 F G) (fun _ F' _ => MFS F0 F')) (h : jCh X p N i l κ s (0 :: jPs s ps) ps 0 Fc Gc Fm Gm F1 G1 F2 G2) (hk : κ + ps.length ≤ 0) (v0 : v < 45) (v1 : ¬ lvS (nI v) = -1) (t4 : Gm 4 l = 4) (t5 : Gm 5 l = nI v) (c11 : F1 11 = kS v) (ln : l < N) (H : ∀ (ps : List JPE) (κ : Int) (F1 : PF) (G1 : PG) (F2 : PF) (G2 : PG), jCh X p N i (l + 1) κ s (jPs s ps) ps 0 Fc Gc Fm Gm F1 G1 F2 G2 → κ + ps.length ≤ 0 → JP (ag (Fc 21) 1 (x3 + 1) F1 G1) ((mS1 fu dm 7 0 0 F2 G2).bind (fun q => bg (Fm 70) q.1 q.2.1 q.2.2)) Q) : JP (cb_X3_joinedOperands_138 fu (cS1 fu dc) ag (Fc 21) 1 x3 F1 G1) (mb_chain_49 fu (mS1 fu dm) bg (Fm 70) (lvS (nI v)) F2 G2) Q := by
  have z1 := I.2.1.2.2.1.1
  have z2 := I.2.1.2.2.2.2.2
  have hp := I.1.2.1
  have I1 := h.inn I (by omega)
  obtain ⟨h1, ⟨h2, h2'⟩, h4, h5⟩ := id h
  have I0 := I.next h1 (by omega)
  have ix := I1.2.1.1.ix I1.1.1
  have g5 : G2 5 = Gm 5 := h1.1.2.2 5 rfl
  have lt4 := (I.1.1.2.2.2.1 l ln).2.2.2
  have n4 := I.1.1.1.2.1
  have i21 : (F1 21).toNatClampNeg = (Fc 21).toInt.toNat + jCn ps := by
    show (F1 21).toInt.toNat = _
    omega
  have i70 : (F2 70).toNatClampNeg = (Fm 70).toInt.toNat + ps.length := by
    show (F2 70).toInt.toNat = _
    omega
  have f1 : (F1 21 + 1).toInt = (F1 21).toInt + 1 := i_addn _ rfl (by omega) (by omega)
  have l1 : (1 : Int32).toInt = 1 := rfl
  have tl : tlen (Gm 4 l) (Gm 5 l) = sgl v := by
    unfold tlen
    rw [t4, t5, if_pos rfl, nI_toInt (by omega), Int.toNat_natCast]
  have h70 : ∀ k : Nat, (k : Int) < (F2 70).toInt → k ≠ (Fm 70).toInt.toNat + ps.length := fun k hk => by omega
  unfold cb_X3_joinedOperands_138 mb_chain_49
  rw [if_neg v1]
  unfold mb_chain_56
  refine JP.ixR (fun _ => JP.ixR (fun v7 => ?_))
  have u70 : (F2 70).toInt < 600 := by
    have := (vp_in_iff.mp v7).2
    omega
  have f70 : (F2 70 + 1).toInt = (F2 70).toInt + 1 := i_addn _ rfl (by omega) (by omega)
  rw [ix, i70, g5, t5]
  unfold mb_chain_74
  refine JP.ixR (fun _ => ?_)
  rw [i70]
  unfold mb_chain_84
  by_cases lg : v = 14 ∨ v = 15
  · obtain ⟨w1, w2, w3⟩ := kS_lg v lg
    have rm : jRm 2 F1 := (h1.room I.1 I.2.2 (by omega)).ru
    rw [if_pos (show lvS (nI v) ≤ 1 from i_le.mpr w2)]
    have go : ∀ (wm cc : Int32) (ty : Nat), ((ty = 2 ∧ wm = 14 ∧ cc = 87 ∧ v = 14) ∨ (ty = 3 ∧ wm = 13 ∧ cc = 88 ∧ v = 15)) → (if kS v = 43 then (87 : Int32) else 88) = cc → JP ((cf_X3_waits fu (F1 11) F1 G1).bind (fun q => cb_X3_joinedOperands_149 fu (cS1 fu dc) ag (Fc 21) 1 x3 q.2.1 q.2.2)) (mb_chain_113 fu (mS1 fu dm) bg (Fm 70) wm (F2 70) F2 (gup (gup G2 67 ((Fm 70).toInt.toNat + ps.length) (nI v)) 68 ((Fm 70).toInt.toNat + ps.length) (lvS (nI v)))) Q := by
      intro wm cc ty hty hcc
      refine JP.L (cp_wait2 (F1 11) (by omega) (by rw [c11]; exact w1) rm) ?_
      rintro _ F3 G3 ⟨r, Fa, Ga, ca, r0, r1, rfl, rfl⟩
      rw [c11, hcc] at ca
      dsimp only
      unfold mb_chain_113
      generalize hG : gup (gup G2 67 ((Fm 70).toInt.toNat + ps.length) (nI v)) 68 ((Fm 70).toInt.toNat + ps.length) (lvS (nI v)) = G'
      have kG : KX [] [67, 68, 69] (fup F2 70 (Fm 70)) G2 (fup F2 70 (Fm 70)) G' := by
        rw [← hG]
        exact KX.g rfl (KX.g rfl KX.rf)
      have nG : ∀ a k : Nat, k ≠ (Fm 70).toInt.toNat + ps.length → G' a k = G2 a k := fun a k hk => by
        rw [← hG, gup_ne hk, gup_ne hk]
      have G67 : G' 67 ((Fm 70).toInt.toNat + ps.length) = nI v := by
        rw [← hG, gup_o (show (67 : Nat) ≠ 68 by decide), gup_i]
      have G68 : G' 68 ((Fm 70).toInt.toNat + ps.length) = lvS (nI v) := by
        rw [← hG, gup_i]
      refine JP.R (mp_em wm 0 0 F2 G') ?_
      rintro r' Fb Gb ⟨e', ⟨s9, s0⟩, mb, -⟩
      dsimp only
      unfold mb_chain_118
      refine JP.ixR (fun _ => ?_)
      rw [i70]
      unfold mb_chain_119 mb_chain_129
      have gg1 := h1.gg (G3 := G1) (G4 := G') KX.rf kG (fun _ _ => rfl) (fun k hk => ⟨nG 67 k (h70 k (by omega)), nG 68 k (h70 k (by omega)), nG 69 k (h70 k (by omega))⟩)
      have ca1 : EMC [cc, -1] (fup F1 21 (F1 21)) G1 Fa Ga := by
        rw [fup_sm]
        exact ca
      have ca' := ca1.rs (y := Fc 21)
      have mb1 : EMM wm 0 0 (fup F2 70 (F2 70)) G' Fb Gb := by
        rw [fup_sm]
        exact mb
      have mb' := mb1.rs (y := Fm 70)
      have a1 : jAl X p N l l 0 2 (0 :: jPs s ps) (jPs s ps) [(sN (fup F2 70 (Fm 70)), wN (fup F1 21 (Fc 21)) + 1, 0 :: jPs s ps, ty, 0, -1)] (fup F1 21 (Fc 21)) G1 (fup F2 70 (Fm 70)) G' (fup Fa 21 (Fc 21)) Ga (fup Fb 70 (Fm 70)) Gb := by
        refine jAl.jm I0.h7.1 I0.h7.2 gg1.2.1 ca' mb' (.inr ⟨rfl, .inr ?_⟩)
        rcases hty with ⟨y1, y2, y3, -⟩ | ⟨y1, y2, y3, -⟩
        · exact .inl ⟨y1, y2, y3, rfl⟩
        · exact .inr ⟨y1, y2, y3, rfl⟩
      have fa21 : Fa 21 = F1 21 := ca.1.1 21 rfl
      have fb70 : Fb 70 = F2 70 := mb.1.1 70 rfl
      have ga20 : Ga 20 = G1 20 := ca.1.2 20 rfl
      have j21 : (Fa 21 + 1).toNatClampNeg = (Fc 21).toInt.toNat + jCn ps + 1 := by
        rw [fa21]
        show (F1 21 + 1).toInt.toNat = _
        omega
      have f2 : (Fa 21 + 1 + 1).toInt = (F1 21).toInt + 2 := by
        rw [fa21]
        have := i_addn (F1 21 + 1) (n := 1) (m := 1) rfl (by omega) (by omega)
        omega
      rw [i21, j21]
      have low : ∀ k : Nat, k < (Fc 21).toInt.toNat + jCn ps → gup (gup Ga 20 ((Fc 21).toInt.toNat + jCn ps) r) 20 ((Fc 21).toInt.toNat + jCn ps + 1) (F1 11) 20 k = G1 20 k := fun k hk => by
        rw [gup_x (by omega), gup_x (by omega), ga20]
      have h6 := gg1.tr a1
      have s2 : sN (fup F2 70 (Fm 70)) = sN F2 := by show (fup F2 70 (Fm 70) 60).toNatClampNeg = _; rw [fup_n (by decide)]
      have w2' : wN (fup F1 21 (Fc 21)) = wN F1 := by show (fup F1 21 (Fc 21) 6).toNatClampNeg = _; rw [fup_n (by decide)]
      refine je_go (w := 2) I hQ hag hbg h6 (by rw [fa21]; omega) (by rw [fa21]; omega) (by rw [fb70]; omega) ln ?_ (KX.f rfl (KX.f rfl (KX.g rfl (KX.g rfl KX.rf)))) (KX.f rfl (KX.g rfl KX.rf)) ?_ ?_ ?_ ?_
      · rw [tl]
        rcases lg with y | y
        · rw [y]; decide
        · rw [y]; decide
      · rw [fup_s, f2, fa21]
        omega
      · intro k hk
        rw [fa21] at hk
        rw [low k (by omega), ga20]
      · intro k hk
        rw [fb70] at hk
        have ne := h70 k hk
        exact ⟨gup_ne ne, gup_ne ne, gup_ne ne⟩
      · intro F5 u1 u2 u6
        have e1 : jPs s ((v, (sN (fup F2 70 (Fm 70)), wN (fup F1 21 (Fc 21)) + 1, 0 :: jPs s ps, ty, 0, -1)) :: ps) = jPs s ps := if_pos lg
        have e2 : jHs ((v, (sN (fup F2 70 (Fm 70)), wN (fup F1 21 (Fc 21)) + 1, 0 :: jPs s ps, ty, 0, -1)) :: ps) = (sN (fup F2 70 (Fm 70)), wN (fup F1 21 (Fc 21)) + 1, 0 :: jPs s ps, ty, 0, -1) :: jHs ps := if_pos lg
        have e3 : jCn ((v, (sN (fup F2 70 (Fm 70)), wN (fup F1 21 (Fc 21)) + 1, 0 :: jPs s ps, ty, 0, -1)) :: ps) = jCn ps + 2 := congrArg (jCn ps + ·) (if_pos lg)
        have e4 : ((v, ((sN (fup F2 70 (Fm 70)), wN (fup F1 21 (Fc 21)) + 1, 0 :: jPs s ps, ty, 0, -1) : JHO)) :: ps).length = ps.length + 1 := rfl
        have r9 : r' = nI (sN (fup F2 70 (Fm 70))) := by
          rw [s2, e']
          exact (jnI s0).symm
        refine H ((v, (sN (fup F2 70 (Fm 70)), wN (fup F1 21 (Fc 21)) + 1, 0 :: jPs s ps, ty, 0, -1)) :: ps) (κ + 2 + -2 * ((2 : Nat) : Int)) F5 _ _ _ ⟨?_, ⟨?_, u6⟩, ?_, ⟨?_, ⟨v0, v1, ?_, ?_⟩, .inr ⟨lg, ?_, ?_, ?_, ?_, ?_, rfl, ?_, rfl⟩⟩⟩ ?_
        · rw [e1, e2]
          exact u1.ca (by omega) (Int.le_refl _)
        · rw [u2, fup_s, f2, e3]
          omega
        · rw [fup_n (show (70 : Nat) ≠ 42 by decide), fup_s, fb70, f70, e4]
          omega
        · refine h5.keep (fun k hk => low k hk) (fun k hk => ?_)
          have ne : k ≠ (Fm 70).toInt.toNat + ps.length := by omega
          rw [gup_ne ne, gup_ne ne, gup_ne ne, mb.1.2 67 rfl, mb.1.2 68 rfl, mb.1.2 69 rfl]
          exact ⟨nG _ k ne, nG _ k ne, nG _ k ne⟩
        · rw [gup_o (show (67 : Nat) ≠ 69 by decide), mb.1.2 67 rfl]
          exact G67
        · rw [gup_o (show (68 : Nat) ≠ 69 by decide), mb.1.2 68 rfl]
          exact G68
        · rw [gup_i]
          exact c11
        · rw [gup_i]
          exact r9
        · show sN (fup F2 70 (Fm 70)) < 9000
          rw [s2]
          exact s9
        · intro y
          rw [gup_x (by omega), gup_i]
          exact r0 (by rw [I1.1.2.2.1.2.2, y])
        · intro y
          rw [gup_x (by omega), gup_i]
          show r = nI (wN (fup F1 21 (Fc 21)) + 1)
          rw [w2']
          exact r1 (by rw [I1.1.2.2.1.2.2, y])
        · rcases hty with ⟨y1, -, -, y2⟩ | ⟨y1, -, -, y2⟩
          · exact y1.trans (if_pos y2).symm
          · exact y1.trans (if_neg (show ¬ v = 14 by omega)).symm
        · rw [e4]
          omega
    unfold mb_chain_101
    rcases lg with y | y
    · rw [if_pos (show lvS (nI v) = 0 by rw [y]; decide)]
      unfold mb_chain_106
      exact go 14 87 2 (.inl ⟨rfl, rfl, rfl, y⟩) (by rw [y]; decide)
    · rw [if_neg (show ¬ lvS (nI v) = 0 by rw [y]; decide)]
      unfold mb_chain_111
      exact go 13 88 3 (.inr ⟨rfl, rfl, rfl, y⟩) (by rw [y]; decide)
  · obtain ⟨w1, w2, w3⟩ := lv_two v v0 v1 lg
    rw [if_neg (show ¬ lvS (nI v) ≤ 1 from fun z => absurd (i_le.mp z) (by omega))]
    unfold mb_chain_97 mb_chain_118
    refine JP.ixR (fun _ => ?_)
    rw [i70]
    unfold mb_chain_119 mb_chain_129
    refine JP.L (cp_wait1 (F1 11) (by omega) (by rw [c11]; exact w2) (by rw [c11]; exact w3)) ?_
    rintro _ _ _ ⟨rfl, rfl⟩
    dsimp only
    rw [i21]
    have low : ∀ k : Nat, k < (Fc 21).toInt.toNat + jCn ps → gup G1 20 ((Fc 21).toInt.toNat + jCn ps) (F1 11) 20 k = G1 20 k := fun k hk => gup_x (by omega)
    refine je_go (w := 1) I hQ hag hbg h1 (by omega) h2' (by omega) ln (I.1.t1 ln) (KX.f rfl (KX.g rfl KX.rf)) (KX.f rfl (KX.g rfl (KX.g rfl (KX.g rfl KX.rf)))) (by rw [fup_s]; exact f1) (fun k hk => low k (by omega)) (fun k hk => ?_) ?_
    · have ne := h70 k hk
      rw [gup_ne ne, gup_ne ne, gup_ne ne, gup_ne ne, gup_ne ne, gup_ne ne, gup_ne ne, gup_ne ne, gup_ne ne]
      exact ⟨rfl, rfl, rfl⟩
    · intro F5 u1 u2 u6
      have e1 : jPs s ((v, ((0, 0, [], 0, 0, 0) : JHO)) :: ps) = 0 :: jPs s ps := if_neg lg
      have e2 : jHs ((v, ((0, 0, [], 0, 0, 0) : JHO)) :: ps) = jHs ps := if_neg lg
      have e3 : jCn ((v, ((0, 0, [], 0, 0, 0) : JHO)) :: ps) = jCn ps + 1 := congrArg (jCn ps + ·) (if_neg lg)
      have e4 : ((v, ((0, 0, [], 0, 0, 0) : JHO)) :: ps).length = ps.length + 1 := rfl
      refine H ((v, ((0, 0, [], 0, 0, 0) : JHO)) :: ps) (κ + -2 * ((1 : Nat) : Int)) F5 _ _ _ ⟨?_, ⟨?_, u6⟩, ?_, ⟨?_, ⟨v0, v1, ?_, ?_⟩, .inl ⟨lg, ?_⟩⟩⟩ ?_
      · rw [e1, e2]
        exact u1
      · rw [u2, fup_s, e3]
        omega
      · rw [fup_n (show (70 : Nat) ≠ 42 by decide), fup_s, f70, e4]
        omega
      · refine h5.keep (fun k hk => low k hk) (fun k hk => ?_)
        have ne : k ≠ (Fm 70).toInt.toNat + ps.length := by omega
        rw [gup_ne ne, gup_ne ne, gup_ne ne, gup_ne ne, gup_ne ne, gup_ne ne, gup_ne ne, gup_ne ne, gup_ne ne]
        exact ⟨rfl, rfl, rfl⟩
      · rw [gup_o (show (67 : Nat) ≠ 69 by decide), gup_o (show (67 : Nat) ≠ 68 by decide), gup_i]
      · rw [gup_o (show (68 : Nat) ≠ 69 by decide), gup_i]
      · rw [gup_i]
        exact c11
      · rw [e4]
        omega
end JE23
