section JW9K
variable {fu : Nat} {X : JCX} {p : Int32} {N K n q nf t i : Nat} {Fc Fm : PF} {Gc Gm : PG}
/-- for -/
theorem jb_for {dm dc : Nat} (ih : jPbd fu p N K n q nf dm) (V : jV X p N K n q nf t i Fc Gc Fm Gm) (he : (Fm 15).toInt + 1 ≤ 4 * (i : Int) + 1) (h11 : Fc 11 = 12) : JP (ch_X4_forStatement fu (cS2 fu dc) Fc Gc) (mh_counted fu (mS2 fu dm) Fm Gm) (fun _ F1 G1 r2 F2 G2 => jOs X p N K n q nf i 0 Fc Gc Fm Gm r2 F1 G1 F2 G2) := by
  have I := V.1
  have hp := I.1.2.1
  have o0 := I.2.1.1.2.2.2.2.1
  have wd := I.wd (w := 8) (a := 12) (b := 8) (by decide) (by decide) (by decide)
  have li := I.2.1.1.ltW I.1.1 (wd.mp h11)
  have t3 : 3 ≤ tlen (Gm 4 i) (Gm 5 i) := by
    obtain ⟨y1, y2⟩ := of_decide_eq_true (wd.mp h11)
    rw [I.2.1.1.ix I.1.1] at y1 y2
    rw [y1, y2]
    decide
  obtain ⟨n1, n2, n3⟩ := V.2.2.2.1
  have i4 : (i : Int) ≤ 4000 := by
    have := I.2.1.1.1
    have := I.1.1.1
    omega
  have ea : (Fm 15 + 1).toInt = (Fm 15).toInt + 1 := i_addn _ rfl (by omega) (by omega)
  unfold ch_X4_forStatement cb_X4_forStatement_0 mh_counted mb_counted_0
  refine JP.both (jo_opT I.1.1 I.2.1.1 li h11) ?_
  rintro r1 F1 G1 r2 F2 G2 (⟨rfl, rfl, o⟩ | o)
  · dsimp only
    have e0 := jAl.on (X := X) (p := p) (s := []) I.1 I.2.1 li t3 o
    have V1 := V.al e0 (by omega)
    have f15 : F2 15 = Fm 15 := e0.1.2.1 15 rfl
    have V1' := V1.ent (by rw [f15]; omega)
    unfold cb_X4_forStatement_9 mb_counted_4
    rw [if_neg i10n, if_neg i10n]
    unfold cb_X4_forStatement_13 mb_counted_7 cf_X5_enter cb_X5_enter_0 cb_X5_enter_10
    show JP (cb_X4_forStatement_30 fu (cS2 fu dc) (F1 30) (F1 31) (fup F1 42 (F1 42 + 1)) G1) _ _
    unfold cb_X4_forStatement_30
    have kF : KX [42] [] F1 G1 (fup F1 42 (F1 42 + 1)) G1 := KX.f rfl KX.rf
    have kE : KX [15] [] F2 G2 (fup F2 15 (F2 15 + 1)) G2 := KX.f rfl KX.rf
    have T1 : TKE N K n (fup F1 42 (F1 42 + 1)) G1 F2 G2 := V1.1.1.1.keep (kF.1 93 rfl) rfl rfl rfl rfl rfl rfl rfl rfl
    have C1 : CU N (i + 1) (fup F1 42 (F1 42 + 1)) G1 F2 G2 := V1.1.2.1.1.kx kF rfl rfl
    refine JP.both (jo_open T1 C1 (w := 22) (by decide) (by decide) (by decide)) ?_
    rintro r3 F3 G3 r4 F4 G4 (⟨rfl, rfl, hz, o2⟩ | o2)
    · dsimp only
      have li2 : i + 1 < N := V1.1.2.1.1.ltS V1.1.1.1 hz
      unfold cb_X4_forStatement_39 mb_counted_13
      rw [if_neg i10n, if_neg i10n]
      unfold mb_counted_18 mf_begins mb_begins_0 mb_begins_10
      show JP _ (mb_counted_27 fu (mS2 fu dm) (F4 15) (fup F4 15 (F4 15 + 1)) G4) _
      have g15 : F4 15 = F2 15 := o2.2.1.2.1 15 rfl
      have f43 : F4 15 = Fm 15 := g15.trans f15
      have o3 := o2.c15 (v := F2 15 + 1)
      have e2 := jAl.on (X := X) (p := p) (s := []) V1'.1.1 V1'.1.2.1 li2 (V1'.1.1.t1 li2) o3
      have V2 := V1'.al e2 (by omega)
      have Wp : jW X X p N i (i + 1) 1 (-6) [] [] [] [] Fc Gc Fm Gm (fup F1 42 (F1 42 + 1)) G1 (fup F2 15 (F2 15 + 1)) G2 := (((jW.al e0).st (KX.tr KX.rf kF rfl rfl) (KX.tr KX.rf kE rfl rfl) (kF.1 10 rfl) (kF.1 6 rfl) rfl (kE.1 60 rfl) (fun _ _ _ => rfl) (fun _ => jPe.of1 kF kE rfl (by rw [fup_s, f15, ea]; omega))).pm (List.Perm.refl _)).ca (by omega) (by omega)
      have Wi : jW X X p N (i + 1) (i + 1 + 1) 1 (-2) [] [] [] [] (fup F1 42 (F1 42 + 1)) G1 (fup F2 15 (F2 15 + 1)) G2 F3 G3 (fup F4 15 (F2 15 + 1)) G4 := (jW.al e2).ca (by omega) (by omega)
      have W2 : jW X X p N i (i + 1 + 1) 2 (-8) [] [] [] [] Fc Gc Fm Gm F3 G3 (fup F4 15 (F2 15 + 1)) G4 := ((Wp.tr Wi).pm (List.Perm.refl _)).ca (by omega) (by omega)
      have kp : fup F4 15 (F2 15 + 1) 15 = Fm 15 + 1 ∧ fup F4 15 (F2 15 + 1) 51 = Fm 51 ∧ fup F4 15 (F2 15 + 1) 63 = Fm 63 ∧ fup F4 15 (F2 15 + 1) 64 = Fm 64 := by
        refine ⟨?_, ?_, ?_, ?_⟩
        · rw [fup_s, f15]
        · rw [e2.1.2.1 51 rfl, kE.1 51 rfl, e0.1.2.1 51 rfl]
        · rw [e2.1.2.1 63 rfl, kE.1 63 rfl, e0.1.2.1 63 rfl]
        · rw [e2.1.2.1 64 rfl, kE.1 64 rfl, e0.1.2.1 64 rfl]
      have a30 : F1 30 = Fc 30 := e0.1.1.1 30 rfl
      have a31 : F1 31 = Fc 31 := e0.1.1.1 31 rfl
      have e14 : fup F2 15 (F2 15 + 1) 14 = Fm 14 := (kE.1 14 rfl).trans (e0.1.2.1 14 rfl)
      rw [g15, f15]
      rw [f15] at V2 W2 kp Wi Wp e14
      generalize fup F4 15 (Fm 15 + 1) = F5 at V2 W2 kp Wi ⊢
      have fin : ∀ (Y : JCX) (t1 j : Nat) (F7 : PF) (G7 : PG) (F8 : PF) (G8 : PG), jV Y p N K n q nf t1 j F7 G7 F8 G8 → jW X Y p N (i + 1) j 1 (-1) [] [] [] [] (fup F1 42 (F1 42 + 1)) G1 (fup F2 15 (Fm 15 + 1)) G2 F7 G7 F8 G8 → i + 2 ≤ j → (F8 15 = Fm 15 + 1 ∧ F8 51 = Fm 51 ∧ F8 63 = Fm 63 ∧ F8 64 = Fm 64) → JP (cb_X4_forStatement_83 fu (cS2 fu dc) (F1 30) (F1 31) F7 G7) (mb_counted_63 fu (mS2 fu dm) (Fm 15) F8 G8) (fun _ F1 G1 r2 F2 G2 => jOs X p N K n q nf i 0 Fc Gc Fm Gm r2 F1 G1 F2 G2) := by
        rintro Y t1 j F7 G7 F8 G8 V3 Wj ij ⟨k1, k2, k3, k4⟩
        have W0 : jW X Y p N i j 2 (-7) [] [] [] [] Fc Gc Fm Gm F7 G7 F8 G8 := ((Wp.tr Wj).pm (List.Perm.refl _)).ca (by omega) (by omega)
        have y1 := W0.2.2.2.2.1
        have y2 := V.1.2.2
        have y3 : G8 6 = Gm 6 := W0.2.1.2.2 6 rfl
        refine jf_test ih (fun _ _ _ _ _ _ w => .inr w) V3 (by rw [y3]; omega) (by have := W0.2.2.2.1; omega) (by rw [k1, ea]; omega) jLe.rf V3 jW.rf (by omega) (Nat.le_refl _) ⟨⟨rfl, rfl⟩, ⟨rfl, rfl⟩, rfl, rfl⟩ ?_
        rintro Z t2 m κ1 F9 G9 Fy Gy V9 W9 hk him ⟨g1, g2, g3, g4⟩
        refine jf_end V (by omega) V9 (((W0.tr W9).pm (List.Perm.refl _)).ca (d1 := 1) (κ1 := 0) (by omega) (by omega)) (Int.le_refl _) (by omega) (g1.trans k1) (g2.trans k2) (g3.trans k3) (g4.trans k4) rfl a30 a31 (fun z k h1 h2 => ?_)
        have y := ((Wj.tr W9).2.2.2.2.2.2.1 z).2.2.2 k (by rw [e14]; exact h1) h2
        rw [fup_s, ea] at y
        omega
      have sg := V2.1.sg (w := 29) (a := 26) (b := 29) (by decide) (by decide) (by decide)
      have wd4 := V2.1.wd (w := 0) (a := 4) (b := 0) (by decide) (by decide) (by decide)
      unfold mb_counted_27
      refine JP.isS (fun h => ?_) (fun h => ?_)
      · have z26 := sg.mpr h
        unfold cb_X4_forStatement_44
        rw [if_neg (fun z => absurd (z.symm.trans z26) (by decide))]
        unfold cb_X4_forStatement_63
        rw [if_neg i10n]
        unfold cb_X4_forStatement_67
        rw [if_pos z26]
        dsimp only
        unfold mb_counted_33
        rw [if_neg i10n]
        exact fin X t (i + 1 + 1) F3 G3 F5 G4 V2 (Wi.ca rfl (by omega)) (by omega) kp
      · have n26 : ¬ F3 11 = 26 := fun z => by rw [sg.mp z] at h; cases h
        dsimp only
        unfold mb_counted_33
        rw [if_pos rfl]
        unfold mb_counted_36
        refine JP.R (mp_isWord 0 F5 G4) ?_
        rintro z _ _ ⟨rfl, rfl, hw⟩
        dsimp only
        unfold cb_X4_forStatement_44 mb_counted_41
        rcases hw with ⟨rfl, hw⟩ | ⟨rfl, hw⟩
        · rw [if_pos (wd4.mpr hw), if_neg i10n]
          unfold cb_X4_forStatement_55 mb_counted_44
          refine JP.both (jd_tell0 V2 (wd4.mpr hw)) ?_
          rintro r7 F7 G7 r8 F8 G8 (⟨rfl, Y, t1, j, V3, W3, ij, ⟨b1, b2⟩, ⟨b3, b4⟩, b5, b6⟩ | h1)
          · dsimp only
            unfold cb_X4_forStatement_60 mb_counted_49 mb_counted_56
            rw [if_neg i10n]
            exact fin Y t1 j F7 G7 F8 G8 V3 (((Wi.tr W3).pm (List.Perm.refl _)).ca (by omega) (by omega)) (by omega) ⟨b1.trans kp.1, b2.trans kp.2.1, b3.trans kp.2.2.1, b5.trans kp.2.2.2⟩
          · dsimp only
            exact JP.fin (kqj_X4_forStatement_60 _ (kqS2 dc) _ _ F7 G7 CFS.rf) (nqj_counted_49 _ (nqS2 dm) _ _ F8 G8 MFS.rf) h1 (fun _ _ _ _ _ _ w => .inr w)
        · rw [if_neg (fun z => by rw [wd4.mp z] at hw; cases hw), if_pos rfl]
          unfold cb_X4_forStatement_63
          rw [if_neg i10n]
          unfold cb_X4_forStatement_67
          rw [if_neg n26]
          unfold cb_X4_forStatement_79 mb_counted_52
          refine JP.both (js_simple V2) ?_
          rintro r7 F7 G7 r8 F8 G8 (⟨rfl, j, h1⟩ | h1)
          · dsimp only
            unfold mb_counted_56
            rw [if_neg i10n]
            have W3 : jW X X p N i j 2 (-7) [] [] [] [] Fc Gc Fm Gm F7 G7 F8 G8 := ((W2.tr (jW.al h1)).pm (List.Perm.refl _)).ca (by omega) (by omega)
            have V3 := V2.alr h1 (by rw [W2.2.1.2.2 6 rfl]; exact W3.rm V (by omega))
            have kj : i + 1 + 1 ≤ j := h1.2.2.1.1
            exact fin X t j F7 G7 F8 G8 V3 (((Wi.tr (jW.al h1)).pm (List.Perm.refl _)).ca (by omega) (by omega)) (by omega) ⟨(h1.1.2.1 15 rfl).trans kp.1, (h1.1.2.1 51 rfl).trans kp.2.1, (h1.1.2.1 63 rfl).trans kp.2.2.1, (h1.1.2.1 64 rfl).trans kp.2.2.2⟩
          · dsimp only
            exact JP.fin (kqj_X4_forStatement_83 _ (kqS2 dc) _ _ F7 G7 CFS.rf) (nqj_counted_56 _ (nqS2 dm) _ _ F8 G8 MFS.rf) h1 (fun _ _ _ _ _ _ w => .inr w)
    · dsimp only
      exact JP.fin (kqj_X4_forStatement_39 _ (kqS2 dc) _ _ _ F3 G3 CFS.rf) (nqj_counted_13 _ (nqS2 dm) _ F4 G4 MFS.rf) (.inr o2) (fun _ _ _ _ _ _ w => .inr w)
  · dsimp only
    exact JP.fin (kqj_X4_forStatement_9 _ (kqS2 dc) _ F1 G1 CFS.rf) (nqj_counted_4 _ (nqS2 dm) _ F2 G2 MFS.rf) (.inr o) (fun _ _ _ _ _ _ w => .inr w)
end JW9K
