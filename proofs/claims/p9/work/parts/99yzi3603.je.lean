/-- how a pair of methods may end -/
def jOut (X : JCX) (p : Int32) (N i : Nat) (κ : Int) (s s1 : SH) (Fc : PF) (Gc : PG) (Fm : PF) (Gm : PG) (r2 : Int32) (F1 : PF) (G1 : PG) (F2 : PF) (G2 : PG) : Prop := (r2 = 1 ∧ ∃ j : Nat, jAl X p N i j 0 κ s s1 [] Fc Gc Fm Gm F1 G1 F2 G2) ∨ jEnd F1 F2
/-- expressions, chains, operands: the class's method and the reference's -/
def jPx (fu : Nat) (X : JCX) (p : Int32) (N K n q nf t : Nat) (ic im dm : Nat) : Prop := ∀ (dc i : Nat) (s : SH) (Fc : PF) (Gc : PG) (Fm : PF) (Gm : PG), jIn X p N K n q nf t i Fc Gc Fm Gm → JP (cS1 fu dc ic 0 0 Fc Gc) (mS1 fu dm im 0 0 Fm Gm) (fun _ F1 G1 r2 F2 G2 => jOut X p N i 0 s (0 :: s) Fc Gc Fm Gm r2 F1 G1 F2 G2)
section JE3
variable {fu : Nat} {X : JCX} {p : Int32} {N K n q nf t : Nat}
theorem i10n : ¬ (1 : Int32) = 0 := by decide
theorem je_expression {dm dc i : Nat} {s : SH} {Fc Fm : PF} {Gc Gm : PG} (ihC : jPx fu X p N K n q nf t 3 2 dm) (ihE : jPx fu X p N K n q nf t 1 4 dm) (I : jIn X p N K n q nf t i Fc Gc Fm Gm) : JP (ch_X3_expression fu (cS1 fu dc) Fc Gc) (mh_expression fu (mS1 fu dm) Fm Gm) (fun _ F1 G1 r2 F2 G2 => jOut X p N i 0 s (0 :: s) Fc Gc Fm Gm r2 F1 G1 F2 G2) := by
  have hp := I.1.2.1
  have o0 := I.2.1.1.2.2.2.2.1
  unfold ch_X3_expression cb_X3_expression_0 mh_expression mb_expression_0
  refine JP.both (ihC dc i s Fc Gc Fm Gm I) ?_
  rintro r1 F1 G1 r2 F2 G2 (⟨rfl, j, h1⟩ | h1)
  · dsimp only
    have I1 := I.next h1 (Int.le_refl _)
    unfold cb_X3_expression_4 mb_expression_4
    rw [if_neg i10n]
    unfold mb_expression_9
    refine JP.R (mp_isSign 30 F2 G2) ?_
    rintro z _ _ ⟨rfl, rfl, hz⟩
    dsimp only
    have sg := I1.sg (w := 30) (a := 27) (b := 30) (by decide) (by decide) (by decide)
    unfold mb_expression_15
    rcases hz with ⟨rfl, hz⟩ | ⟨rfl, hz⟩
    · rw [if_pos (sg.mpr hz), if_neg i10n]
      have lj := I1.2.1.1.ltS I1.1.1 hz
      unfold cb_X3_expression_16 mb_expression_20
      refine JP.both (jo_opT I1.1.1 I1.2.1.1 lj (sg.mpr hz)) ?_
      rintro r3 F3 G3 r4 F4 G4 (⟨rfl, rfl, o⟩ | o)
      · dsimp only
        unfold cb_X3_expression_25 mb_expression_24
        rw [if_neg i10n, if_neg i10n]
        have e0 := jAl.on (X := X) (p := p) (s := 0 :: s) I1.1 I1.2.1 lj (I1.1.t1 lj) o
        have h2 := h1.tr e0
        have I2 := I1.next e0 (by omega)
        unfold cb_X3_expression_29 mb_expression_29
        refine JP.L (cp_wjump 86 (-1) G3 (h2.room I.1 I.2.2 (by omega))) ?_
        rintro r5 F5 G5 ⟨c1, c2, c3⟩
        dsimp only
        refine JP.R (mp_em 13 0 0 F4 G4) ?_
        rintro r6 F6 G6 ⟨m0, m1, m2, m3⟩
        dsimp only
        have e1 : jAl X p N (j + 1) (j + 1) 0 2 (0 :: s) s [(sN F4, wN F3 + 1, s, 1, 0, -1)] F3 G3 F4 G4 F5 G5 F6 G6 := jAl.jm I2.h7.1 I2.h7.2 I2.2.1 c1 m2 (.inr ⟨rfl, .inl ⟨rfl, rfl, rfl, rfl⟩⟩)
        have h3 := h2.tr e1
        have I3 := I.next h3 (by omega)
        unfold cb_X3_expression_39 mb_expression_37
        refine JP.both (ihE dc (j + 1) s F5 G5 F6 G6 I3) ?_
        rintro r7 F7 G7 r8 F8 G8 (⟨rfl, k, h4⟩ | h4)
        · dsimp only
          have h5 := h3.tr h4
          have I4 := I3.next h4 (Int.le_refl _)
          unfold cb_X3_expression_44 mb_expression_42
          rw [if_neg i10n]
          unfold mb_expression_45
          refine JP.both (jo_sign I4.1.1 I4.2.1.1 (w := 31) (by decide) (by decide) (by decide)) ?_
          rintro r9 F9 G9 ra Fa Ga (⟨rfl, hy, o2⟩ | o2)
          · dsimp only
            have lk := I4.2.1.1.ltS I4.1.1 hy
            have e2 := jAl.on (X := X) (p := p) (s := 0 :: s) I4.1 I4.2.1 lk (I4.1.t1 lk) o2
            have h6 := h5.tr e2
            have I5 := I4.next e2 (by omega)
            unfold cb_X3_expression_53 mb_expression_51
            rw [if_neg i10n]
            unfold mb_expression_56
            refine JP.L (cp_wjump 84 (-1) G9 (h6.room I.1 I.2.2 (by omega))) ?_
            rintro rb Fb Gb ⟨c4, c5, c6⟩
            dsimp only
            refine JP.R (mp_em 12 0 0 Fa Ga) ?_
            rintro rd Fd Gd ⟨m4, m5, m6, m7⟩
            dsimp only
            have e3 : jAl X p N (k + 1) (k + 1) 0 2 (0 :: s) s [(sN Fa, wN F9 + 1, 0 :: s, 0, 0, -1)] F9 G9 Fa Ga Fb Gb Fd Gd := jAl.jm I5.h7.1 I5.h7.2 I5.2.1 c4 m6 (.inl ⟨rfl, rfl, rfl, rfl⟩)
            have h7 := h6.tr e3
            have I6 := I.next h7 (by omega)
            unfold cb_X3_expression_63 mb_expression_64
            refine JP.L (jp_aim (x := (sN F4, wN F3 + 1, s, 1, 0, -1)) hp h7 (by simp) (h7.cap I.1 I.2.2 (by omega)) (fun z => c2 (by rw [I2.1.2.2.1.2.2, z])) (fun z => c3 (by rw [I2.1.2.2.1.2.2, z])) rfl) ?_
            rintro re Fe Ge ⟨rfl, g0, g1⟩
            dsimp only
            refine JP.ixR (fun _ => ?_)
            rw [show r6.toNatClampNeg = sN F4 by rw [m0]]
            have h8 := jAl.pt (l1 := [(sN Fa, wN F9 + 1, 0 :: s, 0, 0, -1)]) (l2 := []) (x := (sN F4, wN F3 + 1, s, 1, 0, -1)) hp h7 I6.2.1.2.2.2.2.1 ⟨Nat.le_refl _, rfl⟩ rfl g0 g1
            have I7 := I.next h8 (by omega)
            unfold cb_X3_expression_79 mb_expression_75
            refine JP.both (ihE dc (k + 1) s _ _ _ _ I7) ?_
            rintro rf Ff Gf rg Fg Gg (⟨rfl, l, h9⟩ | h9)
            · dsimp only
              have h10 := h8.tr h9
              have I8 := I7.next h9 (Int.le_refl _)
              unfold cb_X3_expression_83 mb_expression_79
              rw [if_neg i10n]
              unfold mb_expression_84
              refine JP.L (jp_aim (x := (sN Fa, wN F9 + 1, 0 :: s, 0, 0, -1)) hp h10 (by simp) (h10.cap I.1 I.2.2 (by omega)) (fun z => c5 (by rw [I5.1.2.2.1.2.2, z])) (fun z => c6 (by rw [I5.1.2.2.1.2.2, z])) rfl) ?_
              rintro rh Fh Gh ⟨rfl, g2, g3⟩
              dsimp only
              refine JP.ixR (fun _ => ?_)
              rw [show rd.toNatClampNeg = sN Fa by rw [m4]]
              have h11 := jAl.pt (l1 := []) (l2 := []) (x := (sN Fa, wN F9 + 1, 0 :: s, 0, 0, -1)) hp h10 I8.2.1.2.2.2.2.1 ⟨Nat.zero_le _, rfl⟩ rfl g2 g3
              have I9 := I.next h11 (by omega)
              unfold cb_X3_expression_98 mb_expression_94 mb_expression_104
              refine JP.L (jo_closes I9.2.1.1 (by have := h11.2.2.2.1; omega)) ?_
              rintro ri Fi Gi o3
              dsimp only
              unfold cb_X3_expression_105
              exact JP.ret (.inl ⟨rfl, l, (h11.tr (jAl.cl I9.2.1 o3)).ca (by omega) (by omega)⟩)
            · exact JP.fin (kqj_X3_expression_83 _ (kqS1 dc) _ Ff Gf CFS.rf) (nqj_expression_79 _ (nqS1 dm) _ rg Fg Gg MFS.rf) h9 (fun _ _ _ _ _ _ w => .inr w)
          · exact JP.fin (kqj_X3_expression_53 _ (kqS1 dc) _ F9 G9 CFS.rf) (nqj_expression_51 _ (nqS1 dm) _ ra Fa Ga MFS.rf) (.inr o2) (fun _ _ _ _ _ _ w => .inr w)
        · exact JP.fin (kqj_X3_expression_44 _ (kqS1 dc) _ F7 G7 CFS.rf) (nqj_expression_42 _ (nqS1 dm) _ r8 F8 G8 MFS.rf) h4 (fun _ _ _ _ _ _ w => .inr w)
      · exact JP.fin (kqj_X3_expression_25 _ (kqS1 dc) r3 F3 G3 CFS.rf) (nqj_expression_24 _ (nqS1 dm) r4 F4 G4 MFS.rf) (.inr o) (fun _ _ _ _ _ _ w => .inr w)
    · rw [if_neg (fun w => by rw [sg.mp w] at hz; cases hz), if_pos rfl]
      unfold cb_X3_expression_28 mb_expression_18
      exact JP.ret (.inl ⟨rfl, j, h1⟩)
  · exact JP.fin (kqj_X3_expression_4 _ (kqS1 dc) F1 G1 CFS.rf) (nqj_expression_4 _ (nqS1 dm) r2 F2 G2 MFS.rf) h1 (fun _ _ _ _ _ _ w => .inr w)
end JE3
