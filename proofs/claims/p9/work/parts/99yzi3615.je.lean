section JE15
variable {fu : Nat} {X : JCX} {p : Int32} {N K n q nf t : Nat}
/-- a number, a name, get(), brackets -/
theorem je_plain {dm dc i : Nat} {s : SH} {Fc Fm : PF} {Gc Gm : PG} (ihE : ∀ d : Nat, d ≤ dm → jPx fu X p N K n q nf t 1 4 d) (I : jIn X p N K n q nf t i Fc Gc Fm Gm) : JP (ch_X3_operand fu (cS1 fu dc) Fc Gc) (mh_plain fu (mS1 fu dm) Fm Gm) (fun _ F1 G1 r2 F2 G2 => jOut X p N i 0 s (0 :: s) Fc Gc Fm Gm r2 F1 G1 F2 G2) := by
  have hp := I.1.2.1
  have o0 := I.2.1.1.2.2.2.2.1
  have ix := I.2.1.1.ix I.1.1
  obtain ⟨pl0, pl1, pl2⟩ := I.2.1.1.place I.1.1
  have tk := I.2.1.1.tk I.1.1
  have nu := tk.num
  have nm := tk.nam
  have s19 := I.sg (w := 22) (a := 19) (b := 22) (by decide) (by decide) (by decide)
  have w17 := I.wd (w := 13) (a := 17) (b := 13) (by decide) (by decide) (by decide)
  have bt : ∀ x : Bool, ¬ x = true → x = false := fun x hx => by
    cases x
    · rfl
    · exact absurd rfl hx
  unfold ch_X3_operand cb_X3_operand_0 mh_plain mb_plain_0
  refine JP.ixR (fun _ => ?_)
  rw [ix]
  by_cases c3 : Fc 11 = 3
  · have g4 := nu.mp c3
    have li : i < N := I.2.1.1.lt I.1.1 (by rw [g4]; decide)
    have ev : Fc 12 = Gm 5 i := by
      have e12 : Fc 12 = Gc 91 i := I.2.1.1.2.2.2.2.2.2.2.2.2.1
      rcases (I.1.1.2.2.2.1 i li).1.2 with ⟨z, -⟩ | ⟨z, -⟩ | ⟨-, -, z⟩ | ⟨z, -⟩
      · rw [g4] at z; exact absurd z (by decide)
      · rw [g4] at z; exact absurd z (by decide)
      · rw [e12, z]
      · rw [g4] at z; exact absurd z (by decide)
    rw [if_neg (show ¬ Fc 11 = 2 by rw [c3]; decide), if_pos c3, if_pos g4]
    unfold cb_X3_operand_48 mb_plain_13
    refine JP.L (cp_wpair 66 (Fc 12) Gc ((jAl.rf (X := X) (p := p) (s := s) I.2.1).room (m := 2) I.1 I.2.2 (by omega))) ?_
    rintro _ F1 G1 c1
    dsimp only
    refine JP.ixR (fun _ => ?_)
    rw [ix]
    refine JP.R (mp_em 0 (Gm 5 i) 0 Fm Gm) ?_
    rintro r2 F2 G2 ⟨m0, m1, m2, m3⟩
    dsimp only
    have e1 : jAl X p N i i 0 2 s (0 :: s) [] Fc Gc Fm Gm F1 G1 F2 G2 := by
      refine jAl.em (ws := [66, Fc 12]) I.h7.1 I.h7.2 I.2.1 c1 m2 (fun hp1 => ?_)
      have W : ∀ (jj : Nat) (x : Int32), [66, Fc 12][jj]? = some x → G1 5 (wN Fc + jj) = x := (c1.2.2 (I.h7.2 hp1)).2.2
      exact .inl ⟨rfl, rfl, W 0 66 rfl, (W 1 (Fc 12) rfl).trans ev, rfl⟩
    have D1 := e1.2.1
    have S1 := I.1.keep e1.1.1 e1.1.2
    unfold cb_X3_operand_64 mb_plain_28 mb_plain_39
    refine JP.L (jo_next S1.1 D1.1 li) ?_
    rintro _ F3 G3 (o | o)
    · dsimp only
      unfold cb_X3_operand_71 cb_X3_operand_183
      have e2 := jAl.on (X := X) (p := p) (s := 0 :: s) S1 D1 li (S1.t1 li) o
      exact JP.ret (.inl ⟨rfl, i + 1, (e1.tr e2).ca (by omega) (by omega)⟩)
    · dsimp only
      unfold cb_X3_operand_71 cb_X3_operand_183
      exact JP.ret (.inr (.inr o))
  · have g3 : ¬ Gm 4 i = 3 := fun z => c3 (nu.mpr z)
    by_cases c19 : Fc 11 = 19
    · have hz := s19.mp c19
      have li := I.2.1.1.ltS I.1.1 hz
      rw [if_neg (show ¬ Fc 11 = 2 by rw [c19]; decide), if_neg c3, if_neg (show ¬ Fc 11 = 17 by rw [c19]; decide), if_pos c19, if_neg g3]
      unfold cb_X3_operand_147 mb_plain_41
      refine JP.isS (fun _ => ?_) (fun y => by rw [hz] at y; cases y)
      dsimp only
      unfold mb_plain_47
      rw [if_neg i10n]
      unfold mb_plain_50
      refine JP.both (jo_opT I.1.1 I.2.1.1 li c19) ?_
      rintro r3 F3 G3 r4 F4 G4 (⟨rfl, rfl, o⟩ | o)
      · dsimp only
        unfold cb_X3_operand_156 mb_plain_54
        rw [if_neg i10n, if_neg i10n]
        have e0 := jAl.on (X := X) (p := p) (s := s) I.1 I.2.1 li (I.1.t1 li) o
        have I1 := I.next e0 (by omega)
        unfold cb_X3_operand_159 mb_plain_57
        refine JP.both (ihE dm (Nat.le_refl _) dc (i + 1) s F3 G3 F4 G4 I1) ?_
        rintro r5 F5 G5 r6 F6 G6 (⟨rfl, j, h1⟩ | h1)
        · dsimp only
          have I2 := I1.next h1 (Int.le_refl _)
          have h2 := e0.tr h1
          unfold cb_X3_operand_163 mb_plain_61
          rw [if_neg i10n]
          unfold mb_plain_64
          refine JP.both (jo_close I2.1.1 I2.2.1.1 (by have := h2.2.2.2.1; omega) (w := 23) (by decide) (by decide) (by decide)) ?_
          rintro r7 F7 G7 r8 F8 G8 (⟨rfl, hy, o2⟩ | o2)
          · dsimp only
            have lj := I2.2.1.1.ltS I2.1.1 hy
            have e2 := jAl.on (X := X) (p := p) (s := 0 :: s) I2.1 I2.2.1 lj (I2.1.t1 lj) o2
            unfold cb_X3_operand_172 cb_X3_operand_183 mb_plain_70
            rw [if_neg i10n]
            unfold mb_plain_73 mb_plain_78
            exact JP.bzR (fun _ => JP.ret (.inl ⟨rfl, j + 1, (h2.tr e2).ca (by omega) (by omega)⟩))
          · exact JP.fin (kqj_X3_operand_172 _ (kqS1 dc) F7 G7 CFS.rf) (nqj_plain_70 _ (nqS1 dm) r8 F8 G8 MFS.rf) (.inr o2) (fun _ _ _ _ _ _ w => .inr w)
        · exact JP.fin (kqj_X3_operand_163 _ (kqS1 dc) F5 G5 CFS.rf) (nqj_plain_61 _ (nqS1 dm) r6 F6 G6 MFS.rf) h1 (fun _ _ _ _ _ _ w => .inr w)
      · exact JP.fin (kqj_X3_operand_156 _ (kqS1 dc) r3 F3 G3 CFS.rf) (nqj_plain_54 _ (nqS1 dm) r4 F4 G4 MFS.rf) (.inr o) (fun _ _ _ _ _ _ w => .inr w)
    · have n22 : sgn (Gm 4) (Gm 5) (Fm 42) 22 = true → False := fun y => c19 (s19.mpr y)
      by_cases c17 : Fc 11 = 17
      · have hz := w17.mp c17
        have li := I.2.1.1.ltW I.1.1 hz
        rw [if_neg (show ¬ Fc 11 = 2 by rw [c17]; decide), if_neg c3, if_pos c17, if_neg g3]
        unfold cb_X3_operand_81 mb_plain_41
        refine JP.isS (fun y => (n22 y).elim) (fun _ => ?_)
        dsimp only
        unfold mb_plain_47
        rw [if_pos rfl]
        unfold mb_plain_79
        refine JP.R (mp_isWord 13 Fm Gm) ?_
        rintro z _ _ ⟨rfl, rfl, hy⟩
        rcases hy with ⟨rfl, -⟩ | ⟨rfl, hy⟩
        · dsimp only
          unfold mb_plain_85
          rw [if_neg i10n]
          unfold mb_plain_88
          have go : ∀ (F2 : PF), KX [55] [] Fm Gm F2 Gm → (p = 1 → F2 55 = Fm 55 ∧ X.1 = false) → JP (cb_X3_operand_107 fu (cS1 fu dc) Fc Gc) (mb_plain_115 fu (mS1 fu dm) F2 Gm) (fun _ F1 G1 r2 F2 G2 => jOut X p N i 0 s (0 :: s) Fc Gc Fm Gm r2 F1 G1 F2 G2) := by
            intro F2 k2 h2
            have em : jAl X p N i i 0 0 s s [] Fc Gc Fm Gm Fc Gc F2 Gm := jAl.mm I.2.1 (KX.tr KX.rf k2 rfl rfl) (fun z => (h2 z).1)
            have I0 := I.next em (Int.le_refl _)
            unfold cb_X3_operand_107 mb_plain_115
            refine JP.L (jo_next I0.1.1 I0.2.1.1 li) ?_
            rintro _ F3 G3 (o | o)
            · dsimp only
              have e0 := jAl.on (X := X) (p := p) (s := s) I0.1 I0.2.1 li (I0.1.t1 li) o
              have I1 := I0.next e0 (by omega)
              have h1 := em.tr e0
              unfold cb_X3_operand_114 mb_plain_125
              refine JP.both (jo_open I1.1.1 I1.2.1.1 (w := 22) (by decide) (by decide) (by decide)) ?_
              rintro r5 F5 G5 r6 F6 G6 (⟨rfl, rfl, hx, o1⟩ | o1)
              · dsimp only
                have l1 := I1.2.1.1.ltS I1.1.1 hx
                have e1 := jAl.on (X := X) (p := p) (s := s) I1.1 I1.2.1 l1 (I1.1.t1 l1) o1
                have I2 := I1.next e1 (by omega)
                have h3 := h1.tr e1
                unfold cb_X3_operand_123 mb_plain_131
                rw [if_neg i10n, if_neg i10n]
                unfold cb_X3_operand_126 mb_plain_134
                refine JP.both (jo_close I2.1.1 I2.2.1.1 (by have := h3.2.2.2.1; omega) (w := 23) (by decide) (by decide) (by decide)) ?_
                rintro r7 F7 G7 r8 F8 G8 (⟨rfl, hy2, o2⟩ | o2)
                · dsimp only
                  have l2 := I2.2.1.1.ltS I2.1.1 hy2
                  have e2 := jAl.on (X := X) (p := p) (s := s) I2.1 I2.2.1 l2 (I2.1.t1 l2) o2
                  have I3 := I2.next e2 (by omega)
                  have h4 := h3.tr e2
                  unfold cb_X3_operand_135 mb_plain_140
                  rw [if_neg i10n]
                  unfold mb_plain_145
                  refine JP.L (cp_wadd 17 G7 (h4.room I.1 I.2.2 (by omega))) ?_
                  rintro _ F9 G9 c9
                  dsimp only
                  refine JP.R (mp_em 21 0 0 F8 G8) ?_
                  rintro ra Fa Ga ⟨v0, v1, v2, v3⟩
                  dsimp only
                  have e3 : jAl X p N (i + 1 + 1 + 1) (i + 1 + 1 + 1) 0 1 s (0 :: s) [] F7 G7 F8 G8 F9 G9 Fa Ga := by
                    refine jAl.em (ws := [17]) I3.h7.1 I3.h7.2 I3.2.1 c9 v2 (fun hp1 => ?_)
                    have W : ∀ (jj : Nat) (x : Int32), [(17 : Int32)][jj]? = some x → G9 5 (wN F7 + jj) = x := (c9.2.2 (I3.h7.2 hp1)).2.2
                    exact .inr (.inr (.inr (.inr ⟨(h2 hp1).2, .inr (.inr (.inr (.inr (.inr (.inr (.inr (.inr (.inr (.inr (.inr (.inl ⟨rfl, rfl, W 0 17 rfl, rfl⟩)))))))))))⟩)))
                  unfold cb_X3_operand_144 cb_X3_operand_183 mb_plain_153
                  exact JP.ret (.inl ⟨rfl, i + 1 + 1 + 1, (h4.tr e3).ca (by omega) (by omega)⟩)
                · exact JP.fin (kqj_X3_operand_135 _ (kqS1 dc) F7 G7 CFS.rf) (nqj_plain_140 _ (nqS1 dm) r8 F8 G8 MFS.rf) (.inr o2) (fun _ _ _ _ _ _ w => .inr w)
              · exact JP.fin (kqj_X3_operand_123 _ (kqS1 dc) r5 F5 G5 CFS.rf) (nqj_plain_131 _ (nqS1 dm) r6 F6 G6 MFS.rf) (.inr o1) (fun _ _ _ _ _ _ w => .inr w)
            · dsimp only
              exact JP.fin (kqj_X3_operand_114 _ (kqS1 dc) F3 G3 CFS.rf) (nqj_plain_125 _ (nqS1 dm) _ _ MFS.rf) (.inr o) (fun _ _ _ _ _ _ w => .inr w)
          have h46 : Fc 46 = Fm 54 := I.1.2.2.2.1
          by_cases c : Fm 54 = 0
          · rw [if_pos (h46.trans c), if_pos c]
            exact go Fm KX.rf (fun hp1 => ⟨rfl, bt _ (fun z => ((I.1.2.2.2.2.2 hp1).1.mp z) c)⟩)
          · rw [if_neg (show ¬ Fc 46 = 0 by rw [h46]; exact c), if_neg c]
            unfold cb_X3_operand_91 mb_plain_95
            refine JP.L (cp_note 7 (Fc 13) (by decide) (by decide) Fc Gc) ?_
            rintro _ Fa _ ⟨rfl, ka, a0, a1⟩
            dsimp only
            refine JP.ixR (fun _ => ?_)
            rcases hp with hp0 | hp1
            · rw [← a0 (I.1.2.2.1.2.1.trans hp0)]
              refine JP.R (mp_n0 (by rw [I.1.2.2.1.1, hp0]) (by decide)) ?_
              rintro r _ _ ⟨rfl, rfl⟩
              dsimp only
              unfold mb_plain_110
              exact go _ (KX.f rfl KX.rf) (fun z => by rw [hp0] at z; exact absurd z (by decide))
            · refine JP.pp (kqj_X3_operand_107 _ (kqS1 dc) Fa Gc CFS.rf) (mp_nt (A := fun F' G' => mb_plain_110 fu (mS1 fu dm) F' G') (by rw [I.1.2.2.1.1, hp1]; decide) (by decide) (fun F' G' => nqj_plain_110 _ (nqS1 dm) F' G' MFS.rf)) (fun r1 F5 G5 r2 F6 G6 z1 z2 => .inr (.inl ⟨z1.2 (a1 (by rw [I.1.2.2.1.2.1, hp1]; decide) pl1), z2⟩))
        · rw [hy] at hz
          cases hz
      · have n13 : wdn (Gm 4) (Gm 5) (Fm 42) 13 = true → False := fun y => c17 (w17.mpr y)
        have up : ∀ a : PR, JP a (mb_plain_156 fu (mS1 fu dm) Fm Gm) (fun _ F1 G1 r2 F2 G2 => jOut X p N i 0 s (0 :: s) Fc Gc Fm Gm r2 F1 G1 F2 G2) → JP a (mb_plain_41 fu (mS1 fu dm) Fm Gm) (fun _ F1 G1 r2 F2 G2 => jOut X p N i 0 s (0 :: s) Fc Gc Fm Gm r2 F1 G1 F2 G2) := by
          intro a h
          unfold mb_plain_41
          refine JP.isS (fun y => (n22 y).elim) (fun _ => ?_)
          dsimp only
          unfold mb_plain_47
          rw [if_pos rfl]
          unfold mb_plain_79
          refine JP.R (mp_isWord 13 Fm Gm) ?_
          rintro z _ _ ⟨rfl, rfl, hy⟩
          rcases hy with ⟨rfl, hy⟩ | ⟨rfl, -⟩
          · exact (n13 hy).elim
          · dsimp only
            unfold mb_plain_85
            rw [if_pos rfl]
            exact h
        by_cases c2 : Fc 11 = 2
        · rw [if_pos c2, if_neg g3]
          refine up _ ?_
          unfold cb_X3_operand_74 mb_plain_156
          refine JP.ixR (fun _ => ?_)
          rw [ix, if_pos (nm.mp c2)]
          unfold mb_plain_175
          refine JP.bL (Q1 := fun _ F1 G1 r2 F2 G2 => jOut X p N i 0 s (0 :: s) Fc Gc Fm Gm r2 F1 G1 F2 G2) ?_ (fun r1 F1 G1 r2 F2 G2 h => by dsimp only; unfold cb_X3_operand_78 cb_X3_operand_183; exact PP.ret h)
          cases dc with
          | zero => exact JP.noL
          | succ dc =>
            show JP (ch_X3_named fu (cS1 fu dc) Fc Gc) _ _
            exact je_named (fun d hd => ihE d (Nat.le_of_lt hd)) I c2
        · rw [if_neg c2, if_neg c3, if_neg c17, if_neg c19, if_neg g3]
          refine up _ ?_
          unfold cb_X3_operand_175 mb_plain_156
          refine JP.ixR (fun _ => ?_)
          rw [ix, if_neg (fun z => c2 (nm.mpr z))]
          unfold mb_plain_169
          intro r1 F1 G1 r2 F2 G2 e1 e2
          obtain ⟨⟨u, F', G'⟩, e3, e4⟩ := bind_elim e1
          obtain ⟨⟨v, F'', G''⟩, e5, e6⟩ := bind_elim e2
          dsimp only at e4 e6
          unfold cb_X3_operand_183 at e4
          obtain ⟨-, rfl, rfl⟩ := ret_el e4
          unfold mb_plain_174 at e6
          obtain ⟨-, e6⟩ := b01_elim e6
          obtain ⟨-, rfl, rfl⟩ := ret_el e6
          exact .inr (.inr (I.2.1.1.fl I.1.1 (by decide) (by decide) KX.rf e3 (mp_fails 2 (by decide) Fm Gm v F'' G'' e5).2))
end JE15
