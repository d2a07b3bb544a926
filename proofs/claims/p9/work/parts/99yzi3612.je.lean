theorem JP.isS {fu : Nat} {s : Int32} {F : PF} {G : PG} {a : PR} {g : Int32 × PF × PG → PR} {Q : Int32 → PF → PG → Int32 → PF → PG → Prop} (h1 : sgn (G 4) (G 5) (F 42) s = true → JP a (g (1, F, G)) Q) (h0 : sgn (G 4) (G 5) (F 42) s = false → JP a (g (0, F, G)) Q) : JP a ((mf_isSign fu s F G).bind g) Q := by
  refine JP.R (mp_isSign s F G) ?_
  rintro z _ _ ⟨rfl, rfl, ⟨rfl, w⟩ | ⟨rfl, w⟩⟩
  · exact h1 w
  · exact h0 w
section JE12
variable {fu : Nat} {X : JCX} {p : Int32} {N K n q nf t : Nat}
/-- a name where a value is wanted, in the first pass -/
theorem je_name0 {dm dc j : Nat} {s : SH} {x1 pl : Int32} {Fc Fm : PF} {Gc Gm : PG} (ihE : ∀ d : Nat, d < dm → jPx fu X p N K n q nf t 1 4 d) (I : jIn X p N K n q nf t j Fc Gc Fm Gm) (hp : p = 0) (hx : Gm 6 x1.toNatClampNeg = pl) (hpr : Gm 4 (Fm 42 - 1).toNatClampNeg = 1) : JP (cb_X3_named_47 fu (cS1 fu dc) pl (-1) Fc Gc) (mb_plain_190 fu (mS1 fu dm) x1 Fm Gm) (fun _ F1 G1 r2 F2 G2 => jOut X p N j 2 s (0 :: s) Fc Gc Fm Gm r2 F1 G1 F2 G2) := by
  have p1 : ∀ {P : Prop}, p = 1 → P := fun z => by rw [hp] at z; exact absurd z (by decide)
  have h46 : Fm 46 = 0 := by rw [I.1.2.2.1.1, hp]
  have h44 : Fm 44 = 0 := I.2.1.1.2.2.2.2.2.2.2.1
  have sg22 := I.sg (w := 22) (a := 19) (b := 22) (by decide) (by decide) (by decide)
  have sg24 := I.sg (w := 24) (a := 21) (b := 24) (by decide) (by decide) (by decide)
  have rm2 := (jAl.rf (X := X) (p := p) (s := s) I.2.1).room (m := 2) I.1 I.2.2 (by omega)
  have n22 : sgn (Gm 4) (Gm 5) (Fm 42) 22 = false → ¬ Fc 11 = 19 := fun z w => by rw [sg22.mp w] at z; cases z
  have n24 : sgn (Gm 4) (Gm 5) (Fm 42) 24 = false → ¬ Fc 11 = 21 := fun z w => by rw [sg24.mp w] at z; cases z
  unfold mb_plain_190
  refine JP.iteR (fun cn => ?_) (fun cn => ?_)
  · unfold mb_plain_205
    refine JP.bR (Q1 := fun _ F1 G1 r2 F2 G2 => jOut X p N j 2 s (0 :: s) Fc Gc Fm Gm r2 F1 G1 F2 G2) ?_ (fun r1 F1 G1 r2 F2 G2 h => by dsimp only; unfold mb_plain_210; exact PP.bz (fun _ => PP.ret h))
    cases dm with
    | zero => exact JP.noR
    | succ dm =>
      show JP _ (mh_named fu (mS1 fu dm) x1 Fm Gm) _
      unfold mh_named mb_named_0
      refine JP.isS (fun hz => ?_) (fun hz => ?_)
      · dsimp only
        unfold cb_X3_named_47 mb_named_6
        rw [if_pos (sg22.mpr hz), if_neg i10n]
        unfold cb_X3_named_59 mb_named_9
        refine JP.both (je_call0 (s := s) (x2 := 1) (fun d hd => je_callT (fun d' hd' => ihE d' (by omega))) I hp hx) ?_
        rintro r1 F1 G1 r2 F2 G2 (⟨rfl, k, h⟩ | h)
        · dsimp only
          unfold cb_X3_named_65 cb_X3_named_98 mb_named_15
          exact JP.bzR (fun _ => JP.ret (.inl ⟨rfl, k, h.le (by omega)⟩))
        · exact JP.fin (kqj_X3_named_65 _ (kqS1 dc) F1 G1 CFS.rf) (nqj_named_15 _ (nqS1 dm) r2 F2 G2 MFS.rf) h (fun _ _ _ _ _ _ w => .inr w)
      · dsimp only
        unfold cb_X3_named_47 mb_named_6
        rw [if_neg (n22 hz), if_pos rfl]
        unfold mb_named_16
        rw [if_pos h46]
        unfold mb_named_23 mb_named_32
        rw [if_pos rfl]
        have k51 : ∀ x3 : Int32, JP (cb_X3_named_68 fu (cS1 fu dc) (-1) Fc Gc) (mb_named_51 fu (mS1 fu dm) x1 (-1) x3 Fm Gm) (fun _ F1 G1 r2 F2 G2 => jOut X p N j 2 s (0 :: s) Fc Gc Fm Gm r2 F1 G1 F2 G2) := by
          intro x3
          have k58 : ∀ z : Int32, JP (cb_X3_named_68 fu (cS1 fu dc) (-1) Fc Gc) (mb_named_115 fu (mS1 fu dm) (-1) z Fm Gm) (fun _ F1 G1 r2 F2 G2 => jOut X p N j 2 s (0 :: s) Fc Gc Fm Gm r2 F1 G1 F2 G2) → JP (cb_X3_named_68 fu (cS1 fu dc) (-1) Fc Gc) (mb_named_58 fu (mS1 fu dm) x1 (-1) x3 z Fm Gm) (fun _ F1 G1 r2 F2 G2 => jOut X p N j 2 s (0 :: s) Fc Gc Fm Gm r2 F1 G1 F2 G2) := by
            intro z h
            unfold mb_named_58
            refine JP.iteR (fun _ => ?_) (fun _ => ?_)
            · unfold mb_named_78
              rw [if_pos rfl]
              unfold mb_named_103
              refine JP.ixR (fun _ => JP.R (mp_n0 h46 (by decide)) ?_)
              rintro r _ _ ⟨rfl, rfl⟩
              exact h
            · unfold mb_named_64
              refine JP.ixR (fun _ => JP.R (mp_n0 h46 (by decide)) ?_)
              rintro r _ _ ⟨rfl, rfl⟩
              exact h
          unfold mb_named_51
          refine JP.isS (fun hy => ?_) (fun hy => ?_)
          · dsimp only
            refine k58 1 ?_
            unfold cb_X3_named_68 mb_named_115
            rw [if_pos (sg24.mpr hy), if_neg i10n]
            unfold cb_X3_named_80 mb_named_120
            refine JP.both (je_indexD (s := s) (κ := 1) (fun d hd => ihE d (by omega)) I (sg24.mpr hy) (fun _ => rfl) p1 (.inl rfl)) ?_
            rintro r1 F1 G1 r2 F2 G2 (⟨rfl, k, h⟩ | h)
            · dsimp only
              have e7 : F1 7 = 0 := by rw [h.1.1.1 7 rfl, I.1.2.2.1.2.2, hp]
              unfold cb_X3_named_85 mb_named_125
              rw [if_neg i10n]
              unfold mb_named_130
              refine JP.L (cp_fetch (-1) (.inl e7)) ?_
              rintro _ F3 G3 ⟨a, w1, -⟩
              refine JP.R (mp_em 7 0 0 F2 G2) ?_
              rintro r4 F4 G4 ⟨-, -, v2, -⟩
              dsimp only
              unfold cb_X3_named_90 cb_X3_named_98 mb_named_138 mb_named_212
              have e1 : jAl X p N k k 0 1 (1 :: s) (0 :: s) [] F1 G1 F2 G2 F3 G3 F4 G4 := jAl.em (ws := [a]) (.inl e7) p1 h.2.1 w1 v2 p1
              exact JP.ret (.inl ⟨rfl, k, (h.tr e1).ca (by omega) (by omega)⟩)
            · exact JP.fin (kqj_X3_named_85 _ (kqS1 dc) _ F1 G1 CFS.rf) (nqj_named_125 _ (nqS1 dm) r2 F2 G2 MFS.rf) h (fun _ _ _ _ _ _ w => .inr w)
          · dsimp only
            refine k58 0 ?_
            unfold cb_X3_named_68 mb_named_115
            rw [if_neg (n24 hy), if_pos rfl]
            unfold cb_X3_named_93 mb_named_142
            rw [if_pos rfl]
            unfold mb_named_172
            rw [if_pos rfl]
            unfold mb_named_191 mb_named_192
            rw [if_pos rfl]
            unfold mb_named_197 mb_named_207
            refine JP.L (cp_load (-1) rm2) ?_
            rintro _ F3 G3 ⟨a, b, w1, -⟩
            refine JP.R (mp_em 3 0 0 Fm Gm) ?_
            rintro r4 F4 G4 ⟨-, -, v2, -⟩
            dsimp only
            unfold cb_X3_named_98 mb_named_211 mb_named_212
            have e1 : jAl X p N j j 0 2 s (0 :: s) [] Fc Gc Fm Gm F3 G3 F4 G4 := jAl.em (ws := [a, b]) I.h7.1 I.h7.2 I.2.1 w1 v2 p1
            exact JP.ret (.inl ⟨rfl, j, e1⟩)
        unfold mb_named_38 mb_named_46 mb_named_50
        exact JP.iteR (fun _ => k51 1) (fun _ => k51 0)
  · unfold mb_plain_197
    refine JP.bR (Q1 := fun _ F1 G1 r2 F2 G2 => jOut X p N j 2 s (0 :: s) Fc Gc Fm Gm r2 F1 G1 F2 G2) ?_ (fun r1 F1 G1 r2 F2 G2 h => by dsimp only; unfold mb_plain_202 mb_plain_210; exact PP.bz (fun _ => PP.ret h))
    cases dm with
    | zero => exact JP.noR
    | succ dm =>
      show JP _ (mh_inConstant fu (mS1 fu dm) x1 Fm Gm) _
      have le0 : Fm 46 ≤ 0 := by rw [h46]; decide
      -- behind the questions
      have e0 := jAl.mm (X := X) (p := p) (s := s) (F2 := fup Fm 55 1) I.2.1 (KX.f rfl KX.rf) p1
      have I2 := I.next e0 (Int.le_refl _)
      have f42 : fup Fm 55 1 42 = Fm 42 := fup_n (by decide)
      have k162 : ∀ x4 : Int32, (x4 = 1 ∨ (x4 = 0 ∧ sgn (Gm 4) (Gm 5) (Fm 42) 22 = false ∧ sgn (Gm 4) (Gm 5) (Fm 42) 24 = false)) → (x4 = 1 → sgn (Gm 4) (Gm 5) (Fm 42) 22 = true ∨ sgn (Gm 4) (Gm 5) (Fm 42) 24 = true) → JP (cb_X3_named_47 fu (cS1 fu dc) pl (-1) Fc Gc) (mb_inConstant_162 fu (mS1 fu dm) x1 (-1) x4 0 (fup Fm 55 1) Gm) (fun _ F1 G1 r2 F2 G2 => jOut X p N j 2 s (0 :: s) Fc Gc Fm Gm r2 F1 G1 F2 G2) := by
        intro x4 h4 h4'
        unfold mb_inConstant_162
        refine JP.isS (fun hz => ?_) (fun hz => ?_)
        · rw [f42] at hz
          have x41 : x4 = 1 := by
            rcases h4 with z | ⟨-, z, -⟩
            · exact z
            · rw [z] at hz
              cases hz
          dsimp only
          unfold cb_X3_named_47 mb_inConstant_168
          rw [if_pos (sg22.mpr hz), if_neg i10n]
          unfold cb_X3_named_59 mb_inConstant_171
          have g44 : fup Fm 55 1 44 = 0 := (fup_n (by decide)).trans h44
          have rd := (mrS1 (fu := fu) (K := Gm 4) (V := Gm 5) dm)
          refine JP.both (JP.wR (je_call0 (s := s) (x2 := 0) (fun d hd => je_callT (fun d' hd' => ihE d' (by omega))) I2 hp hx) (rd.2.2.2 1 x1 0 (fup Fm 55 1) Gm rfl rfl g44 (fun e => absurd e (by decide)))) ?_
          rintro r1 F1 G1 r2 F2 G2 ⟨⟨rfl, k, h⟩ | h, rok⟩
          · dsimp only
            unfold cb_X3_named_65 cb_X3_named_98 mb_inConstant_177
            rw [if_neg i10n]
            have fin : JP (some (0, F1, G1)) (mb_inConstant_221 fu (mS1 fu dm) (-1) x4 0 F2 G2) (fun _ F1 G1 r2 F2 G2 => jOut X p N j 2 s (0 :: s) Fc Gc Fm Gm r2 F1 G1 F2 G2) := by
              unfold mb_inConstant_221
              rw [if_neg (by rw [x41]; exact i10n)]
              unfold mb_inConstant_248
              exact JP.ret (.inl ⟨rfl, k, (e0.tr h).ca (by omega) (by omega)⟩)
            unfold mb_inConstant_182
            refine JP.isS (fun hy => ?_) (fun hy => ?_)
            · dsimp only
              unfold mb_inConstant_188
              rw [if_neg i10n]
              unfold mb_inConstant_191
              rw [if_neg (by rw [x41]; exact i10n)]
              unfold mb_inConstant_196
              refine JP.ixR (fun _ => ?_)
              have c4 : Gm 4 (F2 42 - 1).toNatClampNeg = 4 := by
                rcases rok with ⟨-, -, -, w⟩ | ⟨w, -⟩
                · exact rd.2.2.1 _ _ _ w
                · exact absurd w i10n
              have g4 : G2 4 = Gm 4 := h.1.2.2 4 rfl
              rw [g4, if_neg (by rw [c4]; decide)]
              exact fin
            · dsimp only
              unfold mb_inConstant_188
              rw [if_pos rfl]
              exact fin
          · exact JP.fin (kqj_X3_named_65 _ (kqS1 dc) F1 G1 CFS.rf) (nqj_inConstant_177 _ (nqS1 dm) _ _ _ r2 F2 G2 MFS.rf) h (fun _ _ _ _ _ _ w => .inr w)
        · rw [f42] at hz
          dsimp only
          unfold cb_X3_named_47 mb_inConstant_168
          rw [if_neg (n22 hz), if_pos rfl]
          unfold mb_inConstant_182
          refine JP.isS (fun hy => ?_) (fun hy => ?_)
          · rw [f42] at hy
            have x41 : x4 = 1 := by
              rcases h4 with z | ⟨-, -, z⟩
              · exact z
              · rw [z] at hy
                cases hy
            dsimp only
            unfold cb_X3_named_68 mb_inConstant_188
            rw [if_pos (sg24.mpr hy), if_neg i10n]
            unfold mb_inConstant_191
            rw [if_neg (by rw [x41]; exact i10n)]
            unfold mb_inConstant_196
            refine JP.ixR (fun _ => ?_)
            rw [f42, if_pos hpr]
            unfold cb_X3_named_80 mb_inConstant_211
            refine JP.both (je_indexD (s := s) (κ := 1) (fun d hd => ihE d (by omega)) I2 (sg24.mpr hy) (fun _ => rfl) p1 (.inl rfl)) ?_
            rintro r1 F1 G1 r2 F2 G2 (⟨rfl, k, h⟩ | h)
            · dsimp only
              have e7 : F1 7 = 0 := by rw [h.1.1.1 7 rfl, I.1.2.2.1.2.2, hp]
              unfold cb_X3_named_85 mb_inConstant_216
              rw [if_neg i10n]
              unfold mb_inConstant_221
              rw [if_neg (by rw [x41]; exact i10n)]
              unfold mb_inConstant_248
              refine JP.L (cp_fetch (-1) (.inl e7)) ?_
              rintro _ F3 G3 ⟨a, w1, -⟩
              dsimp only
              unfold cb_X3_named_90 cb_X3_named_98
              -- the class alone writes, and its code is off
              have w6 := w1.2.1 e7
              have e1 : jAl X p N k k 0 0 (1 :: s) (0 :: s) [] F1 G1 F2 G2 F3 G3 F2 G2 := by
                have D := h.2.1
                refine jAl.p0 hp (s := s) (s1 := s) (hs := []) ⟨⟨KX.tr KX.rf w1.1 rfl rfl, KX.rf⟩, ⟨D.1.kx w1.1 rfl rfl, ⟨D.2.1.1, by rw [w1.1.1 43 rfl]; exact D.2.1.2.1, by rw [w1.1.1 47 rfl]; exact D.2.1.2.2⟩, ⟨by rw [w1.1.1 21 rfl]; exact D.2.2.1.1, by rw [w1.1.1 21 rfl]; exact D.2.2.1.2⟩, by rw [w6.1]; exact D.2.2.2.1, D.2.2.2.2⟩, ⟨Nat.le_refl _, Int.le_refl _⟩, by rw [w1.1.1 10 rfl]; omega, ⟨w1.1.1 21 rfl, fun _ _ => by rw [w1.1.2 20 rfl]⟩, ⟨rfl, fun _ _ => ⟨rfl, rfl, rfl⟩⟩, by rw [w6.1]; omega, p1⟩
              exact JP.ret (.inl ⟨rfl, k, (e0.tr (h.tr e1)).ca (by omega) (by omega)⟩)
            · exact JP.fin (kqj_X3_named_85 _ (kqS1 dc) _ F1 G1 CFS.rf) (nqj_inConstant_216 _ (nqS1 dm) _ _ _ r2 F2 G2 MFS.rf) h (fun _ _ _ _ _ _ w => .inr w)
          · rw [f42] at hy
            have x40 : x4 = 0 := by
              rcases h4 with z | ⟨z, -, -⟩
              · rcases h4' z with w | w
                · rw [hz] at w
                  cases w
                · rw [hy] at w
                  cases w
              · exact z
            dsimp only
            unfold cb_X3_named_68 mb_inConstant_188
            rw [if_neg (n24 hy), if_pos rfl]
            unfold cb_X3_named_93 mb_inConstant_221
            rw [if_pos x40]
            unfold mb_inConstant_226
            rw [if_pos rfl]
            unfold mb_inConstant_242 mb_inConstant_243
            refine JP.L (cp_load (-1) rm2) ?_
            rintro _ F3 G3 ⟨a, b, w1, -⟩
            refine JP.R (mp_em 0 0 0 (fup Fm 55 1) Gm) ?_
            rintro r4 F4 G4 ⟨-, -, v2, -⟩
            dsimp only
            unfold cb_X3_named_98 mb_inConstant_247 mb_inConstant_248
            have e1 : jAl X p N j j 0 2 s (0 :: s) [] Fc Gc (fup Fm 55 1) Gm F3 G3 F4 G4 := jAl.em (ws := [a, b]) I2.h7.1 I2.h7.2 I2.2.1 w1 v2 p1
            exact JP.ret (.inl ⟨rfl, j, (e0.tr e1).ca (by omega) (by omega)⟩)
      have k59 : ∀ x3 x4 : Int32, (x4 = 1 ∨ (x4 = 0 ∧ sgn (Gm 4) (Gm 5) (Fm 42) 22 = false ∧ sgn (Gm 4) (Gm 5) (Fm 42) 24 = false)) → (x4 = 1 → sgn (Gm 4) (Gm 5) (Fm 42) 22 = true ∨ sgn (Gm 4) (Gm 5) (Fm 42) 24 = true) → JP (cb_X3_named_47 fu (cS1 fu dc) pl (-1) Fc Gc) (mb_inConstant_59 fu (mS1 fu dm) x1 (-1) x3 x4 Fm Gm) (fun _ F1 G1 r2 F2 G2 => jOut X p N j 2 s (0 :: s) Fc Gc Fm Gm r2 F1 G1 F2 G2) := by
        intro x3 x4 h4 h4'
        unfold mb_inConstant_59
        rw [if_pos rfl]
        unfold mb_inConstant_79 mb_inConstant_80
        rw [if_pos le0]
        unfold mb_inConstant_104
        rw [if_pos le0]
        unfold mb_inConstant_137
        rw [if_pos rfl]
        unfold mb_inConstant_157
        exact k162 x4 h4 h4'
      have k35 : ∀ x3 : Int32, JP (cb_X3_named_47 fu (cS1 fu dc) pl (-1) Fc Gc) (mb_inConstant_35 fu (mS1 fu dm) x1 (-1) x3 Fm Gm) (fun _ F1 G1 r2 F2 G2 => jOut X p N j 2 s (0 :: s) Fc Gc Fm Gm r2 F1 G1 F2 G2) := by
        intro x3
        unfold mb_inConstant_35
        refine JP.isS (fun hy => ?_) (fun hy => ?_)
        · dsimp only
          unfold mb_inConstant_42
          rw [if_neg i10n]
          unfold mb_inConstant_54
          exact k59 x3 1 (.inl rfl) (fun _ => .inr hy)
        · dsimp only
          unfold mb_inConstant_42
          rw [if_pos rfl]
          unfold mb_inConstant_45
          refine JP.isS (fun hz => ?_) (fun hz => ?_)
          · dsimp only
            unfold mb_inConstant_51
            rw [if_neg i10n]
            unfold mb_inConstant_54
            exact k59 x3 1 (.inl rfl) (fun _ => .inl hz)
          · dsimp only
            unfold mb_inConstant_51
            rw [if_pos rfl]
            unfold mb_inConstant_58
            exact k59 x3 0 (.inr ⟨rfl, hz, hy⟩) (fun z => absurd z (by decide))
      unfold mh_inConstant mb_inConstant_0
      rw [if_pos h46]
      unfold mb_inConstant_7 mb_inConstant_16
      rw [if_pos rfl]
      unfold mb_inConstant_22 mb_inConstant_30 mb_inConstant_34
      exact JP.iteR (fun _ => k35 1) (fun _ => k35 0)
end JE12
