/-- the class's rule for an entry is the reference's -/
theorem gd_e {F : PF} {gl ll : JLY} {nf t e : Nat} {Gm : PG} {ck cv cz lv b cn : Int32} {pa sq : Bool} {gv : Prop} (n6 : jEN gl ll ck cv cz lv (Gm 17 e) (Gm 20 e) (Gm 21 e) (Gm 22 e) (Gm 23 e)) (h19 : b = 19 ↔ pa = true) (h21 : b = 21 ↔ sq = true) (hc : F 46 = cn) (e0 : e < t) (ht : t ≤ 690) : jGood F ck b gv ↔ jGd cn nf t Gm (nI e) (-1) pa sq := by
  have uq : ∀ e' : Nat, e' < t → nI e = nI e' → e' = e := fun e' a1 a2 => (nI_ij a2 (by omega) (by omega)).symm
  have k4 : ¬ ck = 4 := by
    rcases n6 with ⟨z, -⟩ | ⟨z, -⟩ | ⟨κ, z0, z, -⟩
    · rw [z]; decide
    · rw [z]; decide
    · rcases z0 with y | y
      · rw [z, y]; decide
      · rw [z, y]; decide
  have bt : ∀ x : Bool, ¬ x = true → x = false := fun x hx => by
    cases x
    · rfl
    · exact absurd rfl hx
  constructor
  · rintro ⟨g1, g2, -⟩
    by_cases c : cn = 0
    · have g1 := g1 (hc.trans c)
      refine .inr ⟨c, .inl ?_⟩
      have np : ¬ b = 19 := fun z => by
        have := g1.1 z
        by_cases y : ck = 0
        · rw [if_pos y] at this
          exact absurd this (by decide)
        · rw [if_neg y] at this
          exact k4 this
      refine ⟨bt pa (fun z => np (h19.mpr z)), e, e0, rfl, ?_⟩
      rcases n6 with ⟨z, y, -⟩ | ⟨z, y, -⟩ | ⟨κ, z0, z, y, -⟩
      · refine .inr ⟨by rw [y]; decide, bt sq (fun w => ?_)⟩
        have := g1.2.1 (h21.mpr w)
        rw [z, if_pos rfl] at this
        rcases this with v | v
        · exact absurd v (by decide)
        · exact absurd v (by decide)
      · refine .inr ⟨by rw [y]; decide, bt sq (fun w => ?_)⟩
        have := g1.2.1 (h21.mpr w)
        rw [z, if_neg (by decide)] at this
        rcases this with v | v
        · exact absurd v (by decide)
        · exact absurd v (by decide)
      · refine .inl ⟨y, ?_⟩
        by_cases w : b = 21
        · exact h21.mp w
        · have := g1.2.2 np w
          rcases z0 with v | v
          · rw [z, v, if_neg (by decide)] at this
            exact absurd this (by decide)
          · rw [z, v, if_neg (by decide)] at this
            exact absurd this (by decide)
    · obtain ⟨y1, y2, y3⟩ := g2 (by rw [hc]; exact c)
      refine .inl ⟨c, bt pa (fun z => y2 (h19.mpr z)), bt sq (fun z => y3 (h21.mpr z)), e, e0, rfl, ?_⟩
      rcases n6 with ⟨-, z, -⟩ | ⟨z, -⟩ | ⟨κ, z0, z, -⟩
      · exact z
      · rw [y1] at z
        exact absurd z (by decide)
      · rw [y1] at z
        rcases z0 with v | v
        · rw [v] at z
          exact absurd z (by decide)
        · rw [v] at z
          exact absurd z (by decide)
  · rintro (⟨c, y1, y2, e', e1, e2, e3⟩ | ⟨c, ⟨y1, e', e1, e2, y2⟩ | ⟨-, z, -⟩⟩)
    · rw [uq e' e1 e2] at e3
      have c0 : ck = 0 := by
        rcases n6 with ⟨z, -⟩ | ⟨-, z, -⟩ | ⟨κ, -, -, z, -⟩
        · exact z
        · rw [e3] at z
          exact absurd z (by decide)
        · rw [e3] at z
          exact absurd z (by decide)
      refine ⟨fun z => absurd (hc.symm.trans z) c, fun _ => ⟨c0, fun z => ?_, fun z => ?_⟩, fun z => absurd z k4⟩
      · rw [h19.mp z] at y1
        cases y1
      · rw [h21.mp z] at y2
        cases y2
    · rw [uq e' e1 e2] at y2
      have np : ¬ b = 19 := fun z => by rw [h19.mp z] at y1; cases y1
      refine ⟨fun _ => ⟨fun z => absurd z np, fun z => ?_, fun _ z => ?_⟩, fun z => absurd (hc.trans c) z, fun z => absurd z k4⟩
      · have sqt := h21.mp z
        rcases y2 with ⟨w, -⟩ | ⟨-, w⟩
        · rcases n6 with ⟨-, v, -⟩ | ⟨-, v, -⟩ | ⟨κ, z0, v, -⟩
          · rw [w] at v
            exact absurd v (by decide)
          · rw [w] at v
            exact absurd v (by decide)
          · rcases z0 with u | u
            · rw [v, u, if_neg (by decide)]
              exact .inl (by decide)
            · rw [v, u, if_neg (by decide)]
              exact .inr (by decide)
        · rw [sqt] at w
          cases w
      · rcases y2 with ⟨-, w⟩ | ⟨w, -⟩
        · exact absurd (h21.mpr w) z
        · rcases n6 with ⟨v, -⟩ | ⟨v, -⟩ | ⟨κ, z0, v, u, -⟩
          · rw [if_pos v]
          · rw [if_neg (by rw [v]; decide)]
            exact v
          · exact absurd u w
    · exact absurd z (nI_n1 (by omega))
/-- and for a function -/
theorem gd_f {F : PF} {nf t g : Nat} {Gm : PG} {b cn : Int32} {pa sq : Bool} {gv : Prop} (h19 : b = 19 ↔ pa = true) (hc : F 46 = cn) (g0 : g < nf) (hn : nf ≤ 449) (ht : t ≤ 690) (hv : gv ↔ Gm 33 g = 0) : jGood F 4 b gv ↔ jGd cn nf t Gm (-1) (nI g) pa sq := by
  constructor
  · rintro ⟨g1, g2, g3⟩
    by_cases c : cn = 0
    · have g1 := g1 (hc.trans c)
      rw [if_neg (by decide)] at g1
      refine .inr ⟨c, .inr ⟨?_, rfl, g, g0, rfl, hv.mp (g3 rfl)⟩⟩
      by_cases w : b = 19
      · exact h19.mp w
      · by_cases v : b = 21
        · rcases g1.2.1 v with u | u
          · exact absurd u (by decide)
          · exact absurd u (by decide)
        · exact absurd (g1.2.2 w v) (by decide)
    · exact absurd (g2 (by rw [hc]; exact c)).1 (by decide)
  · rintro (⟨-, -, -, e, e1, e2, -⟩ | ⟨c, ⟨-, e, e1, e2, -⟩ | ⟨y1, -, g', y2, y3, y4⟩⟩)
    · exact absurd e2.symm (nI_n1 (by omega))
    · exact absurd e2.symm (nI_n1 (by omega))
    · have b19 := h19.mpr y1
      rw [← nI_ij y3 (by omega) (by omega)] at y4
      refine ⟨fun _ => ?_, fun z => absurd (hc.trans c) z, fun _ => hv.mpr y4⟩
      rw [if_neg (by decide)]
      refine ⟨fun _ => rfl, fun z => ?_, fun z => absurd b19 z⟩
      rw [b19] at z
      exact absurd z (by decide)
section JE14
variable {fu : Nat} {X : JCX} {p : Int32} {N K n q nf t : Nat}
/-- a name where a value is wanted -/
theorem je_named {dm dc i : Nat} {s : SH} {Fc Fm : PF} {Gc Gm : PG} (ihE : ∀ d : Nat, d < dm → jPx fu X p N K n q nf t 1 4 d) (I : jIn X p N K n q nf t i Fc Gc Fm Gm) (h11 : Fc 11 = 2) : JP (ch_X3_named fu (cS1 fu dc) Fc Gc) (mb_plain_190 fu (mS1 fu dm) (Fm 42) (fup Fm 42 (Fm 42 + 1)) Gm) (fun _ F1 G1 r2 F2 G2 => jOut X p N i 0 s (0 :: s) Fc Gc Fm Gm r2 F1 G1 F2 G2) := by
  have hp := I.1.2.1
  have ix := I.2.1.1.ix I.1.1
  obtain ⟨pl0, pl1, pl2⟩ := I.2.1.1.place I.1.1
  have g4 : Gm 4 i = 1 := (I.2.1.1.tk I.1.1).nam.mp h11
  have li : i < N := I.2.1.1.lt I.1.1 (by rw [g4]; decide)
  obtain ⟨tk, tn, -⟩ := I.1.1.2.2.2.1 i li
  obtain ⟨id0, id1⟩ := tn g4
  have ev : Fc 12 = Gm 5 i := by
    have e12 : Fc 12 = Gc 91 i := I.2.1.1.2.2.2.2.2.2.2.2.2.1
    rcases tk.2 with ⟨-, -, z⟩ | ⟨z, -⟩ | ⟨z, -⟩ | ⟨z, -⟩
    · rw [e12, z]
    · rw [g4] at z; exact absurd z (by decide)
    · rw [g4] at z; exact absurd z (by decide)
    · rw [g4] at z; exact absurd z (by decide)
  have h45 : Fc 45 = p := I.1.2.2.1.2.1
  unfold ch_X3_named cb_X3_named_0
  refine JP.L (cp_meant (K := K) (c := q + t) (Fc 12) (Fc 13) (fun z => ⟨(I.1.2.2.2.2.2 (h45.symm.trans z)).2.2.2.2.1, by rw [ev]; exact id0, by rw [ev]; exact id1⟩) pl1) ?_
  rintro sym Fa _ ⟨rfl, ka, a0, a1⟩
  dsimp only
  unfold cb_X3_named_23
  have Sa := I.1.keep (KX.tr (a := jXc) (b := jYc) KX.rf ka rfl rfl) (KX.rf (a := jXm) (b := jYm))
  have Ca' := I.2.1.1.kx ka rfl rfl
  refine JP.L (jo_next Sa.1 Ca' li) ?_
  rintro _ F1 G1 (o | o)
  · dsimp only
    unfold cb_X3_named_31
    have hx : Gm 6 (Fm 42).toNatClampNeg = Fc 13 := by rw [ix, pl2]
    have hpr : Gm 4 (fup Fm 42 (Fm 42 + 1) 42 - 1).toNatClampNeg = 1 := by
      rw [fup_s, i_as, ix]
      exact g4
    -- nothing found so far
    have clean : Fc = Fa → jAl X p N i (i + 1) 0 (-2 * ((1 : Nat) : Int)) s s [] Fc Gc Fm Gm F1 G1 (fup Fm 42 (Fm 42 + 1)) Gm ∧ jIn X p N K n q nf t (i + 1) F1 G1 (fup Fm 42 (Fm 42 + 1)) Gm := by
      intro z
      rw [← z] at o
      have e0 := jAl.on (X := X) (p := p) (s := s) I.1 I.2.1 li (I.1.t1 li) o
      exact ⟨e0, I.next e0 (by omega)⟩
    have comp : ∀ (e0 : jAl X p N i (i + 1) 0 (-2 * ((1 : Nat) : Int)) s s [] Fc Gc Fm Gm F1 G1 (fup Fm 42 (Fm 42 + 1)) Gm) (r1 : Int32) (F3 : PF) (G3 : PG) (r2 : Int32) (F4 : PF) (G4 : PG), jOut X p N (i + 1) 2 s (0 :: s) F1 G1 (fup Fm 42 (Fm 42 + 1)) Gm r2 F3 G3 F4 G4 → jOut X p N i 0 s (0 :: s) Fc Gc Fm Gm r2 F3 G3 F4 G4 := by
      rintro e0 r1 F3 G3 r2 F4 G4 (⟨z, k, h⟩ | h)
      · exact .inl ⟨z, k, (e0.tr h).ca (by omega) (by omega)⟩
      · exact .inr h
    rcases hp with hp0 | hp1
    · obtain ⟨e1, e2⟩ := a0 (h45.trans hp0)
      obtain ⟨e0, I1⟩ := clean e2
      rw [e1]
      refine JP.L (cp_want0 (Fc 13) (F1 11) F1 G1) ?_
      rintro _ _ _ ⟨rfl, rfl⟩
      exact JP.mono (je_name0 ihE I1 hp0 hx hpr) (comp e0)
    · obtain ⟨a2, a3, a4⟩ := a1 (h45.trans hp1)
      rw [ev] at a2
      obtain ⟨x0, SA, SE, SU, SL, FT⟩ := I.1.2.2.2.2.2 hp1
      have t9 := SE.2.2.1
      have t9' : t ≤ 690 := by omega
      have f4 := FT.2.1
      have h46 : fup Fm 42 (Fm 42 + 1) 46 = 1 := by rw [fup_n (by decide), I.1.2.2.1.1, hp1]
      have f14 : (fup Fm 42 (Fm 42 + 1) 14).toInt = t := by rw [fup_n (by decide)]; exact SE.1
      have f24 : (fup Fm 42 (Fm 42 + 1) 24).toInt = nf := by rw [fup_n (by decide)]; exact SA.1
      have f54 : fup Fm 42 (Fm 42 + 1) 54 = Fm 54 := fup_n (by decide)
      -- what is found on both sides
      have bad : ∀ (m f : Int32) (F3 : PF) (G3 : PG), jMn nf t Gm (Gm 5 i) m f → ¬ jGd (Fm 54) nf t Gm m f (sgn (Gm 4) (Gm 5) (fup Fm 42 (Fm 42 + 1) 42) 22) (sgn (Gm 4) (Gm 5) (fup Fm 42 (Fm 42 + 1) 42) 24) → (F3 43).toInt ≤ 4000 → JP (cb_X3_named_47 fu (cS1 fu dc) (Fc 13) sym F3 G3) (mb_plain_190 fu (mS1 fu dm) (Fm 42) (fup Fm 42 (Fm 42 + 1)) Gm) (fun _ F1 G1 r2 F2 G2 => jOut X p N i 0 s (0 :: s) Fc Gc Fm Gm r2 F1 G1 F2 G2) := by
        intro m f F3 G3 hm nb h43
        refine JP.pp (kqj_X3_named_47 _ (kqS1 dc) _ _ F3 G3 CFS.rf) (mp_nameN (fu := fu) (dm := dm) SU f14 f24 t9' (by omega) h46 (by rw [ix]; exact hm) rfl rfl (by rw [f54]; exact nb)) (fun r1 F5 G5 r2 F6 G6 z1 z2 => .inr (.inl ⟨z1.2 h43, z2⟩))
      rcases jMn.of SA SE a2 with ⟨z1, z2⟩ | ⟨e, z1, z2, z3⟩ | ⟨j2, g2, z1, z2, z3, z4, z5, z6, z7⟩
      · rw [z1]
        refine JP.L (cp_want0 (Fc 13) (F1 11) F1 G1) ?_
        rintro _ _ _ ⟨rfl, rfl⟩
        rw [← z1]
        refine bad _ _ F1 G1 z2 ?_ ?_
        · rintro (⟨-, -, -, e, e1, e2, -⟩ | ⟨c, ⟨-, e, e1, e2, -⟩ | ⟨-, -, g', y2, y3, -⟩⟩)
          · exact nI_n1 (by omega) e2.symm
          · exact nI_n1 (by omega) e2.symm
          · exact nI_n1 (by omega) y3.symm
        · rw [o.1.2.1 43 rfl]
          exact a3 z1
      · have ea := a4 (by rw [z2]; exact nI_n1 (by omega))
        obtain ⟨e0, I1⟩ := clean ea
        obtain ⟨-, SA1, SE1, -, -, FT1⟩ := I1.1.2.2.2.2.2 hp1
        obtain ⟨n1, n2, n3, n4, n5, n6⟩ := SE1.2.2.2.2.2 e z1
        have c46 : F1 46 = Fm 54 := I1.1.2.2.2.1.trans f54
        have s19 := I1.sg (w := 22) (a := 19) (b := 22) (by decide) (by decide) (by decide)
        have s21 := I1.sg (w := 24) (a := 21) (b := 24) (by decide) (by decide) (by decide)
        have gi : jGood F1 (G1 35 (q + e)) (F1 11) True ↔ _ := gd_e (nf := nf) (gv := True) n6 s19 s21 c46 z1 t9'
        have k0 : ¬ G1 35 (q + e) = -1 := by
          rcases n6 with ⟨y, -⟩ | ⟨y, -⟩ | ⟨κ, y0, y, -⟩
          · rw [y]; decide
          · rw [y]; decide
          · rw [y]; exact nI_n1 (by omega)
        have k4 : ¬ G1 35 (q + e) = 4 := by
          rcases n6 with ⟨y, -⟩ | ⟨y, -⟩ | ⟨κ, y0, y, -⟩
          · rw [y]; decide
          · rw [y]; decide
          · rcases y0 with v | v
            · rw [y, v]; decide
            · rw [y, v]; decide
        refine JP.L (PP.and (cw_X5_wantValue sym (Fc 13) (F1 11) F1 G1) (cp_wantQ sym (Fc 13) (F1 11) (j := q + e) (c := q + t) SE1.2.1 (by omega) (by omega) z2 (I1.1.2.2.1.2.1.trans hp1) pl1 k0 (gv := True) (fun y => absurd y k4))) ?_
        rintro _ F3 G3 ⟨kw, y1, y2⟩
        have eG : G3 = G1 := funext (fun k => kw.2 k rfl)
        rw [eG]
        dsimp only
        by_cases gd : jGd (Fm 54) nf t Gm (nI e) (-1) (sgn (Gm 4) (Gm 5) (fup Fm 42 (Fm 42 + 1) 42) 22) (sgn (Gm 4) (Gm 5) (fup Fm 42 (Fm 42 + 1) 42) 24)
        · rw [← y1 (gi.mpr gd)]
          exact JP.mono (je_name1 ihE I1 hp1 hx (by rw [ix]; exact z3) (.inl ⟨e, z1, z2, rfl⟩) rfl rfl (by rw [f54]; exact gd)) (comp e0)
        · exact bad _ _ F3 G1 z3 gd (y2 (fun z => gd (gi.mp z)))
      · have ea := a4 (by rw [z3]; exact nI_n1 (by omega))
        obtain ⟨e0, I1⟩ := clean ea
        obtain ⟨-, SA1, SE1, -, -, FT1⟩ := I1.1.2.2.2.2.2 hp1
        have eG1 : Gc = G1 := o.1.1
        rw [eG1] at z5 z6 z7
        have c46 : F1 46 = Fm 54 := I1.1.2.2.2.1.trans f54
        have s19 := I1.sg (w := 22) (a := 19) (b := 22) (by decide) (by decide) (by decide)
        obtain ⟨y0, -⟩ := FT1.2.2 g2 z2
        have gv : (G1 82 g2 = 1) ↔ Gm 33 g2 = 0 := by
          rcases y0 with ⟨v1, v2⟩ | ⟨v1, v2⟩
          · exact ⟨fun _ => v1, fun _ => v2⟩
          · exact ⟨fun v => by rw [v2] at v; exact absurd v (by decide), fun v => absurd v v1⟩
        have gi : jGood F1 4 (F1 11) (G1 82 g2 = 1) ↔ jGd (Fm 54) nf t Gm (-1) (nI g2) (sgn (Gm 4) (Gm 5) (fup Fm 42 (Fm 42 + 1) 42) 22) (sgn (Gm 4) (Gm 5) (fup Fm 42 (Fm 42 + 1) 42) 24) := gd_f s19 c46 z2 (by omega) t9' gv
        refine JP.L (PP.and (cw_X5_wantValue sym (Fc 13) (F1 11) F1 G1) (cp_wantQ sym (Fc 13) (F1 11) (j := j2) (c := q + t) SE1.2.1 (by omega) (by omega) z3 (I1.1.2.2.1.2.1.trans hp1) pl1 (by rw [z6]; decide) (gv := (G1 82 g2 = 1)) (fun _ => ⟨g2, nf, FT1.1, by omega, z2, z5, Iff.rfl⟩))) ?_
        rintro _ F3 G3 ⟨kw, y1, y2⟩
        rw [z6] at y1 y2
        have eG : G3 = G1 := funext (fun k => kw.2 k rfl)
        rw [eG]
        dsimp only
        by_cases gd : jGd (Fm 54) nf t Gm (-1) (nI g2) (sgn (Gm 4) (Gm 5) (fup Fm 42 (Fm 42 + 1) 42) 22) (sgn (Gm 4) (Gm 5) (fup Fm 42 (Fm 42 + 1) 42) 24)
        · rw [← y1 (gi.mpr gd)]
          exact JP.mono (je_name1 ihE I1 hp1 hx (by rw [ix]; exact z4) (.inr ⟨rfl, j2, g2, z1, z2, z3, rfl, z5, z6⟩) rfl rfl (by rw [f54]; exact gd)) (comp e0)
        · exact bad _ _ F3 G1 z4 gd (y2 (fun z => gd (gi.mp z)))
  · dsimp only
    exact JP.fin (kqj_X3_named_31 _ (kqS1 dc) _ _ F1 G1 CFS.rf) (nqj_plain_190 _ (nqS1 dm) _ _ _ MFS.rf) (.inr o) (fun _ _ _ _ _ _ w => .inr w)
end JE14
