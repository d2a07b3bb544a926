/-- statements that begin with the word w -/
def jPsw (fu : Nat) (p : Int32) (N K n q nf : Nat) (ic im : Nat) (w : Int32) (dm : Nat) : Prop := ∀ (dc t i : Nat) (X : JCX) (Fc : PF) (Gc : PG) (Fm : PF) (Gm : PG), jV X p N K n q nf t i Fc Gc Fm Gm → (Fm 15).toInt + 1 ≤ 4 * (i : Int) + 1 → Fc 11 = w → JP (cS2 fu dc ic 0 0 Fc Gc) (mS2 fu dm im 0 0 Fm Gm) (fun _ F1 G1 r2 F2 G2 => jOs X p N K n q nf i 0 Fc Gc Fm Gm r2 F1 G1 F2 G2)
theorem ks_oth : ∀ w : Nat, w < 45 → (w = 26 ∨ w = 29 ∨ kS w = 19 ∨ kS w = 20 ∨ kS w = 21 ∨ kS w = 22 ∨ kS w = 24 ∨ kS w = 25 ∨ 26 < (kS w).toInt) := by decide
section JW9L
variable {fu : Nat} {X : JCX} {p : Int32} {N K n q nf t i : Nat} {Fc Fm : PF} {Gc Gm : PG}
theorem ct_simple (T : TKE N K n Fc Gc Fm Gm) (c : CU N i Fc Gc Fm Gm) (h : ¬ Fc 11 = 2) : PP (cf_X4_simple fu Fc Gc) (fun _ F' _ => ¬ F' 14 = 0 ∧ F' 11 = -2) := by
  unfold cf_X4_simple cb_X4_simple_0
  refine PP.bind (jo_expL (a := 2) T c (fun z => absurd z h)) ?_
  rintro r F1 G1 (⟨z, -⟩ | ⟨-, q1, q2⟩)
  · exact absurd z h
  · dsimp only
    unfold cb_X4_simple_24
    rw [if_pos q2]
    exact PP.ret ⟨q1, q2⟩
/-- what begins no statement -/
theorem jst_bad {dc : Nat} {b : PR} (V : jV X p N K n q nf t i Fc Gc Fm Gm) (h : ¬ Fc 11 = 2) (hb : PP b (fun _ F' _ => 0 < (F' 44).toInt)) : JP (cb_X4_statement_209 fu (cS2 fu dc) Fc Gc) b (fun _ F1 G1 r2 F2 G2 => jOs X p N K n q nf i 0 Fc Gc Fm Gm r2 F1 G1 F2 G2) := by
  have s : PP (cb_X4_statement_209 fu (cS2 fu dc) Fc Gc) (fun _ F' _ => ∃ F0 : PF, (¬ F0 14 = 0 ∧ F0 11 = -2) ∧ CFS F0 F') := by
    unfold cb_X4_statement_209
    refine PP.bind (ct_simple V.1.1.1 V.1.2.1.1 h) ?_
    rintro r F1 G1 q
    dsimp only
    exact PP.mono (kqj_X4_statement_213 _ (kqS2 dc) F1 G1 CFS.rf) (fun _ F' _ w => ⟨F1, q, w⟩)
  refine JP.pp s hb (fun _ F1 _ _ F2 _ w1 w2 => ?_)
  obtain ⟨F0, ⟨q1, q2⟩, w⟩ := w1
  refine .inr (jEnd.st (.inr ⟨q1, q2, .inl (fun z => ?_)⟩) w MFS.rf)
  rw [z] at w2
  exact absurd w2 (by decide)
theorem mt_94 {rc : RC} {F : PF} {G : PG} : PP (mb_statement_94 fu rc F G) (fun _ F' _ => 0 < (F' 44).toInt) := by
  unfold mb_statement_94
  refine PP.bind (mp_fails 2 (by decide) F G) ?_
  rintro r F1 G1 ⟨-, f⟩
  dsimp only
  unfold mb_statement_99
  exact PP.bz (fun _ => PP.ret f.1)
theorem mt_306 {rc : RC} {F : PF} {G : PG} : PP (mb_statement_306 fu rc F G) (fun _ F' _ => 0 < (F' 44).toInt) := by
  unfold mb_statement_306
  refine PP.bind (mp_fails 2 (by decide) F G) ?_
  rintro r F1 G1 ⟨-, f⟩
  dsimp only
  unfold mb_statement_311
  exact PP.bz (fun _ => PP.ret f.1)
/-- a statement -/
theorem js_stmt {dm dc : Nat} (i0 : jPst fu p N K n q nf 0 0 0 dm) (i3 : jPsw fu p N K n q nf 3 2 8 dm) (i7 : jPsw fu p N K n q nf 7 4 10 dm) (i1 : jPsw fu p N K n q nf 1 7 11 dm) (i2 : jPsw fu p N K n q nf 2 3 12 dm) (V : jV X p N K n q nf t i Fc Gc Fm Gm) (he : (Fm 15).toInt + 1 ≤ 4 * (i : Int) + 1) : JP (ch_X4_statement fu (cS2 fu dc) Fc Gc) (mh_statement fu (mS2 fu dm) Fm Gm) (fun _ F1 G1 r2 F2 G2 => jOs X p N K n q nf i 0 Fc Gc Fm Gm r2 F1 G1 F2 G2) := by
  have I := V.1
  have T := I.1.1
  have C := I.2.1.1
  have ix := C.ix T
  have s26 := I.sg (w := 26) (a := 23) (b := 26) (by decide) (by decide) (by decide)
  have s29 := I.sg (w := 29) (a := 26) (b := 29) (by decide) (by decide) (by decide)
  unfold ch_X4_statement mh_statement mb_statement_0
  refine JP.isS (fun h => ?_) (fun h => ?_)
  · rw [st_c23 (s26.mpr h)]
    dsimp only
    unfold mb_statement_6
    rw [if_neg i10n]
    unfold cb_X4_statement_112 mb_statement_9 cf_X5_enter cb_X5_enter_0 cb_X5_enter_10 mf_begins mb_begins_0 mb_begins_10
    show JP (cb_X4_statement_119 fu (cS2 fu dc) (fup Fc 42 (Fc 42 + 1)) Gc) (mb_statement_18 fu (mS2 fu dm) (Fm 15) (fup Fm 15 (Fm 15 + 1)) Gm) _
    unfold cb_X4_statement_119 mb_statement_18
    have V1 := V.ent (by omega)
    refine JP.both (i0 dc t i X _ _ _ _ V1 (by have := V1.2.2.2.1.2.2; omega)) ?_
    rintro r3 F3 G3 r4 F4 G4 (⟨rfl, Z, t1, l, LB1, LC1, V2, W1, ⟨b1, b2, b3⟩, b4, -, b5⟩ | h)
    · dsimp only
      unfold cb_X4_statement_123 mb_statement_22
      refine JP.both (jb_leave rfl rfl rfl rfl V (by omega) rfl V2 ⟨W1, ⟨b1, b2⟩, b4, b5⟩) ?_
      rintro r5 F5 G5 r6 F6 G6 ⟨t2, Zc, V3, A, le⟩
      dsimp only
      unfold cb_X4_statement_130 cb_X4_statement_222 mb_statement_28
      rw [if_pos (show b01 1 = true from rfl)]
      exact JP.ret (jOs.ac V3 A b3)
    · dsimp only
      exact JP.fin (kqj_X4_statement_123 _ (kqS2 dc) F3 G3 CFS.rf) (nqj_statement_22 _ (nqS2 dm) _ _ F4 G4 MFS.rf) h (fun _ _ _ _ _ _ w => .inr w)
  · have n23 : ¬ Fc 11 = 23 := fun z => by rw [s26.mp z] at h; cases h
    dsimp only
    unfold mb_statement_6
    rw [if_pos rfl]
    unfold mb_statement_30
    refine JP.isS (fun h2 => ?_) (fun h2 => ?_)
    · rw [st_c26 (s29.mpr h2)]
      dsimp only
      unfold mb_statement_36
      rw [if_neg i10n]
      have li := C.ltS T h2
      unfold cb_X4_statement_133 mb_statement_39
      refine JP.R (mp_sign 29 Fm Gm) ?_
      rintro rs Fs Gs (⟨rfl, rfl, rfl, -, -⟩ | ⟨-, -, bad⟩)
      · dsimp only
        refine JP.L (jo_next T C li) ?_
        rintro r3 F3 G3 o
        dsimp only
        unfold cb_X4_statement_140 cb_X4_statement_222 mb_statement_45
        rw [if_pos (show b01 1 = true from rfl)]
        rcases o with o | o
        · exact JP.ret (jOs.al V (jAl.on (X := X) (p := p) (s := []) I.1 I.2.1 li (I.1.t1 li) o) (by omega) (by omega))
        · exact JP.ret (.inr (.inr o))
      · exfalso
        rcases bad with z | z
        · rw [C.2.2.2.2.2.2.2.1] at z
          exact absurd z (by decide)
        · rw [h2] at z
          cases z
    · have n26 : ¬ Fc 11 = 26 := fun z => by rw [s29.mp z] at h2; cases h2
      dsimp only
      unfold mb_statement_36
      rw [if_pos rfl]
      unfold mb_statement_46
      refine JP.ixR (fun _ => ?_)
      rw [ix]
      have bad94 : ¬ Gm 4 i = 1 → ¬ Gm 4 i = 2 → ¬ Fc 11 = 2 → cb_X4_statement_0 fu (cS2 fu dc) Fc Gc = cb_X4_statement_209 fu (cS2 fu dc) Fc Gc → JP (cb_X4_statement_0 fu (cS2 fu dc) Fc Gc) (if Gm 4 i = 1 then mb_statement_59 fu (mS2 fu dm) Fm Gm else mb_statement_81 fu (mS2 fu dm) Fm Gm) (fun _ F1 G1 r2 F2 G2 => jOs X p N K n q nf i 0 Fc Gc Fm Gm r2 F1 G1 F2 G2) := by
        intro y1 y2 y3 y4
        rw [y4, if_neg y1]
        unfold mb_statement_81
        refine JP.ixR (fun _ => ?_)
        rw [ix, if_neg y2]
        exact jst_bad V y3 mt_94
      rcases C.tk T with ⟨-, (⟨g4, c11, -⟩ | ⟨g4, w, w15, ev, c11⟩ | ⟨g4, c11, -⟩ | ⟨g4, w, w45, ev, c11⟩)⟩ | ⟨c11, g4, -⟩
      · -- a name
        rw [if_pos g4, st_lo (.inl (by rw [c11]; decide))]
        unfold cb_X4_statement_209 mb_statement_59
        refine JP.both (js_simple V) ?_
        rintro r3 F3 G3 r4 F4 G4 (⟨rfl, j, h1⟩ | h1)
        · dsimp only
          have S1 := I.1.keep h1.1.1 h1.1.2
          unfold mb_statement_63
          rw [if_neg i10n]
          unfold cb_X4_statement_213 mb_statement_66
          refine JP.both (jo_sign S1.1 h1.2.1.1 (w := 29) (by decide) (by decide) (by decide)) ?_
          rintro r5 F5 G5 r6 F6 G6 (⟨rfl, hy, o2⟩ | o2)
          · dsimp only
            have lj := h1.2.1.1.ltS S1.1 hy
            have ij : i ≤ j := h1.2.2.1.1
            have e2 := jAl.on (X := X) (p := p) (s := []) S1 h1.2.1 lj (S1.t1 lj) o2
            unfold cb_X4_statement_222 mb_statement_72
            rw [if_neg i10n]
            unfold mb_statement_75 mb_statement_80
            rw [if_pos (show b01 1 = true from rfl)]
            exact JP.ret (jOs.al V ((h1.tr e2).ca (κ1 := -1) (by omega) (by omega)) (by omega) (by omega))
          · dsimp only
            exact JP.fin (kqj_X4_statement_222 _ (kqS2 dc) F5 G5 CFS.rf) (nqj_statement_72 _ (nqS2 dm) _ F6 G6 MFS.rf) (.inr o2) (fun _ _ _ _ _ _ w => .inr w)
        · dsimp only
          exact JP.fin (kqj_X4_statement_213 _ (kqS2 dc) F3 G3 CFS.rf) (nqj_statement_63 _ (nqS2 dm) _ F4 G4 MFS.rf) h1 (fun _ _ _ _ _ _ w => .inr w)
      · -- a word
        rw [if_neg (by rw [g4]; decide)]
        unfold mb_statement_81
        refine JP.ixR (fun _ => ?_)
        rw [ix, if_pos g4]
        have h5 : Gm 5 (Fm 42).toNatClampNeg = nI w := by rw [ix, ev]
        have hw : w = 0 ∨ w = 1 ∨ w = 2 ∨ w = 3 ∨ w = 4 ∨ w = 5 ∨ w = 6 ∨ w = 7 ∨ w = 8 ∨ w = 9 ∨ w = 10 ∨ w = 11 ∨ w = 12 ∨ w = 13 ∨ w = 14 := by omega
        rcases hw with rfl | rfl | rfl | rfl | rfl | rfl | rfl | rfl | rfl | rfl | rfl | rfl | rfl | rfl | rfl
        · have c : Fc 11 = 4 := c11.trans (by decide)
          rw [st_c4 c, sr_w0 (h5.trans (by decide))]
          refine JP.ixR (fun _ => ?_)
          exact jd_tell1 V (.inl c)
        · have c : Fc 11 = 5 := c11.trans (by decide)
          rw [st_c5 c, sr_w1 (h5.trans (by decide))]
          refine JP.ixR (fun _ => ?_)
          exact jd_tell1 V (.inr c)
        · have c : Fc 11 = 6 := c11.trans (by decide)
          rw [st_c6 c, sr_w2 (h5.trans (by decide))]
          refine JP.ixR (fun _ => ?_)
          exact jst_bad V (by rw [c]; decide) mt_306
        · have c : Fc 11 = 7 := c11.trans (by decide)
          rw [st_c7 c, sr_w3 (h5.trans (by decide))]
          refine JP.ixR (fun _ => ?_)
          exact jst_bad V (by rw [c]; decide) mt_306
        · have c : Fc 11 = 8 := c11.trans (by decide)
          rw [st_c8 c, sr_w4 (h5.trans (by decide))]
          refine JP.ixR (fun _ => ?_)
          unfold cb_X4_statement_160 mb_statement_207
          refine JP.both (i3 dc t i X Fc Gc Fm Gm V he c) ?_
          rintro r3 F3 G3 r4 F4 G4 h
          dsimp only
          unfold cb_X4_statement_164 cb_X4_statement_222 mb_statement_211
          exact JP.bzR (fun _ => JP.ret h)
        · have c : Fc 11 = 9 := c11.trans (by decide)
          rw [st_c9 c, sr_w5 (h5.trans (by decide))]
          refine JP.ixR (fun _ => ?_)
          exact jst_bad V (by rw [c]; decide) mt_306
        · have c : Fc 11 = 10 := c11.trans (by decide)
          rw [st_c10 c, sr_w6 (h5.trans (by decide))]
          refine JP.ixR (fun _ => ?_)
          unfold cb_X4_statement_167 mb_statement_212
          refine JP.both (i7 dc t i X Fc Gc Fm Gm V he c) ?_
          rintro r3 F3 G3 r4 F4 G4 h
          dsimp only
          unfold cb_X4_statement_171 cb_X4_statement_222 mb_statement_216
          exact JP.bzR (fun _ => JP.ret h)
        · have c : Fc 11 = 11 := c11.trans (by decide)
          rw [st_c11 c, sr_w7 (h5.trans (by decide))]
          refine JP.ixR (fun _ => ?_)
          unfold cb_X4_statement_174 mb_statement_217
          refine JP.both (i1 dc t i X Fc Gc Fm Gm V he c) ?_
          rintro r3 F3 G3 r4 F4 G4 h
          dsimp only
          unfold cb_X4_statement_178 cb_X4_statement_222 mb_statement_221
          exact JP.bzR (fun _ => JP.ret h)
        · have c : Fc 11 = 12 := c11.trans (by decide)
          rw [st_c12 c, sr_w8 (h5.trans (by decide))]
          refine JP.ixR (fun _ => ?_)
          unfold cb_X4_statement_181 mb_statement_222
          refine JP.both (i2 dc t i X Fc Gc Fm Gm V he c) ?_
          rintro r3 F3 G3 r4 F4 G4 h
          dsimp only
          unfold cb_X4_statement_185 cb_X4_statement_222 mb_statement_226
          exact JP.bzR (fun _ => JP.ret h)
        · have c : Fc 11 = 13 := c11.trans (by decide)
          rw [st_c13 c, sr_w9 (h5.trans (by decide))]
          refine JP.ixR (fun _ => ?_)
          unfold cb_X4_statement_188 mb_statement_227
          refine JP.both (jc_leap V (.inl c)) ?_
          rintro r3 F3 G3 r4 F4 G4 h
          dsimp only
          unfold cb_X4_statement_192 cb_X4_statement_222 mb_statement_231
          exact JP.bzR (fun _ => JP.ret h)
        · have c : Fc 11 = 14 := c11.trans (by decide)
          rw [st_c14 c, sr_w10 (h5.trans (by decide))]
          refine JP.ixR (fun _ => ?_)
          unfold cb_X4_statement_188 mb_statement_227
          refine JP.both (jc_leap V (.inr c)) ?_
          rintro r3 F3 G3 r4 F4 G4 h
          dsimp only
          unfold cb_X4_statement_192 cb_X4_statement_222 mb_statement_231
          exact JP.bzR (fun _ => JP.ret h)
        · have c : Fc 11 = 15 := c11.trans (by decide)
          rw [st_c15 c, sr_w11 (h5.trans (by decide))]
          refine JP.ixR (fun _ => ?_)
          unfold cb_X4_statement_195 mb_statement_232
          refine JP.both (jc_return V c) ?_
          rintro r3 F3 G3 r4 F4 G4 h
          dsimp only
          unfold cb_X4_statement_199 cb_X4_statement_222 mb_statement_236
          exact JP.bzR (fun _ => JP.ret h)
        · have c : Fc 11 = 16 := c11.trans (by decide)
          rw [st_c16 c, sr_w12 (h5.trans (by decide))]
          refine JP.ixR (fun _ => ?_)
          unfold cb_X4_statement_202
          refine JP.bL (jc_hand (dm := dm) V (.inl c)) ?_
          rintro r3 F3 G3 r4 F4 G4 h
          exact PP.ret h
        · have c : Fc 11 = 17 := c11.trans (by decide)
          rw [st_c17 c, sr_w13 (h5.trans (by decide))]
          refine JP.ixR (fun _ => ?_)
          exact jst_bad V (by rw [c]; decide) mt_306
        · have c : Fc 11 = 18 := c11.trans (by decide)
          rw [st_c18 c, sr_w14 (h5.trans (by decide))]
          refine JP.ixR (fun _ => ?_)
          unfold cb_X4_statement_202
          refine JP.bL (jc_hand (dm := dm) V (.inr c)) ?_
          rintro r3 F3 G3 r4 F4 G4 h
          exact PP.ret h
      · -- a number
        exact bad94 (by rw [g4]; decide) (by rw [g4]; decide) (by rw [c11]; decide) (st_lo (.inl (by rw [c11]; decide)))
      · -- a sign
        refine bad94 (by rw [g4]; decide) (by rw [g4]; decide) (fun z => ?_) ?_
        · have := (C.tk T).nam.mp z
          rw [g4] at this
          exact absurd this (by decide)
        · rcases ks_oth w w45 with z | z | z | z | z | z | z | z | z
          · exact absurd (s26.mpr (by unfold sgn; rw [ix, g4, ev, z]; decide)) n23
          · exact absurd (s29.mpr (by unfold sgn; rw [ix, g4, ev, z]; decide)) n26
          · exact st_c19 (c11.trans z)
          · exact st_c20 (c11.trans z)
          · exact st_c21 (c11.trans z)
          · exact st_c22 (c11.trans z)
          · exact st_c24 (c11.trans z)
          · exact st_c25 (c11.trans z)
          · exact st_lo (.inr (by rw [c11]; exact z))
      · -- the end
        exact bad94 (by rw [g4]; decide) (by rw [g4]; decide) (by rw [c11]; decide) (st_lo (.inl (by rw [c11]; decide)))
/-- all methods of statements -/
theorem jPst_all : ∀ dm : Nat, jPst fu p N K n q nf 6 6 1 dm ∧ jPst fu p N K n q nf 0 0 0 dm ∧ jPst fu p N K n q nf 4 5 2 dm ∧ jPbd fu p N K n q nf dm ∧ jPsw fu p N K n q nf 3 2 8 dm ∧ jPsw fu p N K n q nf 7 4 10 dm ∧ jPsw fu p N K n q nf 1 7 11 dm ∧ jPsw fu p N K n q nf 2 3 12 dm := by
  intro dm
  induction dm with
  | zero =>
    refine ⟨?_, ?_, ?_, ?_, ?_, ?_, ?_, ?_⟩
    · intro dc t i X Fc Gc Fm Gm _ _
      exact JP.noR
    · intro dc t i X Fc Gc Fm Gm _ _
      exact JP.noR
    · intro dc t i X Fc Gc Fm Gm _ _
      exact JP.noR
    · intro dc t i x X Fc Gc Fm Gm _ _ _ _
      exact JP.noR
    · intro dc t i X Fc Gc Fm Gm _ _ _
      exact JP.noR
    · intro dc t i X Fc Gc Fm Gm _ _ _
      exact JP.noR
    · intro dc t i X Fc Gc Fm Gm _ _ _
      exact JP.noR
    · intro dc t i X Fc Gc Fm Gm _ _ _
      exact JP.noR
  | succ dm ih =>
    obtain ⟨h6, h0, h4, h5, h3, h7, h1, h2⟩ := ih
    refine ⟨?_, ?_, ?_, ?_, ?_, ?_, ?_, ?_⟩
    · intro dc t i X Fc Gc Fm Gm V he
      cases dc with
      | zero => exact JP.noL
      | succ dc => exact js_stmt h0 h3 h7 h1 h2 V he
    · intro dc t i X Fc Gc Fm Gm V he
      cases dc with
      | zero => exact JP.noL
      | succ dc => exact jb_block h6 V
    · intro dc t i X Fc Gc Fm Gm V he
      cases dc with
      | zero => exact JP.noL
      | succ dc => exact jb_inner h6 V he
    · intro dc t i x X Fc Gc Fm Gm V a1 a2 a3
      cases dc with
      | zero => exact JP.noL
      | succ dc => exact jb_body h4 V a1 a2 a3
    · intro dc t i X Fc Gc Fm Gm V he hw
      cases dc with
      | zero => exact JP.noL
      | succ dc => exact jb_if h4 V he hw
    · intro dc t i X Fc Gc Fm Gm V he hw
      cases dc with
      | zero => exact JP.noL
      | succ dc => exact jb_while h5 V he hw
    · intro dc t i X Fc Gc Fm Gm V he hw
      cases dc with
      | zero => exact JP.noL
      | succ dc => exact jb_do h5 V he hw
    · intro dc t i X Fc Gc Fm Gm V he hw
      cases dc with
      | zero => exact JP.noL
      | succ dc => exact jb_for h5 V he hw
end JW9L
