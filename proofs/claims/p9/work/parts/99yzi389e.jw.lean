/-- from one state to another by statements: code, chains, scope and loops -/
def jAc (X Y : JCX) (p : Int32) (N i j : Nat) (d κ : Int) (LB LC : List JHO) (Fc : PF) (Gc : PG) (Fm : PF) (Gm : PG) (F1 : PF) (G1 : PG) (F2 : PF) (G2 : PG) : Prop := jW X Y p N i j d κ [] [] (LB ++ LC) [] Fc Gc Fm Gm F1 G1 F2 G2 ∧ (F2 15 = Fm 15 ∧ F2 51 = Fm 51) ∧ (p = 1 → jLk LB (wN Fc) (wN F1) (F2 63) (F1 30) (Fm 63) (Fc 30) ∧ jLk LC (wN Fc) (wN F1) (F2 64) (F1 31) (Fm 64) (Fc 31)) ∧ (p = 1 → Fm 51 = 0 → LB = [] ∧ LC = [])
/-- pairs of statements' methods, at a depth -/
def jPst (fu : Nat) (p : Int32) (N K n q nf : Nat) (ic im : Nat) (e : Int) (dm : Nat) : Prop := ∀ (dc t i : Nat) (X : JCX) (Fc : PF) (Gc : PG) (Fm : PF) (Gm : PG), jV X p N K n q nf t i Fc Gc Fm Gm → (Fm 15).toInt + e ≤ 4 * (i : Int) + 1 → JP (cS2 fu dc ic 0 0 Fc Gc) (mS2 fu dm im 0 0 Fm Gm) (fun _ F1 G1 r2 F2 G2 => jOz (ic == 4) X p N K n q nf i 0 Fc Gc Fm Gm r2 F1 G1 F2 G2)
section JW9E
variable {fu : Nat} {X Y Z : JCX} {p : Int32} {N K n q nf t i j l : Nat} {d d1 κ κ1 : Int} {LB LC LB1 LC1 : List JHO} {Fc Fm F1 F2 F3 F4 : PF} {Gc Gm G1 G2 G3 G4 : PG}
theorem jAc.al (h : jAl X p N i j d κ [] [] [] Fc Gc Fm Gm F1 G1 F2 G2) : jAc X X p N i j d κ [] [] Fc Gc Fm Gm F1 G1 F2 G2 := ⟨jW.al h, ⟨h.1.2.1 15 rfl, h.1.2.1 51 rfl⟩, fun _ => ⟨⟨h.1.2.1 63 rfl, h.1.1.1 30 rfl⟩, h.1.2.1 64 rfl, h.1.1.1 31 rfl⟩, fun _ _ => ⟨rfl, rfl⟩⟩
theorem jW.wle (h : jW X Y p N i j d κ [] [] LB [] Fc Gc Fm Gm F1 G1 F2 G2) (hp : p = 1) : wN Fc ≤ wN F1 ∧ sN Fm ≤ sN F2 := by
  obtain ⟨mu, A, l0, -, ⟨-, a1, a2, -⟩, -⟩ := h.2.2.2.2.2.2.2 hp (fun _ => wN Fc) (fun _ => ([], some X.2.2.1)) rfl rfl
  exact ⟨a2, a1⟩
theorem jAc.tr (h : jAc X Y p N i j d κ LB LC Fc Gc Fm Gm F1 G1 F2 G2) (k : jAc Y Z p N j l d1 κ1 LB1 LC1 F1 G1 F2 G2 F3 G3 F4 G4) : jAc X Z p N i l (d + d1) (κ + κ1) (LB1 ++ LB) (LC1 ++ LC) Fc Gc Fm Gm F3 G3 F4 G4 := by
  obtain ⟨a1, ⟨a2, a3⟩, a4, a6⟩ := h
  obtain ⟨b1, ⟨b2, b3⟩, b4, b6⟩ := k
  refine ⟨(a1.tr b1).pm ?_, ⟨b2.trans a2, b3.trans a3⟩, fun z => ?_, fun z y => ?_⟩
  · rw [List.append_assoc, List.append_assoc]
    exact (List.perm_append_comm_assoc LC1 LB LC).append_left LB1
  · obtain ⟨c1, c2⟩ := a4 z
    obtain ⟨e1, e2⟩ := b4 z
    obtain ⟨w1, -⟩ := a1.wle z
    obtain ⟨w2, -⟩ := b1.wle z
    exact ⟨jLk.app LB1 LB _ _ _ _ _ _ _ _ _ _ e1 c1 w1 (Nat.le_refl _) w2, jLk.app LC1 LC _ _ _ _ _ _ _ _ _ _ e2 c2 w1 (Nat.le_refl _) w2⟩
  · obtain ⟨c1, c2⟩ := a6 z y
    obtain ⟨e1, e2⟩ := b6 z (a3.trans y)
    rw [c1, c2, e1, e2]
    exact ⟨rfl, rfl⟩
theorem jAc.ca (h : jAc X Y p N i j d κ LB LC Fc Gc Fm Gm F1 G1 F2 G2) (e : d = d1) (k : κ ≤ κ1) : jAc X Y p N i j d1 κ1 LB LC Fc Gc Fm Gm F1 G1 F2 G2 := ⟨h.1.ca e k, h.2⟩
theorem jOs.ac (V : jV Y p N K n q nf t j F1 G1 F2 G2) (h : jAc X Y p N i j 0 κ LB LC Fc Gc Fm Gm F1 G1 F2 G2) (hij : i < j) : jOs X p N K n q nf i κ Fc Gc Fm Gm 1 F1 G1 F2 G2 := .inl ⟨rfl, Y, t, j, LB, LC, V, h.1, ⟨h.2.1.1, h.2.1.2, hij⟩, h.2.2.1, fun z => absurd z (by decide), h.2.2.2⟩
theorem jOz.ac (V : jV Y p N K n q nf t j F1 G1 F2 G2) (h : jAc X Y p N i j 0 κ LB LC Fc Gc Fm Gm F1 G1 F2 G2) (hij : i < j) (le : jLe Y.2.2.1 X.2.2.1) : jOz true X p N K n q nf i κ Fc Gc Fm Gm 1 F1 G1 F2 G2 := .inl ⟨rfl, Y, t, j, LB, LC, V, h.1, ⟨h.2.1.1, h.2.1.2, hij⟩, h.2.2.1, fun _ => le, h.2.2.2⟩
/-- the statements of a block -/
theorem jb_loop {dm dc : Nat} (ih : jPst fu p N K n q nf 6 6 1 dm) (X0 : JCX) (i0 : Nat) (Fc0 : PF) (Gc0 : PG) (Fm0 : PF) (Gm0 : PG) (o0 : 0 ≤ (Fc0 10).toInt) (h0 : (Fm0 15).toInt ≤ 4 * (i0 : Int) + 1) : ∀ (nc nm k t j : Nat) (Y : JCX) (LB LC : List JHO) (F1 : PF) (G1 : PG) (F2 : PF) (G2 : PG), jV Y p N K n q nf t j F1 G1 F2 G2 → jAc X0 Y p N i0 j 1 (-2) LB LC Fc0 Gc0 Fm0 Gm0 F1 G1 F2 G2 → k ≤ j → i0 < j → JP (cl_X4_block_15 fu (cS2 fu dc) nc (nI k) F1 G1) (ml_block_11 fu (mS2 fu dm) nm F2 G2) (fun _ F1 G1 r2 F2 G2 => jOs X0 p N K n q nf i0 0 Fc0 Gc0 Fm0 Gm0 r2 F1 G1 F2 G2) := by
  intro nc
  induction nc with
  | zero => intro nm k t j Y LB LC F1 G1 F2 G2 _ _ _ _; exact JP.noL
  | succ nc ihc =>
    intro nm k t j Y LB LC F1 G1 F2 G2 V A hk hi
    cases nm with
    | zero => exact JP.noR
    | succ nm =>
      show JP (cb_X4_block_15 fu (cS2 fu dc) (cl_X4_block_15 fu (cS2 fu dc) nc) (nI k) F1 G1) (mb_block_11 fu (mS2 fu dm) (ml_block_11 fu (mS2 fu dm) nm) F2 G2) _
      have I := V.1
      have l1 : (4001 : Int32).toInt = 4001 := rfl
      have jN := I.2.1.1.1
      have nn := I.1.1.1
      have k4 : k ≤ 4000 := by omega
      have sg := I.sg (w := 27) (a := 24) (b := 27) (by decide) (by decide) (by decide)
      have no2 : ¬ F1 11 = -2 := by
        rcases I.2.1.1.tk I.1.1 with z | ⟨z, -⟩
        · intro y
          have := z.pos.1
          rw [y] at this
          exact absurd this (by decide)
        · rw [z]
          decide
      unfold cb_X4_block_15 mb_block_11
      rw [if_neg (show ¬ (4001 : Int32) ≤ nI k from fun z => by have := i_le.mp z; rw [nI_toInt (by omega)] at this; omega), if_pos I.2.1.1.2.2.2.2.2.2.2.1]
      unfold cb_X4_block_22 mb_block_18
      refine JP.isS (fun hz => ?_) (fun hz => ?_)
      · dsimp only
        rw [if_pos (sg.mpr hz)]
        unfold mb_block_24
        rw [if_neg i10n]
        unfold cb_X4_block_56 mb_block_35
        refine JP.both (jo_close I.1.1 I.2.1.1 (by have := A.1.2.2.2.1; omega) (w := 27) (by decide) (by decide) (by decide)) ?_
        rintro r3 F3 G3 r4 F4 G4 (⟨rfl, hy, o⟩ | o)
        · dsimp only
          have lj := I.2.1.1.ltS I.1.1 hy
          have e := jAl.on (X := Y) (p := p) (s := []) I.1 I.2.1 lj (I.1.t1 lj) o
          unfold cb_X4_block_65 mb_block_41
          rw [if_pos (show b01 1 = true from rfl)]
          exact JP.ret (jOs.ac (V.al e (by omega)) ((A.tr (jAc.al e)).ca (by omega) (by omega)) (by omega))
        · dsimp only
          exact JP.fin (kqj_X4_block_65 _ (kqS2 dc) F3 G3 CFS.rf) (nqj_block_41 _ (nqS2 dm) _ F4 G4 MFS.rf) (.inr o) (fun _ _ _ _ _ _ w => .inr w)
      · dsimp only
        rw [if_neg (fun w => by rw [sg.mp w] at hz; cases hz)]
        unfold cb_X4_block_34 mb_block_24
        rw [if_neg no2, if_pos rfl]
        unfold cb_X4_block_46 mb_block_27
        refine JP.both (ih dc t j Y F1 G1 F2 G2 V ?_) ?_
        · have := A.2.1.1
          rw [this]
          omega
        · rintro r3 F3 G3 r4 F4 G4 (⟨rfl, Z, t1, l, LB1, LC1, V1, W1, ⟨b1, b2, b3⟩, b4, -, b5⟩ | h)
          · dsimp only
            unfold cb_X4_block_50 mb_block_31
            rw [nI_t k (by omega)]
            exact ihc nm (k + 1) t1 l Z (LB1 ++ LB) (LC1 ++ LC) F3 G3 F4 G4 V1 ((A.tr ⟨W1, ⟨b1, b2⟩, b4, b5⟩).ca (by omega) (by omega)) (by omega) (by omega)
          · dsimp only
            exact JP.fin (kqj_X4_block_50 _ (kqS2 dc) _ (fun x F G y => kqz_X4_block_15 _ (kqS2 dc) nc x F G y) _ F3 G3 CFS.rf) (nqj_block_31 _ (nqS2 dm) _ (fun F G y => nqz_block_11 _ (nqS2 dm) nm F G y) _ F4 G4 MFS.rf) h (fun _ _ _ _ _ _ w => .inr w)
theorem jb_block {dm dc : Nat} (ih : jPst fu p N K n q nf 6 6 1 dm) (V : jV X p N K n q nf t i Fc Gc Fm Gm) : JP (ch_X4_block fu (cS2 fu dc) Fc Gc) (mh_block fu (mS2 fu dm) Fm Gm) (fun _ F1 G1 r2 F2 G2 => jOs X p N K n q nf i 0 Fc Gc Fm Gm r2 F1 G1 F2 G2) := by
  have I := V.1
  unfold ch_X4_block cb_X4_block_0 mh_block mb_block_0
  refine JP.both (jo_open I.1.1 I.2.1.1 (w := 26) (by decide) (by decide) (by decide)) ?_
  rintro r1 F1 G1 r2 F2 G2 (⟨rfl, rfl, hz, o⟩ | o)
  · dsimp only
    have li := I.2.1.1.ltS I.1.1 hz
    have e := jAl.on (X := X) (p := p) (s := []) I.1 I.2.1 li (I.1.t1 li) o
    unfold cb_X4_block_9 mb_block_6
    rw [if_neg i10n, if_neg i10n]
    unfold cb_X4_block_13
    exact jb_loop ih X i Fc Gc Fm Gm I.2.1.1.2.2.2.2.1 V.2.2.2.1.2.2 fu fu 0 t (i + 1) X [] [] F1 G1 F2 G2 (V.al e (by omega)) ((jAc.al e).ca rfl (by omega)) (Nat.zero_le _) (Nat.lt_succ_self _)
  · dsimp only
    exact JP.fin (kqj_X4_block_9 _ (kqS2 dc) _ F1 G1 CFS.rf) (nqj_block_6 _ (nqS2 dm) _ F2 G2 MFS.rf) (.inr o) (fun _ _ _ _ _ _ w => .inr w)
/-- a statement, or a block, as a scope of its own: what comes behind it -/
theorem jb_leave {x1 : Int32} {F0 E0 : PF} {G0 H0 : PG} (e1 : F0 = fup Fc 42 (Fc 42 + 1)) (e2 : E0 = fup Fm 15 (Fm 15 + 1)) (e3 : G0 = Gc) (e4 : H0 = Gm) (V0 : jV X p N K n q nf t i Fc Gc Fm Gm) (h15 : (Fm 15).toInt ≤ 4 * (i : Int)) (hx : x1 = Fm 15) {t1 : Nat} (V : jV Y p N K n q nf t1 j F1 G1 F2 G2) (A : jAc X Y p N i j 0 κ LB LC F0 G0 E0 H0 F1 G1 F2 G2) : JP (cf_X5_leave fu F1 G1) (mf_ends fu x1 F2 G2) (fun _ F3 G3 _ F4 G4 => ∃ (t2 : Nat) (Z : JCX), jV Z p N K n q nf t2 j F3 G3 F4 G4 ∧ jAc X Z p N i j 0 κ LB LC Fc Gc Fm Gm F3 G3 F4 G4 ∧ jLe Z.2.2.1 X.2.2.1) := by
  subst e3 e4
  have c2 := V0.2.2.2.1.2.1
  have i4 : (i : Int) ≤ 4000 := by
    have := V0.1.2.1.1.1
    have := V0.1.1.1.1
    omega
  have f15 : E0 15 = Fm 15 + 1 := by rw [e2, fup_s]
  have ea : (Fm 15 + 1).toInt = (Fm 15).toInt + 1 := i_addn _ rfl (by omega) (by omega)
  have g15 : F2 15 = Fm 15 + 1 := A.2.1.1.trans f15
  have kF : KX [42] [] Fc G0 F0 G0 := by rw [e1]; exact KX.f rfl KX.rf
  have kE : KX [15] [] Fm H0 E0 H0 := by rw [e2]; exact KX.f rfl KX.rf
  have e14 : E0 14 = Fm 14 := kE.1 14 rfl
  refine JP.mono (jl_out V0 h15 hx V g15 A.1.1 (fun z => (jPe.of1 kF kE rfl (by rw [f15, ea]; omega)).tr (A.1.2.2.2.2.2.2.1 z)) (fun z k h1 h2 => ?_)) ?_
  · have y := (A.1.2.2.2.2.2.2.1 z).2.2.2 k (by rw [e14]; exact h1) h2
    rw [f15, ea] at y
    omega
  rintro r1 F3 G3 r2 F4 G4 ⟨t2, Z, V2, cl, ⟨k1, k2⟩, ⟨k3, k4⟩, pe⟩
  obtain ⟨⟨a0, ⟨a1, a2⟩, a4, a5, a6, a7, -, a8⟩, ⟨b1, b2⟩, b3, b5⟩ := A
  have w0 : wN F0 = wN Fc := by show (F0 6).toNatClampNeg = _; rw [kF.1 6 rfl]
  have s0 : sN E0 = sN Fm := by show (E0 60).toNatClampNeg = _; rw [kE.1 60 rfl]
  have w3 : wN F3 = wN F1 := by show (F3 6).toNatClampNeg = _; rw [k1.1 6 rfl]
  refine ⟨t2, Z, V2, ⟨⟨cl.uq a0, ⟨KX.tr (KX.tr (KX.tr KX.rf kF rfl rfl) a1 rfl rfl) k1 rfl rfl, KX.tr (KX.tr (KX.tr KX.rf kE rfl rfl) a2 rfl rfl) k3 rfl rfl⟩, a4, ?_, ?_, fun z => KX.tr (KX.tr (KX.tr KX.rf kF rfl rfl) (a7 z) rfl rfl) (k2 z) rfl rfl, pe, fun z mu B h1 h2 => ?_⟩, ⟨?_, ?_⟩, fun z => ?_, fun z y => b5 z (by rw [kE.1 51 rfl]; exact y)⟩, cl.le⟩
  · rw [k1.1 10 rfl, a5, kF.1 10 rfl]
  · rw [k1.1 6 rfl, ← kF.1 6 rfl]
    exact a6
  · have J := a8 z mu B (by rw [s0]; exact h1) (by rw [s0, w0]; exact h2)
    have J1 := ((J.st0 (kE.1 60 rfl).symm (fun _ _ _ => rfl) (kF.1 6 rfl).symm rfl).st (Fm1 := F4) (Gm1 := G4) (k3.1 60 rfl) (fun k _ _ => k3.2 k rfl) (k1.1 6 rfl) (k1.2 5 rfl))
    exact JX.col (V.sz z) cl h1 J1
  · rw [k4, hx]
  · rw [k3.1 51 rfl, b2, kE.1 51 rfl]
  · obtain ⟨c1, c2⟩ := b3 z
    rw [w0, kE.1 63 rfl, kF.1 30 rfl] at c1
    rw [w0, kE.1 64 rfl, kF.1 31 rfl] at c2
    rw [w3, k3.1 63 rfl, k1.1 30 rfl, k3.1 64 rfl, k1.1 31 rfl]
    exact ⟨c1, c2⟩
/-- a statement that is a scope of its own -/
theorem jb_inner {dm dc : Nat} (ih : jPst fu p N K n q nf 6 6 1 dm) (V : jV X p N K n q nf t i Fc Gc Fm Gm) (h : (Fm 15).toInt + 2 ≤ 4 * (i : Int) + 1) : JP (ch_X4_inner fu (cS2 fu dc) Fc Gc) (mh_scoped fu (mS2 fu dm) Fm Gm) (fun _ F1 G1 r2 F2 G2 => jOz true X p N K n q nf i 0 Fc Gc Fm Gm r2 F1 G1 F2 G2) := by
  have c2 := V.2.2.2.1.2.1
  have i4 : (i : Int) ≤ 4000 := by
    have := V.1.2.1.1.1
    have := V.1.1.1.1
    omega
  have ea : (Fm 15 + 1).toInt = (Fm 15).toInt + 1 := i_addn _ rfl (by omega) (by omega)
  have V1 := V.ent (by omega)
  unfold ch_X4_inner cb_X4_inner_0 mh_scoped mb_scoped_0 cf_X5_enter cb_X5_enter_0 cb_X5_enter_10 mf_begins mb_begins_0 mb_begins_10
  show JP (cb_X4_inner_7 fu (cS2 fu dc) (fup Fc 42 (Fc 42 + 1)) Gc) (mb_scoped_9 fu (mS2 fu dm) (Fm 15) (fup Fm 15 (Fm 15 + 1)) Gm) _
  unfold cb_X4_inner_7 mb_scoped_9
  refine JP.both (ih dc t i X _ _ _ _ V1 (by rw [fup_s]; omega)) ?_
  rintro r3 F3 G3 r4 F4 G4 (⟨rfl, Z, t1, l, LB1, LC1, V2, W1, ⟨b1, b2, b3⟩, b4, -, b5⟩ | h)
  · dsimp only
    unfold cb_X4_inner_11 mb_scoped_13
    refine JP.both (jb_leave rfl rfl rfl rfl V (by omega) rfl V2 ⟨W1, ⟨b1, b2⟩, b4, b5⟩) ?_
    rintro r5 F5 G5 r6 F6 G6 ⟨t2, Zc, V3, A, le⟩
    dsimp only
    unfold cb_X4_inner_18 mb_scoped_19
    rw [if_pos (show b01 1 = true from rfl)]
    exact JP.ret (jOz.ac V3 A b3 le)
  · dsimp only
    exact JP.fin (kqj_X4_inner_11 _ (kqS2 dc) F3 G3 CFS.rf) (nqj_scoped_13 _ (nqS2 dm) _ _ F4 G4 MFS.rf) h (fun _ _ _ _ _ _ w => .inr w)
end JW9E
