section JE5
variable {fu : Nat} {X : JCX} {p : Int32} {N K n q nf t : Nat}
/-- the fourth number of a step -/
theorem EMM.w59 {w a b v : Int32} {F F1 : PF} {G G1 : PG} (h : EMM w a b F G F1 G1) : EMM w a b F G F1 (gup G1 59 (sN F) v) := by
  obtain ⟨h1, h2, h3, h4, h5, h6⟩ := h
  refine ⟨KX.g rfl h1, h2, fun k hk => ?_, ?_, ?_, ?_⟩
  · obtain ⟨c1, c2, c3, c4⟩ := h3 k hk
    exact ⟨c1, c2, c3, (gup_x hk).trans c4⟩
  · rw [gup_o (show (56 : Nat) ≠ 59 by decide)]; exact h4
  · rw [gup_o (show (57 : Nat) ≠ 59 by decide)]; exact h5
  · rw [gup_o (show (58 : Nat) ≠ 59 by decide)]; exact h6
theorem i_two {x : Int32} {l : Nat} (h0 : 0 ≤ x.toInt) (h1 : x.toInt ≤ 4000) (hl : l ≤ 1) : 2 * x + nI l = nI (2 * x.toInt.toNat + l) := by
  have e1 : (x * 2).toInt = x.toInt * 2 := i_muln x rfl (by omega) (by omega)
  have e2 : (nI l).toInt = l := nI_toInt (by omega)
  have e3 : (x * 2 + nI l).toInt = (x * 2).toInt + l := i_addn _ e2 (by omega) (by omega)
  rw [Int32.mul_comm]
  refine i_eq.mpr ?_
  rw [nI_toInt (by omega)]
  omega
theorem je_index {dm dc i κ : Nat} {s : SH} {sym m : Int32} {Fc Fm : PF} {Gc Gm : PG} (ihE : jPx fu X p N K n q nf t 1 4 dm) (I : jIn X p N K n q nf t i Fc Gc Fm Gm) (h11 : Fc 11 = 21) (m0 : p = 0 → m = -1) (m1 : p = 1 → X.1 = false ∧ ∃ k : Nat, k < t ∧ sym = nI (q + k) ∧ m = nI k ∧ Gm 17 k = 2 ∧ Gc 35 (q + k) = nI (κ + 1)) (hκ : κ = 1 ∨ κ = 2) : JP (ch_X3_index fu (cS1 fu dc) sym Fc Gc) (mh_element fu (mS1 fu dm) m Fm Gm) (fun _ F1 G1 r2 F2 G2 => jOut X p N i 1 s (κ :: s) Fc Gc Fm Gm r2 F1 G1 F2 G2) := by
  have hp := I.1.2.1
  have o0 := I.2.1.1.2.2.2.2.1
  obtain ⟨pl0, pl1, pl2⟩ := I.2.1.1.place I.1.1
  have ix := I.2.1.1.ix I.1.1
  rw [pl2] at pl0 pl1
  unfold ch_X3_index cb_X3_index_0 mh_element mb_element_0
  refine JP.ixR (fun _ => ?_)
  rw [ix]
  -- from the bracket on
  have go : ∀ (cell many : Int32) (l : Nat), l ≤ 1 → (p = 1 → ∀ k : Nat, k < t → m = nI k → cell = Gm 20 k ∧ many = Gm 21 k ∧ ((l = 0 ∧ Gm 23 k = 0) ∨ (l = 1 ∧ ¬ Gm 23 k = 0))) → JP ((cf_X2_opens fu 21 Fc Gc).bind (fun q => cb_X3_index_17 fu (cS1 fu dc) sym (Fc 13) q.1 q.2.1 q.2.2)) (mb_element_62 fu (mS1 fu dm) (Gm 6 i) cell many (nI l) Fm Gm) (fun _ F1 G1 r2 F2 G2 => jOut X p N i 1 s (κ :: s) Fc Gc Fm Gm r2 F1 G1 F2 G2) := by
    intro cell many l hl hc
    unfold mb_element_62
    refine JP.both (jo_open I.1.1 I.2.1.1 (w := 24) (by decide) (by decide) (by decide)) ?_
    rintro r3 F3 G3 r4 F4 G4 (⟨rfl, rfl, hz, o⟩ | o)
    · dsimp only
      have li := I.2.1.1.ltS I.1.1 hz
      have e0 := jAl.on (X := X) (p := p) (s := s) I.1 I.2.1 li (I.1.t1 li) o
      have I1 := I.next e0 (by omega)
      unfold cb_X3_index_17 mb_element_70
      rw [if_neg i10n, if_neg i10n]
      unfold cb_X3_index_21 mb_element_73
      refine JP.both (ihE dc (i + 1) s F3 G3 F4 G4 I1) ?_
      rintro r5 F5 G5 r6 F6 G6 (⟨rfl, j, h1⟩ | h1)
      · dsimp only
        have I2 := I1.next h1 (Int.le_refl _)
        have h2 := e0.tr h1
        unfold cb_X3_index_25 mb_element_77
        rw [if_neg i10n]
        unfold mb_element_80
        refine JP.both (jo_close I2.1.1 I2.2.1.1 (by have := h2.2.2.2.1; omega) (w := 25) (by decide) (by decide) (by decide)) ?_
        rintro r7 F7 G7 r8 F8 G8 (⟨rfl, hy, o2⟩ | o2)
        · dsimp only
          have lj := I2.2.1.1.ltS I2.1.1 hy
          have e2 := jAl.on (X := X) (p := p) (s := 0 :: s) I2.1 I2.2.1 lj (I2.1.t1 lj) o2
          have I3 := I2.next e2 (by omega)
          have h3 := h2.tr e2
          unfold mb_element_86
          rw [if_neg i10n]
          unfold mb_element_91
          refine JP.R (mp_em 6 cell many F8 G8) ?_
          rintro r9 F9 G9 ⟨v0, v1, v2, v3⟩
          dsimp only
          intro rx Fx Gx ry Fy Gy ex ey
          obtain ⟨a, b, c, d, w1, w2⟩ := cp_index34 sym (Fc 13) I3.2.1.2.2.2.1 (h3.room I.1 I.2.2 (by omega)) rx Fx Gx ex
          have kx : r9.toNatClampNeg = sN F8 := by rw [v0]
          have key : ∀ l' : Nat, l' = l → Fy = F9 → Gy = gup G9 59 (sN F8) (2 * Gm 6 i + nI l') → ry = 1 → jOut X p N i 1 s (κ :: s) Fc Gc Fm Gm ry Fx Gx Fy Gy := by
            intro l' el f1 f2 f3
            rw [f1, f2, f3, el]
            have e3 : jAl X p N (j + 1) (j + 1) 0 5 (0 :: s) (κ :: s) [] F7 G7 F8 G8 Fx Gx F9 (gup G9 59 (sN F8) (2 * Gm 6 i + nI l)) := by
              refine jAl.em (ws := [a, b, c, d, Fc 13]) I3.h7.1 I3.h7.2 I3.2.1 w1 v2.w59 (fun hp1 => ?_)
              obtain ⟨x1, k, k0, k1, k2, k3, k4⟩ := m1 hp1
              obtain ⟨u1, u2, u3⟩ := hc hp1 k k0 k2
              obtain ⟨-, SA, SE, SU, SL, FT⟩ := I3.1.2.2.2.2.2 hp1
              have f20 : G8 20 = Gm 20 := h3.1.2.2 20 rfl
              have f21 : G8 21 = Gm 21 := h3.1.2.2 21 rfl
              have f23 : G8 23 = Gm 23 := h3.1.2.2 23 rfl
              have f17 : G8 17 = Gm 17 := h3.1.2.2 17 rfl
              have f35 : G7 35 = Gc 35 := h3.1.1.2 35 rfl
              obtain ⟨s0, s1, s2, s3, s4, sen⟩ := SE
              obtain ⟨n1, n2, n3, n4, n5, n6⟩ := sen k k0
              obtain ⟨κ', g, l2, z1, z2, z3, z4, z5, z6, z7, z8⟩ := jEN.arr (kf := X.2.2.2) (b := X.1) n6 (by rw [f17]; exact k3)
              obtain ⟨y1, y2, y3, y4⟩ := w2 (q + k) (q + t) (by rw [s1]; omega) (by omega) (by omega) k1
              have ek : κ' = κ := by
                have := congrArg Int32.toInt (z3.symm.trans ((congrFun f35 _).trans k4))
                rw [nI_toInt (by omega), nI_toInt (by omega)] at this
                omega
              have el : l2 = l := by
                have e23 : Gm 23 k = nI l2 := (congrFun f23 k).symm.trans z5
                rcases u3 with ⟨q1, q2⟩ | ⟨q1, q2⟩
                · rw [q2] at e23
                  have := congrArg Int32.toInt e23
                  rw [nI_toInt (by omega)] at this
                  have l0 : (0 : Int32).toInt = 0 := rfl
                  omega
                · rcases Nat.lt_or_ge l2 1 with z | z
                  · rw [show l2 = 0 by omega] at e23
                    exact absurd e23 q2
                  · omega
              have W : ∀ (jj : Nat) (x : Int32), [a, b, c, d, Fc 13][jj]? = some x → Gx 5 (wN F7 + jj) = x := (w1.2.2 (I3.h7.2 hp1)).2.2
              refine .inr (.inr (.inr (.inr ⟨x1, .inr (.inr (.inr (.inr (.inr (.inl ⟨rfl, rfl, κ, g, (Gm 6 i).toInt.toNat, l, hκ, hl, by omega, ?_, ?_, ?_, ?_, ?_, s, rfl, rfl⟩)))))⟩)))
              · rw [gup_i]
                exact i_two pl0 pl1 hl
              · show jArr X κ cell many (nI l) g (Gx 5 (wN F7 + 1)) (Gx 5 (wN F7 + 2))
                rw [W 1 b rfl, W 2 c rfl, y2, y3, u1, u2, ← el, ← ek, ← f20, ← f21]
                exact z6
              · show Gx 5 (wN F7 + 0) = jAtg g
                rw [W 0 a rfl, y1, z7, n2]
              · show Gx 5 (wN F7 + 3) = if κ = 1 then 0 else 2
                rw [W 3 d rfl, y4, congrFun f35 (q + k), k4]
                rcases hκ with e | e
                · rw [e, if_pos rfl, if_neg (by decide)]
                · rw [e, if_pos (by decide), if_neg (by decide)]
              · show Gx 5 (wN F7 + 4) = nI (Gm 6 i).toInt.toNat
                rw [W 4 (Fc 13) rfl, pl2]
                exact (jnI pl0).symm
            exact .inl ⟨rfl, j + 1, (h3.tr e3).ca (by omega) (by omega)⟩
          unfold mb_element_100 at ey
          have zz : ∀ l' : Nat, l' = l → mb_element_121 fu (mS1 fu dm) (nI l') (2 * Gm 6 i) r9 F9 G9 = some (ry, Fy, Gy) → jOut X p N i 1 s (κ :: s) Fc Gc Fm Gm ry Fx Gx Fy Gy := by
            intro l' el e
            unfold mb_element_121 mb_element_123 at e
            obtain ⟨-, e⟩ := ix_elim e
            rw [kx] at e
            obtain ⟨f1, f2, f3⟩ := ret_el e
            exact key l' el f2.symm f3.symm f1.symm
          by_cases c0 : l = 0
          · rw [if_pos (by rw [c0]; rfl)] at ey
            unfold mb_element_120 at ey
            exact zz 0 c0.symm ey
          · have c1 : l = 1 := by omega
            rw [if_neg (by rw [c1]; decide)] at ey
            unfold mb_element_116 at ey
            exact zz 1 c1.symm ey
        · exact JP.fin (kqj_X3_index_34 _ (kqS1 dc) _ _ F7 G7 CFS.rf) (nqj_element_86 _ (nqS1 dm) _ _ _ _ r8 F8 G8 MFS.rf) (.inr o2) (fun _ _ _ _ _ _ w => .inr w)
      · exact JP.fin (kqj_X3_index_25 _ (kqS1 dc) _ _ F5 G5 CFS.rf) (nqj_element_77 _ (nqS1 dm) _ _ _ _ r6 F6 G6 MFS.rf) h1 (fun _ _ _ _ _ _ w => .inr w)
    · exact JP.fin (kqj_X3_index_17 _ (kqS1 dc) _ _ r3 F3 G3 CFS.rf) (nqj_element_70 _ (nqS1 dm) _ _ _ _ r4 F4 G4 MFS.rf) (.inr o) (fun _ _ _ _ _ _ w => .inr w)
  by_cases cm : m = -1
  · rw [if_pos cm]
    unfold mb_element_15 mb_element_25
    rw [if_pos cm]
    unfold mb_element_31 mb_element_41
    rw [if_pos cm]
    unfold mb_element_61
    refine go 0 1 0 (Nat.zero_le _) (fun hp1 k k0 k2 => ?_)
    rw [cm] at k2
    have := congrArg Int32.toInt k2
    obtain ⟨-, -, SE, -⟩ := I.1.2.2.2.2.2 hp1
    rw [nI_toInt (by have := SE.2.2.1; omega)] at this
    have l1 : (-1 : Int32).toInt = -1 := rfl
    omega
  · have hp1 : p = 1 := by
      rcases hp with z | z
      · exact absurd (m0 z) cm
      · exact z
    obtain ⟨x1, k, k0, k1, k2, k3, k4⟩ := m1 hp1
    obtain ⟨-, -, SE, -⟩ := I.1.2.2.2.2.2 hp1
    have t9 := SE.2.2.1
    have km : m.toNatClampNeg = k := by
      show m.toInt.toNat = k
      rw [k2, nI_toInt (by omega)]
      omega
    have uniq : ∀ k' : Nat, k' < t → m = nI k' → k' = k := fun k' a1 a2 => by
      have := congrArg Int32.toInt (a2.symm.trans k2)
      rw [nI_toInt (by omega), nI_toInt (by omega)] at this
      omega
    rw [if_neg cm]
    unfold mb_element_19
    refine JP.ixR (fun _ => ?_)
    unfold mb_element_25
    rw [if_neg cm]
    unfold mb_element_35
    refine JP.ixR (fun _ => ?_)
    unfold mb_element_41
    rw [if_neg cm]
    unfold mb_element_48
    refine JP.ixR (fun _ => JP.iteR (fun z => ?_) (fun z => ?_))
    · unfold mb_element_61
      rw [km] at z ⊢
      exact go (Gm 20 k) (Gm 21 k) 0 (Nat.zero_le _) (fun _ k' a1 a2 => by rw [uniq k' a1 a2]; exact ⟨rfl, rfl, .inl ⟨rfl, z⟩⟩)
    · unfold mb_element_57
      rw [km] at z ⊢
      exact go (Gm 20 k) (Gm 21 k) 1 (Nat.le_refl _) (fun _ k' a1 a2 => by rw [uniq k' a1 a2]; exact ⟨rfl, rfl, .inr ⟨rfl, z⟩⟩)
end JE5
