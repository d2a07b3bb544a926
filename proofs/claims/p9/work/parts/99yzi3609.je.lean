theorem jFT.arg {nf : Nat} {kf : Nat → List Nat} {Fc : PF} {Gc Gm : PG} {g : Nat} (h : jFT nf kf Fc Gc Gm) (hg : g < nf) : (kf g).length = (Gm 27 g).toInt.toNat ∧ ∀ k : Nat, k < (kf g).length → ∃ kk : Nat, kk ≤ 2 ∧ Gm 34 ((Gm 31 g).toInt.toNat + k) = nI kk ∧ Gc 84 ((Gm 31 g).toInt.toNat + k) = nI (kk + 1) ∧ ∀ s : SH, jArg ((kf g).take (k + 1)) s = jPush kk (jArg ((kf g).take k) s) := by
  obtain ⟨-, -, h⟩ := h
  obtain ⟨-, -, h1, h2, h3, h4, h5, h6, h7⟩ := h g hg
  have len : (kf g).length = (Gm 27 g).toInt.toNat := by rw [h7, List.length_map, List.length_range]
  refine ⟨len, fun k hk => ?_⟩
  obtain ⟨kk, k0, k1, k2⟩ := h6 k (by omega)
  refine ⟨kk, k0, k1, k2, fun s => ?_⟩
  have e : (kf g)[k] = kk := by
    have : ∀ (l : List Nat) (hl : kf g = l) (hk' : k < l.length), l[k] = (kf g)[k] := by
      intro l hl hk'
      subst hl
      rfl
    rw [← this _ h7 (by rw [List.length_map, List.length_range]; omega), List.getElem_map, List.getElem_range, k1, nI_toInt (by omega)]
    omega
  rw [List.take_succ_eq_append_getElem hk, jArg_app, e]
  rfl
/-- what the reference makes of a name alone where an array is wanted -/
def jAA (t kk : Nat) (F : PF) (G : PG) (m r : Int32) (F4 : PF) (G4 : PG) : Prop := (∃ e : Nat, e < t ∧ m = nI e ∧ G 17 e = 2 ∧ G 22 e = nI (kk - 1) ∧ r = 1 ∧ ∃ (F2 : PF) (G3 : PG) (l : Nat), KX [62] [] F G F2 G ∧ EMM 5 (G 20 e) (G 21 e) (fup F2 42 (F2 42 + 1)) G F4 G3 ∧ ((l = 0 ∧ G 23 e = 0) ∨ (l = 1 ∧ ¬ G 23 e = 0)) ∧ G4 = gup G3 59 (sN F) (nI l)) ∨ ((¬ ∃ e : Nat, e < t ∧ m = nI e ∧ G 17 e = 2 ∧ G 22 e = nI (kk - 1)) ∧ ¬ F4 47 = 0)
section JE9
variable {fu : Nat} {X : JCX} {p : Int32} {N K n q nf t : Nat}
/-- an argument that is an expression -/
theorem je_argE {dm dc j k : Nat} {s : SH} {f : Int32} {Fc Fm : PF} {Gc Gm : PG} (ihE : ∀ d : Nat, d < dm → jPx fu X p N K n q nf t 1 4 d) (I : jIn X p N K n q nf t j Fc Gc Fm Gm) (hA : (p = 0 ∧ f = -1) ∨ (Fm 54 = 0 ∧ ∃ g : Nat, g < 450 ∧ k < 5000 ∧ f = nI g ∧ (k : Int) < (Gm 27 g).toInt ∧ 0 ≤ (Gm 31 g).toInt ∧ (Gm 31 g).toInt + (Gm 27 g).toInt ≤ 690 ∧ Gm 34 ((Gm 31 g).toInt.toNat + k) = 0)) : JP (cS1 fu dc 1 0 0 Fc Gc) (mS1 fu dm 0 f (nI k) Fm Gm) (fun _ F1 G1 r2 F2 G2 => jOut X p N j 0 s (0 :: s) Fc Gc Fm Gm r2 F1 G1 F2 G2) := by
  cases dm with
  | zero => exact JP.noR
  | succ dm =>
    have E := ihE dm (Nat.lt_succ_self _) dc j s Fc Gc Fm Gm I
    show JP _ (mh_argument fu (mS1 fu dm) f (nI k) Fm Gm) _
    unfold mh_argument mb_argument_0
    have e12 : JP (cS1 fu dc 1 0 0 Fc Gc) (mb_argument_12 fu (mS1 fu dm) Fm Gm) (fun _ F1 G1 r2 F2 G2 => jOut X p N j 0 s (0 :: s) Fc Gc Fm Gm r2 F1 G1 F2 G2) := by
      unfold mb_argument_12
      refine JP.bR E (fun r1 F1 G1 r2 F2 G2 h => ?_)
      dsimp only
      unfold mb_argument_16
      exact PP.bz (fun _ => PP.ret h)
    refine JP.iteR (fun c => ?_) (fun _ => e12)
    unfold mb_argument_7
    rcases hA with ⟨-, h⟩ | ⟨-, g, g0, k0, g1, g2, g3, g4, g5⟩
    · rw [if_pos h]
      exact e12
    · have eg : f.toNatClampNeg = g := by
        show f.toInt.toNat = g
        rw [g1, nI_toInt (by omega)]
        omega
      have ek : (nI k).toInt = k := nI_toInt (by omega)
      have es : (Gm 31 g + nI k).toInt = (Gm 31 g).toInt + k := i_addn _ ek (by omega) (by omega)
      rw [if_neg (by rw [g1]; exact nI_n1 (by omega))]
      unfold mb_argument_17
      refine JP.ixR (fun _ => JP.ixR (fun _ => ?_))
      rw [eg, if_pos (i_lt.mpr (by omega))]
      unfold mb_argument_49
      refine JP.ixR (fun _ => ?_)
      rw [eg]
      refine JP.ixR (fun _ => ?_)
      rw [show (Gm 31 g + nI k).toNatClampNeg = (Gm 31 g).toInt.toNat + k by show (Gm 31 g + nI k).toInt.toNat = _; omega, if_pos g5]
      unfold mb_argument_69
      refine JP.bR E (fun r1 F1 G1 r2 F2 G2 h => ?_)
      dsimp only
      unfold mb_argument_73
      exact PP.bz (fun _ => PP.ret h)
/-- the reference's argument where a fault is found -/
theorem mp_argN {dm i k g : Nat} {f : Int32} {F : PF} {G : PG} (h46 : ¬ F 46 = 0) (h54 : F 54 = 0) (h42 : F 42 = nI i) (hi : i < 4001) (g0 : g < 450) (k0 : k < 5000) (g1 : f = nI g) (g3 : 0 ≤ (G 31 g).toInt) (g4 : (G 31 g).toInt + (G 27 g).toInt ≤ 690) (hA : (G 27 g).toInt ≤ k ∨ (¬ G 34 ((G 31 g).toInt.toNat + k) = 0 ∧ ¬ jAlone G i)) : PP (mS1 fu dm 0 f (nI k) F G) (fun _ F1 _ => ¬ F1 47 = 0) := by
  cases dm with
  | zero => exact PP.no
  | succ dm =>
    show PP (mh_argument fu (mS1 fu dm) f (nI k) F G) _
    have eg : f.toNatClampNeg = g := by
      show f.toInt.toNat = g
      rw [g1, nI_toInt (by omega)]
      omega
    have ek : (nI k).toInt = k := nI_toInt (by omega)
    have ei : (F 42).toNatClampNeg = i := by
      show (F 42).toInt.toNat = i
      rw [h42, nI_toInt (by omega)]
      omega
    have ei1 : (F 42 + 1).toNatClampNeg = i + 1 := by
      show (F 42 + 1).toInt.toNat = i + 1
      have e : (F 42).toInt = i := by rw [h42, nI_toInt (by omega)]
      have : (F 42 + 1).toInt = (F 42).toInt + 1 := i_addn _ rfl (by omega) (by omega)
      omega
    unfold mh_argument mb_argument_0
    rw [if_pos h54]
    unfold mb_argument_7
    rw [if_neg (by rw [g1]; exact nI_n1 (by omega))]
    unfold mb_argument_17
    refine PP.ix (fun _ => PP.ix (fun _ => ?_))
    rw [eg]
    refine PP.ite (fun c => ?_) (fun c => ?_)
    · have c := i_lt.mp c
      have es : (G 31 g + nI k).toInt = (G 31 g).toInt + k := i_addn _ ek (by omega) (by omega)
      rcases hA with z | ⟨z1, z2⟩
      · omega
      unfold mb_argument_49
      refine PP.ix (fun _ => ?_)
      rw [eg]
      refine PP.ix (fun _ => ?_)
      rw [show (G 31 g + nI k).toNatClampNeg = (G 31 g).toInt.toNat + k by show (G 31 g + nI k).toInt.toNat = _; omega, if_neg z1]
      have no : ∀ x3 x4 : Int32, PP (mb_argument_138 fu (mS1 fu dm) x3 x4 F G) (fun _ F1 _ => ¬ F1 47 = 0) := by
        intro x3 x4
        unfold mb_argument_138 mb_argument_139
        rw [if_pos rfl]
        unfold mb_argument_146
        exact mp_nt (A := fun F' G' => mb_argument_153 fu (mS1 fu dm) F' G') h46 (by decide) (fun F' G' => nqj_argument_153 _ (nqS1 dm) F' G' MFS.rf)
      unfold mb_argument_74
      refine PP.ix (fun _ => ?_)
      rw [ei]
      refine PP.ite (fun y1 => ?_) (fun _ => no _ _)
      unfold mb_argument_87
      refine PP.ix (fun _ => ?_)
      rw [ei1]
      refine PP.ite (fun y2 => ?_) (fun _ => no _ _)
      unfold mb_argument_102
      refine PP.ix (fun _ => ?_)
      rw [ei1]
      refine PP.ite (fun y3 => absurd ⟨y1, y2, .inl y3⟩ z2) (fun _ => ?_)
      unfold mb_argument_118
      refine PP.ix (fun _ => ?_)
      rw [ei1]
      exact PP.ite (fun y3 => absurd ⟨y1, y2, .inr y3⟩ z2) (fun _ => no _ _)
    · unfold mb_argument_37
      exact mp_nt (A := fun F' G' => mb_argument_44 fu (mS1 fu dm) F' G') h46 (by decide) (fun F' G' => nqj_argument_44 _ (nqS1 dm) F' G' MFS.rf)
/-- the reference's argument that is a name alone, where an array is wanted -/
theorem mp_argA {dm i k g kk : Nat} {f m fm : Int32} {F : PF} {G : PG} (u : jSU nf t G) (h14 : (F 14).toInt = t) (h24 : (F 24).toInt = nf) (ht : t ≤ 690) (hn : nf ≤ 449) (h46 : ¬ F 46 = 0) (h54 : F 54 = 0) (h42 : F 42 = nI i) (hi : i < 4001) (g0 : g < 450) (k0 : k < 5000) (g1 : f = nI g) (g2 : (k : Int) < (G 27 g).toInt) (g3 : 0 ≤ (G 31 g).toInt) (g4 : (G 31 g).toInt + (G 27 g).toInt ≤ 690) (g5 : G 34 ((G 31 g).toInt.toNat + k) = nI kk) (kk0 : 1 ≤ kk) (kk1 : kk ≤ 2) (al : jAlone G i) (hm : jMn nf t G (G 5 i) m fm) : PP (mS1 fu dm 0 f (nI k) F G) (fun r F4 G4 => jAA t kk F G m r F4 G4) := by
  cases dm with
  | zero => exact PP.no
  | succ dm =>
    show PP (mh_argument fu (mS1 fu dm) f (nI k) F G) _
    have eg : f.toNatClampNeg = g := by
      show f.toInt.toNat = g
      rw [g1, nI_toInt (by omega)]
      omega
    have ek : (nI k).toInt = k := nI_toInt (by omega)
    have es : (G 31 g + nI k).toInt = (G 31 g).toInt + k := i_addn _ ek (by omega) (by omega)
    have ei : (F 42).toNatClampNeg = i := by
      show (F 42).toInt.toNat = i
      rw [h42, nI_toInt (by omega)]
      omega
    have ei1 : (F 42 + 1).toNatClampNeg = i + 1 := by
      show (F 42 + 1).toInt.toNat = i + 1
      have e : (F 42).toInt = i := by rw [h42, nI_toInt (by omega)]
      have : (F 42 + 1).toInt = (F 42).toInt + 1 := i_addn _ rfl (by omega) (by omega)
      omega
    have nk : ¬ nI kk = (0 : Int32) := fun z => by
      have := congrArg Int32.toInt z
      rw [nI_toInt (by omega)] at this
      have l0 : (0 : Int32).toInt = 0 := rfl
      omega
    unfold mh_argument mb_argument_0
    rw [if_pos h54]
    unfold mb_argument_7
    rw [if_neg (by rw [g1]; exact nI_n1 (by omega))]
    unfold mb_argument_17
    refine PP.ix (fun _ => PP.ix (fun _ => ?_))
    rw [eg, if_pos (i_lt.mpr (by omega))]
    unfold mb_argument_49
    refine PP.ix (fun _ => ?_)
    rw [eg]
    refine PP.ix (fun _ => ?_)
    rw [show (G 31 g + nI k).toNatClampNeg = (G 31 g).toInt.toNat + k by show (G 31 g + nI k).toInt.toNat = _; omega, g5, if_neg nk]
    have on : ∀ x3 : Int32, PP (mb_argument_134 fu (mS1 fu dm) x3 (nI kk) F G) (fun r F4 G4 => jAA t kk F G m r F4 G4) := by
      intro x3
      unfold mb_argument_134 mb_argument_139
      rw [if_neg i10n]
      unfold mb_argument_158
      refine PP.bind (mp_meanX (F 42) u h14 h24 (by omega) (by omega) (by rw [ei]; exact hm)) ?_
      rintro m' F2 _ ⟨rfl, kx, rfl, k62⟩
      dsimp only
      have e46 : ¬ F2 46 = 0 := by rw [kx.1 46 rfl]; exact h46
      have n229 : (¬ ∃ e : Nat, e < t ∧ m = nI e ∧ G 17 e = 2 ∧ G 22 e = nI (kk - 1)) → PP (mb_argument_229 fu (mS1 fu dm) x3 m F2 G) (fun r F4 G4 => jAA t kk F G m r F4 G4) := by
        intro bad
        unfold mb_argument_229
        exact PP.mono (mp_nt (A := fun F' G' => mb_argument_236 fu (mS1 fu dm) m F' G') e46 (by decide) (fun F' G' => nqj_argument_236 _ (nqS1 dm) m F' G' MFS.rf)) (fun _ _ _ w => .inr ⟨bad, w⟩)
      unfold mb_argument_166
      rcases hm with ⟨m1, e, e0, m2, -⟩ | ⟨m2, -⟩
      · have em : m.toNatClampNeg = e := by
          show m.toInt.toNat = e
          rw [m2, nI_toInt (by omega)]
          omega
        have nm : ¬ m = -1 := by rw [m2]; exact nI_n1 (by omega)
        have uq : ∀ e' : Nat, e' < t → m = nI e' → e' = e := fun e' a1 a2 => nI_ij (a2.symm.trans m2) (by omega) (by omega)
        rw [if_neg nm]
        unfold mb_argument_191
        rw [if_neg nm]
        unfold mb_argument_197
        refine PP.ix (fun _ => ?_)
        rw [em]
        refine PP.ite (fun c17 => ?_) (fun c17 => n229 (fun ⟨e', a1, a2, a3, a4⟩ => c17 (by rw [← uq e' a1 a2]; exact a3)))
        unfold mb_argument_208
        refine PP.ix (fun _ => ?_)
        rw [em]
        have fin : G 22 e = nI (kk - 1) → PP (mb_argument_236 fu (mS1 fu dm) m F2 G) (fun r F4 G4 => jAA t kk F G m r F4 G4) := by
          intro c22
          unfold mb_argument_236 mb_argument_246
          rw [if_neg nm]
          unfold mb_argument_258
          refine PP.ix (fun _ => ?_)
          unfold mb_argument_265
          rw [if_neg nm]
          unfold mb_argument_275
          refine PP.ix (fun _ => ?_)
          rw [em]
          unfold mb_argument_282
          refine PP.bind (mp_em 5 (G 20 e) (G 21 e) (fup F2 42 (F2 42 + 1)) G) ?_
          rintro r F4 G3 ⟨v0, v1, v2, v3⟩
          dsimp only
          have g23 : G3 23 = G 23 := v2.1.2 23 rfl
          have kr : r.toNatClampNeg = sN F := by
            rw [v0, fup_n (show (60 : Nat) ≠ 42 by decide), kx.1 60 rfl]
          unfold mb_argument_285
          rw [if_neg nm]
          unfold mb_argument_299
          refine PP.ix (fun _ => ?_)
          rw [em, g23]
          refine PP.ite (fun z => ?_) (fun z => ?_)
          · unfold mb_argument_313 mb_argument_314 mb_argument_315
            refine PP.ix (fun _ => ?_)
            rw [kr]
            exact PP.ret (.inl ⟨e, e0, m2, c17, c22, rfl, F2, G3, 0, kx, v2, .inl ⟨rfl, z⟩, rfl⟩)
          · unfold mb_argument_309 mb_argument_314 mb_argument_315
            refine PP.ix (fun _ => ?_)
            rw [kr]
            exact PP.ret (.inl ⟨e, e0, m2, c17, c22, rfl, F2, G3, 1, kx, v2, .inr ⟨rfl, z⟩, rfl⟩)
        refine PP.ite (fun c2 => ?_) (fun c2 => ?_)
        · have k2 : kk = 2 := nI_ij (b := 2) c2 (by omega) (by decide)
          unfold mb_argument_221 mb_argument_226
          refine PP.ite (fun y => fin (by rw [k2]; exact y)) (fun y => n229 (fun ⟨e', a1, a2, a3, a4⟩ => y ?_))
          rw [uq e' a1 a2, k2] at a4
          exact a4
        · have k2 : kk = 1 := by
            rcases Nat.lt_or_ge kk 2 with z | z
            · omega
            · exact absurd (by rw [show kk = 2 by omega]; rfl) c2
          unfold mb_argument_225 mb_argument_226
          refine PP.ite (fun y => fin (by rw [k2]; exact y)) (fun y => n229 (fun ⟨e', a1, a2, a3, a4⟩ => y ?_))
          rw [uq e' a1 a2, k2] at a4
          exact a4
      · have bad : ¬ ∃ e : Nat, e < t ∧ m = nI e ∧ G 17 e = 2 ∧ G 22 e = nI (kk - 1) := fun ⟨e', a1, a2, a3, a4⟩ => by
          rw [m2] at a2
          exact nI_n1 (by omega) a2.symm
        rw [if_pos m2]
        unfold mb_argument_174
        refine PP.ite (fun _ => ?_) (fun _ => ?_)
        · unfold mb_argument_182
          exact PP.mono (mp_nt (A := fun F' G' => mb_argument_188 fu (mS1 fu dm) m F' G') e46 (by decide) (fun F' G' => nqj_argument_188 _ (nqS1 dm) m F' G' MFS.rf)) (fun _ _ _ w => .inr ⟨bad, w⟩)
        · unfold mb_argument_191
          rw [if_pos m2]
          exact n229 bad
    unfold mb_argument_74
    refine PP.ix (fun _ => ?_)
    rw [ei, if_pos al.1]
    unfold mb_argument_87
    refine PP.ix (fun _ => ?_)
    rw [ei1, if_pos al.2.1]
    unfold mb_argument_102
    refine PP.ix (fun _ => ?_)
    rw [ei1]
    refine PP.ite (fun _ => on _) (fun y3 => ?_)
    unfold mb_argument_118
    refine PP.ix (fun _ => ?_)
    rw [ei1]
    refine PP.ite (fun _ => on _) (fun y4 => ?_)
    rcases al.2.2 with z | z
    · exact absurd z y3
    · exact absurd z y4
end JE9
