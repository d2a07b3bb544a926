theorem i_far {x k : Int32} (h0 : 0 ≤ x.toInt) (h1 : x.toInt ≤ 4001) (k0 : 1 ≤ k.toInt) (k1 : k.toInt ≤ 15) : ¬ x * 16 + k = 0 := by
  have e : (x * 16).toInt = x.toInt * 16 := i_muln x rfl (by omega) (by omega)
  have f : (x * 16 + k).toInt = (x * 16).toInt + k.toInt := i_addn _ rfl (by omega) (by omega)
  intro q
  have := congrArg Int32.toInt q
  have l : (0 : Int32).toInt = 0 := rfl
  omega
/-- the class's cursor comes to the next token -/
theorem cp_come {fu : Nat} {N K n i : Nat} {Fc Fm : PF} {Gc Gm : PG} (T : TKE N K n Fc Gc Fm Gm) (hi : i < N) {F0 : PF} (k9 : F0 9 = nI i) (k14 : F0 14 = 0) (k93 : F0 93 = Fc 93) : PP (cf_X2_comeTo fu (F0 9 + 1) F0 Gc) (fun _ F' G' => Gc = G' ∧ KX [9, 11, 12, 13, 14] [] F0 Gc F' G' ∧ ((F' 9 = nI (i + 1) ∧ F' 11 = Gc 90 (i + 1) ∧ F' 12 = Gc 91 (i + 1) ∧ F' 13 = Gc 92 (i + 1) ∧ F' 14 = 0 ∧ (i + 1 = N → Gc 90 N = 0)) ∨ (¬ F' 14 = 0 ∧ F' 11 = -2 ∧ ¬ Fm 8 = -1))) := by
  obtain ⟨⟨t0, t0'⟩, t1, t2, t3, t4, t5, t6⟩ := T
  have l0 : (0 : Int32).toInt = 0 := rfl
  have l1 : (-1 : Int32).toInt = -1 := rfl
  have e9 : (F0 9).toInt = i := by rw [k9, nI_toInt (by omega)]
  have ei : (nI (i + 1)).toInt = ((i + 1 : Nat) : Int) := nI_toInt (by omega)
  have ea : (F0 9 + 1).toInt = (F0 9).toInt + 1 := i_addn _ rfl (by omega) (by omega)
  have e1 : F0 9 + 1 = nI (i + 1) := i_eq.mpr (by omega)
  rw [e1]
  unfold cf_X2_comeTo cb_X2_comeTo_0 cb_X2_comeTo_4 cb_X2_comeTo_15 cb_X2_comeTo_16 cb_X2_comeTo_21 cb_X2_comeTo_34 cb_X2_comeTo_47 cb_X2_comeTo_60 cb_X2_comeTo_68 cb_X2_comeTo_81 cb_X2_comeTo_87
  rw [if_neg (show ¬ nI (i + 1) < 0 from fun q => by have := i_lt.mp q; omega), if_pos (show nI (i + 1) < F0 93 from i_lt.mpr (by rw [k93]; omega))]
  have ec : (nI (i + 1)).toNatClampNeg = i + 1 := by
    show (nI (i + 1)).toInt.toNat = i + 1
    omega
  rw [ec]
  have g11 : (fup (fup (fup (fup F0 9 (nI (i + 1))) 11 (Gc 90 (i + 1))) 12 (Gc 91 (i + 1))) 13 (Gc 92 (i + 1))) 11 = Gc 90 (i + 1) := by rw [fup_n (by decide), fup_n (by decide), fup_s]
  have g13 : (fup (fup (fup (fup F0 9 (nI (i + 1))) 11 (Gc 90 (i + 1))) 12 (Gc 91 (i + 1))) 13 (Gc 92 (i + 1))) 13 = Gc 92 (i + 1) := fup_s
  have bad : Gc 90 (i + 1) = 1 → i + 1 = N ∧ ¬ Fm 8 = -1 ∧ 0 ≤ (Gc 92 (i + 1)).toInt ∧ (Gc 92 (i + 1)).toInt ≤ 4000 := by
    intro q
    rcases Nat.lt_or_ge (i + 1) N with z | z
    · have := (t3 (i + 1) z).1.pos.1
      rw [q] at this
      exact absurd this (by decide)
    · have e : i + 1 = N := by omega
      rw [e] at q ⊢
      rcases t6 with ⟨t6, -⟩ | ⟨-, t6, t7, t8⟩
      · rw [q] at t6
        exact absurd t6 (by decide)
      · rw [t6]
        exact ⟨rfl, fun w => by rw [w] at t7; omega, t7, by omega⟩
  refine PP.ix (fun _ => PP.ix (fun _ => PP.ix (fun _ => PP.ite (fun q => PP.ret ⟨rfl, KX.f rfl (KX.f rfl (KX.f rfl (KX.f rfl (KX.f rfl (KX.f rfl KX.rf))))), .inr ⟨?_, fup_s, ?_⟩⟩) (fun q => PP.ret ⟨rfl, KX.f rfl (KX.f rfl (KX.f rfl (KX.f rfl KX.rf))), .inl ⟨?_, g11, ?_, g13, ?_, ?_⟩⟩))))
  · rw [fup_n (by decide), fup_s, g13]
    obtain ⟨-, -, b1, b2⟩ := bad (g11.symm.trans q)
    exact i_far b1 (by omega) (by decide) (by decide)
  · exact (bad (g11.symm.trans q)).2.1
  · rw [fup_n (by decide), fup_n (by decide), fup_n (by decide), fup_s]
  · rw [fup_n (by decide), fup_s]
  · rw [fup_n (by decide), fup_n (by decide), fup_n (by decide), fup_n (by decide)]
    exact k14
  · intro e
    rcases t6 with ⟨t6, -⟩ | ⟨t6, -⟩
    · exact t6
    · rw [g11, e] at q
      exact absurd t6 q
/-- what a joint step of the cursors may come to -/
def ON (N i' : Nat) (Fc : PF) (Gc : PG) (Fm : PF) (Gm : PG) (F1 : PF) (G1 : PG) (F2 : PF) (G2 : PG) (d : Int) : Prop := CU N i' F1 G1 F2 G2 ∧ (F1 10).toInt = (Fc 10).toInt + d
def CKc (Fc : PF) (Gc : PG) (F1 : PF) (G1 : PG) : Prop := Gc = G1 ∧ KX [9, 10, 11, 12, 13, 14] [] Fc Gc F1 G1
def MK (Fm : PF) (Gm : PG) (F2 : PF) (G2 : PG) : Prop := Gm = G2 ∧ KX [42, 43, 44, 45] [] Fm Gm F2 G2
theorem FLT.mk {F F' : PF} {G G' : PG} (h : FLT F F' G G') : MK F G F' G' := ⟨h.2.1, KX.tr KX.rf h.2.2 rfl rfl⟩
/-- the class fails -/
theorem cp_fail {fu : Nat} {k : Int32} (k0 : 1 ≤ k.toInt) (k1 : k.toInt ≤ 15) {F : PF} {G : PG} (p0 : 0 ≤ (F 13).toInt) (p1 : (F 13).toInt ≤ 4001) : PP (cf_X2_fail fu k F G) (fun _ F' G' => G = G' ∧ KX [11, 14] [] F G F' G' ∧ ¬ F' 14 = 0 ∧ F' 11 = -2) := by
  unfold cf_X2_fail cb_X2_fail_0 cb_X2_fail_7 cb_X2_fail_20 cb_X2_fail_26
  refine PP.ite (fun c => PP.ret ⟨rfl, KX.f rfl (KX.f rfl KX.rf), ?_, fup_s⟩) (fun c => PP.ret ⟨rfl, KX.f rfl KX.rf, ?_, fup_s⟩)
  · rw [fup_n (by decide), fup_s]
    exact i_far p0 p1 k0 k1
  · rw [fup_n (by decide)]
    exact c
theorem CU.place {N K n i : Nat} {Fc Fm : PF} {Gc Gm : PG} (T : TKE N K n Fc Gc Fm Gm) (c : CU N i Fc Gc Fm Gm) : 0 ≤ (Fc 13).toInt ∧ (Fc 13).toInt ≤ 4000 ∧ Fc 13 = Gm 6 i := by
  have t := c.tk T
  have e : Fc 13 = Gm 6 i := by
    rcases t with t | t
    · exact t.1
    · exact t.2.2
  obtain ⟨⟨t0, t0'⟩, t1, t2, t3, t4, t5, t6⟩ := T
  rw [e]
  rcases Nat.lt_or_ge i N with q | q
  · have := (t3 i q).2.2
    exact ⟨by omega, by omega, rfl⟩
  · have : i = N := by have := c.1; omega
    rw [this]
    exact ⟨by omega, by omega, rfl⟩
/-- both go on by one token; the class's opened is F0's, the reference's too -/
theorem CU.move {fu : Nat} {N K n i : Nat} {Fc Fm F0 F1 F2 : PF} {Gc Gm G1 : PG} {r : Int32} (T : TKE N K n Fc Gc Fm Gm) (c : CU N i Fc Gc Fm Gm) (hi : i < N) (k0 : KX [10] [] Fc Gc F0 Gc) (h1 : cf_X2_comeTo fu (F0 9 + 1) F0 Gc = some (r, F1, G1)) (e42 : F2 42 = Fm 42 + 1) (e43 : F2 43 = F0 10) (k2 : KX [42, 43] [] Fm Gm F2 Gm) (o0 : 0 ≤ (F0 10).toInt) (o1 : (F0 10).toInt ≤ 40) : CKc Fc Gc F1 G1 ∧ F1 10 = F0 10 ∧ (CU N (i + 1) F1 G1 F2 Gm ∨ DEAD F1 F2) := by
  obtain ⟨c0, c1, c2, c3, c4, c5, c6, c7, c8, c9, c10, c11⟩ := id c
  obtain ⟨rfl, k, q⟩ := cp_come T hi ((k0.1 9 rfl).trans c1) ((k0.1 14 rfl).trans c6) (k0.1 93 rfl) r F1 G1 h1
  have e10 : F1 10 = F0 10 := k.1 10 rfl
  refine ⟨⟨rfl, KX.tr (KX.tr KX.rf k0 rfl rfl) k rfl rfl⟩, e10, ?_⟩
  rcases q with ⟨q1, q2, q3, q4, q5, q6⟩ | ⟨q1, q2, q3⟩
  · refine .inl ⟨by omega, q1, ?_, by rw [e10, e43], by rw [e10]; exact o0, by rw [e10]; exact o1, q5, (k2.1 44 rfl).trans c7, q2, q3, q4, q6⟩
    have t0 := T.1
    have ea : (nI i + 1).toInt = (nI i).toInt + 1 := i_addn _ rfl (by rw [nI_toInt (by omega)]; omega) (by rw [nI_toInt (by omega)]; omega)
    rw [nI_toInt (by omega)] at ea
    rw [e42, c2]
    exact i_eq.mpr (by rw [nI_toInt (by omega)]; omega)
  · exact .inr ⟨q1, q2, .inr (by rw [k2.1 8 rfl]; exact q3)⟩
theorem CU.dead {Fc Fm : PF} (a : ¬ Fc 14 = 0) (d : Fc 11 = -2) (f : 0 < (Fm 44).toInt) : DEAD Fc Fm := ⟨a, d, .inl (fun e => by rw [e] at f; exact absurd f (by decide))⟩
theorem CU.lt {N K n i : Nat} {Fc Fm : PF} {Gc Gm : PG} (T : TKE N K n Fc Gc Fm Gm) (c : CU N i Fc Gc Fm Gm) (h : ¬ Gm 4 i = 0) : i < N := by
  rcases Nat.lt_or_ge i N with q | q
  · exact q
  · have e : i = N := by have := c.1; omega
    rw [e] at h
    exact absurd T.2.2.2.2.1 h
