section JR1
variable {fu : Nat} {p : Int32} {N K n : Nat} {x1 x2 x3 x4 x5 x6 z0 z1 z2 : Int32} {F0 F Fc Fm F1 F2 Fi : PF} {G Gc Gm G1 G2 : PG} {ag : Int32 → Int32 → PF → PG → PR} {R : Int32 → PF → PG → Prop}
/-- the class's cursor comes to the first token -/
theorem cp_come0 (T : TKE N K n Fc Gc Fm Gm) (k14 : F0 14 = 0) (k93 : F0 93 = Fc 93) : PP (cf_X2_comeTo fu 0 F0 Gc) (fun _ F' G' => Gc = G' ∧ KX [9, 11, 12, 13, 14] [] F0 Gc F' G' ∧ ((F' 9 = 0 ∧ F' 11 = Gc 90 0 ∧ F' 12 = Gc 91 0 ∧ F' 13 = Gc 92 0 ∧ F' 14 = 0 ∧ (0 = N → Gc 90 N = 0)) ∨ (¬ F' 14 = 0 ∧ F' 11 = -2 ∧ ¬ Fm 8 = -1))) := by
  obtain ⟨⟨t0, t0'⟩, t1, t2, t3, t4, t5, t6⟩ := T
  have l0 : (0 : Int32).toInt = 0 := rfl
  have l1 : (-1 : Int32).toInt = -1 := rfl
  unfold cf_X2_comeTo cb_X2_comeTo_0 cb_X2_comeTo_4 cb_X2_comeTo_15 cb_X2_comeTo_16 cb_X2_comeTo_21 cb_X2_comeTo_34 cb_X2_comeTo_47 cb_X2_comeTo_60 cb_X2_comeTo_68 cb_X2_comeTo_81 cb_X2_comeTo_87
  rw [if_neg (show ¬ (0 : Int32) < 0 by decide), if_pos (show (0 : Int32) < F0 93 from i_lt.mpr (by rw [k93]; omega))]
  have ec : (0 : Int32).toNatClampNeg = 0 := rfl
  rw [ec]
  have g11 : (fup (fup (fup (fup F0 9 0) 11 (Gc 90 0)) 12 (Gc 91 0)) 13 (Gc 92 0)) 11 = Gc 90 0 := by rw [fup_n (by decide), fup_n (by decide), fup_s]
  have g13 : (fup (fup (fup (fup F0 9 0) 11 (Gc 90 0)) 12 (Gc 91 0)) 13 (Gc 92 0)) 13 = Gc 92 0 := fup_s
  have bad : Gc 90 0 = 1 → 0 = N ∧ ¬ Fm 8 = -1 ∧ 0 ≤ (Gc 92 0).toInt ∧ (Gc 92 0).toInt ≤ 4000 := by
    intro q
    rcases Nat.lt_or_ge 0 N with z | z
    · have := (t3 0 z).1.pos.1
      rw [q] at this
      exact absurd this (by decide)
    · have e : 0 = N := by omega
      rw [e] at q ⊢
      rcases t6 with ⟨t6, -⟩ | ⟨-, t6, t7, t8⟩
      · rw [q] at t6
        exact absurd t6 (by decide)
      · rw [t6]
        exact ⟨rfl, fun w => by rw [w] at t7; omega, t7, by omega⟩
  refine PP.ix (fun _ => PP.ix (fun _ => PP.ix (fun _ => PP.ite (fun q => PP.ret ⟨rfl, KX.f rfl (KX.f rfl (KX.f rfl (KX.f rfl (KX.f rfl (KX.f rfl KX.rf))))), .inr ⟨?_, fup_s, ?_⟩⟩) (fun q => PP.ret ⟨rfl, KX.f rfl (KX.f rfl (KX.f rfl (KX.f rfl KX.rf))), .inl ⟨?_, g11, ?_, g13, ?_, ?_⟩⟩))))
  · rw [fup_n (by decide), fup_s, g13]
    obtain ⟨-, -, b1, b2⟩ := bad (g11.symm.trans q)
    exact i_far b1 (by omega) (by decide) (by decide)
  · exact (bad (g11.symm.trans q)).2.1
  · rw [fup_n (by decide), fup_n (by decide), fup_n (by decide), fup_s]
  · rw [fup_n (by decide), fup_s]
  · rw [fup_n (by decide), fup_n (by decide), fup_n (by decide), fup_n (by decide)]
    exact k14
  · intro e
    rcases t6 with ⟨t6, -⟩ | ⟨t6, -⟩
    · exact t6
    · rw [g11, e] at q
      exact absurd t6 q
/-- the class begins a pass -/
theorem cp_cstart (T : TKE N K n Fc Gc Fm Gm) (hp : p = 0 ∨ p = 1) : PP (cf_X4_start fu p Fc Gc) (fun _ F' G' => Gc = G' ∧ KX [7, 9, 10, 11, 12, 13, 14, 21, 28, 29, 30, 31, 42, 45] [] Fc Gc F' G' ∧ (F' 28 = 0 ∧ F' 29 = 0 ∧ F' 42 = 0 ∧ F' 45 = p ∧ F' 7 = p ∧ F' 21 = 0 ∧ F' 10 = 0) ∧ ((F' 9 = 0 ∧ F' 11 = Gc 90 0 ∧ F' 12 = Gc 91 0 ∧ F' 13 = Gc 92 0 ∧ F' 14 = 0 ∧ (0 = N → Gc 90 N = 0)) ∨ (¬ F' 14 = 0 ∧ F' 11 = -2 ∧ ¬ Fm 8 = -1))) := by
  have hb : b01 p = true := by
    rcases hp with y | y <;> rw [y] <;> rfl
  unfold cf_X4_start cb_X4_start_0 cb_X4_start_5 cb_X4_start_10 cb_X4_start_15 cb_X4_start_20 cb_X4_start_28 cb_X4_start_36
  rw [if_pos hb, if_pos hb]
  have e1 : cb_X4_start_44 fu (fup (fup (fup (fup (fup (fup (fup Fc 28 0) 29 0) 30 (-1)) 31 (-1)) 42 0) 45 p) 7 p) Gc = (cf_X2_comeTo fu 0 (fup (fup (fup (fup (fup (fup (fup (fup (fup (fup Fc 28 0) 29 0) 30 (-1)) 31 (-1)) 42 0) 45 p) 7 p) 21 0) 10 0) 14 0) Gc).bind (fun q => some (0, q.2.1, q.2.2)) := by
    unfold cb_X4_start_44 cf_X3_start cb_X3_start_0 cb_X3_start_5
    show cb_X4_start_51 fu _ Gc = _
    unfold cb_X4_start_51 cf_X2_start cb_X2_start_0 cb_X2_start_5 cb_X2_start_10
    rw [Option.bind_assoc]
    rfl
  rw [e1]
  have kx : KX [7, 9, 10, 11, 12, 13, 14, 21, 28, 29, 30, 31, 42, 45] [] Fc Gc (fup (fup (fup (fup (fup (fup (fup (fup (fup (fup Fc 28 0) 29 0) 30 (-1)) 31 (-1)) 42 0) 45 p) 7 p) 21 0) 10 0) 14 0) Gc := KX.f rfl (KX.f rfl (KX.f rfl (KX.f rfl (KX.f rfl (KX.f rfl (KX.f rfl (KX.f rfl (KX.f rfl (KX.f rfl KX.rf)))))))))
  have v28 : (fup (fup (fup (fup (fup (fup (fup (fup (fup (fup Fc 28 0) 29 0) 30 (-1)) 31 (-1)) 42 0) 45 p) 7 p) 21 0) 10 0) 14 0) 28 = 0 := rfl
  have v29 : (fup (fup (fup (fup (fup (fup (fup (fup (fup (fup Fc 28 0) 29 0) 30 (-1)) 31 (-1)) 42 0) 45 p) 7 p) 21 0) 10 0) 14 0) 29 = 0 := rfl
  have v42 : (fup (fup (fup (fup (fup (fup (fup (fup (fup (fup Fc 28 0) 29 0) 30 (-1)) 31 (-1)) 42 0) 45 p) 7 p) 21 0) 10 0) 14 0) 42 = 0 := rfl
  have v45 : (fup (fup (fup (fup (fup (fup (fup (fup (fup (fup Fc 28 0) 29 0) 30 (-1)) 31 (-1)) 42 0) 45 p) 7 p) 21 0) 10 0) 14 0) 45 = p := rfl
  have v7 : (fup (fup (fup (fup (fup (fup (fup (fup (fup (fup Fc 28 0) 29 0) 30 (-1)) 31 (-1)) 42 0) 45 p) 7 p) 21 0) 10 0) 14 0) 7 = p := rfl
  have v21 : (fup (fup (fup (fup (fup (fup (fup (fup (fup (fup Fc 28 0) 29 0) 30 (-1)) 31 (-1)) 42 0) 45 p) 7 p) 21 0) 10 0) 14 0) 21 = 0 := rfl
  have v10 : (fup (fup (fup (fup (fup (fup (fup (fup (fup (fup Fc 28 0) 29 0) 30 (-1)) 31 (-1)) 42 0) 45 p) 7 p) 21 0) 10 0) 14 0) 10 = 0 := rfl
  have v14 : (fup (fup (fup (fup (fup (fup (fup (fup (fup (fup Fc 28 0) 29 0) 30 (-1)) 31 (-1)) 42 0) 45 p) 7 p) 21 0) 10 0) 14 0) 14 = 0 := rfl
  generalize fup (fup (fup (fup (fup (fup (fup (fup (fup (fup Fc 28 0) 29 0) 30 (-1)) 31 (-1)) 42 0) 45 p) 7 p) 21 0) 10 0) 14 0 = Fx at kx v28 v29 v42 v45 v7 v21 v10 v14 ⊢
  refine PP.bind (cp_come0 T v14 (kx.1 93 rfl)) ?_
  rintro r F' G' ⟨rfl, k, hc⟩
  exact PP.ret ⟨rfl, KX.tr kx k rfl rfl, ⟨(k.1 28 rfl).trans v28, (k.1 29 rfl).trans v29, (k.1 42 rfl).trans v42, (k.1 45 rfl).trans v45, (k.1 7 rfl).trans v7, (k.1 21 rfl).trans v21, (k.1 10 rfl).trans v10⟩, hc⟩
/-- the reference begins a pass -/
theorem mt_start (F : PF) (G : PG) : ∃ Fi : PF, TI0 F G Fi ∧ mf_texts fu F G = ml_texts_87 fu fu 0 1 Fi G := by
  unfold mf_texts mb_texts_0 mb_texts_5 mb_texts_10 mb_texts_15 mb_texts_20 mb_texts_25 mb_texts_30 mb_texts_35 mb_texts_40
  have Ka : KX [14, 15, 24, 35, 36, 37, 42, 43, 50, 60, 70] [] F G (fup (fup (fup (fup (fup (fup (fup (fup (fup F 42 0) 43 0) 14 0) 15 0) 60 0) 70 0) 36 0) 37 0) 50 (-1)) G := KX.f rfl (KX.f rfl (KX.f rfl (KX.f rfl (KX.f rfl (KX.f rfl (KX.f rfl (KX.f rfl (KX.f rfl KX.rf))))))))
  have a1 : (fup (fup (fup (fup (fup (fup (fup (fup (fup F 42 0) 43 0) 14 0) 15 0) 60 0) 70 0) 36 0) 37 0) 50 (-1)) 42 = 0 := rfl
  have a2 : (fup (fup (fup (fup (fup (fup (fup (fup (fup F 42 0) 43 0) 14 0) 15 0) 60 0) 70 0) 36 0) 37 0) 50 (-1)) 43 = 0 := rfl
  have a3 : (fup (fup (fup (fup (fup (fup (fup (fup (fup F 42 0) 43 0) 14 0) 15 0) 60 0) 70 0) 36 0) 37 0) 50 (-1)) 14 = 0 := rfl
  have a4 : (fup (fup (fup (fup (fup (fup (fup (fup (fup F 42 0) 43 0) 14 0) 15 0) 60 0) 70 0) 36 0) 37 0) 50 (-1)) 15 = 0 := rfl
  have a5 : (fup (fup (fup (fup (fup (fup (fup (fup (fup F 42 0) 43 0) 14 0) 15 0) 60 0) 70 0) 36 0) 37 0) 50 (-1)) 60 = 0 := rfl
  have a6 : (fup (fup (fup (fup (fup (fup (fup (fup (fup F 42 0) 43 0) 14 0) 15 0) 60 0) 70 0) 36 0) 37 0) 50 (-1)) 70 = 0 := rfl
  have a7 : (fup (fup (fup (fup (fup (fup (fup (fup (fup F 42 0) 43 0) 14 0) 15 0) 60 0) 70 0) 36 0) 37 0) 50 (-1)) 36 = 0 := rfl
  have a8 : (fup (fup (fup (fup (fup (fup (fup (fup (fup F 42 0) 43 0) 14 0) 15 0) 60 0) 70 0) 36 0) 37 0) 50 (-1)) 37 = 0 := rfl
  have a9 : (fup (fup (fup (fup (fup (fup (fup (fup (fup F 42 0) 43 0) 14 0) 15 0) 60 0) 70 0) 36 0) 37 0) 50 (-1)) 46 = F 46 := rfl
  have a10 : (fup (fup (fup (fup (fup (fup (fup (fup (fup F 42 0) 43 0) 14 0) 15 0) 60 0) 70 0) 36 0) 37 0) 50 (-1)) 24 = F 24 := rfl
  have a11 : (fup (fup (fup (fup (fup (fup (fup (fup (fup F 42 0) 43 0) 14 0) 15 0) 60 0) 70 0) 36 0) 37 0) 50 (-1)) 35 = F 35 := rfl
  generalize fup (fup (fup (fup (fup (fup (fup (fup (fup F 42 0) 43 0) 14 0) 15 0) 60 0) 70 0) 36 0) 37 0) 50 (-1) = Fa at Ka a1 a2 a3 a4 a5 a6 a7 a8 a9 a10 a11
  unfold mb_texts_45
  rw [a9]
  by_cases c : F 46 = 0
  · rw [if_pos c]
    unfold mb_texts_53 mb_texts_61 mb_texts_64
    rw [if_pos (show (fup Fa 24 0) 46 = 0 from a9.trans c)]
    unfold mb_texts_74 mb_texts_82 mb_texts_85
    exact ⟨fup (fup Fa 24 0) 35 0, ⟨KX.f rfl (KX.f rfl Ka), a1, a2, a3, a4, a5, a6, a7, a8, fun _ => ⟨rfl, rfl⟩, fun n => absurd c n⟩, rfl⟩
  · rw [if_neg c]
    unfold mb_texts_57 mb_texts_61 mb_texts_64
    rw [if_neg (show ¬ (fup Fa 24 (Fa 24)) 46 = 0 from fun e => c (a9.symm.trans e))]
    unfold mb_texts_78 mb_texts_82 mb_texts_85
    exact ⟨fup (fup Fa 24 (Fa 24)) 35 ((fup Fa 24 (Fa 24)) 35), ⟨KX.f rfl (KX.f rfl Ka), a1, a2, a3, a4, a5, a6, a7, a8, fun n => absurd n c, fun _ => ⟨a10, a11⟩⟩, rfl⟩
theorem PP.tt {a : PR} : PP a (fun _ _ _ => True) := fun _ _ _ _ => trivial
/-- a turn of walk ends as what comes behind it -/
theorem kg_36 (hag : ∀ (z : Int32) (F : PF) (G : PG), PP (ag x1 z F G) R) (F : PF) (G : PG) : PP (cb_X4_walk_36 fu ag x1 x2 F G) R := by
  have w220 : ∀ (x4 x5 x6 : Int32) (F : PF) (G : PG), PP (cb_X4_walk_220 fu ag x1 x2 x4 x5 x6 F G) R := by
    intro x4 x5 x6 F G
    unfold cb_X4_walk_220
    exact PP.ite (fun _ => PP.bind PP.tt (fun r F1 G1 _ => hag (x2 + 1) F1 G1)) (fun _ => PP.bind PP.tt (fun r F1 G1 _ => hag (x2 + 1) F1 G1))
  have w179 : ∀ (x4 x5 x6 : Int32) (F : PF) (G : PG), PP (cb_X4_walk_179 fu ag x1 x2 x4 x5 x6 F G) R := by
    intro x4 x5 x6 F G
    have w : ∀ c : Int32, PP (cb_X4_walk_214 fu ag x1 x2 c x6 x5 F G) R := fun c => PP.bind PP.tt (fun r F1 G1 _ => hag (x2 + 1) F1 G1)
    unfold cb_X4_walk_179
    refine PP.ite (fun _ => ?_) (fun _ => w220 _ _ _ _ _)
    unfold cb_X4_walk_191
    refine PP.ite (fun _ => w220 _ _ _ _ _) (fun _ => ?_)
    unfold cb_X4_walk_198
    exact PP.ite (fun _ => w 2) (fun _ => w 3)
  have w147 : ∀ (x5 z0 z1 z2 : Int32) (F : PF) (G : PG), PP (cb_X4_walk_147 fu ag x1 x2 x5 z0 z1 z2 F G) R := by
    intro x5 z0 z1 z2 F G
    refine PP.bind PP.tt (fun r F1 G1 _ => ?_)
    have w : ∀ c : Int32, PP (cb_X4_walk_165 fu ag x1 x2 c F1 G1) R := fun c => PP.bind PP.tt (fun r2 F2 G2 _ => PP.bind PP.tt (fun r3 F3 G3 _ => PP.bind PP.tt (fun r4 F4 G4 _ => hag (x2 + 1) F4 G4)))
    show PP (cb_X4_walk_150 fu ag x1 x2 x5 F1 G1) _
    unfold cb_X4_walk_150
    exact PP.ite (fun _ => w 1) (fun _ => w 0)
  have w65 : ∀ (x3 : Int32) (F : PF) (G : PG), PP (cb_X4_walk_65 fu ag x1 x2 x3 F G) R := by
    intro x3 F G
    refine PP.bind PP.tt (fun r F1 G1 _ => PP.bind PP.tt (fun r2 F2 G2 _ => ?_))
    show PP (cb_X4_walk_98 fu ag x1 x2 x3 r (F1 12) (F1 13) F2 G2) R
    unfold cb_X4_walk_98
    refine PP.ite (fun _ => ?_) (fun _ => PP.bind PP.tt (fun r F1 G1 _ => hag (x2 + 1) F1 G1))
    unfold cb_X4_walk_113
    refine PP.ite (fun _ => ?_) (fun _ => w179 _ _ _ _ _)
    unfold cb_X4_walk_125
    refine PP.ite (fun _ => w179 _ _ _ _ _) (fun _ => ?_)
    unfold cb_X4_walk_131
    exact PP.ite (fun _ => w147 _ _ _ _ _ _) (fun _ => w147 _ _ _ _ _ _)
  unfold cb_X4_walk_36
  refine PP.ite (fun _ => ?_) (fun _ => ?_)
  · unfold cb_X4_walk_48 cb_X4_walk_53
    rw [if_neg i10n]
    exact PP.bind PP.tt (fun r F1 G1 _ => w65 1 F1 G1)
  · unfold cb_X4_walk_52 cb_X4_walk_53
    rw [if_pos rfl]
    exact w65 0 F G
theorem kg_7 (h : ∀ (F : PF) (G : PG), PP (cb_X4_walk_251 fu x1 F G) R) : ∀ (m : Nat) (z : Int32) (F : PF) (G : PG), PP (cl_X4_walk_7 fu m x1 z F G) R := by
  intro m
  induction m with
  | zero => intro z F G; exact PP.no
  | succ m ih =>
    intro z F G
    show PP (cb_X4_walk_7 fu (cl_X4_walk_7 fu m) x1 z F G) _
    unfold cb_X4_walk_7
    refine PP.ite (fun _ => h F G) (fun _ => ?_)
    unfold cb_X4_walk_14
    refine PP.ite (fun _ => h F G) (fun _ => ?_)
    unfold cb_X4_walk_24
    exact PP.ite (fun _ => h F G) (fun _ => kg_36 ih F G)
/-- what the class's walk answers, in the first pass -/
theorem cp_walk0 (F : PF) (G : PG) : PP (cf_X4_walk fu 0 F G) (fun r F' _ => r = F' 14) := by
  unfold cf_X4_walk cb_X4_walk_0
  refine PP.bind PP.tt (fun r F1 G1 _ => ?_)
  refine kg_7 (fun F G => ?_) fu 0 F1 G1
  have w : ∀ (F : PF) (G : PG), PP (cb_X4_walk_278 fu 0 F G) (fun r F' _ => r = F' 14) := fun F G => by
    unfold cb_X4_walk_278
    rw [if_pos rfl]
    exact PP.ret rfl
  unfold cb_X4_walk_251
  exact PP.ite (fun _ => PP.bind PP.tt (fun r F1 G1 _ => w F1 G1)) (fun _ => w F G)
theorem i_f16 (x k : Int32) (k0 : 1 ≤ k.toInt) (k1 : k.toInt ≤ 15) : ¬ x * 16 + k = 0 := by
  intro h
  obtain ⟨a, e1, -⟩ := i_add (x * 16) k
  have e2 : (x * 16).toInt = (x.toInt * 16).bmod 4294967296 := by rw [Int32.toInt_mul, show (16 : Int32).toInt = 16 from rfl]
  obtain ⟨c, e3, -⟩ := i_bm (x.toInt * 16)
  rw [h] at e1
  have l0 : (0 : Int32).toInt = 0 := rfl
  omega
/-- what the class's walk answers, in the second pass -/
theorem cp_walk1 (F : PF) (G : PG) : PP (cf_X4_walk fu 1 F G) (fun r F' _ => ((F' 43).toInt ≤ 4000 → ¬ r = 0) ∧ (F' 43 = 4001 → r = 0)) := by
  unfold cf_X4_walk cb_X4_walk_0
  refine PP.bind PP.tt (fun r F1 G1 _ => ?_)
  refine kg_7 (fun F G => ?_) fu 0 F1 G1
  have l4 : (4000 : Int32).toInt = 4000 := rfl
  have l1 : (4001 : Int32).toInt = 4001 := rfl
  have w : ∀ (F : PF) (G : PG), PP (cb_X4_walk_278 fu 1 F G) (fun r F' _ => ((F' 43).toInt ≤ 4000 → ¬ r = 0) ∧ (F' 43 = 4001 → r = 0)) := fun F G => by
    unfold cb_X4_walk_278
    rw [if_neg i10n]
    unfold cb_X4_walk_282 cf_X5_fault cb_X5_fault_0
    by_cases c : F 43 ≤ 4000
    · rw [if_pos c]
      unfold cb_X5_fault_14
      refine PP.bind (Q1 := fun r F' _ => F = F' ∧ ¬ r = 0) (PP.ix (fun hx => PP.ret ⟨rfl, ?_⟩)) ?_
      · have hx := vp_in_iff.mp hx
        have t : ∀ j : Nat, j < 10 → 1 ≤ (tb_0 j).toInt ∧ (tb_0 j).toInt ≤ 15 := by decide
        have t1 := t (F 44).toNatClampNeg (by rw [i_tn]; omega)
        exact i_f16 _ _ t1.1 t1.2
      · rintro r F' G' ⟨rfl, h⟩
        refine PP.ret ⟨fun _ => h, fun y => ?_⟩
        replace y : F 43 = 4001 := y
        have := i_le.mp c
        rw [y] at this
        omega
    · rw [if_neg c]
      refine PP.ret ⟨fun y => ?_, fun _ => rfl⟩
      replace y : (F 43).toInt ≤ 4000 := y
      exact absurd (i_le.mpr (by omega)) c
  unfold cb_X4_walk_251
  exact PP.ite (fun _ => PP.bind PP.tt (fun r F1 G1 _ => w F1 G1)) (fun _ => w F G)
/-- in the first pass no word is written -/
theorem cp_off (F : PF) (G : PG) (h6 : F 6 = 0) (h75 : F 75 = 0) : PP (cf_X4_walk fu 0 F G) (fun _ F' _ => F' 6 = 0 ∧ F' 75 = 0) := by
  unfold cf_X4_walk cb_X4_walk_0
  have st : PP (cf_X4_start fu 0 F G) (fun _ F' _ => F' 7 = 0 ∧ F' 6 = 0 ∧ F' 45 = 0 ∧ F' 75 = 0) := by
    unfold cf_X4_start cb_X4_start_0 cb_X4_start_5 cb_X4_start_10 cb_X4_start_15 cb_X4_start_20 cb_X4_start_28 cb_X4_start_36
    rw [if_pos (show b01 0 = true from rfl), if_pos (show b01 0 = true from rfl)]
    unfold cb_X4_start_44 cf_X3_start cb_X3_start_0 cb_X3_start_5
    show PP (cb_X4_start_51 fu _ G) _
    unfold cb_X4_start_51 cf_X2_start cb_X2_start_0 cb_X2_start_5 cb_X2_start_10
    rw [Option.bind_assoc]
    refine PP.bind (cw_X2_comeTo 0 _ G) ?_
    rintro r F' G' k
    refine PP.ret ⟨?_, ?_, ?_, ?_⟩
    · show F' 7 = 0
      rw [k.1 7 rfl]
      rfl
    · show F' 6 = 0
      rw [k.1 6 rfl]
      exact h6
    · show F' 45 = 0
      rw [k.1 45 rfl]
      rfl
    · show F' 75 = 0
      rw [k.1 75 rfl]
      exact h75
  refine PP.bind st (fun r F1 G1 h => ?_)
  exact PP.mono (koz_X4_walk_7 fu 0 0 F1 G1 COF.rf) (fun _ F' _ w => ⟨(w h).2.1, (w h).2.2.2⟩)
/-- the traces: where a text ends it goes no further -/
theorem pth_no {Kk V : Nat → Int32} {m f : Nat} {t : Int32} (h : pth Kk V fu m = some (t, f)) (k0 : Kk t.toNatClampNeg = 0) : ∀ d : Nat, pth Kk V fu (m + 1 + d) = none := by
  have wd : ∀ w : Int32, ¬ wdn Kk V t w = true := fun w y => by
    have := (of_decide_eq_true y).1
    rw [k0] at this
    exact absurd this (by decide)
  have rt : rtells Kk V fu t 0 = some none := by
    unfold rtells
    rw [if_neg (wd 3), if_neg (wd 2), if_neg (wd 1), if_neg (wd 0)]
    rfl
  intro d
  induction d with
  | zero =>
    show (match pth Kk V fu m with
      | some (t, g) => (match rtells Kk V fu t 0 with
        | some (some t1) => some (t1, if isfn Kk V t = true then g + 1 else g)
        | _ => none)
      | none => none) = _
    rw [h]
    show (match rtells Kk V fu t 0 with
        | some (some t1) => some (t1, if isfn Kk V t = true then f + 1 else f)
        | _ => none) = _
    rw [rt]
  | succ d ih =>
    show (match pth Kk V fu (m + 1 + d) with
      | some (t, g) => (match rtells Kk V fu t 0 with
        | some (some t1) => some (t1, if isfn Kk V t = true then g + 1 else g)
        | _ => none)
      | none => none) = _
    rw [ih]
theorem pth_end {Kk V : Nat → Int32} {m M f g : Nat} {t t' : Int32} (h : pth Kk V fu m = some (t, f)) (k0 : Kk t.toNatClampNeg = 0) (hM : pth Kk V fu M = some (t', g)) (hm : m ≤ M) : f = g := by
  rcases Nat.lt_or_ge m M with y | y
  · have := pth_no h k0 (M - (m + 1))
    rw [show m + 1 + (M - (m + 1)) = M by omega, hM] at this
    cases this
  · have e : m = M := by omega
    rw [e, hM] at h
    have := Option.some.inj h
    rw [Prod.mk.injEq] at this
    exact this.2.symm
/-- the reference's trace at the beginning of a pass -/
theorem lp_start0 (T : TBL F G) (h44 : F 44 = 0) (h54 : F 54 = 0) (h46 : F 46 = 0) (hi : TI0 F G Fi) : LPt (G 4) (G 5) fu 0 0 (nI 0) Fi G := by
  obtain ⟨ya, t0⟩ := hi.ya T h44 h54 (Or.inl h46)
  have ya1 := ya
  obtain ⟨K, b1, b2, b3, b4, b5, b6, b7, b8, p0, p1⟩ := hi
  obtain ⟨e24, e35⟩ := p0 h46
  have z : (0 : Int32).toInt = 0 := rfl
  show LPt (G 4) (G 5) fu 0 0 0 Fi G
  refine ⟨⟨rfl, rfl⟩, ya1, by omega, by rw [b1]; rfl, Or.inl ⟨(K.1 46 rfl).trans h46, e24, by rw [e35]; omega, ?_, ?_⟩⟩
  · intro i hi
    exact absurd hi (Nat.not_lt_zero _)
  · intro g hg
    rw [e24] at hg
    omega
theorem lp_start1 {Kk V : Nat → Int32} {M0 m : Nat} {f : Int32} (L : LPt Kk V fu M0 m f F1 G1) (c46 : F1 46 = 0) (hk : Kk (F1 42).toNatClampNeg = 0) (k2 : KX [46] [] F1 G1 F2 G1) (e46 : F2 46 = 1) (hi : TI0 F2 G1 Fi) : LPt Kk V fu m 0 (nI 0) Fi G1 := by
  obtain ⟨g, ya, hf, hp, hh⟩ := L
  rcases hh with ⟨c, e24, h35, hr, hc⟩ | ⟨c, -⟩
  · have tF : 0 ≤ tT F1 G1 ∧ tT F1 G1 ≤ 4000 := ya.1.rng ya.2.2.1.1 ya.2.2.1.2
    have P : P1 Kk V fu m F2 G1 := by
      refine ⟨g, ya.1.kx k2 rfl rfl rfl rfl rfl, (k2.1 44 rfl).trans ya.2.1.1, (k2.1 54 rfl).trans ya.2.1.2.2.1, by rw [k2.1 24 rfl]; exact ya.2.2.2.2.2.1, by rw [k2.1 35 rfl]; omega, ⟨F1 42, f.toInt.toNat, hp, hk, by rw [k2.1 24 rfl, e24]; omega⟩, ?_, ?_⟩
      · unfold RC1 at hr ⊢
        rw [k2.1 24 rfl, k2.1 35 rfl]
        exact hr
      · unfold CM1 at hc ⊢
        rw [k2.1 24 rfl]
        exact hc
    have hb := P.bd
    obtain ⟨g, T, h44, h54, h24, h35, hN, hr, hc⟩ := P
    have n46 : ¬ F2 46 = 0 := by rw [e46]; decide
    obtain ⟨ya, t0⟩ := hi.ya T h44 h54 (Or.inr ⟨h24, hb⟩)
    have ya1 := ya
    obtain ⟨KK, b1, b2, b3, b4, b5, b6, b7, b8, p0, p1⟩ := hi
    obtain ⟨e24, e35⟩ := p1 n46
    have z : (0 : Int32).toInt = 0 := rfl
    obtain ⟨tn, gn, u1, u2, -⟩ := hN
    show LPt Kk V fu m 0 0 Fi G1
    refine ⟨g, ya1, by omega, by rw [b1]; rfl, Or.inr ⟨(KK.1 46 rfl).trans e46, Nat.zero_le _, ⟨tn, gn, u1, u2⟩, ?_, ?_⟩⟩
    · intro i hi t g a b
      have := hr i hi t g a b
      rw [e24, e35]
      exact this
    · intro g hg
      rw [e24] at hg
      exact hc g hg
  · rw [c46] at c
    exact absurd c (by decide)
end JR1
