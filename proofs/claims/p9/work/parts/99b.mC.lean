def CH (F0 : PF) (G0 : PG) (F : PF) (G : PG) (j : Nat) : Prop := (F 70).toInt = (F0 70).toInt + j ∧ 0 ≤ (F 60).toInt ∧ PKp F0 G0 G ∧ sN F0 ≤ sN F ∧ CB F0 G0 G ∧ ∀ i, i < j → (G 68 ((F0 70).toInt.toNat + i)).toInt ≤ 1 → sN F0 ≤ (G 69 ((F0 70).toInt.toNat + i)).toNatClampNeg
theorem mc_binds {fu : Nat} {F0 F : PF} {G0 G : PG} {j : Nat} (t70 : 0 ≤ (F0 70).toInt) (h : CH F0 G0 F G (j + 1)) : PP (mf_binds fu F G) (fun _ F1 G1 => CH F0 G0 F1 G1 j) := by
  obtain ⟨h70, h60, hPK, hS, hC, hp⟩ := h
  have r70 := i_rng (F 70)
  have e70 : (F 70 - 1).toInt = (F 70).toInt - 1 := i_subn (F 70) rfl (by omega) (by omega)
  have ix : (F 70 - 1).toNatClampNeg = (F0 70).toInt.toNat + j := by show (F 70 - 1).toInt.toNat = _; omega
  unfold mf_binds mb_binds_0 mb_binds_10
  refine PP.ix (fun _ => ?_)
  refine PP.ite (fun c => ?_) (fun c => ?_)
  · have c1 : (G 68 ((F0 70).toInt.toNat + j)).toInt ≤ 1 := by
      rw [← ix]
      exact i_le.mp c
    unfold mb_binds_43
    refine PP.bind (mq_step 23 0 0 (fup F 70 (F 70 - 1)) G) ?_
    rintro _ F1 G1 ⟨k1, rfl, e1, g1, n1⟩
    dsimp only
    unfold mb_binds_51
    refine PP.bind (mq_step 12 0 0 F1 G1) ?_
    rintro _ F2 G2 ⟨k2, rfl, e2, g2, n2⟩
    dsimp only
    unfold mb_binds_60
    refine PP.ix (fun _ => PP.ix (fun _ => ?_))
    unfold mb_binds_79
    refine PP.bind (mq_step 0 (1 - _) 0 F2 (gup G2 57 (G2 69 (F2 70).toNatClampNeg).toNatClampNeg (F2 60))) ?_
    rintro _ F3 G3 ⟨k3, rfl, e3, g3, n3⟩
    dsimp only
    unfold mb_binds_88
    refine PP.ix (fun _ => ?_)
    unfold mb_binds_99
    refine PP.ret ?_
    have q70 : F2 70 = F 70 - 1 := (k2.1 70 rfl).trans (k1.1 70 rfl)
    have q69 : G2 69 = G 69 := (k2.2 69 rfl).trans (k1.2 69 rfl)
    have KK : KX [60, 70] [56, 57, 58] F G F3 (gup G3 57 (F1 60).toNatClampNeg (F3 60)) := KX.g rfl (KX.tr (KX.g (k := 57) rfl (KX.tr (KX.tr (KX.f (k := 70) rfl KX.rf) k1 rfl rfl) k2 rfl rfl)) k3 rfl rfl)
    have p68 : G3 68 = G 68 := (k3.2 68 rfl).trans ((k2.2 68 rfl).trans (k1.2 68 rfl))
    have p69 : G3 69 = G 69 := (k3.2 69 rfl).trans ((k2.2 69 rfl).trans (k1.2 69 rfl))
    have hS0 : sN F0 ≤ sN (fup F 70 (F 70 - 1)) := hS
    have S1 := S_st hS0 n1 e1
    have S2 := S_st S1 n2 e2
    have S3 := S_st S2 n3 e3
    have C1 : CB F0 G0 G1 := CB.stp hC hS0 g1
    have C2 : CB F0 G0 G2 := CB.stp C1 S1 g2
    have ep : (G2 69 (F2 70).toNatClampNeg).toNatClampNeg = (G 69 ((F0 70).toInt.toNat + j)).toNatClampNeg := by rw [q69, q70, ix]
    have C2b : CB F0 G0 (gup G2 57 (G2 69 (F2 70).toNatClampNeg).toNatClampNeg (F2 60)) := CB.g57 C2 (by rw [ep]; exact hp j (by omega) c1)
    have C3 : CB F0 G0 G3 := CB.stp C2b S2 g3
    refine ⟨?_, inc60 n3 e3, PKp.kx hPK KK rfl rfl, S3, CB.g57 (p := sN F1) C3 S1, ?_⟩
    · have : F3 70 = F 70 - 1 := (k3.1 70 rfl).trans q70
      rw [this, e70]
      omega
    · intro i hi hl
      have a := hp i (by omega)
      show sN F0 ≤ (G3 69 _).toNatClampNeg
      have hl : (G3 68 ((F0 70).toInt.toNat + i)).toInt ≤ 1 := hl
      rw [p68] at hl
      rw [p69]
      exact a hl
  · unfold mb_binds_25
    refine PP.ix (fun _ => ?_)
    refine PP.bind (mq_step 10 _ 0 (fup F 70 (F 70 - 1)) G) ?_
    rintro _ F1 G1 ⟨k1, rfl, e1, g1, n1⟩
    dsimp only
    unfold mb_binds_41
    refine PP.ret ?_
    have KK : KX [60, 70] [56, 57, 58] F G F1 G1 := KX.tr (KX.f (k := 70) rfl KX.rf) k1 rfl rfl
    have p68 : G1 68 = G 68 := k1.2 68 rfl
    have p69 : G1 69 = G 69 := k1.2 69 rfl
    have hS0 : sN F0 ≤ sN (fup F 70 (F 70 - 1)) := hS
    refine ⟨?_, inc60 n1 e1, PKp.kx hPK KK rfl rfl, S_st hS0 n1 e1, CB.stp hC hS0 g1, ?_⟩
    · have : F1 70 = F 70 - 1 := k1.1 70 rfl
      rw [this, e70]
      omega
    · intro i hi hl
      rw [p68] at hl
      rw [p69]
      exact hp i (by omega) hl
section CCHAIN
variable {fu : Nat} {rc : RC} {F0 : PF} {G0 : PG} {ag : Int32 → Int32 → PF → PG → PR}
theorem mc_op (ihC : mCI rc) (t70 : 0 ≤ (F0 70).toInt) (hag : ∀ (x2 : Int32) (F : PF) (G : PG), ((x2 = 0 ∧ 0 ≤ (F 60).toInt ∧ sN F0 ≤ sN F ∧ CB F0 G0 G) ∨ (x2 = 1 ∧ ∃ j, CH F0 G0 F G j ∧ lvOK G (F0 70).toInt.toNat j)) → PP (ag (F0 70) x2 F G) (fun r F1 G1 => CQ F0 G0 r F1 G1)) (j : Nat) (F : PF) (G : PG) (h600 : (F 70).toInt < 600) (h70 : (F 70).toInt = (F0 70).toInt + j) (h60 : 0 ≤ (F 60).toInt) (hPK : PKp F0 G0 G) (hS : sN F0 ≤ sN F) (hC : CB F0 G0 G) (hp : ∀ i, i < j + 1 → (G 68 ((F0 70).toInt.toNat + i)).toInt ≤ 1 → sN F0 ≤ (G 69 ((F0 70).toInt.toNat + i)).toNatClampNeg) (hlv : lvOK G (F0 70).toInt.toNat (j + 1)) : PP (mb_chain_119 fu rc ag (F0 70) F G) (fun r F1 G1 => CQ F0 G0 r F1 G1) := by
  have e70 : (F 70 + 1).toInt = (F 70).toInt + 1 := i_addn (F 70) rfl (by omega) (by omega)
  unfold mb_chain_119 mb_chain_129 mb_chain_139
  refine PP.bind (ihC 7 0 0 (fup (fup F 70 (F 70 + 1)) 42 (F 42 + 1)) G h60 (by show 0 ≤ (F 70 + 1).toInt; omega)) ?_
  rintro r F1 G1 ⟨(rfl | rfl), u1⟩
  · dsimp only
    obtain ⟨a60, aS, aC, -⟩ := u1
    have hS0 : sN F0 ≤ sN (fup (fup F 70 (F 70 + 1)) 42 (F 42 + 1)) := hS
    exact hag 0 F1 G1 (Or.inl ⟨rfl, a60, Nat.le_trans hS0 aS, CB.tr hC hS0 aC⟩)
  · dsimp only
    obtain ⟨a60, aS, aC, u1⟩ := u1
    obtain ⟨a70, aPK⟩ := u1 rfl
    have same : ∀ i, i < j + 1 → G1 68 ((F0 70).toInt.toNat + i) = G 68 ((F0 70).toInt.toNat + i) ∧ G1 69 ((F0 70).toInt.toNat + i) = G 69 ((F0 70).toInt.toNat + i) := by
      intro i hi
      refine aPK _ ?_
      show _ < (F 70 + 1).toInt
      omega
    have hS0 : sN F0 ≤ sN (fup (fup F 70 (F 70 + 1)) 42 (F 42 + 1)) := hS
    refine hag 1 F1 G1 (Or.inr ⟨rfl, j + 1, ⟨?_, a60, ?_, Nat.le_trans hS0 aS, CB.tr hC hS0 aC, ?_⟩, ?_⟩)
    · rw [a70]
      show (F 70 + 1).toInt = _
      omega
    · intro i hi
      have a := hPK i hi
      have b := aPK i (by show _ < (F 70 + 1).toInt; omega)
      exact ⟨b.1.trans a.1, b.2.trans a.2⟩
    · intro i hi hl
      rw [(same i hi).1] at hl
      rw [(same i hi).2]
      exact hp i hi hl
    · intro i hi
      have q := hlv i hi
      rw [(same i hi).1]
      refine ⟨q.1, q.2.1, fun q1 => ?_⟩
      rw [(same (i + 1) q1).1]
      exact q.2.2 q1
theorem mc_49 (ihC : mCI rc) (t70 : 0 ≤ (F0 70).toInt) (hag : ∀ (x2 : Int32) (F : PF) (G : PG), ((x2 = 0 ∧ 0 ≤ (F 60).toInt ∧ sN F0 ≤ sN F ∧ CB F0 G0 G) ∨ (x2 = 1 ∧ ∃ j, CH F0 G0 F G j ∧ lvOK G (F0 70).toInt.toNat j)) → PP (ag (F0 70) x2 F G) (fun r F1 G1 => CQ F0 G0 r F1 G1)) (j : Nat) (x3 : Int32) (F : PF) (G : PG) (h : CH F0 G0 F G j) (hlv : lvOK G (F0 70).toInt.toNat j) (hx : -1 ≤ x3.toInt ∧ x3.toInt ≤ 9) (hj : ∀ i, i + 1 = j → (G 68 ((F0 70).toInt.toNat + i)).toInt < x3.toInt) : PP (mb_chain_49 fu rc ag (F0 70) x3 F G) (fun r F1 G1 => CQ F0 G0 r F1 G1) := by
  obtain ⟨h70, h60, hPK, hS, hC, hp⟩ := h
  unfold mb_chain_49
  refine PP.ite (fun c => ?_) (fun c => ?_)
  · have cx := i_eq.mp c
    have lm : (-1 : Int32).toInt = -1 := rfl
    have j0 : j = 0 := by
      cases j with
      | zero => rfl
      | succ i =>
        have q := hj i rfl
        have q1 := (hlv i (by omega)).1
        omega
    subst j0
    exact PP.ret ⟨Or.inr rfl, h60, hS, hC, fun _ => ⟨i_eq.mpr (by omega), hPK⟩⟩
  · have cx : ¬ x3.toInt = -1 := fun q => c (i_eq.mpr q)
    unfold mb_chain_56
    refine PP.ix (fun _ => PP.ix (fun h6 => ?_))
    obtain ⟨i0, i1⟩ := vp_in_iff.mp h6
    have ix : (F 70).toNatClampNeg = (F0 70).toInt.toNat + j := by show (F 70).toInt.toNat = _; omega
    unfold mb_chain_74
    refine PP.ix (fun _ => ?_)
    rw [ix]
    have lvN : ∀ G2 : PG, G2 68 ((F0 70).toInt.toNat + j) = x3 → (∀ i, i < j → G2 68 ((F0 70).toInt.toNat + i) = G 68 ((F0 70).toInt.toNat + i)) → lvOK G2 (F0 70).toInt.toNat (j + 1) := by
      intro G2 top lw i hi
      by_cases ci : i = j
      · subst ci
        rw [top]
        exact ⟨by omega, by omega, fun q => by omega⟩
      · have q := hlv i (by omega)
        rw [lw i (by omega)]
        refine ⟨q.1, q.2.1, fun q1 => ?_⟩
        by_cases cj : i + 1 = j
        · rw [cj, top]
          exact hj i cj
        · rw [lw (i + 1) (by omega)]
          exact q.2.2 (by omega)
    have PKl : ∀ v z : Int32, PKp F0 G0 (gup (gup (gup G 67 ((F0 70).toInt.toNat + j) v) 68 ((F0 70).toInt.toNat + j) x3) 69 ((F0 70).toInt.toNat + j) z) := by
      intro v z i hi
      have a := hPK i hi
      refine ⟨?_, ?_⟩
      · show gup (gup G 67 ((F0 70).toInt.toNat + j) v) 68 ((F0 70).toInt.toNat + j) x3 68 i = _
        rw [gup_x (by omega)]
        exact a.1
      · rw [gup_x (by omega)]
        exact a.2
    unfold mb_chain_84
    refine PP.ite (fun c1 => ?_) (fun c1 => ?_)
    · have hw : ∀ w : Int32, ∀ v : Int32, PP (mb_chain_113 fu rc ag (F0 70) w (F 70) F (gup (gup G 67 ((F0 70).toInt.toNat + j) v) 68 ((F0 70).toInt.toNat + j) x3)) (fun r F1 G1 => CQ F0 G0 r F1 G1) := by
        intro w v
        unfold mb_chain_113
        refine PP.bind (mq_step w 0 0 F (gup (gup G 67 ((F0 70).toInt.toNat + j) v) 68 ((F0 70).toInt.toNat + j) x3)) ?_
        rintro _ F1 G1 ⟨k1, rfl, e1, g1, n1⟩
        dsimp only
        unfold mb_chain_118
        refine PP.ix (fun _ => ?_)
        rw [ix]
        have p68 : G1 68 = gup (gup G 67 ((F0 70).toInt.toNat + j) v) 68 ((F0 70).toInt.toNat + j) x3 68 := k1.2 68 rfl
        have p69 : G1 69 = G 69 := k1.2 69 rfl
        have q70 : F1 70 = F 70 := k1.1 70 rfl
        have Ca : CB F0 G0 (gup (gup G 67 ((F0 70).toInt.toNat + j) v) 68 ((F0 70).toInt.toNat + j) x3) := hC
        have C1 : CB F0 G0 G1 := CB.stp Ca hS g1
        refine mc_op ihC t70 hag j F1 _ (by rw [q70]; exact i1) (by rw [q70]; exact h70) (inc60 n1 e1) ?_ (S_st hS n1 e1) (show CB F0 G0 (gup G1 69 _ _) from C1) ?_ (lvN _ (by show G1 68 _ = _; rw [p68]; exact gup_i) (fun i hi => by show G1 68 _ = _; rw [p68, gup_x (by omega)]; rfl))
        · intro i hi
          have a := hPK i hi
          have b1 : gup G1 69 ((F0 70).toInt.toNat + j) (F 60) 68 i = G 68 i := by
            show G1 68 i = _
            rw [p68, gup_x (by omega)]
            rfl
          have b2 : gup G1 69 ((F0 70).toInt.toNat + j) (F 60) 69 i = G 69 i := by rw [gup_x (by omega), p69]
          exact ⟨b1.trans a.1, b2.trans a.2⟩
        · intro i hi hl
          by_cases ci : i = j
          · subst ci
            rw [gup_i]
            exact hS
          · have hl : (G1 68 ((F0 70).toInt.toNat + i)).toInt ≤ 1 := hl
            rw [p68, gup_x (by omega)] at hl
            rw [gup_x (by omega), p69]
            exact hp i (by omega) hl
      unfold mb_chain_101
      exact PP.ite (fun _ => hw 14 _) (fun _ => hw 13 _)
    · have cl : 1 < x3.toInt := by
        have q : ¬ x3.toInt ≤ 1 := fun q => c1 (i_le.mpr q)
        omega
      unfold mb_chain_97 mb_chain_118
      refine PP.ix (fun _ => ?_)
      rw [ix]
      refine mc_op ihC t70 hag j F _ i1 h70 h60 (PKl _ _) hS (show CB F0 G0 (gup (gup (gup G 67 _ _) 68 _ _) 69 _ _) from hC) ?_ (lvN _ (gup_i (G := gup G 67 ((F0 70).toInt.toNat + j) (G 5 (F 42).toNatClampNeg)) (k := 68)) (fun i hi => by show gup (gup G 67 ((F0 70).toInt.toNat + j) _) 68 ((F0 70).toInt.toNat + j) x3 68 _ = _; rw [gup_x (by omega)]; rfl))
      intro i hi hl
      by_cases ci : i = j
      · subst ci
        have e : gup (gup (gup G 67 ((F0 70).toInt.toNat + i) (G 5 (F 42).toNatClampNeg)) 68 ((F0 70).toInt.toNat + i) x3) 69 ((F0 70).toInt.toNat + i) (-1) 68 ((F0 70).toInt.toNat + i) = x3 := gup_i (G := gup G 67 ((F0 70).toInt.toNat + i) (G 5 (F 42).toNatClampNeg)) (k := 68)
        rw [e] at hl
        omega
      · have hl : (gup (gup G 67 ((F0 70).toInt.toNat + j) (G 5 (F 42).toNatClampNeg)) 68 ((F0 70).toInt.toNat + j) x3 68 ((F0 70).toInt.toNat + i)).toInt ≤ 1 := hl
        rw [gup_x (by omega)] at hl
        rw [gup_x (by omega)]
        exact hp i (by omega) hl
theorem mc_19 (ihC : mCI rc) (t70 : 0 ≤ (F0 70).toInt) (hag : ∀ (x2 : Int32) (F : PF) (G : PG), ((x2 = 0 ∧ 0 ≤ (F 60).toInt ∧ sN F0 ≤ sN F ∧ CB F0 G0 G) ∨ (x2 = 1 ∧ ∃ j, CH F0 G0 F G j ∧ lvOK G (F0 70).toInt.toNat j)) → PP (ag (F0 70) x2 F G) (fun r F1 G1 => CQ F0 G0 r F1 G1)) : ∀ (n : Nat) (x3 : Int32) (F : PF) (G : PG) (j : Nat), CH F0 G0 F G j → lvOK G (F0 70).toInt.toNat j → (-1 ≤ x3.toInt ∧ x3.toInt ≤ 9) → PP (ml_chain_19 fu rc ag n (F0 70) x3 F G) (fun r F1 G1 => CQ F0 G0 r F1 G1) := by
  intro n
  induction n with
  | zero => intro x3 F G j _ _ _; exact PP.no
  | succ n ih =>
    intro x3 F G j h hv hx
    have h70 := h.1
    have lm : (-1 : Int32).toInt = -1 := rfl
    show PP (mb_chain_19 fu rc ag (ml_chain_19 fu rc ag n) (F0 70) x3 F G) _
    unfold mb_chain_19
    refine PP.ite (fun c => ?_) (fun c => ?_)
    · have := i_le.mp c
      exact mc_49 ihC t70 hag j x3 F G h hv hx (fun i hi => by omega)
    · have c1 := mt i_le.mpr c
      unfold mb_chain_27
      refine PP.ix (fun h6 => ?_)
      obtain ⟨i0, i1⟩ := vp_in_iff.mp h6
      obtain ⟨i, rfl⟩ : ∃ i, j = i + 1 := ⟨j - 1, by omega⟩
      have r70 := i_rng (F 70)
      have e70 : (F 70 - 1).toInt = (F 70).toInt - 1 := i_subn (F 70) rfl (by omega) (by omega)
      have ix : (F 70 - 1).toNatClampNeg = (F0 70).toInt.toNat + i := by show (F 70 - 1).toInt.toNat = _; omega
      refine PP.ite (fun c2 => ?_) (fun c2 => ?_)
      · refine mc_49 ihC t70 hag (i + 1) x3 F G h hv hx (fun k hk => ?_)
        have : k = i := by omega
        subst this
        rw [← ix]
        exact i_lt.mp c2
      · unfold mb_chain_42
        refine PP.bind (PP.and (mw_binds F G) (mc_binds (fu := fu) (j := i) t70 h)) ?_
        rintro r F1 G1 ⟨hK, h1⟩
        dsimp only
        unfold mb_chain_46
        refine ih x3 F1 G1 i h1 (fun k hk => ?_) hx
        have a := hv k (by omega)
        rw [hK.2 68 rfl]
        exact ⟨a.1, a.2.1, fun q => a.2.2 (by omega)⟩
end CCHAIN
theorem mc_10 {fu : Nat} {rc : RC} {F0 : PF} {G0 : PG} (ihC : mCI rc) (t70 : 0 ≤ (F0 70).toInt) : ∀ (n : Nat) (x2 : Int32) (F : PF) (G : PG), ((x2 = 0 ∧ 0 ≤ (F 60).toInt ∧ sN F0 ≤ sN F ∧ CB F0 G0 G) ∨ (x2 = 1 ∧ ∃ j, CH F0 G0 F G j ∧ lvOK G (F0 70).toInt.toNat j)) → PP (ml_chain_10 fu rc n (F0 70) x2 F G) (fun r F1 G1 => CQ F0 G0 r F1 G1) := by
  intro n
  induction n with
  | zero => intro x2 F G _; exact PP.no
  | succ n ih =>
    intro x2 F G h
    show PP (mb_chain_10 fu rc (ml_chain_10 fu rc n) (F0 70) x2 F G) _
    unfold mb_chain_10
    rcases h with ⟨rfl, q1, q2, q3⟩ | ⟨rfl, j, h, hv⟩
    · rw [if_pos rfl]
      exact PP.ret ⟨Or.inl rfl, q1, q2, q3, fun q => absurd q (by decide)⟩
    · rw [if_neg (by decide)]
      unfold mb_chain_14
      refine PP.bind (mp_level F G) ?_
      rintro _ _ _ ⟨rfl, rfl, rfl⟩
      dsimp only
      unfold mb_chain_18
      exact mc_19 ihC t70 ih fu _ F G j h hv (lvl_rng _ _ _)
theorem mct_chain {fu : Nat} (rc : RC) (ihC : mCI rc) (F : PF) (G : PG) (t60 : 0 ≤ (F 60).toInt) (t70 : 0 ≤ (F 70).toInt) : PP (mh_chain fu rc F G) (fun r F1 G1 => CQ F G r F1 G1) := by
  unfold mh_chain mb_chain_0
  refine PP.bind (ihC 7 0 0 F G t60 t70) ?_
  rintro r F1 G1 ⟨(rfl | rfl), u1⟩
  · dsimp only
    unfold mb_chain_9
    obtain ⟨a60, aS, aC, -⟩ := u1
    exact mc_10 ihC t70 fu 0 F1 G1 (Or.inl ⟨rfl, a60, aS, aC⟩)
  · dsimp only
    unfold mb_chain_9
    obtain ⟨a60, aS, aC, u1⟩ := u1
    obtain ⟨a70, aPK⟩ := u1 rfl
    exact mc_10 ihC t70 fu 1 F1 G1 (Or.inr ⟨rfl, 0, ⟨by rw [a70]; omega, a60, aPK, aS, aC, fun i hi => absurd hi (Nat.not_lt_zero _)⟩, fun i hi => absurd hi (Nat.not_lt_zero _)⟩)
/-- the expressions, in both passes: the code below stands -/
theorem mcS1 {fu : Nat} : ∀ d : Nat, mCI (mS1 fu d) := by
  intro d
  induction d with
  | zero => exact fun _ _ _ _ _ _ _ => PP.no
  | succ d ih =>
    intro i x y F G h60 h70
    exact PP.ite (fun _ => mct_argument (mS1 fu d) ih x y F G h60 h70) (fun _ => PP.ite (fun _ => mct_call (mS1 fu d) ih x y F G h60 h70) (fun _ => PP.ite (fun _ => mct_chain (mS1 fu d) ih F G h60 h70) (fun _ => PP.ite (fun _ => mct_element (mS1 fu d) ih x F G h60 h70) (fun _ => PP.ite (fun _ => mct_expression (mS1 fu d) ih F G h60 h70) (fun _ => PP.ite (fun _ => mct_inConstant (mS1 fu d) ih x F G h60 h70) (fun _ => PP.ite (fun _ => mct_named (mS1 fu d) ih x F G h60 h70) (fun _ => PP.ite (fun _ => mct_operand (mS1 fu d) ih F G h60 h70) (fun _ => PP.ite (fun _ => mct_plain (mS1 fu d) ih F G h60 h70) (fun _ => PP.no)))))))))
