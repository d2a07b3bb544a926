theorem lvS_tab : ∀ n, n < 43 → (0 ≤ (lvS (nI n)).toInt ∧ (lvS (nI n)).toInt ≤ 1) → (n = 14 ∨ n = 15) := by decide +kernel
theorem lvS_01 (s : Int32) (h : 0 ≤ (lvS s).toInt ∧ (lvS s).toInt ≤ 1) : s.toInt = 14 ∨ s.toInt = 15 := by
  by_cases c : s.toInt < 1 ∨ 42 < s.toInt
  · unfold lvS at h
    rw [if_pos c] at h
    exact absurd h (by decide)
  · have z : (0 : Int32).toInt = 0 := rfl
    obtain ⟨n, hn, rfl⟩ := nI_of (x := s) (fun q => by have := i_lt.mp q; omega)
    rw [nI_toInt hn] at c ⊢
    have := lvS_tab n (by omega) h
    omega
theorem lvl_in {K V : Nat → Int32} {t : Int32} (h : 0 ≤ (lvl K V t).toInt) : K t.toNatClampNeg = 4 ∧ ((lvl K V t).toInt ≤ 1 → (V t.toNatClampNeg).toInt = 14 ∨ (V t.toNatClampNeg).toInt = 15) := by
  unfold lvl at h ⊢
  by_cases c : K t.toNatClampNeg = 4
  · rw [if_pos c] at h ⊢
    exact ⟨c, fun q => lvS_01 _ ⟨h, q⟩⟩
  · rw [if_neg c] at h
    exact absurd h (by decide)
theorem zt_chain {fu : Nat} {rc : RC} {d : Nat} (hfu : 8589934592 ≤ fu) (hr : ZI rc d) (hc : mCI rc) (F : PF) (G : PG) (h0 : YP F G) (hp : pS 2 0 0 F G) (hd : 7 * (40 - (F 43).toInt) + dS 2 ≤ d + 1) : WP (mh_chain fu rc F G) (fun r F1 G1 => ZQ 2 F G r F1 G1) := by
  have e2 : dS 2 = 5 := rfl
  have e7 : dS 7 = 4 := rfl
  have p1 := hp.1 (Or.inr (Or.inl rfl))
  have f7 : (F 7).toInt ≤ 4000 := by have := h0.1.2.1; have := h0.1.2.2.2.1; omega
  obtain ⟨y1, y2, y3, y4, y5, y6, y7, y8⟩ := id h0
  have lm : (-1 : Int32).toInt = -1 := rfl
  have loop : ∀ (m : Nat) (x2 : Int32) (F1 : PF) (G1 : PG), ((x2 = 0 ∧ YF F G F1 G1 ∧ 0 < m) ∨ (x2 = 1 ∧ ∃ j, CW F G j F1 G1 ∧ j ≤ 10 ∧ ((F 7).toInt - (F1 42).toInt).toNat < m)) → WP (ml_chain_10 fu rc m (F 70) x2 F1 G1) (fun r F1 G1 => ZQ 2 F G r F1 G1) := by
    intro m
    induction m with
    | zero =>
      rintro x2 F1 G1 (⟨-, -, q⟩ | ⟨-, j, -, -, q⟩)
      · exact absurd q (Nat.lt_irrefl _)
      · exact absurd q (Nat.not_lt_zero _)
    | succ m ih =>
      rintro x2 F1 G1 (⟨rfl, q, -⟩ | ⟨rfl, j, q, hj, km⟩)
      · show WP (mb_chain_10 fu rc (ml_chain_10 fu rc m) (F 70) 0 F1 G1) _
        unfold mb_chain_10 mb_chain_147
        rw [if_pos rfl]
        exact WP.ret (Or.inr ⟨rfl, q⟩)
      · show WP (mb_chain_10 fu rc (ml_chain_10 fu rc m) (F 70) 1 F1 G1) _
        unfold mb_chain_10
        rw [if_neg (by decide)]
        unfold mb_chain_14
        refine WP.bind (ws_level (q.v h0).2.1) ?_
        rintro _ _ _ ⟨rfl, rfl, rfl⟩
        dsimp only
        -- the operator at hand is pushed
        have push : ∀ (j : Nat) (x3 : Int32) (F1 : PF) (G1 : PG), CW F G j F1 G1 → x3 = lvl (G1 4) (G1 5) (F1 42) → (∀ i, i + 1 = j → (G1 68 ((F 70).toInt.toNat + i)).toInt < x3.toInt) → ((F 7).toInt - (F1 42).toInt).toNat < m + 1 → WP (mb_chain_49 fu rc (ml_chain_10 fu rc m) (F 70) x3 F1 G1) (fun r F1 G1 => ZQ 2 F G r F1 G1) := by
          intro j x3 F1 G1 q hx hlt km
          have hv := q.v h0
          obtain ⟨K, h44, h42, h43, h60, h70, ⟨hΦ, mo⟩, hl, hs⟩ := q
          have rg := lvl_rng (G1 4) (G1 5) (F1 42)
          rw [← hx] at rg
          unfold mb_chain_49
          refine WP.ite (fun c => ?_) (fun c => ?_)
          · have j0 : j = 0 := by
              cases j with
              | zero => rfl
              | succ i =>
                have a := hlt i rfl
                have b := (hl i (by omega)).1
                rw [c] at a
                omega
            subst j0
            unfold mb_chain_54
            refine WP.ret (Or.inl ⟨rfl, K, h44, h42, ⟨by rw [h43]; omega, by rw [h43]; exact y4⟩, h60, i_eq.mpr (by omega), ?_, mo⟩)
            show _ ≤ _ + (-1 : Int)
            omega
          · have cx : 0 ≤ x3.toInt := by
              have : ¬ x3.toInt = -1 := fun z => c (i_eq.mpr z)
              omega
            have j9 : j ≤ 9 := by
              cases j with
              | zero => omega
              | succ i =>
                have a := hlt i rfl
                have b := lv_cnt hl i (by omega)
                omega
            have lx : 0 ≤ (lvl (G1 4) (G1 5) (F1 42)).toInt := by rw [← hx]; exact cx
            obtain ⟨k4, k01⟩ := lvl_in lx
            rw [← hx] at k01
            have e7' := K.1 7 rfl
            obtain ⟨a1, a2, a3⟩ := hv.2.2.adv h42.1 (by rw [e7']; exact h42.2) (k_ne k4 (by decide))
            rw [e7'] at a2
            have v70 : vp_in (F1 70) 600 := vp_in_iff.mpr ⟨by omega, by omega⟩
            have ix : (F1 70).toNatClampNeg = (F 70).toInt.toNat + j := by show (F1 70).toInt.toNat = _; omega
            have e70 : (F1 70 + 1).toInt = (F1 70).toInt + 1 := i_addn _ rfl (by omega) (by omega)
            have len : (if x3.toInt ≤ 1 then 2 else 1 : Int) ≤ lnT (G1 4 (F1 42).toNatClampNeg) (G1 5 (F1 42).toNatClampNeg) := by
              split
              · rename_i z
                unfold lnT
                rw [if_pos ⟨k4, k01 z⟩]
                exact Int.le_refl _
              · exact lnT.pos _ _
            -- the operand behind
            have oper : ∀ (F2 : PF) (G2 : PG), KX [60] [56, 57, 58, 67, 68, 69] F1 G1 F2 G2 → 0 ≤ (F2 60).toInt → (F2 60).toInt ≤ (F1 60).toInt + (if x3.toInt ≤ 1 then 1 else 0) → lvOK G2 (F 70).toInt.toNat (j + 1) → (∀ i, i < j + 1 → (G2 68 ((F 70).toInt.toNat + i)).toInt ≤ 1 → vp_in (G2 69 ((F 70).toInt.toNat + i)) 9000) → WP (mb_chain_119 fu rc (ml_chain_10 fu rc m) (F 70) F2 G2) (fun r F1 G1 => ZQ 2 F G r F1 G1) := by
              intro F2 G2 K2 s0 s1 l2 t2
              have f42 : F2 42 = F1 42 := K2.1 42 rfl
              have f70 : F2 70 = F1 70 := K2.1 70 rfl
              have g6 : G2 6 = G1 6 := K2.2 6 rfl
              unfold mb_chain_119 mb_chain_129
              have K3 : KX [42, 60, 70] [56, 57, 58, 67, 68, 69] F1 G1 (fup (fup F2 70 (F2 70 + 1)) 42 (F2 42 + 1)) G2 := KX.f rfl (KX.f rfl (KX.tr KX.rf K2 rfl rfl))
              have n42 : (fup (fup F2 70 (F2 70 + 1)) 42 (F2 42 + 1)) 42 = F1 42 + 1 := by show F2 42 + 1 = _; rw [f42]
              have n70 : (fup (fup F2 70 (F2 70 + 1)) 42 (F2 42 + 1)) 70 = F1 70 + 1 := by show F2 70 + 1 = _; rw [f70]
              have n60 : (fup (fup F2 70 (F2 70 + 1)) 42 (F2 42 + 1)) 60 = F2 60 := rfl
              show WP (mb_chain_139 fu rc (ml_chain_10 fu rc m) (F 70) (fup (fup F2 70 (F2 70 + 1)) 42 (F2 42 + 1)) G2) _
              generalize fup (fup F2 70 (F2 70 + 1)) 42 (F2 42 + 1) = F3 at K3 n42 n70 n60
              have tt : tT F3 G2 = (G1 6 (F1 42 + 1).toNatClampNeg).toInt := by unfold tT; rw [n42, g6]
              have t1 : tT F1 G1 = (G1 6 (F1 42).toNatClampNeg).toInt := rfl
              have KA : KX [42, 43, 44, 45, 47, 48, 49, 55, 60, 62, 70] [56, 57, 58, 59, 67, 68, 69] F G F3 G2 := KX.tr K K3 rfl rfl
              have T3 : TBL F3 G2 := y1.kx KA rfl rfl rfl rfl rfl
              have hsum : (F2 60).toInt + 3 * (F1 70 + 1).toInt ≤ 2 * tT F3 G2 + 600 := by
                rw [tt]
                split at s1 <;> split at len <;> omega
              have yp3 : YP F3 G2 := ⟨T3, by rw [K3.1 44 rfl]; exact h44, ⟨by rw [n42]; omega, by rw [n42, KA.1 7 rfl]; omega⟩, by rw [K3.1 43 rfl, h43]; exact y4, by rw [n60]; exact s0, by rw [n70]; omega, by rw [n60, n70]; exact hsum, y8.kx KA rfl rfl rfl rfl rfl⟩
              have i43 : F3 43 = F 43 := (K3.1 43 rfl).trans h43
              unfold mb_chain_139
              refine WP.bind (WP.pp (hr 7 0 0 F3 G2 (by decide) yp3 ⟨fun z => absurd z (by decide), by rw [n70, i43]; omega, fun z => absurd z (by decide), fun z => absurd z (by decide), fun z => absurd z (by decide), fun z => absurd z (by decide)⟩ (by rw [i43]; omega)) (hc 7 0 0 F3 G2 yp3.2.2.2.2.1 yp3.2.2.2.2.2.1)) ?_
              rintro r F4 G4 ⟨⟨-, -, -, -, hPK⟩, (⟨rfl, q4⟩ | ⟨rfl, q4⟩)⟩
              · dsimp only
                unfold mb_chain_143
                obtain ⟨-, hPK⟩ := hPK rfl
                obtain ⟨z1, z2, z3, z4, z5, z6, z7, z8⟩ := q4
                have k7 : κS 7 = -1 := rfl
                rw [k7] at z7
                have same : ∀ i, i < j + 1 → G4 68 ((F 70).toInt.toNat + i) = G2 68 ((F 70).toInt.toNat + i) ∧ G4 69 ((F 70).toInt.toNat + i) = G2 69 ((F 70).toInt.toNat + i) := fun i hi => hPK _ (by rw [n70]; omega)
                rw [n42] at z8
                refine ih 1 F4 G4 (Or.inr ⟨rfl, j + 1, ⟨KX.tr KA z1 rfl rfl, z2, by rw [KA.1 7 rfl] at z3; exact z3, i_eq.mpr (by rw [z4.1, i43]; omega), z5, ?_, ⟨?_, by omega⟩, ?_, ?_⟩, by omega, by omega⟩)
                · rw [z6, n70, e70, h70]
                  omega
                · rw [n60, tt] at z7
                  split at s1 <;> split at len <;> omega
                · intro i hi
                  have l := l2 i hi
                  rw [(same i hi).1]
                  refine ⟨l.1, l.2.1, fun z => ?_⟩
                  rw [(same (i + 1) z).1]
                  exact l.2.2 z
                · intro i hi z
                  rw [(same i hi).1] at z
                  rw [(same i hi).2]
                  exact t2 i hi z
              · dsimp only
                unfold mb_chain_143
                obtain ⟨w1, w2, w3, w4⟩ := q4
                have m0 : 0 < m := by omega
                refine ih 0 F4 G4 (Or.inl ⟨rfl, ⟨KX.tr KA w1 rfl rfl, w2, by rw [KA.1 7 rfl] at w3; exact w3, w4⟩, m0⟩)
            have lvN : ∀ G2 : PG, G2 68 ((F 70).toInt.toNat + j) = x3 → (∀ i, i < j → G2 68 ((F 70).toInt.toNat + i) = G1 68 ((F 70).toInt.toNat + i)) → lvOK G2 (F 70).toInt.toNat (j + 1) := by
              intro G2 top lw i hi
              by_cases ci : i = j
              · subst ci
                rw [top]
                exact ⟨by omega, by omega, fun z => by omega⟩
              · have z := hl i (by omega)
                rw [lw i (by omega)]
                refine ⟨z.1, z.2.1, fun z1 => ?_⟩
                by_cases cj : i + 1 = j
                · rw [cj, top]
                  exact hlt i cj
                · rw [lw (i + 1) (by omega)]
                  exact z.2.2 (by omega)
            unfold mb_chain_56
            refine WP.ix hv.2.1 (WP.ix v70 ?_)
            rw [ix]
            unfold mb_chain_74
            refine WP.ix v70 ?_
            rw [ix]
            generalize G1 5 (F1 42).toNatClampNeg = sv
            unfold mb_chain_84
            refine WP.ite (fun c1 => ?_) (fun c1 => ?_)
            · have c1 := i_le.mp c1
              have l1 : (1 : Int32).toInt = 1 := rfl
              have hw : ∀ w : Int32, WP (mb_chain_113 fu rc (ml_chain_10 fu rc m) (F 70) w (F1 70) F1 (gup (gup G1 67 ((F 70).toInt.toNat + j) sv) 68 ((F 70).toInt.toNat + j) x3)) (fun r F1 G1 => ZQ 2 F G r F1 G1) := by
                intro w
                unfold mb_chain_113
                refine WP.bind (ws_step w 0 0 (vp_in_iff.mpr ⟨h60, by omega⟩)) ?_
                rintro _ F2 G2 ⟨K2, rfl, e60, -, n2⟩
                dsimp only
                unfold mb_chain_118
                refine WP.ix v70 ?_
                rw [ix]
                have i60 : (F2 60).toInt = (F1 60).toInt + 1 := by
                  rw [e60]
                  exact i_addn _ rfl (by omega) (by omega)
                have p68 : G2 68 = gup (gup G1 67 ((F 70).toInt.toNat + j) sv) 68 ((F 70).toInt.toNat + j) x3 68 := K2.2 68 rfl
                have p69 : G2 69 = G1 69 := K2.2 69 rfl
                refine oper F2 _ (KX.g rfl (KX.tr (KX.g (k := 68) rfl (KX.g (k := 67) rfl KX.rf)) K2 rfl rfl)) (by omega) (by rw [if_pos (by omega)]; omega) (lvN _ (by show G2 68 _ = _; rw [p68]; exact gup_i) (fun i hi => by show G2 68 _ = _; rw [p68, gup_x (by omega)]; rfl)) ?_
                intro i hi z
                by_cases ci : i = j
                · subst ci
                  rw [gup_i]
                  exact n2
                · have z : (G2 68 ((F 70).toInt.toNat + i)).toInt ≤ 1 := z
                  rw [p68, gup_x (by omega)] at z
                  rw [gup_x (by omega), p69]
                  exact hs i (by omega) z
              unfold mb_chain_101 mb_chain_106 mb_chain_111
              exact WP.ite (fun _ => hw 14) (fun _ => hw 13)
            · have c1 := mt i_le.mpr c1
              have l1 : (1 : Int32).toInt = 1 := rfl
              unfold mb_chain_97 mb_chain_118
              refine WP.ix v70 ?_
              rw [ix]
              refine oper F1 _ (KX.g rfl (KX.g (k := 68) rfl (KX.g (k := 67) rfl KX.rf))) h60 (by rw [if_neg (by omega)]; omega) (lvN _ (gup_i (G := gup G1 67 ((F 70).toInt.toNat + j) sv) (k := 68)) (fun i hi => by show gup (gup G1 67 ((F 70).toInt.toNat + j) _) 68 ((F 70).toInt.toNat + j) x3 68 _ = _; rw [gup_x (by omega)]; rfl)) ?_
              intro i hi z
              by_cases ci : i = j
              · subst ci
                have e : gup (gup (gup G1 67 ((F 70).toInt.toNat + i) sv) 68 ((F 70).toInt.toNat + i) x3) 69 ((F 70).toInt.toNat + i) (-1) 68 ((F 70).toInt.toNat + i) = x3 := gup_i (G := gup G1 67 ((F 70).toInt.toNat + i) sv) (k := 68)
                rw [e] at z
                omega
              · have z : (gup (gup G1 67 ((F 70).toInt.toNat + j) sv) 68 ((F 70).toInt.toNat + j) x3 68 ((F 70).toInt.toNat + i)).toInt ≤ 1 := z
                rw [gup_x (by omega)] at z
                rw [gup_x (by omega)]
                exact hs i (by omega) z
        -- operators that bind as much are bound
        have bnd : ∀ (m2 : Nat) (j : Nat) (x3 : Int32) (F1 : PF) (G1 : PG), CW F G j F1 G1 → j ≤ 10 → x3 = lvl (G1 4) (G1 5) (F1 42) → ((F 7).toInt - (F1 42).toInt).toNat < m + 1 → j < m2 → WP (ml_chain_19 fu rc (ml_chain_10 fu rc m) m2 (F 70) x3 F1 G1) (fun r F1 G1 => ZQ 2 F G r F1 G1) := by
          intro m2
          induction m2 with
          | zero => intro j x3 F1 G1 _ _ _ _ z; exact absurd z (Nat.not_lt_zero _)
          | succ m2 ih2 =>
            intro j x3 F1 G1 q hj hx km jm
            have h70 := q.2.2.2.2.2.1
            show WP (mb_chain_19 fu rc (ml_chain_10 fu rc m) (ml_chain_19 fu rc (ml_chain_10 fu rc m) m2) (F 70) x3 F1 G1) _
            unfold mb_chain_19
            refine WP.ite (fun c => ?_) (fun c => ?_)
            · have c := i_le.mp c
              exact push j x3 F1 G1 q hx (fun i hi => by omega) km
            · have c := mt i_le.mpr c
              obtain ⟨i, rfl⟩ : ∃ i, j = i + 1 := ⟨j - 1, by omega⟩
              have e70 : (F1 70 - 1).toInt = (F1 70).toInt - 1 := i_dec (by omega)
              have ix : (F1 70 - 1).toNatClampNeg = (F 70).toInt.toNat + i := by show (F1 70 - 1).toInt.toNat = _; omega
              unfold mb_chain_27
              refine WP.ix (vp_in_iff.mpr ⟨by omega, by omega⟩) (WP.ite (fun c2 => ?_) (fun c2 => ?_))
              · refine push (i + 1) x3 F1 G1 q hx (fun k hk => ?_) km
                have : k = i := by omega
                subst this
                rw [← ix]
                exact i_lt.mp c2
              · unfold mb_chain_42
                refine WP.bind (WP.pp (wz_binds q h0 (by omega)) (mw_binds F1 G1)) ?_
                rintro r F2 G2 ⟨K2, q2⟩
                dsimp only
                unfold mb_chain_46
                refine ih2 i x3 F2 G2 q2 (by omega) ?_ ?_ (by omega)
                · rw [hx, K2.2 4 rfl, K2.2 5 rfl, K2.1 42 rfl]
                · rw [K2.1 42 rfl]
                  exact km
        unfold mb_chain_18
        exact bnd fu j _ F1 G1 q hj rfl km (by omega)
  unfold mh_chain mb_chain_0
  refine WP.bind (hr 7 0 0 F G (by decide) h0 ⟨fun z => absurd z (by decide), by omega, fun z => absurd z (by decide), fun z => absurd z (by decide), fun z => absurd z (by decide), fun z => absurd z (by decide)⟩ (by omega)) ?_
  rintro r F1 G1 (⟨rfl, q⟩ | ⟨rfl, q⟩)
  · dsimp only
    unfold mb_chain_9
    obtain ⟨z1, z2, z3, z4, z5, z6, z7, z8⟩ := q
    have k7 : κS 7 = -1 := rfl
    rw [k7] at z7
    refine loop fu 1 F1 G1 (Or.inr ⟨rfl, 0, ⟨z1, z2, z3, i_eq.mpr (by omega), z5, by rw [z6]; omega, ⟨by omega, z8⟩, fun i hi => absurd hi (Nat.not_lt_zero _), fun i hi => absurd hi (Nat.not_lt_zero _)⟩, by decide, by omega⟩)
  · dsimp only
    unfold mb_chain_9
    exact loop fu 0 F1 G1 (Or.inl ⟨rfl, q, by omega⟩)
