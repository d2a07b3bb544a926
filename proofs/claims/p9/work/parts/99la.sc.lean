/-- the least length of a token -/
def lnT (kd v : Int32) : Int := if kd = 4 ∧ (v.toInt = 14 ∨ v.toInt = 15) then 2 else if kd = 2 ∧ v.toInt ≤ 2 then 3 else 1
theorem lnT.pos (kd v : Int32) : 1 ≤ lnT kd v := by
  unfold lnT
  split
  · omega
  · split <;> omega
/-- the tokens so far, up to the place k -/
def TBp (F : PF) (G : PG) (k : Int) : Prop := 0 ≤ (F 7).toInt ∧ (F 7).toInt ≤ k ∧ ∀ i : Nat, (i : Int) < (F 7).toInt → (1 ≤ (G 4 i).toInt ∧ (G 4 i).toInt ≤ 4) ∧ (G 4 i = 1 → 0 ≤ (G 5 i).toInt ∧ (G 5 i).toInt < (F 13).toInt) ∧ 0 ≤ (G 6 i).toInt ∧ (G 6 i).toInt + lnT (G 4 i) (G 5 i) ≤ (if (i : Int) + 1 < (F 7).toInt then (G 6 (i + 1)).toInt else k)
theorem TBp.kx {a b : List Nat} {F F1 : PF} {G G1 : PG} {k k1 : Int} (h : TBp F G k) (K : KX a b F G F1 G1) (e7 : a.contains 7 = false) (e4 : b.contains 4 = false) (e5 : b.contains 5 = false) (e6 : b.contains 6 = false) (h13 : (F 13).toInt ≤ (F1 13).toInt) (hk : k ≤ k1) : TBp F1 G1 k1 := by
  obtain ⟨h1, h2, h3⟩ := h
  unfold TBp
  rw [K.1 7 e7, K.2 4 e4, K.2 5 e5, K.2 6 e6]
  refine ⟨h1, by omega, fun i hi => ?_⟩
  obtain ⟨q1, q2, q3, q4⟩ := h3 i hi
  refine ⟨q1, fun z => ⟨(q2 z).1, by have := (q2 z).2; omega⟩, q3, ?_⟩
  split
  · rename_i c
    rw [if_pos c] at q4
    exact q4
  · rename_i c
    rw [if_neg c] at q4
    omega
theorem mz_token {fu : Nat} (kd v x : Int32) (F : PF) (G : PG) (h0 : 0 ≤ (F 7).toInt) (h1 : (F 7).toInt ≤ 4000) : WP (mf_token fu kd v x F G) (fun _ F1 G1 => KX [7] [4, 5, 6] F G F1 G1 ∧ (F1 7).toInt = (F 7).toInt + 1 ∧ (∀ k : Nat, k ≠ (F 7).toNatClampNeg → G1 4 k = G 4 k ∧ G1 5 k = G 5 k ∧ G1 6 k = G 6 k) ∧ G1 4 (F 7).toNatClampNeg = kd ∧ G1 5 (F 7).toNatClampNeg = v ∧ G1 6 (F 7).toNatClampNeg = x) := by
  have vi : vp_in (F 7) 4002 := vp_in_iff.mpr ⟨h0, by omega⟩
  unfold mf_token mb_token_0
  refine WP.ix vi ?_
  unfold mb_token_10
  refine WP.ix vi ?_
  unfold mb_token_20
  refine WP.ix vi ?_
  unfold mb_token_30 mb_token_40
  refine WP.ret ⟨KX.f rfl (KX.g rfl (KX.g rfl (KX.g rfl KX.rf))), i_addn _ rfl (by omega) (by omega), fun k hk => ⟨?_, ?_, ?_⟩, ?_, ?_, ?_⟩
  · exact gup_x (G := G) (k := 4) hk
  · exact gup_x (G := gup G 4 _ kd) (k := 5) hk
  · exact gup_x (G := gup (gup G 4 _ kd) 5 _ v) (k := 6) hk
  · exact gup_i (G := G) (k := 4)
  · exact gup_i (G := gup G 4 _ kd) (k := 5)
  · exact gup_i (G := gup (gup G 4 _ kd) 5 _ v) (k := 6)
theorem mz_tokenT {fu : Nat} (kd v x : Int32) (F : PF) (G : PG) (k1 : Int) (h : TBp F G x.toInt) (hx : x.toInt < 4000) (hk : 1 ≤ kd.toInt ∧ kd.toInt ≤ 4) (hv : kd = 1 → 0 ≤ v.toInt ∧ v.toInt < (F 13).toInt) (hl : x.toInt + lnT kd v ≤ k1) : WP (mf_token fu kd v x F G) (fun _ F1 G1 => KX [7] [4, 5, 6] F G F1 G1 ∧ TBp F1 G1 k1) := by
  obtain ⟨h1, h2, h3⟩ := h
  refine WP.mono (mz_token kd v x F G h1 (by omega)) ?_
  rintro r F1 G1 ⟨K, n1, n2, n3, n4, n5⟩
  have pl := lnT.pos kd v
  have nn : (F 7).toNatClampNeg = (F 7).toInt.toNat := rfl
  refine ⟨K, by omega, by omega, fun i hi => ?_⟩
  rw [K.1 13 rfl]
  by_cases c : i = (F 7).toNatClampNeg
  · subst c
    rw [n3, n4, n5, if_neg (by rw [nn]; omega)]
    exact ⟨hk, hv, by omega, hl⟩
  · obtain ⟨e4, e5, e6⟩ := n2 i c
    have ci : (i : Int) < (F 7).toInt := by omega
    obtain ⟨q1, q2, q3, q4⟩ := h3 i ci
    rw [e4, e5, e6, if_pos (by omega)]
    refine ⟨q1, q2, q3, ?_⟩
    by_cases c1 : i + 1 = (F 7).toNatClampNeg
    · rw [c1, n5]
      rw [if_neg (by rw [nn] at c1; omega)] at q4
      exact q4
    · rw [(n2 (i + 1) c1).2.2]
      rw [if_pos (by rw [nn] at c1; omega)] at q4
      exact q4
theorem b2i_ne {b : Bool} (h : ¬ b2i b = 0) : b = true := by
  cases b
  · exact absurd rfl h
  · rfl
theorem b2i_z {b : Bool} (h : b2i b = 0) : b = false := by
  cases b
  · rfl
  · exact absurd h (by decide)
theorem lt_nz {F : PF} {G : PG} {x : Int32} (h : isLt (atv F G x) = true ∨ isDg (atv F G x) = true) : x.toInt < (F 3).toInt := by
  refine atv.in (G := G) (fun q => ?_)
  rw [q] at h
  rcases h with h | h
  · exact absurd h (by decide)
  · exact absurd h (by decide)
theorem mz_wordToken {fu : Nat} (hfu : 8589934592 ≤ fu) (x : Int32) (F : PF) (G : PG) (h : TXT F G) (hl : NLs F G) (hb : TBp F G x.toInt) (hx : 0 ≤ x.toInt) (hL : isLt (atv F G x) = true) (hc : 2 * (F 13).toInt ≤ x.toInt) : WP (mf_wordToken fu x F G) (fun r F1 G1 => KX [7, 13] [4, 5, 6, 9, 10, 11, 12] F G F1 G1 ∧ ((r = -1 ∧ F = F1 ∧ G = G1) ∨ (x.toInt < r.toInt ∧ r.toInt ≤ (F 3).toInt ∧ isLt (atv F G r) = false ∧ TBp F1 G1 r.toInt ∧ NLs F1 G1 ∧ (F1 13).toInt ≤ (F 13).toInt + 1))) := by
  have h3 := h.2.1
  have x3 := lt_nz (Or.inl hL)
  have loop : ∀ (m : Nat) (e : Int32), x.toInt ≤ e.toInt → e.toInt ≤ (F 3).toInt → (F 3).toInt.toNat - e.toInt.toNat < m → WP (ml_wordToken_2 fu m x e F G) (fun r F1 G1 => KX [7, 13] [4, 5, 6, 9, 10, 11, 12] F G F1 G1 ∧ ((r = -1 ∧ F = F1 ∧ G = G1) ∨ (x.toInt < r.toInt ∧ r.toInt ≤ (F 3).toInt ∧ isLt (atv F G r) = false ∧ TBp F1 G1 r.toInt ∧ NLs F1 G1 ∧ (F1 13).toInt ≤ (F 13).toInt + 1))) := by
    intro m
    induction m with
    | zero => intro e _ _ q; exact absurd q (Nat.not_lt_zero _)
    | succ m ih =>
      intro e e1 e2 em
      show WP (mb_wordToken_2 fu (ml_wordToken_2 fu m) x e F G) _
      unfold mb_wordToken_2
      refine WP.bind (mz_at e F G h (by omega)) ?_
      rintro _ _ _ ⟨rfl, rfl, rfl⟩
      dsimp only
      unfold mb_wordToken_7
      refine WP.bind (mz_isInner _ F G) ?_
      rintro _ _ _ ⟨rfl, rfl, rfl⟩
      dsimp only
      unfold mb_wordToken_10
      refine WP.ite (fun c => ?_) (fun c => ?_)
      · have c := b2i_z c
        rw [Bool.or_eq_false_iff] at c
        have ne : ¬ e.toInt = x.toInt := fun q => by
          rw [i_eq.mpr q, hL] at c
          exact absurd c.1 (by decide)
        have ed : (e - x).toInt = e.toInt - x.toInt := i_subn e rfl (by omega) (by omega)
        unfold mb_wordToken_19
        refine WP.ite (fun c16 => ?_) (fun _ => ?_)
        · have c16 := i_le.mp c16
          have l16 : (16 : Int32).toInt = 16 := rfl
          unfold mb_wordToken_29
          refine WP.bind (mz_placeIn hfu 1 (by decide) x (e - x) F G h ⟨hx, by omega⟩ ⟨by omega, by omega⟩) ?_
          rintro w _ _ ⟨hw, rfl, rfl⟩
          dsimp only
          have tok : ∀ (F1 : PF) (G1 : PG) (kd v : Int32), KX [13] [9, 10, 11, 12] F G F1 G1 → TBp F1 G1 x.toInt → NLs F1 G1 → (F1 13).toInt ≤ (F 13).toInt + 1 → (1 ≤ kd.toInt ∧ kd.toInt ≤ 4) → (kd = 1 → 0 ≤ v.toInt ∧ v.toInt < (F1 13).toInt) → x.toInt + lnT kd v ≤ e.toInt → WP (mb_wordToken_68 fu x e v kd F1 G1) (fun r F1 G1 => KX [7, 13] [4, 5, 6, 9, 10, 11, 12] F G F1 G1 ∧ ((r = -1 ∧ F = F1 ∧ G = G1) ∨ (x.toInt < r.toInt ∧ r.toInt ≤ (F 3).toInt ∧ isLt (atv F G r) = false ∧ TBp F1 G1 r.toInt ∧ NLs F1 G1 ∧ (F1 13).toInt ≤ (F 13).toInt + 1))) := by
            intro F1 G1 kd v K1 b1 l1 n1 k1 v1 len
            unfold mb_wordToken_68
            refine WP.bind (mz_tokenT kd v x F1 G1 e.toInt b1 (by omega) k1 v1 len) ?_
            rintro r F2 G2 ⟨K2, b2⟩
            dsimp only
            unfold mb_wordToken_72
            refine WP.ret ⟨KX.tr (KX.tr KX.rf K1 rfl rfl) K2 rfl rfl, Or.inr ⟨by omega, e2, c.1, b2, ?_, by rw [K2.1 13 rfl]; exact n1⟩⟩
            unfold NLs
            rw [K2.1 13 rfl, K2.2 12 rfl, K2.2 11 rfl, K2.2 9 rfl]
            exact l1
          unfold mb_wordToken_39
          refine WP.ite (fun cw => ?_) (fun cw => ?_)
          · unfold mb_wordToken_46 mb_wordToken_51
            rw [if_pos cw]
            unfold mb_wordToken_56
            refine WP.bind (mz_nameOf hfu x (e - x) F G h hl ⟨hx, by omega⟩ ⟨by omega, by omega⟩) ?_
            rintro v F1 G1 ⟨K1, v0, v1, n1, n2, l1⟩
            dsimp only
            unfold mb_wordToken_64
            have l1 := l1 (by omega)
            refine tok F1 G1 1 v K1 (hb.kx K1 rfl rfl rfl rfl (by omega) (Int.le_refl _)) l1 n1 ⟨by decide, by decide⟩ (fun _ => ⟨v0, v1⟩) ?_
            unfold lnT
            rw [if_neg (fun q => absurd q.1 (by decide)), if_neg (fun q => absurd q.1 (by decide))]
            omega
          · unfold mb_wordToken_50 mb_wordToken_51
            rw [if_neg cw]
            unfold mb_wordToken_67
            refine tok F G 2 w KX.rf hb hl (by omega) ⟨by decide, by decide⟩ (fun q => absurd q (by decide)) ?_
            unfold lnT
            rw [if_neg (fun q => absurd q.1 (by decide))]
            rcases hw with q | ⟨q1, q2, q3⟩
            · exact absurd q cw
            · split
              · rename_i z
                have := q3 rfl z.2
                omega
              · omega
        · unfold mb_wordToken_27
          exact WP.ret ⟨KX.rf, Or.inl ⟨rfl, rfl, rfl⟩⟩
      · have c := b2i_ne c
        rw [Bool.or_eq_true] at c
        have i3 := lt_nz c
        unfold mb_wordToken_13
        have ee : (e + 1).toInt = e.toInt + 1 := i_addn e rfl (by omega) (by omega)
        exact ih (e + 1) (by omega) (by omega) (by omega)
  unfold mf_wordToken mb_wordToken_0
  exact loop fu x (Int.le_refl _) (by omega) (by omega)
theorem mz_hex {fu : Nat} (x : Int32) (F : PF) (G : PG) : WP (mf_hex fu x F G) (fun r F1 G1 => F = F1 ∧ G = G1 ∧ (r.toInt < 16 → ¬ x = 0)) := by
  by_cases c : x = 0
  · subst c
    have e : mf_hex fu 0 F G = some (99, F, G) := by rfl
    exact ⟨99, F, G, e, rfl, rfl, fun q => absurd q (by decide)⟩
  · refine WP.mono (ms_hex x F G) ?_
    rintro r F1 G1 ⟨e1, e2, -⟩
    exact ⟨e1, e2, fun _ => c⟩
theorem mz_numberToken {fu : Nat} (hfu : 8589934592 ≤ fu) (x : Int32) (F : PF) (G : PG) (h : TXT F G) (hb : TBp F G x.toInt) (hx : 0 ≤ x.toInt) (h3x : x.toInt < (F 3).toInt) : WP (mf_numberToken fu x F G) (fun r F1 G1 => KX [7] [4, 5, 6] F G F1 G1 ∧ ((r = -1 ∧ F = F1 ∧ G = G1) ∨ (x.toInt < r.toInt ∧ r.toInt ≤ (F 3).toInt ∧ TBp F1 G1 r.toInt))) := by
  have h3 := h.2.1
  have l16 : (16 : Int32).toInt = 16 := rfl
  have l1 : (1 : Int32).toInt = 1 := rfl
  have no : WP (mb_numberToken_173 fu F G) (fun r F1 G1 => KX [7] [4, 5, 6] F G F1 G1 ∧ ((r = -1 ∧ F = F1 ∧ G = G1) ∨ (x.toInt < r.toInt ∧ r.toInt ≤ (F 3).toInt ∧ TBp F1 G1 r.toInt))) := by
    unfold mb_numberToken_173
    exact WP.ret ⟨KX.rf, Or.inl ⟨rfl, rfl, rfl⟩⟩
  have main : ∀ (y b : Int32), x.toInt ≤ b.toInt → b.toInt ≤ (F 3).toInt → ∀ (m : Nat) (e : Int32) (v : Int64), b.toInt ≤ e.toInt → e.toInt ≤ (F 3).toInt → (F 3).toInt.toNat - e.toInt.toNat < m → WP (ml_numberToken_46 fu m x y e b v F G) (fun r F1 G1 => KX [7] [4, 5, 6] F G F1 G1 ∧ ((r = -1 ∧ F = F1 ∧ G = G1) ∨ (x.toInt < r.toInt ∧ r.toInt ≤ (F 3).toInt ∧ TBp F1 G1 r.toInt))) := by
    intro y b b1 b2 m
    induction m with
    | zero => intro e v _ _ q; exact absurd q (Nat.not_lt_zero _)
    | succ m ih =>
      intro e v e1 e2 em
      show WP (mb_numberToken_46 fu (ml_numberToken_46 fu m) x y e b v F G) _
      have ed : (e - b).toInt = e.toInt - b.toInt := i_subn e rfl (by omega) (by omega)
      have stop : WP (mb_numberToken_125 fu x y e b v F G) (fun r F1 G1 => KX [7] [4, 5, 6] F G F1 G1 ∧ ((r = -1 ∧ F = F1 ∧ G = G1) ∨ (x.toInt < r.toInt ∧ r.toInt ≤ (F 3).toInt ∧ TBp F1 G1 r.toInt))) := by
        unfold mb_numberToken_125
        refine WP.ite (fun _ => no) (fun c => ?_)
        have c := mt i_lt.mpr c
        have fin : ∀ z : Int32, WP (mb_numberToken_150 fu x e v z (e - b) F G) (fun r F1 G1 => KX [7] [4, 5, 6] F G F1 G1 ∧ ((r = -1 ∧ F = F1 ∧ G = G1) ∨ (x.toInt < r.toInt ∧ r.toInt ≤ (F 3).toInt ∧ TBp F1 G1 r.toInt))) := by
          intro z
          unfold mb_numberToken_150
          refine WP.ite (fun _ => no) (fun _ => ?_)
          unfold mb_numberToken_153
          refine WP.ite (fun _ => no) (fun _ => ?_)
          unfold mb_numberToken_162
          refine WP.bind (mz_at e F G h (by omega)) ?_
          rintro _ _ _ ⟨rfl, rfl, rfl⟩
          dsimp only
          unfold mb_numberToken_167
          refine WP.bind (mz_isInner _ F G) ?_
          rintro _ _ _ ⟨rfl, rfl, rfl⟩
          dsimp only
          unfold mb_numberToken_170
          refine WP.ite (fun _ => ?_) (fun _ => no)
          unfold mb_numberToken_175
          refine WP.bind (mz_tokenT 3 _ x F G e.toInt hb (by omega) ⟨by decide, by decide⟩ (fun q => absurd q (by decide)) ?_) ?_
          · unfold lnT
            rw [if_neg (fun q => absurd q.1 (by decide)), if_neg (fun q => absurd q.1 (by decide))]
            omega
          · rintro r F2 G2 ⟨K2, t2⟩
            dsimp only
            unfold mb_numberToken_184
            exact WP.ret ⟨K2, Or.inr ⟨by omega, e2, t2⟩⟩
        unfold mb_numberToken_137 mb_numberToken_148 mb_numberToken_143
        exact WP.ite (fun _ => fin _) (fun _ => fin _)
      have go : e.toInt < (F 3).toInt → WP (mb_numberToken_77 fu (ml_numberToken_46 fu m) x y e b v F G) (fun r F1 G1 => KX [7] [4, 5, 6] F G F1 G1 ∧ ((r = -1 ∧ F = F1 ∧ G = G1) ∨ (x.toInt < r.toInt ∧ r.toInt ≤ (F 3).toInt ∧ TBp F1 G1 r.toInt))) := by
        intro i3
        have ee : (e + 1).toInt = e.toInt + 1 := i_addn e rfl (by omega) (by omega)
        unfold mb_numberToken_77
        refine WP.ite (fun _ => ?_) (fun _ => ?_)
        · unfold mb_numberToken_115 mb_numberToken_117
          exact ih (e + 1) v (by omega) (by omega) (by omega)
        · have mul : ∀ z : Int64, WP (mb_numberToken_101 fu (ml_numberToken_46 fu m) x y e b z v F G) (fun r F1 G1 => KX [7] [4, 5, 6] F G F1 G1 ∧ ((r = -1 ∧ F = F1 ∧ G = G1) ∨ (x.toInt < r.toInt ∧ r.toInt ≤ (F 3).toInt ∧ TBp F1 G1 r.toInt))) := by
            intro z
            unfold mb_numberToken_101
            refine WP.bind (mz_at e F G h (by omega)) ?_
            rintro _ _ _ ⟨rfl, rfl, rfl⟩
            dsimp only
            unfold mb_numberToken_107
            refine WP.bind (mz_hex _ F G) ?_
            rintro r _ _ ⟨rfl, rfl, -⟩
            dsimp only
            unfold mb_numberToken_110 mb_numberToken_117
            exact ih (e + 1) _ (by omega) (by omega) (by omega)
          unfold mb_numberToken_86 mb_numberToken_98 mb_numberToken_92
          exact WP.ite (fun _ => mul _) (fun _ => mul _)
      unfold mb_numberToken_46
      refine WP.ite (fun _ => ?_) (fun _ => ?_)
      · unfold mb_numberToken_66
        refine WP.bind (mz_at e F G h (by omega)) ?_
        rintro _ _ _ ⟨rfl, rfl, rfl⟩
        dsimp only
        unfold mb_numberToken_71
        refine WP.bind (mz_isDigit _ F G) ?_
        rintro _ _ _ ⟨rfl, rfl, rfl⟩
        dsimp only
        unfold mb_numberToken_74
        refine WP.ite (fun _ => stop) (fun c => go (lt_nz (Or.inr (b2i_ne c))))
      · unfold mb_numberToken_50
        refine WP.bind (mz_at e F G h (by omega)) ?_
        rintro _ _ _ ⟨rfl, rfl, rfl⟩
        dsimp only
        unfold mb_numberToken_55
        refine WP.bind (mz_hex _ F G) ?_
        rintro r _ _ ⟨rfl, rfl, hr⟩
        dsimp only
        unfold mb_numberToken_58
        refine WP.ite (fun _ => stop) (fun c => ?_)
        unfold mb_numberToken_63
        have c := mt i_le.mpr c
        exact go (atv.in (hr (by omega)))
  have st : ∀ y b : Int32, x.toInt ≤ b.toInt → b.toInt ≤ (F 3).toInt → WP (mb_numberToken_39 fu x y b F G) (fun r F1 G1 => KX [7] [4, 5, 6] F G F1 G1 ∧ ((r = -1 ∧ F = F1 ∧ G = G1) ∨ (x.toInt < r.toInt ∧ r.toInt ≤ (F 3).toInt ∧ TBp F1 G1 r.toInt))) := by
    intro y b b1 b2
    unfold mb_numberToken_39
    exact main y b b1 b2 fu b 0 (Int.le_refl _) b2 (by omega)
  have plain : WP (mb_numberToken_26 fu x F G) (fun r F1 G1 => KX [7] [4, 5, 6] F G F1 G1 ∧ ((r = -1 ∧ F = F1 ∧ G = G1) ∨ (x.toInt < r.toInt ∧ r.toInt ≤ (F 3).toInt ∧ TBp F1 G1 r.toInt))) := by
    unfold mb_numberToken_26 mb_numberToken_27
    rw [if_pos rfl]
    unfold mb_numberToken_38
    exact st 0 x (Int.le_refl _) (by omega)
  have ex : (x + 1).toInt = x.toInt + 1 := i_addn x rfl (by omega) (by omega)
  have ex2 : (x + 2).toInt = x.toInt + 2 := i_addn x rfl (by omega) (by omega)
  unfold mf_numberToken mb_numberToken_0
  refine WP.bind (mz_at x F G h hx) ?_
  rintro _ _ _ ⟨rfl, rfl, rfl⟩
  dsimp only
  unfold mb_numberToken_5
  refine WP.ite (fun _ => ?_) (fun _ => plain)
  unfold mb_numberToken_10
  refine WP.bind (mz_at (x + 1) F G h (by omega)) ?_
  rintro _ _ _ ⟨rfl, rfl, rfl⟩
  dsimp only
  unfold mb_numberToken_17
  refine WP.ite (fun c => ?_) (fun _ => plain)
  have i3 : (x + 1).toInt < (F 3).toInt := atv.in (by rw [c]; decide)
  unfold mb_numberToken_22 mb_numberToken_27
  rw [if_neg (by decide)]
  unfold mb_numberToken_32
  exact st 1 (x + 2) (by omega) (by omega)
/-- one token -/
theorem mz_tokenAt {fu : Nat} (hfu : 8589934592 ≤ fu) (x : Int32) (F : PF) (G : PG) (h : TXT F G) (hl : NLs F G) (hb : TBp F G x.toInt) (hx : 0 ≤ x.toInt) (h3x : x.toInt < (F 3).toInt) (hc : 2 * (F 13).toInt ≤ x.toInt + 1) (hc1 : isLt (atv F G x) = true → 2 * (F 13).toInt ≤ x.toInt) : WP (mf_tokenAt fu x F G) (fun r F1 G1 => KX [7, 13] [4, 5, 6, 9, 10, 11, 12] F G F1 G1 ∧ NLs F1 G1 ∧ ((r = -1 ∧ F = F1 ∧ G = G1) ∨ (x.toInt < r.toInt ∧ r.toInt ≤ (F 3).toInt ∧ TBp F1 G1 r.toInt ∧ 2 * (F1 13).toInt ≤ r.toInt + 1 ∧ (isLt (atv F G r) = true → 2 * (F1 13).toInt ≤ r.toInt)))) := by
  have h3 := h.2.1
  unfold mf_tokenAt mb_tokenAt_0
  refine WP.bind (mz_at x F G h hx) ?_
  rintro _ _ _ ⟨rfl, rfl, rfl⟩
  dsimp only
  unfold mb_tokenAt_5
  refine WP.bind (mz_isLetter _ F G) ?_
  rintro _ _ _ ⟨rfl, rfl, rfl⟩
  dsimp only
  unfold mb_tokenAt_10
  refine WP.ite (fun c => ?_) (fun c => ?_)
  · unfold mb_tokenAt_19
    refine WP.bind (mz_isDigit _ F G) ?_
    rintro _ _ _ ⟨rfl, rfl, rfl⟩
    dsimp only
    unfold mb_tokenAt_23
    refine WP.ite (fun _ => ?_) (fun _ => ?_)
    · have loop : ∀ (m : Nat) (n : Int32), 0 ≤ n.toInt → n.toInt ≤ 4 → n.toInt.toNat < m → WP (ml_tokenAt_34 fu m x n F G) (fun r F1 G1 => KX [7, 13] [4, 5, 6, 9, 10, 11, 12] F G F1 G1 ∧ NLs F1 G1 ∧ ((r = -1 ∧ F = F1 ∧ G = G1) ∨ (x.toInt < r.toInt ∧ r.toInt ≤ (F 3).toInt ∧ TBp F1 G1 r.toInt ∧ 2 * (F1 13).toInt ≤ r.toInt + 1 ∧ (isLt (atv F G r) = true → 2 * (F1 13).toInt ≤ r.toInt)))) := by
        intro m
        induction m with
        | zero => intro n _ _ q; exact absurd q (Nat.not_lt_zero _)
        | succ m ih =>
          intro n n0 n4 nm
          have l0 : (0 : Int32).toInt = 0 := rfl
          show WP (mb_tokenAt_34 fu (ml_tokenAt_34 fu m) x n F G) _
          unfold mb_tokenAt_34
          refine WP.ite (fun _ => ?_) (fun cn_ => ?_)
          · unfold mb_tokenAt_89
            exact WP.ret ⟨KX.rf, hl, Or.inl ⟨rfl, rfl, rfl⟩⟩
          · have cn_ := mt i_le.mpr cn_
            have ed : (n + (-1)).toInt = n.toInt - 1 := i_decn n0
            have ex : (x + n).toInt = x.toInt + n.toInt := i_addn x rfl (by omega) (by omega)
            have next : WP (mb_tokenAt_83 fu (ml_tokenAt_34 fu m) x n F G) (fun r F1 G1 => KX [7, 13] [4, 5, 6, 9, 10, 11, 12] F G F1 G1 ∧ NLs F1 G1 ∧ ((r = -1 ∧ F = F1 ∧ G = G1) ∨ (x.toInt < r.toInt ∧ r.toInt ≤ (F 3).toInt ∧ TBp F1 G1 r.toInt ∧ 2 * (F1 13).toInt ≤ r.toInt + 1 ∧ (isLt (atv F G r) = true → 2 * (F1 13).toInt ≤ r.toInt)))) := by
              unfold mb_tokenAt_83
              generalize n + (-1) = n' at ed
              exact ih n' (by omega) (by omega) (by omega)
            unfold mb_tokenAt_38
            refine WP.ite (fun _ => ?_) (fun c3 => ?_)
            · unfold mb_tokenAt_59 mb_tokenAt_60
              rw [if_pos rfl]
              unfold mb_tokenAt_68
              exact next
            · have c3 := mt i_lt.mpr c3
              unfold mb_tokenAt_48
              refine WP.bind (mz_placeIn hfu 0 (by decide) x n F G h ⟨hx, by omega⟩ ⟨n0, by omega⟩) ?_
              rintro w _ _ ⟨hw, rfl, rfl⟩
              dsimp only
              unfold mb_tokenAt_56 mb_tokenAt_60
              refine WP.ite (fun _ => ?_) (fun cw => ?_)
              · unfold mb_tokenAt_68
                exact next
              · unfold mb_tokenAt_71
                refine WP.bind (mz_tokenT 4 w x F G (x + n).toInt hb (by omega) ⟨by decide, by decide⟩ (fun q => absurd q (by decide)) ?_) ?_
                · rcases hw with q | ⟨q1, q2, q3⟩
                  · exact absurd q cw
                  · unfold lnT
                    split
                    · rename_i z
                      have := q2 rfl z.2
                      omega
                    · rw [if_neg (fun q => absurd q.1 (by decide))]
                      omega
                · rintro r F2 G2 ⟨K2, t2⟩
                  dsimp only
                  unfold mb_tokenAt_79
                  refine WP.ret ⟨KX.tr KX.rf K2 rfl rfl, ?_, Or.inr ⟨by omega, by omega, t2, by rw [K2.1 13 rfl]; omega, fun _ => by rw [K2.1 13 rfl]; omega⟩⟩
                  unfold NLs
                  rw [K2.1 13 rfl, K2.2 12 rfl, K2.2 11 rfl, K2.2 9 rfl]
                  exact hl
      unfold mb_tokenAt_32
      exact loop fu 4 (by decide) (by decide) (by show 4 < fu; omega)
    · unfold mb_tokenAt_26
      refine WP.bind (mz_numberToken hfu x F G h hb hx h3x) ?_
      rintro r F1 G1 ⟨K, q⟩
      dsimp only
      unfold mb_tokenAt_31
      refine WP.ret ⟨KX.tr KX.rf K rfl rfl, ?_, ?_⟩
      · unfold NLs
        rw [K.1 13 rfl, K.2 12 rfl, K.2 11 rfl, K.2 9 rfl]
        exact hl
      · rcases q with q | ⟨q1, q2, q3⟩
        · exact Or.inl q
        · exact Or.inr ⟨q1, q2, q3, by rw [K.1 13 rfl]; omega, fun _ => by rw [K.1 13 rfl]; omega⟩
  · unfold mb_tokenAt_13
    have hL := b2i_ne c
    have c2 := hc1 hL
    refine WP.bind (mz_wordToken hfu x F G h hl hb hx hL c2) ?_
    rintro r F1 G1 ⟨K, q⟩
    dsimp only
    unfold mb_tokenAt_18
    rcases q with ⟨rfl, rfl, rfl⟩ | ⟨q1, q2, q3, q4, q5, q6⟩
    · exact WP.ret ⟨K, hl, Or.inl ⟨rfl, rfl, rfl⟩⟩
    · refine WP.ret ⟨K, q5, Or.inr ⟨q1, q2, q4, by omega, fun z => ?_⟩⟩
      rw [q3] at z
      exact absurd z (by decide)
/-- the tokens of a text -/
def TBL (F : PF) (G : PG) : Prop := 0 ≤ (F 3).toInt ∧ (F 3).toInt ≤ 4000 ∧ 0 ≤ (F 7).toInt ∧ (F 7).toInt ≤ (F 3).toInt ∧ G 4 (F 7).toNatClampNeg = 0 ∧ (G 6 (F 7).toNatClampNeg).toInt = (F 3).toInt ∧ ∀ i : Nat, (i : Int) < (F 7).toInt → (1 ≤ (G 4 i).toInt ∧ (G 4 i).toInt ≤ 4) ∧ (G 4 i = 1 → 0 ≤ (G 5 i).toInt ∧ (G 5 i).toInt < 2100) ∧ 0 ≤ (G 6 i).toInt ∧ (G 6 i).toInt + lnT (G 4 i) (G 5 i) ≤ (G 6 (i + 1)).toInt
theorem mz_cut {fu : Nat} (hfu : 8589934592 ≤ fu) (F : PF) (G : PG) (h : TXT F G) : WP (mf_cut fu F G) (fun _ F1 G1 => KX [7, 8, 13] [4, 5, 6, 9, 10, 11, 12] F G F1 G1 ∧ TBL F1 G1) := by
  have h3 := h.2.1
  have h30 := h.1
  -- the end
  have fin : ∀ (F1 : PF) (G1 : PG) (k : Int), KX [7, 8, 13] [4, 5, 6, 9, 10, 11, 12] F G F1 G1 → TBp F1 G1 k → k ≤ (F 3).toInt → (F1 13).toInt ≤ 2050 → WP (mb_cut_89 fu F1 G1) (fun _ F1 G1 => KX [7, 8, 13] [4, 5, 6, 9, 10, 11, 12] F G F1 G1 ∧ TBL F1 G1) := by
    intro F1 G1 k K ⟨b1, b2, b3⟩ kl n13
    have vi : vp_in (F1 7) 4002 := vp_in_iff.mpr ⟨b1, by omega⟩
    have nn : (F1 7).toNatClampNeg = (F1 7).toInt.toNat := rfl
    have e3 := K.1 3 rfl
    unfold mb_cut_89
    refine WP.ix vi ?_
    unfold mb_cut_99
    refine WP.ix vi ?_
    unfold mb_cut_112
    refine WP.ret ⟨KX.g rfl (KX.g rfl K), ?_, ?_, b1, ?_, ?_, ?_, fun i hi => ?_⟩
    · rw [e3]; exact h30
    · rw [e3]; exact h3
    · rw [e3]; omega
    · exact gup_i (G := G1) (k := 4)
    · rw [gup_i]
    · obtain ⟨q1, q2, q3, q4⟩ := b3 i hi
      have ci : i ≠ (F1 7).toNatClampNeg := by rw [nn]; omega
      have g4 : gup (gup G1 4 (F1 7).toNatClampNeg 0) 6 (F1 7).toNatClampNeg (F1 3) 4 i = G1 4 i := gup_x (G := G1) (k := 4) ci
      have g6 : gup (gup G1 4 (F1 7).toNatClampNeg 0) 6 (F1 7).toNatClampNeg (F1 3) 6 i = G1 6 i := gup_x (G := gup G1 4 _ 0) (k := 6) ci
      rw [g4, g6]
      refine ⟨q1, fun z => ⟨(q2 z).1, by have := (q2 z).2; show (G1 5 i).toInt < 2100; omega⟩, q3, ?_⟩
      show (G1 6 i).toInt + lnT (G1 4 i) (G1 5 i) ≤ _
      by_cases c : i + 1 = (F1 7).toNatClampNeg
      · rw [c, gup_i, e3]
        rw [if_neg (by rw [nn] at c; omega)] at q4
        omega
      · have g61 : gup (gup G1 4 (F1 7).toNatClampNeg 0) 6 (F1 7).toNatClampNeg (F1 3) 6 (i + 1) = G1 6 (i + 1) := gup_x (G := gup G1 4 _ 0) (k := 6) c
        rw [g61]
        rw [if_pos (by rw [nn] at c; omega)] at q4
        exact q4
  -- from token to token
  have main : ∀ (m : Nat) (k : Int32) (p : Int) (F1 : PF) (G1 : PG), KX [7, 8, 13] [4, 5, 6, 9, 10, 11, 12] F G F1 G1 → TBp F1 G1 p → 0 ≤ p → p ≤ (F 3).toInt → NLs F1 G1 → (k = -1 ∨ (p ≤ k.toInt ∧ k.toInt ≤ (F 3).toInt ∧ 2 * (F1 13).toInt ≤ k.toInt + 1 ∧ (isLt (atv F G k) = true → 2 * (F1 13).toInt ≤ k.toInt) ∧ (F 3).toInt.toNat - k.toInt.toNat + 1 < m)) → 0 < m → WP (ml_cut_42 fu m k F1 G1) (fun _ F1 G1 => KX [7, 8, 13] [4, 5, 6, 9, 10, 11, 12] F G F1 G1 ∧ TBL F1 G1) := by
    intro m
    induction m with
    | zero => intro k p F1 G1 _ _ _ _ _ _ q; exact absurd q (Nat.lt_irrefl _)
    | succ m ih =>
      intro k p F1 G1 K b p0 p3 nl hk _
      show WP (mb_cut_42 fu (ml_cut_42 fu m) k F1 G1) _
      have e3 := K.1 3 rfl
      have T1 : TXT F1 G1 := h.kx K rfl rfl
      unfold mb_cut_42
      refine WP.ite (fun _ => fin F1 G1 p K b p3 nl.2.1) (fun c => ?_)
      rcases hk with q | ⟨k1, k2, k3, k4, k5⟩
      · exact absurd q c
      · unfold mb_cut_47
        refine WP.ite (fun _ => fin F1 G1 p K b p3 nl.2.1) (fun c3 => ?_)
        have c3 := mt i_le.mpr c3
        rw [e3] at c3
        have bk : TBp F1 G1 k.toInt := b.kx (KX.rf (a := []) (b := [])) rfl rfl rfl rfl (Int.le_refl _) k1
        unfold mb_cut_55
        refine WP.bind (mz_tokenAt hfu k F1 G1 T1 nl bk (by omega) (by rw [e3]; omega) k3 (fun z => k4 (by rw [← atv.kx K rfl rfl k]; exact z))) ?_
        rintro r F2 G2 ⟨K2, nl2, q⟩
        dsimp only
        have K02 : KX [7, 8, 13] [4, 5, 6, 9, 10, 11, 12] F G F2 G2 := KX.tr K K2 rfl rfl
        unfold mb_cut_60
        refine WP.ite (fun cr => ?_) (fun cr => ?_)
        · unfold mb_cut_66 mb_cut_71
          rw [if_pos cr]
          unfold mb_cut_76 mb_cut_85
          rcases q with ⟨-, rfl, rfl⟩ | ⟨q1, -⟩
          · have K3 : KX [8] [] F1 G1 (fup F1 8 k) G1 := KX.f rfl KX.rf
            refine ih (-1) p _ _ (KX.f rfl K) (b.kx K3 rfl rfl rfl rfl (Int.le_refl _) (Int.le_refl _)) p0 p3 nl (Or.inl rfl) (by omega)
          · rw [cr] at q1
            have : (-1 : Int32).toInt = -1 := rfl
            omega
        · rcases q with ⟨q, -⟩ | ⟨q1, q2, q3, q4, q5⟩
          · exact absurd q cr
          · unfold mb_cut_71
            rw [if_neg cr]
            have e32 := K02.1 3 rfl
            rw [e3] at q2
            unfold mb_cut_80
            refine WP.bind (mz_skip hfu r F2 G2 (h.kx K02 rfl rfl) ⟨by omega, by rw [e32]; exact q2⟩) ?_
            rintro z F3 G3 ⟨K3, qs⟩
            dsimp only
            have K03 : KX [7, 8, 13] [4, 5, 6, 9, 10, 11, 12] F G F3 G3 := KX.tr K02 K3 rfl rfl
            have b3 : TBp F3 G3 r.toInt := q3.kx K3 rfl rfl rfl rfl (by rw [K3.1 13 rfl]; exact Int.le_refl _) (Int.le_refl _)
            have nl3 : NLs F3 G3 := by
              unfold NLs
              rw [K3.1 13 rfl, K3.2 12 rfl, K3.2 11 rfl, K3.2 9 rfl]
              exact nl2
            unfold mb_cut_85
            refine ih z r.toInt F3 G3 K03 b3 (by omega) q2 nl3 ?_ (by omega)
            rcases qs with qs | ⟨rfl, s1, s2⟩
            · exact Or.inl qs
            · rw [e32] at s2
              refine Or.inr ⟨s1, s2, by omega, fun w => ?_, by omega⟩
              by_cases cz : z.toInt = r.toInt
              · rw [cz]
                refine q5 ?_
                rw [atv.kx K rfl rfl, ← i_eq.mpr cz]
                exact w
              · omega
  -- the heads of the lists
  have heads : ∀ (m : Nat) (k : Int32) (G1 : PG), KX [7, 8, 13] [4, 5, 6, 9, 10, 11, 12] F G (fup (fup (fup F 7 0) 13 0) 8 (-1)) G1 → 0 ≤ k.toInt → k.toInt ≤ 64 → 64 - k.toInt.toNat < m → (∀ j : Nat, (j : Int) < k.toInt → G1 12 j = -1) → WP (ml_cut_17 fu m k (fup (fup (fup F 7 0) 13 0) 8 (-1)) G1) (fun _ F1 G1 => KX [7, 8, 13] [4, 5, 6, 9, 10, 11, 12] F G F1 G1 ∧ TBL F1 G1) := by
    intro m
    induction m with
    | zero => intro k G1 _ _ _ q; exact absurd q (Nat.not_lt_zero _)
    | succ m ih =>
      intro k G1 K k0 k1 km kj
      have l64 : (64 : Int32).toInt = 64 := rfl
      show WP (mb_cut_17 fu (ml_cut_17 fu m) k (fup (fup (fup F 7 0) 13 0) 8 (-1)) G1) _
      unfold mb_cut_17
      refine WP.ite (fun c => ?_) (fun c => ?_)
      · have c := i_le.mp c
        have nl : NLs (fup (fup (fup F 7 0) 13 0) 8 (-1)) G1 := ⟨(by show 0 ≤ (0 : Int32).toInt; decide), (by show (0 : Int32).toInt ≤ 2050; decide), fun j hj => Or.inl (kj j (by omega)), fun j hj => by
          have hj : (j : Int) < (0 : Int32).toInt := hj
          have : (0 : Int32).toInt = 0 := rfl
          omega⟩
        have b0 : TBp (fup (fup (fup F 7 0) 13 0) 8 (-1)) G1 0 := ⟨(by show 0 ≤ (0 : Int32).toInt; decide), (by show (0 : Int32).toInt ≤ 0; decide), fun j hj => by
          have hj : (j : Int) < (0 : Int32).toInt := hj
          have : (0 : Int32).toInt = 0 := rfl
          omega⟩
        unfold mb_cut_36
        refine WP.bind (mz_skip hfu 0 _ _ (h.kx K rfl rfl) ⟨by decide, by show (0 : Int32).toInt ≤ (F 3).toInt; have : (0 : Int32).toInt = 0 := rfl; omega⟩) ?_
        rintro z F3 G3 ⟨K3, qs⟩
        dsimp only
        have K03 : KX [7, 8, 13] [4, 5, 6, 9, 10, 11, 12] F G F3 G3 := KX.tr K K3 rfl rfl
        have n13 : (F3 13).toInt = 0 := by rw [K3.1 13 rfl]; rfl
        unfold mb_cut_41
        have nl3 : NLs F3 G3 := by
          unfold NLs
          rw [K3.1 13 rfl, K3.2 12 rfl, K3.2 11 rfl, K3.2 9 rfl]
          exact nl
        refine main fu z 0 F3 G3 K03 (b0.kx K3 rfl rfl rfl rfl (by rw [K3.1 13 rfl]; exact Int.le_refl _) (Int.le_refl _)) (Int.le_refl _) h30 nl3 ?_ (by omega)
        rcases qs with qs | ⟨-, s1, s2⟩
        · exact Or.inl qs
        · have s1 : (0 : Int32).toInt ≤ z.toInt := s1
          have s2 : z.toInt ≤ (F 3).toInt := s2
          have : (0 : Int32).toInt = 0 := rfl
          exact Or.inr ⟨by omega, s2, by omega, fun _ => by omega, by omega⟩
      · have c := mt i_le.mpr c
        unfold mb_cut_23
        refine WP.ix (vp_in_iff.mpr ⟨k0, by omega⟩) ?_
        unfold mb_cut_30
        have ek : (k + 1).toInt = k.toInt + 1 := i_addn k rfl (by omega) (by omega)
        refine ih (k + 1) _ (KX.g rfl K) (by omega) (by omega) (by omega) (fun j hj => ?_)
        by_cases cj : j = k.toNatClampNeg
        · rw [cj, gup_i]
        · rw [gup_x cj]
          exact kj j (by have : j ≠ k.toInt.toNat := cj; omega)
  unfold mf_cut mb_cut_0 mb_cut_5 mb_cut_10 mb_cut_15
  refine heads fu 0 G (KX.f rfl (KX.f rfl (KX.f rfl KX.rf))) (by decide) (by decide) (by have : (0 : Int32).toInt.toNat = 0 := rfl; omega) (fun j hj => ?_)
  have : (0 : Int32).toInt = 0 := rfl
  omega
