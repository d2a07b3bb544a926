/-- what a function in pass 1 leaves -/
def FZR (B : Prop) (f : Int32) (L : List Nat) (F : PF) (G : PG) (r : Int32) (F1 : PF) (G1 : PG) : Prop := r = 1 → (F1 47 = 0 → L.length ≤ 4) ∧ FZQ B f F G F1 G1
theorem FZR.kx {B : Prop} {f : Int32} {L : List Nat} {a b : List Nat} {F0 F F1 : PF} {G0 G G1 : PG} {r : Int32} (h : FZR B f L F G r F1 G1) (K : KX a b F0 G0 F G) (e60 : a.contains 60 = false) (e56 : b.contains 56 = false) (e57 : b.contains 57 = false) (e58 : b.contains 58 = false) (e59 : b.contains 59 = false) (e28 : b.contains 28 = false) (e29 : b.contains 29 = false) (e30 : b.contains 30 = false) : FZR B f L F0 G0 r F1 G1 := by
  intro e
  obtain ⟨h0, h1, h2, h3, h4⟩ := h e
  have s : sN F = sN F0 := by show (F 60).toNatClampNeg = _; rw [K.1 60 e60]
  refine ⟨h0, ((CB.rf (F := F0) (G := G0)).kx K e56 e57 e58 e59).tr (by omega) h1, by omega, fun g hg => ?_, h4⟩
  rw [← K.2 28 e28, ← K.2 29 e29, ← K.2 30 e30]
  exact h3 g hg
theorem gz_loop {fu : Nat} (hfu : 8589934592 ≤ fu) {B : Prop} {L : List Nat} {Fh : PF} {Gh : PG} (h0 : YG Fh Gh) (hF : Fh 43 = 1 ∧ Fh 51 = 0 ∧ Fh 46 = 1 ∧ Fh 52 = 0) (f : Int32) (hB : B → FTb Fh Gh ∧ kindsOf Gh f.toNatClampNeg = L) (h27 : (Gh 27 f.toNatClampNeg).toInt = L.length) : ∀ (m : Nat) (x4 x5 : Int32) (F : PF) (G : PG) (M : List Nat) (n : Nat), HS Fh Gh 0 F G → G 34 = Gh 34 → x5.toInt = M.length → x4.toInt = 4 + cellsOf M → L = M ++ fkT (Gh 4) (Gh 5) n (F 42) → ((Fh 7).toInt - (F 42).toInt).toNat < n → M.length ≤ (F 42).toInt → FI B M F G → PP (ml_function_177 fu m f x4 x5 1 F G) (FZR B f L Fh Gh) := by
  intro m
  induction m with
  | zero => intro x4 x5 F G M n _ _ _ _ _ _ _ _; exact PP.no
  | succ m ih =>
    intro x4 x5 F G M n q g34 l5 l4 hM hn lM hI
    have ht := q.t h0
    have yg := q.yg h0
    show PP (mb_function_177 fu (ml_function_177 fu m) f x4 x5 1 F G) _
    unfold mb_function_177
    rw [if_neg (by decide)]
    unfold mb_function_182
    rw [if_pos yg.1.2.1]
    unfold mb_function_189
    obtain ⟨K, hg, h42, h43, hD, hf⟩ := q
    have f7 : (Fh 7).toInt ≤ 4000 := by have := h0.2.1.2.1; have := h0.2.1.2.2.2.1; omega
    obtain ⟨n, rfl⟩ : ∃ k, n = k + 1 := ⟨n - 1, by omega⟩
    have g4 : G 4 = Gh 4 := K.2 4 rfl
    have g5 : G 5 = Gh 5 := K.2 5 rfl
    have e46 : F 46 = Fh 46 := K.1 46 rfl
    refine PP.bind (PP.and (PP.and (PP.and (PP.and (wz_formalHere hfu x5 F G yg).p (mw_formalHere x5 F G)) (gh_formalHere x5 F G)) (mn_formalHere x5 F G)) (mks_formalHere x5 F G)) ?_
    rintro kd F2 G2 ⟨⟨⟨⟨(⟨z44, q2, ek, e42, et⟩ | ⟨z44, -⟩), K2⟩, fh⟩, m2⟩, sj⟩
    · dsimp only
      unfold mb_function_195
      rw [if_pos (show F2 44 ≤ 0 by rw [z44]; decide)]
      rw [g4, g5] at ek e42
      have hI2 : FI B (M ++ [fkK (Gh 4) (Gh 5) (F 42)]) F2 G2 := hI.st l5 (e46.trans hF.2.2.1) hg.2.2.2.1 z44 fh K2 m2 sj ek
      have b2 := q2.2.2.1
      have mo2 := q2.2.2.2.2.2.1.2
      have d2 := q2.2.2.2.2.2.2
      have k7 : F 7 = Fh 7 := K.1 7 rfl
      rw [k7] at b2
      have hM2 : L = (M ++ [fkK (Gh 4) (Gh 5) (F 42)]) ++ (if sgn (Gh 4) (Gh 5) (F2 42) 28 then fkT (Gh 4) (Gh 5) n (F2 42 + 1) else []) := by
        rw [hM, e42, List.append_assoc]
        rfl
      have e5 : (x5 + 1).toInt = (M ++ [fkK (Gh 4) (Gh 5) (F 42)]).length := by
        rw [List.length_append]
        show (x5 + 1).toInt = ((M.length + 1 : Nat) : Int)
        have := i_addn x5 (n := 1) (m := 1) rfl (by omega) (by omega)
        omega
      have len2 : (M ++ [fkK (Gh 4) (Gh 5) (F 42)]).length = M.length + 1 := by rw [List.length_append]; rfl
      have cl := cellsOf_app (k := fkK (Gh 4) (Gh 5) (F 42)) M
      have cle := cellsOf_le M
      have KA : KX [14, 35, 42, 43, 44, 45, 47, 48, 49, 53] [16, 17, 18, 19, 20, 21, 22, 23, 34] Fh Gh F2 G2 := KX.tr K K2 rfl rfl
      have g34' : G2 34 = Gh 34 := (K2.2 34 rfl).trans g34
      have e43 : F2 43 = Fh 43 := by
        refine i_eq.mpr ?_
        rw [q2.2.2.2.1, h43]
        omega
      have n46 : ¬ Fh 46 = 0 := by rw [hF.2.2.1]; decide
      have q3 : HS Fh Gh 1 F2 G2 := ⟨KA, q2.2.1, ⟨b2, by omega⟩, e43, d2, fun z => absurd z n46⟩
      unfold mb_function_206
      rw [if_neg (show ¬ F2 46 = 0 by rw [K2.1 46 rfl, e46]; exact n46)]
      have go : ∀ z0 : Int32, x4.toInt + z0.toInt = 4 + cellsOf (M ++ [fkK (Gh 4) (Gh 5) (F 42)]) → 0 ≤ z0.toInt → z0.toInt ≤ 2 → PP (mb_function_246 fu (ml_function_177 fu m) f x5 z0 x4 F2 G2) (FZR B f L Fh Gh) := by
        intro z0 hz0 z1 z2
        have l4' : (x4 + z0).toInt = 4 + cellsOf (M ++ [fkK (Gh 4) (Gh 5) (F 42)]) := by
          have := i_addn x4 (n := z0) (m := z0.toInt) rfl (by omega) (by omega)
          omega
        unfold mb_function_246
        have ht3 := q3.t h0
        refine PP.bind (mp_isSign 28 F2 G2) ?_
        rintro z _ _ ⟨rfl, rfl, hz⟩
        dsimp only
        have w4 : G2 4 = Gh 4 := KA.2 4 rfl
        have w5 : G2 5 = Gh 5 := KA.2 5 rfl
        rw [w4, w5] at hz
        rcases hz with ⟨rfl, s⟩ | ⟨rfl, s⟩
        · unfold mb_function_258
          rw [if_neg (by decide)]
          unfold mb_function_270 mb_function_275 mb_function_279
          rw [if_pos s] at hM2
          obtain ⟨K3, g3, t3, c3, D3, f3⟩ := q3
          have j7 : F2 7 = Fh 7 := K3.1 7 rfl
          have kn : ¬ G2 4 (F2 42).toNatClampNeg = 0 := by rw [w4]; exact k_ne (sgn_k s).1 (by decide)
          obtain ⟨w1, w2, w3⟩ := ht3.1.adv t3.1.1 (by rw [j7]; exact t3.1.2) kn
          rw [j7] at w2
          have lp := lnT.pos (G2 4 (F2 42).toNatClampNeg) (G2 5 (F2 42).toNatClampNeg)
          have t4 : tT (fup F2 42 (F2 42 + 1)) G2 = (G2 6 (F2 42 + 1).toNatClampNeg).toInt := rfl
          have t3e : tT F2 G2 = (G2 6 (F2 42).toNatClampNeg).toInt := rfl
          have q4 : HS Fh Gh 0 (fup F2 42 (F2 42 + 1)) G2 := ⟨KX.f rfl K3, g3, ⟨⟨by show 0 ≤ (F2 42 + 1).toInt; omega, by show (F2 42 + 1).toInt ≤ _; omega⟩, by show _ ≤ (F2 42 + 1).toInt; omega⟩, c3, ⟨D3.1, by rw [t4]; show 5 * (F2 14).toInt ≤ _; omega⟩, fun z => absurd z n46⟩
          refine ih (x4 + z0) (x5 + 1) (fup F2 42 (F2 42 + 1)) G2 (M ++ [fkK (Gh 4) (Gh 5) (F 42)]) n q4 g34' e5 l4' hM2 ?_ ?_ hI2
          · show ((Fh 7).toInt - (F2 42 + 1).toInt).toNat < n
            omega
          · show ((M ++ [fkK (Gh 4) (Gh 5) (F 42)]).length : Int) ≤ (F2 42 + 1).toInt
            omega
        · unfold mb_function_258
          rw [if_pos rfl]
          unfold mb_function_274 mb_function_275 mb_function_279
          rw [if_neg (by rw [s]; decide), List.append_nil] at hM2
          cases m with
          | zero => exact PP.no
          | succ m =>
            have K4 : KX [42] [] F2 G2 (fup F2 42 (F2 42 + 0)) G2 := KX.f rfl KX.rf
            show PP (mb_function_177 fu (ml_function_177 fu m) f (x4 + z0) (x5 + 1) 0 (fup F2 42 (F2 42 + 0)) G2) _
            unfold mb_function_177
            rw [if_pos rfl]
            have hI4 : FI B (M ++ [fkK (Gh 4) (Gh 5) (F 42)]) (fup F2 42 (F2 42 + 0)) G2 := hI2
            have gp4 : GP (fup F2 42 (F2 42 + 0)) := q2.2.1
            generalize fup F2 42 (F2 42 + 0) = F4 at K4 hI4 gp4
            have KB : KX [14, 35, 42, 43, 44, 45, 47, 48, 49, 53] [16, 17, 18, 19, 20, 21, 22, 23, 34] Fh Gh F4 G2 := KX.tr KA K4 rfl rfl
            rw [← hM2] at hI4 e5 l4'
            refine PP.mono (gz_282 hfu (B := B) (L := L) f (x4 + z0) (x5 + 1) F4 G2 gp4 (by rw [K4.1 43 rfl, e43]; exact hF.1) ((KB.1 51 rfl).trans hF.2.1) ((KB.1 46 rfl).trans hF.2.2.1) ((KB.1 52 rfl).trans hF.2.2.2) (by rw [KB.1 24 rfl]; exact h0.2.2.2.2.2.1.1) hI4 (fun b => ?_) e5 l4' ?_) (fun r F1 G1 h => FZR.kx (F0 := Fh) (G0 := Gh) h KB rfl rfl rfl rfl rfl rfl rfl rfl)
            · obtain ⟨b1, b2⟩ := hB b
              refine ⟨?_, ?_⟩
              · unfold FTb
                rw [KB.1 24 rfl, KB.2 27 rfl, KB.2 31 rfl, g34']
                exact b1
              · rw [kinds_eq (KB.2 27 rfl) (KB.2 31 rfl) g34']
                exact b2
            · refine i_eq.mpr ?_
              rw [KB.2 27 rfl, h27]
              exact e5.symm
      unfold mb_function_234 mb_function_241 mb_function_245
      refine PP.ite (fun c => go 1 ?_ (by decide) (by decide)) (fun c => go 2 ?_ (by decide) (by decide))
      · have k0 : fkK (Gh 4) (Gh 5) (F 42) = 0 := by
          rw [c] at ek
          have : (0 : Int32).toInt = 0 := rfl
          omega
        rw [cl, if_pos k0]
        have : (1 : Int32).toInt = 1 := rfl
        omega
      · have k0 : ¬ fkK (Gh 4) (Gh 5) (F 42) = 0 := fun e => c (i_eq.mpr (by rw [ek, e]; rfl))
        rw [cl, if_neg k0]
        have : (2 : Int32).toInt = 2 := rfl
        omega
    · dsimp only
      unfold mb_function_195
      refine PP.ite (fun c => ?_) (fun _ => ?_)
      · have := i_le.mp c
        have : (0 : Int32).toInt = 0 := rfl
        omega
      · unfold mb_function_204
        exact PP.ret (fun e => absurd e (by decide))
/-- a function in pass 1, from its bracket -/
theorem gz_97 {fu : Nat} (hfu : 8589934592 ≤ fu) (f : Int32) (F : PF) (G : PG) (h : YH f F G) (h46 : F 46 = 1) (hs : sgn (G 4) (G 5) (F 42) 22 = true) (h27 : (G 27 f.toNatClampNeg).toInt = (flT (G 4) (G 5) fu (F 42)).length) (hk : kindsOf G f.toNatClampNeg = flT (G 4) (G 5) fu (F 42)) : PP (mb_function_97 fu f F G) (FZR (FTb F G ∧ GI F G) f (flT (G 4) (G 5) fu (F 42)) F G) := by
  obtain ⟨a1, ⟨b1, b2, b3, b4⟩, a3, a4, a5, a6, a7, a8, a9, vf⟩ := h
  unfold mb_function_97 mb_function_102 mb_function_107 mb_function_112 mb_function_117 mb_function_122 mb_function_127
  have Ka : KX [50, 51, 52, 53, 63, 64] [] F G (fup (fup (fup (fup (fup (fup F 50 f) 63 (-1)) 64 (-1)) 52 0) 53 0) 51 0) G := KX.f rfl (KX.f rfl (KX.f rfl (KX.f rfl (KX.f rfl (KX.f rfl KX.rf)))))
  have c50 : (fup (fup (fup (fup (fup (fup F 50 f) 63 (-1)) 64 (-1)) 52 0) 53 0) 51 0) 50 = f := rfl
  have c51 : (fup (fup (fup (fup (fup (fup F 50 f) 63 (-1)) 64 (-1)) 52 0) 53 0) 51 0) 51 = 0 := rfl
  have c52 : (fup (fup (fup (fup (fup (fup F 50 f) 63 (-1)) 64 (-1)) 52 0) 53 0) 51 0) 52 = 0 := rfl
  have c53 : (fup (fup (fup (fup (fup (fup F 50 f) 63 (-1)) 64 (-1)) 52 0) 53 0) 51 0) 53 = 0 := rfl
  generalize fup (fup (fup (fup (fup (fup F 50 f) 63 (-1)) 64 (-1)) 52 0) 53 0) 51 0 = Fa at Ka c50 c51 c52 c53
  refine PP.bind (mp_begins Fa G) ?_
  rintro r Fb Gb ⟨rfl, eG⟩
  dsimp only
  rw [eG]
  unfold mb_function_131
  refine PP.bind (mp_openSign 22 (fup Fa 15 (Fa 15 + 1)) G) ?_
  rintro r Fh Gh (⟨rfl, rfl, rfl, -, u, -⟩ | ⟨rfl, u, -⟩)
  · dsimp only
    unfold mb_function_137
    rw [if_neg (by decide)]
    show PP (mb_function_142 fu f (fup (fup (fup Fa 15 (Fa 15 + 1)) 43 (Fa 43 + 1)) 42 (Fa 42 + 1)) G) _
    obtain ⟨w1, w2, w3⟩ := a1.adv a4.1 a4.2 (k_ne (sgn_k hs).1 (by decide))
    have lp := lnT.pos (G 4 (F 42).toNatClampNeg) (G 5 (F 42).toNatClampNeg)
    have Kh : KX [15, 42, 43, 50, 51, 52, 53, 63, 64] [] F G (fup (fup (fup Fa 15 (Fa 15 + 1)) 43 (Fa 43 + 1)) 42 (Fa 42 + 1)) G := KX.f rfl (KX.f rfl (KX.f rfl (KX.tr KX.rf Ka rfl rfl)))
    have h42 : (fup (fup (fup Fa 15 (Fa 15 + 1)) 43 (Fa 43 + 1)) 42 (Fa 42 + 1)) 42 = F 42 + 1 := by show Fa 42 + 1 = _; rw [Ka.1 42 rfl]
    have h43 : (fup (fup (fup Fa 15 (Fa 15 + 1)) 43 (Fa 43 + 1)) 42 (Fa 42 + 1)) 43 = 1 := by show Fa 43 + 1 = 1; rw [Ka.1 43 rfl, b4]; decide
    have h50 : (fup (fup (fup Fa 15 (Fa 15 + 1)) 43 (Fa 43 + 1)) 42 (Fa 42 + 1)) 50 = f := c50
    have h51 : (fup (fup (fup Fa 15 (Fa 15 + 1)) 43 (Fa 43 + 1)) 42 (Fa 42 + 1)) 51 = 0 := c51
    have h52 : (fup (fup (fup Fa 15 (Fa 15 + 1)) 43 (Fa 43 + 1)) 42 (Fa 42 + 1)) 52 = 0 := c52
    have h53 : (fup (fup (fup Fa 15 (Fa 15 + 1)) 43 (Fa 43 + 1)) 42 (Fa 42 + 1)) 53 = 0 := c53
    have h15 : (fup (fup (fup Fa 15 (Fa 15 + 1)) 43 (Fa 43 + 1)) 42 (Fa 42 + 1)) 15 = F 15 + 1 := by show Fa 15 + 1 = _; rw [Ka.1 15 rfl]
    generalize fup (fup (fup Fa 15 (Fa 15 + 1)) 43 (Fa 43 + 1)) 42 (Fa 42 + 1) = Fh at Kh h42 h43 h50 h51 h52 h53 h15
    have th : tT Fh G = (G 6 (F 42 + 1).toNatClampNeg).toInt := by unfold tT; rw [h42]
    have tF : tT F G = (G 6 (F 42).toNatClampNeg).toInt := rfl
    have f7 : (F 7).toInt ≤ 4000 := by have := a1.2.1; have := a1.2.2.2.1; omega
    have gp : GP Fh := by
      refine ⟨by rw [Kh.1 60 rfl]; exact a3, by rw [Kh.1 44 rfl]; exact b1, by rw [Kh.1 70 rfl]; exact b2, by rw [Kh.1 54 rfl]; exact b3, by rw [h43]; decide, by rw [h43]; decide, by rw [h51]; decide, by rw [h51, h43]; decide⟩
    have e46 : Fh 46 = 1 := (Kh.1 46 rfl).trans h46
    have yh : YG Fh G := by
      refine ⟨gp, a1.kx Kh rfl rfl rfl rfl rfl, ⟨by rw [h42]; omega, by rw [h42, Kh.1 7 rfl]; omega⟩, ?_, ?_, by rw [Kh.1 24 rfl]; exact a7, ?_, by rw [h50]; exact vf⟩
      · rw [Kh.1 60 rfl, th]
        omega
      · rw [Kh.1 14 rfl, th]
        omega
      · rw [Kh.1 46 rfl, Kh.1 24 rfl]
        exact a8
    have hB : FTb F G ∧ GI F G → FTb Fh G ∧ kindsOf G f.toNatClampNeg = flT (G 4) (G 5) fu (F 42) := fun c => ⟨by unfold FTb; rw [Kh.1 24 rfl]; exact c.1, hk⟩
    have hI0 : FI (FTb F G ∧ GI F G) [] Fh G := by
      intro z
      have z47 : F 47 = 0 := (Kh.1 47 rfl).symm.trans z
      refine ⟨Nat.zero_le _, fun b => ⟨by rw [h53]; rfl, ?_, ?_⟩⟩
      · intro k hk
        rw [Kh.1 14 rfl] at hk
        obtain ⟨p1, p2, p3⟩ := (b.2 h46 z47).2.1 k hk
        show NE (XS [] Fh G) (G 17 k) (G 20 k) (G 21 k) (G 23 k)
        have x37 : (F 37).toInt ≤ ((XS [] Fh G).2.2.2.1 : Int) := by
          show _ ≤ ((Fh 37).toInt.toNat : Int)
          rw [Kh.1 37 rfl]
          omega
        rcases p3 with p | p | p
        · exact Or.inl p
        · exact Or.inr (Or.inl ⟨p.1, fun n => absurd p1 n, fun _ => ⟨p.2.1, by omega⟩⟩)
        · exact Or.inr (Or.inr ⟨p.1, fun n => absurd p1 n, fun _ => Or.inr (Or.inr ⟨p.2.1, rfl, p.2.2.1, by omega⟩)⟩)
      · have F15 : Fh 15 = 1 := by rw [h15, (b.2 h46 z47).1]; decide
        refine ⟨?_, F15, ?_⟩
        · unfold SI
          rw [Kh.1 14 rfl, F15]
          have i1 : (1 : Int32).toInt = 1 := rfl
          have z0 : (0 : Int32).toInt = 0 := rfl
          refine ⟨a6.1, fun k hk => ?_, fun i j hij hj => ?_⟩
          · obtain ⟨p1, p2, p3⟩ := (b.2 h46 z47).2.1 k hk
            rw [p2]
            refine ⟨by omega, by omega, fun n => absurd p1 n, fun _ e2 => ?_⟩
            rcases p3 with p | p | p
            · rw [p.1] at e2
              exact absurd e2 (by decide)
            · rw [p.1] at e2
              exact absurd e2 (by decide)
            · intro e
              have := p.2.1
              rw [e] at this
              exact absurd this (by decide)
          · rw [((b.2 h46 z47).2.1 i (by omega)).2.1, ((b.2 h46 z47).2.1 j hj).2.1]
            omega
        · obtain ⟨-, -, c3, c4⟩ := b.2 h46 z47
          unfold GW
          rw [Kh.1 36 rfl, Kh.1 37 rfl]
          exact ⟨c3, c4⟩
    have back : ∀ (r : Int32) (F1 : PF) (G1 : PG), FZR (FTb F G ∧ GI F G) f (flT (G 4) (G 5) fu (F 42)) Fh G r F1 G1 → FZR (FTb F G ∧ GI F G) f (flT (G 4) (G 5) fu (F 42)) F G r F1 G1 := fun r F1 G1 h => h.kx Kh rfl rfl rfl rfl rfl rfl rfl rfl
    unfold mb_function_142
    refine PP.bind (mp_isSign 23 Fh G) ?_
    rintro z _ _ ⟨rfl, rfl, hz⟩
    dsimp only
    rw [h42] at hz
    unfold mb_function_154
    rcases hz with ⟨rfl, s23⟩ | ⟨rfl, s23⟩
    · rw [if_neg (by decide)]
      have hfl : flT (G 4) (G 5) fu (F 42) = [] := by unfold flT; rw [if_pos s23]
      rw [hfl] at hB h27 back ⊢
      refine PP.mono (gz_282 hfu f 4 0 Fh G gp h43 h51 e46 h52 (by rw [Kh.1 24 rfl]; exact a7.1) hI0 hB rfl rfl (i_eq.mpr h27)) back
    · rw [if_pos rfl]
      have hfl : flT (G 4) (G 5) fu (F 42) = fkT (G 4) (G 5) fu (F 42 + 1) := by unfold flT; rw [if_neg (by rw [s23]; decide)]
      unfold mb_function_157
      rw [if_neg (by rw [e46]; decide)]
      unfold mb_function_174
      have hs0 : HS Fh G 0 Fh G := by
        refine ⟨KX.rf, gp, ⟨yh.2.2.1, Int.le_refl _⟩, rfl, ?_, fun z => ?_⟩
        · have := yh.2.2.2.2.1
          omega
        · rw [e46] at z
          exact absurd z (by decide)
      refine PP.mono (gz_loop hfu yh ⟨h43, h51, e46, h52⟩ f hB h27 fu 4 0 Fh G [] fu hs0 rfl rfl rfl (by rw [hfl, h42]; rfl) ?_ ?_ hI0) back
      · rw [Kh.1 7 rfl, h42]
        omega
      · rw [h42]
        show (0 : Int) ≤ _
        omega
  · dsimp only
    unfold mb_function_137 mb_function_140
    rw [if_pos rfl]
    exact PP.ret (fun e => absurd e (by decide))
theorem gz_function {fu : Nat} (hfu : 8589934592 ≤ fu) (f x2 x3 : Int32) (F : PF) (G : PG) (h : YH f F G) (h46 : F 46 = 1) (hs : sgn (G 4) (G 5) (F 42) 22 = true) (h27 : (G 27 f.toNatClampNeg).toInt = (flT (G 4) (G 5) fu (F 42)).length) (hk : kindsOf G f.toNatClampNeg = flT (G 4) (G 5) fu (F 42)) : PP (mf_function fu f x2 x3 F G) (FZR (FTb F G ∧ GI F G) f (flT (G 4) (G 5) fu (F 42)) F G) := by
  unfold mf_function mb_function_0 mb_function_5
  have K0 : KX [47, 48, 49, 61] [] F G (fup F 61 1) G := KX.f rfl KX.rf
  have M70 : (fup F 61 1) 47 = 0 → F 47 = 0 := id
  generalize fup F 61 1 = Fz at K0 M70
  have go : ∀ Fp : PF, KX [47, 48, 49, 61] [] F G Fp G → M7 F Fp → PP (mb_function_28 fu f x2 x3 Fp G) (FZR (FTb F G ∧ GI F G) f (flT (G 4) (G 5) fu (F 42)) F G) := by
    intro Fp Kp M
    have i42 : Fp 42 = F 42 := Kp.1 42 rfl
    have i46 : Fp 46 = 1 := (Kp.1 46 rfl).trans h46
    obtain ⟨a1, a2, a3, a4, a5, a6, a7, a8, a9, vf⟩ := h
    have tq : tT Fp G = tT F G := by unfold tT; rw [i42]
    have yq : YH f Fp G := by
      refine ⟨a1.kx Kp rfl rfl rfl rfl rfl, by rw [Kp.1 44 rfl, Kp.1 70 rfl, Kp.1 54 rfl, Kp.1 43 rfl]; exact a2, by rw [Kp.1 60 rfl]; exact a3, by rw [i42, Kp.1 7 rfl]; exact a4, by rw [Kp.1 60 rfl, tq]; exact a5, by rw [Kp.1 14 rfl, tq]; exact a6, by rw [Kp.1 24 rfl]; exact a7, by rw [Kp.1 46 rfl, Kp.1 24 rfl]; exact a8, fun z => absurd (z.symm.trans i46) (by decide), vf⟩
    unfold mb_function_28
    rw [if_neg (by rw [i46]; decide)]
    have hk' := hk
    have h27' := h27
    rw [← i42] at hk' h27' hs
    refine PP.mono (gz_97 hfu f Fp G yq i46 hs h27' hk') ?_
    intro r F1 G1 q e
    have q := FZR.kx q Kp rfl rfl rfl rfl rfl rfl rfl rfl e
    rw [i42] at q
    obtain ⟨q0, q1, q2, q3, q4⟩ := q
    exact ⟨q0, q1, q2, q3, fun z b => q4 z ⟨b.1.kx Kp rfl, b.2.kx Kp M rfl⟩⟩
  refine PP.bind (PP.and (mw_twice x2 Fz G) (mn_twice x2 Fz G)) ?_
  rintro r Fa Ga ⟨Ka, Ma⟩
  dsimp only
  have KA : KX [47, 48, 49, 61] [] F G Fa Ga := KX.tr K0 Ka rfl rfl
  have eG : Ga = G := funext (fun k => KA.2 k rfl)
  rw [eG] at KA ⊢
  have MA : M7 F Fa := fun z => M70 (Ma z)
  unfold mb_function_10
  refine PP.ite (fun _ => go Fa KA MA) (fun _ => ?_)
  unfold mb_function_16
  refine PP.ix (fun _ => PP.bind (PP.and (mp_note 11 _ (by decide) Fa G) (mm_note 11 _ (by decide) Fa G)) ?_)
  rintro r Fb Gb ⟨⟨Kb, rfl, -⟩, Mb⟩
  dsimp only
  exact go Fb (KX.tr KA Kb rfl rfl) (MA.tr Mb.1)
