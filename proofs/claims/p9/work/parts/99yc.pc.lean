/-- before a function, at its bracket -/
def YH (f : Int32) (F : PF) (G : PG) : Prop := TBL F G ∧ (F 44 = 0 ∧ F 70 = 0 ∧ F 54 = 0 ∧ F 43 = 0) ∧ 0 ≤ (F 60).toInt ∧ (0 ≤ (F 42).toInt ∧ (F 42).toInt ≤ (F 7).toInt) ∧ (F 60).toInt ≤ 2 * tT F G + 600 ∧ (0 ≤ (F 14).toInt ∧ 5 * (F 14).toInt ≤ tT F G) ∧ (0 ≤ (F 24).toInt ∧ (F 24).toInt ≤ 500) ∧ (F 46 = 0 ∨ ∀ g : Nat, (g : Int) < (F 24).toInt → 0 ≤ (G 27 g).toInt ∧ 0 ≤ (G 31 g).toInt ∧ (G 31 g).toInt + (G 27 g).toInt ≤ 900) ∧ (F 46 = 0 → 0 ≤ (F 35).toInt ∧ 5 * (F 35).toInt ≤ tT F G) ∧ vp_in f 500
/-- what a function leaves -/
def FE (f : Int32) (fl : List Nat) (Fh : PF) (Gh : PG) (F1 : PF) (G1 : PG) : Prop := FP F1 ∧ (0 ≤ (F1 42).toInt ∧ (F1 42).toInt ≤ (Fh 7).toInt) ∧ (Fh 42).toInt ≤ (F1 42).toInt ∧ (F1 60).toInt + 2 * tT Fh Gh + 6 ≤ (Fh 60).toInt + 2 * tT F1 G1 ∧ tT Fh Gh + 4 ≤ tT F1 G1 ∧ (0 ≤ (F1 14).toInt ∧ 5 * (F1 14).toInt ≤ tT F1 G1) ∧ F1 24 = Fh 24 ∧ F1 46 = Fh 46 ∧ (G1 27 f.toNatClampNeg).toInt = fl.length ∧ (∀ k : Nat, k ≠ f.toNatClampNeg → G1 27 k = Gh 27 k) ∧ G1 31 = Gh 31 ∧ (Fh 46 = 0 → (F1 35).toInt = (Fh 35).toInt + fl.length ∧ 5 * (F1 35).toInt ≤ tT F1 G1 ∧ (∀ j : Nat, j < fl.length → (G1 34 ((Fh 35).toInt.toNat + j)).toInt = (fl.getD j 0 : Nat)) ∧ ∀ j : Nat, (j : Int) < (Fh 35).toInt → G1 34 j = Gh 34 j) ∧ (¬ Fh 46 = 0 → F1 35 = Fh 35 ∧ G1 34 = Gh 34)
theorem getD_app1 {M : List Nat} {k : Nat} {j : Nat} (h : j < M.length) : (M ++ [k]).getD j 0 = M.getD j 0 := by
  rw [List.getD_eq_getElem?_getD, List.getD_eq_getElem?_getD, List.getElem?_append_left h]
theorem getD_app2 {M : List Nat} {k : Nat} : (M ++ [k]).getD M.length 0 = k := by
  rw [List.getD_eq_getElem?_getD, List.getElem?_append_right (Nat.le_refl _), Nat.sub_self]
  rfl
theorem wh_loop {fu : Nat} (hfu : 8589934592 ≤ fu) {Fh : PF} {Gh : PG} (h0 : YG Fh Gh) (hF : Fh 43 = 1 ∧ Fh 51 = 0) (f : Int32) (vf : vp_in f 500) (fl : List Nat) (h35 : Fh 46 = 0 → 0 ≤ (Fh 35).toInt) (hrec : Fh 46 = 0 ∨ (Gh 27 f.toNatClampNeg).toInt = fl.length) : ∀ (m : Nat) (x4 x5 : Int32) (F : PF) (G : PG) (M : List Nat) (n : Nat), HS Fh Gh 0 F G → x5.toInt = M.length → fl = M ++ fkT (Gh 4) (Gh 5) n (F 42) → ((Fh 7).toInt - (F 42).toInt).toNat < n → M.length ≤ (F 42).toInt → (Fh 46 = 0 → (F 35).toInt = (Fh 35).toInt + M.length ∧ (∀ j : Nat, j < M.length → (G 34 ((Fh 35).toInt.toNat + j)).toInt = (M.getD j 0 : Nat)) ∧ ∀ j : Nat, (j : Int) < (Fh 35).toInt → G 34 j = Gh 34 j) → (¬ Fh 46 = 0 → F 35 = Fh 35 ∧ G 34 = Gh 34) → ((Fh 7).toInt - (F 42).toInt).toNat + 1 < m → WP (ml_function_177 fu m f x4 x5 1 F G) (fun r F1 G1 => (r = 1 ∧ FD f fl Fh Gh F1 G1) ∨ (r = 0 ∧ 0 < (F1 44).toInt)) := by
  intro m
  induction m with
  | zero => intro x4 x5 F G M n _ _ _ _ _ _ _ q; exact absurd q (Nat.not_lt_zero _)
  | succ m ih =>
    intro x4 x5 F G M n q l5 hM hn lM r0 r1 hm
    have ht := q.t h0
    have yg := q.yg h0
    show WP (mb_function_177 fu (ml_function_177 fu m) f x4 x5 1 F G) _
    unfold mb_function_177
    rw [if_neg (by decide)]
    unfold mb_function_182
    rw [if_pos yg.1.2.1]
    unfold mb_function_189
    obtain ⟨K, hg, h42, h43, hD, hf⟩ := q
    have f7 : (Fh 7).toInt ≤ 4000 := by have := h0.2.1.2.1; have := h0.2.1.2.2.2.1; omega
    obtain ⟨n, rfl⟩ : ∃ k, n = k + 1 := ⟨n - 1, by omega⟩
    have g4 : G 4 = Gh 4 := K.2 4 rfl
    have g5 : G 5 = Gh 5 := K.2 5 rfl
    have e46 : F 46 = Fh 46 := K.1 46 rfl
    refine WP.bind (WP.pp (wz_formalHere hfu x5 F G yg) (mw_formalHere x5 F G)) ?_
    rintro kd F2 G2 ⟨K2, (⟨z44, q2, ek, e42, et⟩ | ⟨z44, -⟩)⟩
    · dsimp only
      unfold mb_function_195
      rw [if_pos (show F2 44 ≤ 0 by rw [z44]; decide)]
      rw [g4, g5] at ek e42
      have b2 := q2.2.2.1
      have mo2 := q2.2.2.2.2.2.1.2
      have d2 := q2.2.2.2.2.2.2
      have k7 : F 7 = Fh 7 := K.1 7 rfl
      rw [k7] at b2
      -- the kinds so far
      have hM2 : fl = (M ++ [fkK (Gh 4) (Gh 5) (F 42)]) ++ (if sgn (Gh 4) (Gh 5) (F2 42) 28 then fkT (Gh 4) (Gh 5) n (F2 42 + 1) else []) := by
        rw [hM, e42, List.append_assoc]
        rfl
      have e5 : (x5 + 1).toInt = (M ++ [fkK (Gh 4) (Gh 5) (F 42)]).length := by
        rw [List.length_append]
        show (x5 + 1).toInt = ((M.length + 1 : Nat) : Int)
        have := i_addn x5 (n := 1) (m := 1) rfl (by omega) (by omega)
        omega
      have len2 : (M ++ [fkK (Gh 4) (Gh 5) (F 42)]).length = M.length + 1 := by rw [List.length_append]; rfl
      -- a sign behind it, or none
      have sg : ∀ (x4 : Int32) (F3 : PF) (G3 : PG), HS Fh Gh 1 F3 G3 → F3 42 = F2 42 → tT F G + 4 ≤ tT F3 G3 → (Fh 46 = 0 → (F3 35).toInt = (Fh 35).toInt + (M ++ [fkK (Gh 4) (Gh 5) (F 42)]).length ∧ (∀ j : Nat, j < (M ++ [fkK (Gh 4) (Gh 5) (F 42)]).length → (G3 34 ((Fh 35).toInt.toNat + j)).toInt = ((M ++ [fkK (Gh 4) (Gh 5) (F 42)]).getD j 0 : Nat)) ∧ ∀ j : Nat, (j : Int) < (Fh 35).toInt → G3 34 j = Gh 34 j) → (¬ Fh 46 = 0 → F3 35 = Fh 35 ∧ G3 34 = Gh 34) → WP (mf_isSign fu 28 F3 G3) (fun z F4 G4 => F3 = F4 ∧ G3 = G4 ∧ WP (mb_function_258 fu (ml_function_177 fu m) f x4 (x5 + 1) z F4 G4) (fun r F1 G1 => (r = 1 ∧ FD f fl Fh Gh F1 G1) ∨ (r = 0 ∧ 0 < (F1 44).toInt))) := by
        intro x4 F3 G3 q3 e3 et3 s0 s1
        have ht3 := q3.t h0
        refine WP.mono (ws_isSign 28 ht3.2.2.1) ?_
        rintro z F4 G4 ⟨rfl, rfl, hz⟩
        refine ⟨rfl, rfl, ?_⟩
        have h4 : G3 4 = Gh 4 := q3.1.2 4 rfl
        have h5 : G3 5 = Gh 5 := q3.1.2 5 rfl
        rw [h4, h5, e3] at hz
        rcases hz with ⟨rfl, s⟩ | ⟨rfl, s⟩
        · unfold mb_function_258
          rw [if_neg (by decide)]
          unfold mb_function_270 mb_function_275 mb_function_279
          rw [if_pos s] at hM2
          obtain ⟨K3, g3, t3, c3, D3, f3⟩ := q3
          have j7 : F3 7 = Fh 7 := K3.1 7 rfl
          have kn : ¬ G3 4 (F3 42).toNatClampNeg = 0 := by rw [h4, e3]; exact k_ne (sgn_k s).1 (by decide)
          obtain ⟨w1, w2, w3⟩ := ht3.1.adv t3.1.1 (by rw [j7]; exact t3.1.2) kn
          rw [j7] at w2
          have lp := lnT.pos (G3 4 (F3 42).toNatClampNeg) (G3 5 (F3 42).toNatClampNeg)
          have t4 : tT (fup F3 42 (F3 42 + 1)) G3 = (G3 6 (F3 42 + 1).toNatClampNeg).toInt := rfl
          have t3e : tT F3 G3 = (G3 6 (F3 42).toNatClampNeg).toInt := rfl
          have q4 : HS Fh Gh 0 (fup F3 42 (F3 42 + 1)) G3 := ⟨KX.f rfl K3, g3, ⟨⟨by show 0 ≤ (F3 42 + 1).toInt; omega, by show (F3 42 + 1).toInt ≤ _; omega⟩, by show _ ≤ (F3 42 + 1).toInt; omega⟩, c3, ⟨D3.1, by rw [t4]; show 5 * (F3 14).toInt ≤ _; omega⟩, fun z => ⟨(f3 z).1, by rw [t4]; show 5 * (F3 35).toInt ≤ _; have := (f3 z).2; omega⟩⟩
          have w42 : (F3 42 + 1).toInt = (F2 42).toInt + 1 := by rw [w1, e3]
          rw [e3] at w1 w2 q4 ⊢
          refine ih x4 (x5 + 1) (fup F3 42 (F2 42 + 1)) G3 (M ++ [fkK (Gh 4) (Gh 5) (F 42)]) n q4 e5 hM2 ?_ ?_ s0 s1 ?_
          · show ((Fh 7).toInt - (F2 42 + 1).toInt).toNat < n
            omega
          · show ((M ++ [fkK (Gh 4) (Gh 5) (F 42)]).length : Int) ≤ (F2 42 + 1).toInt
            omega
          · show ((Fh 7).toInt - (F2 42 + 1).toInt).toNat + 1 < m
            omega
        · unfold mb_function_258
          rw [if_pos rfl]
          unfold mb_function_274 mb_function_275 mb_function_279
          rw [if_neg (by rw [s]; decide), List.append_nil] at hM2
          obtain ⟨m, rfl⟩ : ∃ k, m = k + 1 := ⟨m - 1, by omega⟩
          have e0' : F3 42 + 0 = F3 42 := by
            refine i_eq.mpr ?_
            have := q3.2.2.1.1
            exact (i_addn (F3 42) (n := 0) (m := 0) rfl (by omega) (by omega)).trans (by omega)
          have q4 : HS Fh Gh 1 (fup F3 42 (F3 42 + 0)) G3 := by
            rw [e0']
            obtain ⟨K3, g3, t3, c3, D3, f3⟩ := q3
            exact ⟨KX.f rfl K3, g3, t3, c3, D3, f3⟩
          show WP (mb_function_177 fu (ml_function_177 fu m) f x4 (x5 + 1) 0 (fup F3 42 (F3 42 + 0)) G3) _
          unfold mb_function_177
          rw [if_pos rfl]
          refine wh_282 hfu h0 hF f x4 (x5 + 1) vf fl _ _ q4 (by rw [hM2]; exact e5) ?_ ?_ s1
          · rcases hrec with z | z
            · exact Or.inl z
            · exact Or.inr (i_eq.mpr (by rw [z, hM2]; exact e5.symm))
          · intro z
            rw [hM2]
            exact s0 z
      have KA : KX [14, 35, 42, 43, 44, 45, 47, 48, 49, 53] [16, 17, 18, 19, 20, 21, 22, 23, 34] Fh Gh F2 G2 := KX.tr K K2 rfl rfl
      have f35 : F2 35 = F 35 := K2.1 35 rfl
      have g34 : G2 34 = G 34 := K2.2 34 rfl
      have e43 : F2 43 = Fh 43 := by
        refine i_eq.mpr ?_
        rw [q2.2.2.2.1, h43]
        omega
      -- both passes meet here
      have mt : ∀ (F3 : PF) (G3 : PG), HS Fh Gh 1 F3 G3 → F3 42 = F2 42 → tT F G + 4 ≤ tT F3 G3 → (Fh 46 = 0 → (F3 35).toInt = (Fh 35).toInt + (M ++ [fkK (Gh 4) (Gh 5) (F 42)]).length ∧ (∀ j : Nat, j < (M ++ [fkK (Gh 4) (Gh 5) (F 42)]).length → (G3 34 ((Fh 35).toInt.toNat + j)).toInt = ((M ++ [fkK (Gh 4) (Gh 5) (F 42)]).getD j 0 : Nat)) ∧ ∀ j : Nat, (j : Int) < (Fh 35).toInt → G3 34 j = Gh 34 j) → (¬ Fh 46 = 0 → F3 35 = Fh 35 ∧ G3 34 = Gh 34) → WP (mb_function_234 fu (ml_function_177 fu m) f x4 x5 kd F3 G3) (fun r F1 G1 => (r = 1 ∧ FD f fl Fh Gh F1 G1) ∨ (r = 0 ∧ 0 < (F1 44).toInt)) := by
        intro F3 G3 q3 e3 et3 s0 s1
        have go : ∀ z0 : Int32, WP (mb_function_246 fu (ml_function_177 fu m) f x5 z0 x4 F3 G3) (fun r F1 G1 => (r = 1 ∧ FD f fl Fh Gh F1 G1) ∨ (r = 0 ∧ 0 < (F1 44).toInt)) := by
          intro z0
          unfold mb_function_246
          refine WP.bind (sg (x4 + z0) F3 G3 q3 e3 et3 s0 s1) ?_
          rintro z F4 G4 ⟨rfl, rfl, hz⟩
          exact hz
        unfold mb_function_234 mb_function_241 mb_function_245
        exact WP.ite (fun _ => go _) (fun _ => go _)
      unfold mb_function_206
      rw [K2.1 46 rfl, e46]
      refine WP.ite (fun c => ?_) (fun c => ?_)
      · obtain ⟨y1, y2, y3⟩ := r0 c
        have hf := hf c
        unfold mb_function_213
        rw [f35]
        refine WP.ix (vp_in_iff.mpr ⟨hf.1, by omega⟩) ?_
        unfold mb_function_224
        rw [f35]
        have i35 : (F 35 + 1).toInt = (F 35).toInt + 1 := i_addn _ rfl (by omega) (by omega)
        have t3 : tT (fup F2 35 (F 35 + 1)) (gup G2 34 (F 35).toNatClampNeg kd) = tT F2 G2 := rfl
        have ix : (F 35).toNatClampNeg = (Fh 35).toInt.toNat + M.length := by
          show (F 35).toInt.toNat = _
          have := h35 c
          omega
        refine mt _ _ ⟨KX.f rfl (KX.g rfl KA), q2.2.1, ⟨b2, by show _ ≤ (F2 42).toInt; omega⟩, e43, ⟨d2.1, by rw [t3]; exact d2.2⟩, fun _ => ⟨by show 0 ≤ (F 35 + 1).toInt; omega, by rw [t3]; show 5 * (F 35 + 1).toInt ≤ _; omega⟩⟩ rfl et (fun _ => ⟨?_, fun j hj => ?_, fun j hj => ?_⟩) (fun z => absurd c z)
        · show (F 35 + 1).toInt = _
          omega
        · show (gup G2 34 (F 35).toNatClampNeg kd 34 ((Fh 35).toInt.toNat + j)).toInt = _
          by_cases cj : j = M.length
          · rw [cj, ← ix, gup_i, ek, getD_app2]
          · rw [gup_x (by rw [ix]; omega), g34, getD_app1 (by omega)]
            exact y2 j (by omega)
        · show gup G2 34 (F 35).toNatClampNeg kd 34 j = _
          rw [gup_x (by rw [ix]; omega), g34]
          exact y3 j hj
      · obtain ⟨y1, y2⟩ := r1 c
        refine mt F2 G2 ⟨KA, q2.2.1, ⟨b2, by omega⟩, e43, d2, fun z => absurd z c⟩ rfl et (fun z => absurd z c) (fun _ => ⟨f35.trans y1, g34.trans y2⟩)
    · dsimp only
      unfold mb_function_195
      refine WP.ite (fun c => ?_) (fun _ => ?_)
      · have := i_le.mp c
        have : (0 : Int32).toInt = 0 := rfl
        omega
      · unfold mb_function_204
        exact WP.ret (Or.inr ⟨rfl, z44⟩)
theorem wh_97 {fu : Nat} (hfu : 8589934592 ≤ fu) (f : Int32) (F : PF) (G : PG) (h : YH f F G) (hs : sgn (G 4) (G 5) (F 42) 22 = true) (hrec : F 46 = 0 ∨ (G 27 f.toNatClampNeg).toInt = (flT (G 4) (G 5) fu (F 42)).length) : WP (mb_function_97 fu f F G) (fun r F1 G1 => (r = 1 ∧ FE f (flT (G 4) (G 5) fu (F 42)) F G F1 G1) ∨ (r = 0 ∧ 0 < (F1 44).toInt)) := by
  obtain ⟨a1, ⟨b1, b2, b3, b4⟩, a3, a4, a5, a6, a7, a8, a9, vf⟩ := h
  unfold mb_function_97 mb_function_102 mb_function_107 mb_function_112 mb_function_117 mb_function_122 mb_function_127
  have Ka : KX [50, 51, 52, 53, 63, 64] [] F G (fup (fup (fup (fup (fup (fup F 50 f) 63 (-1)) 64 (-1)) 52 0) 53 0) 51 0) G := KX.f rfl (KX.f rfl (KX.f rfl (KX.f rfl (KX.f rfl (KX.f rfl KX.rf)))))
  have c50 : (fup (fup (fup (fup (fup (fup F 50 f) 63 (-1)) 64 (-1)) 52 0) 53 0) 51 0) 50 = f := rfl
  have c51 : (fup (fup (fup (fup (fup (fup F 50 f) 63 (-1)) 64 (-1)) 52 0) 53 0) 51 0) 51 = 0 := rfl
  generalize fup (fup (fup (fup (fup (fup F 50 f) 63 (-1)) 64 (-1)) 52 0) 53 0) 51 0 = Fa at Ka c50 c51
  refine WP.bind (wa_begins.of (mw_begins Fa G)) ?_
  intro r Fb Gb Kb
  dsimp only
  have KB : KX [15, 50, 51, 52, 53, 63, 64] [] F G Fb Gb := KX.tr (KX.tr KX.rf Ka rfl rfl) Kb rfl rfl
  have eG : Gb = G := funext (fun k => KB.2 k rfl)
  have f50 : Fb 50 = f := (Kb.1 50 rfl).trans c50
  have f51 : Fb 51 = 0 := (Kb.1 51 rfl).trans c51
  rw [eG] at KB ⊢
  have e42 : Fb 42 = F 42 := KB.1 42 rfl
  have f7 : (F 7).toInt ≤ 4000 := by have := a1.2.1; have := a1.2.2.2.1; omega
  have vb : vp_in (Fb 42) 4002 := by rw [e42]; exact vp_in_iff.mpr ⟨a4.1, by omega⟩
  have z43 : Fb 43 = 0 := (KB.1 43 rfl).trans b4
  unfold mb_function_131
  refine WP.bind (ws_openSign 22 vb) ?_
  rintro r Fh Gh (⟨rfl, rfl, rfl, s, u, -⟩ | ⟨rfl, u, -⟩)
  · dsimp only
    unfold mb_function_137
    rw [if_neg (by decide)]
    obtain ⟨w1, w2, w3⟩ := a1.adv a4.1 a4.2 (k_ne (sgn_k hs).1 (by decide))
    have lp := lnT.pos (G 4 (F 42).toNatClampNeg) (G 5 (F 42).toNatClampNeg)
    have Kh : KX [15, 42, 43, 50, 51, 52, 53, 63, 64] [] F G (fup (fup Fb 43 (Fb 43 + 1)) 42 (Fb 42 + 1)) G := KX.f rfl (KX.f rfl (KX.tr KX.rf KB rfl rfl))
    have h42 : (fup (fup Fb 43 (Fb 43 + 1)) 42 (Fb 42 + 1)) 42 = F 42 + 1 := by show Fb 42 + 1 = _; rw [e42]
    have h43 : (fup (fup Fb 43 (Fb 43 + 1)) 42 (Fb 42 + 1)) 43 = 1 := by show Fb 43 + 1 = 1; rw [z43]; decide
    have h50 : (fup (fup Fb 43 (Fb 43 + 1)) 42 (Fb 42 + 1)) 50 = f := f50
    have h51 : (fup (fup Fb 43 (Fb 43 + 1)) 42 (Fb 42 + 1)) 51 = 0 := f51
    generalize fup (fup Fb 43 (Fb 43 + 1)) 42 (Fb 42 + 1) = Fh at Kh h42 h43 h50 h51
    have th : tT Fh G = (G 6 (F 42 + 1).toNatClampNeg).toInt := by unfold tT; rw [h42]
    have tF : tT F G = (G 6 (F 42).toNatClampNeg).toInt := rfl
    have gp : GP Fh := by
      refine ⟨by rw [Kh.1 60 rfl]; exact a3, by rw [Kh.1 44 rfl]; exact b1, by rw [Kh.1 70 rfl]; exact b2, by rw [Kh.1 54 rfl]; exact b3, by rw [h43]; decide, by rw [h43]; decide, by rw [h51]; decide, by rw [h51, h43]; decide⟩
    have yh : ∀ Gx : PG, KX [] [32] Fh G Fh Gx → YG Fh Gx := by
      intro Gx Kx
      refine ⟨gp, (a1.kx Kh rfl rfl rfl rfl rfl).kx Kx rfl rfl rfl rfl rfl, ⟨by rw [h42]; omega, by rw [h42, Kh.1 7 rfl]; omega⟩, ?_, ?_, by rw [Kh.1 24 rfl]; exact a7, ?_, by rw [h50]; exact vf⟩
      · have : tT Fh Gx = tT Fh G := by unfold tT; rw [Kx.2 6 rfl]
        rw [Kh.1 60 rfl, this, th]
        omega
      · have : tT Fh Gx = tT Fh G := by unfold tT; rw [Kx.2 6 rfl]
        rw [Kh.1 14 rfl, this, th]
        omega
      · rw [Kh.1 46 rfl, Kh.1 24 rfl, Kx.2 27 rfl, Kx.2 31 rfl]
        exact a8
    have conv : ∀ (Gx : PG) (r : Int32) (F1 : PF) (G1 : PG), KX [] [32] Fh G Fh Gx → (r = 1 ∧ FD f (flT (G 4) (G 5) fu (F 42)) Fh Gx F1 G1) ∨ (r = 0 ∧ 0 < (F1 44).toInt) → (r = 1 ∧ FE f (flT (G 4) (G 5) fu (F 42)) F G F1 G1) ∨ (r = 0 ∧ 0 < (F1 44).toInt) := by
      intro Gx r F1 G1 Kx hq
      rcases hq with ⟨e, d1, d2, d3, d4, d5, d6, d7, d8, d9, d10, d11, d12, d13⟩ | hq
      · have tx : tT Fh Gx = tT Fh G := by unfold tT; rw [Kx.2 6 rfl]
        rw [tx, th] at d4 d5
        rw [Kh.1 7 rfl] at d2
        rw [h42] at d3
        rw [Kh.1 60 rfl] at d4
        rw [Kh.1 46 rfl] at d12 d13
        rw [Kh.1 35 rfl, Kx.2 34 rfl] at d12 d13
        rw [Kx.2 27 rfl] at d10
        rw [Kx.2 31 rfl] at d11
        exact Or.inl ⟨e, d1, d2, by omega, by omega, by omega, d6, d7.trans (Kh.1 24 rfl), d8.trans (Kh.1 46 rfl), d9, d10, d11, d12, d13⟩
      · exact Or.inr hq
    have v42 : vp_in (Fh 42) 4002 := by rw [h42]; exact vp_in_iff.mpr ⟨by omega, by omega⟩
    have hs0 : ∀ Gx : PG, KX [] [32] Fh G Fh Gx → HS Fh Gx 0 Fh Gx := by
      intro Gx Kx
      have y := yh Gx Kx
      refine ⟨KX.rf, gp, ⟨y.2.2.1, Int.le_refl _⟩, rfl, ?_, fun z => ?_⟩
      · have := y.2.2.2.2.1
        omega
      · have := a9 ((Kh.1 46 rfl).symm.trans z)
        have tx : tT Fh Gx = tT Fh G := by unfold tT; rw [Kx.2 6 rfl]
        rw [Kh.1 35 rfl, tx, th]
        omega
    have Kr : KX [] [32] Fh G Fh G := KX.rf
    unfold mb_function_142
    refine WP.bind (ws_isSign 23 v42) ?_
    rintro z _ _ ⟨rfl, rfl, hz⟩
    dsimp only
    rw [h42] at hz
    unfold mb_function_154
    rcases hz with ⟨rfl, s23⟩ | ⟨rfl, s23⟩
    · rw [if_neg (by decide)]
      have hfl : flT (G 4) (G 5) fu (F 42) = [] := by unfold flT; rw [if_pos s23]
      refine WP.mono (wh_282 hfu (yh G Kr) ⟨h43, h51⟩ f 4 0 vf (flT (G 4) (G 5) fu (F 42)) Fh G ?_ (by rw [hfl]; rfl) ?_ (fun z => ⟨by rw [hfl]; show _ = _ + (0 : Int); omega, fun j hj => by rw [hfl] at hj; exact absurd hj (Nat.not_lt_zero _), fun _ _ => rfl⟩) (fun _ => ⟨rfl, rfl⟩)) (fun r F1 G1 q => conv G r F1 G1 Kr q)
      · obtain ⟨k1, k2, k3, k4, k5, k6⟩ := hs0 G Kr
        exact ⟨k1, k2, k3, k4, ⟨k5.1, by omega⟩, fun z => ⟨(k6 z).1, by have := (k6 z).2; omega⟩⟩
      · rcases hrec with z | z
        · exact Or.inl ((Kh.1 46 rfl).trans z)
        · refine Or.inr (i_eq.mpr ?_)
          rw [z, hfl]
          rfl
    · rw [if_pos rfl]
      have hfl : flT (G 4) (G 5) fu (F 42) = fkT (G 4) (G 5) fu (F 42 + 1) := by unfold flT; rw [if_neg (by rw [s23]; decide)]
      have run : ∀ Gx : PG, KX [] [32] Fh G Fh Gx → WP (mb_function_174 fu f 4 0 Fh Gx) (fun r F1 G1 => (r = 1 ∧ FE f (flT (G 4) (G 5) fu (F 42)) F G F1 G1) ∨ (r = 0 ∧ 0 < (F1 44).toInt)) := by
        intro Gx Kx
        unfold mb_function_174
        refine WP.mono (wh_loop hfu (yh Gx Kx) ⟨h43, h51⟩ f vf (flT (G 4) (G 5) fu (F 42)) (fun z => ?_) ?_ fu 4 0 Fh Gx [] fu (hs0 Gx Kx) rfl ?_ ?_ ?_ (fun z => ⟨by show _ = _ + (0 : Int); omega, fun j hj => absurd hj (Nat.not_lt_zero _), fun _ _ => rfl⟩) (fun _ => ⟨rfl, rfl⟩) ?_) (fun r F1 G1 q => conv Gx r F1 G1 Kx q)
        · rw [Kh.1 35 rfl]
          exact (a9 ((Kh.1 46 rfl).symm.trans z)).1
        · rcases hrec with z | z
          · exact Or.inl ((Kh.1 46 rfl).trans z)
          · refine Or.inr ?_
            rw [Kx.2 27 rfl]
            exact z
        · rw [hfl, Kx.2 4 rfl, Kx.2 5 rfl, h42]
          rfl
        · rw [Kh.1 7 rfl, h42]
          omega
        · rw [h42]
          show (0 : Int) ≤ _
          omega
        · rw [Kh.1 7 rfl, h42]
          omega
      unfold mb_function_157 mb_function_164
      refine WP.ite (fun _ => WP.ix vf (run _ (KX.g rfl KX.rf))) (fun _ => run G Kr)
  · dsimp only
    unfold mb_function_137 mb_function_140
    rw [if_pos rfl]
    exact WP.ret (Or.inr ⟨rfl, u.1⟩)
/-- behind a function, whatever the pass -/
theorem wz_function {fu : Nat} (hfu : 8589934592 ≤ fu) (f x2 x3 : Int32) (F : PF) (G : PG) (h : YH f F G) (v2 : vp_in x2 4002) (hs : sgn (G 4) (G 5) (F 42) 22 = true) (hrec : F 46 = 0 ∨ (G 27 f.toNatClampNeg).toInt = (flT (G 4) (G 5) fu (F 42)).length) : WP (mf_function fu f x2 x3 F G) (fun r F1 G1 => (r = 1 ∧ FP F1 ∧ (0 ≤ (F1 42).toInt ∧ (F1 42).toInt ≤ (F 7).toInt) ∧ (F 42).toInt ≤ (F1 42).toInt ∧ (F1 60).toInt + 2 * tT F G + 6 ≤ (F 60).toInt + 2 * tT F1 G1 ∧ tT F G + 4 ≤ tT F1 G1 ∧ (0 ≤ (F1 14).toInt ∧ 5 * (F1 14).toInt ≤ tT F1 G1) ∧ F1 46 = F 46 ∧ (G1 27 f.toNatClampNeg).toInt = (flT (G 4) (G 5) fu (F 42)).length ∧ (∀ k : Nat, k ≠ f.toNatClampNeg → G1 27 k = G 27 k ∧ G1 31 k = G 31 k) ∧ (F 46 = 0 → F1 24 = f + 1 ∧ G1 31 f.toNatClampNeg = F 35 ∧ (F1 35).toInt = (F 35).toInt + (flT (G 4) (G 5) fu (F 42)).length ∧ 5 * (F1 35).toInt ≤ tT F1 G1 ∧ (∀ j : Nat, j < (flT (G 4) (G 5) fu (F 42)).length → (G1 34 ((F 35).toInt.toNat + j)).toInt = ((flT (G 4) (G 5) fu (F 42)).getD j 0 : Nat)) ∧ ∀ j : Nat, (j : Int) < (F 35).toInt → G1 34 j = G 34 j) ∧ (¬ F 46 = 0 → F1 24 = F 24 ∧ F1 35 = F 35 ∧ G1 34 = G 34 ∧ G1 31 = G 31)) ∨ (r = 0 ∧ 0 < (F1 44).toInt)) := by
  obtain ⟨a1, a2, a3, a4, a5, a6, a7, a8, a9, vf⟩ := id h
  unfold mf_function mb_function_0
  have K0 : KX [61] [] F G (fup F 61 1) G := KX.f rfl KX.rf
  generalize fup F 61 1 = Fz at K0
  unfold mb_function_5
  have g0 : (tT F G : Int) ≤ 4000 := (a1.rng a4.1 a4.2).2
  refine WP.bind (ws_twice hfu x2 v2 (by rw [K0.1 14 rfl]; exact ⟨a6.1, by omega⟩) (by rw [K0.1 24 rfl]; exact a7)) ?_
  intro r Fa Ga Ka
  dsimp only
  have KA : KX [47, 48, 49, 61] [] F G Fa Ga := KX.tr (KX.tr KX.rf K0 rfl rfl) Ka rfl rfl
  have eG : Ga = G := funext (fun k => KA.2 k rfl)
  rw [eG] at KA ⊢
  -- both ways to the writes
  have go : ∀ Fp : PF, KX [47, 48, 49, 61] [] F G Fp G → WP (mb_function_28 fu f x2 x3 Fp G) (fun r F1 G1 => (r = 1 ∧ FP F1 ∧ (0 ≤ (F1 42).toInt ∧ (F1 42).toInt ≤ (F 7).toInt) ∧ (F 42).toInt ≤ (F1 42).toInt ∧ (F1 60).toInt + 2 * tT F G + 6 ≤ (F 60).toInt + 2 * tT F1 G1 ∧ tT F G + 4 ≤ tT F1 G1 ∧ (0 ≤ (F1 14).toInt ∧ 5 * (F1 14).toInt ≤ tT F1 G1) ∧ F1 46 = F 46 ∧ (G1 27 f.toNatClampNeg).toInt = (flT (G 4) (G 5) fu (F 42)).length ∧ (∀ k : Nat, k ≠ f.toNatClampNeg → G1 27 k = G 27 k ∧ G1 31 k = G 31 k) ∧ (F 46 = 0 → F1 24 = f + 1 ∧ G1 31 f.toNatClampNeg = F 35 ∧ (F1 35).toInt = (F 35).toInt + (flT (G 4) (G 5) fu (F 42)).length ∧ 5 * (F1 35).toInt ≤ tT F1 G1 ∧ (∀ j : Nat, j < (flT (G 4) (G 5) fu (F 42)).length → (G1 34 ((F 35).toInt.toNat + j)).toInt = ((flT (G 4) (G 5) fu (F 42)).getD j 0 : Nat)) ∧ ∀ j : Nat, (j : Int) < (F 35).toInt → G1 34 j = G 34 j) ∧ (¬ F 46 = 0 → F1 24 = F 24 ∧ F1 35 = F 35 ∧ G1 34 = G 34 ∧ G1 31 = G 31)) ∨ (r = 0 ∧ 0 < (F1 44).toInt)) := by
    intro Fp Kp
    have i42 : Fp 42 = F 42 := Kp.1 42 rfl
    have i7 : Fp 7 = F 7 := Kp.1 7 rfl
    have i46 : Fp 46 = F 46 := Kp.1 46 rfl
    unfold mb_function_28
    rw [i46]
    refine WP.ite (fun c => ?_) (fun c => ?_)
    · obtain ⟨vf0, vf1⟩ := vp_in_iff.mp vf
      unfold mb_function_35
      refine WP.ix v2 (WP.ix vf ?_)
      unfold mb_function_47
      refine WP.ix v2 (WP.ix vf ?_)
      unfold mb_function_59
      refine WP.ix vf ?_
      unfold mb_function_66
      refine WP.ix vf ?_
      unfold mb_function_76
      refine WP.ix vf ?_
      unfold mb_function_83
      refine WP.ix vf ?_
      unfold mb_function_90
      have i35 : Fp 35 = F 35 := Kp.1 35 rfl
      rw [i35]
      have KQ : KX [24, 47, 48, 49, 61] [25, 26, 27, 31, 32, 33] F G (fup Fp 24 (f + 1)) (gup (gup (gup (gup (gup (gup G 25 f.toNatClampNeg (G 5 x2.toNatClampNeg)) 26 f.toNatClampNeg (gup G 25 f.toNatClampNeg (G 5 x2.toNatClampNeg) 6 x2.toNatClampNeg)) 33 f.toNatClampNeg (vp_nar .boolean x3)) 31 f.toNatClampNeg (F 35)) 27 f.toNatClampNeg 0) 32 f.toNatClampNeg (-1)) := KX.f rfl (KX.g rfl (KX.g rfl (KX.g rfl (KX.g rfl (KX.g rfl (KX.g rfl (KX.tr KX.rf Kp rfl rfl)))))))
      have q31 : gup (gup (gup (gup (gup (gup G 25 f.toNatClampNeg (G 5 x2.toNatClampNeg)) 26 f.toNatClampNeg (gup G 25 f.toNatClampNeg (G 5 x2.toNatClampNeg) 6 x2.toNatClampNeg)) 33 f.toNatClampNeg (vp_nar .boolean x3)) 31 f.toNatClampNeg (F 35)) 27 f.toNatClampNeg 0) 32 f.toNatClampNeg (-1) 31 = upd (G 31) f.toNatClampNeg (F 35) := rfl
      have q27 : gup (gup (gup (gup (gup (gup G 25 f.toNatClampNeg (G 5 x2.toNatClampNeg)) 26 f.toNatClampNeg (gup G 25 f.toNatClampNeg (G 5 x2.toNatClampNeg) 6 x2.toNatClampNeg)) 33 f.toNatClampNeg (vp_nar .boolean x3)) 31 f.toNatClampNeg (F 35)) 27 f.toNatClampNeg 0) 32 f.toNatClampNeg (-1) 27 = upd (G 27) f.toNatClampNeg 0 := rfl
      have q24 : (fup Fp 24 (f + 1)) 24 = f + 1 := rfl
      show WP (mb_function_97 fu f (fup Fp 24 (f + 1)) (gup (gup (gup (gup (gup (gup G 25 f.toNatClampNeg (G 5 x2.toNatClampNeg)) 26 f.toNatClampNeg (gup G 25 f.toNatClampNeg (G 5 x2.toNatClampNeg) 6 x2.toNatClampNeg)) 33 f.toNatClampNeg (vp_nar .boolean x3)) 31 f.toNatClampNeg (F 35)) 27 f.toNatClampNeg 0) 32 f.toNatClampNeg (-1))) _
      generalize gup (gup (gup (gup (gup (gup G 25 f.toNatClampNeg (G 5 x2.toNatClampNeg)) 26 f.toNatClampNeg (gup G 25 f.toNatClampNeg (G 5 x2.toNatClampNeg) 6 x2.toNatClampNeg)) 33 f.toNatClampNeg (vp_nar .boolean x3)) 31 f.toNatClampNeg (F 35)) 27 f.toNatClampNeg 0) 32 f.toNatClampNeg (-1) = Gq at KQ q31 q27
      generalize fup Fp 24 (f + 1) = Fq at KQ q24
      have tq : tT Fq Gq = tT F G := by unfold tT; rw [KQ.1 42 rfl, KQ.2 6 rfl]
      have e24 : (f + 1).toInt = f.toInt + 1 := i_addn _ rfl (by omega) (by omega)
      have yq : YH f Fq Gq := by
        refine ⟨a1.kx KQ rfl rfl rfl rfl rfl, by rw [KQ.1 44 rfl, KQ.1 70 rfl, KQ.1 54 rfl, KQ.1 43 rfl]; exact a2, by rw [KQ.1 60 rfl]; exact a3, by rw [KQ.1 42 rfl, KQ.1 7 rfl]; exact a4, by rw [KQ.1 60 rfl, tq]; exact a5, by rw [KQ.1 14 rfl, tq]; exact a6, by rw [q24]; omega, Or.inl ((KQ.1 46 rfl).trans c), fun _ => by rw [KQ.1 35 rfl, tq]; exact a9 c, vf⟩
      refine WP.mono (wh_97 hfu f Fq Gq yq (by rw [KQ.2 4 rfl, KQ.2 5 rfl, KQ.1 42 rfl]; exact hs) (Or.inl ((KQ.1 46 rfl).trans c))) ?_
      rw [KQ.2 4 rfl, KQ.2 5 rfl, KQ.1 42 rfl]
      rintro r F1 G1 (⟨rfl, d1, d2, d3, d4, d5, d6, d7, d8, d9, d10, d11, d12, d13⟩ | hq)
      · rw [tq] at d4 d5
        rw [KQ.1 7 rfl] at d2
        rw [KQ.1 42 rfl] at d3
        rw [KQ.1 60 rfl] at d4
        have d12 := d12 ((KQ.1 46 rfl).trans c)
        rw [KQ.1 35 rfl, KQ.2 34 rfl] at d12
        refine Or.inl ⟨rfl, d1, d2, d3, d4, d5, d6, d8.trans (KQ.1 46 rfl), d9, fun k hk => ⟨?_, ?_⟩, fun _ => ⟨d7.trans q24, ?_, d12.1, d12.2.1, d12.2.2.1, d12.2.2.2⟩, fun z => absurd c z⟩
        · rw [d10 k hk, q27]
          exact if_neg hk
        · rw [d11, q31]
          exact if_neg hk
        · rw [d11, q31]
          exact if_pos rfl
      · exact Or.inr hq
    · have tq : tT Fp G = tT F G := by unfold tT; rw [i42]
      have yq : YH f Fp G := by
        refine ⟨a1.kx Kp rfl rfl rfl rfl rfl, by rw [Kp.1 44 rfl, Kp.1 70 rfl, Kp.1 54 rfl, Kp.1 43 rfl]; exact a2, by rw [Kp.1 60 rfl]; exact a3, by rw [i42, i7]; exact a4, by rw [Kp.1 60 rfl, tq]; exact a5, by rw [Kp.1 14 rfl, tq]; exact a6, by rw [Kp.1 24 rfl]; exact a7, by rw [i46, Kp.1 24 rfl]; exact a8, fun z => absurd (i46.symm.trans z) c, vf⟩
      refine WP.mono (wh_97 hfu f Fp G yq (by rw [i42]; exact hs) (by rw [i46, i42]; exact hrec)) ?_
      rw [i42]
      rintro r F1 G1 (⟨rfl, d1, d2, d3, d4, d5, d6, d7, d8, d9, d10, d11, d12, d13⟩ | hq)
      · rw [tq] at d4 d5
        rw [i7] at d2
        rw [i42] at d3
        rw [Kp.1 60 rfl] at d4
        have d13 := d13 (fun z => c (i46.symm.trans z))
        exact Or.inl ⟨rfl, d1, d2, d3, d4, d5, d6, d8.trans i46, d9, fun k hk => ⟨d10 k hk, by rw [d11]⟩, fun z => absurd z c, fun _ => ⟨d7.trans (Kp.1 24 rfl), d13.1.trans (Kp.1 35 rfl), d13.2, d11⟩⟩
      · exact Or.inr hq
  unfold mb_function_10
  refine WP.ite (fun _ => go Fa KA) (fun _ => ?_)
  unfold mb_function_16
  refine WP.ix v2 (WP.bind (ws_note 11 _ (by decide)) ?_)
  rintro r Fb Gb ⟨Kb, rfl⟩
  dsimp only
  exact go Fb (KX.tr KA Kb rfl rfl)
