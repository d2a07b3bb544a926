theorem wz_globalInt {fu : Nat} (hfu : 8589934592 ≤ fu) {F0 F : PF} {G0 G : PG} {δ : Int} (h0 : YA F0 G0) (q : GR F0 G0 0 δ 0 F G) (hδ : δ ≤ 0) (x1 : Int32) (v1 : vp_in x1 4002) : WP (mf_globalInt fu x1 F G) (fun r F1 G1 => r = 1 ∧ GR F0 G0 0 (δ + 5) 1 F1 G1) := by
  unfold mf_globalInt mb_globalInt_0
  refine WP.bind (wz_globalAt hfu h0 q hδ x1 v1) ?_
  rintro r F1 G1 ⟨q1, -, g1, -, g3, g4⟩
  dsimp only
  unfold mb_globalInt_5
  have l2 : (2000 : Int32).toInt = 2000 := rfl
  have go : ∀ z : Int32, vp_in z 2001 → (F1 46 = 1 → F1 47 = 0 → z = r) → WP (mb_globalInt_21 fu z 0 1 x1 F1 G1) (fun r F1 G1 => r = 1 ∧ GR F0 G0 0 (δ + 5) 1 F1 G1) := by
    intro z vz hz
    unfold mb_globalInt_21
    refine WP.ix vz (WP.bind (q1.decl h0 hδ x1 1 0 _ 1 v1 (fun _ u1 u2 => ?_)) (fun _ F2 G2 q2 => ?_))
    · rw [hz u1 u2]
      have := g4 u1 u2
      exact Or.inr (Or.inl ⟨rfl, (g3 (by omega)).1, this.2⟩)
    · dsimp only
      unfold mb_globalInt_27
      exact WP.ret ⟨rfl, q2⟩
  by_cases c : (2000 : Int32) < r
  · rw [if_pos c]
    have c := i_lt.mp c
    exact go 2000 (vp_in_iff.mpr ⟨by decide, by decide⟩) (fun u1 u2 => by have := g4 u1 u2; omega)
  · rw [if_neg c]
    have c := mt i_lt.mpr c
    exact go r (vp_in_iff.mpr ⟨g1, by omega⟩) (fun _ _ => rfl)
/-- the end of an array that is told -/
def AQ (F0 : PF) (G0 : PG) (r : Int32) (F1 : PF) (G1 : PG) : Prop := (r = 1 ∧ GR F0 G0 0 0 500 F1 G1) ∨ (r = 0 ∧ 0 < (F1 44).toInt)
def AN1 (P : Prop) (x3 x4 : Int32) (F : PF) : Prop := P → F 46 = 1 → F 47 = 0 → ¬ x3 = -1 ∧ 0 ≤ x4.toInt ∧ x4.toInt + x3.toInt ≤ (F 37).toInt
theorem AN1.kx {P : Prop} {x3 x4 : Int32} {a b : List Nat} {F F1 : PF} {G G1 : PG} (h : AN1 P x3 x4 F) (K : KX a b F G F1 G1) (hM : M7 F F1) (e : a.contains 46 = false) (e1 : a.contains 37 = false) : AN1 P x3 x4 F1 := by
  intro g u1 u2
  rw [K.1 37 e1]
  exact h g ((K.1 46 e).symm.trans u1) (hM u2)
section ARR
variable {fu : Nat} {F0 : PF} {G0 : PG}
theorem wy_443 (h0 : YA F0 G0) (x1 x2 x3 x4 : Int32) (v1 : vp_in x1 4002) (h3 : x3 = -1 ∨ 1 ≤ x3.toInt) (F : PF) (G : PG) (q : GR F0 G0 0 (-5) 500 F G) (hn : AN1 (GI F0 G0) x3 x4 F) : WP (mb_array_443 fu x1 x2 x3 x4 F G) (AQ F0 G0) := by
  unfold mb_array_443
  have go : ∀ y : Int32, (¬ x3 = -1 → y = x3) → WP (mb_array_459 fu y x4 x2 2 x1 F G) (AQ F0 G0) := by
    intro y hy
    unfold mb_array_459
    refine WP.bind (q.decl h0 (by decide) x1 2 x2 x4 y v1 (fun g u1 u2 => ?_)) (fun _ F2 G2 q2 => ?_)
    · have n := hn g u1 u2
      rw [hy n.1]
      refine Or.inr (Or.inr ⟨rfl, ?_, n.2⟩)
      rcases h3 with h3 | h3
      · exact absurd h3 n.1
      · exact h3
    · dsimp only
      unfold mb_array_463
      exact WP.ret (Or.inl ⟨rfl, q2⟩)
  refine WP.ite (fun c => ?_) (fun c => ?_)
  · exact go 1 (fun n => absurd c n)
  · exact go x3 (fun _ => rfl)
theorem wy_432 (h0 : YA F0 G0) (x1 x2 x3 x4 : Int32) (v1 : vp_in x1 4002) (h3 : x3 = -1 ∨ 1 ≤ x3.toInt) (F : PF) (G : PG) (q : (GR F0 G0 1 (-5) 500 F G ∧ AN1 (GI F0 G0) x3 x4 F) ∨ 0 < (F 44).toInt) : WP (mb_array_432 fu x1 x2 x3 x4 F G) (AQ F0 G0) := by
  unfold mb_array_432
  rcases q with ⟨q, hn⟩ | z
  · refine WP.bind (ws_closeSign 27 (q.t h0).2.2.1) ?_
    rintro r F1 G1 (⟨rfl, rfl, rfl, s, -⟩ | ⟨rfl, u, -⟩)
    · dsimp only
      unfold mb_array_438
      rw [if_neg (by decide)]
      exact wy_443 h0 x1 x2 x3 x4 v1 h3 _ _ ((GR.cl (j := 0) q h0 (by decide) (k_ne (sgn_k s).1 (by decide))).le (by decide) (by decide)) hn
    · dsimp only
      unfold mb_array_438 mb_array_441
      rw [if_pos rfl]
      exact WP.ret (Or.inr ⟨rfl, u.1⟩)
  · refine WP.bind (wb_closeSign 27 z) ?_
    rintro r F1 G1 ⟨rfl, rfl, rfl⟩
    dsimp only
    unfold mb_array_438 mb_array_441
    rw [if_pos rfl]
    exact WP.ret (Or.inr ⟨rfl, z⟩)
theorem fup_42 (F : PF) : fup F 42 (F 42 + 0) = F := by
  funext k
  unfold fup
  by_cases h : k = 42
  · rw [if_pos h, h]
    exact Int32.add_zero _
  · rw [if_neg h]
theorem wy_297 (hfu : 8589934592 ≤ fu) (h0 : YA F0 G0) (x1 x2 x3 x4 x7 : Int32) (v1 : vp_in x1 4002) (h3 : x3 = -1 ∨ 1 ≤ x3.toInt) (h4 : 0 ≤ x4.toInt) (h7 : 0 ≤ x7.toInt) (h47 : x4.toInt + x7.toInt ≤ 8000) : ∀ (m : Nat) (x8 x9 : Int32) (F : PF) (G : PG), ((GR F0 G0 1 (-5) 500 F G ∧ AN1 (GI F0 G0) x3 x4 F ∧ 0 ≤ x8.toInt ∧ x8.toInt ≤ tT F G ∧ (4001 - tT F G).toNat < m) ∨ (0 < (F 44).toInt ∧ x9 = 0 ∧ 0 < m)) → WP (ml_array_297 fu m x1 x2 x3 x4 x7 x8 x9 F G) (AQ F0 G0) := by
  intro m
  induction m with
  | zero =>
    rintro x8 x9 F G (⟨-, -, -, -, h⟩ | ⟨-, -, h⟩)
    · omega
    · omega
  | succ m ih =>
    intro x8 x9 F G h
    show WP (mb_array_297 fu (ml_array_297 fu m) x1 x2 x3 x4 x7 x8 x9 F G) _
    unfold mb_array_297
    rcases h with ⟨q, hn, p1, p2, hm⟩ | ⟨z, rfl, -⟩
    · refine WP.ite (fun _ => wy_432 h0 x1 x2 x3 x4 v1 h3 F G (Or.inl ⟨q, hn⟩)) (fun _ => ?_)
      unfold mb_array_302
      rw [if_pos q.2.1.1]
      unfold mb_array_309
      have ht := q.t h0
      have tl : ∀ (F2 : PF) (G2 : PG), ((GR F0 G0 1 (-6) 500 F2 G2 ∧ AN1 (GI F0 G0) x3 x4 F2 ∧ tT F G + 1 ≤ tT F2 G2) ∨ 0 < (F2 44).toInt) → WP (mb_array_384 fu (ml_array_297 fu m) x1 x2 x3 x4 x7 x8 F2 G2) (AQ F0 G0) := by
        intro F2 G2 hz
        have ex : 0 < (F2 44).toInt → WP (mb_array_407 fu (ml_array_297 fu m) x1 x2 x3 x4 x7 (x8 + 1) F2 G2) (AQ F0 G0) := by
          intro z
          unfold mb_array_407 mb_array_408
          rw [if_pos rfl]
          unfold mb_array_424 mb_array_425 mb_array_429
          exact ih _ _ _ _ (Or.inr ⟨z, rfl, by omega⟩)
        unfold mb_array_384
        refine WP.ite (fun c => ?_) (fun c => ?_)
        · rcases hz with ⟨q2, n2, t2⟩ | z
          · have ht2 := q2.t h0
            have i8 : (x8 + 1).toInt = x8.toInt + 1 := i_addn _ rfl (by omega) (by omega)
            unfold mb_array_394
            refine WP.bind (ws_isSign 28 ht2.2.2.1) ?_
            rintro r F3 G3 ⟨rfl, rfl, ⟨rfl, s⟩ | ⟨rfl, s⟩⟩
            · dsimp only
              unfold mb_array_400
              rw [if_neg (by decide)]
              unfold mb_array_403 mb_array_408
              rw [if_neg (by decide)]
              unfold mb_array_420 mb_array_425 mb_array_429
              have kk := k_ne (sgn_k s).1 (by decide)
              have q3 := q2.adv h0 kk
              have a1 := ht2.1.adv q2.2.2.2.1.1.1 (by rw [q2.1.1 7 rfl]; exact q2.2.2.2.1.1.2) kk
              have lp := lnT.pos (G2 4 (F2 42).toNatClampNeg) (G2 5 (F2 42).toNatClampNeg)
              have e : tT (fup F2 42 (F2 42 + 1)) G2 = (G2 6 (F2 42 + 1).toNatClampNeg).toInt := rfl
              have e1 : tT F2 G2 = (G2 6 (F2 42).toNatClampNeg).toInt := rfl
              exact ih _ _ _ _ (Or.inl ⟨q3.le (by decide) (by decide), n2, by omega, by omega, by omega⟩)
            · dsimp only
              unfold mb_array_400
              rw [if_pos rfl]
              unfold mb_array_407 mb_array_408
              rw [if_pos rfl]
              unfold mb_array_424 mb_array_425 mb_array_429
              rw [fup_42]
              exact ih _ _ _ _ (Or.inl ⟨q2.le (by decide) (by decide), n2, by omega, by omega, by omega⟩)
          · rw [c] at z
            exact absurd z (by decide)
        · rcases hz with ⟨q2, n2, t2⟩ | z
          · exact absurd q2.2.1.1 c
          · exact ex z
      have st : ∀ (v : Int32) (F2 : PF) (G2 : PG), ((GR F0 G0 1 (-6) 500 F2 G2 ∧ AN1 (GI F0 G0) x3 x4 F2 ∧ tT F G + 1 ≤ tT F2 G2) ∨ 0 < (F2 44).toInt) → WP (mb_array_345 fu (ml_array_297 fu m) x1 x2 x3 x4 x7 x8 v F2 G2) (AQ F0 G0) := by
        intro v F2 G2 hz
        unfold mb_array_345
        refine WP.ite (fun _ => tl F2 G2 hz) (fun _ => ?_)
        unfold mb_array_352
        refine WP.ite (fun _ => tl F2 G2 hz) (fun c => ?_)
        have c := mt i_le.mpr c
        have i48 : (x4 + x8).toInt = x4.toInt + x8.toInt := i_addn _ rfl (by omega) (by omega)
        have pt : ∀ w : Int32, WP (mb_array_383 fu (ml_array_297 fu m) x1 x2 x3 x4 x7 x8 w (x4 + x8) F2 G2) (AQ F0 G0) := by
          intro w
          unfold mb_array_383
          refine WP.ix (vp_in_iff.mpr ⟨by omega, by omega⟩) (tl _ _ ?_)
          rcases hz with ⟨q2, n2, t2⟩ | z
          · exact Or.inl ⟨q2.kx (KX.g (a := []) (b := [41]) rfl KX.rf) M7.rf rfl rfl, n2, t2⟩
          · exact Or.inr z
        unfold mb_array_359
        exact WP.ite (fun _ => pt _) (fun _ => pt _)
      refine WP.ix ht.2.2.1 ?_
      have y := q.yp h0 (by decide)
      refine WP.bind (wz_value hfu F G y (by rw [q.2.1.2.1]; have := y.2.2.2.1.1; show (0 : Int) ≤ _; omega) (Or.inl q.2.1.2.2)) ?_
      rintro v F1 G1 ⟨hv, hw⟩
      dsimp only
      have hz : (GR F0 G0 1 (-6) 500 F1 G1 ∧ AN1 (GI F0 G0) x3 x4 F1 ∧ tT F G + 1 ≤ tT F1 G1) ∨ 0 < (F1 44).toInt := by
        rcases hw with z | ⟨z44, t1, t2, t3⟩
        · exact Or.inr z
        · exact Or.inl ⟨q.val hv z44 t1 t2 t3, hn.kx hv.1 hv.2.2.2.2.1 rfl rfl, t3⟩
      unfold mb_array_324
      refine WP.ite (fun _ => st _ _ _ hz) (fun _ => ?_)
      unfold mb_array_331
      refine WP.ite (fun _ => ?_) (fun _ => st _ _ _ hz)
      unfold mb_array_337
      refine WP.bind (WP.pp (ws_note 10 _ (by decide)) (mm_note 10 _ (by decide) _ _)) ?_
      rintro r F2 G2 ⟨M2, K2, rfl⟩
      dsimp only
      refine st _ _ _ ?_
      rcases hz with ⟨q2, n2, t2⟩ | z
      · refine Or.inl ⟨q2.kx K2 M2.1 rfl rfl, n2.kx K2 M2.1 rfl rfl, ?_⟩
        have e : tT F2 G1 = tT F1 G1 := by unfold tT; rw [K2.1 42 rfl]
        omega
      · exact Or.inr (by rw [K2.1 44 rfl]; exact z)
    · rw [if_pos rfl]
      exact wy_432 h0 x1 x2 x3 x4 v1 h3 F G (Or.inr z)
theorem wy_261 (hfu : 8589934592 ≤ fu) (h0 : YA F0 G0) (x1 x2 x3 x4 x7 : Int32) (v1 : vp_in x1 4002) (h3 : x3 = -1 ∨ 1 ≤ x3.toInt) (h4 : 0 ≤ x4.toInt) (h7 : 0 ≤ x7.toInt) (h47 : x4.toInt + x7.toInt ≤ 8000) (F : PF) (G : PG) (q : GR F0 G0 0 (-7) 500 F G) (hn : AN1 (GI F0 G0) x3 x4 F) : WP (mb_array_261 fu x1 x2 x3 x4 x7 F G) (AQ F0 G0) := by
  unfold mb_array_261
  refine WP.bind (ws_isSign 32 (q.t h0).2.2.1) ?_
  rintro r F3 G3 ⟨rfl, rfl, ⟨rfl, s⟩ | ⟨rfl, s⟩⟩
  · dsimp only
    unfold mb_array_267
    rw [if_neg (by decide)]
    unfold mb_array_270
    have q1 := q.adv h0 (k_ne (sgn_k s).1 (by decide))
    have n1 : AN1 (GI F0 G0) x3 x4 (fup F 42 (F 42 + 1)) := hn
    generalize fup F 42 (F 42 + 1) = F1 at q1 n1
    unfold mb_array_280
    refine WP.bind (ws_openSign 26 (q1.t h0).2.2.1) ?_
    rintro r F3 G3 (⟨rfl, rfl, rfl, s, c, -⟩ | ⟨rfl, u, -⟩)
    · dsimp only
      unfold mb_array_286
      rw [if_neg (by decide)]
      unfold mb_array_291
      have q2 := q1.op h0 (k_ne (sgn_k s).1 (by decide)) c
      have ht := q2.t h0
      have z0 : (0 : Int32).toInt = 0 := rfl
      exact wy_297 hfu h0 x1 x2 x3 x4 x7 v1 h3 h4 h7 h47 fu 0 1 _ _ (Or.inl ⟨q2.le (by decide) (by decide), n1, by omega, by omega, by omega⟩)
    · dsimp only
      unfold mb_array_286 mb_array_289
      rw [if_pos rfl]
      exact WP.ret (Or.inr ⟨rfl, u.1⟩)
  · dsimp only
    unfold mb_array_267
    rw [if_pos rfl]
    exact wy_443 h0 x1 x2 x3 x4 v1 h3 F G (q.le (by decide) (by decide)) hn
end ARR
