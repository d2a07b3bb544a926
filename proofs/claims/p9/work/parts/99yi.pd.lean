/-- a function is told at token t -/
def isfn (K V : Nat → Int32) (t : Int32) : Bool := !wdn K V t 3 && !wdn K V t 1 && sgn K V (t + 1 + 1) 22
/-- the record of function g, told at token t -/
def RCD (K V : Nat → Int32) (fu : Nat) (G : PG) (g : Nat) (t : Int32) : Prop := (G 27 g).toInt = (flT K V fu (t + 1 + 1)).length ∧ 0 ≤ (G 31 g).toInt ∧ (∀ j : Nat, j < (flT K V fu (t + 1 + 1)).length → (G 34 ((G 31 g).toInt.toNat + j)).toInt = ((flT K V fu (t + 1 + 1)).getD j 0 : Nat)) ∧ (0 ≤ (G 25 g).toInt ∧ (G 25 g).toInt < 2100) ∧ ((G 32 g = -1 ∧ flT K V fu (t + 1 + 1) = []) ∨ vp_in (G 32 g) 4002)
abbrev grA : List Nat := [14, 36, 37, 42, 43, 44, 45, 47, 48, 49, 54, 55, 60, 62, 70, 72]
abbrev grB : List Nat := [16, 17, 18, 19, 20, 21, 22, 23, 38, 39, 40, 41, 56, 57, 58, 59, 67, 68, 69, 71]
/-- what the telling of something else leaves -/
def TG (F : PF) (G : PG) (F1 : PF) (G1 : PG) : Prop := F1 61 = 0 ∧ YA F1 G1 ∧ (GI F G → GI F1 G1) ∧ KX grA grB (fup F 61 0) G F1 G1 ∧ tT F G + 1 ≤ tT F1 G1 ∧ CB F G G1 ∧ F1 60 = F 60 ∧ (F 37).toInt ≤ (F1 37).toInt
/-- what the telling of a function leaves -/
def TF (fu : Nat) (f : Int32) (F : PF) (G : PG) (F1 : PF) (G1 : PG) : Prop := F1 61 = 1 ∧ YA F1 G1 ∧ F1 46 = F 46 ∧ tT F G + 8 ≤ tT F1 G1 ∧ (F 46 = 0 → F1 24 = f + 1 ∧ RCD (G 4) (G 5) fu G1 f.toNatClampNeg (F 42) ∧ (F 35).toInt ≤ (F1 35).toInt ∧ (G1 31 f.toNatClampNeg).toInt + (flT (G 4) (G 5) fu (F 42 + 1 + 1)).length ≤ (F1 35).toInt ∧ 5 * (F1 35).toInt ≤ tT F1 G1 ∧ (∀ k, k ≠ f.toNatClampNeg → G1 27 k = G 27 k ∧ G1 31 k = G 31 k ∧ G1 25 k = G 25 k ∧ G1 32 k = G 32 k) ∧ ∀ j : Nat, (j : Int) < (F 35).toInt → G1 34 j = G 34 j) ∧ (¬ F 46 = 0 → F1 24 = F 24 ∧ F1 35 = F 35 ∧ G1 27 = G 27 ∧ G1 31 = G 31 ∧ G1 34 = G 34 ∧ G1 25 = G 25 ∧ G1 32 = G 32)
def TQ1 (fu : Nat) (f : Int32) (F : PF) (G : PG) (r : Int32) (F1 : PF) (G1 : PG) : Prop := (r = 1 ∧ ((isfn (G 4) (G 5) (F 42) = false ∧ TG F G F1 G1) ∨ (isfn (G 4) (G 5) (F 42) = true ∧ TF fu f F G F1 G1))) ∨ (r = 0 ∧ 0 < (F1 44).toInt)
theorem GR.ya {F0 F : PF} {G0 G : PG} {w : Int} (q : GR F0 G0 0 0 w F G) (h0 : YA F0 G0) (ht : tT F0 G0 + 1 ≤ tT F G) (hw : w ≤ 500) : YA F G := by
  have t := q.t h0
  obtain ⟨K, hz, hj, h42, h60, hD, hw, hI, hC⟩ := q
  obtain ⟨a1, b, a3, a4, a5, a6, a7, a8⟩ := h0
  refine ⟨t.1, ⟨hz.1, hz.2.1, hz.2.2, i_eq.mpr hj.1⟩, by rw [K.1 7 rfl]; exact h42.1, by rw [h60]; omega, by omega, by rw [K.1 24 rfl]; exact a6, ?_, by omega⟩
  rw [K.1 46 rfl, K.1 24 rfl, K.2 27 rfl, K.2 31 rfl]
  exact a7
section TELL2
variable {fu : Nat} {F : PF} {G : PG} {f : Int32}
theorem TG.of (h0 : YA (fup F 61 0) G) {F1 : PF} {G1 : PG} {w : Int} (q : GR (fup F 61 0) G 0 0 w F1 G1) (ht : tT F G + 1 ≤ tT F1 G1) (hw : w ≤ 500) : TG F G F1 G1 := ⟨q.1.1 61 rfl, q.ya h0 ht hw, q.2.2.2.2.2.2.2.1, q.1, ht, q.2.2.2.2.2.2.2.2.1, q.2.2.2.2.1, q.2.2.2.2.2.2.2.2.2⟩
/-- the tokens go up -/
theorem GR.up {F0 F : PF} {G0 G : PG} {j δ w : Int} (q : GR F0 G0 j δ w F G) (h0 : YA F0 G0) (h : (F0 42).toInt < (F 42).toInt) : tT F0 G0 + 1 ≤ tT F G := by
  have := (q.t h0).2.2.2.1
  omega
/-- the end of a telling: its sign -/
theorem wt_sign (h0 : YA (fup F 61 0) G) {F1 : PF} {G1 : PG} {w : Int} (q : GR (fup F 61 0) G 0 1 w F1 G1) (hw : w ≤ 500) {k : Int32 → PF → PG → PR} (k1 : ∀ F2 G2, k 1 F2 G2 = some (1, F2, G2)) (k0 : ∀ F2 G2, k 0 F2 G2 = some (0, F2, G2)) (hf : isfn (G 4) (G 5) (F 42) = false) : WP ((mf_sign fu 29 F1 G1).bind (fun q => k q.1 q.2.1 q.2.2)) (TQ1 fu f F G) := by
  refine WP.bind (ws_sign 29 (q.t h0).2.2.1) ?_
  rintro r F2 G2 (⟨rfl, rfl, rfl, s, -⟩ | ⟨rfl, u, -⟩)
  · dsimp only
    rw [k1]
    have kk := k_ne (sgn_k s).1 (by decide)
    have q2 := q.adv h0 kk
    exact WP.ret (Or.inl ⟨rfl, Or.inl ⟨hf, TG.of h0 (q2.le (by decide) (Int.le_refl _)) (q2.up h0 (q.adv42 h0 kk)) hw⟩⟩)
  · dsimp only
    rw [k0]
    exact WP.ret (Or.inr ⟨rfl, u.1⟩)
theorem wt_279 (h0 : YA (fup F 61 0) G) {F1 : PF} {G1 : PG} {w : Int} (q : GR (fup F 61 0) G 0 1 w F1 G1) (hw : w ≤ 500) (hf : isfn (G 4) (G 5) (F 42) = false) : WP (mb_tells_279 fu F1 G1) (TQ1 fu f F G) := wt_sign (k := fun z F G => mb_tells_285 fu z F G) h0 q hw (fun _ _ => rfl) (fun _ _ => rfl) hf
theorem wt_149 (h0 : YA (fup F 61 0) G) {F1 : PF} {G1 : PG} {w : Int} (q : GR (fup F 61 0) G 0 1 w F1 G1) (hw : w ≤ 500) (hf : isfn (G 4) (G 5) (F 42) = false) : WP (mb_tells_149 fu F1 G1) (TQ1 fu f F G) := wt_sign (k := fun z F G => mb_tells_155 fu z F G) h0 q hw (fun _ _ => rfl) (fun _ _ => rfl) hf
theorem wt_262 (h0 : YA (fup F 61 0) G) {F1 : PF} {G1 : PG} {w : Int} (q : GR (fup F 61 0) G 0 1 w F1 G1) (hw : w ≤ 500) (hf : isfn (G 4) (G 5) (F 42) = false) : WP (mb_tells_262 fu F1 G1) (TQ1 fu f F G) := wt_sign (k := fun z F G => mb_tells_268 fu z F G) h0 q hw (fun _ _ => rfl) (fun _ _ => rfl) hf
theorem wt_269 (hfu : 8589934592 ≤ fu) (h0 : YA (fup F 61 0) G) {F1 : PF} {G1 : PG} (q : GR (fup F 61 0) G 0 (-4) 0 F1 G1) (x3 x4 : Int32) (v4 : vp_in x4 4002) (hf : isfn (G 4) (G 5) (F 42) = false) : WP (mb_tells_269 fu x3 x4 F1 G1) (TQ1 fu f F G) := by
  unfold mb_tells_269
  refine WP.bind (wz_array hfu h0 q x4 x3 v4) ?_
  rintro r F2 G2 (⟨rfl, q2⟩ | ⟨rfl, z⟩)
  · dsimp only
    unfold mb_tells_276
    rw [if_neg (by decide)]
    exact wt_279 h0 (q2.le (by decide) (Int.le_refl _)) (by decide) hf
  · dsimp only
    unfold mb_tells_276 mb_tells_292 mb_tells_293
    rw [if_pos rfl]
    exact WP.bz (Or.inl rfl) (WP.ret (Or.inr ⟨rfl, z⟩))
theorem wt_140 (hfu : 8589934592 ≤ fu) (h0 : YA (fup F 61 0) G) {F1 : PF} {G1 : PG} (q : GR (fup F 61 0) G 0 (-4) 0 F1 G1) (x4 : Int32) (v4 : vp_in x4 4002) (hf : isfn (G 4) (G 5) (F 42) = false) : WP (mb_tells_140 fu x4 F1 G1) (TQ1 fu f F G) := by
  unfold mb_tells_140
  refine WP.bind (wz_globalInt hfu h0 q (by decide) x4 v4) ?_
  rintro r F2 G2 ⟨rfl, q2⟩
  dsimp only
  unfold mb_tells_146
  rw [if_neg (by decide)]
  exact wt_149 h0 q2 (by decide) hf
theorem wt_239 (h0 : YA (fup F 61 0) G) {F1 : PF} {G1 : PG} (q : GR (fup F 61 0) G 0 (-4) 1 F1 G1) (x4 x5 : Int32) (v4 : vp_in x4 4002) (h5 : 0 ≤ x5.toInt) (g3 : x5.toInt ≤ 2000 → 0 ≤ (G1 39 x5.toNatClampNeg).toInt) (g4 : F1 46 = 1 → F1 47 = 0 → x5.toInt < 2000 ∧ (G1 39 x5.toNatClampNeg).toInt < (F1 37).toInt) (hf : isfn (G 4) (G 5) (F 42) = false) : WP (mb_tells_239 fu x4 x5 F1 G1) (TQ1 fu f F G) := by
  unfold mb_tells_239
  have l2 : (2000 : Int32).toInt = 2000 := rfl
  have go : ∀ z : Int32, vp_in z 2001 → (F1 46 = 1 → F1 47 = 0 → z = x5) → WP (mb_tells_256 fu z 0 1 x4 F1 G1) (TQ1 fu f F G) := by
    intro z vz hz
    unfold mb_tells_256
    refine WP.ix vz (WP.bind (q.decl h0 (by decide) x4 1 0 _ 1 v4 (fun _ u1 u2 => ?_)) (fun _ F2 G2 q2 => ?_))
    · rw [hz u1 u2]
      have := g4 u1 u2
      exact Or.inr (Or.inl ⟨rfl, g3 (by omega), this.2⟩)
    · dsimp only
      exact wt_262 h0 q2 (by decide) hf
  by_cases c : (2000 : Int32) < x5
  · rw [if_pos c]
    have c := i_lt.mp c
    exact go 2000 (vp_in_iff.mpr ⟨by decide, by decide⟩) (fun u1 u2 => by have := g4 u1 u2; omega)
  · rw [if_neg c]
    have c := mt i_lt.mpr c
    exact go x5 (vp_in_iff.mpr ⟨h5, by omega⟩) (fun _ _ => rfl)
theorem wt_177 (hfu : 8589934592 ≤ fu) (h0 : YA (fup F 61 0) G) {F1 : PF} {G1 : PG} (q : GR (fup F 61 0) G 0 (-4) 0 F1 G1) (x4 : Int32) (v4 : vp_in x4 4002) (s : sgn (G1 4) (G1 5) (F1 42) 32 = true) (hf : isfn (G 4) (G 5) (F 42) = false) : WP (mb_tells_177 fu x4 F1 G1) (TQ1 fu f F G) := by
  unfold mb_tells_177
  refine WP.bind (wz_globalAt hfu h0 q (by decide) x4 v4) ?_
  rintro x5 F2 G2 ⟨q2, e4, g1, e42, g3, g4⟩
  dsimp only
  unfold mb_tells_183
  have kk : ¬ G2 4 (F2 42).toNatClampNeg = 0 := by
    rw [e4, e42]
    exact k_ne (sgn_k s).1 (by decide)
  have q3 := q2.adv h0 kk
  have j46 : (fup F2 42 (F2 42 + 1)) 46 = F2 46 := rfl
  have j47 : (fup F2 42 (F2 42 + 1)) 47 = F2 47 := rfl
  have j37 : (fup F2 42 (F2 42 + 1)) 37 = F2 37 := rfl
  generalize fup F2 42 (F2 42 + 1) = F3 at q3 j46 j47 j37
  unfold mb_tells_195
  have y := q3.yp h0 (by decide)
  refine WP.bind (wz_value hfu F3 G2 y (by rw [q3.2.1.2.1]; have := y.2.2.2.1.1; show (0 : Int) ≤ _; omega) (Or.inl q3.2.1.2.2)) ?_
  rintro v F4 G4 ⟨hv, hw⟩
  dsimp only
  unfold mb_tells_199
  rcases hw with z | ⟨z44, t1, t2, t3⟩
  · refine WP.ite (fun c => ?_) (fun _ => ?_)
    · have := i_le.mp c
      have : (0 : Int32).toInt = 0 := rfl
      omega
    · unfold mb_tells_208
      exact WP.ret (Or.inr ⟨rfl, z⟩)
  · rw [if_pos (show F4 44 ≤ 0 by rw [z44]; decide)]
    have q4 := (q3.val hv z44 t1 t2 t3).le (δ1 := -4) (w1 := 1) (by decide) (by decide)
    have e39 : G4 39 = G2 39 := hv.1.2 39 rfl
    have g4' : F4 46 = 1 → F4 47 = 0 → x5.toInt < 2000 ∧ (G2 39 x5.toNatClampNeg).toInt < (F4 37).toInt := by
      intro u1 u2
      rw [hv.1.1 46 rfl, j46] at u1
      have u2 := hv.2.2.2.2.1 u2
      rw [j47] at u2
      rw [hv.1.1 37 rfl, j37]
      exact g4 u1 u2
    have nx := wt_239 (f := f) (fu := fu) h0 q4 x4 x5 v4 g1 (fun z => by rw [e39]; exact (g3 z).1) (by rw [e39]; exact g4') hf
    unfold mb_tells_210
    refine WP.ite (fun _ => nx) (fun _ => ?_)
    unfold mb_tells_217
    refine WP.ite (fun _ => nx) (fun c => ?_)
    have c := mt i_le.mpr c
    have l2 : (2000 : Int32).toInt = 2000 := rfl
    have g3' := g3 (by omega)
    unfold mb_tells_225
    refine WP.ix (vp_in_iff.mpr ⟨g1, by omega⟩) (WP.ix (by rw [e39]; exact vp_in_iff.mpr ⟨g3'.1, by omega⟩) ?_)
    exact wt_239 h0 (q4.kx (KX.g (a := []) (b := [41]) rfl KX.rf) M7.rf rfl rfl) x4 x5 v4 g1 (fun z => by show 0 ≤ (G4 39 _).toInt; rw [e39]; exact (g3 z).1) (by show F4 46 = 1 → F4 47 = 0 → x5.toInt < 2000 ∧ (G4 39 _).toInt < _; rw [e39]; exact g4') hf
theorem wt_164 (hfu : 8589934592 ≤ fu) (h0 : YA (fup F 61 0) G) {F1 : PF} {G1 : PG} (q : GR (fup F 61 0) G 0 (-4) 0 F1 G1) (x3 x4 : Int32) (v4 : vp_in x4 4002) (hf : isfn (G 4) (G 5) (F 42) = false) : WP (mb_tells_164 fu x3 x4 F1 G1) (TQ1 fu f F G) := by
  unfold mb_tells_164
  refine WP.ite (fun _ => ?_) (fun _ => wt_269 hfu h0 q x3 x4 v4 hf)
  unfold mb_tells_168
  refine WP.bind (ws_isSign 32 (q.t h0).2.2.1) ?_
  rintro z F2 G2 ⟨rfl, rfl, ⟨rfl, s⟩ | ⟨rfl, s⟩⟩
  · dsimp only
    unfold mb_tells_174
    rw [if_neg (by decide)]
    exact wt_177 hfu h0 q x4 v4 s hf
  · dsimp only
    unfold mb_tells_174
    rw [if_pos rfl]
    exact wt_269 hfu h0 q x3 x4 v4 hf
theorem wt_117 (hfu : 8589934592 ≤ fu) (h0 : YA (fup F 61 0) G) {F1 : PF} {G1 : PG} (q : GR (fup F 61 0) G 0 (-4) 0 F1 G1) (x2 x3 x4 : Int32) (v4 : vp_in x4 4002) (hf : isfn (G 4) (G 5) (F 42) = false) : WP (mb_tells_117 fu x2 x3 x4 F1 G1) (TQ1 fu f F G) := by
  unfold mb_tells_117
  refine WP.ite (fun _ => ?_) (fun _ => ?_)
  · unfold mb_tells_127
    refine WP.ite (fun _ => ?_) (fun _ => wt_164 hfu h0 q x3 x4 v4 hf)
    unfold mb_tells_131
    refine WP.bind (ws_isSign 29 (q.t h0).2.2.1) ?_
    rintro z F2 G2 ⟨rfl, rfl, ⟨rfl, s⟩ | ⟨rfl, s⟩⟩
    · dsimp only
      unfold mb_tells_137
      rw [if_neg (by decide)]
      exact wt_140 hfu h0 q x4 v4 hf
    · dsimp only
      unfold mb_tells_137
      rw [if_pos rfl]
      exact wt_164 hfu h0 q x3 x4 v4 hf
  · unfold mb_tells_121
    refine WP.bind (ws_fails 2 (by decide) (q.t h0).2.2.1) ?_
    rintro r F2 G2 ⟨rfl, u⟩
    dsimp only
    unfold mb_tells_126
    exact WP.bz (Or.inl rfl) (WP.ret (Or.inr ⟨rfl, u.1⟩))
end TELL2
