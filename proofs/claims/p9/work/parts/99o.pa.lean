/-- where the token at hand stands -/
def tT (F : PF) (G : PG) : Int := (G 6 (F 42).toNatClampNeg).toInt
def YD (F : PF) (G : PG) : Prop := (0 ≤ (F 14).toInt ∧ (F 14).toInt ≤ 900) ∧ (0 ≤ (F 24).toInt ∧ (F 24).toInt ≤ 500) ∧ (F 46 = 0 ∨ ∀ f : Nat, (f : Int) < (F 24).toInt → 0 ≤ (G 27 f).toInt ∧ 0 ≤ (G 31 f).toInt ∧ (G 31 f).toInt + (G 27 f).toInt ≤ 900)
/-- before a piece of text: all is in its room -/
def YP (F : PF) (G : PG) : Prop := TBL F G ∧ F 44 = 0 ∧ (0 ≤ (F 42).toInt ∧ (F 42).toInt ≤ (F 7).toInt) ∧ (0 ≤ (F 43).toInt ∧ (F 43).toInt ≤ 40) ∧ 0 ≤ (F 60).toInt ∧ 0 ≤ (F 70).toInt ∧ (F 60).toInt + 3 * (F 70).toInt ≤ 2 * tT F G + 600 ∧ YD F G
theorem TBL.le {F : PF} {G : PG} (h : TBL F G) : ∀ (d i : Nat), (i : Int) + d = (F 7).toInt → (G 6 i).toInt ≤ (F 3).toInt := by
  obtain ⟨-, -, h7, -, -, h6, hi⟩ := h
  intro d
  induction d with
  | zero =>
    intro i e
    have : i = (F 7).toNatClampNeg := by show i = (F 7).toInt.toNat; omega
    rw [this, h6]
    exact Int.le_refl _
  | succ d ih =>
    intro i e
    have a := ih (i + 1) (by omega)
    have b := (hi i (by omega)).2.2.2
    have := lnT.pos (G 4 i) (G 5 i)
    omega
theorem TBL.rng {F : PF} {G : PG} (h : TBL F G) {t : Int32} (h0 : 0 ≤ t.toInt) (h1 : t.toInt ≤ (F 7).toInt) : 0 ≤ (G 6 t.toNatClampNeg).toInt ∧ (G 6 t.toNatClampNeg).toInt ≤ 4000 := by
  have a := h.le ((F 7).toInt.toNat - t.toInt.toNat) t.toInt.toNat (by omega)
  have b := h.2.1
  refine ⟨?_, by show (G 6 t.toInt.toNat).toInt ≤ 4000; omega⟩
  by_cases c : t.toInt = (F 7).toInt
  · have : t = F 7 := i_eq.mpr c
    rw [this, h.2.2.2.2.2.1]
    exact h.1
  · exact (h.2.2.2.2.2.2 t.toNatClampNeg (by show ((t.toInt.toNat : Nat) : Int) < _; omega)).2.2.1
theorem TBL.kx {a b : List Nat} {F F1 : PF} {G G1 : PG} (h : TBL F G) (K : KX a b F G F1 G1) (e3 : a.contains 3 = false) (e7 : a.contains 7 = false) (g4 : b.contains 4 = false) (g5 : b.contains 5 = false) (g6 : b.contains 6 = false) : TBL F1 G1 := by
  unfold TBL
  rw [K.1 3 e3, K.1 7 e7, K.2 4 g4, K.2 5 g5, K.2 6 g6]
  exact h
theorem YD.kx {a b : List Nat} {F F1 : PF} {G G1 : PG} (h : YD F G) (K : KX a b F G F1 G1) (e14 : a.contains 14 = false) (e24 : a.contains 24 = false) (e46 : a.contains 46 = false) (g27 : b.contains 27 = false) (g31 : b.contains 31 = false) : YD F1 G1 := by
  unfold YD
  rw [K.1 14 e14, K.1 24 e24, K.1 46 e46, K.2 27 g27, K.2 31 g31]
  exact h
/-- a token that is not the end lies before it -/
theorem TBL.adv {F : PF} {G : PG} (h : TBL F G) {t : Int32} (h0 : 0 ≤ t.toInt) (h1 : t.toInt ≤ (F 7).toInt) (hk : ¬ G 4 t.toNatClampNeg = 0) : (t + 1).toInt = t.toInt + 1 ∧ t.toInt + 1 ≤ (F 7).toInt ∧ (G 6 t.toNatClampNeg).toInt + lnT (G 4 t.toNatClampNeg) (G 5 t.toNatClampNeg) ≤ (G 6 (t + 1).toNatClampNeg).toInt := by
  have b := h.2.1
  have b7 := h.2.2.2.1
  have e : (t + 1).toInt = t.toInt + 1 := i_addn t rfl (by omega) (by omega)
  have ne : ¬ t.toInt = (F 7).toInt := fun q => hk (by rw [i_eq.mpr q]; exact h.2.2.2.2.1)
  refine ⟨e, by omega, ?_⟩
  have q := (h.2.2.2.2.2.2 t.toNatClampNeg (by show ((t.toInt.toNat : Nat) : Int) < _; omega)).2.2.2
  have en : (t + 1).toNatClampNeg = t.toNatClampNeg + 1 := by show (t + 1).toInt.toNat = t.toInt.toNat + 1; omega
  rw [en]
  exact q
theorem YP.v {F : PF} {G : PG} (h : YP F G) : vp_in (F 42) 4002 := vp_in_iff.mpr ⟨h.2.2.1.1, by have := h.2.2.1.2; have := h.1.2.1; have := h.1.2.2.2.1; omega⟩
theorem YP.t {F : PF} {G : PG} (h : YP F G) : 0 ≤ tT F G ∧ tT F G ≤ 4000 := h.1.rng h.2.2.1.1 h.2.2.1.2
theorem sgn_k {K V : Nat → Int32} {t s : Int32} (h : sgn K V t s = true) : K t.toNatClampNeg = 4 ∧ V t.toNatClampNeg = s := of_decide_eq_true h
theorem wdn_k {K V : Nat → Int32} {t s : Int32} (h : wdn K V t s = true) : K t.toNatClampNeg = 2 ∧ V t.toNatClampNeg = s := of_decide_eq_true h
theorem k_ne {x : Int32} {k : Int32} (h : x = k) (hk : ¬ k = 0) : ¬ x = 0 := by rw [h]; exact hk
/-- along a method's text, since F0 -/
def YR (F0 : PF) (G0 : PG) (κ j : Int) (F : PF) (G : PG) : Prop := KX [42, 43, 44, 45, 47, 48, 49, 55, 60, 62, 70] [56, 57, 58, 59, 67, 68, 69] F0 G0 F G ∧ F 44 = 0 ∧ (0 ≤ (F 42).toInt ∧ (F 42).toInt ≤ (F0 7).toInt) ∧ ((F 43).toInt = (F0 43).toInt + j ∧ 0 ≤ (F 43).toInt ∧ (F 43).toInt ≤ 40) ∧ 0 ≤ (F 60).toInt ∧ F 70 = F0 70 ∧ (F 60).toInt + 2 * tT F0 G0 ≤ (F0 60).toInt + 2 * tT F G + κ ∧ (F0 42).toInt ≤ (F 42).toInt
/-- a bad end -/
def YF (F0 : PF) (G0 : PG) (F : PF) (G : PG) : Prop := KX [42, 43, 44, 45, 47, 48, 49, 55, 60, 62, 70] [56, 57, 58, 59, 67, 68, 69] F0 G0 F G ∧ 0 < (F 44).toInt ∧ (0 ≤ (F 42).toInt ∧ (F 42).toInt ≤ (F0 7).toInt) ∧ 0 ≤ (F 60).toInt ∧ (F 60).toInt ≤ 9000
theorem YR.rf {F : PF} {G : PG} (h : YP F G) : YR F G 0 0 F G := ⟨KX.rf, h.2.1, h.2.2.1, ⟨by omega, h.2.2.2.1⟩, h.2.2.2.2.1, rfl, by omega⟩
theorem YR.yp {F0 F : PF} {G0 G : PG} {κ j : Int} (h : YR F0 G0 κ j F G) (h0 : YP F0 G0) (hκ : κ ≤ 0) : YP F G := by
  obtain ⟨K, h44, h42, h43, h60, h70, hΦ⟩ := h
  obtain ⟨p1, p2, p3, p4, p5, p6, p7, p8⟩ := h0
  refine ⟨p1.kx K rfl rfl rfl rfl rfl, h44, by rw [K.1 7 rfl]; exact h42, h43.2, h60, by rw [h70]; exact p6, ?_, p8.kx K rfl rfl rfl rfl rfl⟩
  rw [h70]
  omega
theorem YR.w {F0 F : PF} {G0 G : PG} {κ j : Int} (h : YR F0 G0 κ j F G) (h0 : YP F0 G0) (hκ : κ ≤ 300) : vp_in (F 60) 9000 ∧ vp_in (F 42) 4002 ∧ TBL F G := by
  obtain ⟨K, h44, h42, h43, h60, h70, hΦ⟩ := h
  obtain ⟨p1, p2, p3, p4, p5, p6, p7, p8⟩ := h0
  have T1 := p1.kx K rfl rfl rfl rfl rfl
  have t1 : tT F G ≤ 4000 := (T1.rng h42.1 (by rw [K.1 7 rfl]; exact h42.2)).2
  have := p1.2.1
  have := p1.2.2.2.1
  exact ⟨vp_in_iff.mpr ⟨h60, by omega⟩, vp_in_iff.mpr ⟨h42.1, by omega⟩, T1⟩
theorem YR.adv {F0 F : PF} {G0 G : PG} {κ j : Int} (h : YR F0 G0 κ j F G) (h0 : YP F0 G0) (hk : ¬ G 4 (F 42).toNatClampNeg = 0) : YR F0 G0 (κ - 2) j (fup F 42 (F 42 + 1)) G := by
  obtain ⟨K, h44, h42, h43, h60, h70, hΦ⟩ := h
  have T1 : TBL F G := h0.1.kx K rfl rfl rfl rfl rfl
  have e7 := K.1 7 rfl
  obtain ⟨a1, a2, a3⟩ := T1.adv h42.1 (by rw [e7]; exact h42.2) hk
  have := lnT.pos (G 4 (F 42).toNatClampNeg) (G 5 (F 42).toNatClampNeg)
  refine ⟨KX.f rfl K, h44, ⟨by show 0 ≤ (F 42 + 1).toInt; omega, by show (F 42 + 1).toInt ≤ _; rw [e7] at a2; omega⟩, h43, h60, h70, ?_, by show _ ≤ (F 42 + 1).toInt; omega⟩
  have e : tT (fup F 42 (F 42 + 1)) G = (G 6 (F 42 + 1).toNatClampNeg).toInt := rfl
  have e1 : tT F G = (G 6 (F 42).toNatClampNeg).toInt := rfl
  show (F 60).toInt + _ ≤ _
  rw [e]
  omega
theorem YR.m43 {F0 F : PF} {G0 G : PG} {κ j i : Int} {v : Int32} (h : YR F0 G0 κ j F G) (hv : v.toInt = (F0 43).toInt + i) (h1 : 0 ≤ v.toInt) (h2 : v.toInt ≤ 40) : YR F0 G0 κ i (fup F 43 v) G := by
  obtain ⟨K, h44, h42, h43, h60, h70, hΦ⟩ := h
  exact ⟨KX.f rfl K, h44, h42, ⟨hv, h1, h2⟩, h60, h70, hΦ⟩
theorem YR.op {F0 F : PF} {G0 G : PG} {κ j : Int} (h : YR F0 G0 κ j F G) (h0 : YP F0 G0) (hk : ¬ G 4 (F 42).toNatClampNeg = 0) (hne : ¬ F 43 = 40) : YR F0 G0 (κ - 2) (j + 1) (fup (fup F 43 (F 43 + 1)) 42 (F 42 + 1)) G := by
  have o := o_inc h.2.2.2.1.2 hne
  have a := h.m43 (i := j + 1) (v := F 43 + 1) (by have := h.2.2.2.1.1; omega) o.2.1 o.2.2
  exact YR.adv (F := fup F 43 (F 43 + 1)) a h0 hk
theorem YR.dn {F0 F : PF} {G0 G : PG} {κ j : Int} (h : YR F0 G0 κ (j + 1) F G) (h0 : YP F0 G0) (hj : 0 ≤ j) : YR F0 G0 κ j (fup F 43 (F 43 - 1)) G := by
  have e := h.2.2.2.1
  have p := h0.2.2.2.1
  have d : (F 43 - 1).toInt = (F 43).toInt - 1 := dec43 (by omega)
  exact h.m43 (by omega) (by omega) (by omega)
theorem YR.cl {F0 F : PF} {G0 G : PG} {κ j : Int} (h : YR F0 G0 κ (j + 1) F G) (h0 : YP F0 G0) (hj : 0 ≤ j) (hk : ¬ G 4 (F 42).toNatClampNeg = 0) : YR F0 G0 (κ - 2) j (fup (fup F 42 (F 42 + 1)) 43 (F 43 - 1)) G := YR.dn (F := fup F 42 (F 42 + 1)) (h.adv h0 hk) h0 hj
theorem YR.kx {a b : List Nat} {F0 F F1 : PF} {G0 G G1 : PG} {κ j : Int} (h : YR F0 G0 κ j F G) (K : KX a b F G F1 G1) (ea : a.all [42, 43, 44, 45, 47, 48, 49, 55, 60, 62, 70].contains = true) (eb : b.all [56, 57, 58, 59, 67, 68, 69].contains = true) (e44 : a.contains 44 = false) (e42 : a.contains 42 = false) (e43 : a.contains 43 = false) (e60 : a.contains 60 = false) (e70 : a.contains 70 = false) (g6 : b.contains 6 = false) : YR F0 G0 κ j F1 G1 := by
  obtain ⟨K0, h44, h42, h43, h60, h70, hΦ⟩ := h
  refine ⟨KX.tr K0 K ea eb, by rw [K.1 44 e44]; exact h44, by rw [K.1 42 e42]; exact h42, by rw [K.1 43 e43]; exact h43, by rw [K.1 60 e60]; exact h60, by rw [K.1 70 e70]; exact h70, ?_⟩
  have : tT F1 G1 = tT F G := by unfold tT; rw [K.1 42 e42, K.2 6 g6]
  rw [K.1 60 e60, this, K.1 42 e42]
  exact hΦ
theorem YR.step {fu : Nat} {F0 F : PF} {G0 G : PG} {κ j : Int} (h : YR F0 G0 κ j F G) (h0 : YP F0 G0) (hκ : κ ≤ 300) (w a b : Int32) : WP (mf_step fu w a b F G) (fun r F1 G1 => r = F 60 ∧ vp_in (F 60) 9000 ∧ KX [60] [56, 57, 58] F G F1 G1 ∧ YR F0 G0 (κ + 1) j F1 G1) := by
  refine WP.mono (ws_step w a b (h.w h0 hκ).1) ?_
  rintro r F1 G1 ⟨K, rfl, e60, -, hn⟩
  refine ⟨rfl, hn, K, ?_⟩
  obtain ⟨K0, h44, h42, h43, h60, h70, hΦ⟩ := h
  obtain ⟨n0, n1⟩ := vp_in_iff.mp hn
  have e : (F 60 + 1).toInt = (F 60).toInt + 1 := i_addn _ rfl (by omega) (by omega)
  refine ⟨KX.tr K0 K rfl rfl, by rw [K.1 44 rfl]; exact h44, by rw [K.1 42 rfl]; exact h42, by rw [K.1 43 rfl]; exact h43, by rw [e60]; omega, by rw [K.1 70 rfl]; exact h70, ?_⟩
  have : tT F1 G1 = tT F G := by unfold tT; rw [K.1 42 rfl, K.2 6 rfl]
  rw [e60, this, K.1 42 rfl]
  omega
theorem YR.tr {F0 F F1 : PF} {G0 G G1 : PG} {κ κ1 j : Int} (h : YR F0 G0 κ j F G) (q : YR F G κ1 0 F1 G1) : YR F0 G0 (κ + κ1) j F1 G1 := by
  obtain ⟨K, h44, h42, h43, h60, h70, hΦ⟩ := h
  obtain ⟨K1, q44, q42, q43, q60, q70, qΦ⟩ := q
  rw [K.1 7 rfl] at q42
  exact ⟨KX.tr K K1 rfl rfl, q44, q42, ⟨by omega, q43.2⟩, q60, q70.trans h70, by omega⟩
theorem YR.le {F0 F : PF} {G0 G : PG} {κ κ1 j : Int} (h : YR F0 G0 κ j F G) (hk : κ ≤ κ1) : YR F0 G0 κ1 j F G := by
  obtain ⟨K, h44, h42, h43, h60, h70, hΦ⟩ := h
  exact ⟨K, h44, h42, h43, h60, h70, by omega⟩
theorem YR.flt {F0 F F1 : PF} {G0 G G1 : PG} {κ j : Int} (h : YR F0 G0 κ j F G) (h0 : YP F0 G0) (hκ : κ ≤ 300) (u : FLT F F1 G G1) : YF F0 G0 F1 G1 := by
  have w := vp_in_iff.mp (h.w h0 hκ).1
  obtain ⟨u1, rfl, K1⟩ := u
  obtain ⟨K, h44, h42, h43, h60, h70, hΦ⟩ := h
  exact ⟨KX.tr K K1 rfl rfl, u1, by rw [K1.1 42 rfl]; exact h42, by rw [K1.1 60 rfl]; exact h60, by rw [K1.1 60 rfl]; omega⟩
theorem YF.tr {F0 F F1 : PF} {G0 G G1 : PG} {κ j : Int} (h : YR F0 G0 κ j F G) (q : YF F G F1 G1) : YF F0 G0 F1 G1 := by
  obtain ⟨K, h44, h42, -⟩ := h
  obtain ⟨K1, q44, q42, q60⟩ := q
  rw [K.1 7 rfl] at q42
  exact ⟨KX.tr K K1 rfl rfl, q44, q42, q60⟩
theorem YR.patch {F0 F : PF} {G0 G : PG} {κ j : Int} {k p : Nat} {v : Int32} (h : YR F0 G0 κ j F G) (hk : k = 57 ∨ k = 59) : YR F0 G0 κ j F (gup G k p v) := by
  refine h.kx (a := []) (b := [57, 59]) (KX.g ?_ KX.rf) rfl rfl rfl rfl rfl rfl rfl rfl
  rcases hk with rfl | rfl <;> rfl
/-- how much less than twice the text a piece makes -/
def κS (i : Nat) : Int := if i = 5 ∨ i = 6 then 1 else -1
/-- how deep a piece goes -/
def dS (i : Nat) : Int := if i = 0 then 7 else if i = 4 then 6 else if i = 2 then 5 else if i = 7 then 4 else if i = 8 then 3 else if i = 5 ∨ i = 6 then 2 else 1
def pS (i : Nat) (x y : Int32) (F : PF) (G : PG) : Prop := ((i = 0 ∨ i = 2 ∨ i = 4) → (F 70).toInt ≤ 10 * (F 43).toInt) ∧ (F 70).toInt ≤ 10 * (F 43).toInt + 10 ∧ ((i = 1 ∨ i = 5 ∨ i = 6) → vp_in x 4002) ∧ (i = 5 → 1 ≤ (F 42).toInt ∧ G 4 (F 42 - 1).toNatClampNeg = 1) ∧ (i = 0 → F 54 = 0 → (x = -1 ∨ (0 ≤ x.toInt ∧ x.toInt < (F 24).toInt ∧ ¬ F 46 = 0)) ∧ 0 ≤ y.toInt ∧ y.toInt ≤ 5000) ∧ (i = 3 → x = -1 ∨ (0 ≤ x.toInt ∧ x.toInt < 900))
def ZQ (i : Nat) (F : PF) (G : PG) (r : Int32) (F1 : PF) (G1 : PG) : Prop := (r = 1 ∧ YR F G (κS i) 0 F1 G1) ∨ (r = 0 ∧ YF F G F1 G1)
def ZI (rc : RC) (d : Nat) : Prop := ∀ (i : Nat) (x y : Int32) (F : PF) (G : PG), i ≤ 8 → YP F G → pS i x y F G → 7 * (40 - (F 43).toInt) + dS i ≤ d → WP (rc i x y F G) (fun r F1 G1 => ZQ i F G r F1 G1)
