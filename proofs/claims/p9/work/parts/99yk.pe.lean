/-- the places where something is told, and the count of functions there -/
def pth (K V : Nat → Int32) (fu : Nat) : Nat → Option (Int32 × Nat)
  | 0 => some (0, 0)
  | n + 1 => match pth K V fu n with
    | some (t, g) => (match rtells K V fu t 0 with
      | some (some t1) => some (t1, if isfn K V t = true then g + 1 else g)
      | _ => none)
    | none => none
theorem pth.s {K V : Nat → Int32} {fu n g : Nat} {t t1 : Int32} (h : pth K V fu n = some (t, g)) (h1 : rtells K V fu t 0 = some (some t1)) : pth K V fu (n + 1) = some (t1, if isfn K V t = true then g + 1 else g) := by
  show (match pth K V fu n with
    | some (t, g) => (match rtells K V fu t 0 with
      | some (some t1) => some (t1, if isfn K V t = true then g + 1 else g)
      | _ => none)
    | none => none) = _
  rw [h]
  show (match rtells K V fu t 0 with
      | some (some t1) => some (t1, if isfn K V t = true then g + 1 else g)
      | _ => none) = _
  rw [h1]
/-- all functions told so far are on record -/
def RC1 (K V : Nat → Int32) (fu n : Nat) (F : PF) (G : PG) : Prop := ∀ i, i < n → ∀ (t : Int32) (g : Nat), pth K V fu i = some (t, g) → isfn K V t = true → (g : Int) < (F 24).toInt ∧ RCD K V fu G g t ∧ (G 31 g).toInt + (flT K V fu (t + 1 + 1)).length ≤ (F 35).toInt
def CM1 (K V : Nat → Int32) (fu n : Nat) (F : PF) : Prop := ∀ g : Nat, (g : Int) < (F 24).toInt → ∃ i, i < n ∧ ∃ t, pth K V fu i = some (t, g) ∧ isfn K V t = true
def LPt (K V : Nat → Int32) (fu N n : Nat) (f : Int32) (F : PF) (G : PG) : Prop := (G 4 = K ∧ G 5 = V) ∧ YA F G ∧ (0 ≤ f.toInt ∧ 8 * f.toInt ≤ tT F G) ∧ pth K V fu n = some (F 42, f.toInt.toNat) ∧ ((F 46 = 0 ∧ F 24 = f ∧ (0 ≤ (F 35).toInt ∧ 5 * (F 35).toInt ≤ tT F G) ∧ RC1 K V fu n F G ∧ CM1 K V fu n F) ∨ (F 46 = 1 ∧ n ≤ N ∧ (∃ t g, pth K V fu N = some (t, g) ∧ K t.toNatClampNeg = 0) ∧ RC1 K V fu N F G ∧ CM1 K V fu N F))
theorem LPt.yc {K V : Nat → Int32} {fu N n : Nat} {f : Int32} {F : PF} {G : PG} (h : LPt K V fu N n f F G) (hk : ¬ K (F 42).toNatClampNeg = 0) : YC fu f F G ∧ (F 46 = 1 → n < N) := by
  obtain ⟨⟨g4, g5⟩, ya, hf, hp, hh⟩ := h
  rcases hh with ⟨c, e24, h35, -, -⟩ | ⟨c, hn, ⟨t, g, hN, kN⟩, hr, -⟩
  · exact ⟨⟨ya, hf, fun _ => h35, Or.inl c⟩, fun z => absurd (c.symm.trans z) (by decide)⟩
  · have lt : n < N := by
      rcases Nat.lt_or_ge n N with q | q
      · exact q
      · have e : n = N := by omega
        rw [e, hN] at hp
        have := Option.some.inj hp
        rw [Prod.mk.injEq] at this
        rw [this.1] at kN
        exact absurd kN hk
    refine ⟨⟨ya, hf, fun z => absurd (z.symm.trans c) (by decide), Or.inr (fun e => ?_)⟩, fun _ => lt⟩
    rw [g4, g5] at e ⊢
    exact (hr n lt (F 42) f.toInt.toNat hp e).2.1.1
/-- a step of the trace -/
theorem LPt.st {K V : Nat → Int32} {fu N n : Nat} {f : Int32} {F F1 : PF} {G G1 : PG} (h : LPt K V fu N n f F G) (hk : ¬ K (F 42).toNatClampNeg = 0) (K4 : G1 4 = G 4 ∧ G1 5 = G 5) (hr : rtells K V fu (F 42) 0 = some (some (F1 42))) (hq : (isfn (G 4) (G 5) (F 42) = false ∧ TG F G F1 G1) ∨ (isfn (G 4) (G 5) (F 42) = true ∧ TF fu f F G F1 G1)) : LPt K V fu N (n + 1) (if F1 61 = 0 then f + 0 else f + 1) F1 G1 ∧ tT F G + 1 ≤ tT F1 G1 := by
  have lt := (h.yc hk).2
  obtain ⟨⟨g4, g5⟩, ya, hf, hp, hh⟩ := h
  have hs := pth.s hp hr
  have tF : 0 ≤ tT F G ∧ tT F G ≤ 4000 := ya.1.rng ya.2.2.1.1 ya.2.2.1.2
  rw [g4, g5] at hq
  rcases hq with ⟨nf, c61, ya1, -, KX1, ht, -⟩ | ⟨isf, c61, ya1, e46, ht, p0, p1⟩
  · have e0 : (if F1 61 = 0 then f + 0 else f + 1) = f := by
      rw [if_pos c61]
      exact Int32.add_zero f
    rw [e0]
    rw [nf] at hs
    have hs : pth K V fu (n + 1) = some (F1 42, f.toInt.toNat) := hs
    refine ⟨⟨⟨K4.1.trans g4, K4.2.trans g5⟩, ya1, by omega, hs, ?_⟩, ht⟩
    have i46 : F1 46 = F 46 := KX1.1 46 rfl
    have i24 : F1 24 = F 24 := KX1.1 24 rfl
    have i35 : F1 35 = F 35 := KX1.1 35 rfl
    have rr : ∀ m, RC1 K V fu m F G → RC1 K V fu m F1 G1 := by
      intro m hm i hi t g a b
      have := hm i hi t g a b
      unfold RCD at this ⊢
      rw [KX1.2 27 rfl, KX1.2 31 rfl, KX1.2 34 rfl, KX1.2 25 rfl, KX1.2 32 rfl, i24, i35]
      exact this
    rcases hh with ⟨c, e24, h35, hr, hc⟩ | ⟨c, hn, hN, hr, hc⟩
    · refine Or.inl ⟨i46.trans c, i24.trans e24, by rw [i35]; omega, ?_, ?_⟩
      · intro i hi t g a b
        rcases Nat.lt_or_ge i n with q | q
        · exact rr n hr i q t g a b
        · have e : i = n := by omega
          rw [e, hp] at a
          have := Option.some.inj a
          rw [Prod.mk.injEq] at this
          rw [← this.1, nf] at b
          exact absurd b (by decide)
      · intro g hg
        rw [i24] at hg
        obtain ⟨i, a, b⟩ := hc g hg
        exact ⟨i, by omega, b⟩
    · refine Or.inr ⟨i46.trans c, lt c, hN, rr N hr, ?_⟩
      intro g hg
      rw [i24] at hg
      exact hc g hg
  · have e0 : (if F1 61 = 0 then f + 0 else f + 1) = f + 1 := if_neg (by rw [c61]; decide)
    rw [e0]
    rw [isf, if_pos rfl] at hs
    have f1 : (f + 1).toInt = f.toInt + 1 := i_addn _ rfl (by omega) (by omega)
    have ff : (f + 1).toInt.toNat = f.toInt.toNat + 1 := by omega
    have fn : f.toNatClampNeg = f.toInt.toNat := rfl
    refine ⟨⟨⟨K4.1.trans g4, K4.2.trans g5⟩, ya1, by omega, by rw [ff]; exact hs, ?_⟩, by omega⟩
    rcases hh with ⟨c, e24, h35, hr, hc⟩ | ⟨c, hn, hN, hr, hc⟩
    · obtain ⟨r1, r2, r3, r4, r5, r6, r7⟩ := p0 c
      rw [g4, g5] at r2 r4
      have z35 : 0 ≤ (F1 35).toInt := by omega
      refine Or.inl ⟨e46.trans c, r1, ⟨z35, r5⟩, ?_, ?_⟩
      · intro i hi t g a b
        rcases Nat.lt_or_ge i n with q | q
        · obtain ⟨a1, ⟨b1, b2, b3, b4, b5⟩, a3⟩ := hr i q t g a b
          rw [e24] at a1
          have ne : g ≠ f.toNatClampNeg := by omega
          obtain ⟨x1, x2, x3, x4⟩ := r6 g ne
          refine ⟨by rw [r1]; omega, ⟨by rw [x1]; exact b1, by rw [x2]; exact b2, fun j hj => ?_, by rw [x3]; exact b4, by rw [x4]; exact b5⟩, by rw [x2]; omega⟩
          rw [x2, r7 _ (by omega)]
          exact b3 j hj
        · have e : i = n := by omega
          rw [e, hp] at a
          have := Option.some.inj a
          rw [Prod.mk.injEq] at this
          rw [← this.1, ← this.2]
          exact ⟨by rw [r1]; omega, r2, r4⟩
      · intro g hg
        rw [r1] at hg
        by_cases e : (g : Int) < f.toInt
        · obtain ⟨i, a, b⟩ := hc g (by rw [e24]; exact e)
          exact ⟨i, by omega, b⟩
        · have e1 : g = f.toInt.toNat := by omega
          exact ⟨n, by omega, F 42, by rw [e1]; exact hp, isf⟩
    · have n0 : ¬ F 46 = 0 := by rw [c]; decide
      obtain ⟨r1, r2, r3, r4, r5, r6, r7⟩ := p1 n0
      refine Or.inr ⟨e46.trans c, lt c, hN, ?_, ?_⟩
      · intro i hi t g a b
        have := hr i hi t g a b
        unfold RCD at this ⊢
        rw [r1, r2, r3, r4, r5, r6, r7]
        exact this
      · intro g hg
        rw [r1] at hg
        exact hc g hg
/-- behind all texts -/
def LQ (K V : Nat → Int32) (fu N : Nat) (I : Int32 → PF → PG → Prop) (r : Int32) (F1 : PF) (G1 : PG) : Prop := (r = 1 ∧ F1 44 = 0 ∧ F1 8 = -1 ∧ ∃ n f, LPt K V fu N n f F1 G1 ∧ I f F1 G1 ∧ K (F1 42).toNatClampNeg = 0) ∨ (r = 0 ∧ 0 < (F1 44).toInt)
theorem wl_127 {K V : Nat → Int32} {fu N n : Nat} {I : Int32 → PF → PG → Prop} {f : Int32} {F : PF} {G : PG} (h : (LPt K V fu N n f F G ∧ I f F G ∧ K (F 42).toNatClampNeg = 0) ∨ 0 < (F 44).toInt) : WP (mb_texts_127 fu F G) (LQ K V fu N I) := by
  unfold mb_texts_127
  rcases h with ⟨hl, hi, hk⟩ | z
  · have e44 := hl.2.1.2.1.1
    rw [if_pos e44]
    unfold mb_texts_134
    refine WP.ite (fun c => ?_) (fun _ => ?_)
    · unfold mb_texts_150 mb_texts_155
      exact WP.bz (Or.inr rfl) (WP.ret (Or.inl ⟨rfl, e44, c, n, f, hl, hi, hk⟩))
    · unfold mb_texts_142
      have ya := hl.2.1
      refine WP.bind (ws_fails 1 (by decide) (vp_in_iff.mpr ⟨ya.2.2.1.1, by have := ya.2.2.1.2; have := ya.1.2.1; have := ya.1.2.2.2.1; omega⟩)) ?_
      rintro r F2 G2 ⟨rfl, u⟩
      dsimp only
      unfold mb_texts_147
      rw [if_pos rfl]
      unfold mb_texts_154 mb_texts_155
      exact WP.bz (Or.inl rfl) (WP.ret (Or.inr ⟨rfl, u.1⟩))
  · rw [if_neg (fun e => by rw [e] at z; exact absurd z (by decide))]
    unfold mb_texts_154 mb_texts_155
    exact WP.bz (Or.inl rfl) (WP.ret (Or.inr ⟨rfl, z⟩))
theorem wl_87 {K V : Nat → Int32} {fu N : Nat} (hfu : 8589934592 ≤ fu) {I : Int32 → PF → PG → Prop} (hI : ∀ n f F G, LPt K V fu N n f F G → I f F G → ¬ K (F 42).toNatClampNeg = 0 → PP (mf_tells fu f F G) (fun r F1 G1 => r = 1 → I (if F1 61 = 0 then f + 0 else f + 1) F1 G1)) : ∀ (m n : Nat) (f : Int32) (F : PF) (G : PG), LPt K V fu N n f F G → I f F G → (4001 - tT F G).toNat + 1 < m → WP (ml_texts_87 fu m f 1 F G) (LQ K V fu N I) := by
  intro m
  induction m with
  | zero => intro n f F G _ _ h; omega
  | succ m ih =>
    intro n f F G hl hi hm
    have ya := hl.2.1
    have tF : 0 ≤ tT F G ∧ tT F G ≤ 4000 := ya.1.rng ya.2.2.1.1 ya.2.2.1.2
    show WP (mb_texts_87 fu (ml_texts_87 fu m) f 1 F G) _
    unfold mb_texts_87
    rw [if_neg (by decide)]
    unfold mb_texts_91
    refine WP.ix (vp_in_iff.mpr ⟨ya.2.2.1.1, by have := ya.2.2.1.2; have := ya.1.2.1; have := ya.1.2.2.2.1; omega⟩) ?_
    rw [hl.1.1]
    refine WP.ite (fun c => ?_) (fun c => ?_)
    · exact wl_127 (n := n) (f := f) (Or.inl ⟨hl, hi, c⟩)
    · have yc := (hl.yc c).1
      unfold mb_texts_103
      refine WP.bind (WP.pp (WP.pp (WP.pp (wz_tells hfu yc) (mw_tells f F G)) (mr_tells (K := K) (V := V) f F G hl.1.1 hl.1.2 ya.2.1.1)) (hI n f F G hl hi c)) ?_
      rintro r F1 G1 ⟨hi1, hr, K1, hq⟩
      dsimp only
      rcases hq with ⟨rfl, hq⟩ | ⟨rfl, z⟩
      · have hr : rtells K V fu (F 42) 0 = some (some (F1 42)) := by
          rcases hr with ⟨-, -, -, e⟩ | ⟨e, -⟩
          · rw [ya.2.1.2.2.2] at e
            exact e
          · exact absurd e (by decide)
        obtain ⟨l1, t1⟩ := hl.st c ⟨K1.2 4 rfl, K1.2 5 rfl⟩ hr hq
        have i1 := hi1 rfl
        unfold mb_texts_108
        refine WP.ite (fun c61 => ?_) (fun c61 => ?_)
        · rw [if_pos c61] at l1 i1
          unfold mb_texts_121 mb_texts_122
          exact ih (n + 1) (f + 0) F1 G1 l1 i1 (by omega)
        · rw [if_neg c61] at l1 i1
          unfold mb_texts_117 mb_texts_122
          exact ih (n + 1) (f + 1) F1 G1 l1 i1 (by omega)
      · obtain ⟨m, rfl⟩ : ∃ k, m = k + 1 := ⟨m - 1, by omega⟩
        have ex : ∀ x : Int32, WP (ml_texts_87 fu (m + 1) x 0 F1 G1) (LQ K V fu N I) := by
          intro x
          show WP (mb_texts_87 fu (ml_texts_87 fu m) x 0 F1 G1) _
          unfold mb_texts_87
          rw [if_pos rfl]
          exact wl_127 (n := n) (f := f) (Or.inr z)
        unfold mb_texts_108
        refine WP.ite (fun c61 => ?_) (fun c61 => ?_)
        · unfold mb_texts_121 mb_texts_122
          exact ex _
        · unfold mb_texts_117 mb_texts_122
          exact ex _
