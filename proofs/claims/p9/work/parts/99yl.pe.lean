/-- texts, at its beginning -/
def TI0 (F : PF) (G : PG) (Fi : PF) : Prop := KX [14, 15, 24, 35, 36, 37, 42, 43, 50, 60, 70] [] F G Fi G ∧ Fi 42 = 0 ∧ Fi 43 = 0 ∧ Fi 14 = 0 ∧ Fi 15 = 0 ∧ Fi 60 = 0 ∧ Fi 70 = 0 ∧ Fi 36 = 0 ∧ Fi 37 = 0 ∧ (F 46 = 0 → Fi 24 = 0 ∧ Fi 35 = 0) ∧ (¬ F 46 = 0 → Fi 24 = F 24 ∧ Fi 35 = F 35)
theorem wl_0 {fu : Nat} (F : PF) (G : PG) {Q : Int32 → PF → PG → Prop} (h : ∀ Fi, TI0 F G Fi → WP (ml_texts_87 fu fu 0 1 Fi G) Q) : WP (mf_texts fu F G) Q := by
  unfold mf_texts mb_texts_0 mb_texts_5 mb_texts_10 mb_texts_15 mb_texts_20 mb_texts_25 mb_texts_30 mb_texts_35 mb_texts_40
  have Ka : KX [14, 15, 24, 35, 36, 37, 42, 43, 50, 60, 70] [] F G (fup (fup (fup (fup (fup (fup (fup (fup (fup F 42 0) 43 0) 14 0) 15 0) 60 0) 70 0) 36 0) 37 0) 50 (-1)) G := KX.f rfl (KX.f rfl (KX.f rfl (KX.f rfl (KX.f rfl (KX.f rfl (KX.f rfl (KX.f rfl (KX.f rfl KX.rf))))))))
  have a1 : (fup (fup (fup (fup (fup (fup (fup (fup (fup F 42 0) 43 0) 14 0) 15 0) 60 0) 70 0) 36 0) 37 0) 50 (-1)) 42 = 0 := rfl
  have a2 : (fup (fup (fup (fup (fup (fup (fup (fup (fup F 42 0) 43 0) 14 0) 15 0) 60 0) 70 0) 36 0) 37 0) 50 (-1)) 43 = 0 := rfl
  have a3 : (fup (fup (fup (fup (fup (fup (fup (fup (fup F 42 0) 43 0) 14 0) 15 0) 60 0) 70 0) 36 0) 37 0) 50 (-1)) 14 = 0 := rfl
  have a4 : (fup (fup (fup (fup (fup (fup (fup (fup (fup F 42 0) 43 0) 14 0) 15 0) 60 0) 70 0) 36 0) 37 0) 50 (-1)) 15 = 0 := rfl
  have a5 : (fup (fup (fup (fup (fup (fup (fup (fup (fup F 42 0) 43 0) 14 0) 15 0) 60 0) 70 0) 36 0) 37 0) 50 (-1)) 60 = 0 := rfl
  have a6 : (fup (fup (fup (fup (fup (fup (fup (fup (fup F 42 0) 43 0) 14 0) 15 0) 60 0) 70 0) 36 0) 37 0) 50 (-1)) 70 = 0 := rfl
  have a7 : (fup (fup (fup (fup (fup (fup (fup (fup (fup F 42 0) 43 0) 14 0) 15 0) 60 0) 70 0) 36 0) 37 0) 50 (-1)) 36 = 0 := rfl
  have a8 : (fup (fup (fup (fup (fup (fup (fup (fup (fup F 42 0) 43 0) 14 0) 15 0) 60 0) 70 0) 36 0) 37 0) 50 (-1)) 37 = 0 := rfl
  have a9 : (fup (fup (fup (fup (fup (fup (fup (fup (fup F 42 0) 43 0) 14 0) 15 0) 60 0) 70 0) 36 0) 37 0) 50 (-1)) 46 = F 46 := rfl
  have a10 : (fup (fup (fup (fup (fup (fup (fup (fup (fup F 42 0) 43 0) 14 0) 15 0) 60 0) 70 0) 36 0) 37 0) 50 (-1)) 24 = F 24 := rfl
  have a11 : (fup (fup (fup (fup (fup (fup (fup (fup (fup F 42 0) 43 0) 14 0) 15 0) 60 0) 70 0) 36 0) 37 0) 50 (-1)) 35 = F 35 := rfl
  generalize fup (fup (fup (fup (fup (fup (fup (fup (fup F 42 0) 43 0) 14 0) 15 0) 60 0) 70 0) 36 0) 37 0) 50 (-1) = Fa at Ka a1 a2 a3 a4 a5 a6 a7 a8 a9 a10 a11
  unfold mb_texts_45
  rw [a9]
  refine WP.ite (fun c => ?_) (fun c => ?_)
  · unfold mb_texts_53 mb_texts_61 mb_texts_64
    rw [if_pos (show (fup Fa 24 0) 46 = 0 from a9.trans c)]
    unfold mb_texts_74 mb_texts_82 mb_texts_85
    exact h _ ⟨KX.f rfl (KX.f rfl Ka), a1, a2, a3, a4, a5, a6, a7, a8, fun _ => ⟨rfl, rfl⟩, fun n => absurd c n⟩
  · unfold mb_texts_57 mb_texts_61 mb_texts_64
    rw [if_neg (show ¬ (fup Fa 24 (Fa 24)) 46 = 0 from fun e => c (a9.symm.trans e))]
    unfold mb_texts_78 mb_texts_82 mb_texts_85
    exact h _ ⟨KX.f rfl (KX.f rfl Ka), a1, a2, a3, a4, a5, a6, a7, a8, fun n => absurd n c, fun _ => ⟨a10, a11⟩⟩
theorem TI0.ya {F Fi : PF} {G : PG} (h : TI0 F G Fi) (T : TBL F G) (h44 : F 44 = 0) (h54 : F 54 = 0) (h1 : F 46 = 0 ∨ ((0 ≤ (F 24).toInt ∧ (F 24).toInt ≤ 500) ∧ ∀ g : Nat, (g : Int) < (F 24).toInt → 0 ≤ (G 27 g).toInt ∧ 0 ≤ (G 31 g).toInt ∧ (G 31 g).toInt + (G 27 g).toInt ≤ 900)) : YA Fi G ∧ 0 ≤ tT Fi G := by
  obtain ⟨K, b1, b2, b3, b4, b5, b6, b7, b8, p0, p1⟩ := h
  have T1 : TBL Fi G := T.kx K rfl rfl rfl rfl rfl
  have z : (0 : Int32).toInt = 0 := rfl
  have h7 : 0 ≤ (Fi 7).toInt := by rw [K.1 7 rfl]; exact T.2.2.1
  have t0 := T1.rng (t := Fi 42) (by rw [b1]; decide) (by rw [b1]; exact h7)
  have te : tT Fi G = (G 6 (Fi 42).toNatClampNeg).toInt := rfl
  refine ⟨⟨T1, ⟨(K.1 44 rfl).trans h44, b6, (K.1 54 rfl).trans h54, b2⟩, ⟨by rw [b1]; decide, by rw [b1]; exact h7⟩, ⟨by rw [b5]; decide, by rw [b5]; omega⟩, ⟨by rw [b3]; decide, by rw [b3]; omega⟩, ?_, ?_, ?_⟩, by omega⟩
  · by_cases c : F 46 = 0
    · rw [(p0 c).1]
      decide
    · rw [(p1 c).1]
      rcases h1 with z | z
      · exact absurd z c
      · exact z.1
  · rw [K.1 46 rfl]
    rcases h1 with z | z
    · exact Or.inl z
    · by_cases c : F 46 = 0
      · exact Or.inl c
      · rw [(p1 c).1]
        exact Or.inr z.2
  · rw [b7, b8]
    omega
theorem wz_texts0 {fu : Nat} (hfu : 8589934592 ≤ fu) (F : PF) (G : PG) (T : TBL F G) (h44 : F 44 = 0) (h54 : F 54 = 0) (h46 : F 46 = 0) : WP (mf_texts fu F G) (LQ (G 4) (G 5) fu 0 (fun _ _ _ => True)) := by
  refine wl_0 F G (fun Fi hi => ?_)
  obtain ⟨ya, t0⟩ := hi.ya T h44 h54 (Or.inl h46)
  have ya1 := ya
  obtain ⟨K, b1, b2, b3, b4, b5, b6, b7, b8, p0, p1⟩ := hi
  obtain ⟨e24, e35⟩ := p0 h46
  have z : (0 : Int32).toInt = 0 := rfl
  refine wl_87 hfu (fun n f F G _ _ _ => fun r F1 G1 _ _ => trivial) fu 0 0 Fi G ⟨⟨rfl, rfl⟩, ya1, by omega, by rw [b1]; rfl, Or.inl ⟨(K.1 46 rfl).trans h46, e24, by rw [e35]; omega, ?_, ?_⟩⟩ trivial (by omega)
  · intro i hi
    exact absurd hi (Nat.not_lt_zero _)
  · intro g hg
    rw [e24] at hg
    omega
/-- what pass 0 leaves for pass 1 -/
def P1 (K V : Nat → Int32) (fu N : Nat) (F : PF) (G : PG) : Prop := (G 4 = K ∧ G 5 = V) ∧ TBL F G ∧ F 44 = 0 ∧ F 54 = 0 ∧ (0 ≤ (F 24).toInt ∧ (F 24).toInt ≤ 500) ∧ (F 35).toInt ≤ 800 ∧ (∃ t g, pth K V fu N = some (t, g) ∧ K t.toNatClampNeg = 0 ∧ (F 24).toInt = g) ∧ RC1 K V fu N F G ∧ CM1 K V fu N F
theorem LQ.p1 {K V : Nat → Int32} {fu : Nat} {F1 : PF} {G1 : PG} (h : LQ K V fu 0 (fun _ _ _ => True) 1 F1 G1) (h46 : F1 46 = 0) : ∃ N, P1 K V fu N F1 G1 := by
  rcases h with ⟨-, h44, -, n, f, ⟨g, ya, hf, hp, hh⟩, -, hk⟩ | ⟨e, -⟩
  · rcases hh with ⟨c, e24, h35, hr, hc⟩ | ⟨c, -⟩
    · have tF : 0 ≤ tT F1 G1 ∧ tT F1 G1 ≤ 4000 := ya.1.rng ya.2.2.1.1 ya.2.2.1.2
      exact ⟨n, g, ya.1, h44, ya.2.1.2.2.1, ya.2.2.2.2.2.1, by omega, ⟨F1 42, f.toInt.toNat, hp, hk, by rw [e24]; omega⟩, hr, hc⟩
    · exact absurd (h46.symm.trans c) (by decide)
  · exact absurd e (by decide)
theorem P1.bd {K V : Nat → Int32} {fu N : Nat} {F : PF} {G : PG} (h : P1 K V fu N F G) : ∀ g : Nat, (g : Int) < (F 24).toInt → 0 ≤ (G 27 g).toInt ∧ 0 ≤ (G 31 g).toInt ∧ (G 31 g).toInt + (G 27 g).toInt ≤ 900 := by
  obtain ⟨-, -, -, -, -, h35, -, hr, hc⟩ := h
  intro g hg
  obtain ⟨i, hi, t, a, b⟩ := hc g hg
  obtain ⟨-, ⟨c1, c2, -⟩, c3⟩ := hr i hi t g a b
  omega
theorem wz_texts1 {fu N : Nat} (hfu : 8589934592 ≤ fu) {K V : Nat → Int32} (F : PF) (G : PG) (h : P1 K V fu N F G) (h46 : F 46 = 1) {I : Int32 → PF → PG → Prop} (hI : ∀ n f F G, LPt K V fu N n f F G → I f F G → ¬ K (F 42).toNatClampNeg = 0 → PP (mf_tells fu f F G) (fun r F1 G1 => r = 1 → I (if F1 61 = 0 then f + 0 else f + 1) F1 G1)) (h0 : ∀ Fi, TI0 F G Fi → I 0 Fi G) : WP (mf_texts fu F G) (LQ K V fu N I) := by
  refine wl_0 F G (fun Fi hi => ?_)
  have hb := h.bd
  have i0 := h0 Fi hi
  obtain ⟨g, T, h44, h54, h24, h35, hN, hr, hc⟩ := h
  have n46 : ¬ F 46 = 0 := by rw [h46]; decide
  obtain ⟨ya, t0⟩ := hi.ya T h44 h54 (Or.inr ⟨h24, hb⟩)
  have ya1 := ya
  obtain ⟨KK, b1, b2, b3, b4, b5, b6, b7, b8, p0, p1⟩ := hi
  obtain ⟨e24, e35⟩ := p1 n46
  have z : (0 : Int32).toInt = 0 := rfl
  obtain ⟨tn, gn, u1, u2, -⟩ := hN
  refine wl_87 hfu hI fu 0 0 Fi G ⟨g, ya1, by omega, by rw [b1]; rfl, Or.inr ⟨(KK.1 46 rfl).trans h46, Nat.zero_le _, ⟨tn, gn, u1, u2⟩, ?_, ?_⟩⟩ i0 (by omega)
  · intro i hi t g a b
    have := hr i hi t g a b
    rw [e24, e35]
    exact this
  · intro g hg
    rw [e24] at hg
    exact hc g hg
