theorem FNT.mono {F F1 : PF} {G G1 : PG} {g : Nat} (h : FNT F G g) (e24 : F1 24 = F 24) (ek : kindsOf G1 = kindsOf G) (l37 : (F 37).toInt ≤ (F1 37).toInt) (e28 : G1 28 g = G 28 g) (e29 : G1 29 g = G 29 g) (e30 : G1 30 g = G 30 g) (C : CB F G G1) (S : sN F ≤ sN F1) : FNT F1 G1 g := by
  obtain ⟨a, ⟨A, n, b1, b2, b3, b4, b5, b6⟩, c, o, o1, o2, o3, o4⟩ := h
  unfold FNT TYP
  rw [e28, e29, e30, ek]
  refine ⟨a, ⟨A, n, b1, by omega, b3, fun k k1 k2 => ?_, b5, b6⟩, c, o, o1, o2, o3, o4⟩
  have hx : XL (XF F G g) (XF F1 G1 g) := by
    refine ⟨rfl, ?_, ek, ?_, ?_, ?_⟩
    · show (F1 24).toInt.toNat = (F 24).toInt.toNat
      rw [e24]
    · show (F 37).toInt.toNat ≤ (F1 37).toInt.toNat
      omega
    · show (G 29 g).toInt.toNat ≤ (G1 29 g).toInt.toNat
      rw [e29]
      exact Nat.le_refl _
    · show kindsOf G1 g = kindsOf G g
      rw [ek]
  exact TT.mono hx ((b4 k k1 k2).ext (by omega) (fun _ _ => rfl) (Nat.le_refl _) (C k (by omega)))
/-- along pass 1: all that is told so far is typed -/
def TW (f : Int32) (F : PF) (G : PG) : Prop := F 46 = 1 ∧ (F 47 = 0 → ∀ g : Nat, (g : Int) < f.toInt → (G 27 g).toInt ≤ 4) ∧ NP F G ∧ (FTb F G → GI F G ∧ (F 47 = 0 → ∀ g : Nat, (g : Int) < f.toInt → FNT F G g))
theorem tw_tells {fu N : Nat} (hfu : 8589934592 ≤ fu) {K V : Nat → Int32} (n : Nat) (f : Int32) (F : PF) (G : PG) (hl : LPt K V fu N n f F G) (h : TW f F G) (hk : ¬ K (F 42).toNatClampNeg = 0) : PP (mf_tells fu f F G) (fun r F1 G1 => r = 1 → TW (if F1 61 = 0 then f + 0 else f + 1) F1 G1) := by
  obtain ⟨yc, lt⟩ := hl.yc hk
  obtain ⟨h46, t1, t2, t3⟩ := h
  have tl : PP (mf_tells fu f F G) (fun r F1 G1 => ((TQ1 fu f F G r F1 G1 ∧ M7 F F1) ∧ (r = 1 → NP F1 G1)) ∧ (isfn (G 4) (G 5) (F 42) = true → FZR (FTb F G ∧ GI F G) f (flT (G 4) (G 5) fu (F 42 + 1 + 1)) F G r F1 G1 ∧ (r = 1 → F1 37 = F 37))) := by
    refine PP.and (PP.and (PP.and (wz_tells hfu yc).p (mn_tells f F G)) (nn_tells hfu yc (fun z => absurd (z.symm.trans h46) (by decide)) t2)) ?_
    by_cases c : isfn (G 4) (G 5) (F 42) = true
    · obtain ⟨⟨g4, g5⟩, ya, hf, hp, hh⟩ := hl
      rcases hh with ⟨e, -⟩ | ⟨-, hn, hN, hr, hc⟩
      · rw [h46] at e
        exact absurd e (by decide)
      · have rc := (hr n (lt h46) (F 42) f.toInt.toNat hp (by rw [← g4, ← g5]; exact c)).2.1
        rw [← g4, ← g5] at rc
        exact PP.mono (gz_tells hfu yc h46 c rc.1 rc.kinds) (fun _ _ _ q _ => q)
    · exact fun r F1 G1 _ e => absurd e c
  refine PP.mono tl ?_
  rintro r F1 G1 ⟨⟨⟨q, m7⟩, np⟩, z⟩ rfl
  have np := np rfl
  have fb := yc.2.1
  have tF : 0 ≤ tT F G ∧ tT F G ≤ 4000 := yc.1.1.rng yc.1.2.2.1.1 yc.1.2.2.1.2
  rcases q with ⟨-, ⟨nf, c61, ya1, gi, K1, ht, cb, e60, l37⟩ | ⟨isf, c61, ya1, e46, ht, -, p1⟩⟩ | ⟨e, -⟩
  · have e0 : (if F1 61 = 0 then f + 0 else f + 1) = f := by
      rw [if_pos c61]
      exact Int32.add_zero f
    rw [e0]
    have i24 : F1 24 = F 24 := K1.1 24 rfl
    refine ⟨(K1.1 46 rfl).trans h46, fun u g hg => by rw [K1.2 27 rfl]; exact t1 (m7 u) g hg, np, fun ft => ?_⟩
    have ft0 : FTb F G := by
      unfold FTb at ft ⊢
      rw [i24, K1.2 27 rfl, K1.2 31 rfl, K1.2 34 rfl] at ft
      exact ft
    obtain ⟨u1, u2⟩ := t3 ft0
    exact ⟨gi u1, fun u g hg => (u2 (m7 u) g hg).mono i24 (kinds_eq (K1.2 27 rfl) (K1.2 31 rfl) (K1.2 34 rfl)) l37 (by rw [K1.2 28 rfl]) (by rw [K1.2 29 rfl]) (by rw [K1.2 30 rfl]) cb (by show (F 60).toNatClampNeg ≤ (F1 60).toNatClampNeg; rw [e60]; exact Nat.le_refl _)⟩
  · obtain ⟨z1, z2⟩ := z isf
    obtain ⟨y1, y2, y3, y4, y5⟩ := z1 rfl
    have e37 := z2 rfl
    have n46 : ¬ F 46 = 0 := by rw [h46]; decide
    obtain ⟨r1, r2, r3, r4, r5, r6, r7⟩ := p1 n46
    rw [if_neg (show ¬ F1 61 = 0 by rw [c61]; decide)]
    have f1 : (f + 1).toInt = f.toInt + 1 := i_addn _ rfl (by omega) (by omega)
    have fn : f.toNatClampNeg = f.toInt.toNat := rfl
    have rl : (G 27 f.toNatClampNeg).toInt = (flT (G 4) (G 5) fu (F 42 + 1 + 1)).length := by
      rcases yc.2.2.2 with e | e
      · exact absurd e n46
      · exact e isf
    refine ⟨e46.trans h46, fun u g hg => ?_, np, fun ft => ?_⟩
    · rw [r3]
      by_cases c : (g : Int) < f.toInt
      · exact t1 (m7 u) g c
      · have e : g = f.toNatClampNeg := by rw [fn]; omega
        rw [e, rl]
        have := y1 u
        omega
    · have ft0 : FTb F G := by
        unfold FTb at ft ⊢
        rw [r1, r3, r4, r5] at ft
        exact ft
      obtain ⟨u1, u2⟩ := t3 ft0
      by_cases u : F1 47 = 0
      · obtain ⟨v1, v2⟩ := y5 u ⟨ft0, u1⟩
        refine ⟨v1, fun _ g hg => ?_⟩
        by_cases c : (g : Int) < f.toInt
        · obtain ⟨w1, w2, w3⟩ := y4 g (by rw [fn]; omega)
          exact (u2 (m7 u) g c).mono r1 (kinds_eq r3 r4 r5) (by rw [e37]; exact Int.le_refl _) w1 w2 w3 y2 y3
        · have e : g = f.toNatClampNeg := by rw [fn]; omega
          rw [e]
          exact v2
      · exact ⟨fun _ e => absurd e u, fun e => absurd e u⟩
  · exact absurd e (by decide)
theorem pth.pre {K V : Nat → Int32} {fu n g1 : Nat} {t1 : Int32} (h : pth K V fu (n + 1) = some (t1, g1)) : ∃ t g, pth K V fu n = some (t, g) ∧ rtells K V fu t 0 = some (some t1) ∧ g1 = (if isfn K V t = true then g + 1 else g) := by
  have h : (match pth K V fu n with
    | some (t, g) => (match rtells K V fu t 0 with
      | some (some t1) => some (t1, if isfn K V t = true then g + 1 else g)
      | _ => none)
    | none => none) = some (t1, g1) := h
  cases hp : pth K V fu n with
  | none =>
    rw [hp] at h
    exact absurd h (fun e => nomatch e)
  | some x =>
    obtain ⟨t, g⟩ := x
    rw [hp] at h
    have h : (match rtells K V fu t 0 with
      | some (some t1) => some (t1, if isfn K V t = true then g + 1 else g)
      | _ => none) = some (t1, g1) := h
    cases hr : rtells K V fu t 0 with
    | none =>
      rw [hr] at h
      exact absurd h (fun e => nomatch e)
    | some y =>
      cases y with
      | none =>
        rw [hr] at h
        exact absurd h (fun e => nomatch e)
      | some t2 =>
        rw [hr] at h
        have h := Option.some.inj h
        rw [Prod.mk.injEq] at h
        exact ⟨t, g, rfl, by rw [hr, h.1], h.2.symm⟩
theorem pth.up {K V : Nat → Int32} {fu : Nat} : ∀ (d n g1 : Nat) (t1 : Int32), pth K V fu (n + d) = some (t1, g1) → ∃ t g, pth K V fu n = some (t, g) ∧ g ≤ g1 := by
  intro d
  induction d with
  | zero => intro n g1 t1 h; exact ⟨t1, g1, h, Nat.le_refl _⟩
  | succ d ih =>
    intro n g1 t1 h
    obtain ⟨t, g, a, -, c⟩ := pth.pre (n := n + d) h
    obtain ⟨t2, g2, b1, b2⟩ := ih n g t a
    refine ⟨t2, g2, b1, ?_⟩
    by_cases e : isfn K V t = true
    · rw [if_pos e] at c
      omega
    · rw [if_neg e] at c
      omega
theorem rt_end {K V : Nat → Int32} {fu : Nat} {t t1 : Int32} (h : K t.toNatClampNeg = 0) : ¬ rtells K V fu t 0 = some (some t1) := by
  have w : ∀ x, ¬ wdn K V t x = true := by
    intro x e
    have := (of_decide_eq_true e).1
    rw [h] at this
    exact absurd this (by decide)
  unfold rtells
  rw [if_neg (w 3), if_neg (w 2), if_neg (w 1), if_neg (w 0)]
  exact fun e => nomatch e
/-- all texts, typed where nothing was found -/
def WTX (K V : Nat → Int32) (fu N : Nat) (F : PF) (G : PG) : Prop := (G 4 = K ∧ G 5 = V) ∧ YA F G ∧ F 46 = 1 ∧ NP F G ∧ RC1 K V fu N F G ∧ CM1 K V fu N F ∧ (F 47 = 0 → GI F G ∧ FTb F G ∧ ∀ g : Nat, (g : Int) < (F 24).toInt → FNT F G g)
theorem wz_texts1T {fu N : Nat} (hfu : 8589934592 ≤ fu) {K V : Nat → Int32} (F : PF) (G : PG) (h : P1 K V fu N F G) (h46 : F 46 = 1) (hn : NP F G) : WP (mf_texts fu F G) (fun r F1 G1 => (r = 1 ∧ WTX K V fu N F1 G1) ∨ (r = 0 ∧ 0 < (F1 44).toInt)) := by
  refine WP.mono (wz_texts1 hfu F G h h46 (I := TW) (fun n f F G hl hi hk => tw_tells hfu n f F G hl hi hk) (fun Fi hi => ?_)) ?_
  · obtain ⟨KK, b1, b2, b3, b4, b5, b6, b7, b8, p0, p1⟩ := hi
    have z : (0 : Int32).toInt = 0 := rfl
    refine ⟨(KK.1 46 rfl).trans h46, fun _ g hg => by omega, ⟨hn.1, fun g hg => hn.2 g (by rw [(p1 (by rw [h46]; decide)).1] at hg; exact hg)⟩, fun _ => ⟨fun _ _ => ⟨b4, fun k hk => ?_, ?_, fun k hk => ?_⟩, fun _ g hg => by omega⟩⟩
    · rw [b3] at hk
      omega
    · rw [b7]
      decide
    · rw [b7] at hk
      omega
  · rintro r F1 G1 (⟨rfl, h44, h8, n, f, ⟨g, ya, hf, hp, hh⟩, ⟨w46, w1, w2, w3⟩, hk⟩ | q)
    · refine Or.inl ⟨rfl, g, ya, w46, w2, ?_⟩
      rcases hh with ⟨c, -⟩ | ⟨c, hN, ⟨tn, gn, u1, u2⟩, hr, hc⟩
      · rw [w46] at c
        exact absurd c (by decide)
      · have en : n = N := by
          rcases Nat.lt_or_ge n N with q | q
          · obtain ⟨d, rfl⟩ : ∃ d, N = n + 1 + d := ⟨N - (n + 1), by omega⟩
            obtain ⟨t2, g2, a, -⟩ := pth.up d (n + 1) gn tn u1
            obtain ⟨t3, g3, a1, a2, -⟩ := pth.pre a
            rw [hp] at a1
            have a1 := Option.some.inj a1
            rw [Prod.mk.injEq] at a1
            rw [← a1.1] at a2
            exact absurd a2 (rt_end hk)
          · omega
        subst en
        have cnt : ∀ k : Nat, (k : Int) < (F1 24).toInt → (k : Int) < f.toInt := by
          intro k hk
          obtain ⟨i, hi, t, a, b⟩ := hc k hk
          obtain ⟨d, e⟩ : ∃ d, n = i + 1 + d := ⟨n - (i + 1), by omega⟩
          have hp' := hp
          rw [e] at hp'
          obtain ⟨t2, g2, c1, c2⟩ := pth.up d (i + 1) _ _ hp'
          obtain ⟨t3, g3, d1, -, d3⟩ := pth.pre c1
          rw [a] at d1
          have d1 := Option.some.inj d1
          rw [Prod.mk.injEq] at d1
          rw [← d1.1, b, if_pos rfl] at d3
          omega
        refine ⟨hr, hc, fun z47 => ?_⟩
        have ft : FTb F1 G1 := by
          intro k hk
          obtain ⟨i, hi, t, a, b⟩ := hc k hk
          obtain ⟨-, ⟨c1, c2, -⟩, c3⟩ := hr i hi t k a b
          have := w1 z47 k (cnt k hk)
          have b7 := ya.2.2.2.2.2.2.1
          rcases b7 with b7 | b7
          · rw [w46] at b7
            exact absurd b7 (by decide)
          · have := b7 k hk
            exact ⟨by omega, by omega, by omega, by omega, w2.1⟩
        obtain ⟨u1, u2⟩ := w3 ft
        exact ⟨u1, ft, fun k hk => u2 z47 k (cnt k hk)⟩
    · exact Or.inr q
theorem LPt.e24 {K V : Nat → Int32} {fu N n : Nat} {f : Int32} {F : PF} {G : PG} (h : LPt K V fu N n f F G) (z : F 46 = 0) : F 24 = f := by
  rcases h.2.2.2.2 with q | q
  · exact q.2.1
  · rw [z] at q
    exact absurd q.1 (by decide)
theorem wz_texts0N {fu : Nat} (hfu : 8589934592 ≤ fu) (F : PF) (G : PG) (T : TBL F G) (h44 : F 44 = 0) (h54 : F 54 = 0) (h46 : F 46 = 0) (hn : N34 G) : WP (mf_texts fu F G) (fun r F1 G1 => (r = 1 ∧ NP F1 G1 ∧ ∃ N, P1 (G 4) (G 5) fu N F1 G1) ∨ (r = 0 ∧ 0 < (F1 44).toInt)) := by
  have w : WP (mf_texts fu F G) (LQ (G 4) (G 5) fu 0 (fun _ F1 G1 => NP F1 G1)) := by
    refine wl_0 F G (fun Fi hi => ?_)
    obtain ⟨ya, t0⟩ := hi.ya T h44 h54 (Or.inl h46)
    have ya1 := ya
    obtain ⟨K, b1, b2, b3, b4, b5, b6, b7, b8, p0, p1⟩ := hi
    obtain ⟨e24, e35⟩ := p0 h46
    have z : (0 : Int32).toInt = 0 := rfl
    refine wl_87 hfu (I := fun _ F1 G1 => NP F1 G1) (fun n f F G hl hi hk => nn_tells hfu (hl.yc hk).1 (fun z => hl.e24 z) hi) fu 0 0 Fi G ⟨⟨rfl, rfl⟩, ya1, by omega, by rw [b1]; rfl, Or.inl ⟨(K.1 46 rfl).trans h46, e24, by rw [e35]; omega, ?_, ?_⟩⟩ ⟨hn, fun g hg => by rw [e24] at hg; omega⟩ (by omega)
    · intro i hi
      exact absurd hi (Nat.not_lt_zero _)
    · intro g hg
      rw [e24] at hg
      omega
  refine WP.mono (WP.pp w (mw_texts F G)) ?_
  rintro r F1 G1 ⟨KX1, h⟩
  rcases h with ⟨rfl, h44, -, n, f, ⟨g, ya, hf, hp, hh⟩, hi, hk⟩ | q
  · rcases hh with ⟨c, e24, h35, hr, hc⟩ | ⟨c, -⟩
    · have tF : 0 ≤ tT F1 G1 ∧ tT F1 G1 ≤ 4000 := ya.1.rng ya.2.2.1.1 ya.2.2.1.2
      exact Or.inl ⟨rfl, hi, n, g, ya.1, h44, ya.2.1.2.2.1, ya.2.2.2.2.2.1, by omega, ⟨F1 42, f.toInt.toNat, hp, hk, by rw [e24]; omega⟩, hr, hc⟩
    · rw [KX1.1 46 rfl, h46] at c
      exact absurd c (by decide)
  · exact Or.inr q
