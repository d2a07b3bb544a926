/-- how the first pass may end -/
def jQ0 (fu N K n : Nat) (Kk V : Nat → Int32) (c27 : Int32) (r1 : Int32) (F1 : PF) (G1 : PG) (r2 : Int32) (F2 : PF) (G2 : PG) : Prop := jEnd F1 F2 ∨ (r1 = 0 ∧ r2 = 1 ∧ ∃ (X : JCX) (m q t f : Nat) (φ : Nat → Nat), jLI fu 0 N K n 0 0 Kk V c27 0 Kk Kk X m N q f t f φ F1 G1 F2 G2)
/-- the tables of functions are alike -/
def jTab (f : Nat) (F1 : PF) (G1 : PG) (F2 : PF) (G2 : PG) : Prop := (F1 74).toInt = f ∧ (F2 24).toInt = f ∧ F2 36 = F1 75 ∧ (∀ y : Nat, y < f → ((G2 33 y = 0 ∧ G1 82 y = 1) ∨ (¬ G2 33 y = 0 ∧ G1 82 y = 0)) ∧ G1 77 y = G2 26 y ∧ G1 78 y = G2 27 y ∧ G1 79 y = G2 28 y) ∧ ∃ (gl : JLY) (K : Nat → List Nat), ((F1 75).toInt = jsW gl ∧ (F2 37).toInt = jsC gl ∧ jsW gl ≤ 2000) ∧ (∀ g : Nat, g < f → jFC gl K g (sN F2) (wN F1) G1 G2) ∧ jFT f K F1 G1 G2 ∧ jF0 gl (G1 86) (G2 41) ∧ jL0 gl (G2 38) (G2 39) (G2 40)
/-- how the second pass may end -/
def jQ1 (f : Nat) (c27 c76 : Int32) (T25 T32 : Nat → Int32) (F1 : PF) (G1 : PG) (F2 : PF) (G2 : PG) : Prop := jEnd F1 F2 ∨ ((F1 43).toInt ≤ 4000 ∧ ∃ y : Nat, y < f ∧ T25 y = c27 ∧ ¬ T32 y = -1) ∨ (F2 47 = 0 ∧ (∀ y : Nat, y < f → T25 y = c27 → T32 y = -1) ∧ ((c76 = -1 ∧ (F1 43).toInt ≤ 4000) ∨ (¬ c76 = -1 ∧ F1 43 = 4001 ∧ F1 76 = c76 ∧ jTab f F1 G1 F2 G2)))
section JR2
variable {fu : Nat} {N K n : Nat} {c27 : Int32} {Fc Fm F1 F2 F3 F4 : PF} {Gc Gm G1 G2 G3 : PG}
/-- the reference, where its text ends -/
theorem mt_127 {Fb : PF} {Gb : PG} (h44 : Fb 44 = 0) (h8 : Fb 8 = -1) : mb_texts_127 fu Fb Gb = some (1, Fb, Gb) := by
  unfold mb_texts_127
  rw [if_pos h44]
  unfold mb_texts_134
  rw [if_pos h8]
  rfl
theorem TKE.bad (S : TKE N K n Fc Gc Fm Gm) (h : Gc 90 N = 0) : Fm 8 = -1 := by
  rcases S.2.2.2.2.2.2 with ⟨-, -, y⟩ | ⟨y, -⟩
  · exact y
  · rw [h] at y
    exact absurd y (by decide)
/-- the first pass -/
theorem jt_pass0 (hfu : 8589934592 ≤ fu) (S : TKE N K n Fc Gc Fm Gm) (p0t : 0 ≤ (Gm 6 0).toInt) (K8 : K ≤ 1408) (i6 : Fc 6 = 0) (i41 : Fc 41 = 0) (i43 : Fc 43 = 4001) (i46 : Fc 46 = 0) (i47 : Fc 47 = 1) (i74 : Fc 74 = 0) (i76 : Fc 76 = -1) (i85 : Fc 85 = 0) (g40 : ∀ k : Nat, k < K → Gc 40 k = -1) (xb : jXB Fc) (e27 : Fc 27 = c27) (TB : TBL Fm Gm) (m44 : Fm 44 = 0) (m47 : Fm 47 = 0) (m54 : Fm 54 = 0) (m46 : Fm 46 = 0) : JP (cf_X4_walk fu 0 Fc Gc) (mf_texts fu Fm Gm) (fun r1 F1 G1 r2 F2 G2 => jQ0 fu N K n (Gm 4) (Gm 5) c27 r1 F1 G1 r2 F2 G2) := by
  have z0 : (0 : Int32).toInt = 0 := rfl
  obtain ⟨Fi, ti, et⟩ := mt_start (fu := fu) Fm Gm
  have L := lp_start0 (fu := fu) TB m44 m54 m46 ti
  obtain ⟨ki, j42, j43, j14, j15, j60, j70, j36, j37, jz, -⟩ := ti
  obtain ⟨j24, j35⟩ := jz m46
  unfold cf_X4_walk cb_X4_walk_0
  rw [et]
  refine JP.L (cp_cstart S (.inl rfl)) ?_
  rintro r F1 G1 ⟨rfl, k1, ⟨e28, e29, e42, e45, e7, e21, e10⟩, cur⟩
  dsimp only
  unfold cb_X4_walk_5
  rcases cur with ⟨c9, c11, c12, c13, c14, cN⟩ | ⟨d1, d2, d3⟩
  · have S1 : TKE N K n F1 Gc Fi Gm := S.keep (k1.1 93 rfl) rfl rfl rfl (ki.1 7 rfl) (ki.1 8 rfl) rfl rfl rfl
    have C : CU N 0 F1 Gc Fi Gm := ⟨Nat.zero_le _, c9, j42, by rw [e10, j43], by rw [e10]; decide, by rw [e10]; decide, c14, (ki.1 44 rfl).trans m44, c11, c12, c13, cN⟩
    refine jt_loop (p := 0) (N := N) (K := K) (n := n) (Kk := Gm 4) (V := Gm 5) (Q := fun r1 F1 G1 r2 F2 G2 => jQ0 fu N K n (Gm 4) (Gm 5) c27 r1 F1 G1 r2 F2 G2) (M := 0) (nf0 := 0) (c27 := c27) (c76 := 0) (T25 := Gm 4) (T32 := Gm 4) hfu (fun _ _ _ _ _ _ h => .inl h) (fun _ _ _ _ _ _ z => absurd z (by decide)) (fun X m q nf t f φ Fa Ga Fb Gb inv => ?_) fu fu 0 (false, [], [], fun _ => []) 0 0 0 0 0 0 (fun _ => 0) F1 Gc Fi Gm ⟨?_, L, (k1.1 27 rfl).trans e27, fun _ => ⟨.inl ⟨(k1.1 76 rfl).trans i76, fun y hy => absurd hy (Nat.not_lt_zero _)⟩, fun m' hm' => absurd hm' (Nat.not_lt_zero _)⟩, fun z => absurd z (by decide)⟩ (Nat.le_refl _)
    · have inv' := inv
      obtain ⟨T, L, -⟩ := inv
      have CN := T.1.2.1.1
      have enf := (T.2.2.2.2.2.1 rfl).1
      subst enf
      rw [mt_127 CN.2.2.2.2.2.2.2.1 (T.1.1.1.bad (CN.2.2.2.2.2.2.2.2.2.2.2 rfl))]
      have e45' : Fa 45 = 0 := T.1.1.2.2.1.2.1
      have en : ∀ x y : Int32, cf_X5_note fu x y Fa Ga = some (0, Fa, Ga) := fun x y => by
        unfold cf_X5_note cb_X5_note_0
        rw [if_pos e45']
        rfl
      have e278 : cb_X4_walk_278 fu 0 Fa Ga = some (Fa 14, Fa, Ga) := by
        unfold cb_X4_walk_278
        rw [if_pos rfl]
        rfl
      have e251 : cb_X4_walk_251 fu 0 Fa Ga = some (Fa 14, Fa, Ga) := by
        unfold cb_X4_walk_251
        by_cases c : Fa 76 = -1
        · rw [if_pos c]
          unfold cb_X4_walk_262
          rw [en]
          exact e278
        · rw [if_neg c]
          exact e278
      rw [e251]
      exact JP.ret (.inr ⟨CN.2.2.2.2.2.2.1, rfl, X, m, q, t, nf, φ, inv'⟩)
    · refine ⟨⟨⟨S1, .inl rfl, ⟨(ki.1 46 rfl).trans m46, e45, e7⟩, ?_, .inl ((ki.1 54 rfl).trans m54), fun z => absurd z (by decide)⟩, ⟨C, ⟨(ki.1 47 rfl).trans m47, (k1.1 43 rfl).trans i43, (k1.1 47 rfl).trans i47⟩, ⟨by rw [e21]; decide, by rw [e21, z0]; exact p0t⟩, ?_, by rw [j60]; decide, by rw [j70]; decide⟩, ?_⟩, ⟨rfl, rfl, (ki.1 54 rfl).trans m54, xb.kx k1 rfl⟩, ⟨e29, e42, j15⟩, ⟨e28, Nat.le_refl _⟩, ⟨fun y hy => absurd hy (Nat.not_lt_zero _), fun x y _ hy => absurd hy (Nat.not_lt_zero _)⟩, fun _ => ⟨rfl, ⟨?_, Nat.le_refl _⟩, ⟨?_, fun y hy => absurd hy (Nat.not_lt_zero _), fun x y _ hy => absurd hy (Nat.not_lt_zero _), fun y hy => absurd hy (Nat.not_lt_zero _), fun y hy => absurd hy (Nat.not_lt_zero _)⟩, ⟨K8, fun k hk => .inl ⟨g40 k hk, fun y hy => absurd hy (Nat.not_lt_zero _)⟩, fun y hy => absurd hy (Nat.not_lt_zero _)⟩, ⟨?_, by omega, fun y hy => absurd hy (Nat.not_lt_zero _)⟩, ⟨?_, by rw [j35]; decide⟩, ⟨?_, ?_⟩, fun y hy => absurd hy (Nat.not_lt_zero _)⟩, fun z => absurd z (by decide)⟩
      · rw [k1.1 46 rfl, ki.1 54 rfl, i46, m54]
      · rw [k1.1 6 rfl, i6]; decide
      · rw [k1.1 6 rfl, i6, z0]; omega
      · rw [k1.1 41 rfl, i41]; rfl
      · rw [j24]; rfl
      · rw [k1.1 74 rfl, i74]; rfl
      · rw [k1.1 85 rfl, i85, j35]
      · omega
      · rw [j35, z0]; omega
  · exact JP.fin (kw_7 fu F1 0 0 F1 Gc CFS.rf) (nqz_texts_87 fu 0 1 Fi Gm MFS.rf) (.inr ⟨d1, d2, .inr (by rw [ki.1 8 rfl]; exact d3)⟩) (fun _ _ _ _ _ _ h => .inl h)
/-- the second pass -/
theorem jt_pass1 {X : JCX} {m q t f : Nat} {φ : Nat → Nat} {Kk V : Nat → Int32} (hfu : 8589934592 ≤ fu) (inv : jLI fu 0 N K n 0 0 Kk V c27 0 Kk Kk X m N q f t f φ F1 G1 F2 G2) (i6 : F1 6 = 0) (i75 : F1 75 = 0) (z86 : ∀ i : Nat, i < 2000 → G1 86 i = 0) (k2 : KX [46] [] F2 G2 F3 G2) (e46 : F3 46 = 1) : JP (cf_X4_walk fu 1 F1 G1) (mf_texts fu F3 G2) (fun _ F5 G5 _ F6 G6 => jQ1 f c27 (F1 76) (G2 25) (G2 32) F5 G5 F6 G6) := by
  have z0 : (0 : Int32).toInt = 0 := rfl
  obtain ⟨T, L, e27, w0, -⟩ := inv
  obtain ⟨ma, wp⟩ := w0 rfl
  obtain ⟨⟨⟨S, h2, h3, h4, h5, -⟩, D, R⟩, ⟨a1, a2, a3, a4⟩, ⟨b1, b2, b3⟩, ⟨c1, c2⟩, PO, t0, -⟩ := T
  obtain ⟨-, ⟨y1, y1'⟩, SA, SL, FT, ⟨y5, y5'⟩, ⟨y6, y6'⟩, y7⟩ := t0 rfl
  have CN := D.1
  have n4 := S.1
  have ixN := CN.ix S
  have hk : Kk (F2 42).toNatClampNeg = 0 := by
    rw [ixN, ← L.1.1]
    exact S.2.2.2.2.1
  obtain ⟨Fi, ti, et⟩ := mt_start (fu := fu) F3 G2
  have L1 := lp_start1 L h3.1 hk k2 e46 ti
  obtain ⟨ki, j42, j43, j14, j15, j60, j70, j36, j37, -, jz⟩ := ti
  obtain ⟨j24, j35⟩ := jz (by rw [e46]; decide)
  have S3 : TKE N K n F1 G1 F3 G2 := S.keep rfl rfl rfl rfl (k2.1 7 rfl) (k2.1 8 rfl) rfl rfl rfl
  have h8 : F2 8 = -1 := S.bad (CN.2.2.2.2.2.2.2.2.2.2.2 rfl)
  have f4 := FT.2.1
  have p0t : 0 ≤ (G2 6 0).toInt := by
    rcases Nat.lt_or_ge 0 N with y | y
    · exact (S.2.2.2.1 0 y).2.2.1
    · have e : N = 0 := by omega
      have := S.2.2.2.2.2.1
      rw [e] at this
      omega
  unfold cf_X4_walk cb_X4_walk_0
  rw [et]
  refine JP.L (cp_cstart S3 (.inr rfl)) ?_
  rintro r F5 G5 ⟨rfl, k1, ⟨e28, e29, e42, e45, e7, e21, e10⟩, cur⟩
  dsimp only
  unfold cb_X4_walk_5
  have hp0 : pth Kk V fu m = some (F2 42, (nI f).toInt.toNat) := L.2.2.2.1
  have fI : (nI f).toInt.toNat = f := nI_c _ (by omega)
  rw [fI] at hp0
  rcases cur with ⟨c9, c11, c12, c13, c14, cN⟩ | ⟨d1, d2, d3⟩
  · have S1 : TKE N K n F5 G1 Fi G2 := S3.keep (k1.1 93 rfl) rfl rfl rfl (ki.1 7 rfl) (ki.1 8 rfl) rfl rfl rfl
    have C : CU N 0 F5 G1 Fi G2 := ⟨Nat.zero_le _, c9, j42, by rw [e10, j43], by rw [e10]; decide, by rw [e10]; decide, c14, (ki.1 44 rfl).trans ((k2.1 44 rfl).trans CN.2.2.2.2.2.2.2.1), c11, c12, c13, cN⟩
    have i54 : Fi 54 = 0 := (ki.1 54 rfl).trans ((k2.1 54 rfl).trans a3)
    refine jt_loop (p := 1) (N := N) (K := K) (n := n) (Kk := Kk) (V := V) (Q := fun _ F5 G5 _ F6 G6 => jQ1 f c27 (F1 76) (G2 25) (G2 32) F5 G5 F6 G6) (M := m) (nf0 := f) (c27 := c27) (c76 := F1 76) (T25 := G2 25) (T32 := G2 32) hfu (fun _ _ _ _ _ _ h => .inl h) (fun _ F1 _ _ _ _ _ h1 h2 => .inr (.inl ⟨h2, h1⟩)) (fun X m' q nf t f' φ Fa Ga Fb Gb inv => ?_) fu fu 0 (false, [], [], jKf G2) 0 0 q f 0 0 φ F5 G1 Fi G2 ⟨?_, L1, (k1.1 27 rfl).trans e27, fun z => absurd z (by decide), fun _ => ⟨⟨?_, ?_, ?_, Nat.zero_le 2000, jF0.nil z86, jL0.nil⟩, wp, k1.1 76 rfl, rfl, rfl, rfl, fun y hy => absurd hy (Nat.not_lt_zero _)⟩⟩ (Nat.le_refl _)
    · obtain ⟨T, L, -, -, w1⟩ := inv
      have wd' := fun z => (w1 z).1
      obtain ⟨-, -, e76, -, -, enf, nom⟩ := w1 rfl
      have CN := T.1.2.1.1
      have ix' := CN.ix T.1.1.1
      rw [mt_127 CN.2.2.2.2.2.2.2.1 (T.1.1.1.bad (CN.2.2.2.2.2.2.2.2.2.2.2 rfl))]
      have e45' : ¬ Fa 45 = 0 := by rw [T.1.1.2.2.1.2.1]; decide
      obtain ⟨pl0, pl1, -⟩ := CN.place T.1.1.1
      have fb : f' ≤ 449 := by
        have c2 := T.2.2.2.1.2
        have := (T.1.1.2.2.2.2.2 rfl).2.2.2.2.2.2.1
        omega
      have fI' : (nI f').toInt.toNat = f' := nI_c _ (by omega)
      have ff : f' = f := by
        have hp' := L.2.2.2.1
        rw [fI'] at hp'
        have mm : m' ≤ m := by
          rcases L.2.2.2.2 with ⟨c, -⟩ | ⟨-, c, -⟩
          · rw [T.1.1.2.2.1.1] at c
            exact absurd c (by decide)
          · exact c
        refine pth_end hp' ?_ hp0 mm
        rw [ix', ← L.1.1]
        exact T.1.1.1.2.2.2.2.1
      have w278 : ∀ (F : PF) (G : PG), PP (cb_X4_walk_278 fu 1 F G) (fun _ F' G' => KX [] [] F G F' G') := fun F G => by
        unfold cb_X4_walk_278
        rw [if_neg i10n]
        unfold cb_X4_walk_282
        refine PP.bind (cw_X5_fault F G) (fun r F1 G1 k => PP.ret k)
      have n47 : Fb 47 = 0 := T.1.2.1.2.1.1
      have n43 : Fa 43 = 4001 := T.1.2.1.2.1.2.1
      rw [ff] at nom
      unfold cb_X4_walk_251
      by_cases c : Fa 76 = -1
      · rw [if_pos c]
        unfold cb_X4_walk_262
        refine JP.L (cp_note 9 (Fa 13) (by decide) (by decide) Fa Ga) ?_
        rintro r Fx Gx ⟨rfl, -, -, w⟩
        have h43 := w e45' pl1
        refine JP.pp (V1 := fun _ F' G' => Fb = F' ∧ Gb = G') (w278 Fx Ga) (PP.ret ⟨rfl, rfl⟩) (fun _ F7 G7 _ F8 G8 w1 ⟨w2, w3⟩ => .inr (.inr ⟨?_, nom, .inl ⟨?_, ?_⟩⟩))
        · rw [← w2]; exact n47
        · rw [← e76]; exact c
        · rw [w1.1 43 rfl]; exact h43
      · rw [if_neg c]
        refine JP.pp (V1 := fun _ F' G' => Fb = F' ∧ Gb = G') (w278 Fa Ga) (PP.ret ⟨rfl, rfl⟩) (fun _ F7 G7 _ F8 G8 w1 ⟨w2, w3⟩ => .inr (.inr ⟨?_, nom, .inr ⟨?_, ?_, ?_, ?_⟩⟩))
        · rw [← w2]; exact n47
        · rw [← e76]; exact c
        · rw [w1.1 43 rfl]; exact n43
        · rw [w1.1 76 rfl]; exact e76
        · subst w2 w3
          obtain ⟨-, SA', -, -, -, FT'⟩ := T.1.1.2.2.2.2.2 rfl
          obtain ⟨-, ms, cd⟩ := T.2.2.2.2.2.2 rfl
          unfold jTab
          rw [w1.1 74 rfl, w1.1 75 rfl, w1.2 77 rfl, w1.2 78 rfl, w1.2 79 rfl, w1.2 82 rfl]
          refine ⟨by rw [FT'.1, enf], by rw [SA'.1, enf], (wd' rfl).1, fun y hy => ?_, X.2.1, X.2.2.2, ⟨(wd' rfl).2.1, (wd' rfl).2.2.1, (wd' rfl).2.2.2.1⟩, fun y hy => ?_, ?_, by rw [w1.2 86 rfl]; exact (wd' rfl).2.2.2.2⟩
          · obtain ⟨v1, v2, v3, -⟩ := FT'.2.2 y (by omega)
            exact ⟨v1, v2, v3, ms y (by omega)⟩
          · have w := (cd y (by omega)).ext (ml := []) (jCB.of rfl (w1.1 6 rfl) (w1.2 5 rfl) (fun _ _ _ => rfl)) rfl rfl rfl (by rw [w1.2 80 rfl])
            rw [List.append_nil] at w
            exact w
          · have ft := FT'
            unfold jFT at ft ⊢
            rw [w1.1 74 rfl, w1.2 77 rfl, w1.2 78 rfl, w1.2 82 rfl, w1.2 83 rfl, w1.2 84 rfl, ← enf]
            exact ft
    · refine ⟨⟨⟨S1, .inr rfl, ⟨(ki.1 46 rfl).trans e46, e45, e7⟩, ?_, .inl i54, fun _ => ⟨?_, ?_, ⟨?_, ?_, ?_, ?_, ?_, fun y hy => absurd hy (Nat.not_lt_zero _)⟩, ⟨fun x y _ hy => absurd hy (Nat.not_lt_zero _), fun x y _ hy => absurd hy (Nat.not_lt_zero _), fun y hy => absurd hy (Nat.not_lt_zero _)⟩, ?_, ?_⟩⟩, ⟨C, ⟨(ki.1 47 rfl).trans ((k2.1 47 rfl).trans D.2.1.1), (k1.1 43 rfl).trans D.2.1.2.1, (k1.1 47 rfl).trans D.2.1.2.2⟩, ⟨by rw [e21]; decide, by rw [e21, z0]; exact p0t⟩, ?_, by rw [j60]; decide, by rw [j70]; decide⟩, ?_⟩, ⟨rfl, rfl, i54, a4.kx k1 rfl⟩, ⟨e29, e42, j15⟩, ⟨e28, Nat.zero_le _⟩, PO, fun z => absurd z (by decide), fun _ => ⟨⟨y1', ⟨fun _ => 0, fun y hy => absurd hy (Nat.not_lt_zero _), fun x y _ hy => absurd hy (Nat.not_lt_zero _)⟩, φ, fun y hy => (PO.1 y hy).1, PO.2⟩, (fun y hy => absurd hy (Nat.not_lt_zero _)), fun y hy => absurd hy (Nat.not_lt_zero _)⟩⟩
      · rw [k1.1 46 rfl, i54, h4, a3]
      · rw [i54]
        exact ⟨fun y => absurd y Bool.false_ne_true, fun y => absurd rfl y⟩
      · unfold jSA at SA ⊢
        rw [j24, k2.1 24 rfl]
        exact SA
      · rw [j14]; rfl
      · rw [k1.1 41 rfl, y1]; rfl
      · omega
      · rw [e42, j15]
      · rw [j15]; decide
      · exact SL
      · unfold jFT at FT ⊢
        rw [k1.1 74 rfl]
        exact FT
      · rw [k1.1 6 rfl, i6]; decide
      · rw [k1.1 6 rfl, i6, z0]; omega
    · rw [j36, k1.1 75 rfl, i75]
    · rw [k1.1 75 rfl, i75]; rfl
    · rw [j37]; rfl
  · exact absurd ((k2.1 8 rfl).trans h8) d3
end JR2
