abbrev jXe : List Nat := [6, 9, 10, 11, 12, 13, 14, 21, 43, 44, 46, 47, 56, 57, 300]
abbrev jYe : List Nat := [5, 20, 55, 86]
abbrev jZe : List Nat := [42, 43, 44, 45, 47, 48, 49, 54, 55, 60, 62, 70, 72]
abbrev jWe : List Nat := [41, 56, 57, 58, 59, 67, 68, 69, 71]
section JV6
variable {fu : Nat} {X : JCX} {p : Int32} {N K n q nf t i j f n0 : Nat} {φ : Nat → Nat} {cid pl x1 x2 x3 x4 x5 x6 x7 r : Int32} {F Fa Fb Fc Fm F1 F2 F3 F4 F5 : PF} {G Ga Gb Gc Gm G1 G2 G3 G4 G5 : PG} {a : PR} {g : Int32 × PF × PG → PR} {Q : Int32 → PF → PG → Int32 → PF → PG → Prop}
/-- the reference's loops over an array's words and cells -/
theorem mp_ar224 {P : Prop} {c s : Nat} (hP : P → (F 37).toInt = c ∧ x7 = nI s ∧ c ≤ 8008 ∧ s ≤ 2000) (H : ∀ G' : PG, KX [] [41] F G F G' → (P → (∀ i : Nat, i < c → G' 41 i = G 41 i) ∧ ∀ i : Nat, i < s → G' 41 (c + i) = 0) → JP a ((mb_array_250 fu x1 x2 x3 x4 x7 F G').bind g) Q) : ∀ (m : Nat) (x8 : Int32) (G' : PG), KX [] [41] F G F G' → (P → ∃ y : Nat, x8 = nI y ∧ y ≤ s ∧ (∀ i : Nat, i < c → G' 41 i = G 41 i) ∧ ∀ i : Nat, i < y → G' 41 (c + i) = 0) → JP a ((ml_array_224 fu m x1 x2 x3 x4 x7 x8 F G').bind g) Q := by
  intro m
  induction m with
  | zero =>
    intro x8 G' _ _
    exact JP.noR
  | succ m ih =>
    intro x8 G' k hy
    show JP a ((mb_array_224 fu (ml_array_224 fu m) x1 x2 x3 x4 x7 x8 F G').bind g) Q
    unfold mb_array_224
    refine JP.iteRR (fun d => H G' k (fun z => ?_)) (fun d => ?_)
    · obtain ⟨y, y1, y2, y3, y4⟩ := hy z
      obtain ⟨p1, p2, p3, p4⟩ := hP z
      have d := i_le.mp d
      rw [p2, y1, nI_toInt (by omega), nI_toInt (by omega)] at d
      exact ⟨y3, fun i hi => y4 i (by omega)⟩
    unfold mb_array_231
    refine JP.ixRR (fun _ => ?_)
    unfold mb_array_244
    refine ih _ _ (KX.g rfl k) (fun z => ?_)
    obtain ⟨y, y1, y2, y3, y4⟩ := hy z
    obtain ⟨p1, p2, p3, p4⟩ := hP z
    have ys : y < s := by
      rcases Nat.lt_or_ge y s with q | q
      · exact q
      · exact absurd (i_le.mpr (by rw [p2, y1, nI_toInt (by omega), nI_toInt (by omega)]; omega)) d
    have yI : (nI y).toInt = y := nI_toInt (by omega)
    have ex : (F 37 + x8).toNatClampNeg = c + y := by
      show (F 37 + x8).toInt.toNat = c + y
      rw [y1, i_addn _ yI (by omega) (by omega), p1]
      omega
    refine ⟨y + 1, by rw [y1, nI_s y (by omega)], by omega, fun i hi => ?_, fun i hi => ?_⟩
    · rw [ex, gup_x (by omega)]
      exact y3 i hi
    · rw [ex]
      by_cases e : i = y
      · rw [e, gup_i]
      · rw [gup_x (by omega)]
        exact y4 i (by omega)
theorem mp_ar102 {c o w s kk : Nat} (H : ∀ G' : PG, KX [] [38, 39, 40] F G F G' → (jAq c o w s kk x2 x3 x5 x6 F → (∀ b : Nat, b < o → G' 38 b = G 38 b ∧ G' 39 b = G 39 b ∧ G' 40 b = G 40 b) ∧ jL1 (G' 38) (G' 39) (G' 40) c o (kk, s)) → JP a ((mb_array_193 fu x1 x2 x3 x4 x5 x6 F G').bind g) Q) : ∀ (m : Nat) (x8 : Int32) (G' : PG), KX [] [38, 39, 40] F G F G' → (jAq c o w s kk x2 x3 x5 x6 F → ∃ y : Nat, x8 = nI y ∧ y ≤ w ∧ (∀ b : Nat, b < o → G' 38 b = G 38 b ∧ G' 39 b = G 39 b ∧ G' 40 b = G 40 b) ∧ ∀ i : Nat, i < y → G' 39 (o + i) = nI (if kk = 2 then c + 4 * i else c + i) ∧ G' 38 (o + i) = nI (if kk = 2 then min 4 (s - 4 * i) else 1) ∧ (G' 40 (o + i) = 0 ↔ ¬ kk = 2)) → JP a ((ml_array_102 fu m x1 x2 x3 x4 x5 x6 x8 F G').bind g) Q := by
  intro m
  induction m with
  | zero =>
    intro x8 G' _ _
    exact JP.noR
  | succ m ih =>
    intro x8 G' k hy
    show JP a ((mb_array_102 fu (ml_array_102 fu m) x1 x2 x3 x4 x5 x6 x8 F G').bind g) Q
    have one : ∀ (v39 v38 : Int32), (jAq c o w s kk x2 x3 x5 x6 F → ∀ y : Nat, x8 = nI y → y < w → v39 = nI (if kk = 2 then c + 4 * y else c + y) ∧ v38 = nI (if kk = 2 then min 4 (s - 4 * y) else 1)) → ¬ x5 ≤ x8 → JP a ((mb_array_187 fu (ml_array_102 fu m) x1 x2 x3 x4 x5 x6 x8 F (gup (gup (gup G' 39 (F 36 + x8).toNatClampNeg v39) 40 (F 36 + x8).toNatClampNeg (vp_nar .boolean x2)) 38 (F 36 + x8).toNatClampNeg v38)).bind g) Q := by
      intro v39 v38 hv d
      unfold mb_array_187
      refine ih _ _ (KX.g rfl (KX.g rfl (KX.g rfl k))) (fun z => ?_)
      obtain ⟨y, y1, y2, y3, y4⟩ := hy z
      obtain ⟨p0, p1, p2, p3, p4, p5, p6, p7, p8, p9⟩ := id z
      have yI : (nI y).toInt = y := nI_toInt (by omega)
      have yw : y < w := by
        rcases Nat.lt_or_ge y w with q | q
        · exact q
        · exact absurd (i_le.mpr (by rw [p3, y1, yI, nI_toInt (by omega)]; omega)) d
      have ex : (F 36 + x8).toNatClampNeg = o + y := by
        show (F 36 + x8).toInt.toNat = o + y
        rw [y1, i_addn _ yI (by omega) (by omega), p2]
        omega
      obtain ⟨v1, v2⟩ := hv z y y1 yw
      rw [ex]
      refine ⟨y + 1, by rw [y1, nI_s y (by omega)], by omega, fun b hb => ?_, fun i hi => ?_⟩
      · obtain ⟨q1, q2, q3⟩ := y3 b hb
        refine ⟨?_, ?_, ?_⟩
        · rw [gup_x (by omega), gup_o (by decide), gup_o (by decide)]; exact q1
        · rw [gup_o (by decide), gup_o (by decide), gup_x (by omega)]; exact q2
        · rw [gup_o (by decide), gup_x (by omega), gup_o (by decide)]; exact q3
      · by_cases e : i = y
        · rw [e]
          refine ⟨?_, ?_, ?_⟩
          · rw [gup_o (by decide), gup_o (by decide), gup_i]; exact v1
          · rw [gup_i]; exact v2
          · rw [gup_o (by decide), gup_i]
            rcases p9 with ⟨u1, u2⟩ | ⟨u1, u2⟩ <;> rw [u1, u2] <;> decide
        · obtain ⟨q1, q2, q3⟩ := y4 i (by omega)
          refine ⟨?_, ?_, ?_⟩
          · rw [gup_o (by decide), gup_o (by decide), gup_x (by omega)]; exact q1
          · rw [gup_x (by omega), gup_o (by decide), gup_o (by decide)]; exact q2
          · rw [gup_o (by decide), gup_x (by omega), gup_o (by decide)]; exact q3
    unfold mb_array_102
    refine JP.iteRR (fun d => H G' k (fun z => ?_)) (fun d => ?_)
    · obtain ⟨y, y1, y2, y3, y4⟩ := hy z
      obtain ⟨p0, p1, p2, p3, p4, p5, p6, p7, p8, p9⟩ := id z
      have d := i_le.mp d
      rw [p3, y1, nI_toInt (by omega), nI_toInt (by omega)] at d
      exact ⟨y3, fun i hi => y4 i (by rw [← p8] at hi; omega)⟩
    unfold mb_array_109
    refine JP.iteRR (fun d0 => H G' k (fun z => absurd d0 z.1)) (fun _ => ?_)
    unfold mb_array_114
    refine JP.iteRR (fun b0 => ?_) (fun b0 => ?_)
    · unfold mb_array_140 mb_array_142
      refine JP.ixRR (fun _ => ?_)
      unfold mb_array_144
      refine JP.ixRR (fun _ => ?_)
      unfold mb_array_157
      rw [if_pos b0]
      unfold mb_array_185 mb_array_186
      refine JP.ixRR (fun _ => one _ _ (fun z y y1 yw => ?_) d)
      obtain ⟨p0, p1, p2, p3, p4, p5, p6, p7, p8, p9⟩ := id z
      rcases p9 with ⟨u1, u2⟩ | ⟨u1, u2⟩
      · have yI : (nI y).toInt = y := nI_toInt (by omega)
        rw [u1, if_neg (by decide), if_neg (by decide), y1]
        refine ⟨i_eq.mpr ?_, rfl⟩
        rw [i_addn _ yI (by omega) (by omega), p1, nI_toInt (by omega)]
        omega
      · rw [u2] at b0
        exact absurd b0 (by decide)
    · unfold mb_array_133 mb_array_142
      refine JP.ixRR (fun _ => ?_)
      unfold mb_array_144
      refine JP.ixRR (fun _ => ?_)
      unfold mb_array_157
      rw [if_neg b0]
      unfold mb_array_172 mb_array_182 mb_array_186
      refine JP.ixRR (fun _ => one _ _ (fun z y y1 yw => ?_) d)
      obtain ⟨p0, p1, p2, p3, p4, p5, p6, p7, p8, p9⟩ := id z
      rcases p9 with ⟨u1, u2⟩ | ⟨u1, u2⟩
      · exact absurd u2 b0
      · rw [u1] at p8
        have p8 : w = (s + 3) / 4 := p8
        have e4 : (4 : Int32) * x8 = nI (4 * y) := by
          rw [y1]
          exact nI_m4 y
        have i4 : (nI (4 * y)).toInt = ((4 * y : Nat) : Int) := nI_toInt (by omega)
        have sI : (nI s).toInt = s := nI_toInt (by omega)
        rw [u1, if_pos rfl, if_pos rfl, e4, p4]
        have es : (nI s - nI (4 * y)).toInt = (s : Int) - 4 * y := by
          rw [i_subn _ i4 (by omega) (by omega), sI]
          omega
        have l4 : (4 : Int32).toInt = 4 := rfl
        refine ⟨i_eq.mpr ?_, i_eq.mpr ?_⟩
        · rw [i_addn _ i4 (by omega) (by omega), p1, nI_toInt (by omega)]
          omega
        · rw [nI_toInt (by omega)]
          by_cases q : nI s - nI (4 * y) < 4
          · rw [if_pos q, es]
            have := i_lt.mp q
            omega
          · rw [if_neg q]
            have := mt i_lt.mpr q
            omega
theorem mp_ar99 {c s o w kk : Nat} (n3 : ¬ x3 = -1) (H : ∀ (x7 : Int32) (F' : PF) (G' : PG), KX [36, 37] [38, 39, 40, 41] F G F' G' → F' 36 = F 36 + x5 → (¬ x6 = 0 → F' 37 = F 37 + x3 ∧ x7 = x3 ∧ ((F 37).toInt = c → x3 = nI s → c ≤ 8008 → s ≤ 2000 → (∀ i : Nat, i < c → G' 41 i = G 41 i) ∧ ∀ i : Nat, i < s → G' 41 (c + i) = 0)) → (jAq c o w s kk x2 x3 x5 x6 F → (∀ b : Nat, b < o → G' 38 b = G 38 b ∧ G' 39 b = G 39 b ∧ G' 40 b = G 40 b) ∧ jL1 (G' 38) (G' 39) (G' 40) c o (kk, s)) → JP a ((mb_array_261 fu x1 x2 x3 x4 x7 F' G').bind g) Q) : JP a ((mb_array_99 fu x1 x2 x3 x4 x5 x6 F G).bind g) Q := by
  unfold mb_array_99
  refine mp_ar102 (G := G) (c := c) (o := o) (w := w) (s := s) (kk := kk) (fun G1 k1 ht => ?_) fu 0 G KX.rf (fun _ => ⟨0, rfl, Nat.zero_le _, fun _ _ => ⟨rfl, rfl, rfl⟩, fun i hi => absurd hi (Nat.not_lt_zero i)⟩)
  unfold mb_array_193 mb_array_204
  rw [if_neg n3]
  have k2 : KX [36, 37] [38, 39, 40, 41] F G (fup F 36 (F 36 + x5)) G1 := KX.f rfl (KX.tr KX.rf k1 rfl rfl)
  have e36 : fup F 36 (F 36 + x5) 36 = F 36 + x5 := fup_s
  have e37 : fup F 36 (F 36 + x5) 37 = F 37 := fup_n (by decide)
  generalize fup F 36 (F 36 + x5) = Fx at k2 e36 e37 ⊢
  have go : ∀ x7 : Int32, (¬ x6 = 0 → x7 = x3) → JP a ((mb_array_219 fu x1 x2 x3 x4 x7 Fx G1).bind g) Q := by
    intro x7 h7
    unfold mb_array_219
    refine mp_ar224 (G := G1) (P := ¬ x6 = 0 ∧ (F 37).toInt = c ∧ x3 = nI s ∧ c ≤ 8008 ∧ s ≤ 2000) (c := c) (s := s) (fun z => ⟨by rw [e37]; exact z.2.1, (h7 z.1).trans z.2.2.1, z.2.2.2.1, z.2.2.2.2⟩) (fun G3 k3 hz => ?_) fu 0 G1 KX.rf (fun _ => ⟨0, rfl, Nat.zero_le _, fun _ _ => rfl, fun i hi => absurd hi (Nat.not_lt_zero i)⟩)
    unfold mb_array_250
    refine H x7 _ G3 (KX.f rfl (KX.tr k2 k3 rfl rfl)) ?_ (fun z => ⟨?_, h7 z, fun z1 z2 z3 z4 => ?_⟩) (fun z => by rw [k3.2 38 rfl, k3.2 39 rfl, k3.2 40 rfl]; exact ht z)
    · rw [fup_n (by decide)]
      exact e36
    · rw [fup_s, e37, h7 z]
    · obtain ⟨q1, q2⟩ := hz ⟨z, z1, z2, z3, z4⟩
      rw [k1.2 41 rfl] at q1
      exact ⟨q1, q2⟩
  unfold mb_array_209
  refine JP.iteRR (fun z => ?_) (fun z => ?_)
  · exact go 0 (fun y => absurd z y)
  · exact go x3 (fun _ => rfl)
theorem jGs.rw86 (T : jGs X p N K n q nf t i f φ Fc Gc Fm Gm) (kc : KX [] [86] Fc Gc Fc G1) (km : KX [] [41] Fm Gm Fm G2) : jGs X p N K n q nf t i f φ Fc G1 Fm G2 := by
  refine T.mv (KX.tr KX.rf kc rfl rfl) (KX.tr KX.rf km rfl rfl) T.x0 T.2.1.2.2.1 T.2.1.2.2.2 ?_ T.1.2.2 (Nat.le_refl _) (fun _ => jCB.of rfl rfl (kc.2 5 rfl) (KX.c km rfl rfl rfl rfl))
  have D := T.1.2.1
  unfold jD CU at D ⊢
  rw [km.2 6 rfl, kc.2 90 rfl, kc.2 91 rfl, kc.2 92 rfl]
  exact D
/-- elements -/
theorem jt_els {kc : Int32 × PF × PG → PR} {ck first size b r4 : Int32} {sz js kk : Nat} {Fs Ft : PF} {Gs Gt : PG} (hQ : ∀ (r1 : Int32) (F1 : PF) (G1 : PG) (r2 : Int32) (F2 : PF) (G2 : PG), jEnd F1 F2 → Q r1 F1 G1 r2 F2 G2) (hkc : ∀ (F0 : PF) (r : Int32) (F : PF) (G : PG), CFS F0 F → PP (kc (r, F, G)) (fun _ F' _ => CFS F0 F')) (hg : ∀ (F0 : PF) (r : Int32) (F : PF) (G : PG), MFS F0 F → PP (g (r, F, G)) (fun _ F' _ => MFS F0 F')) (hs : p = 1 → size = nI sz ∧ r4 = nI sz) (hz : sz ≤ 500) (n4 : ¬ r4 = -1) (hf : p = 1 → ((kk = 1 ∧ ck = 2 ∧ b = 0) ∨ (kk = 2 ∧ ck = 3 ∧ b = 1)) ∧ first = nI (jsW X.2.1) ∧ x4 = nI (jsC X.2.1) ∧ x7 = r4 ∧ jsW (X.2.1 ++ [(kk, sz)]) ≤ 2000)
    (H : ∀ (j : Nat) (F1 : PF) (G1 : PG) (F2 : PF) (G2 : PG), jGs X p N K n q nf t j f φ F1 G1 F2 G2 → js ≤ j → KX jXe jYe Fs Gs F1 G1 → KX jZe jWe Ft Gt F2 G2 → (F1 10).toInt = (Fs 10).toInt - 1 → (p = 1 → jF0 (X.2.1 ++ [(kk, sz)]) (G1 86) (G2 41)) → JP (kc (0, F1, G1)) ((mb_array_443 fu x3 b r4 x4 F2 G2).bind g) Q) (h10 : 1 ≤ (Fs 10).toInt) : ∀ (nc nm k j : Nat) (F1 : PF) (G1 : PG) (F2 : PF) (G2 : PG), jGs X p N K n q nf t j f φ F1 G1 F2 G2 → k ≤ j → js ≤ j → KX jXe jYe Fs Gs F1 G1 → KX jZe jWe Ft Gt F2 G2 → (F1 10).toInt = (Fs 10).toInt → (p = 1 → k ≤ sz) → (p = 1 → jF0 (X.2.1 ++ [(kk, sz)]) (G1 86) (G2 41)) → JP ((cl_X4_elements_19 fu nc ck first size 1 (nI k) F1 G1).bind kc) ((ml_array_297 fu nm x3 b r4 x4 x7 (nI k) 1 F2 G2).bind g) Q := by
  intro nc
  induction nc with
  | zero =>
    intro nm k j F1 G1 F2 G2 _ _ _ _ _ _ _ _
    exact JP.noL
  | succ nc ih =>
    intro nm k j F1 G1 F2 G2 T kj jj kx ky e10 ks f0
    cases nm with
    | zero => exact JP.noR
    | succ nm =>
      have jN : j ≤ N := T.1.2.1.1.1
      have n4000 := T.1.1.1.1
      have l4 : (4001 : Int32).toInt = 4001 := rfl
      have kI : (nI k).toInt = k := nI_toInt (by omega)
      have hp := T.1.1.2.1
      obtain ⟨pl0, pl1, pl2⟩ := T.1.2.1.1.place T.1.1.1
      show JP ((cb_X4_elements_19 fu (cl_X4_elements_19 fu nc) ck first size 1 (nI k) F1 G1).bind kc) ((mb_array_297 fu (ml_array_297 fu nm) x3 b r4 x4 x7 (nI k) 1 F2 G2).bind g) Q
      unfold cb_X4_elements_19 mb_array_297
      rw [if_neg (fun z => by have := i_le.mp z; omega), if_neg i10n]
      unfold cb_X4_elements_27 mb_array_302
      rw [if_neg i10n, if_pos (show F2 44 = 0 from T.1.2.1.1.2.2.2.2.2.2.2.1)]
      unfold cb_X4_elements_32 mb_array_309
      refine JP.ixRR (fun _ => ?_)
      rw [Option.bind_assoc, Option.bind_assoc]
      refine JP.both (jk_constant T.1 T.2.1.2.2.1 T.2.1.2.2.2) ?_
      rintro r3 F3 G3 r5 F4 G4 (⟨rfl, j1, h⟩ | h)
      · dsimp only
        have T1 := T.ak h
        have jj1 : j ≤ j1 := h.2.2.1.1
        -- behind the value
        have cont : ∀ (G5 G6 : PG), KX [] [86] F3 G3 F3 G5 → KX [] [41] F4 G4 F4 G6 → (p = 1 → k < sz) → (p = 1 → jF0 (X.2.1 ++ [(kk, sz)]) (G5 86) (G6 41)) → JP ((cb_X4_elements_103 fu (cl_X4_elements_19 fu nc) ck first size (nI k) F3 G5).bind kc) ((mb_array_384 fu (ml_array_297 fu nm) x3 b r4 x4 x7 (nI k) F4 G6).bind g) Q := by
          intro G5 G6 k5 k6 hk hF
          have T2 := T1.rw86 k5 k6
          have kx2 : KX jXe jYe Fs Gs F3 G5 := KX.tr (KX.tr kx h.1.1 rfl rfl) k5 rfl rfl
          have ky2 : KX jZe jWe Ft Gt F4 G6 := KX.tr (KX.tr ky h.1.2 rfl rfl) k6 rfl rfl
          have e2 : (F3 10).toInt = (Fs 10).toInt := h.2.2.2.1.trans e10
          have sg := T2.1.sg (w := 28) (a := 25) (b := 28) (by decide) (by decide) (by decide)
          unfold cb_X4_elements_103 mb_array_384
          rw [if_pos (show F4 44 = 0 from T2.1.2.1.1.2.2.2.2.2.2.2.1), nI_s k (by omega)]
          unfold mb_array_394
          refine JP.isSS (fun hc => ?_) (fun hc => ?_)
          · rw [if_pos (sg.mpr hc)]
            have li := T2.1.2.1.1.ltS T2.1.1.1 hc
            unfold cb_X4_elements_115 cb_X4_elements_120 cb_X4_elements_127 mb_array_400 mb_array_403 mb_array_408 mb_array_420 mb_array_425 mb_array_429
            rw [if_neg i10n, if_neg i10n, if_neg i10n, Option.bind_assoc]
            refine JP.L (jo_next T2.1.1.1 T2.1.2.1.1 li) ?_
            rintro rn F5 G7 (o | o)
            · dsimp only
              unfold cb_X4_elements_134
              rw [nI_s k (by omega)]
              have e5 := jAl.on (X := X) (p := p) (s := []) T2.1.1 T2.1.2.1 li (T2.1.1.t1 li) o
              exact ih nm (k + 1) (j1 + 1) F5 G7 _ G6 (T2.al e5 (by omega)) (by omega) (by omega) (KX.tr kx2 e5.1.1 rfl rfl) (KX.tr ky2 e5.1.2 rfl rfl) (e5.2.2.2.1.trans (by omega)) (fun z => by have := hk z; omega) (fun z => by rw [e5.1.1.2 86 rfl]; exact hF z)
            · dsimp only
              unfold cb_X4_elements_134
              refine JP.fin (PP.bind (kqz_X4_elements_19 nc ck first size 1 _ F5 G7 CFS.rf) (fun r F G w => hkc F5 r F G w)) (PP.bind (nqz_array_297 nm x3 b r4 x4 x7 _ 1 _ G6 MFS.rf) (fun r F G w => hg _ r F G w)) (.inr o) hQ
          · rw [if_neg (fun z => by rw [sg.mp z] at hc; cases hc)]
            unfold cb_X4_elements_119 cb_X4_elements_120 cb_X4_elements_134 mb_array_400 mb_array_407 mb_array_408 mb_array_424 mb_array_425 mb_array_429
            rw [if_pos rfl, if_pos rfl, if_pos rfl, fup_id, nI_s k (by omega)]
            cases nc with
            | zero => exact JP.noL
            | succ nc =>
              cases nm with
              | zero => exact JP.noR
              | succ nm =>
                have ec : cl_X4_elements_19 fu (nc + 1) ck first size 0 (nI (k + 1)) F3 G5 = cb_X4_elements_140 fu F3 G5 := by
                  show cb_X4_elements_19 fu (cl_X4_elements_19 fu nc) ck first size 0 (nI (k + 1)) F3 G5 = _
                  unfold cb_X4_elements_19 cb_X4_elements_27
                  rw [if_pos (rfl : (0 : Int32) = 0)]
                  split <;> rfl
                have em : ml_array_297 fu (nm + 1) x3 b r4 x4 x7 (nI (k + 1)) 0 F4 G6 = mb_array_432 fu x3 b r4 x4 F4 G6 := by
                  show mb_array_297 fu (ml_array_297 fu nm) x3 b r4 x4 x7 (nI (k + 1)) 0 F4 G6 = _
                  unfold mb_array_297
                  rw [if_pos rfl]
                rw [ec, em]
                unfold cb_X4_elements_140 mb_array_432
                rw [Option.bind_assoc, Option.bind_assoc]
                refine JP.both (jo_close T2.1.1.1 T2.1.2.1.1 (by omega) (w := 27) (by decide) (by decide) (by decide)) ?_
                rintro r7 F7 G7 r8 F8 G8 (⟨rfl, hy, o⟩ | o)
                · dsimp only
                  have li := T2.1.2.1.1.ltS T2.1.1.1 hy
                  have e5 := jAl.on (X := X) (p := p) (s := []) T2.1.1 T2.1.2.1 li (T2.1.1.t1 li) o
                  unfold mb_array_438
                  rw [if_neg i10n]
                  exact H (j1 + 1) F7 G7 F8 G8 (T2.al e5 (by omega)) (by omega) (KX.tr kx2 e5.1.1 rfl rfl) (KX.tr ky2 e5.1.2 rfl rfl) (e5.2.2.2.1.trans (by omega)) (fun z => by rw [e5.1.1.2 86 rfl, e5.1.2.2 41 rfl]; exact hF z)
                · dsimp only
                  exact JP.fin (PP.bind (kqj_X4_elements_149 F7 G7 CFS.rf) (fun r F G w => hkc F7 r F G w)) (PP.bind (nqj_array_438 x3 b r4 x4 r8 F8 G8 MFS.rf) (fun r F G w => hg F8 r F G w)) (.inr o) hQ
        -- the class stores, or notes
        have cls : ∀ (b2 : PR), (∀ G5 : PG, KX [] [86] F3 G3 F3 G5 → (p = 1 → k < sz → (kk = 1 → G5 86 = upd (G3 86) (jsW X.2.1 + k) r3) ∧ (kk = 2 → G5 86 = upd (G3 86) (jsW X.2.1 + k / 4) (jSb (G3 86 (jsW X.2.1 + k / 4)) r3 (k % 4)))) → JP ((cb_X4_elements_103 fu (cl_X4_elements_19 fu nc) ck first size (nI k) F3 G5).bind kc) b2 Q) → JP ((cb_X4_elements_70 fu (cl_X4_elements_19 fu nc) ck first size (nI k) r3 F3 G3).bind kc) b2 Q := by
          intro b2 hb
          unfold cb_X4_elements_70
          by_cases c : ck = 2
          · rw [if_pos c]
            unfold cb_X4_elements_75
            refine JP.LL (V := fun _ F' G' => KX [] [86] F3 G3 F' G' ∧ (p = 1 → k < sz → kk = 1 ∧ G' 86 = upd (G3 86) (jsW X.2.1 + k) r3)) (fun r F G e => ⟨cw_X8_tellInt _ r3 F3 G3 r F G e, fun z hk => ?_⟩) ?_
            · obtain ⟨hkk, f1, f2, f3, f4⟩ := hf z
              rcases hkk with ⟨u1, u2, u3⟩ | ⟨u1, u2, u3⟩
              · rw [jsW_1, u1] at f4
                have f4 : jsW X.2.1 + sz ≤ 2000 := f4
                have ea : (first + nI k).toInt = ((jsW X.2.1 + k : Nat) : Int) := by
                  rw [f1, i_addn _ kI (by rw [nI_toInt (by omega)]; omega) (by rw [nI_toInt (by omega)]; omega), nI_toInt (by omega)]
                  omega
                obtain ⟨-, e⟩ := cp_tI (a := first + nI k) (by omega) (by omega) r F G e
                refine ⟨u1, ?_⟩
                rw [← e, gup_u, show (first + nI k).toNatClampNeg = jsW X.2.1 + k by show (first + nI k).toInt.toNat = _; rw [ea]; rfl]
              · rw [u2] at c
                exact absurd c (by decide)
            rintro r F G ⟨w, w2⟩
            have e : F = F3 := funext (fun m => w.1 m rfl)
            subst e
            exact hb G w (fun z hk => ⟨fun _ => (w2 z hk).2, fun y => by have := (w2 z hk).1; omega⟩)
          · rw [if_neg c]
            unfold cb_X4_elements_91
            refine JP.LL (V := fun _ F' G' => KX [] [86] F3 G3 F' G' ∧ (p = 1 → k < sz → kk = 2 ∧ G' 86 = upd (G3 86) (jsW X.2.1 + k / 4) (jSb (G3 86 (jsW X.2.1 + k / 4)) r3 (k % 4)))) (fun r F G e => ⟨cw_X8_tellByte first (nI k) r3 F3 G3 r F G e, fun z hk => ?_⟩) ?_
            · obtain ⟨hkk, f1, f2, f3, f4⟩ := hf z
              rcases hkk with ⟨u1, u2, u3⟩ | ⟨u1, u2, u3⟩
              · exact absurd u2 c
              · rw [jsW_1, u1] at f4
                have f4 : jsW X.2.1 + (sz + 3) / 4 ≤ 2000 := f4
                rw [f1] at e
                obtain ⟨-, e⟩ := cp_tB (by omega) r F G e
                refine ⟨u1, ?_⟩
                rw [← e, gup_u]
            rintro r F G ⟨w, w2⟩
            have e : F = F3 := funext (fun m => w.1 m rfl)
            subst e
            exact hb G w (fun z hk => ⟨fun y => by have := (w2 z hk).1; omega, fun _ => (w2 z hk).2⟩)
        have m46 : F4 46 = p := T1.1.1.2.2.1.1
        have c45 : F3 45 = p := T1.1.1.2.2.1.2.1
        unfold cb_X4_elements_48 mb_array_324
        rw [if_neg n4]
        rcases hp with z | z
        · have no : p = 1 → False := fun y => by rw [z] at y; exact absurd y (by decide)
          have ref : ∀ G5 : PG, KX [] [86] F3 G3 F3 G5 → JP ((cb_X4_elements_103 fu (cl_X4_elements_19 fu nc) ck first size (nI k) F3 G5).bind kc) ((mb_array_331 fu (ml_array_297 fu nm) x3 b r4 x4 x7 (nI k) (G2 6 (F2 42).toNatClampNeg) r3 F4 G4).bind g) Q := by
            intro G5 k5
            have r345 : JP ((cb_X4_elements_103 fu (cl_X4_elements_19 fu nc) ck first size (nI k) F3 G5).bind kc) ((mb_array_345 fu (ml_array_297 fu nm) x3 b r4 x4 x7 (nI k) r3 F4 G4).bind g) Q := by
              unfold mb_array_345
              rw [if_pos (show F4 46 ≤ 0 by rw [m46, z]; decide)]
              exact cont G5 G4 k5 KX.rf (fun y => (no y).elim) (fun y => (no y).elim)
            unfold mb_array_331
            refine JP.iteRR (fun _ => ?_) (fun _ => r345)
            unfold mb_array_337
            refine JP.RR (mp_n0 (m46.trans z) (by decide)) ?_
            rintro _ _ _ ⟨rfl, rfl⟩
            exact r345
          by_cases c : nI k < size
          · rw [if_pos c]
            exact cls _ (fun G5 k5 _ => ref G5 k5)
          · rw [if_neg c]
            unfold cb_X4_elements_56
            refine JP.LL (cp_note 7 (F1 13) (by decide) (by decide) F3 G3) ?_
            rintro r F G ⟨rfl, -, w, -⟩
            have e := w (c45.trans z)
            subst e
            exact ref G3 KX.rf
        · obtain ⟨s1, s2⟩ := hs z
          have ksz := ks z
          have szI : (nI sz).toInt = sz := nI_toInt (by omega)
          by_cases c : k < sz
          · rw [if_pos (show nI k < size by rw [s1]; exact i_lt.mpr (by omega))]
            refine cls _ (fun G5 k5 h5 => ?_)
            obtain ⟨h5a, h5b⟩ := h5 z c
            obtain ⟨hkk, f1, f2, f3, f4⟩ := hf z
            have jc := jsC_4 X.2.1
            have jw := jsW_1 X.2.1 (kk, sz)
            have base : jF0 (X.2.1 ++ [(kk, sz)]) (G3 86) (G4 41) := by
              rw [h.1.1.2 86 rfl, h.1.2.2 41 rfl]
              exact f0 z
            have ex : (x4 + nI k).toNatClampNeg = jsC X.2.1 + k := by
              show (x4 + nI k).toInt.toNat = _
              rw [f2, i_addn _ kI (by rw [nI_toInt (by omega)]; omega) (by rw [nI_toInt (by omega)]; omega), nI_toInt (by omega)]
              omega
            unfold mb_array_331
            rw [if_neg (show ¬ nI k = r4 from fun y => by rw [s2] at y; have := nI_ij y (by omega) (by omega); omega)]
            unfold mb_array_345
            rw [if_neg (show ¬ F4 46 ≤ 0 by rw [m46, z]; decide)]
            unfold mb_array_352
            refine JP.iteRR (fun d => by rw [f3, s2] at d; have := i_le.mp d; omega) (fun _ => ?_)
            unfold mb_array_359
            refine JP.iteRR (fun d => ?_) (fun d => ?_)
            · unfold mb_array_381 mb_array_383
              refine JP.ixRR (fun _ => cont G5 _ k5 (KX.g rfl KX.rf) (fun _ => c) (fun _ => ?_))
              rcases hkk with ⟨u1, u2, u3⟩ | ⟨u1, u2, u3⟩
              · have h5c := h5a u1
                rw [u1] at base ⊢
                refine base.put1 c h5c ?_
                rw [ex]
                exact gup_u
              · rw [u3] at d
                exact absurd d (by decide)
            · unfold mb_array_372 mb_array_383
              refine JP.ixRR (fun _ => cont G5 _ k5 (KX.g rfl KX.rf) (fun _ => c) (fun _ => ?_))
              rcases hkk with ⟨u1, u2, u3⟩ | ⟨u1, u2, u3⟩
              · exact absurd u3 d
              · have h5c := h5b u1
                rw [u1] at base ⊢
                refine base.put2 c h5c ?_
                rw [ex]
                exact gup_u
          · have ke : k = sz := by omega
            rw [if_neg (show ¬ nI k < size from fun y => by rw [s1] at y; have := i_lt.mp y; omega)]
            have c1 : PP ((cb_X4_elements_56 fu (cl_X4_elements_19 fu nc) ck first size (nI k) (F1 13) F3 G3).bind kc) (fun _ F' _ => (F' 43).toInt ≤ 4000) := by
              unfold cb_X4_elements_56
              rw [Option.bind_assoc]
              refine PP.bind (cp_note 7 (F1 13) (by decide) (by decide) F3 G3) ?_
              rintro r F G ⟨rfl, -, -, w⟩
              have h43 := w (by rw [c45, z]; decide) (by omega)
              exact PP.mono (PP.bind (kqj_X4_elements_67 (F0 := F) (cl_X4_elements_19 fu nc) (fun x1 x2 x3 x4 x5 F G hK => kqz_X4_elements_19 nc x1 x2 x3 x4 x5 F G hK) ck first size (nI k) F G3 CFS.rf) (fun r F' G' w => hkc F r F' G' w)) (fun _ F' _ w => w.2 h43)
            have c2 : PP ((mb_array_331 fu (ml_array_297 fu nm) x3 b r4 x4 x7 (nI k) (G2 6 (F2 42).toNatClampNeg) r3 F4 G4).bind g) (fun _ F' _ => ¬ F' 47 = 0) := by
              unfold mb_array_331
              rw [if_pos (show nI k = r4 by rw [s2, ke])]
              unfold mb_array_337
              rw [Option.bind_assoc]
              exact mp_nt (A := fun F' G' => (mb_array_345 fu (ml_array_297 fu nm) x3 b r4 x4 x7 (nI k) r3 F' G').bind g) (by rw [m46, z]; decide) (by decide) (fun F' G' => PP.bind (nqj_array_345 (F0 := F') (ml_array_297 fu nm) (fun x1 x2 x3 x4 x7 x8 x9 F G hM => nqz_array_297 nm x1 x2 x3 x4 x7 x8 x9 F G hM) x3 b r4 x4 x7 (nI k) r3 F' G' MFS.rf) (fun r F G w => hg F' r F G w))
            exact JP.pp c1 c2 (fun _ _ _ _ _ _ w1 w2 => hQ _ _ _ _ _ _ (.inl ⟨w1, w2⟩))
      · dsimp only
        exact JP.fin (PP.bind (kqj_X4_elements_48 (F0 := F3) (cl_X4_elements_19 fu nc) (fun x1 x2 x3 x4 x5 F G hK => kqz_X4_elements_19 nc x1 x2 x3 x4 x5 F G hK) ck first size (nI k) (F1 13) r3 F3 G3 CFS.rf) (fun r F G w => hkc F3 r F G w)) (PP.bind (nqj_array_324 (F0 := F4) (ml_array_297 fu nm) (fun x1 x2 x3 x4 x7 x8 x9 F G hM => nqz_array_297 nm x1 x2 x3 x4 x7 x8 x9 F G hM) x3 b r4 x4 x7 (nI k) _ r5 F4 G4 MFS.rf) (fun r F G w => hg F4 r F G w)) h hQ
end JV6
