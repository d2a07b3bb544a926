section JVD
variable {fu : Nat} {X : JCX} {p : Int32} {N K n q nf t i j : Nat} {Fc Fm F1 F2 F3 F4 : PF} {Gc Gm G1 G2 G3 G4 : PG} {g kc : Int32 × PF × PG → PR} {Q : Int32 → PF → PG → Int32 → PF → PG → Prop}
/-- in the first pass the reference's tables may grow -/
theorem jV.r35 (V : jV X 0 N K n q nf t i Fc Gc Fm Gm) (km : KX [35] [34] Fm Gm F2 G2) : jV X 0 N K n q nf t i Fc Gc F2 G2 := by
  obtain ⟨⟨⟨h1, h2, h3, h4, h5, h6⟩, D, R⟩, ⟨⟨a1, a2, a3⟩, b, c, d1, d2⟩⟩ := V
  refine ⟨⟨⟨h1.keep rfl rfl rfl rfl (km.1 7 rfl) (km.1 8 rfl) (km.2 4 rfl) (km.2 5 rfl) (km.2 6 rfl), h2, ?_, ?_, ?_, fun z => absurd z (by decide)⟩, ?_, ?_⟩, ⟨⟨a1, ?_, a3⟩, ?_, ?_, d1, fun z => absurd z (by decide)⟩⟩
  · rw [km.1 46 rfl]; exact h3
  · rw [km.1 54 rfl]; exact h4
  · rw [km.1 54 rfl]; exact h5
  · unfold jD CU at D ⊢
    rw [km.1 42 rfl, km.1 43 rfl, km.1 44 rfl, km.1 47 rfl, km.1 60 rfl, km.1 70 rfl, km.2 6 rfl]
    exact D
  · rw [km.2 6 rfl]; exact R
  · rw [km.1 54 rfl]; exact a2
  · rw [km.1 51 rfl]; exact b
  · rw [km.1 15 rfl]; exact c
/-- FORMALs -/
theorem jt_fml {f c0 zs : Nat} {om : Int32} {Fs Ft : PF} {Gs Gt : PG} (hQ : ∀ (r1 : Int32) (F1 : PF) (G1 : PG) (r2 : Int32) (F2 : PF) (G2 : PG), jEnd F1 F2 → Q r1 F1 G1 r2 F2 G2) (hkc : ∀ (F0 : PF) (r : Int32) (F : PF) (G : PG), CFS F0 F → PP (kc (r, F, G)) (fun _ F' _ => CFS F0 F')) (hg : ∀ (F0 : PF) (r : Int32) (F : PF) (G : PG), MFS F0 F → PP (g (r, F, G)) (fun _ F' _ => MFS F0 F')) (hN : ∀ (r1 : Int32) (F1 : PF) (G1 : PG) (r2 : Int32) (F2 : PF) (G2 : PG), p = 1 → ¬ om = 0 → (F1 43).toInt ≤ 4000 → Q r1 F1 G1 r2 F2 G2) (h10 : 1 ≤ (Fs 10).toInt) (h74 : p = 0 → (Fs 74).toInt = (f : Int) + 1 ∧ f < 450)
    (H : ∀ (Y : JCX) (t1 j c : Nat) (x4 : Int32) (F1 : PF) (G1 : PG) (F2 : PF) (G2 : PG), jV Y p N K n q nf t1 j F1 G1 F2 G2 → jNF (Gt 4) (Gt 5) zs c → zs < j → (F1 10).toInt = (Fs 10).toInt - 1 → KX jXl jYl Fs Gs F1 G1 → KX jZl jWl Ft Gt F2 G2 → (p = 1 → c ≤ 4 ∧ om = 0 ∧ x4.toInt = 4 + (F1 49).toInt ∧ (F1 49).toInt ≤ 2 * (c : Int) ∧ jUq X Y ∧ ∃ L : List Nat, jNL (Gt 4) (Gt 5) zs L ∧ Y.2.2.1 = X.2.2.1 ++ jFl L) → (p = 0 → (∃ L : List Nat, jNL (Gt 4) (Gt 5) zs L ∧ jFo f c0 c L Gs Gt F1 G1 F2 G2) ∧ 6 * ((c0 : Int) + c) ≤ (Gt 6 j).toInt ∧ KX [9, 10, 11, 12, 13, 14, 85] [78, 81, 84] Fs Gs F1 G1) → JP (kc (0, F1, G1)) ((mb_function_293 fu (nI f) x4 (nI c) F2 G2).bind g) Q) : ∀ (nc nm k j t1 : Nat) (Y : JCX) (x4 : Int32) (F1 : PF) (G1 : PG) (F2 : PF) (G2 : PG), jV Y p N K n q nf t1 j F1 G1 F2 G2 → zs ≤ j → k = jCm (Gt 4) (Gt 5) zs (j - zs) → (∀ y : Nat, y < j - zs → ¬ (Gt 4 (zs + y) = 4 ∧ Gt 5 (zs + y) = 23)) → (j = zs ∨ (Gt 4 (j - 1) = 4 ∧ Gt 5 (j - 1) = 28)) → (F1 10).toInt = (Fs 10).toInt → KX jXl jYl Fs Gs F1 G1 → KX jZl jWl Ft Gt F2 G2 → (p = 1 → k ≤ 4 ∧ x4.toInt = 4 + (F1 49).toInt ∧ (F1 49).toInt ≤ 2 * (k : Int) ∧ jUq X Y ∧ Y.2.2.1 = X.2.2.1 ++ jFl (jKs (Gt 4) (Gt 5) zs (j - zs))) → (p = 0 → jFo f c0 k (jKs (Gt 4) (Gt 5) zs (j - zs)) Gs Gt F1 G1 F2 G2 ∧ 6 * ((c0 : Int) + k) ≤ (Gt 6 j).toInt ∧ KX [9, 10, 11, 12, 13, 14, 85] [78, 81, 84] Fs Gs F1 G1) → JP ((cl_X4_formals_33 fu nc om 1 (nI k) F1 G1).bind kc) ((ml_function_177 fu nm (nI f) x4 (nI k) 1 F2 G2).bind g) Q := by
  intro nc
  induction nc with
  | zero =>
    intro nm k j t1 Y x4 F1 G1 F2 G2 _ _ _ _ _ _ _ _ _ _
    exact JP.noL
  | succ nc ih =>
    intro nm k j t1 Y x4 F1 G1 F2 G2 V zj hkk np hst e10 kx ky i1 i0
    cases nm with
    | zero => exact JP.noR
    | succ nm =>
      have hp := V.1.1.2.1
      have jN : j ≤ N := V.1.2.1.1.1
      have n4 := V.1.1.1.1
      have kl := jCm_le (Gt 4) (Gt 5) zs (j - zs)
      have hk : k < 4001 := by omega
      have kI : (nI k).toInt = k := nI_toInt (by omega)
      have l4 : (4001 : Int32).toInt = 4001 := rfl
      have g4 : G2 4 = Gt 4 := ky.2 4 rfl
      have g5 : G2 5 = Gt 5 := ky.2 5 rfl
      have g6 : G2 6 = Gt 6 := ky.2 6 rfl
      show JP ((cb_X4_formals_33 fu (cl_X4_formals_33 fu nc) om 1 (nI k) F1 G1).bind kc) ((mb_function_177 fu (ml_function_177 fu nm) (nI f) x4 (nI k) 1 F2 G2).bind g) Q
      unfold cb_X4_formals_33 mb_function_177
      rw [if_neg (fun z => by have := i_le.mp z; omega), if_neg i10n]
      unfold cb_X4_formals_40 mb_function_182
      rw [if_neg i10n, if_pos (show F2 44 = 0 from V.1.2.1.1.2.2.2.2.2.2.2.1)]
      unfold cb_X4_formals_44 mb_function_189
      rw [Option.bind_assoc, Option.bind_assoc]
      refine JP.both (JP.wR (JP.wL (jt_formal (x2 := om) hk (fun z => (i1 z).1) (fun z => (i1 z).2.2.1) V) (cw_X4_formal (nI k) om F1 G1)) (mw_formalHere (nI k) F2 G2)) ?_
      rintro r3 F3 G3 r4 F4 G4 ⟨⟨hq, w1⟩, w2⟩
      dsimp only
      have kcl : ∀ (F0 F : PF) (G : PG), CFS F0 F → PP ((cb_X4_formals_50 fu (cl_X4_formals_33 fu nc) om (nI k) F G).bind kc) (fun _ F' _ => CFS F0 F') := fun F0 F G w => PP.bind (kqj_X4_formals_50 (F0 := F0) (cl_X4_formals_33 fu nc) (fun x1 x2 x3 F G hK => kqz_X4_formals_33 nc x1 x2 x3 F G hK) om (nI k) F G w) (fun r F G w => hkc F0 r F G w)
      have kx3 : KX jXl jYl Fs Gs F3 G3 := KX.tr kx w1 rfl rfl
      have ky4 : KX jZl jWl Ft Gt F4 G4 := KX.tr ky w2 rfl rfl
      rcases hq with ⟨kd, t2, j1, Z, ⟨er, kd2, hkt⟩, V3, ⟨jj, e10', tk, p5⟩, h0, h1⟩ | h | ⟨z, ho, h43⟩ | ⟨h44, T4, ⟨j2, C4⟩, n20, n25, e10'⟩
      · have j1N : j1 ≤ N := V3.1.2.1.1.1
        have o1 : 1 ≤ (F3 10).toInt := by omega
        have eK : jKs (Gt 4) (Gt 5) zs (j1 - zs) = jKs (Gt 4) (Gt 5) zs (j - zs) ++ [kd] := by
          have st := jKs.step (k := Gt 4) (v := Gt 5) (z := zs) (m := j - zs) (by
            rcases hst with y | y
            · exact .inl (by omega)
            · refine .inr ?_
              rw [show zs + (j - zs) - 1 = j - 1 by omega]
              exact y) (j1 - j - 1) (fun y y1 y2 w => tk (zs + y) (by omega) (by omega) (by rw [g4, g5]; exact ⟨w.1, .inr w.2⟩))
          rw [show j - zs + (j1 - j - 1 + 1) = j1 - zs by omega, show zs + (j - zs) = j by omega] at st
          rw [st, hkt, g4, g5]
        have eK2 : jKs (Gt 4) (Gt 5) zs (j1 + 1 - zs) = jKs (Gt 4) (Gt 5) zs (j1 - zs) := by
          rw [show j1 + 1 - zs = j1 - zs + 1 by omega]
          show jKs (Gt 4) (Gt 5) zs (j1 - zs) ++ (if j1 - zs = 0 ∨ (Gt 4 (zs + (j1 - zs) - 1) = 4 ∧ Gt 5 (zs + (j1 - zs) - 1) = 28) then [jKt (Gt 4) (Gt 5) (zs + (j1 - zs))] else []) = _
          rw [if_neg, List.append_nil]
          rintro (w | w)
          · omega
          · rw [show zs + (j1 - zs) - 1 = j1 - 1 by omega] at w
            exact tk (j1 - 1) (by omega) (by omega) (by rw [g4, g5]; exact ⟨w.1, .inr w.2⟩)
        -- behind a FORMAL
        have go : ∀ (w : Int32) (F5 : PF) (G5 : PG), ((r4 = 0 ∧ w = 1) ∨ (¬ r4 = 0 ∧ w = 2)) → jV Z p N K n q nf t2 j1 F3 G3 F5 G5 → KX jZl jWl Ft Gt F5 G5 → (p = 0 → jFo f c0 (k + 1) (jKs (Gt 4) (Gt 5) zs (j1 - zs)) Gs Gt F3 G3 F5 G5) → JP ((cb_X4_formals_50 fu (cl_X4_formals_33 fu nc) om (nI k) F3 G3).bind kc) ((mb_function_246 fu (ml_function_177 fu nm) (nI f) (nI k) w x4 F5 G5).bind g) Q := by
          intro w F5 G5 hw V5 ky5 fo
          have C := V5.1.2.1.1
          have T := V5.1.1.1
          have sg := C.sg T (w := 28) (a := 25) (b := 28) (by decide) (by decide) (by decide)
          have sg2 := C.sg T (w := 23) (a := 20) (b := 23) (by decide) (by decide) (by decide)
          have ix := C.ix T
          have h4 : G5 4 = Gt 4 := ky5.2 4 rfl
          have h5 : G5 5 = Gt 5 := ky5.2 5 rfl
          have h6 : G5 6 = Gt 6 := ky5.2 6 rfl
          have eJ : jCm (Gt 4) (Gt 5) zs (j1 - zs) = k := by
            have := jCm_no (k := Gt 4) (v := Gt 5) (z := zs) (j - zs) (j1 - j) (fun y y1 y2 w => tk (zs + y) (by omega) (by omega) (by rw [g4, g5]; exact ⟨w.1, .inr w.2⟩))
            rw [show j - zs + (j1 - j) = j1 - zs by omega] at this
            rw [this, ← hkk]
          have np1 : ∀ y : Nat, y < j1 - zs → ¬ (Gt 4 (zs + y) = 4 ∧ Gt 5 (zs + y) = 23) := by
            intro y hy w
            by_cases c : y < j - zs
            · exact np y c w
            · exact tk (zs + y) (by omega) (by omega) (by rw [g4, g5]; exact ⟨w.1, .inl w.2⟩)
          have wv : p = 1 → (x4 + w).toInt = 4 + (F3 49).toInt ∧ (F3 49).toInt ≤ 2 * ((k + 1 : Nat) : Int) := by
            intro z
            obtain ⟨y1, y2, y3, -⟩ := i1 z
            obtain ⟨y5, -, y6, -⟩ := h1 z
            have o4 := (V.2.2.2.2.2 z).2.1.2.2.2.1
            rcases hw with ⟨v1, v2⟩ | ⟨v1, v2⟩
            · rw [er] at v1
              rw [if_pos ((nI_0n kd2).mp v1)] at y6
              rw [v2, i_addn (m := 1) _ rfl (by omega) (by omega)]
              omega
            · rw [er] at v1
              rw [if_neg (fun y => v1 ((nI_0n kd2).mpr y))] at y6
              rw [v2, i_addn (m := 2) _ rfl (by omega) (by omega)]
              omega
          by_cases c25 : F3 11 = 25
          · have hc := sg.mp c25
            have li := C.ltS T hc
            obtain ⟨s4, s5⟩ := of_decide_eq_true hc
            rw [ix, h4] at s4
            rw [ix, h5] at s5
            unfold cb_X4_formals_50 mb_function_246
            rw [if_pos c25, nI_s k (by omega)]
            refine JP.isSS (fun _ => ?_) (fun hc' => by rw [hc] at hc'; cases hc')
            unfold cb_X4_formals_62 cb_X4_formals_67 cb_X4_formals_72 mb_function_258 mb_function_270 mb_function_275 mb_function_279
            rw [if_neg i10n, if_neg i10n, Option.bind_assoc]
            refine JP.L (jo_next T C li) ?_
            rintro rn F7 G7 (o | o)
            · dsimp only
              unfold cb_X4_formals_79
              rw [nI_s k (by omega)]
              have e5 := jAl.on (X := Z) (p := p) (s := []) V5.1.1 V5.1.2.1 li (V5.1.1.t1 li) o
              have V7 := V5.al e5 (by omega)
              refine ih nm (k + 1) (j1 + 1) t2 Z (x4 + w) F7 G7 _ G5 V7 (by omega) ?_ (fun y hy => ?_) (.inr ⟨s4, s5⟩) ?_ (KX.tr kx3 o.1.2 rfl rfl) (KX.tr ky5 o.2.1.2 rfl rfl) (fun z => ?_) (fun z => ⟨?_, ?_, KX.tr (KX.tr (i0 z).2.2 (h0 z).1 rfl rfl) o.1.2 rfl rfl⟩)
              · rw [show j1 + 1 - zs = j1 - zs + 1 by omega]
                show _ = jCm (Gt 4) (Gt 5) zs (j1 - zs) + (if Gt 4 (zs + (j1 - zs)) = 4 ∧ Gt 5 (zs + (j1 - zs)) = 28 then 1 else 0)
                rw [eJ, show zs + (j1 - zs) = j1 by omega, if_pos ⟨s4, s5⟩]
              · by_cases c : y < j1 - zs
                · exact np1 y c
                · rw [show zs + y = j1 by omega, s5]
                  exact fun v => absurd v.2 (by decide)
              · have := e5.2.2.2.1
                omega
              · obtain ⟨y5, y6, -, y7⟩ := h1 z
                obtain ⟨v1, v2⟩ := wv z
                rw [o.1.2.1 49 rfl]
                exact ⟨by omega, v1, v2, (i1 z).2.2.2.1.tr y7.1, by rw [eK2, eK, y7.2, (i1 z).2.2.2.2, jFl_app, List.append_assoc]⟩
              · have := fo z
                rw [eK2]
                unfold jFo at this ⊢
                rw [o.1.2.1 85 rfl, o.2.1.2.1 35 rfl, o.1.2.2 78 rfl, o.1.2.2 84 rfl]
                exact this
              · have y1 := (i0 z).2.1
                have y2 := V5.1.1.inc (a := j1) (b := j1 + 1) (by omega) (by omega)
                rw [h6] at y2
                rw [g6] at p5
                omega
            · dsimp only
              unfold cb_X4_formals_79
              exact JP.fin (PP.bind (kqz_X4_formals_33 nc om 1 _ F7 G7 CFS.rf) (fun r F G w => hkc F7 r F G w)) (PP.bind (nqz_function_177 nm (nI f) (x4 + w) _ 1 _ G5 MFS.rf) (fun r F G w => hg _ r F G w)) (.inr o) hQ
          · refine jt_fend hk hQ hkc hg T C c25 o1 (fun F7 G7 F8 G8 c20 li o => ?_)
            have e5 := jAl.on (X := Z) (p := p) (s := []) V5.1.1 V5.1.2.1 li (V5.1.1.t1 li) o
            have V7 := V5.al e5 (by omega)
            obtain ⟨s4, s5⟩ := of_decide_eq_true (sg2.mp c20)
            rw [ix, h4] at s4
            rw [ix, h5] at s5
            have nl : jNL (Gt 4) (Gt 5) zs (jKs (Gt 4) (Gt 5) zs (j1 - zs)) := ⟨j1 - zs, np1, by rw [show zs + (j1 - zs) = j1 by omega]; exact ⟨s4, s5⟩, rfl⟩
            refine H Z t2 (j1 + 1) (k + 1) (x4 + w) F7 G7 F8 G8 V7 ⟨j1 - zs, np1, ?_, .inr ⟨by omega, by rw [eJ]⟩⟩ (by omega) ?_ (KX.tr kx3 o.1.2 rfl rfl) (KX.tr ky5 o.2.1.2 rfl rfl) (fun z => ?_) (fun z => ⟨?_, ?_, KX.tr (KX.tr (i0 z).2.2 (h0 z).1 rfl rfl) o.1.2 rfl rfl⟩)
            · rw [show zs + (j1 - zs) = j1 by omega]
              exact ⟨s4, s5⟩
            · have := e5.2.2.2.1
              omega
            · obtain ⟨y5, y6, -, y7⟩ := h1 z
              obtain ⟨v1, v2⟩ := wv z
              rw [o.1.2.1 49 rfl]
              exact ⟨by omega, y6, v1, v2, (i1 z).2.2.2.1.tr y7.1, _, nl, by rw [eK, y7.2, (i1 z).2.2.2.2, jFl_app, List.append_assoc]⟩
            · refine ⟨_, nl, ?_⟩
              have := fo z
              unfold jFo at this ⊢
              rw [o.1.2.1 85 rfl, o.2.1.2.1 35 rfl, o.1.2.2 78 rfl, o.1.2.2 84 rfl, o.2.1.2.2 34 rfl]
              exact this
            · have y1 := (i0 z).2.1
              have y2 := V5.1.1.inc (a := j1) (b := j1 + 1) (by omega) (by omega)
              rw [h6] at y2
              rw [g6] at p5
              omega
        refine mp_f195 (V3.1.2.1.1.2.2.2.2.2.2.2.1) (fun z46 w hw => ?_) (fun z46 w hw => ?_)
        · have z : p = 0 := by rw [← V3.1.1.2.2.1.1]; exact z46
          subst z
          have k35 : KX [35] [34] F4 G4 (fup F4 35 (F4 35 + 1)) (gup G4 34 (F4 35).toNatClampNeg r4) := KX.f rfl (KX.g rfl KX.rf)
          refine go w _ _ hw (V3.r35 k35) (KX.tr ky4 k35 rfl rfl) (fun _ => ?_)
          obtain ⟨⟨⟨a1, a2⟩, ⟨a3, a4⟩, a5, a6, aL⟩, a7, -⟩ := i0 rfl
          have a8 : (Gt 6 j).toInt ≤ 4000 := by
            have y1 := TPF.mono V.1.1.1.1.2.2 j N jN (Nat.le_refl _)
            rw [V.1.1.1.2.2.2.2.2.1, g6] at y1
            omega
          obtain ⟨b0, ad⟩ := h0 rfl
          obtain ⟨c1, ⟨c2, c3⟩, ⟨c4, c5⟩, c6, c7⟩ := ad f (c0 + k) (by rw [kx.1 74 rfl]; exact (h74 rfl).1) (h74 rfl).2 (by omega) (by omega)
          have f35 : F4 35 = F2 35 := w2.1 35 rfl
          have e35 : (F4 35).toNatClampNeg = c0 + k := by
            show (F4 35).toInt.toNat = _
            rw [f35]
            omega
          have g34 : G4 34 = G2 34 := w2.2 34 rfl
          rw [eK]
          refine ⟨⟨by omega, ?_⟩, ⟨?_, fun y hy => ?_⟩, fun y hy => ⟨?_, ?_⟩, fun y hy => ?_, by rw [List.length_append, aL]; rfl⟩
          · rw [fup_s, i_addn (m := 1) _ rfl (by rw [f35]; omega) (by rw [f35]; omega), f35]
            omega
          · rw [c4, a3, nI_s k (by omega)]
          · rw [c5 y hy]; exact a4 y hy
          · rw [c3 y (by omega)]; exact (a5 y hy).1
          · rw [e35, gup_x (by omega), g34]; exact (a5 y hy).2
          · by_cases c : y = k
            · rw [c, e35, gup_i]
              exact ⟨kd, kd2, er, c2, by rw [List.getElem?_append_right (by omega), aL, Nat.sub_self]; rfl⟩
            · rw [e35, gup_x (by omega), g34, c3 (c0 + y) (by omega), List.getElem?_append_left (by omega)]
              exact a6 y (by omega)
        · exact go w F4 G4 hw V3 ky4 (fun z => absurd (by rw [V3.1.1.2.2.1.1]; exact z) z46)
      · exact JP.fin (kcl F3 F3 G3 CFS.rf) (PP.bind (nqj_function_195 (F0 := F4) (ml_function_177 fu nm) (fun x1 x4 x5 x6 F G hM => nqz_function_177 nm x1 x4 x5 x6 F G hM) (nI f) x4 (nI k) r4 F4 G4 MFS.rf) (fun r F G w => hg F4 r F G w)) h hQ
      · exact JP.pp (V1 := fun _ _ _ => True) (PP.mono (kcl F3 F3 G3 CFS.rf) (fun _ F' _ w => w.2 h43)) (fun _ _ _ _ => trivial) (fun _ _ _ _ _ _ v1 _ => hN _ _ _ _ _ _ z ho v1)
      · have o1 : 1 ≤ (F3 10).toInt := by omega
        have cu : ∀ (F5 : PF) (G5 : PG), KX [35] [34] F4 G4 F5 G5 → TKE N K n F3 G3 F5 G5 ∧ CU N j2 F3 G3 F5 G5 := by
          intro F5 G5 k5
          refine ⟨T4.keep rfl rfl rfl rfl (k5.1 7 rfl) (k5.1 8 rfl) (k5.2 4 rfl) (k5.2 5 rfl) (k5.2 6 rfl), ?_⟩
          unfold CU at C4 ⊢
          rw [k5.1 42 rfl, k5.1 43 rfl, k5.1 44 rfl]
          exact C4
        refine mp_f195 h44 (fun _ w hw => ?_) (fun _ w hw => ?_)
        · have k35 : KX [35] [34] F4 G4 (fup F4 35 (F4 35 + 1)) (gup G4 34 (F4 35).toNatClampNeg r4) := KX.f rfl (KX.g rfl KX.rf)
          obtain ⟨T5, C5⟩ := cu _ _ k35
          exact jt_fend hk hQ hkc hg T5 C5 n25 o1 (fun F7 G7 F8 G8 c20 _ _ => absurd c20 n20)
        · exact jt_fend hk hQ hkc hg T4 C4 n25 o1 (fun F7 G7 F8 G8 c20 _ _ => absurd c20 n20)
end JVD
