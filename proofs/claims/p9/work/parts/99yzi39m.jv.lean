section JVM
variable {fu : Nat} {X : JCX} {N K n q nf t i j f n0 : Nat} {φ : Nat → Nat} {om cid pl gv xv x1 x2 : Int32} {Fc Fm Fa Fb F1 F2 : PF} {Gc Gm Ga Gb G1 G2 : PG} {ag : Int32 → Int32 → PF → PG → PR} {g kc : Int32 × PF × PG → PR} {Q : Int32 → PF → PG → Int32 → PF → PG → Prop}
/-- in the first pass: where FORMALs stand -/
theorem jV.r32 (V : jV X 0 N K n q nf t i Fc Gc Fm Gm) (km : KX [] [32] Fm Gm Fm G2) : jV X 0 N K n q nf t i Fc Gc Fm G2 := by
  obtain ⟨⟨⟨h1, h2, h3, h4, h5, h6⟩, D, R⟩, ⟨⟨a1, a2, a3⟩, b, c, d1, d2⟩⟩ := V
  refine ⟨⟨⟨h1.keep rfl rfl rfl rfl rfl rfl (km.2 4 rfl) (km.2 5 rfl) (km.2 6 rfl), h2, h3, h4, h5, fun z => absurd z (by decide)⟩, ?_, ?_⟩, ⟨⟨a1, a2, a3⟩, b, c, d1, fun z => absurd z (by decide)⟩⟩
  · unfold jD CU at D ⊢
    rw [km.2 6 rfl]
    exact D
  · rw [km.2 6 rfl]; exact R
/-- brackets and FORMALs, in the first pass -/
theorem jt_fls0 {c0 : Nat} (hQ : ∀ (r1 : Int32) (F1 : PF) (G1 : PG) (r2 : Int32) (F2 : PF) (G2 : PG), jEnd F1 F2 → Q r1 F1 G1 r2 F2 G2) (hkc : ∀ (F0 : PF) (r : Int32) (F : PF) (G : PG), CFS F0 F → PP (kc (r, F, G)) (fun _ F' _ => CFS F0 F')) (hg : ∀ (F0 : PF) (r : Int32) (F : PF) (G : PG), MFS F0 F → PP (g (r, F, G)) (fun _ F' _ => MFS F0 F')) (V : jV X 0 N K n q nf t j F1 G1 F2 G2) (h74 : (F1 74).toInt = (f : Int) + 1) (hf : f < 450) (h85 : (F1 85).toInt = c0) (h35 : (F2 35).toInt = c0) (h78 : G1 78 f = 0) (h32 : G2 32 f = -1) (h6 : 6 * (c0 : Int) ≤ (G2 6 j).toInt)
    (H : ∀ (Y : JCX) (t1 j' c : Nat) (x4 : Int32) (F3 : PF) (G3 : PG) (F4 : PF) (G4 : PG), jV Y 0 N K n q nf t1 j' F3 G3 F4 G4 → jNF (G2 4) (G2 5) (j + 1) c → j + 1 < j' → (F3 10).toInt = (F1 10).toInt → KX [9, 10, 11, 12, 13, 14, 85] [78, 81, 84] F1 G1 F3 G3 → KX jZl (32 :: jWl) F2 G2 F4 G4 → ((∃ L : List Nat, jNL (G2 4) (G2 5) (j + 1) L ∧ jFo f c0 c L G1 G2 F3 G3 F4 G4) ∧ 6 * ((c0 : Int) + c) ≤ (G2 6 j').toInt) → ((G4 32 f = -1 ↔ (G2 4 (j + 1) = 4 ∧ G2 5 (j + 1) = 23)) ∧ ∀ y : Nat, y ≠ f → G4 32 y = G2 32 y) → JP (kc (0, F3, G3)) ((mb_function_293 fu (nI f) x4 (nI c) F4 G4).bind g) Q) : JP ((cf_X4_formals fu om F1 G1).bind kc) ((mb_function_131 fu (nI f) F2 G2).bind g) Q := by
  have o0 := V.1.2.1.1.2.2.2.2.1
  have z0 : (0 : Int32).toInt = 0 := rfl
  have fI : (nI f).toNatClampNeg = f := nI_c _ (by omega)
  have jN : j ≤ N := V.1.2.1.1.1
  unfold cf_X4_formals cb_X4_formals_0 mb_function_131
  rw [Option.bind_assoc, Option.bind_assoc]
  refine JP.both (jo_open V.1.1.1 V.1.2.1.1 (w := 22) (by decide) (by decide) (by decide)) ?_
  rintro r3 F3 G3 r4 F4 G4 (⟨rfl, rfl, hz, o⟩ | o)
  · dsimp only
    have li := V.1.2.1.1.ltS V.1.1.1 hz
    have e := jAl.on (X := X) (p := 0) (s := []) V.1.1 V.1.2.1 li (V.1.1.t1 li) o
    have V1 := V.al e (by omega)
    have d1 : (F3 10).toInt = (F1 10).toInt + 1 := e.2.2.2.1
    have kx : KX [9, 10, 11, 12, 13, 14, 85] [78, 81, 84] F1 G1 F3 G3 := KX.tr KX.rf o.1.2 rfl rfl
    have ky : KX jZl (32 :: jWl) F2 G2 F4 G4 := KX.tr KX.rf o.2.1.2 rfl rfl
    have g4 : G4 4 = G2 4 := ky.2 4 rfl
    have g5 : G4 5 = G2 5 := ky.2 5 rfl
    have g6 : G4 6 = G2 6 := ky.2 6 rfl
    have g32 : G4 32 = G2 32 := o.2.1.2.2 32 rfl
    have g34 : G4 34 = G2 34 := o.2.1.2.2 34 rfl
    have g78 : G3 78 = G1 78 := o.1.2.2 78 rfl
    have g84 : G3 84 = G1 84 := o.1.2.2 84 rfl
    have mo := V.1.1.inc (a := j) (b := j + 1) (by omega) (by omega)
    have sg := V1.1.sg (w := 23) (a := 20) (b := 23) (by decide) (by decide) (by decide)
    have ix := V1.1.2.1.1.ix V1.1.1.1
    have fo0 : jFo f c0 0 [] G1 G2 F3 G3 F4 G4 := by
      refine ⟨⟨by rw [o.1.2.1 85 rfl, h85]; omega, by rw [o.2.1.2.1 35 rfl, h35]; omega⟩, ⟨by rw [g78, h78]; rfl, fun y _ => by rw [g78]⟩, fun y _ => ⟨by rw [g84], by rw [g34]⟩, (fun y hy => absurd hy (Nat.not_lt_zero _)), rfl⟩
    unfold cb_X4_formals_9 mb_function_137
    rw [if_neg i10n, if_neg i10n]
    unfold cb_X4_formals_13 mb_function_142
    refine JP.isSS (fun hc => ?_) (fun hc => ?_)
    · rw [if_pos (sg.mpr hc)]
      unfold cb_X4_formals_29 cb_X4_formals_30 mb_function_154
      rw [if_neg i10n]
      have c0' : ∀ m : Nat, JP ((cl_X4_formals_33 fu m om 0 0 F3 G3).bind kc) ((mb_function_282 fu (nI f) 4 0 F4 G4).bind g) Q := by
        intro m
        cases m with
        | zero => exact JP.noL
        | succ m =>
          have ec : cl_X4_formals_33 fu (m + 1) om 0 0 F3 G3 = cb_X4_formals_85 fu F3 G3 := by
            show cb_X4_formals_33 fu (cl_X4_formals_33 fu m) om 0 0 F3 G3 = _
            unfold cb_X4_formals_33 cb_X4_formals_40
            rw [if_pos (rfl : (0 : Int32) = 0)]
            split <;> rfl
          rw [ec]
          unfold cb_X4_formals_85 mb_function_282
          rw [Option.bind_assoc, Option.bind_assoc]
          refine JP.both (jo_close V1.1.1.1 V1.1.2.1.1 (by omega) (w := 23) (by decide) (by decide) (by decide)) ?_
          rintro r7 F7 G7 r8 F8 G8 (⟨rfl, hy, o2⟩ | o2)
          · dsimp only
            unfold mb_function_288
            rw [if_neg i10n]
            have l2 := V1.1.2.1.1.ltS V1.1.1.1 hy
            have e2 := jAl.on (X := X) (p := 0) (s := []) V1.1.1 V1.1.2.1 l2 (V1.1.1.t1 l2) o2
            obtain ⟨s4, s5⟩ := of_decide_eq_true hy
            rw [ix, g4] at s4
            rw [ix, g5] at s5
            have mo2 := V.1.1.inc (a := j + 1) (b := j + 1 + 1) (by omega) (by omega)
            refine H X t (j + 1 + 1) 0 4 F7 G7 F8 G8 (V1.al e2 (by omega)) ⟨0, fun y hy => absurd hy (Nat.not_lt_zero _), ⟨s4, s5⟩, .inl ⟨rfl, rfl⟩⟩ (by omega) ?_ (KX.tr kx o2.1.2 rfl rfl) (KX.tr ky o2.2.1.2 rfl rfl) ⟨?_, ?_⟩ ⟨?_, fun y hy => ?_⟩
            · have := e2.2.2.2.1
              omega
            · refine ⟨[], ⟨0, fun y hy => absurd hy (Nat.not_lt_zero _), ⟨s4, s5⟩, rfl⟩, ?_⟩
              unfold jFo at fo0 ⊢
              rw [o2.1.2.1 85 rfl, o2.2.1.2.1 35 rfl, o2.1.2.2 78 rfl, o2.1.2.2 84 rfl, o2.2.1.2.2 34 rfl]
              exact fo0
            · omega
            · rw [o2.2.1.2.2 32 rfl, g32, h32]
              exact ⟨fun _ => ⟨s4, s5⟩, fun _ => rfl⟩
            · rw [o2.2.1.2.2 32 rfl, g32]
          · dsimp only
            exact JP.fin (PP.bind (kqj_X4_formals_94 F7 G7 CFS.rf) (fun r F G w => hkc F7 r F G w)) (PP.bind (nqj_function_288 (nI f) 4 0 r8 F8 G8 MFS.rf) (fun r F G w => hg F8 r F G w)) (.inr o2) hQ
      exact c0' fu
    · rw [if_neg (fun z => by rw [sg.mp z] at hc; cases hc)]
      have nz : ¬ (G2 4 (j + 1) = 4 ∧ G2 5 (j + 1) = 23) := fun w => by
        have : sgn (G4 4) (G4 5) (F4 42) 23 = true := by
          unfold sgn
          rw [ix, g4, g5]
          exact decide_eq_true w
        rw [this] at hc
        cases hc
      unfold cb_X4_formals_25 cb_X4_formals_30 mb_function_154
      rw [if_pos rfl]
      unfold mb_function_157
      rw [if_pos (show F4 46 = 0 from V1.1.1.2.2.1.1)]
      unfold mb_function_164
      rw [fI]
      refine JP.ixRR (fun _ => ?_)
      unfold mb_function_174
      have k32 : KX [] [32] F4 G4 F4 (gup G4 32 f (F4 42)) := KX.g rfl KX.rf
      have V2 := V1.r32 k32
      have n42 : ¬ F4 42 = -1 := fun y => by
        rw [y] at ix
        exact absurd ix (by
          show ¬ (0 : Nat) = j + 1
          omega)
      refine jt_fml (X := X) (c0 := c0) (zs := j + 1) (Fs := F3) (Ft := F4) (Gs := G3) (Gt := gup G4 32 f (F4 42)) hQ hkc hg (fun r1 F1' G1' r2 F2' G2' z => absurd z (by decide)) (by omega) (fun _ => ⟨by rw [kx.1 74 rfl]; exact h74, hf⟩) (fun Y t1 j' c x4 Fx Gx Fy Gy Vx nfm zj e10 _ ky' _ i0 => ?_) fu fu 0 (j + 1) t X 4 F3 G3 F4 (gup G4 32 f (F4 42)) V2 (Nat.le_refl _) ?_ (fun y hy => ?_) (.inl rfl) rfl KX.rf KX.rf (fun z => absurd z (by decide)) (fun _ => ⟨?_, ?_, KX.rf⟩)
      · obtain ⟨⟨L, nl, fo⟩, b6, kx'⟩ := i0 rfl
        rw [k32.2 4 rfl, k32.2 5 rfl, g4, g5] at nfm nl
        rw [k32.2 6 rfl, g6] at b6
        refine H Y t1 j' c x4 Fx Gx Fy Gy Vx nfm zj (by omega) (KX.tr kx kx' rfl rfl) (KX.tr (KX.tr ky k32 rfl rfl) ky' rfl rfl) ⟨?_, b6⟩ ⟨?_, fun y hy => ?_⟩
        · refine ⟨L, nl, ?_⟩
          unfold jFo at fo ⊢
          rw [g78, g84, k32.2 34 rfl, g34] at fo
          exact fo
        · rw [ky'.2 32 rfl, gup_i]
          exact ⟨fun y => absurd y n42, fun y => absurd y nz⟩
        · rw [ky'.2 32 rfl, gup_x hy, g32]
      · rw [Nat.sub_self]
        rfl
      · omega
      · rw [Nat.sub_self]
        show jFo f c0 0 [] _ _ _ _ _ _
        unfold jFo at fo0 ⊢
        rw [k32.2 34 rfl, g34, g78, g84]
        rw [g34, g78, g84] at fo0
        exact fo0
      · rw [k32.2 6 rfl, g6]
        omega
  · dsimp only
    exact JP.fin (PP.bind (kqj_X4_formals_9 om r3 F3 G3 CFS.rf) (fun r F G w => hkc F3 r F G w)) (PP.bind (nqj_function_137 (nI f) r4 F4 G4 MFS.rf) (fun r F G w => hg F4 r F G w)) (.inr o) hQ
end JVM
