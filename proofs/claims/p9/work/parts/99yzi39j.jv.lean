section JVJ
variable {fu : Nat} {X : JCX} {N K n q nf t j f : Nat} {om : Int32} {F1 F2 : PF} {G1 G2 : PG} {g kc : Int32 × PF × PG → PR} {Q : Int32 → PF → PG → Int32 → PF → PG → Prop}
/-- brackets and FORMALs, in the second pass -/
theorem jt_fls1 (hQ : ∀ (r1 : Int32) (F1 : PF) (G1 : PG) (r2 : Int32) (F2 : PF) (G2 : PG), jEnd F1 F2 → Q r1 F1 G1 r2 F2 G2) (hkc : ∀ (F0 : PF) (r : Int32) (F : PF) (G : PG), CFS F0 F → PP (kc (r, F, G)) (fun _ F' _ => CFS F0 F')) (hg : ∀ (F0 : PF) (r : Int32) (F : PF) (G : PG), MFS F0 F → PP (g (r, F, G)) (fun _ F' _ => MFS F0 F')) (hN : ∀ (r1 : Int32) (F1' : PF) (G1 : PG) (r2 : Int32) (F2' : PF) (G2' : PG), ¬ om = 0 → ¬ (G2 4 (j + 1) = 4 ∧ G2 5 (j + 1) = 23) → (F1' 43).toInt ≤ 4000 → Q r1 F1' G1 r2 F2' G2') (V : jV X 1 N K n q nf t j F1 G1 F2 G2) (h49 : F1 49 = 0)
    (H : ∀ (Y : JCX) (t1 j' c : Nat) (x4 : Int32) (F3 : PF) (G3 : PG) (F4 : PF) (G4 : PG), jV Y 1 N K n q nf t1 j' F3 G3 F4 G4 → jNF (G2 4) (G2 5) (j + 1) c → j + 1 < j' → (F3 10).toInt = (F1 10).toInt → KX jXl jYl F1 G1 F3 G3 → KX jZl jWl F2 G2 F4 G4 → (c ≤ 4 ∧ (c = 0 ∨ om = 0) ∧ x4.toInt = 4 + (F3 49).toInt ∧ jUq X Y ∧ ∃ L : List Nat, jNL (G2 4) (G2 5) (j + 1) L ∧ Y.2.2.1 = X.2.2.1 ++ jFl L) → JP (kc (0, F3, G3)) ((mb_function_293 fu (nI f) x4 (nI c) F4 G4).bind g) Q) : JP ((cf_X4_formals fu om F1 G1).bind kc) ((mb_function_131 fu (nI f) F2 G2).bind g) Q := by
  have o0 := V.1.2.1.1.2.2.2.2.1
  have z0 : (0 : Int32).toInt = 0 := rfl
  unfold cf_X4_formals cb_X4_formals_0 mb_function_131
  rw [Option.bind_assoc, Option.bind_assoc]
  refine JP.both (jo_open V.1.1.1 V.1.2.1.1 (w := 22) (by decide) (by decide) (by decide)) ?_
  rintro r3 F3 G3 r4 F4 G4 (⟨rfl, rfl, hz, o⟩ | o)
  · dsimp only
    have li := V.1.2.1.1.ltS V.1.1.1 hz
    have e := jAl.on (X := X) (p := 1) (s := []) V.1.1 V.1.2.1 li (V.1.1.t1 li) o
    have V1 := V.al e (by omega)
    have d1 : (F3 10).toInt = (F1 10).toInt + 1 := e.2.2.2.1
    have kx : KX jXl jYl F1 G1 F3 G3 := KX.tr KX.rf o.1.2 rfl rfl
    have ky : KX jZl jWl F2 G2 F4 G4 := KX.tr KX.rf o.2.1.2 rfl rfl
    have g4 : G4 4 = G2 4 := ky.2 4 rfl
    have g5 : G4 5 = G2 5 := ky.2 5 rfl
    have f49 : F3 49 = 0 := (o.1.2.1 49 rfl).trans h49
    have sg := V1.1.sg (w := 23) (a := 20) (b := 23) (by decide) (by decide) (by decide)
    have ix := V1.1.2.1.1.ix V1.1.1.1
    unfold cb_X4_formals_9 mb_function_137
    rw [if_neg i10n, if_neg i10n]
    unfold cb_X4_formals_13 mb_function_142
    refine JP.isSS (fun hc => ?_) (fun hc => ?_)
    · rw [if_pos (sg.mpr hc)]
      unfold cb_X4_formals_29 cb_X4_formals_30 mb_function_154
      rw [if_neg i10n]
      have c0 : ∀ m : Nat, JP ((cl_X4_formals_33 fu m om 0 0 F3 G3).bind kc) ((mb_function_282 fu (nI f) 4 0 F4 G4).bind g) Q := by
        intro m
        cases m with
        | zero => exact JP.noL
        | succ m =>
          have ec : cl_X4_formals_33 fu (m + 1) om 0 0 F3 G3 = cb_X4_formals_85 fu F3 G3 := by
            show cb_X4_formals_33 fu (cl_X4_formals_33 fu m) om 0 0 F3 G3 = _
            unfold cb_X4_formals_33 cb_X4_formals_40
            rw [if_pos (rfl : (0 : Int32) = 0)]
            split <;> rfl
          rw [ec]
          unfold cb_X4_formals_85 mb_function_282
          rw [Option.bind_assoc, Option.bind_assoc]
          refine JP.both (jo_close V1.1.1.1 V1.1.2.1.1 (by omega) (w := 23) (by decide) (by decide) (by decide)) ?_
          rintro r7 F7 G7 r8 F8 G8 (⟨rfl, hy, o2⟩ | o2)
          · dsimp only
            unfold mb_function_288
            rw [if_neg i10n]
            have l2 := V1.1.2.1.1.ltS V1.1.1.1 hy
            have e2 := jAl.on (X := X) (p := 1) (s := []) V1.1.1 V1.1.2.1 l2 (V1.1.1.t1 l2) o2
            obtain ⟨s4, s5⟩ := of_decide_eq_true hy
            rw [ix, g4] at s4
            rw [ix, g5] at s5
            refine H X t (j + 1 + 1) 0 4 F7 G7 F8 G8 (V1.al e2 (by omega)) ⟨0, fun y hy => absurd hy (Nat.not_lt_zero _), ⟨s4, s5⟩, .inl ⟨rfl, rfl⟩⟩ (by omega) ?_ (KX.tr kx o2.1.2 rfl rfl) (KX.tr ky o2.2.1.2 rfl rfl) ⟨by omega, .inl rfl, ?_, jUq.rf, [], ⟨0, fun y hy => absurd hy (Nat.not_lt_zero _), ⟨s4, s5⟩, rfl⟩, (List.append_nil _).symm⟩
            · have := e2.2.2.2.1
              omega
            · rw [o2.1.2.1 49 rfl, f49]
              decide
          · dsimp only
            exact JP.fin (PP.bind (kqj_X4_formals_94 F7 G7 CFS.rf) (fun r F G w => hkc F7 r F G w)) (PP.bind (nqj_function_288 (nI f) 4 0 r8 F8 G8 MFS.rf) (fun r F G w => hg F8 r F G w)) (.inr o2) hQ
      exact c0 fu
    · rw [if_neg (fun z => by rw [sg.mp z] at hc; cases hc)]
      have nz : ¬ (G2 4 (j + 1) = 4 ∧ G2 5 (j + 1) = 23) := fun w => by
        have : sgn (G4 4) (G4 5) (F4 42) 23 = true := by
          unfold sgn
          rw [ix, g4, g5]
          exact decide_eq_true w
        rw [this] at hc
        cases hc
      unfold cb_X4_formals_25 cb_X4_formals_30 mb_function_154
      rw [if_pos rfl]
      unfold mb_function_157
      rw [if_neg (show ¬ F4 46 = 0 by rw [V1.1.1.2.2.1.1]; decide)]
      unfold mb_function_174
      refine jt_fml (X := X) (c0 := 0) (zs := j + 1) (Fs := F3) (Ft := F4) (Gs := G3) (Gt := G4) hQ hkc hg (fun r1 F1' G1' r2 F2' G2' _ h1 h2 => hN r1 F1' G1' r2 F2' G2' h1 nz h2) (by omega) (fun z => absurd z (by decide)) (fun Y t1 j' c x4 Fx Gx Fy Gy Vx nfm zj e10 kx' ky' i1 _ => ?_) fu fu 0 (j + 1) t X 4 F3 G3 F4 G4 V1 (Nat.le_refl _) ?_ (fun y hy => ?_) (.inl rfl) rfl KX.rf KX.rf (fun _ => ⟨by omega, ?_, ?_, jUq.rf, by rw [Nat.sub_self]; exact (List.append_nil _).symm⟩) (fun z => absurd z (by decide))
      · obtain ⟨v1, v2, v3, v4, v5, L, v6, v7⟩ := i1 rfl
        rw [g4, g5] at nfm v6
        exact H Y t1 j' c x4 Fx Gx Fy Gy Vx nfm zj (by omega) (KX.tr kx kx' rfl rfl) (KX.tr ky ky' rfl rfl) ⟨v1, .inr v2, v3, v5, L, v6, v7⟩
      · rw [Nat.sub_self]
        rfl
      · omega
      · rw [f49]
        decide
      · rw [f49, z0]
        omega
  · dsimp only
    exact JP.fin (PP.bind (kqj_X4_formals_9 om r3 F3 G3 CFS.rf) (fun r F G w => hkc F3 r F G w)) (PP.bind (nqj_function_137 (nI f) r4 F4 G4 MFS.rf) (fun r F G w => hg F4 r F G w)) (.inr o) hQ
end JVJ
