section JQK
variable {fu : Nat} {gl : JLY} {K : Nat → List Nat} {nf B WB : Nat} {Fc Fm F1 F2 F3 F4 : PF} {Gc Gm G1 G2 G3 G4 : PG}
/-- what is fixed while a run goes -/
def jFx (gl : JLY) (K : Nat → List Nat) (nf B WB : Nat) (Fc : PF) (Gc : PG) (Fm : PF) (Gm : PG) : Prop := ((Fc 6).toInt = WB ∧ WB ≤ 8400 ∧ B ≤ 8000 ∧ nf ≤ 449 ∧ (Fc 74).toInt = nf ∧ (Fm 24).toInt = nf) ∧ jTb K nf Gc Gm ∧ (∀ f : Nat, f < nf → ∃ (a b : Nat) (mu : Nat → Nat) (A : JAN) (le : JLY), jFw gl K f B WB Gc Gm a b mu A le) ∧ PRG Fm Gm ∧ (Fm 84).toInt ≤ 2000
/-- what a turn of both loops does: the reference one step and the class none; or one each; or the reference one more -/
def jMv (fu : Nat) (S : JST) (gl : JLY) (Fc : PF) (Gc : PG) (Fm : PF) (Gm : PG) (F1 : PF) (G1 : PG) (F2 : PF) (G2 : PG) : Prop := PP (mf_works fu F2 G2) (fun r F4 G4 => r = 1 ∧ jInv S gl Fc Gc Fm Gm F1 G1 F4 G4) ∨ JP (cf_X6_step fu F1 G1) (mf_works fu F2 G2) (fun _ F3 G3 r F4 G4 => (r = 1 ∧ jInv S gl Fc Gc Fm Gm F3 G3 F4 G4) ∨ (r = 0 ∧ jStx S gl Fc Gc Fm Gm F3 G3 F4 G4) ∨ (r = 1 ∧ F4 75 = 1 ∧ PP (mf_works fu F4 G4) (fun r F5 G5 => (r = 1 ∧ jInv S gl Fc Gc Fm Gm F3 G3 F5 G5) ∨ (r = 0 ∧ jStx S gl Fc Gc Fm Gm F3 G3 F5 G5))))
theorem jq_any {φ : Nat} (X : jFx gl K nf B WB Fc Gc Fm Gm) (I : jInv (jSS gl K nf B WB Gc Gm) gl Fc Gc Fm Gm F1 G1 F2 G2) (cu : CUR Fm Gm F2 G2 φ) : jMv fu (jSS gl K nf B WB Gc Gm) gl Fc Gc Fm Gm F1 G1 F2 G2 := by
  have I0 := I
  obtain ⟨⟨kc, km⟩, rg, ik, i61, i63, i75, i66, i65⟩ := I
  obtain ⟨⟨x1, x2, x3, x4, x5, x6⟩, T, hC, hP, h84⟩ := X
  have rg0 := rg
  obtain ⟨hx, H, n, g, a, b, mu, A, le, cb, wb, t, k, s, l, R⟩ := rg
  have Z : jSt0 WB B Gc Gm F1 G1 G2 := ⟨⟨kc.2 5 rfl, by rw [kc.1 6 rfl]; exact x1, x2, x3⟩, km.2 56 rfl, km.2 57 rfl, km.2 58 rfl, km.2 59 rfl⟩
  have Q := R.tl
  have k8 : k < 100000 := by have := Q.2.2.2.2.2; omega
  have ek : F2 76 = nI k := R.2.2.2.2.2.2.2.1.1
  have cn : (0 ≤ (F2 78).toInt ∧ (F2 78).toInt ≤ 1000) ∧ 0 ≤ (F2 79).toInt := by
    obtain ⟨_, _, _, _, _, _, c, -⟩ := id cu
    exact ⟨c.2.2.2.2.2.2.2.1, c.2.2.2.2.2.2.2.2.1⟩
  have h4 : t + s.length < 399000 := by
    obtain ⟨n1, A1, m1, -, -, -, -, h⟩ := cu.tt hP ek k8
    rw [R.2.2.2.2.2.2.2.2.1.1, nI_toInt (by have := R.2.2.2.2.2.2.2.2.2.2.2.2.2.2.1; omega)] at h
    omega
  have n5 : n < 100000 := by
    have := R.bd.1
    have := R.2.2.2.2.2.2.2.2.2.2.2.2.2.1
    omega
  -- a jump stays in its function
  have jm : ∀ t1 : Nat, t1 < 100000 → (Gm 56 k = 12 ∨ Gm 56 k = 13 ∨ Gm 56 k = 14) → Gm 57 k = nI t1 → a ≤ t1 := by
    intro t1 t8 e et
    obtain ⟨n1, e1, e2⟩ := cu.jmp hP ek k8 e et t8
    rw [R.2.2.2.2.2.1.1, nI_toInt (by omega)] at e1
    have en : n1 = n := by omega
    have gn : g < 100000 := by have := Q.1.1; omega
    rw [en, R.2.2.1.1, nI_c g (by omega), Q.1.2.1.1, nI_toInt (by have := Q.1.2.1; omega)] at e2
    omega
  have bB : b ≤ B := Q.1.2.1.2.2
  have E := Q.2.2.2.1
  have o1 : JP (cf_X6_step fu F1 G1) (mf_works fu F2 G2) (fun _ F3 G3 r F4 G4 => jO1 (jSS gl K nf B WB Gc Gm) gl F1 G1 F2 G2 F3 G3 r F4 G4) → jMv fu (jSS gl K nf B WB Gc Gm) gl Fc Gc Fm Gm F1 G1 F2 G2 := fun h => .inr (JP.mono h (fun _ F3 G3 r F4 G4 w => by
    rcases I0.o1 w with q | q
    · exact .inl q
    · exact .inr (.inl q)))
  have gm := rg0.gm
  rcases Q.2.1 with ⟨s1, n1, O, an, em⟩ | ⟨e0, t1, tb, -, et, an, hj⟩ | ⟨s0, t1, es, an, em, et, co⟩ | ⟨-, T2⟩
  · have O : jO (false, gl, l, K) (Gm 56 k) (Gm 57 k) (Gm 58 k) (Gm 59 k) (fun j => Gc 5 (mu k + j)) s s1 n1 := by
      rw [E] at O
      exact O
    by_cases c19 : Gm 56 k = 19
    · right
      -- OUTPUT
      have o19 : n1 = 1 ∧ Gc 5 (mu k) = 16 ∧ s = 0 :: s1 := by
        have no : ∀ z : Int32, Gm 56 k = z → z = 19 := fun z hz => by rw [hz] at c19; exact c19
        rcases O with ⟨z, -⟩ | ⟨z, -⟩ | ⟨z, -⟩ | ⟨z, -⟩ | ⟨-, h⟩
        · exact absurd (no _ z) (by decide)
        · exact absurd (no _ z) (by decide)
        · exact absurd (no _ z) (by decide)
        · exact absurd (no _ z) (by decide)
        · rcases h with ⟨z, -⟩ | ⟨z, -⟩ | ⟨z, -⟩ | ⟨z, -⟩ | ⟨z, -⟩ | ⟨z, -⟩ | ⟨z, -⟩ | ⟨z, -⟩ | ⟨z, -⟩ | ⟨z, -⟩ | ⟨z, z1, z2, z3⟩ | ⟨z, -⟩ | ⟨z, -⟩
          · exact absurd (no _ z) (by decide)
          · exact absurd (no _ z) (by decide)
          · exact absurd (no _ z) (by decide)
          · exact absurd (no _ z) (by decide)
          · exact absurd (no _ z) (by decide)
          · exact absurd (no _ z) (by decide)
          · exact absurd (no _ z) (by decide)
          · exact absurd (no _ z) (by decide)
          · exact absurd (no _ z) (by decide)
          · exact absurd (no _ z) (by decide)
          · exact ⟨z1, z2, z3⟩
          · exact absurd (no _ z) (by decide)
          · exact absurd (no _ z) (by decide)
      obtain ⟨z1, z2, z3⟩ := o19
      rw [z1] at em
      refine JP.mono (jq_pu R hx Z ik.2.1 cn.2 c19 z2 z3 an em) ?_
      rintro _ F3 G3 r F4 G4 ⟨rr, h1, h2, h3, h4⟩
      refine .inl ⟨rr, ⟨KX.tr kc h2 rfl rfl, KX.tr km h3 rfl rfl⟩, h1, ⟨?_, h4, ?_⟩, ?_, ?_, ?_, ?_, ?_⟩
      · rw [h2.1 62 rfl, h2.1 64 rfl, h2.1 67 rfl, h3.1 78 rfl, h3.1 77 rfl, h3.1 84 rfl]; exact ik.1
      · unfold jIp
        rw [h2.1 69 rfl, h2.1 70 rfl, h2.2 68 rfl, h3.1 80 rfl, h3.2 88 rfl]; exact ik.2.2
      · rw [h2.1 61 rfl]; exact i61
      · rw [h2.1 63 rfl]; exact i63
      · rw [h3.1 75 rfl]; exact i75
      · rw [h2.1 66 rfl]; exact i66
      · rw [h2.1 65 rfl]; exact i65
    by_cases c21 : Gm 56 k = 21
    · right
      -- INPUT
      have o21 : n1 = 1 ∧ Gc 5 (mu k) = 17 ∧ s1 = 0 :: s := by
        have no : ∀ z : Int32, Gm 56 k = z → z = 21 := fun z hz => by rw [hz] at c21; exact c21
        rcases O with ⟨z, -⟩ | ⟨z, -⟩ | ⟨z, -⟩ | ⟨z, -⟩ | ⟨-, h⟩
        · exact absurd (no _ z) (by decide)
        · exact absurd (no _ z) (by decide)
        · exact absurd (no _ z) (by decide)
        · exact absurd (no _ z) (by decide)
        · rcases h with ⟨z, -⟩ | ⟨z, -⟩ | ⟨z, -⟩ | ⟨z, -⟩ | ⟨z, -⟩ | ⟨z, -⟩ | ⟨z, -⟩ | ⟨z, -⟩ | ⟨z, -⟩ | ⟨z, -⟩ | ⟨z, -⟩ | ⟨z, z1, z2, z3⟩ | ⟨z, -⟩
          · exact absurd (no _ z) (by decide)
          · exact absurd (no _ z) (by decide)
          · exact absurd (no _ z) (by decide)
          · exact absurd (no _ z) (by decide)
          · exact absurd (no _ z) (by decide)
          · exact absurd (no _ z) (by decide)
          · exact absurd (no _ z) (by decide)
          · exact absurd (no _ z) (by decide)
          · exact absurd (no _ z) (by decide)
          · exact absurd (no _ z) (by decide)
          · exact absurd (no _ z) (by decide)
          · exact ⟨z1, z2, z3⟩
          · exact absurd (no _ z) (by decide)
      obtain ⟨z1, z2, z3⟩ := o21
      rw [z1] at em
      rw [z3] at an
      refine JP.mono (jq_ge R hx Z h4 ik.2.2 c21 z2 an em) ?_
      rintro _ F3 G3 r F4 G4 (⟨rr, ⟨c1, c2, c3, c4⟩, m1, m2⟩ | ⟨rr, h1, h2, h3, h5⟩)
      · refine .inr (.inl ⟨rr, ⟨KX.tr kc c1 rfl rfl, KX.tr km m1 rfl rfl⟩, c3, ik.kx c1 m1 rfl rfl, c4.trans m2.symm, ?_, ?_, ⟨fun z => ?_, fun _ => ?_, fun z => ?_, fun _ => ?_⟩, fun _ => ?_⟩)
        · rw [c1.1 59 rfl, m1.1 83 rfl]; exact gm.2
        · unfold jGm
          rw [c1.2 54 rfl, m1.2 90 rfl]; exact gm.1
        · rw [m2] at z; exact absurd z (by decide)
        · rw [c1.1 66 rfl]; exact i66
        · rw [m2] at z; exact absurd z (by decide)
        · rw [c1.1 65 rfl]; exact i65
        · exact rg0.fr (c1.1 300 rfl) ⟨c1.1 56 rfl, by rw [c2, R.2.2.2.2.2.2.2.1.2], c1.1 58 rfl, c1.1 59 rfl, c1.2 54 rfl, c1.2 55 rfl⟩ ⟨m1.1 72 rfl, m1.1 76 rfl, m1.1 83 rfl, m1.1 85 rfl, m1.1 86 rfl, m1.1 87 rfl⟩ ⟨m1.2 71 rfl, m1.2 90 rfl, m1.2 91 rfl, m1.2 92 rfl, m1.2 93 rfl⟩
      · refine .inl ⟨rr, ⟨KX.tr kc h2 rfl rfl, KX.tr km h3 rfl rfl⟩, h1, ⟨?_, ?_, h5⟩, ?_, ?_, ?_, ?_, ?_⟩
        · rw [h2.1 62 rfl, h2.1 64 rfl, h2.1 67 rfl, h3.1 78 rfl, h3.1 77 rfl, h3.1 84 rfl]; exact ik.1
        · unfold jOu
          rw [h2.1 72 rfl, h2.2 71 rfl, h3.1 79 rfl, h3.2 89 rfl]; exact ik.2.1
        · rw [h2.1 61 rfl]; exact i61
        · rw [h2.1 63 rfl]; exact i63
        · rw [h3.1 75 rfl]; exact i75
        · rw [h2.1 66 rfl]; exact i66
        · rw [h2.1 65 rfl]; exact i65
    exact o1 (jq_o R hx Z h4 O an em c19 c21)
  · rw [E] at an
    have ta := jm t1 (by omega) (.inl e0) et
    rcases hj with hj | hj
    · left
      refine PP.mono (jq_g0 R hx Z e0 ⟨ta, tb⟩ et an hj) ?_
      rintro r F4 G4 ⟨rr, h1, h3⟩
      refine ⟨rr, ⟨kc, KX.tr km h3 rfl rfl⟩, h1, ik.kx (KX.rf : KX [] [] F1 G1 F1 G1) h3 rfl rfl, i61, i63, ?_, i66, i65⟩
      rw [h3.1 75 rfl]; exact i75
    · exact o1 (jq_go R hx Z e0 ⟨ta, tb⟩ et an hj)
  · rw [E] at es
    rcases co with ⟨tb, -, at1, c4, c5⟩ | ⟨tb, tk, at1, c4, e0, c5⟩
    · have ta := jm t1 (by omega) (by rcases c5 with ⟨z, -⟩ | ⟨z, -⟩; exact .inr (.inl z); exact .inr (.inr z)) et
      exact o1 (jq_i1 R hx Z es an em et ta tb at1 c4 c5)
    · right
      refine JP.mono (jq_i2 R hx Z h4 es an em et tk tb at1 c4 e0 c5) ?_
      rintro _ F3 G3 r F4 G4 ⟨rr, h2, h3, h5⟩
      have mk : ∀ (F5 : PF) (G5 : PG), KX [72, 76] [71, 90] F2 G2 F5 G5 → jRg (jSS gl K nf B WB Gc Gm) gl F3 G3 F5 G5 → jInv (jSS gl K nf B WB Gc Gm) gl Fc Gc Fm Gm F3 G3 F5 G5 := by
        intro F5 G5 h3 h1
        refine ⟨⟨KX.tr kc h2 rfl rfl, KX.tr km h3 rfl rfl⟩, h1, ik.kx h2 h3 rfl rfl, ?_, ?_, ?_, ?_, ?_⟩
        · rw [h2.1 61 rfl]; exact i61
        · rw [h2.1 63 rfl]; exact i63
        · rw [h3.1 75 rfl]; exact i75
        · rw [h2.1 66 rfl]; exact i66
        · rw [h2.1 65 rfl]; exact i65
      rcases h5 with h5 | h5
      · exact .inl ⟨rr, mk F4 G4 h3 h5⟩
      · refine .inr (.inr ⟨rr, by rw [h3.1 75 rfl]; exact i75, PP.mono h5 ?_⟩)
        rintro r5 F5 G5 ⟨w1, w2, w3⟩
        exact .inl ⟨w1, mk F5 G5 w3 w2⟩
  · have T2 : jT2 (false, gl, le, K) Gm Gc mu A b k l := T2
    unfold jT2 at T2
    rw [E] at T2
    -- no turn is left
    have tu : ∀ (F3 : PF) (G3 : PG) (r : Int32) (F4 : PF) (G4 : PG), jTu (mu k) F1 G1 F2 G2 F3 G3 r F4 G4 → r = 0 ∧ jStx (jSS gl K nf B WB Gc Gm) gl Fc Gc Fm Gm F3 G3 F4 G4 := by
      rintro F3 G3 r F4 G4 ⟨rr, ⟨c1, c2, c3, c4⟩, rfl, rfl⟩
      refine ⟨rr, ⟨KX.tr kc c1 rfl rfl, km⟩, c3, ik.kx c1 (KX.rf : KX [] [] F2 G2 F2 G2) rfl rfl, c4.trans i75.symm, ?_, ?_, ⟨fun z => ?_, fun _ => ?_, fun z => ?_, fun _ => ?_⟩, fun _ => ?_⟩
      · rw [c1.1 59 rfl]; exact gm.2
      · unfold jGm
        rw [c1.2 54 rfl]; exact gm.1
      · rw [i75] at z; exact absurd z (by decide)
      · rw [c1.1 66 rfl]; exact i66
      · rw [i75] at z; exact absurd z (by decide)
      · rw [c1.1 65 rfl]; exact i65
      · exact rg0.fr (c1.1 300 rfl) ⟨c1.1 56 rfl, by rw [c2, R.2.2.2.2.2.2.2.1.2], c1.1 58 rfl, c1.1 59 rfl, c1.2 54 rfl, c1.2 55 rfl⟩ ⟨rfl, rfl, rfl, rfl, rfl, rfl⟩ ⟨rfl, rfl, rfl, rfl, rfl⟩
    rcases T2 with ⟨q1, q2, an, q4⟩ | ⟨q1, q2, q3, q4, q5, q6, f, s0, q7, q8, q9, q10, an⟩ | ⟨q1, q2, q3, q4⟩ | ⟨q1, q2, ⟨s0, q3⟩, q4⟩ | ⟨q1, q2, q3, q4, q5, s1, q6, an, qz⟩ | ⟨q1, q2, q3, q4, q5, κ, m, ⟨hκ, q6⟩, q7, q8, an, qz⟩
    · right
      refine JP.mono (jq_tu R hx Z ik.1.1 cn.1.1 q1 q2 an q4) ?_
      rintro _ F3 G3 r F4 G4 (w | ⟨rr, h1, h2, h3, w1, w2, w3, w4⟩)
      · exact .inr (.inl (tu F3 G3 r F4 G4 w))
      · refine .inl ⟨rr, ⟨KX.tr kc h2 rfl rfl, KX.tr km h3 rfl rfl⟩, h1, ⟨⟨?_, ?_, ?_⟩, ?_, ?_⟩, ?_, ?_, ?_, ?_, ?_⟩
        · rw [w1, w3, ik.1.1]
        · rw [w2, w4, ik.1.2.1]
        · rw [h2.1 67 rfl, h3.1 84 rfl]; exact ik.1.2.2
        · unfold jOu
          rw [h2.1 72 rfl, h2.2 71 rfl, h3.1 79 rfl, h3.2 89 rfl]; exact ik.2.1
        · unfold jIp
          rw [h2.1 69 rfl, h2.1 70 rfl, h2.2 68 rfl, h3.1 80 rfl, h3.2 88 rfl]; exact ik.2.2
        · rw [h2.1 61 rfl]; exact i61
        · rw [h2.1 63 rfl]; exact i63
        · rw [h3.1 75 rfl]; exact i75
        · rw [h2.1 66 rfl]; exact i66
        · rw [h2.1 65 rfl]; exact i65
    · right
      have f8 : f < nf := by
        have := cu.f16 hP ek k8 q1 q3 q7.2 (by have := q7.1; omega)
        omega
      have q7 := q7.2
      · refine JP.mono (jq_ca R hx Z T hC ⟨kc.2 79 rfl, kc.2 80 rfl, kc.2 81 rfl⟩ ⟨km.2 27 rfl, km.2 28 rfl, km.2 29 rfl, km.2 30 rfl, km.2 31 rfl, km.2 34 rfl⟩ ik.1.1 cn.1.1 ik.1.2.2 (by rw [km.1 84 rfl]; exact h84) x4 (by rw [kc.1 74 rfl]; exact x5) q1 q2 q3 q4 q5 q6 q7 q8 q9 q10 an f8) ?_
        rintro _ F3 G3 r F4 G4 (w | ⟨rr, h3, w1, w2, w3, w4, pp⟩)
        · exact .inr (.inl (tu F3 G3 r F4 G4 w))
        · refine .inr (.inr ⟨rr, by rw [h3.1 75 rfl]; exact i75, PP.mono pp ?_⟩)
          rintro r5 F5 G5 (⟨r0, m1, m2, c1, c2, c3, c4⟩ | ⟨r1, h1, c1, m1⟩)
          · refine .inr ⟨r0, ⟨KX.tr kc c1 rfl rfl, KX.tr (KX.tr km h3 rfl rfl) m1 rfl rfl⟩, c2, ⟨⟨?_, ?_, ?_⟩, ?_, ?_⟩, c3.trans m2.symm, ?_, ?_, ⟨fun _ => c4, fun z => absurd (.inr m2) z, fun z => ?_, fun _ => ?_⟩, fun z => ?_⟩
            · rw [w3, m1.1 78 rfl, w1, ik.1.1]
            · rw [w4, m1.1 77 rfl, w2, ik.1.2.1]
            · rw [c1.1 67 rfl, m1.1 84 rfl, h3.1 84 rfl]; exact ik.1.2.2
            · unfold jOu
              rw [c1.1 72 rfl, c1.2 71 rfl, m1.1 79 rfl, m1.2 89 rfl, h3.1 79 rfl, h3.2 89 rfl]; exact ik.2.1
            · unfold jIp
              rw [c1.1 69 rfl, c1.1 70 rfl, c1.2 68 rfl, m1.1 80 rfl, m1.2 88 rfl, h3.1 80 rfl, h3.2 88 rfl]; exact ik.2.2
            · rw [c1.1 59 rfl, m1.1 83 rfl, h3.1 83 rfl]; exact gm.2
            · unfold jGm
              rw [c1.2 54 rfl, m1.2 90 rfl, h3.2 90 rfl]; exact gm.1
            · rw [m2] at z; exact absurd z (by decide)
            · rw [c1.1 65 rfl]; exact i65
            · rw [m2] at z; exact absurd z (by decide)
          · refine .inl ⟨r1, ⟨KX.tr kc c1 rfl rfl, KX.tr (KX.tr km h3 rfl rfl) m1 rfl rfl⟩, h1, ⟨⟨?_, ?_, ?_⟩, ?_, ?_⟩, ?_, ?_, ?_, ?_, ?_⟩
            · rw [w3, m1.1 78 rfl, w1, ik.1.1]
            · rw [w4, m1.1 77 rfl, w2, ik.1.2.1]
            · rw [c1.1 67 rfl, m1.1 84 rfl, h3.1 84 rfl]; exact ik.1.2.2
            · unfold jOu
              rw [c1.1 72 rfl, c1.2 71 rfl, m1.1 79 rfl, m1.2 89 rfl, h3.1 79 rfl, h3.2 89 rfl]; exact ik.2.1
            · unfold jIp
              rw [c1.1 69 rfl, c1.1 70 rfl, c1.2 68 rfl, m1.1 80 rfl, m1.2 88 rfl, h3.1 80 rfl, h3.2 88 rfl]; exact ik.2.2
            · rw [c1.1 61 rfl]; exact i61
            · rw [c1.1 63 rfl]; exact i63
            · rw [m1.1 75 rfl, h3.1 75 rfl]; exact i75
            · rw [c1.1 66 rfl]; exact i66
            · rw [c1.1 65 rfl]; exact i65
    · right
      refine JP.mono (jq_re R hx Z (km.2 28 rfl) i75 (by omega) q1 q2 q3 q4) ?_
      rintro _ F3 G3 r F4 G4 (⟨rr, c1, c2, m1, c3, m2, c4, c5, m3, -⟩ | ⟨rr, h1, h2, h3⟩)
      · refine .inr (.inl ⟨rr, ⟨KX.tr kc c1 rfl rfl, KX.tr km m1 rfl rfl⟩, c4, ik.kx c1 m1 rfl rfl, c5.trans m3.symm, ?_, ?_, ⟨fun z => ?_, fun _ => ?_, fun z => ?_, fun z => ?_⟩, fun z => ?_⟩)
        · rw [c3, m2]; rfl
        · unfold jGm
          rw [c2, m1.2 90 rfl]; exact gm.1
        · rw [m3] at z; exact absurd z (by decide)
        · rw [c1.1 66 rfl]; exact i66
        · rw [m3] at z; exact absurd z (by decide)
        · exact absurd (.inl m3) z
        · rw [m3] at z; exact absurd z (by decide)
      · refine .inl ⟨rr, ⟨KX.tr kc h2 rfl rfl, KX.tr km h3 rfl rfl⟩, h1, ik.kx h2 h3 rfl rfl, ?_, ?_, ?_, ?_, ?_⟩
        · rw [h2.1 61 rfl]; exact i61
        · rw [h2.1 63 rfl]; exact i63
        · rw [h3.1 75 rfl]; exact i75
        · rw [h2.1 66 rfl]; exact i66
        · rw [h2.1 65 rfl]; exact i65
    · right
      refine JP.mono (jq_ha R hx Z q1 q2 q3 q4) ?_
      rintro _ F3 G3 r F4 G4 ⟨rr, c1, c2, m1, c4, c5, m3, c6⟩
      refine .inr (.inl ⟨rr, ⟨KX.tr kc c1 rfl rfl, KX.tr km m1 rfl rfl⟩, c4, ik.kx c1 m1 rfl rfl, c5.trans m3.symm, ?_, ?_, ⟨fun z => ?_, fun _ => ?_, fun _ => c6, fun z => ?_⟩, fun z => ?_⟩)
      · rw [c1.1 59 rfl, m1.1 83 rfl]; exact gm.2
      · unfold jGm
        rw [c2, m1.2 90 rfl]; exact gm.1
      · rw [m3] at z; exact absurd z (by decide)
      · rw [c1.1 66 rfl]; exact i66
      · exact absurd (.inr m3) z
      · rw [m3] at z; exact absurd z (by decide)
    · exact o1 (jq_de R hx Z q1 q2 q3 q4 q5 q6 an qz)
    · exact o1 (jq_da R hx Z q1 q2 q3 q4 q5 hκ q6 q7 q8 an qz)
end JQK
