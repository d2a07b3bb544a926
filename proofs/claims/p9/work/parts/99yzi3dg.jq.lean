/-- outputs of both are the same -/
def jOu (F1 : PF) (G1 : PG) (F2 : PF) (G2 : PG) : Prop := F1 72 = F2 79 ∧ ∀ i : Nat, i < 2000 → (i : Int) < (F2 79).toInt → G1 71 i = G2 89 i
/-- inputs that wait are the same -/
def jIp (F1 : PF) (G1 : PG) (F2 : PF) (G2 : PG) : Prop := ∃ c f : Nat, F1 70 = nI c ∧ F2 80 = nI c ∧ F1 69 = nI f ∧ f < 500 ∧ c ≤ 500 ∧ ∀ i : Nat, i < c → G1 68 ((f + i) % 500) = G2 88 i
section JQG
variable {fu : Nat} {S : JST} {gl : JLY} {K : Nat → List Nat} {nf B WB : Nat} {Gc Gm : PG} {H : JHP} {F1 F2 F3 F4 : PF} {G1 G2 G3 G4 : PG} {n g a b : Nat} {mu : Nat → Nat} {A : JAN} {le : JLY} {cb wb t k : Nat} {s s0 s1 : SH} {l : JLY}
theorem jq_pu (R : jRc (jSS gl K nf B WB Gc Gm) gl H F1 G1 F2 G2 n g a b mu A le cb wb t k s l) (hx : jXn F1) (Z : jSt0 WB B Gc Gm F1 G1 G2) (ou : jOu F1 G1 F2 G2) (o0 : 0 ≤ (F2 79).toInt) (q1 : Gm 56 k = 19) (q2 : Gc 5 (mu k) = 16) (q3 : s = 0 :: s1) (an : jAn A (k + 1) s1 l) (q4 : mu (k + 1) = mu k + 1) : JP (cf_X6_step fu F1 G1) (mf_works fu F2 G2) (fun _ F3 G3 r F4 G4 => r = 1 ∧ jRg (jSS gl K nf B WB Gc Gm) gl F3 G3 F4 G4 ∧ KX [56, 57, 72, 300] [54, 55, 71] F1 G1 F3 G3 ∧ KX [72, 76, 79] [71, 89, 90] F2 G2 F4 G4 ∧ jOu F3 G3 F4 G4) := by
  have Q := R.tl
  have M := R.mp Z
  have C := R.cp (w := 1) hx Z (by omega)
  have hk : a ≤ k + 1 ∧ k + 1 ≤ b := ⟨by have := R.2.2.2.1.1; omega, R.2.2.2.1.2.1⟩
  have n6 := R.2.2.2.1.2.2.2
  have v := R.2.2.2.2.2.2.2.2.2.1
  subst q3
  obtain ⟨⟨z5, -, -, -⟩, z56, z57, z58, z59⟩ := Z
  have y1 : 1 ≤ t + (0 :: s1 : SH).length := by show 1 ≤ t + (s1.length + 1); omega
  have ie : G2 71 (t + (0 :: s1 : SH).length - 1) = G1 55 (t + (0 :: s1 : SH).length - 1) := v.2.2.1 rfl
  obtain ⟨ou1, ou2⟩ := ou
  refine JP.pp (cq_put C y1 (by rw [z5]; exact q2)) (mq_pu M (by rw [z56]; exact q1)) ?_
  rintro _ F3 G3 r F4 G4 ⟨Fb, cc, cg, cf⟩ ⟨rr, mm⟩
  obtain ⟨Fm, mm, mg, mf⟩ := mm y1
  rw [← q4] at cc
  rw [ou1] at cg cf
  have rg := jRc.p0 (s0 := s1) R cc mm rfl n6.tl v.2.1 Q.2.2.1 an hk
  have kc : KX [72] [71] Fb G1 F3 G3 := by
    rcases cg with ⟨-, e⟩ | ⟨-, -, e⟩
    · rw [e]
      rcases cf with ⟨-, e⟩ | ⟨-, e⟩
      · rw [e]; exact KX.rf
      · rw [e]; exact KX.f rfl KX.rf
    · rw [e]
      rcases cf with ⟨-, e⟩ | ⟨-, e⟩
      · rw [e]; exact KX.g rfl KX.rf
      · rw [e]; exact KX.f rfl (KX.g rfl KX.rf)
  have km : KX [79] [89] Fm G2 F4 G4 := by
    have kf : KX [79] [89] Fm G2 F4 G2 := by
      rcases mf with ⟨-, e⟩ | ⟨-, -, e⟩
      · rw [e]; exact KX.rf
      · exact e.sub rfl rfl
    rcases mg with ⟨-, e⟩ | ⟨-, -, e⟩
    · rw [e]; exact kf
    · rw [e]; exact KX.g rfl kf
  refine ⟨rr, ?_, KX.tr (cc.1.sub rfl rfl) kc rfl rfl, KX.tr (mm.1.sub rfl rfl) km rfl rfl, ?_⟩
  · exact rg.fr (kc.1 300 rfl) ⟨kc.1 56 rfl, kc.1 57 rfl, kc.1 58 rfl, kc.1 59 rfl, kc.2 54 rfl, kc.2 55 rfl⟩ ⟨km.1 72 rfl, km.1 76 rfl, km.1 83 rfl, km.1 85 rfl, km.1 86 rfl, km.1 87 rfl⟩ ⟨km.2 71 rfl, km.2 90 rfl, km.2 91 rfl, km.2 92 rfl, km.2 93 rfl⟩
  · have e72 : F3 72 = F4 79 := by
      rcases cf with ⟨c1, e⟩ | ⟨c1, e⟩
      · rcases mf with ⟨-, e2⟩ | ⟨m1, -⟩
        · rw [e, e2, cc.1.1 72 rfl, mm.1.1 79 rfl, ou1]
        · exact absurd c1 m1
      · rcases mf with ⟨m1, -⟩ | ⟨-, m2, -⟩
        · exact absurd m1 c1
        · rw [e, fup_s, m2]
    have e79 : (F4 79).toInt ≤ (F2 79).toInt + 1 := by
      rcases mf with ⟨-, e2⟩ | ⟨-, m2, -⟩
      · rw [e2, mm.1.1 79 rfl]; omega
      · rw [m2]
        obtain ⟨q, w1, w2, w3⟩ := i_add (F2 79) 1
        have l1 : (1 : Int32).toInt = 1 := rfl
        have := i_rng (F2 79)
        omega
    refine ⟨e72, fun i hi h => ?_⟩
    rcases cg with ⟨c1, e⟩ | ⟨c1, -, e⟩
    · rcases mg with ⟨-, e2⟩ | ⟨m1, -⟩
      · rw [e, e2]; exact ou2 i hi (by omega)
      · omega
    · rcases mg with ⟨m1, -⟩ | ⟨-, -, e2⟩
      · omega
      · rw [e, e2, ie]
        by_cases ei : i = (F2 79).toNatClampNeg
        · rw [ei, gup_i, gup_i]
        · rw [gup_x ei, gup_x ei]
          refine ou2 i hi ?_
          have : ((F2 79).toNatClampNeg : Int) = (F2 79).toInt := nN_of o0
          omega
theorem mod500 {f : Nat} (h : f < 500) : nI f + 1 - (nI f + 1) / 500 * 500 = nI ((f + 1) % 500) := by
  have : ∀ f : Nat, f < 500 → nI f + 1 - (nI f + 1) / 500 * 500 = nI ((f + 1) % 500) := by decide +kernel
  exact this f h
theorem jq_ge (R : jRc (jSS gl K nf B WB Gc Gm) gl H F1 G1 F2 G2 n g a b mu A le cb wb t k s l) (hx : jXn F1) (Z : jSt0 WB B Gc Gm F1 G1 G2) (h4 : t + s.length < 399000) (ip : jIp F1 G1 F2 G2) (q1 : Gm 56 k = 21) (q2 : Gc 5 (mu k) = 17) (an : jAn A (k + 1) (0 :: s) l) (q4 : mu (k + 1) = mu k + 1) : JP (cf_X6_step fu F1 G1) (mf_works fu F2 G2) (fun _ F3 G3 r F4 G4 => (r = 0 ∧ jTs (mu k) 2 F1 G1 F3 G3 ∧ KX [75] [] F2 G2 F4 G4 ∧ F4 75 = 2) ∨ (r = 1 ∧ jRg (jSS gl K nf B WB Gc Gm) gl F3 G3 F4 G4 ∧ KX [56, 57, 69, 70, 300] [54, 55] F1 G1 F3 G3 ∧ KX [72, 76, 80] [71, 88] F2 G2 F4 G4 ∧ jIp F3 G3 F4 G4)) := by
  have Q := R.tl
  have M := R.mp Z
  have C := R.cp (w := 1) hx Z (by omega)
  have hk : a ≤ k + 1 ∧ k + 1 ≤ b := ⟨by have := R.2.2.2.1.1; omega, R.2.2.2.1.2.1⟩
  have n6 := R.2.2.2.1.2.2.2
  have v := R.2.2.2.2.2.2.2.2.2.1
  obtain ⟨⟨z5, -, -, -⟩, z56, z57, z58, z59⟩ := Z
  obtain ⟨c, f, i1, i2, i3, i4, i5, i6⟩ := ip
  have cI : (nI c).toInt = c := nI_toInt (by omega)
  refine JP.pp (cq_get C (by rw [z5]; exact q2)) (mq_ge (c := c) i2 (by omega) M (by rw [z56]; exact q1)) ?_
  intro _ F3 G3 r F4 G4 cc mm
  rw [i1, cI, i3, nI_c f (by omega), mod500 i4] at cc
  rcases cc with ⟨c1, cc⟩ | ⟨c1, -, cc⟩
  · rcases mm with ⟨-, m2, m3, m4⟩ | ⟨m1, -⟩
    · exact .inl ⟨m2, cc, m3, m4⟩
    · omega
  · rcases mm with ⟨m1, -⟩ | ⟨-, m2, m3, m4, m5, m6, m7⟩
    · omega
    · rw [nI_m1 (by omega) (by omega)] at cc
      rw [← q4] at cc
      have x0 : G1 68 f = G2 88 0 := by
        have := i6 0 (by omega)
        rw [show (f + 0) % 500 = f by omega] at this
        exact this
      have kF : KX [69, 70] [] F1 G1 (fup (fup F1 69 (nI ((f + 1) % 500))) 70 (nI (c - 1))) G1 := KX.f rfl (KX.f rfl KX.rf)
      have w69 : fup (fup F1 69 (nI ((f + 1) % 500))) 70 (nI (c - 1)) 69 = nI ((f + 1) % 500) := by rw [fup_n (by decide), fup_s]
      have w70 : fup (fup F1 69 (nI ((f + 1) % 500))) 70 (nI (c - 1)) 70 = nI (c - 1) := fup_s
      generalize fup (fup F1 69 (nI ((f + 1) % 500))) 70 (nI (c - 1)) = E at cc kF w69 w70
      -- the reference: first its inputs, then the step
      have mm : jMe (k + 1) (t + s.length) 0 [G2 88 0] (G2 90) (fup F2 80 (nI (c - 1))) (fun q => if q = 88 then G4 88 else G2 q) F4 G4 := by
        refine ⟨⟨fun q hq => ?_, fun q hq => ?_⟩, m4, ?_, ?_⟩
        · by_cases cq : q = 80
          · rw [cq, fup_s]; exact m5
          · rw [fup_n cq]
            refine m3.1 q ?_
            simp only [List.contains_cons, List.contains_nil, Bool.or_false, Bool.or_eq_false_iff, beq_eq_false_iff_ne] at hq ⊢
            exact ⟨hq.1, hq.2, cq⟩
        · by_cases cq : q = 88
          · rw [cq]; exact (if_pos rfl).symm
          · show G4 q = if q = 88 then G4 88 else G2 q
            rw [if_neg cq]
            refine m3.2 q ?_
            simp only [List.contains_cons, List.contains_nil, Bool.or_false, Bool.or_eq_false_iff, beq_eq_false_iff_ne] at hq ⊢
            exact ⟨hq.1, cq⟩
        · exact m6
        · exact m3.2 90 rfl
      have R1 := R.fr (F3 := E) (G3 := G1) (F4 := fup F2 80 (nI (c - 1))) (G4 := fun q => if q = 88 then G4 88 else G2 q) ⟨kF.1 56 rfl, kF.1 57 rfl, kF.1 58 rfl, kF.1 59 rfl, rfl, rfl⟩ ⟨fup_n (by decide), fup_n (by decide), fup_n (by decide), fup_n (by decide), fup_n (by decide), fup_n (by decide)⟩ ⟨rfl, rfl, rfl, rfl, rfl⟩
      refine .inr ⟨m2, jRc.p1 (κ := 0) (s0 := s) R1 cc mm rfl n6 v (by omega) (fun _ => x0.symm) (fun z => absurd z (by decide)) (fun z => absurd z (by decide)) Q.2.2.1 an hk h4, KX.tr (kF.sub rfl rfl) cc.1 rfl rfl, m3, ?_⟩
      refine ⟨c - 1, (f + 1) % 500, by rw [cc.1.1 70 rfl]; exact w70, m5, by rw [cc.1.1 69 rfl]; exact w69, Nat.mod_lt _ (by decide), by omega, fun i hi => ?_⟩
      rw [cc.1.2 68 rfl, m7 i hi, ← i6 (i + 1) (by omega)]
      exact congrArg (G1 68) (by omega)
theorem jq_re (R : jRc (jSS gl K nf B WB Gc Gm) gl H F1 G1 F2 G2 n g a b mu A le cb wb t k s l) (hx : jXn F1) (Z : jSt0 WB B Gc Gm F1 G1 G2) (e28 : G2 28 = Gm 28) (h75 : F2 75 = 1) (n5 : nf ≤ 500) (q1 : Gm 56 k = 17) (q2 : Gc 5 (mu k) = 15) (q3 : s = [0]) (q4 : mu k + 1 ≤ mu (k + 1)) : JP (cf_X6_step fu F1 G1) (mf_works fu F2 G2) (fun _ F3 G3 r F4 G4 => (r = 0 ∧ KX [56, 57, 59, 61, 63, 65, 300] [54, 55] F1 G1 F3 G3 ∧ G3 54 = G1 54 ∧ KX [72, 75, 81, 83, 85] [] F2 G2 F4 G4 ∧ F3 59 = 2000 ∧ F4 83 = 0 ∧ F3 61 = 0 ∧ F3 63 = 3 ∧ F4 75 = 3 ∧ F4 81 = (if G2 33 g = 0 then F3 65 else 0)) ∨ (r = 1 ∧ jRg (jSS gl K nf B WB Gc Gm) gl F3 G3 F4 G4 ∧ KX [57, 58, 59] [] F1 G1 F3 G3 ∧ KX [72, 76, 83, 85, 86, 87] [] F2 G2 F4 G4)) := by
  have Q := R.tl
  have M := R.mp Z
  have C := R.cp (w := 1) hx Z (by omega)
  subst q3
  have g0 := jFS.geo (jH0 R.2.2.2.2.2.2.2.2.2.2.2.1 R.2.2.2.2.2.2.2.2.2.2.2.2.1) n cb wb t R.1
  obtain ⟨r1, r2, ⟨r3, r4⟩, ⟨r5, r6, r7, r8⟩, r9, ⟨r10, r11, r12, r13⟩, ⟨r14, r15⟩, ⟨r16, r17⟩, ⟨r18, r19⟩, r20, r21, r22, r23, r24, r25, r26⟩ := R
  obtain ⟨⟨z5, -, -, -⟩, z56, z57, z58, z59⟩ := Z
  have y1 : 1 ≤ t + ([0] : SH).length := by show 1 ≤ t + 1; omega
  have ie : G2 71 t = G1 55 t := r20.2.2.1 rfl
  have gn := r2.1
  have f28 : Gm 28 g = nI (4 + jsW le) := r2.2.2.2.2.1.1
  refine JP.pp (cq_ret (b := wb) C y1 (by rw [z5]; exact q2) r14 (by omega)) (mq_re (n := n) (g := g) y1 h75 r10 (by omega) r3 (by omega) M (by rw [z56]; exact q1)) ?_
  intro _ F3 G3 r F4 G4 cc mm
  rcases cc with ⟨c1, c2, c3, c4, c5, c6, c7⟩ | ⟨c1, c2, c3, c4, c5⟩
  · have n0 : n = 0 := by have := g0.1; omega
    rcases mm with ⟨-, m2, m3, m4, m5, m6⟩ | ⟨m1, -⟩
    · refine .inl ⟨m2, c2, c3, m3, c4, m5, c5, c6, m4, ?_⟩
      rw [m6, c7]
      show (if G2 33 g = 0 then G2 71 t else 0) = if G2 33 g = 0 then G1 55 t else 0
      rw [ie]
    · omega
  · rcases mm with ⟨m1, -⟩ | ⟨m1, m2, m3, m4, m5, m6, m7, m8, m9, m10⟩
    · rw [m1] at r1
      exact absurd r1.2.1 c1
    · obtain ⟨n1, rfl⟩ : ∃ n1, n = n1 + 1 := ⟨n - 1, by omega⟩
      obtain ⟨g1, a1, b1, mu1, A1, le1, cb0, wb0, t0, k0, s0, l0, w1, w2, ⟨w3, w4, w5⟩, ⟨w6, w7, w8, w9⟩, w10, ⟨w11, w12, w13⟩, w14, w15, w16⟩ := r1
      have G3e : G3 = G1 := c2.nog
      subst G3e
      subst m3
      have hx3 : jXn F3 := by
        unfold jXn xn at hx ⊢
        rw [c2.1 56 rfl, c2.1 300 rfl]
        exact hx
      refine .inr ⟨m2, ⟨hx3, H, n1, g1, a1, b1, mu1, A1, le1, cb0, wb0, t0, k0, 0 :: s0, l0, w1, w2, ⟨w3, w4⟩, ⟨w6, w7, w8, w9.cons (by omega)⟩, w10, ⟨m8, ?_, ?_, ?_⟩, ⟨?_, ?_⟩, ⟨?_, ?_⟩, ⟨?_, ?_⟩, ?_, r21.le (by omega), r22, r23, ?_, ?_, w2.2.2.2.2.1.2.2⟩, c2, m4⟩
      · rw [m9]; exact w4
      · rw [m10, r4, w11]
      · rw [m7, r13, e28, f28, nI_su (by omega) (by omega)]
        exact congrArg nI (by omega)
      · rw [c4]; exact w16
      · rw [c5, w12]
      · rw [m6]; exact w5
      · rw [c3]; exact w15
      · rw [m5]; exact congrArg nI (by show t + 1 = t0 + (s0.length + 1); omega)
      · rw [c2.1 56 rfl, r19]; exact congrArg nI (by show t + 1 = t0 + (s0.length + 1); omega)
      · show jVs H (n1 + 2) (G2 71) (G3 55) (0 :: s0) (t0 + (s0.length + 1))
        rw [show t0 + (s0.length + 1) = t + 1 by omega]
        exact w14.pu (fun _ _ => ⟨rfl, rfl⟩) (fun _ => ie) (fun z => absurd z (by decide)) (fun z => absurd z (by decide)) (by decide) (by decide)
      · omega
      · have r25 : t + 1 < 400000 := r25
        show t0 + (s0.length + 1) < 400000
        omega
end JQG
