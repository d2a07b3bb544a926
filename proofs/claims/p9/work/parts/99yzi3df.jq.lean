section JQF
variable {fu : Nat} {S : JST} {gl : JLY} {K : Nat → List Nat} {nf B WB : Nat} {Gc Gm : PG} {H : JHP} {F1 F2 F3 F4 : PF} {G1 G2 G3 G4 : PG} {n g a b : Nat} {mu : Nat → Nat} {A : JAN} {le : JLY} {cb wb t k : Nat} {s s0 s1 : SH} {l : JLY}
/-- what a run reads, no more -/
theorem jRc.fm {k1 : Nat} (R : jRc S gl H F1 G1 F2 G2 n g a b mu A le cb wb t k s l) (hx : jXn F3) (h8 : (A b).1 = [8]) (an : jAn A k1 s l) (hk : a ≤ k1 ∧ k1 ≤ b) (c57 : F3 57 = nI (mu k1)) (m76 : F4 76 = nI k1) (e1 : F3 56 = F1 56 ∧ F3 58 = F1 58 ∧ F3 59 = F1 59 ∧ G3 54 = G1 54 ∧ G3 55 = G1 55) (e2 : F4 72 = F2 72 ∧ F4 83 = F2 83 ∧ F4 85 = F2 85 ∧ F4 86 = F2 86 ∧ F4 87 = F2 87) (e3 : G4 71 = G2 71 ∧ G4 90 = G2 90 ∧ G4 91 = G2 91 ∧ G4 92 = G2 92 ∧ G4 93 = G2 93) : jRg S gl F3 G3 F4 G4 := by
  obtain ⟨r1, r2, ⟨r3, r4⟩, ⟨r5, r6, r7, r8⟩, r9, ⟨r10, r11, r12, r13⟩, ⟨r14, r15⟩, ⟨r16, r17⟩, ⟨r18, r19⟩, r20, r21, r22, r23, r24, r25, r26⟩ := R
  obtain ⟨l1, an1, an2⟩ := an
  have kb : k1 < b := by
    rcases Nat.lt_or_ge k1 b with z | z
    · exact z
    · have e : k1 = b := by omega
      rw [← e, an1] at h8
      have h8 : s = [8] := h8
      have := r8 8 (by rw [h8]; exact List.mem_cons_self ..)
      omega
  obtain ⟨a1, a2, a3, a4, a5⟩ := e1
  obtain ⟨b1, b2, b3, b4, b5⟩ := e2
  obtain ⟨d1, d2, d3, d4, d5⟩ := e3
  refine ⟨hx, H, n, g, a, b, mu, A, le, cb, wb, t, k1, s, l1, ?_⟩
  unfold jRc
  rw [a1, a2, a3, a4, a5, b1, b2, b3, b4, b5, d1, d2, d3, d4, d5]
  exact ⟨r1, r2, ⟨r3, r4⟩, ⟨hk.1, kb, an1, r8⟩, r9.le an2, ⟨r10, r11, r12, r13⟩, ⟨r14, r15⟩, ⟨m76, c57⟩, ⟨r18, r19⟩, r20, r21, r22, r23, r24, r25, r26⟩
/-- the same run, in states that differ in nothing that it reads -/
theorem jRc.fr (R : jRc S gl H F1 G1 F2 G2 n g a b mu A le cb wb t k s l) (e1 : F3 56 = F1 56 ∧ F3 57 = F1 57 ∧ F3 58 = F1 58 ∧ F3 59 = F1 59 ∧ G3 54 = G1 54 ∧ G3 55 = G1 55) (e2 : F4 72 = F2 72 ∧ F4 76 = F2 76 ∧ F4 83 = F2 83 ∧ F4 85 = F2 85 ∧ F4 86 = F2 86 ∧ F4 87 = F2 87) (e3 : G4 71 = G2 71 ∧ G4 90 = G2 90 ∧ G4 91 = G2 91 ∧ G4 92 = G2 92 ∧ G4 93 = G2 93) : jRc S gl H F3 G3 F4 G4 n g a b mu A le cb wb t k s l := by
  obtain ⟨a1, a0, a2, a3, a4, a5⟩ := e1
  obtain ⟨b1, b0, b2, b3, b4, b5⟩ := e2
  obtain ⟨d1, d2, d3, d4, d5⟩ := e3
  unfold jRc
  rw [a1, a0, a2, a3, a4, a5, b1, b0, b2, b3, b4, b5, d1, d2, d3, d4, d5]
  exact R
theorem jRg.fr (R : jRg S gl F1 G1 F2 G2) (e0 : F3 300 = F1 300) (e1 : F3 56 = F1 56 ∧ F3 57 = F1 57 ∧ F3 58 = F1 58 ∧ F3 59 = F1 59 ∧ G3 54 = G1 54 ∧ G3 55 = G1 55) (e2 : F4 72 = F2 72 ∧ F4 76 = F2 76 ∧ F4 83 = F2 83 ∧ F4 85 = F2 85 ∧ F4 86 = F2 86 ∧ F4 87 = F2 87) (e3 : G4 71 = G2 71 ∧ G4 90 = G2 90 ∧ G4 91 = G2 91 ∧ G4 92 = G2 92 ∧ G4 93 = G2 93) : jRg S gl F3 G3 F4 G4 := by
  obtain ⟨hx, H, n, g, a, b, mu, A, le, cb, wb, t, k, s, l, R⟩ := R
  refine ⟨?_, H, n, g, a, b, mu, A, le, cb, wb, t, k, s, l, R.fr e1 e2 e3⟩
  unfold jXn xn at hx ⊢
  rw [e1.1, e0]
  exact hx
theorem jMe.th {k1 k2 y q : Nat} {xs : List Int32} {ce : Nat → Int32} {F5 : PF} {G5 : PG} (hq : q ≤ y) (h : jMe k1 y q [] ce F2 G2 F4 G4) (h1 : jMe k2 (y - q) 0 xs (G4 90) F4 G4 F5 G5) : jMe k2 y q xs ce F2 G2 F5 G5 := by
  obtain ⟨a1, a2, ⟨a3, a4, a5⟩, a6⟩ := h
  obtain ⟨b1, b2, ⟨b3, b4, b5⟩, b6⟩ := h1
  refine ⟨KX.tr a1 b1 rfl rfl, b2, ⟨?_, fun i hi => ?_, fun i x e => ?_⟩, b6.trans a6⟩
  · rw [b3]; exact congrArg nI (by omega)
  · rw [b4 i (by omega), a4 i hi]
  · have := b5 i x e
    rw [show y - q - 0 + i = y - q + i by omega] at this
    exact this
/-- a jump on a truth, of the first kind -/
theorem jq_i1 {t1 : Nat} (R : jRc (jSS gl K nf B WB Gc Gm) gl H F1 G1 F2 G2 n g a b mu A le cb wb t k s l) (hx : jXn F1) (Z : jSt0 WB B Gc Gm F1 G1 G2) (q1 : s = 0 :: s0) (an : jAn A (k + 1) s0 l) (q2 : mu (k + 1) = mu k + 2) (q3 : Gm 57 k = nI t1) (ta : a ≤ t1) (tb : t1 ≤ b) (at1 : jAn A t1 s0 l) (q4 : Gc 5 (mu k + 1) = nI (mu t1)) (q5 : (Gm 56 k = 13 ∧ Gc 5 (mu k) = 86) ∨ (Gm 56 k = 14 ∧ Gc 5 (mu k) = 85)) : JP (cf_X6_step fu F1 G1) (mf_works fu F2 G2) (fun _ F3 G3 r F4 G4 => jO1 (jSS gl K nf B WB Gc Gm) gl F1 G1 F2 G2 F3 G3 r F4 G4) := by
  have Q := R.tl
  have M := R.mp Z
  have C := R.cp (w := 2) hx Z (by omega)
  have hk : a ≤ k + 1 ∧ k + 1 ≤ b := ⟨by have := R.2.2.2.1.1; omega, R.2.2.2.1.2.1⟩
  have n6 := R.2.2.2.1.2.2.2
  have v := R.2.2.2.2.2.2.2.2.2.1
  subst q1
  obtain ⟨⟨z5, -, -, -⟩, z56, z57, z58, z59⟩ := Z
  have y1 : 1 ≤ t + (0 :: s0 : SH).length := by show 1 ≤ t + (s0.length + 1); omega
  have ie : G2 71 (t + (0 :: s0 : SH).length - 1) = G1 55 (t + (0 :: s0 : SH).length - 1) := v.2.2.1 rfl
  have fin : ∀ (k1 : Nat) (F3 : PF) (G3 : PG) (r : Int32) (F4 : PF) (G4 : PG), a ≤ k1 ∧ k1 ≤ b → jAn A k1 s0 l → r = 1 → jCe (mu k1) (t + (0 :: s0 : SH).length) 1 [] (G1 54) F1 G1 F3 G3 → jMe k1 (t + (0 :: s0 : SH).length) 1 [] (G2 90) F2 G2 F4 G4 → jO1 (jSS gl K nf B WB Gc Gm) gl F1 G1 F2 G2 F3 G3 r F4 G4 := fun k1 F3 G3 r F4 G4 h1 h2 h3 cc mm => .inl ⟨h3, jRc.p0 (s0 := s0) R cc mm rfl n6.tl v.2.1 Q.2.2.1 h2 h1, cc.1, mm.1⟩
  rcases q5 with ⟨q5, q6⟩ | ⟨q5, q6⟩
  · refine JP.pp (cq_if (t := mu t1) (v := 86) C y1 (by rw [z5]; exact q6) (.inr (.inl rfl)) (by rw [z5]; exact q4)) (mq_i3 (t := t1) M (by rw [z56]; exact q5)) ?_
    rintro _ F3 G3 r F4 G4 cc ⟨rr, mm⟩
    have mm := mm y1 (by rw [z57]; exact q3)
    rw [ie] at mm
    rcases cc with ⟨w, cc⟩ | ⟨w, cc⟩ | ⟨b1, w, cc⟩
    · rcases w with ⟨w | w, -⟩ | ⟨-, w⟩
      · exact absurd w (by decide)
      · exact absurd w (by decide)
      · rw [← q2] at cc
        exact fin _ F3 G3 r F4 G4 hk an rr cc (mm.2 w)
    · rcases w with ⟨w, -⟩ | ⟨-, w⟩
      · exact absurd w (by decide)
      · exact fin _ F3 G3 r F4 G4 ⟨ta, tb⟩ at1 rr cc (mm.1 w)
    · rcases w with ⟨w, -⟩ | ⟨w, -⟩
      · exact absurd w (by decide)
      · exact absurd w (by decide)
  · refine JP.pp (cq_if (t := mu t1) (v := 85) C y1 (by rw [z5]; exact q6) (.inl rfl) (by rw [z5]; exact q4)) (mq_i4 (t := t1) M (by rw [z56]; exact q5)) ?_
    rintro _ F3 G3 r F4 G4 cc ⟨rr, mm⟩
    have mm := mm y1 (by rw [z57]; exact q3)
    rw [ie] at mm
    rcases cc with ⟨w, cc⟩ | ⟨w, cc⟩ | ⟨b1, w, cc⟩
    · rcases w with ⟨-, w⟩ | ⟨w | w, -⟩
      · rw [← q2] at cc
        exact fin _ F3 G3 r F4 G4 hk an rr cc (mm.1 w)
      · exact absurd w (by decide)
      · exact absurd w (by decide)
    · rcases w with ⟨-, w⟩ | ⟨w, -⟩
      · exact fin _ F3 G3 r F4 G4 ⟨ta, tb⟩ at1 rr cc (mm.2 w)
      · exact absurd w (by decide)
    · rcases w with ⟨w, -⟩ | ⟨w, -⟩
      · exact absurd w (by decide)
      · exact absurd w (by decide)
/-- of the second kind: the reference may need one step more -/
def jO2x (fu : Nat) (S : JST) (gl : JLY) (F1 : PF) (G1 : PG) (F2 : PF) (G2 : PG) (F3 : PF) (G3 : PG) (r : Int32) (F4 : PF) (G4 : PG) : Prop := r = 1 ∧ KX [56, 57, 300] [54, 55] F1 G1 F3 G3 ∧ KX [72, 76] [71, 90] F2 G2 F4 G4 ∧ (jRg S gl F3 G3 F4 G4 ∨ PP (mf_works fu F4 G4) (fun r F5 G5 => r = 1 ∧ jRg S gl F3 G3 F5 G5 ∧ KX [72, 76] [71, 90] F2 G2 F5 G5))
theorem jq_i2 {t1 : Nat} (R : jRc (jSS gl K nf B WB Gc Gm) gl H F1 G1 F2 G2 n g a b mu A le cb wb t k s l) (hx : jXn F1) (Z : jSt0 WB B Gc Gm F1 G1 G2) (h4 : t + s.length < 399000) (q1 : s = 0 :: s0) (an : jAn A (k + 1) s0 l) (q2 : mu (k + 1) = mu k + 2) (q3 : Gm 57 k = nI t1) (ta : k < t1) (tb : t1 + 1 ≤ b) (at1 : jAn A (t1 + 1) (0 :: s0) l) (q4 : Gc 5 (mu k + 1) = nI (mu (t1 + 1))) (e0 : Gm 56 t1 = 0) (q5 : (Gm 56 k = 13 ∧ Gc 5 (mu k) = 88 ∧ Gm 57 t1 = 0) ∨ (Gm 56 k = 14 ∧ Gc 5 (mu k) = 87 ∧ Gm 57 t1 = 1)) : JP (cf_X6_step fu F1 G1) (mf_works fu F2 G2) (fun _ F3 G3 r F4 G4 => jO2x fu (jSS gl K nf B WB Gc Gm) gl F1 G1 F2 G2 F3 G3 r F4 G4) := by
  have Q := R.tl
  have M := R.mp Z
  have C := R.cp (w := 2) hx Z (by omega)
  have ra := R.2.2.2.1.1
  have bB := Q.1.2.1.2.2
  have hk : a ≤ k + 1 ∧ k + 1 ≤ b := ⟨by omega, R.2.2.2.1.2.1⟩
  have n6 := R.2.2.2.1.2.2.2
  have v := R.2.2.2.2.2.2.2.2.2.1
  subst q1
  obtain ⟨⟨z5, -, -, z8⟩, z56, z57, z58, z59⟩ := Z
  have y1 : 1 ≤ t + (0 :: s0 : SH).length := by show 1 ≤ t + (s0.length + 1); omega
  have ie : G2 71 (t + (0 :: s0 : SH).length - 1) = G1 55 (t + (0 :: s0 : SH).length - 1) := v.2.2.1 rfl
  have no : ∀ (F3 : PF) (G3 : PG) (r : Int32) (F4 : PF) (G4 : PG), r = 1 → jCe (mu (k + 1)) (t + (0 :: s0 : SH).length) 1 [] (G1 54) F1 G1 F3 G3 → jMe (k + 1) (t + (0 :: s0 : SH).length) 1 [] (G2 90) F2 G2 F4 G4 → jO2x fu (jSS gl K nf B WB Gc Gm) gl F1 G1 F2 G2 F3 G3 r F4 G4 := fun F3 G3 r F4 G4 h3 cc mm => ⟨h3, cc.1, mm.1, .inl (jRc.p0 (s0 := s0) R cc mm rfl n6.tl v.2.1 Q.2.2.1 an hk)⟩
  have yes : ∀ (F3 : PF) (G3 : PG) (r : Int32) (F4 : PF) (G4 : PG), r = 1 → jCe (mu (t1 + 1)) (t + (0 :: s0 : SH).length) 1 [Gm 57 t1] (G1 54) F1 G1 F3 G3 → jMe t1 (t + (0 :: s0 : SH).length) 1 [] (G2 90) F2 G2 F4 G4 → jO2x fu (jSS gl K nf B WB Gc Gm) gl F1 G1 F2 G2 F3 G3 r F4 G4 := by
    intro F3 G3 r F4 G4 h3 cc mm
    refine ⟨h3, cc.1, mm.1, .inr ?_⟩
    have M4 : jMp t1 (t + (0 :: s0 : SH).length - 1) F4 := ⟨mm.2.1, mm.2.2.1.1, by omega, by omega⟩
    refine PP.mono (mq_nu M4 (by rw [mm.1.2 56 rfl, z56]; exact e0)) ?_
    rintro r5 F5 G5 ⟨rr, m2⟩
    rw [mm.1.2 57 rfl, z57] at m2
    have m3 := mm.th y1 m2
    exact ⟨rr, jRc.p1 (κ := 0) (s0 := s0) R cc m3 rfl n6.tl v.2.1 (by omega) (fun _ => rfl) (fun z => absurd z (by decide)) (fun z => absurd z (by decide)) Q.2.2.1 at1 ⟨by omega, tb⟩ h4, m3.1⟩
  rcases q5 with ⟨q5, q6, q7⟩ | ⟨q5, q6, q7⟩
  · refine JP.pp (cq_if (t := mu (t1 + 1)) (v := 88) C y1 (by rw [z5]; exact q6) (.inr (.inr (.inr rfl))) (by rw [z5]; exact q4)) (mq_i3 (t := t1) M (by rw [z56]; exact q5)) ?_
    rintro _ F3 G3 r F4 G4 cc ⟨rr, mm⟩
    have mm := mm y1 (by rw [z57]; exact q3)
    rw [ie] at mm
    rcases cc with ⟨w, cc⟩ | ⟨w, cc⟩ | ⟨b1, w, cc⟩
    · rcases w with ⟨w | w, -⟩ | ⟨-, w⟩
      · exact absurd w (by decide)
      · exact absurd w (by decide)
      · rw [← q2] at cc
        exact no F3 G3 r F4 G4 rr cc (mm.2 w)
    · rcases w with ⟨w, -⟩ | ⟨w, -⟩
      · exact absurd w (by decide)
      · exact absurd w (by decide)
    · rcases w with ⟨w, -⟩ | ⟨-, w, wb1⟩
      · exact absurd w (by decide)
      · rw [wb1, ← q7] at cc
        exact yes F3 G3 r F4 G4 rr cc (mm.1 w)
  · refine JP.pp (cq_if (t := mu (t1 + 1)) (v := 87) C y1 (by rw [z5]; exact q6) (.inr (.inr (.inl rfl))) (by rw [z5]; exact q4)) (mq_i4 (t := t1) M (by rw [z56]; exact q5)) ?_
    rintro _ F3 G3 r F4 G4 cc ⟨rr, mm⟩
    have mm := mm y1 (by rw [z57]; exact q3)
    rw [ie] at mm
    rcases cc with ⟨w, cc⟩ | ⟨w, cc⟩ | ⟨b1, w, cc⟩
    · rcases w with ⟨-, w⟩ | ⟨w | w, -⟩
      · rw [← q2] at cc
        exact no F3 G3 r F4 G4 rr cc (mm.1 w)
      · exact absurd w (by decide)
      · exact absurd w (by decide)
    · rcases w with ⟨w, -⟩ | ⟨w, -⟩
      · exact absurd w (by decide)
      · exact absurd w (by decide)
    · rcases w with ⟨-, w, wb1⟩ | ⟨w, -⟩
      · rw [wb1, ← q7] at cc
        exact yes F3 G3 r F4 G4 rr cc (mm.2 w)
      · exact absurd w (by decide)
/-- both stop for want of a turn, or take one -/
def jTu (m : Nat) (F1 : PF) (G1 : PG) (F2 : PF) (G2 : PG) (F3 : PF) (G3 : PG) (r : Int32) (F4 : PF) (G4 : PG) : Prop := r = 0 ∧ jTs m 1 F1 G1 F3 G3 ∧ F2 = F4 ∧ G2 = G4
theorem jq_tu (R : jRc (jSS gl K nf B WB Gc Gm) gl H F1 G1 F2 G2 n g a b mu A le cb wb t k s l) (hx : jXn F1) (Z : jSt0 WB B Gc Gm F1 G1 G2) (e62 : F1 62 = F2 78) (e78 : 0 ≤ (F2 78).toInt) (q1 : Gm 56 k = 15) (q2 : Gc 5 (mu k) = 89) (an : jAn A (k + 1) s l) (q4 : mu (k + 1) = mu k + 1) : JP (cf_X6_step fu F1 G1) (mf_works fu F2 G2) (fun _ F3 G3 r F4 G4 => jTu (mu k) F1 G1 F2 G2 F3 G3 r F4 G4 ∨ (r = 1 ∧ jRg (jSS gl K nf B WB Gc Gm) gl F3 G3 F4 G4 ∧ KX [57, 62, 64] [] F1 G1 F3 G3 ∧ KX [76, 77, 78] [] F2 G2 F4 G4 ∧ F3 62 = F1 62 - 1 ∧ F3 64 = F1 64 + 1 ∧ F4 78 = F2 78 - 1 ∧ F4 77 = F2 77 + 1)) := by
  have Q := R.tl
  have M := R.mp Z
  have C := R.cp (w := 1) hx Z (by omega)
  have hk : a ≤ k + 1 ∧ k + 1 ≤ b := ⟨by have := R.2.2.2.1.1; omega, R.2.2.2.1.2.1⟩
  have l0 : (0 : Int32).toInt = 0 := rfl
  obtain ⟨⟨z5, -, -, -⟩, z56, z57, z58, z59⟩ := Z
  refine JP.pp (cq_turn C (by rw [z5]; exact q2)) (mq_tu M (by rw [z56]; exact q1)) ?_
  intro _ F3 G3 r F4 G4 cc mm
  rw [e62] at cc
  rcases cc with ⟨c1, cc⟩ | ⟨c1, c2, c3, c4, c5⟩
  · rcases mm with ⟨m1, m2, m3, m4⟩ | ⟨m1, -⟩
    · exact .inl ⟨m2, cc, m3, m4⟩
    · exact absurd (i_eq2 (by omega)) m1
  · rcases mm with ⟨m1, -⟩ | ⟨m1, m2, m3, m4, m5, m6⟩
    · rw [m1] at c1
      omega
    · refine .inr ⟨m2, ?_, c2, m3, by rw [e62]; exact c4, c5, m5, m6⟩
      have hx3 : jXn F3 := by
        unfold jXn xn at hx ⊢
        rw [c2.1 56 rfl, c2.1 300 rfl]
        exact hx
      rw [← q4] at c3
      exact jRc.fm R hx3 Q.2.2.1 an hk c3 m4 ⟨c2.1 56 rfl, c2.1 58 rfl, c2.1 59 rfl, c2.2 54 rfl, c2.2 55 rfl⟩ ⟨m3.1 72 rfl, m3.1 83 rfl, m3.1 85 rfl, m3.1 86 rfl, m3.1 87 rfl⟩ ⟨m3.2 71 rfl, m3.2 90 rfl, m3.2 91 rfl, m3.2 92 rfl, m3.2 93 rfl⟩
theorem jq_ha (R : jRc (jSS gl K nf B WB Gc Gm) gl H F1 G1 F2 G2 n g a b mu A le cb wb t k s l) (hx : jXn F1) (Z : jSt0 WB B Gc Gm F1 G1 G2) (q1 : Gm 56 k = 20) (q2 : Gc 5 (mu k) = 18) (q3 : s = 0 :: s0) (q4 : mu k + 1 ≤ mu (k + 1)) : JP (cf_X6_step fu F1 G1) (mf_works fu F2 G2) (fun _ F3 G3 r F4 G4 => r = 0 ∧ KX [56, 57, 61, 63, 65, 300] [54, 55] F1 G1 F3 G3 ∧ G3 54 = G1 54 ∧ KX [72, 75, 81] [] F2 G2 F4 G4 ∧ F3 61 = 0 ∧ F3 63 = 4 ∧ F4 75 = 4 ∧ F3 65 = F4 81) := by
  have M := R.mp Z
  have C := R.cp (w := 1) hx Z (by omega)
  have v := R.2.2.2.2.2.2.2.2.2.1
  subst q3
  obtain ⟨⟨z5, -, -, -⟩, z56, z57, z58, z59⟩ := Z
  have y1 : 1 ≤ t + (0 :: s0 : SH).length := by show 1 ≤ t + (s0.length + 1); omega
  have ie : G2 71 (t + (0 :: s0 : SH).length - 1) = G1 55 (t + (0 :: s0 : SH).length - 1) := v.2.2.1 rfl
  refine JP.pp (cq_halt C y1 (by rw [z5]; exact q2)) (mq_ha M (by rw [z56]; exact q1)) ?_
  rintro _ F3 G3 r F4 G4 ⟨c1, c2, c3, c4, c5⟩ ⟨rr, mm⟩
  obtain ⟨m1, m2, m3⟩ := mm y1
  exact ⟨rr, c1, c2, m1, c3, c4, m2, by rw [c5, m3, ie]⟩
end JQF
