section JQE
variable {fu : Nat} {gl : JLY} {K : Nat → List Nat} {nf B WB : Nat} {Gc Gm : PG} {H : JHP} {F1 F2 F3 F4 : PF} {G1 G2 G3 G4 : PG} {n g a b : Nat} {mu : Nat → Nat} {A : JAN} {le : JLY} {cb wb t k : Nat} {s s0 s1 : SH} {l : JLY}
/-- all steps that only go on, but OUTPUT and INPUT -/
theorem jq_o {n1 : Nat} (R : jRc (jSS gl K nf B WB Gc Gm) gl H F1 G1 F2 G2 n g a b mu A le cb wb t k s l) (hx : jXn F1) (Z : jSt0 WB B Gc Gm F1 G1 G2) (h4 : t + s.length < 399000) (O : jO (false, gl, l, K) (Gm 56 k) (Gm 57 k) (Gm 58 k) (Gm 59 k) (fun j => Gc 5 (mu k + j)) s s1 n1) (an : jAn A (k + 1) s1 l) (em : mu (k + 1) = mu k + n1) (np : ¬ Gm 56 k = 19) (ng : ¬ Gm 56 k = 21) : JP (cf_X6_step fu F1 G1) (mf_works fu F2 G2) (fun _ F3 G3 r F4 G4 => jO1 (jSS gl K nf B WB Gc Gm) gl F1 G1 F2 G2 F3 G3 r F4 G4) := by
  rcases O with h | h | h | h | ⟨-, h⟩
  · exact jq_a (c := fun j => Gc 5 (mu k + j)) (b1 := 0) (e1 := 0) R hx Z h4 rfl rfl rfl (.inl h) an em
  · exact jq_a (c := fun j => Gc 5 (mu k + j)) (b1 := 0) (e1 := 0) R hx Z h4 rfl rfl rfl (.inr (.inl h)) an em
  · exact jq_a (c := fun j => Gc 5 (mu k + j)) (b1 := 0) (e1 := 0) R hx Z h4 rfl rfl rfl (.inr (.inr (.inl h))) an em
  · exact jq_a (c := fun j => Gc 5 (mu k + j)) (b1 := 0) (e1 := 0) R hx Z h4 rfl rfl rfl (.inr (.inr (.inr h))) an em
  · rcases h with h | h | h | h | h | h | h | h | h | h | h | h | h
    · exact jq_b (c := fun j => Gc 5 (mu k + j)) (b1 := 0) (e1 := 0) R hx Z h4 rfl rfl rfl (.inl h) an em
    · exact jq_b (c := fun j => Gc 5 (mu k + j)) (b1 := 0) (e1 := 0) R hx Z h4 rfl rfl rfl (.inr (.inl h)) an em
    · exact jq_b (c := fun j => Gc 5 (mu k + j)) (b1 := 0) (e1 := 0) R hx Z h4 rfl rfl rfl (.inr (.inr (.inl h))) an em
    · exact jq_b (c := fun j => Gc 5 (mu k + j)) (b1 := 0) (e1 := 0) R hx Z h4 rfl rfl rfl (.inr (.inr (.inr (.inl h)))) an em
    · exact jq_d (c := fun j => Gc 5 (mu k + j)) R hx Z h4 rfl rfl rfl rfl rfl (.inl h) an em
    · exact jq_d (c := fun j => Gc 5 (mu k + j)) R hx Z h4 rfl rfl rfl rfl rfl (.inr h) an em
    · exact jq_c (c := fun j => Gc 5 (mu k + j)) (e1 := 0) R hx Z h4 rfl rfl rfl rfl (.inl h) an em
    · exact jq_c (c := fun j => Gc 5 (mu k + j)) (e1 := 0) R hx Z h4 rfl rfl rfl rfl (.inr (.inl h)) an em
    · exact jq_b (c := fun j => Gc 5 (mu k + j)) (b1 := 0) (e1 := 0) R hx Z h4 rfl rfl rfl (.inr (.inr (.inr (.inr (.inl h))))) an em
    · exact jq_b (c := fun j => Gc 5 (mu k + j)) (b1 := 0) (e1 := 0) R hx Z h4 rfl rfl rfl (.inr (.inr (.inr (.inr (.inr h))))) an em
    · exact absurd h.1 np
    · exact absurd h.1 ng
    · exact jq_c (c := fun j => Gc 5 (mu k + j)) (e1 := 0) R hx Z h4 rfl rfl rfl rfl (.inr (.inr h)) an em
/-- a jump that always goes: the class goes too, or stands there already -/
theorem jq_go {t1 : Nat} (R : jRc (jSS gl K nf B WB Gc Gm) gl H F1 G1 F2 G2 n g a b mu A le cb wb t k s l) (hx : jXn F1) (Z : jSt0 WB B Gc Gm F1 G1 G2) (e0 : Gm 56 k = 12) (ht : a ≤ t1 ∧ t1 ≤ b) (e1 : Gm 57 k = nI t1) (an : jAn A t1 s l) (hj : Gc 5 (mu k) = 84 ∧ Gc 5 (mu k + 1) = nI (mu t1) ∧ mu k + 2 ≤ mu (k + 1)) : JP (cf_X6_step fu F1 G1) (mf_works fu F2 G2) (fun _ F3 G3 r F4 G4 => jO1 (jSS gl K nf B WB Gc Gm) gl F1 G1 F2 G2 F3 G3 r F4 G4) := by
  have Q := R.tl
  have M := R.mp Z
  have C := R.cp (w := 2) hx Z hj.2.2
  obtain ⟨⟨z5, -, -, -⟩, z56, z57, z58, z59⟩ := Z
  refine JP.pp (cq_go (t := mu t1) C (by rw [z5]; exact hj.1) (by rw [z5]; exact hj.2.1)) (mq_go (t := t1) M (by rw [z56]; exact e0)) ?_
  rintro _ F3 G3 r F4 G4 cc ⟨rr, mm⟩
  have mm := mm (by rw [z57]; exact e1)
  exact .inl ⟨rr, jRc.p0 (s0 := s) R cc mm rfl R.2.2.2.1.2.2.2 R.2.2.2.2.2.2.2.2.2.1 Q.2.2.1 an ht, cc.1, mm.1⟩
theorem jq_g0 {t1 : Nat} (R : jRc (jSS gl K nf B WB Gc Gm) gl H F1 G1 F2 G2 n g a b mu A le cb wb t k s l) (hx : jXn F1) (Z : jSt0 WB B Gc Gm F1 G1 G2) (e0 : Gm 56 k = 12) (ht : a ≤ t1 ∧ t1 ≤ b) (e1 : Gm 57 k = nI t1) (an : jAn A t1 s l) (hj : mu t1 = mu k) : PP (mf_works fu F2 G2) (fun r F4 G4 => r = 1 ∧ jRg (jSS gl K nf B WB Gc Gm) gl F1 G1 F4 G4 ∧ KX [72, 76] [71, 90] F2 G2 F4 G4) := by
  have Q := R.tl
  have M := R.mp Z
  obtain ⟨⟨z5, -, -, -⟩, z56, z57, z58, z59⟩ := Z
  refine PP.mono (mq_go (t := t1) M (by rw [z56]; exact e0)) ?_
  rintro r F4 G4 ⟨rr, mm⟩
  have mm := mm (by rw [z57]; exact e1)
  have cc : jCe (mu t1) (t + s.length) 0 [] (G1 54) F1 G1 F1 G1 := jCe.rf (by rw [hj]; exact R.2.2.2.2.2.2.2.1.2) R.2.2.2.2.2.2.2.2.1.2 hx
  exact ⟨rr, jRc.p0 (s0 := s) R cc mm rfl R.2.2.2.1.2.2.2 R.2.2.2.2.2.2.2.2.2.1 Q.2.2.1 an ht, mm.1⟩
/-- an int is told -/
theorem jq_de (R : jRc (jSS gl K nf B WB Gc Gm) gl H F1 G1 F2 G2 n g a b mu A le cb wb t k s l) (hx : jXn F1) (Z : jSt0 WB B Gc Gm F1 G1 G2) (q1 : Gm 56 k = 2) (q2 : Gc 5 (mu k) = 72) (q3 : Gm 57 k = nI (jsC l)) (q4 : Gc 5 (mu k + 1) = nI (4 + jsW l)) (q5 : mu (k + 1) = mu k + 2) (q6 : s = 0 :: s1) (an : jAn A (k + 1) s1 (l ++ [(0, 1)])) (qz : jLe (l ++ [(0, 1)]) le) : JP (cf_X6_step fu F1 G1) (mf_works fu F2 G2) (fun _ F3 G3 r F4 G4 => jO1 (jSS gl K nf B WB Gc Gm) gl F1 G1 F2 G2 F3 G3 r F4 G4) := by
  have Q := R.tl
  have M := R.mp Z
  have C := R.cp (w := 2) hx Z (by omega)
  have hk : a ≤ k + 1 ∧ k + 1 ≤ b := ⟨by have := R.2.2.2.1.1; omega, R.2.2.2.1.2.1⟩
  have n6 := R.2.2.2.1.2.2.2
  have v := R.2.2.2.2.2.2.2.2.2.1
  have e86 : F2 86 = nI cb := R.2.2.2.2.2.1.2.1
  have e58 : F1 58 = nI wb := R.2.2.2.2.2.2.1.1
  have b1 := R.bd.1
  have b2 := R.2.2.2.2.2.2.2.2.2.2.2.2.2.1
  have b3 : jsC l + 1 ≤ jsC le ∧ jsW l + 1 ≤ jsW le := (qz _ _ (0, 1) (by decide) (jAt.new l (0, 1))).le
  subst q6
  obtain ⟨⟨z5, -, -, -⟩, z56, z57, z58, z59⟩ := Z
  have y1 : 1 ≤ t + (0 :: s1 : SH).length := by show 1 ≤ t + (s1.length + 1); omega
  refine JP.pp (cq_stl (a := 4 + jsW l) C y1 (by rw [z5]; exact q2) (by rw [z5]; exact q4) e58 (by omega)) (mq_sl (b := cb) (p := jsC l) M (by rw [z56]; exact q1)) ?_
  rintro _ F3 G3 r F4 G4 cc ⟨rr, mm⟩
  have mm := mm y1 e86 (by rw [z57]; exact q3) (by omega)
  rw [← q5] at cc
  have a1e : G2 71 (t + (0 :: s1 : SH).length - 1) = G1 55 (t + (0 :: s1 : SH).length - 1) := v.2.2.1 rfl
  rw [a1e] at mm
  rw [show wb + (4 + jsW l) = wb + 4 + jsW l by omega] at cc
  exact .inl ⟨rr, jRc.pn (x := (0, 1)) (s0 := s1) R cc mm rfl n6.tl v.2.1 Q.2.2.1 an hk (by decide) rfl rfl qz (fun i hi => upd_n (by have hi : i < cb + jsC l ∨ cb + jsC l + 1 ≤ i := hi; omega)) (fun i hi => upd_n (by have hi : i < wb + 4 + jsW l ∨ wb + 4 + jsW l + 1 ≤ i := hi; omega)) (jCt.i0 _), cc.1, mm.1⟩
/-- an array is told -/
theorem jq_da {κ m : Nat} (R : jRc (jSS gl K nf B WB Gc Gm) gl H F1 G1 F2 G2 n g a b mu A le cb wb t k s l) (hx : jXn F1) (Z : jSt0 WB B Gc Gm F1 G1 G2) (q1 : Gm 56 k = 22) (q2 : Gc 5 (mu k) = 73) (q3 : Gm 57 k = nI (jsC l)) (q4 : Gc 5 (mu k + 1) = nI (4 + jsW l)) (q5 : mu (k + 1) = mu k + 3) (hκ : κ = 1 ∨ κ = 2) (q6 : joW (κ, m) ≤ 200) (q7 : Gm 58 k = nI m) (q8 : Gc 5 (mu k + 2) = nI (joW (κ, m))) (an : jAn A (k + 1) s (l ++ [(κ, m)])) (qz : jLe (l ++ [(κ, m)]) le) : JP (cf_X6_step fu F1 G1) (mf_works fu F2 G2) (fun _ F3 G3 r F4 G4 => jO1 (jSS gl K nf B WB Gc Gm) gl F1 G1 F2 G2 F3 G3 r F4 G4) := by
  have Q := R.tl
  have M := R.mp Z
  have C := R.cp (w := 3) hx Z (by omega)
  have hk : a ≤ k + 1 ∧ k + 1 ≤ b := ⟨by have := R.2.2.2.1.1; omega, R.2.2.2.1.2.1⟩
  have n6 := R.2.2.2.1.2.2.2
  have v := R.2.2.2.2.2.2.2.2.2.1
  have e86 : F2 86 = nI cb := R.2.2.2.2.2.1.2.1
  have e58 : F1 58 = nI wb := R.2.2.2.2.2.2.1.1
  have b1 := R.bd.1
  have b2 := R.2.2.2.2.2.2.2.2.2.2.2.2.2.1
  have jc : joC (κ, m) = m := by rcases hκ with z | z <;> rw [z] <;> rfl
  have b3 := (qz _ _ (κ, m) (by show κ ≤ 4; omega) (jAt.new l (κ, m))).le
  rw [jc] at b3
  obtain ⟨⟨z5, -, -, -⟩, z56, z57, z58, z59⟩ := Z
  refine JP.pp (cq_clr (a := 4 + jsW l) (w := joW (κ, m)) C (by rw [z5]; exact q2) (by rw [z5]; exact q4) (by rw [z5]; exact q8) e58 q6 (by omega)) (mq_cl (b := cb) (p := jsC l) (m := m) e86 (by rw [z57]; exact q3) (by rw [z58]; exact q7) (by omega) M (by rw [z56]; exact q1)) ?_
  rintro _ F3 G3 r F4 G4 cc ⟨rr, mm⟩
  rw [← q5] at cc
  rw [show wb + (4 + jsW l) = wb + 4 + jsW l by omega] at cc
  exact .inl ⟨rr, jRc.pn (x := (κ, m)) (s0 := s) R cc mm rfl n6 v Q.2.2.1 an hk (by show κ ≤ 2; omega) rfl rfl qz (fun i hi => if_neg (by rw [jc] at hi; omega)) (fun i hi => if_neg (by omega)) (jCt.z (ce1 := G2 90) (wd1 := G2 90) hκ), cc.1, mm.1⟩
end JQE
