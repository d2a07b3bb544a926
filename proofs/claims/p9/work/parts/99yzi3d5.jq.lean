section JQ5
variable {fu m y n : Nat} {F F1 Fa : PF} {G G1 Ga : PG} {Q : Int32 → PF → PG → Prop} {f : Int32 × PF × PG → PR} {wd : Nat → Int32}
/-- the class stops at a wrong index -/
def jCx (pl : Int32) (F : PF) (G : PG) (F1 : PF) (G1 : PG) : Prop := KX [56, 57, 61, 63, 66, 300] [] F G F1 G1 ∧ F1 61 = 0 ∧ F1 63 = 5 ∧ F1 66 = pl
/-- an element of an array -/
theorem cq_el {b N : Nat} (h : jCe m y 0 [] (G 54) F G Fa G) (hm : ((m + 2 : Nat) : Int) ≤ (F 6).toInt) (m8 : m < 95000) (hy : 1 ≤ y) (y8 : y < 400000) (hs : G 5 m = 0 ∨ G 5 m = 2) (hb : b < 100000) (hN : N ≤ 20000) (k1 : ∀ (i : Nat) (Fb : PF) (Gb : PG), i < N → G 55 (y - 1) = nI i → jCe (m + 2) y 1 [nI (if G 5 m = 0 then b + i else 4 * b + i)] (G 54) F G Fb Gb → PP (f (0, Fb, Gb)) Q) (k2 : ∀ (Fb : PF) (Gb : PG), ((G 55 (y - 1)).toInt < 0 ∨ (N : Int) ≤ (G 55 (y - 1)).toInt) → jCx (G 5 (m + 1)) F G Fb Gb → PP (f (0, Fb, Gb)) Q) : PP ((cf_X6_element fu (nI b) (nI N) Fa G).bind f) Q := by
  have l0 : (0 : Int32).toInt = 0 := rfl
  have eN : (nI N).toInt = N := nI_toInt (by omega)
  unfold cf_X6_element cb_X6_element_0
  rw [Option.bind_assoc]
  refine h.nx (by omega) (by omega) (fun Fc hc => ?_)
  dsimp only
  unfold cb_X6_element_4
  rw [Option.bind_assoc]
  refine hc.nx (by omega) (by omega) (fun Fd hd => ?_)
  dsimp only
  unfold cb_X6_element_9
  rw [Option.bind_assoc]
  refine hd.po (by omega) (by omega) (fun Fe he => ?_)
  dsimp only
  have out : ((G 55 (y - 1)).toInt < 0 ∨ (N : Int) ≤ (G 55 (y - 1)).toInt) → PP ((cb_X6_element_28 fu (G 5 (m + 1)) Fe G).bind f) Q := by
    intro ho
    show PP (f (0, fup (fup (fup Fe 66 (G 5 (m + 1))) 63 5) 61 0, G)) Q
    refine k2 _ _ ho ⟨?_, fup_s, by rw [fup_n (by decide), fup_s], by rw [fup_n (by decide), fup_n (by decide), fup_s]⟩
    exact KX.f rfl (KX.f rfl (KX.f rfl ⟨fun q hq => he.1.1 q (by
      simp only [List.contains_cons, List.contains_nil, Bool.or_false, Bool.or_eq_false_iff, beq_eq_false_iff_ne] at hq ⊢
      exact ⟨hq.1, hq.2.1, hq.2.2.2.2.2⟩), fun _ _ => rfl⟩))
  unfold cb_X6_element_15
  by_cases c : G 55 (y - (0 + 1)) < 0
  · rw [if_pos c]
    exact out (.inl (i_lt.mp c))
  · rw [if_neg c]
    have c := mt i_lt.mpr c
    unfold cb_X6_element_22
    by_cases d : G 55 (y - (0 + 1)) < nI N
    · rw [if_pos d]
      have d := i_lt.mp d
      rw [eN] at d
      have ei : G 55 (y - 1) = nI (G 55 (y - 1)).toInt.toNat := i_eq2 (by rw [nI_toInt (by have := i_rng (G 55 (y - 1)); omega)]; have c : ¬ (G 55 (y - 1)).toInt < (0 : Int32).toInt := c; omega)
      have d : (G 55 (y - 1)).toInt < N := d
      have c : ¬ (G 55 (y - 1)).toInt < (0 : Int32).toInt := c
      generalize hi : (G 55 (y - 1)).toInt.toNat = i at ei
      have hiN : i < N := by omega
      unfold cb_X6_element_42
      rw [Option.bind_assoc, show G 55 (y - (0 + 1)) = nI i from ei]
      have ea : (nI b <<< (G 5 m &&& 31)) + nI i = nI (if G 5 m = 0 then b + i else 4 * b + i) := by
        rcases hs with z | z
        · rw [z, sh_0, if_pos rfl]
          exact nI_ad (by omega)
        · rw [z, sh_2, if_neg (by decide)]
          exact nI_ad (by omega)
      rw [ea]
      refine he.pu _ (by omega) (by show y + 0 < 500000; omega) (fun r Fg Gg hg => ?_)
      exact k1 i Fg Gg hiN ei hg
    · rw [if_neg d]
      refine out (.inr ?_)
      have d := mt i_lt.mpr d
      rw [eN] at d
      have d : ¬ (G 55 (y - 1)).toInt < N := d
      omega
/-- the element of an array of all, own, passed -/
def jEo (m y b N : Nat) (F : PF) (G : PG) (F1 : PF) (G1 : PG) : Prop := (∃ i : Nat, i < N ∧ G 55 (y - 1) = nI i ∧ jCe (m + 5) y 1 [nI (if G 5 (m + 3) = 0 then b + i else 4 * b + i)] (G 54) F G F1 G1) ∨ (((G 55 (y - 1)).toInt < 0 ∨ (N : Int) ≤ (G 55 (y - 1)).toInt) ∧ jCx (G 5 (m + 4)) F G F1 G1)
theorem cq_ag {b N : Nat} (P : jCp m y 5 F) (hy : 1 ≤ y) (c0 : G 5 m = 74) (c1 : G 5 (m + 1) = nI b) (c2 : G 5 (m + 2) = nI N) (c3 : G 5 (m + 3) = 0 ∨ G 5 (m + 3) = 2) (hb : b < 100000) (hN : N ≤ 20000) : PP (cf_X6_step fu F G) (fun _ F1 G1 => jEo m y b N F G F1 G1) := by
  obtain ⟨h57, h56, hx, hm, m8, y8⟩ := P
  refine jCe.st h57 h56 hx (by omega) (by omega) (fun Fb hb1 => ?_)
  rw [c0, cs_9r (by decide) (by decide)]
  unfold cb_X6_step_102 cf_X6_reach cb_X6_reach_0
  rw [if_neg (by decide), if_pos rfl]
  unfold cb_X6_reach_44
  rw [Option.bind_assoc]
  refine hb1.nx (by omega) (by omega) (fun Fc hc => ?_)
  dsimp only
  unfold cb_X6_reach_49
  rw [c1, Option.bind_assoc]
  refine hc.nx (by omega) (by omega) (fun Fd hd => ?_)
  dsimp only
  unfold cb_X6_reach_53
  rw [show G 5 (m + 1 + 1) = nI N from c2, Option.bind_assoc]
  refine cq_el hd (by omega) (by omega) hy y8 c3 hb hN (fun i Fe Ge hi ei he => ?_) (fun Fe Ge ho he => ?_)
  · show PP (some (0, Fe, Ge)) _
    exact PP.ret (.inl ⟨i, hi, ei, he⟩)
  · show PP (some (0, Fe, Ge)) _
    exact PP.ret (.inr ⟨ho, he⟩)
theorem cq_al {w b N : Nat} (P : jCp m y 5 F) (hy : 1 ≤ y) (c0 : G 5 m = 75) (c1 : G 5 (m + 1) = nI b) (c2 : G 5 (m + 2) = nI N) (c3 : G 5 (m + 3) = 0 ∨ G 5 (m + 3) = 2) (e58 : F 58 = nI w) (hb : w + b < 100000) (hN : N ≤ 20000) : PP (cf_X6_step fu F G) (fun _ F1 G1 => jEo m y (w + b) N F G F1 G1) := by
  obtain ⟨h57, h56, hx, hm, m8, y8⟩ := P
  refine jCe.st h57 h56 hx (by omega) (by omega) (fun Fb hb1 => ?_)
  rw [c0, cs_9r (by decide) (by decide)]
  unfold cb_X6_step_102 cf_X6_reach cb_X6_reach_0
  rw [if_neg (by decide), if_neg (by decide), if_pos rfl]
  unfold cb_X6_reach_59
  rw [Option.bind_assoc, hb1.1.1 58 rfl, e58]
  refine hb1.nx (by omega) (by omega) (fun Fc hc => ?_)
  dsimp only
  unfold cb_X6_reach_68
  rw [c1, nI_ad (by omega), Option.bind_assoc]
  refine hc.nx (by omega) (by omega) (fun Fd hd => ?_)
  dsimp only
  unfold cb_X6_reach_73
  rw [show G 5 (m + 1 + 1) = nI N from c2, Option.bind_assoc]
  refine cq_el hd (by omega) (by omega) hy y8 c3 hb hN (fun i Fe Ge hi ei he => ?_) (fun Fe Ge ho he => ?_)
  · show PP (some (0, Fe, Ge)) _
    exact PP.ret (.inl ⟨i, hi, ei, he⟩)
  · show PP (some (0, Fe, Ge)) _
    exact PP.ret (.inr ⟨ho, he⟩)
theorem cq_ap {w a b N : Nat} (P : jCp m y 5 F) (hy : 1 ≤ y) (c0 : G 5 m = 76) (c1 : G 5 (m + 1) = nI a) (c3 : G 5 (m + 3) = 0 ∨ G 5 (m + 3) = 2) (e58 : F 58 = nI w) (ha : w + a + 1 < 4000) (e1 : G 54 (w + a) = nI b) (e2 : G 54 (w + a + 1) = nI N) (hb : b < 100000) (hN : N ≤ 20000) : PP (cf_X6_step fu F G) (fun _ F1 G1 => jEo m y b N F G F1 G1) := by
  obtain ⟨h57, h56, hx, hm, m8, y8⟩ := P
  refine jCe.st h57 h56 hx (by omega) (by omega) (fun Fb hb1 => ?_)
  rw [c0, cs_9r (by decide) (by decide)]
  unfold cb_X6_step_102 cf_X6_reach cb_X6_reach_0
  rw [if_neg (by decide), if_neg (by decide), if_neg (by decide), if_pos rfl]
  unfold cb_X6_reach_79
  rw [Option.bind_assoc, hb1.1.1 58 rfl, e58]
  refine hb1.nx (by omega) (by omega) (fun Fc hc => ?_)
  dsimp only
  unfold cb_X6_reach_87
  rw [c1, nI_ad (by omega), Option.bind_assoc]
  refine hc.nx (by omega) (by omega) (fun Fd hd => ?_)
  dsimp only
  unfold cb_X6_reach_93
  rw [Option.bind_assoc]
  refine hd.he (by omega) ?_
  dsimp only
  unfold cb_X6_reach_100
  rw [nI_t _ (by omega), Option.bind_assoc]
  refine hd.he (by omega) ?_
  dsimp only
  unfold cb_X6_reach_107
  rw [e1, e2, Option.bind_assoc]
  refine cq_el hd (by omega) (by omega) hy y8 c3 hb hN (fun i Fe Ge hi ei he => ?_) (fun Fe Ge ho he => ?_)
  · show PP (some (0, Fe, Ge)) _
    exact PP.ret (.inl ⟨i, hi, ei, he⟩)
  · show PP (some (0, Fe, Ge)) _
    exact PP.ret (.inr ⟨ho, he⟩)
theorem cq_fi {a : Nat} (P : jCp m y 1 F) (hy : 1 ≤ y) (c0 : G 5 m = 77) (e1 : G 55 (y - 1) = nI a) (ha : a < 4000) : PP (cf_X6_step fu F G) (fun _ F1 G1 => jCe (m + 1) y 1 [G 54 a] (G 54) F G F1 G1) := by
  obtain ⟨h57, h56, hx, hm, m8, y8⟩ := P
  refine jCe.st h57 h56 hx (by omega) (by omega) (fun Fb hb => ?_)
  rw [c0, cs_9r (by decide) (by decide)]
  unfold cb_X6_step_102 cf_X6_reach cb_X6_reach_0
  rw [if_neg (by decide), if_neg (by decide), if_neg (by decide), if_neg (by decide), if_pos rfl]
  unfold cb_X6_reach_113
  rw [Option.bind_assoc]
  refine hb.po (by omega) (by omega) (fun Fc hc => ?_)
  dsimp only
  unfold cb_X6_reach_119
  rw [show G 55 (y - (0 + 1)) = nI a from e1, Option.bind_assoc]
  refine hc.he ha ?_
  dsimp only
  unfold cb_X6_reach_122
  rw [Option.bind_assoc]
  refine hc.pu _ (by omega) (by show y + 0 < 500000; omega) (fun r Fd Gd hd => ?_)
  show PP (some (0, Fd, Gd)) _
  exact PP.ret hd
theorem cq_fb {a : Nat} (P : jCp m y 1 F) (hy : 1 ≤ y) (c0 : G 5 m = 78) (e1 : G 55 (y - 1) = nI a) (ha : a < 16000) : PP (cf_X6_step fu F G) (fun _ F1 G1 => jCe (m + 1) y 1 [jBy (G 54 (a / 4)) (a % 4)] (G 54) F G F1 G1) := by
  obtain ⟨h57, h56, hx, hm, m8, y8⟩ := P
  refine jCe.st h57 h56 hx (by omega) (by omega) (fun Fb hb => ?_)
  rw [c0, cs_9r (by decide) (by decide)]
  unfold cb_X6_step_102 cf_X6_reach cb_X6_reach_0
  rw [if_neg (by decide), if_neg (by decide), if_neg (by decide), if_neg (by decide), if_neg (by decide), if_pos rfl]
  unfold cb_X6_reach_128
  rw [Option.bind_assoc]
  refine hb.po (by omega) (by omega) (fun Fc hc => ?_)
  dsimp only
  unfold cb_X6_reach_132
  rw [show G 55 (y - (0 + 1)) = nI a from e1, sr_2 (by omega), Option.bind_assoc]
  refine hc.he (by omega) ?_
  dsimp only
  unfold cb_X6_reach_141
  rw [an_38, Option.bind_assoc]
  refine hc.pu _ (by omega) (by show y + 0 < 500000; omega) (fun r Fd Gd hd => ?_)
  show PP (some (0, Fd, Gd)) _
  exact PP.ret hd
theorem cq_ki {a : Nat} (P : jCp m y 1 F) (hy : 2 ≤ y) (c0 : G 5 m = 79) (e1 : G 55 (y - 2) = nI a) (ha : a < 4000) : PP (cf_X6_step fu F G) (fun _ F1 G1 => jCe (m + 1) y 2 [] (upd (G 54) a (G 55 (y - 1))) F G F1 G1) := by
  obtain ⟨h57, h56, hx, hm, m8, y8⟩ := P
  refine jCe.st h57 h56 hx (by omega) (by omega) (fun Fb hb => ?_)
  rw [c0, cs_9r (by decide) (by decide)]
  unfold cb_X6_step_102 cf_X6_reach cb_X6_reach_0
  rw [if_neg (by decide), if_neg (by decide), if_neg (by decide), if_neg (by decide), if_neg (by decide), if_neg (by decide), if_pos rfl]
  unfold cb_X6_reach_158
  rw [Option.bind_assoc]
  refine hb.po (by omega) (by omega) (fun Fc hc => ?_)
  dsimp only
  unfold cb_X6_reach_162
  rw [Option.bind_assoc]
  refine hc.po (by omega) (by omega) (fun Fd hd => ?_)
  dsimp only
  unfold cb_X6_reach_169
  rw [show G 55 (y - (0 + 1 + 1)) = nI a from e1, Option.bind_assoc]
  refine hd.ho ha (fun Ge he => ?_)
  show PP (some (0, Fd, Ge)) _
  exact PP.ret he
theorem cq_kb {a : Nat} (P : jCp m y 1 F) (hy : 2 ≤ y) (c0 : G 5 m = 80) (e1 : G 55 (y - 2) = nI a) (ha : a < 16000) : PP (cf_X6_step fu F G) (fun _ F1 G1 => jCe (m + 1) y 2 [] (upd (G 54) (a / 4) (jSb (G 54 (a / 4)) (G 55 (y - 1)) (a % 4))) F G F1 G1) := by
  obtain ⟨h57, h56, hx, hm, m8, y8⟩ := P
  refine jCe.st h57 h56 hx (by omega) (by omega) (fun Fb hb => ?_)
  rw [c0, cs_9r (by decide) (by decide)]
  unfold cb_X6_step_102 cf_X6_reach cb_X6_reach_0
  rw [if_neg (by decide), if_neg (by decide), if_neg (by decide), if_neg (by decide), if_neg (by decide), if_neg (by decide), if_neg (by decide)]
  unfold cb_X6_reach_177
  rw [Option.bind_assoc]
  refine hb.po (by omega) (by omega) (fun Fc hc => ?_)
  dsimp only
  unfold cb_X6_reach_181
  rw [Option.bind_assoc]
  refine hc.po (by omega) (by omega) (fun Fd hd => ?_)
  dsimp only
  unfold cb_X6_reach_188 cf_X6_keepByte cb_X6_keepByte_0
  rw [show G 55 (y - (0 + 1 + 1)) = nI a from e1, sr_2 (by omega), an_38, Option.bind_assoc, Option.bind_assoc]
  refine hd.he (by omega) ?_
  dsimp only
  unfold cb_X6_keepByte_19
  rw [Option.bind_assoc]
  refine hd.ho (by omega) (fun Ge he => ?_)
  show PP (some (0, Fd, Ge)) _
  exact PP.ret he
end JQ5
