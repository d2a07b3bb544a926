section JQS
variable {fu : Nat} {x : Int32} {Fc Fm : PF} {Gc Gm : PG}
/-- what world tells of both -/
theorem jU8.wd (h : jU8 Fc Gc Fm Gm) : Fc 63 = Fm 75 ∧ (Fc 64 = if Fm 75 = 0 then 0 else Fm 77) ∧ Fc 72 = Fm 79 ∧ Fc 70 = Fm 80 ∧ (Fc 65 = if Fm 75 = 3 then Fm 81 else if Fm 75 = 4 then Fm 81 else 0) ∧ (Fc 66 = if Fm 75 = 5 then Fm 82 else if Fm 75 = 6 then Fm 82 else -1) ∧ (Fc 59 - 2000 = if Fm 75 = 0 then 0 else Fm 83) ∧ (Fc 67 = if Fm 75 = 0 then 0 else Fm 84) := by
  have ou := h.ou.1
  obtain ⟨gl, K, nf, -, b63, ⟨c, f, i1, i2, -⟩, br⟩ := h
  rcases br with ⟨z, ⟨c64, c65, c66, c67, c59⟩, -, -⟩ | ⟨⟨b64, b67⟩, -, b59, -, ⟨n0, p1, p2, p3, p4⟩, -⟩
  · refine ⟨b63, ?_, ou, i1.trans i2.symm, ?_, ?_, ?_, ?_⟩
    · rw [if_pos z]; exact c64
    · rw [if_neg (show ¬ Fm 75 = 3 by rw [z]; decide), if_neg (show ¬ Fm 75 = 4 by rw [z]; decide)]; exact c65
    · rw [if_neg (show ¬ Fm 75 = 5 by rw [z]; decide), if_neg (show ¬ Fm 75 = 6 by rw [z]; decide)]; exact c66
    · rw [if_pos z, c59]
      decide
    · rw [if_pos z]; exact c67
  · refine ⟨b63, ?_, ou, i1.trans i2.symm, ?_, ?_, ?_, ?_⟩
    · rw [if_neg n0]; exact b64
    · by_cases a3 : Fm 75 = 3
      · rw [if_pos a3]; exact p3 (.inl a3)
      · rw [if_neg a3]
        by_cases a4 : Fm 75 = 4
        · rw [if_pos a4]; exact p3 (.inr a4)
        · rw [if_neg a4]; exact p4 (fun q => q.elim a3 a4)
    · by_cases a5 : Fm 75 = 5
      · rw [if_pos a5]; exact p1 (.inl a5)
      · rw [if_neg a5]
        by_cases a6 : Fm 75 = 6
        · rw [if_pos a6]; exact p1 (.inr a6)
        · rw [if_neg a6]; exact p2 (fun q => q.elim a5 a6)
    · rw [if_neg n0, b59]
      exact Int32.add_sub_cancel _ _
    · rw [if_neg n0]; exact b67
/-- world -/
theorem same_world (hU : jU8 Fc Gc Fm Gm) : JP (cf_X11_world fu x Fc Gc) (mf_world fu x Fm Gm) (fun r1 _ _ r2 _ _ => r1 = r2) := by
  obtain ⟨w0, w1, w2, w3, w4, w5, w6, w7⟩ := hU.wd
  have m53 : mb_world_53 fu Fm Gm = some ((if Fm 75 = 0 then 0 else Fm 77), Fm, Gm) := by
    unfold mb_world_53
    by_cases c : Fm 75 = 0
    · rw [if_pos c, if_pos c]; rfl
    · rw [if_neg c, if_neg c]; rfl
  have m79 : mb_world_79 fu Fm Gm = some ((if Fm 75 = 3 then Fm 81 else if Fm 75 = 4 then Fm 81 else 0), Fm, Gm) := by
    unfold mb_world_79
    by_cases c : Fm 75 = 3
    · rw [if_pos c, if_pos c]; rfl
    · rw [if_neg c, if_neg c]
      unfold mb_world_87
      by_cases d : Fm 75 = 4
      · rw [if_pos d, if_pos d]; rfl
      · rw [if_neg d, if_neg d]; rfl
  have m104 : mb_world_104 fu Fm Gm = some ((if Fm 75 = 5 then Fm 82 else if Fm 75 = 6 then Fm 82 else -1), Fm, Gm) := by
    unfold mb_world_104
    by_cases c : Fm 75 = 5
    · rw [if_pos c, if_pos c]; rfl
    · rw [if_neg c, if_neg c]
      unfold mb_world_112
      by_cases d : Fm 75 = 6
      · rw [if_pos d, if_pos d]; rfl
      · rw [if_neg d, if_neg d]; rfl
  have m130 : mb_world_130 fu Fm Gm = some ((if Fm 75 = 0 then 0 else Fm 83), Fm, Gm) := by
    unfold mb_world_130
    by_cases c : Fm 75 = 0
    · rw [if_pos c, if_pos c]; rfl
    · rw [if_neg c, if_neg c]; rfl
  have m146 : mb_world_146 fu Fm Gm = some ((if Fm 75 = 0 then 0 else Fm 84), Fm, Gm) := by
    unfold mb_world_146
    by_cases c : Fm 75 = 0
    · rw [if_pos c, if_pos c]; rfl
    · rw [if_neg c, if_neg c]; rfl
  have c96 : cb_X11_world_96 fu Fc Gc = some (Fc 59 - 2000, Fc, Gc) := rfl
  unfold cf_X11_world cb_X11_world_0 mf_world mb_world_0
  by_cases c : x.toInt < 0 ∨ 7 < x.toInt
  · rw [if_pos c, if_pos c]
    exact JP.ret (r1 := -1) (r2 := -1) rfl
  rw [if_neg c, if_neg c]
  by_cases c0 : x = 0
  · rw [if_pos c0, if_pos c0]
    exact JP.ret (r1 := Fc 63) (r2 := Fm 75) w0
  rw [if_neg c0, if_neg c0]
  by_cases c1 : x = 1
  · rw [if_pos c1, if_pos c1, m53]
    exact JP.ret (r1 := Fc 64) w1
  rw [if_neg c1, if_neg c1]
  by_cases c2 : x = 2
  · rw [if_pos c2, if_pos c2]
    exact JP.ret (r1 := Fc 72) (r2 := Fm 79) w2
  rw [if_neg c2, if_neg c2]
  by_cases c3 : x = 3
  · rw [if_pos c3, if_pos c3]
    exact JP.ret (r1 := Fc 70) (r2 := Fm 80) w3
  rw [if_neg c3, if_neg c3]
  by_cases c4 : x = 4
  · rw [if_pos c4, if_pos c4, m79]
    exact JP.ret (r1 := Fc 65) w4
  rw [if_neg c4, if_neg c4]
  by_cases c5 : x = 5
  · rw [if_pos c5, if_pos c5, m104]
    exact JP.ret (r1 := Fc 66) w5
  rw [if_neg c5, if_neg c5]
  by_cases c6 : x = 6
  · rw [if_pos c6, if_pos c6, m130, c96]
    exact JP.ret w6
  rw [if_neg c6, if_neg c6, m146]
  exact JP.ret (r1 := Fc 67) w7
end JQS
