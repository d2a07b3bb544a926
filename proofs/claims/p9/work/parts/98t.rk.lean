def plQ (x1 : Int32) (F : PF) (G : PG) (r : Int32) (F1 : PF) (G1 : PG) : Prop :=
  (G 56 x1.toNatClampNeg = 0 ∧ r = x1 + 1 ∧ F1 = fup F 72 (F 72 + 1) ∧ ∃ v, G1 = gup G 71 (F 72).toNatClampNeg v) ∨
  (G 56 x1.toNatClampNeg = 10 ∧ r = x1 + 1 ∧ F1 = fup F 72 (F 72 - 1) ∧ ∃ v, G1 = gup G 71 (F 72 - 1 - 1).toNatClampNeg v) ∨
  ((G 56 x1.toNatClampNeg = 11 ∨ G 56 x1.toNatClampNeg = 23) ∧ r = x1 + 1 ∧ F1 = F ∧ ∃ v, G1 = gup G 71 (F 72 - 1).toNatClampNeg v) ∨
  (G 56 x1.toNatClampNeg = 12 ∧ r = G 57 x1.toNatClampNeg ∧ F1 = F ∧ G1 = G) ∨
  ((G 56 x1.toNatClampNeg = 13 ∨ G 56 x1.toNatClampNeg = 14) ∧ (r = G 57 x1.toNatClampNeg ∨ r = x1 + 1) ∧ F1 = fup F 72 (F 72 - 1) ∧ G1 = G)
/-- a plain step is done -/
theorem ms_plainly {fu : Nat} (x1 : Int32) (F : PF) (G : PG) (hx : vp_in x1 9000) (ht : 0 ≤ (F 72).toInt ∧ (F 72).toInt < 280000)
    (hw : G 56 x1.toNatClampNeg = 0 ∨ (G 56 x1.toNatClampNeg = 10 ∧ 2 ≤ (F 72).toInt) ∨ ((G 56 x1.toNatClampNeg = 11 ∨ G 56 x1.toNatClampNeg = 23) ∧ 1 ≤ (F 72).toInt) ∨ G 56 x1.toNatClampNeg = 12 ∨ ((G 56 x1.toNatClampNeg = 13 ∨ G 56 x1.toNatClampNeg = 14) ∧ 1 ≤ (F 72).toInt)) : WP (mf_plainly fu x1 F G) (fun r F1 G1 => plQ x1 F G r F1 G1) := by
  have d1 : 1 ≤ (F 72).toInt → (F 72 - 1).toInt = (F 72).toInt - 1 := fun q => i_subn (F 72) rfl (by omega) (by omega)
  unfold mf_plainly mb_plainly_0
  refine WP.ix hx (WP.ix hx ?_)
  rcases hw with e | ⟨e, h⟩ | ⟨e, h⟩ | e | ⟨e, h⟩
  · rw [if_pos e]
    unfold mb_plainly_72
    refine WP.ix (vp_in_iff.mpr ⟨ht.1, by have := ht.2; omega⟩) ?_
    exact WP.ret (Or.inl ⟨e, rfl, rfl, _, rfl⟩)
  · have e1 := d1 (by omega)
    have e2 : (F 72 - 1 - 1).toInt = (F 72).toInt - 2 := by
      have := i_subn (F 72 - 1) (n := 1) (m := 1) rfl (by omega) (by omega)
      omega
    rw [if_neg (by rw [e]; decide), if_pos e]
    unfold mb_plainly_96 mb_plainly_106
    refine WP.ix (vp_in_iff.mpr ⟨by show 0 ≤ (F 72 - 1 - 1).toInt; omega, by show (F 72 - 1 - 1).toInt < _; omega⟩) (WP.ix (vp_in_iff.mpr ⟨by show 0 ≤ (F 72 - 1).toInt; omega, by show (F 72 - 1).toInt < _; omega⟩) ?_)
    refine WP.bind (ms_doing _ _ _ _ _) ?_
    rintro r _ _ ⟨rfl, rfl⟩
    dsimp only
    unfold mb_plainly_140
    refine WP.ix (vp_in_iff.mpr ⟨by show 0 ≤ (F 72 - 1 - 1).toInt; omega, by show (F 72 - 1 - 1).toInt < _; omega⟩) ?_
    exact WP.ret (Or.inr (Or.inl ⟨e, rfl, rfl, _, rfl⟩))
  · have e1 := d1 h
    have hix : vp_in (F 72 - 1) 280000 := vp_in_iff.mpr ⟨by omega, by omega⟩
    rcases e with e | e
    · rw [if_neg (by rw [e]; decide), if_neg (by rw [e]; decide), if_pos e]
      unfold mb_plainly_145
      refine WP.ix hix ?_
      refine WP.bind (ms_alone _ _ _ _) ?_
      rintro r _ _ ⟨rfl, rfl⟩
      dsimp only
      unfold mb_plainly_170
      refine WP.ix hix ?_
      exact WP.ret (Or.inr (Or.inr (Or.inl ⟨Or.inl e, rfl, rfl, _, rfl⟩)))
    · have : WP (mb_plainly_175 fu x1 F G) (fun r F1 G1 => plQ x1 F G r F1 G1) := by
        unfold mb_plainly_175
        refine WP.ix hix (WP.ite (fun _ => ?_) (fun _ => ?_))
        · unfold mb_plainly_203 mb_plainly_204
          exact WP.ix hix (WP.ret (Or.inr (Or.inr (Or.inl ⟨Or.inr e, rfl, rfl, _, rfl⟩))))
        · unfold mb_plainly_199 mb_plainly_204
          exact WP.ix hix (WP.ret (Or.inr (Or.inr (Or.inl ⟨Or.inr e, rfl, rfl, _, rfl⟩))))
      simp only [e]
      exact this
  · have : WP (mb_plainly_209 fu (G 57 x1.toNatClampNeg) F G) (fun r F1 G1 => plQ x1 F G r F1 G1) := WP.ret (Or.inr (Or.inr (Or.inr (Or.inl ⟨e, rfl, rfl, rfl⟩))))
    simp only [e]
    exact this
  · have e1 := d1 h
    have hix : vp_in (F 72 - 1) 280000 := vp_in_iff.mpr ⟨by omega, by omega⟩
    rcases e with e | e
    · have : WP (mb_plainly_241 fu x1 (G 57 x1.toNatClampNeg) F G) (fun r F1 G1 => plQ x1 F G r F1 G1) := by
        unfold mb_plainly_241 mb_plainly_251
        refine WP.ix (show vp_in (F 72 - 1) 280000 from hix) (WP.ite (fun _ => ?_) (fun _ => ?_))
        · exact WP.ret (Or.inr (Or.inr (Or.inr (Or.inr ⟨Or.inl e, Or.inl rfl, rfl, rfl⟩))))
        · exact WP.ret (Or.inr (Or.inr (Or.inr (Or.inr ⟨Or.inl e, Or.inr rfl, rfl, rfl⟩))))
      simp only [e]
      exact this
    · have : WP (mb_plainly_211 fu x1 (G 57 x1.toNatClampNeg) F G) (fun r F1 G1 => plQ x1 F G r F1 G1) := by
        unfold mb_plainly_211 mb_plainly_221
        refine WP.ix (show vp_in (F 72 - 1) 280000 from hix) (WP.ite (fun _ => ?_) (fun _ => ?_))
        · exact WP.ret (Or.inr (Or.inr (Or.inr (Or.inr ⟨Or.inr e, Or.inr rfl, rfl, rfl⟩))))
        · exact WP.ret (Or.inr (Or.inr (Or.inr (Or.inr ⟨Or.inr e, Or.inl rfl, rfl, rfl⟩))))
      simp only [e]
      exact this
