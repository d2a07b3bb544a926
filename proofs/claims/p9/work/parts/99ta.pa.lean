/-- the expressions end, in their room -/
theorem mzS1 {fu : Nat} (hfu : 8589934592 ≤ fu) : ∀ d : Nat, ZI (mS1 fu d) d := by
  intro d
  induction d with
  | zero =>
    intro i x y F G hi h0 _ hd
    have := h0.2.2.2.1
    have : 1 ≤ dS i := by
      unfold dS
      repeat' split
      all_goals decide
    omega
  | succ d ih =>
    intro i x y F G hi h0 hp hd
    have hd : 7 * (40 - (F 43).toInt) + dS i ≤ (d : Int) + 1 := by omega
    have : i = 0 ∨ i = 1 ∨ i = 2 ∨ i = 3 ∨ i = 4 ∨ i = 5 ∨ i = 6 ∨ i = 7 ∨ i = 8 := by omega
    rcases this with rfl | rfl | rfl | rfl | rfl | rfl | rfl | rfl | rfl
    · exact zt_argument hfu ih x y F G h0 hp hd
    · exact zt_call hfu ih x y F G h0 hp hd
    · exact zt_chain hfu ih (mcS1 d) F G h0 ⟨hp.1, hp.2.1, fun z => absurd z (by decide), fun z => absurd z (by decide), fun z => absurd z (by decide), fun z => absurd z (by decide)⟩ hd
    · exact zt_element ih x F G h0 ⟨hp.1, hp.2.1, fun z => absurd z (by decide), fun z => absurd z (by decide), fun z => absurd z (by decide), hp.2.2.2.2.2⟩ hd
    · exact zt_expression ih F G h0 ⟨hp.1, hp.2.1, fun z => absurd z (by decide), fun z => absurd z (by decide), fun z => absurd z (by decide), fun z => absurd z (by decide)⟩ hd
    · exact zt_inConstant hfu ih x F G h0 ⟨hp.1, hp.2.1, hp.2.2.1, hp.2.2.2.1, fun z => absurd z (by decide), fun z => absurd z (by decide)⟩ hd
    · exact zt_named hfu ih x F G h0 ⟨hp.1, hp.2.1, hp.2.2.1, fun z => absurd z (by decide), fun z => absurd z (by decide), fun z => absurd z (by decide)⟩ hd
    · exact zt_operand hfu ih F G h0 ⟨hp.1, hp.2.1, fun z => absurd z (by decide), fun z => absurd z (by decide), fun z => absurd z (by decide), fun z => absurd z (by decide)⟩ hd
    · exact zt_plain ih F G h0 ⟨hp.1, hp.2.1, fun z => absurd z (by decide), fun z => absurd z (by decide), fun z => absurd z (by decide), fun z => absurd z (by decide)⟩ hd
