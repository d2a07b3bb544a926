/-- a constant's code is done to its end -/
theorem ms_reckon {fu : Nat} (hfu : 8589934592 ≤ fu) {X : TX} {F0 F : PF} {G0 G : PG} {A : AN} {d : Nat} (hE : EX X F0 G0 A F G [0] d []) (hA : A (sN F0) = ([], d, false)) (hm : X.1 = true) (h0 : 0 ≤ (F0 60).toInt) (h9 : 0 ≤ (F 60).toInt ∧ (F 60).toInt ≤ 9000) : WP (mf_reckon fu (F0 60) F G) (fun _ F1 G1 => KX [72] [71] F G F1 G1) := by
  obtain ⟨A1, -, a1, a2, a3, a4, -, -, a6⟩ := hE
  have fm : ¬ X.1 = false := by rw [hm]; decide
  have eF : (sN F : Int) = (F 60).toInt := by show ((F 60).toInt.toNat : Int) = _; omega
  have loop : ∀ (n : Nat) (x2 : Int32) (F1 : PF) (G1 : PG), KX [72] [71] F G F1 G1 → 0 ≤ x2.toInt → (sN F0 : Int) ≤ x2.toInt → x2.toInt ≤ (sN F : Int) → (F1 72).toInt = ((A1 x2.toInt.toNat).1.length : Int) → ((sN F : Int) - x2.toInt).toNat < n → WP (ml_reckon_7 fu n x2 F1 G1) (fun _ F1 G1 => KX [72] [71] F G F1 G1) := by
    intro n
    induction n with
    | zero => intro x2 F1 G1 _ _ _ _ _ hn; exact absurd hn (Nat.not_lt_zero _)
    | succ n ih =>
      intro x2 F1 G1 hK p0 p1 p2 ht hn
      show WP (mb_reckon_7 fu (ml_reckon_7 fu n) x2 F1 G1) _
      unfold mb_reckon_7
      have e60 : F1 60 = F 60 := hK.1 60 rfl
      have e56 : G1 56 = G 56 := hK.2 56 rfl
      have e57 : G1 57 = G 57 := hK.2 57 rfl
      refine WP.ite (fun c => ?_) (fun c => ?_)
      · unfold mb_reckon_24
        exact WP.ix (vp_in_iff.mpr ⟨by decide, by decide⟩) (WP.ret hK)
      · have c1 : x2.toInt < (F 60).toInt := by
          have q := mt i_le.mpr c
          rw [e60] at q
          omega
        unfold mb_reckon_15
        have ek : x2.toNatClampNeg = x2.toInt.toNat := rfl
        have hk : x2.toInt.toNat < sN F := by omega
        rcases a6 x2.toInt.toNat (by omega) hk with tt | ⟨x, hx, -⟩
        · obtain ⟨l6, tt⟩ := tt
          have inc : (x2 + 1).toInt = x2.toInt + 1 := i_addn x2 rfl (by omega) (by omega)
          have incn : (x2 + 1).toInt.toNat = x2.toInt.toNat + 1 := by omega
          have hix : vp_in x2 9000 := vp_in_iff.mpr ⟨p0, by omega⟩
          have htr : 0 ≤ (F1 72).toInt ∧ (F1 72).toInt < 280000 := by rw [ht]; omega
          -- going on to the next
          have next : ∀ (F2 : PF) (G2 : PG) (s1 : SH), KX [72] [71] F G F2 G2 → jp X A1 (sN F) x2.toInt.toNat (x2.toInt.toNat + 1) s1 → (F2 72).toInt = (s1.length : Int) → WP (ml_reckon_7 fu n (x2 + 1) F2 G2) (fun _ F1 G1 => KX [72] [71] F G F1 G1) := by
            intro F2 G2 s1 k2 hj h2
            refine ih (x2 + 1) F2 G2 k2 (by omega) (by omega) (by have := hj.1; omega) ?_ (by omega)
            rw [incn, hj.2.1]
            exact h2
          have leap : ∀ (F2 : PF) (G2 : PG) (s1 : SH) (a : Int32), KX [72] [71] F G F2 G2 → 0 ≤ a.toInt → jp X A1 (sN F) x2.toInt.toNat a.toInt.toNat s1 → (F2 72).toInt = (s1.length : Int) → WP (ml_reckon_7 fu n a F2 G2) (fun _ F1 G1 => KX [72] [71] F G F1 G1) := by
            intro F2 G2 s1 a k2 ha hj h2
            have hr : x2.toInt.toNat < a.toInt.toNat := by
              rcases hj.2.2.2 with q | q
              · exact absurd q.2 fm
              · exact q.2
            refine ih a F2 G2 k2 ha (by omega) (by have := hj.1; omega) ?_ (by omega)
            rw [hj.2.1]
            exact h2
          have upK : ∀ (v : Int32) (y : Int32) (i : Nat), KX [72] [71] F G (fup F1 72 v) (gup G1 71 i y) := fun v y i => KX.f rfl (KX.g rfl hK)
          have upG : ∀ (y : Int32) (i : Nat), KX [72] [71] F G F1 (gup G1 71 i y) := fun y i => KX.g rfl hK
          have upF : ∀ (v : Int32), KX [72] [71] F G (fup F1 72 v) G1 := fun v => KX.f rfl hK
          rcases tt with ⟨s1, ho, hj⟩ | ⟨hw, ha, hj⟩ | ⟨hw, s0, hs, ha, hj, hj1⟩ | ⟨q, -⟩
          · rcases ho with ⟨hw, rfl⟩ | ⟨hw, s0, hs, rfl⟩ | ⟨hw, s0, hs, rfl⟩ | ⟨hw, s0, hs, rfl⟩ | ⟨q, -⟩
            · have hw1 : G1 56 x2.toNatClampNeg = 0 := by rw [e56]; exact hw
              refine WP.bind (ms_plainly x2 F1 G1 hix htr (Or.inl hw1)) ?_
              rintro r F2 G2 (⟨-, rfl, rfl, v, rfl⟩ | ⟨q, -⟩ | ⟨q, -⟩ | ⟨q, -⟩ | ⟨q, -⟩)
              · dsimp only
                unfold mb_reckon_20
                refine next _ _ _ (upK _ _ _) hj ?_
                show (F1 72 + 1).toInt = ((A1 x2.toInt.toNat).1.length + 1 : Nat)
                have := i_addn (F1 72) (n := 1) (m := 1) rfl (by omega) (by omega)
                omega
              · rw [hw1] at q; exact absurd q (by decide)
              · rw [hw1] at q; exact absurd q (by decide)
              · rw [hw1] at q; exact absurd q (by decide)
              · rw [hw1] at q; exact absurd q (by decide)
            · have hw1 : G1 56 x2.toNatClampNeg = 10 := by rw [e56]; exact hw
              have l2 : (F1 72).toInt = (s0.length : Int) + 2 := by rw [ht, hs]; show ((s0.length + 1 + 1 : Nat) : Int) = _; omega
              refine WP.bind (ms_plainly x2 F1 G1 hix htr (Or.inr (Or.inl ⟨hw1, by omega⟩))) ?_
              rintro r F2 G2 (⟨q, -⟩ | ⟨-, rfl, rfl, v, rfl⟩ | ⟨q, -⟩ | ⟨q, -⟩ | ⟨q, -⟩)
              · rw [hw1] at q; exact absurd q (by decide)
              · dsimp only
                unfold mb_reckon_20
                refine next _ _ _ (upK _ _ _) hj ?_
                show (F1 72 - 1).toInt = (s0.length + 1 : Nat)
                have := i_subn (F1 72) (n := 1) (m := 1) rfl (by omega) (by omega)
                omega
              · rw [hw1] at q; exact absurd q (by decide)
              · rw [hw1] at q; exact absurd q (by decide)
              · rw [hw1] at q; exact absurd q (by decide)
            · have hw1 : G1 56 x2.toNatClampNeg = 11 := by rw [e56]; exact hw
              have l2 : (F1 72).toInt = (s0.length : Int) + 1 := by rw [ht, hs]; show ((s0.length + 1 : Nat) : Int) = _; omega
              refine WP.bind (ms_plainly x2 F1 G1 hix htr (Or.inr (Or.inr (Or.inl ⟨Or.inl hw1, by omega⟩)))) ?_
              rintro r F2 G2 (⟨q, -⟩ | ⟨q, -⟩ | ⟨-, rfl, rfl, v, rfl⟩ | ⟨q, -⟩ | ⟨q, -⟩)
              · rw [hw1] at q; exact absurd q (by decide)
              · rw [hw1] at q; exact absurd q (by decide)
              · dsimp only
                unfold mb_reckon_20
                refine next _ _ _ (upG _ _) hj ?_
                show _ = ((s0.length + 1 : Nat) : Int)
                omega
              · rw [hw1] at q; exact absurd q (by decide)
              · rw [hw1] at q; exact absurd q (by decide)
            · have hw1 : G1 56 x2.toNatClampNeg = 23 := by rw [e56]; exact hw
              have l2 : (F1 72).toInt = (s0.length : Int) + 1 := by rw [ht, hs]; show ((s0.length + 1 : Nat) : Int) = _; omega
              refine WP.bind (ms_plainly x2 F1 G1 hix htr (Or.inr (Or.inr (Or.inl ⟨Or.inr hw1, by omega⟩)))) ?_
              rintro r F2 G2 (⟨q, -⟩ | ⟨q, -⟩ | ⟨-, rfl, rfl, v, rfl⟩ | ⟨q, -⟩ | ⟨q, -⟩)
              · rw [hw1] at q; exact absurd q (by decide)
              · rw [hw1] at q; exact absurd q (by decide)
              · dsimp only
                unfold mb_reckon_20
                refine next _ _ _ (upG _ _) hj ?_
                show _ = ((s0.length + 1 : Nat) : Int)
                omega
              · rw [hw1] at q; exact absurd q (by decide)
              · rw [hw1] at q; exact absurd q (by decide)
            · exact absurd q fm
          · have hw1 : G1 56 x2.toNatClampNeg = 12 := by rw [e56]; exact hw
            refine WP.bind (ms_plainly x2 F1 G1 hix htr (Or.inr (Or.inr (Or.inr (Or.inl hw1))))) ?_
            rintro r F2 G2 (⟨q, -⟩ | ⟨q, -⟩ | ⟨q, -⟩ | ⟨-, rfl, rfl, rfl⟩ | ⟨q, -⟩)
            · rw [hw1] at q; exact absurd q (by decide)
            · rw [hw1] at q; exact absurd q (by decide)
            · rw [hw1] at q; exact absurd q (by decide)
            · dsimp only
              unfold mb_reckon_20
              rw [e57]
              exact leap _ _ _ _ hK ha hj ht
            · rw [hw1] at q; exact absurd q (by decide)
          · have hw1 : G1 56 x2.toNatClampNeg = 13 ∨ G1 56 x2.toNatClampNeg = 14 := by rw [e56]; exact hw
            have l2 : (F1 72).toInt = (s0.length : Int) + 1 := by rw [ht, hs]; show ((s0.length + 1 : Nat) : Int) = _; omega
            have l3 : (F1 72 - 1).toInt = (s0.length : Int) := by
              have := i_subn (F1 72) (n := 1) (m := 1) rfl (by omega) (by omega)
              omega
            refine WP.bind (ms_plainly x2 F1 G1 hix htr (Or.inr (Or.inr (Or.inr (Or.inr ⟨hw1, by omega⟩))))) ?_
            rintro r F2 G2 (⟨q, -⟩ | ⟨q, -⟩ | ⟨q, -⟩ | ⟨q, -⟩ | ⟨-, (rfl | rfl), rfl, rfl⟩)
            · rcases hw1 with e | e <;> rw [e] at q <;> exact absurd q (by decide)
            · rcases hw1 with e | e <;> rw [e] at q <;> exact absurd q (by decide)
            · rcases hw1 with e | e <;> rw [e] at q <;> exact absurd q (by decide)
            · rcases hw1 with e | e <;> rw [e] at q <;> exact absurd q (by decide)
            · dsimp only
              unfold mb_reckon_20
              rw [e57]
              exact leap _ _ _ _ (upF _) ha hj l3
            · dsimp only
              unfold mb_reckon_20
              exact next _ _ _ (upF _) hj1 l3
          · exact absurd q fm
        · exact nomatch hx
  unfold mf_reckon mb_reckon_0 mb_reckon_5
  have e0 : (sN F0 : Int) = (F0 60).toInt := by show ((F0 60).toInt.toNat : Int) = _; omega
  refine loop fu (F0 60) _ G (KX.f rfl KX.rf) h0 (by omega) (by omega) ?_ (by omega)
  show (0 : Int32).toInt = ((A1 (sN F0)).1.length : Int)
  rw [a2 _ (Nat.le_refl _), hA]
  rfl
