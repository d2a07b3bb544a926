/-- the operands of a call -/
theorem jVs.arg {H : JHP} {L : Nat} {op st : Nat → Int32} : ∀ (Ks : List Nat) (s : SH) (y : Nat), (∀ x ∈ Ks, x ≤ 2) → jVs H L op st (jArg Ks s) y → (jsC (jFl Ks) = jsW (jFl Ks) ∧ jsC (jFl Ks) ≤ y ∧ (jArg Ks s).length = s.length + jsC (jFl Ks)) ∧ jVs H L op st s (y - jsC (jFl Ks)) ∧ ∀ (p o : Nat) (x : Nat × Nat), jAt (jFl Ks) p o x → x.1 ≤ 4 ∧ p = o ∧ (x.1 = 0 → op (y - jsC (jFl Ks) + p) = st (y - jsC (jFl Ks) + p)) ∧ ¬ x.1 = 1 ∧ ¬ x.1 = 2 ∧ (x.1 = 3 → jRf H L 1 (op (y - jsC (jFl Ks) + p)) (op (y - jsC (jFl Ks) + p + 1)) (st (y - jsC (jFl Ks) + p)) (st (y - jsC (jFl Ks) + p + 1))) ∧ (x.1 = 4 → jRf H L 2 (op (y - jsC (jFl Ks) + p)) (op (y - jsC (jFl Ks) + p + 1)) (st (y - jsC (jFl Ks) + p)) (st (y - jsC (jFl Ks) + p + 1))) := by
  intro Ks
  induction Ks with
  | nil =>
    intro s y _ h
    refine ⟨⟨rfl, Nat.zero_le _, rfl⟩, h, ?_⟩
    rintro p o x ⟨l1, l2, e, -⟩
    have e : ([] : JLY) = l1 ++ x :: l2 := e
    cases l1 <;> cases e
  | cons k Ks ih =>
    intro s y hk h
    obtain ⟨⟨a1, a2, a3⟩, a4, a5⟩ := ih (jPush k s) y (fun x hx => hk x (List.mem_cons_of_mem _ hx)) h
    have k2 := hk k (List.mem_cons_self ..)
    have fl : jFl (k :: Ks) = (if k = 0 then (0, 1) else (k + 2, 0)) :: jFl Ks := rfl
    -- the first FORMAL, and those behind it
    have cut : ∀ (p o : Nat) (x : Nat × Nat), jAt (jFl (k :: Ks)) p o x → (p = 0 ∧ o = 0 ∧ x = (if k = 0 then (0, 1) else (k + 2, 0))) ∨ ∃ p1 o1 : Nat, jAt (jFl Ks) p1 o1 x ∧ p = (if k = 0 then 1 else 2) + p1 ∧ o = (if k = 0 then 1 else 2) + o1 := by
      rintro p o x ⟨l1, l2, e, f, g⟩
      rw [fl] at e
      cases l1 with
      | nil =>
        have e := List.cons.inj e
        exact .inl ⟨f, g, e.1.symm⟩
      | cons z l1 =>
        have e := List.cons.inj e
        refine .inr ⟨jsC l1, jsW l1, ⟨l1, l2, e.2, rfl, rfl⟩, ?_, ?_⟩
        · rw [f]
          show joC z + jsC l1 = _
          rw [← e.1]
          split
          · rfl
          · rcases (show k = 1 ∨ k = 2 by omega) with w | w <;> rw [w] <;> rfl
        · rw [g]
          show joW z + jsW l1 = _
          rw [← e.1]
          split
          · rfl
          · rcases (show k = 1 ∨ k = 2 by omega) with w | w <;> rw [w] <;> rfl
    by_cases c : k = 0
    · subst c
      have s1 : jsC (jFl (0 :: Ks)) = 1 + jsC (jFl Ks) := rfl
      have s2 : jsW (jFl (0 :: Ks)) = 1 + jsW (jFl Ks) := rfl
      obtain ⟨b1, b2, b3, -⟩ : jVs H L op st (0 :: s) (y - jsC (jFl Ks)) := a4
      refine ⟨⟨by omega, by omega, ?_⟩, ?_, fun p o x hx => ?_⟩
      · show (jArg Ks (jPush 0 s)).length = _
        rw [a3]
        show s.length + 1 + _ = _
        omega
      · rw [s1, show y - (1 + jsC (jFl Ks)) = y - jsC (jFl Ks) - 1 by omega]
        exact b2
      · rw [s1]
        rcases cut p o x hx with ⟨c1, c2, c3⟩ | ⟨p1, o1, c1, c2, c3⟩
        · rw [c3, c1, c2]
          refine ⟨by decide, rfl, fun _ => ?_, by decide, by decide, fun z => absurd z (by decide), fun z => absurd z (by decide)⟩
          have := b3 rfl
          rw [show y - (1 + jsC (jFl Ks)) + 0 = y - jsC (jFl Ks) - 1 by omega]
          exact this
        · rw [if_pos rfl] at c2 c3
          obtain ⟨d1, d2, d3⟩ := a5 p1 o1 x c1
          rw [show y - (1 + jsC (jFl Ks)) + p = y - jsC (jFl Ks) + p1 by omega]
          exact ⟨d1, by omega, d3⟩
    · have s1 : jsC (jFl (k :: Ks)) = 2 + jsC (jFl Ks) := by rcases (show k = 1 ∨ k = 2 by omega) with w | w <;> rw [w] <;> rfl
      have s2 : jsW (jFl (k :: Ks)) = 2 + jsW (jFl Ks) := by rcases (show k = 1 ∨ k = 2 by omega) with w | w <;> rw [w] <;> rfl
      have ln : (jPush k s).length = s.length + 2 := by rcases (show k = 1 ∨ k = 2 by omega) with w | w <;> rw [w] <;> rfl
      have pr : 2 ≤ y - jsC (jFl Ks) ∧ jVs H L op st s (y - jsC (jFl Ks) - 2) ∧ jRf H L k (op (y - jsC (jFl Ks) - 2)) (op (y - jsC (jFl Ks) - 1)) (st (y - jsC (jFl Ks) - 2)) (st (y - jsC (jFl Ks) - 1)) := by
        rcases (show k = 1 ∨ k = 2 by omega) with w | w <;> subst w
        · obtain ⟨b1, ⟨b2, b3, -⟩, -, -, -, b4, -⟩ : jVs H L op st (4 :: 3 :: s) (y - jsC (jFl Ks)) := a4
          exact ⟨by omega, b3, b4 rfl⟩
        · obtain ⟨b1, ⟨b2, b3, -⟩, -, -, -, -, b4⟩ : jVs H L op st (6 :: 5 :: s) (y - jsC (jFl Ks)) := a4
          exact ⟨by omega, b3, b4 rfl⟩
      obtain ⟨b1, b2, b3⟩ := pr
      refine ⟨⟨by omega, by omega, ?_⟩, ?_, fun p o x hx => ?_⟩
      · show (jArg Ks (jPush k s)).length = _
        rw [a3, ln]
        omega
      · rw [s1, show y - (2 + jsC (jFl Ks)) = y - jsC (jFl Ks) - 2 by omega]
        exact b2
      · rw [s1]
        rcases cut p o x hx with ⟨c1, c2, c3⟩ | ⟨p1, o1, c1, c2, c3⟩
        · rw [c3, c1, c2, if_neg c, show y - (2 + jsC (jFl Ks)) + 0 + 1 = y - jsC (jFl Ks) - 1 by omega, show y - (2 + jsC (jFl Ks)) + 0 = y - jsC (jFl Ks) - 2 by omega]
          refine ⟨by show k + 2 ≤ 4; omega, rfl, fun z => ?_, fun z => ?_, fun z => ?_, fun z => ?_, fun z => ?_⟩
          · have z : k + 2 = 0 := z
            omega
          · have z : k + 2 = 1 := z
            omega
          · have z : k + 2 = 2 := z
            omega
          · have z : k + 2 = 3 := z
            have e : k = 1 := by omega
            rw [e] at b3
            exact b3
          · have z : k + 2 = 4 := z
            have e : k = 2 := by omega
            rw [e] at b3
            exact b3
        · rw [if_neg c] at c2 c3
          obtain ⟨d1, d2, d3⟩ := a5 p1 o1 x c1
          rw [show y - (2 + jsC (jFl Ks)) + p = y - jsC (jFl Ks) + p1 by omega]
          exact ⟨d1, by omega, d3⟩
