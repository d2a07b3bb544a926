theorem jAt.cov : ∀ (gl : JLY) (w : Nat), w < jsW gl → ∃ (p o : Nat) (x : Nat × Nat) (i : Nat), jAt gl p o x ∧ i < joW x ∧ w = o + i := by
  intro gl
  induction gl with
  | nil => intro w h; exact absurd h (Nat.not_lt_zero _)
  | cons y l ih =>
    intro w h
    have e : jsW (y :: l) = joW y + jsW l := rfl
    by_cases c : w < joW y
    · exact ⟨0, 0, y, w, ⟨[], l, rfl, rfl, rfl⟩, c, by omega⟩
    · obtain ⟨p, o, x, i, h1, h2, h3⟩ := ih (w - joW y) (by omega)
      have e1 : jsW [y] = joW y + 0 := rfl
      exact ⟨_, _, x, i, jAt.rt [y] h1, h2, by omega⟩
/-- the reference puts k bytes together, the last first -/
def jCy (ce : Nat → Int32) (q : Nat) : Nat → Int32 → Int32
  | 0, v => v
  | k + 1, v => jCy ce q k ((v <<< ((8 : Int32) &&& 31)) ||| (ce (q + k) &&& 255))
section JQQ
variable {fu : Nat} {x : Int32} {F : PF} {G : PG}
theorem mg_one {q : Nat} (m : Nat) (v : Int32) (h40 : G 40 x.toNatClampNeg = 0) (h39 : G 39 x.toNatClampNeg = nI q) (hq : q < 8000) : PP (ml_global_32 fu (m + 2) x v 0 F G) (fun r _ _ => r = (if F 75 = 0 then G 41 else G 90) q) := by
  have fin : ∀ z : Int32, PP (mb_global_72 fu (ml_global_32 fu (m + 1)) x v 0 z F G) (fun r _ _ => r = z) := by
    intro z
    unfold mb_global_72
    refine PP.ix (fun _ => ?_)
    rw [if_pos h40]
    unfold mb_global_97 mb_global_99
    show PP (mb_global_32 fu (ml_global_32 fu m) x z (0 + -1) F G) _
    unfold mb_global_32 mb_global_106
    rw [if_pos (show (0 : Int32) + -1 < 0 by decide)]
    exact PP.ret rfl
  have eq : (nI q + 0).toNatClampNeg = q := by
    rw [show nI q + 0 = nI q from by rw [show (0 : Int32) = nI 0 from rfl, nI_add, Nat.add_zero]]
    exact nI_c q (by omega)
  show PP (mb_global_32 fu (ml_global_32 fu (m + 1)) x v 0 F G) _
  unfold mb_global_32
  rw [if_neg (show ¬ (0 : Int32) < 0 by decide)]
  unfold mb_global_36
  by_cases c : F 75 = 0
  · rw [if_pos c, if_pos c]
    unfold mb_global_43
    refine PP.ix (fun _ => PP.ix (fun _ => ?_))
    rw [h39, eq]
    exact fin _
  · rw [if_neg c, if_neg c]
    unfold mb_global_59
    refine PP.ix (fun _ => PP.ix (fun _ => ?_))
    rw [h39, eq]
    exact fin _
theorem mg_by {q : Nat} (h40 : ¬ G 40 x.toNatClampNeg = 0) (h39 : G 39 x.toNatClampNeg = nI q) (hq : q < 8000) : ∀ (k m : Nat) (v : Int32), k ≤ 4 → PP (ml_global_32 fu (m + k + 1) x v (nI k - 1) F G) (fun r _ _ => r = jCy (if F 75 = 0 then G 41 else G 90) q k v) := by
  intro k
  induction k with
  | zero =>
    intro m v _
    show PP (mb_global_32 fu (ml_global_32 fu m) x v (nI 0 - 1) F G) _
    unfold mb_global_32 mb_global_106
    rw [if_pos (show nI 0 - 1 < 0 by decide)]
    exact PP.ret rfl
  | succ k ih =>
    intro m v k4
    have e1 : nI (k + 1) - 1 = nI k ∧ nI k + -1 = nI k - 1 ∧ ¬ nI k < 0 := by
      rcases (show k = 0 ∨ k = 1 ∨ k = 2 ∨ k = 3 by omega) with e | e | e | e <;> subst e <;> decide
    obtain ⟨e1, e2, e3⟩ := e1
    have eq : (nI q + nI k).toNatClampNeg = q + k := by
      rw [nI_add]
      exact nI_c _ (by omega)
    have fin : ∀ z : Int32, z = (if F 75 = 0 then G 41 else G 90) (q + k) → PP (mb_global_72 fu (ml_global_32 fu (m + k + 1)) x v (nI k) z F G) (fun r _ _ => r = jCy (if F 75 = 0 then G 41 else G 90) q (k + 1) v) := by
      intro z hz
      unfold mb_global_72
      refine PP.ix (fun _ => ?_)
      rw [if_neg h40]
      unfold mb_global_83 mb_global_99
      rw [e2, hz]
      exact ih m _ (by omega)
    rw [e1]
    show PP (mb_global_32 fu (ml_global_32 fu (m + k + 1)) x v (nI k) F G) _
    unfold mb_global_32
    rw [if_neg e3]
    unfold mb_global_36
    by_cases c : F 75 = 0
    · rw [if_pos c]
      unfold mb_global_43
      refine PP.ix (fun _ => PP.ix (fun _ => ?_))
      rw [h39, eq]
      exact fin _ (by rw [if_pos c])
    · rw [if_neg c]
      unfold mb_global_59
      refine PP.ix (fun _ => PP.ix (fun _ => ?_))
      rw [h39, eq]
      exact fin _ (by rw [if_neg c])
end JQQ
