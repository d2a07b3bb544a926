def mnR (F : PF) (r : Int32) : Prop := r = -1 ∨ (0 ≤ r.toInt ∧ r.toInt < (F 14).toInt)
def mnF (F F' : PF) : Prop := F' 62 = -1 ∨ (0 ≤ (F' 62).toInt ∧ (F' 62).toInt < (F 24).toInt)
theorem i_dec {x : Int32} (h : 0 ≤ x.toInt) : (x - 1).toInt = x.toInt - 1 := by
  have := i_rng x
  exact i_subn x rfl (by omega) (by omega)
theorem i_decn {x : Int32} (h : 0 ≤ x.toInt) : (x + (-1)).toInt = x.toInt - 1 := by
  have := i_rng x
  exact i_addn x (m := -1) rfl (by omega) (by omega)
theorem i_ge0 {x : Int32} (h : ¬ x < (0 : Int32)) : 0 ≤ x.toInt := by
  have := mt i_lt.mpr h
  have l : (0 : Int32).toInt = 0 := rfl
  omega
theorem mp_meaning {fu : Nat} (x1 : Int32) (F : PF) (G : PG) (h14 : 0 ≤ (F 14).toInt) (h24 : 0 ≤ (F 24).toInt) : PP (mf_meaning fu x1 F G) (fun r F' G' => G = G' ∧ KX [62] [] F G F' G' ∧ mnR F r ∧ mnF F F') := by
  have h154 : ∀ (x3 : Int32) (F1 : PF), KX [62] [] F G F1 G → mnR F x3 → mnF F F1 → PP (mb_meaning_154 fu x3 F1 G) (fun r F' G' => G = G' ∧ KX [62] [] F G F' G' ∧ mnR F r ∧ mnF F F') := by
    intro x3 F1 hK hx hF
    unfold mb_meaning_154
    exact PP.ite (fun _ => PP.ret ⟨rfl, hK, hx, hF⟩) (fun _ => PP.ret ⟨rfl, hK, Or.inl rfl, hF⟩)
  have h118 : ∀ (x3 : Int32) (F1 : PF), KX [62] [] F G F1 G → mnR F x3 → mnF F F1 → PP (mb_meaning_118 fu x3 F1 G) (fun r F' G' => G = G' ∧ KX [62] [] F G F' G' ∧ mnR F r ∧ mnF F F') := by
    intro x3 F1 hK hx hF
    unfold mb_meaning_118
    refine PP.ite (fun _ => h154 x3 F1 hK hx hF) (fun _ => ?_)
    unfold mb_meaning_123
    refine PP.ite (fun _ => h154 x3 F1 hK hx hF) (fun _ => ?_)
    unfold mb_meaning_131
    refine PP.ix (fun _ => PP.ix (fun _ => PP.ite (fun _ => h154 x3 F1 hK hx hF) (fun _ => ?_)))
    unfold mb_meaning_149
    exact h154 x3 _ (KX.f rfl hK) hx (Or.inl rfl)
  have h85 : ∀ (n : Nat) (x3 x4 : Int32) (F1 : PF), KX [62] [] F G F1 G → mnR F x3 → mnF F F1 → x4.toInt < (F 24).toInt → PP (ml_meaning_85 fu n x1 x3 x4 F1 G) (fun r F' G' => G = G' ∧ KX [62] [] F G F' G' ∧ mnR F r ∧ mnF F F') := by
    intro n
    induction n with
    | zero => intro x3 x4 F1 hK hx hF h4; exact PP.no
    | succ n ih =>
      intro x3 x4 F1 hK hx hF h4
      show PP (mb_meaning_85 fu (ml_meaning_85 fu n) x1 x3 x4 F1 G) _
      unfold mb_meaning_85
      refine PP.ite (fun _ => h118 x3 F1 hK hx hF) (fun c => ?_)
      have c0 := i_ge0 c
      have e := i_decn c0
      unfold mb_meaning_90
      refine PP.ix (fun _ => PP.ix (fun _ => PP.ite (fun _ => ?_) (fun _ => ?_)))
      · unfold mb_meaning_106 mb_meaning_112
        exact ih x3 (x4 + (-1)) _ (KX.f rfl hK) hx (Or.inr ⟨c0, h4⟩) (by rw [e]; omega)
      · unfold mb_meaning_112
        exact ih x3 (x4 + (-1)) F1 hK hx hF (by rw [e]; omega)
  have h77 : ∀ (x3 : Int32) (F1 : PF), KX [62] [] F G F1 G → mnR F x3 → mnF F F1 → PP (mb_meaning_77 fu x1 x3 F1 G) (fun r F' G' => G = G' ∧ KX [62] [] F G F' G' ∧ mnR F r ∧ mnF F F') := by
    intro x3 F1 hK hx hF
    unfold mb_meaning_77
    refine h85 fu x3 _ F1 hK hx hF ?_
    have e24 : F1 24 = F 24 := hK.1 24 rfl
    rw [e24, i_dec h24]
    omega
  have h61 : ∀ (x3 : Int32) (F1 : PF), KX [62] [] F G F1 G → mnR F x3 → mnF F F1 → PP (mb_meaning_61 fu x1 x3 F1 G) (fun r F' G' => G = G' ∧ KX [62] [] F G F' G' ∧ mnR F r ∧ mnF F F') := by
    intro x3 F1 hK hx hF
    unfold mb_meaning_61
    refine PP.ite (fun _ => h77 x3 F1 hK hx hF) (fun _ => ?_)
    unfold mb_meaning_66
    exact PP.ix (fun _ => PP.ite (fun _ => h77 x3 F1 hK hx hF) (fun _ => PP.ret ⟨rfl, hK, hx, hF⟩))
  have h14l : ∀ (n : Nat) (x2 x3 : Int32) (F1 : PF), KX [62] [] F G F1 G → mnR F x3 → mnF F F1 → x2.toInt < (F 14).toInt → PP (ml_meaning_14 fu n x1 x2 x3 F1 G) (fun r F' G' => G = G' ∧ KX [62] [] F G F' G' ∧ mnR F r ∧ mnF F F') := by
    intro n
    induction n with
    | zero => intro x2 x3 F1 hK hx hF h4; exact PP.no
    | succ n ih =>
      intro x2 x3 F1 hK hx hF h4
      show PP (mb_meaning_14 fu (ml_meaning_14 fu n) x1 x2 x3 F1 G) _
      unfold mb_meaning_14
      refine PP.ite (fun _ => h61 x3 F1 hK hx hF) (fun c => ?_)
      have c0 := i_ge0 c
      have e := i_decn c0
      have h38 : PP (mb_meaning_38 fu (ml_meaning_14 fu n) x1 x2 x3 F1 G) (fun r F' G' => G = G' ∧ KX [62] [] F G F' G' ∧ mnR F r ∧ mnF F F') := by
        unfold mb_meaning_38
        refine PP.ix (fun _ => PP.ix (fun _ => PP.ite (fun _ => ?_) (fun _ => ?_)))
        · unfold mb_meaning_53 mb_meaning_55
          exact ih (x2 + (-1)) x2 F1 hK (Or.inr ⟨c0, h4⟩) hF (by rw [e]; omega)
        · unfold mb_meaning_55
          exact ih (x2 + (-1)) x3 F1 hK hx hF (by rw [e]; omega)
      unfold mb_meaning_18
      refine PP.ite (fun _ => h38) (fun _ => ?_)
      unfold mb_meaning_23
      exact PP.ix (fun _ => PP.ix (fun _ => PP.ite (fun _ => h38) (fun _ => h61 x3 F1 hK hx hF)))
  unfold mf_meaning mb_meaning_0 mb_meaning_5
  refine h14l fu _ (-1) _ (KX.f rfl KX.rf) (Or.inl rfl) (Or.inl rfl) ?_
  show (F 14 - 1).toInt < _
  rw [i_dec h14]
  omega
