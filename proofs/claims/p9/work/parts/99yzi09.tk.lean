/-- a digit's value; HX: it is one of sixteen -/
def HX (c : Int32) : Prop := (48 ≤ c.toInt ∧ c.toInt ≤ 57) ∨ (97 ≤ c.toInt ∧ c.toInt ≤ 102) ∨ (65 ≤ c.toInt ∧ c.toInt ≤ 70)
def dv (c : Int32) : Int32 := if 48 ≤ c.toInt ∧ c.toInt ≤ 57 then c - 48 else if 97 ≤ c.toInt then (c - 97) + 10 else (c - 65) + 10
theorem dv_16 {c : Int32} (h : HX c) : 0 ≤ (dv c).toInt ∧ (dv c).toInt < 16 ∧ ((dv c).toInt < 10 ↔ DIG c) := by
  unfold dv
  unfold HX at h
  have r := i_rng c
  by_cases a : 48 ≤ c.toInt ∧ c.toInt ≤ 57
  · rw [if_pos a]
    have e : (c - 48).toInt = c.toInt - 48 := i_subn c rfl (by omega) (by omega)
    rw [e]
    exact ⟨by omega, by omega, fun _ => a, fun _ => by omega⟩
  · rw [if_neg a]
    by_cases d : 97 ≤ c.toInt
    · rw [if_pos d]
      have e : (c - 97).toInt = c.toInt - 97 := i_subn c rfl (by omega) (by omega)
      have e2 : ((c - 97) + 10).toInt = (c - 97).toInt + 10 := i_addn _ rfl (by omega) (by omega)
      rw [e2, e]
      exact ⟨by omega, by omega, fun z => by omega, fun z => absurd z a⟩
    · rw [if_neg d]
      have e : (c - 65).toInt = c.toInt - 65 := i_subn c rfl (by omega) (by omega)
      have e2 : ((c - 65) + 10).toInt = (c - 65).toInt + 10 := i_addn _ rfl (by omega) (by omega)
      rw [e2, e]
      exact ⟨by omega, by omega, fun z => by omega, fun z => absurd z a⟩
theorem cp_digitOf {fu : Nat} (c : Int32) (F : PF) (G : PG) : PP (cf_X10_digitOf fu c F G) (fun r F' G' => F = F' ∧ G = G' ∧ ((HX c ∧ r = dv c) ∨ (¬ HX c ∧ r = 16))) := by
  unfold cf_X10_digitOf cb_X10_digitOf_0
  refine PP.bind (cp_isDigit c F G) ?_
  rintro r _ _ ⟨rfl, rfl, q⟩
  dsimp only
  unfold cb_X10_digitOf_4 cb_X10_digitOf_7 cb_X10_digitOf_12 cb_X10_digitOf_18 cb_X10_digitOf_24 cb_X10_digitOf_32 cb_X10_digitOf_38 cb_X10_digitOf_44 cb_X10_digitOf_54 cb_X10_digitOf_56
  have e0 : (97 : Int32).toInt = 97 := rfl
  have e1 : (102 : Int32).toInt = 102 := rfl
  have e2 : (65 : Int32).toInt = 65 := rfl
  have e3 : (70 : Int32).toInt = 70 := rfl
  refine PP.ite (fun z => ?_) (fun z => PP.ret ⟨rfl, rfl, .inl ⟨?_, ?_⟩⟩)
  · have nd := q.z.mp z
    unfold DIG at nd
    have low : c.toInt < 97 → PP (if c < (65 : Int32) then some (16, F, G) else if (70 : Int32) < c then some (16, F, G) else some ((c - (65 : Int32)) + (10 : Int32), F, G)) (fun r F' G' => F = F' ∧ G = G' ∧ ((HX c ∧ r = dv c) ∨ (¬ HX c ∧ r = 16))) := by
      intro l
      refine PP.ite (fun y => PP.ret ⟨rfl, rfl, .inr ⟨fun w => ?_, rfl⟩⟩) (fun y => PP.ite (fun x => PP.ret ⟨rfl, rfl, .inr ⟨fun w => ?_, rfl⟩⟩) (fun x => PP.ret ⟨rfl, rfl, .inl ⟨.inr (.inr ⟨?_, ?_⟩), ?_⟩⟩))
      · have := i_lt.mp y
        unfold HX at w
        omega
      · have := i_lt.mp x
        unfold HX at w
        omega
      · have := mt i_lt.mpr y
        omega
      · have := mt i_lt.mpr x
        omega
      · unfold dv
        rw [if_neg (by omega), if_neg (by omega)]
    refine PP.ite (fun y => low ?_) (fun y => PP.ite (fun x => ?_) (fun x => PP.ret ⟨rfl, rfl, .inl ⟨.inr (.inl ⟨?_, ?_⟩), ?_⟩⟩))
    · have := i_lt.mp y
      omega
    · have x1 := i_lt.mp x
      have y1 := mt i_lt.mpr y
      refine PP.ite (fun y => PP.ret ⟨rfl, rfl, .inr ⟨fun w => ?_, rfl⟩⟩) (fun y => PP.ite (fun x => PP.ret ⟨rfl, rfl, .inr ⟨fun w => ?_, rfl⟩⟩) (fun x => ?_))
      · unfold HX at w
        omega
      · unfold HX at w
        omega
      · have := mt i_lt.mpr x
        omega
    · have := mt i_lt.mpr y
      omega
    · have := mt i_lt.mpr x
      omega
    · have := mt i_lt.mpr y
      unfold dv
      rw [if_neg nd, if_pos (by omega)]
  · exact .inl (Classical.byContradiction (fun w => z (q.z.mpr w)))
  · have d : DIG c := Classical.byContradiction (fun w => z (q.z.mpr w))
    unfold dv
    rw [if_pos (show 48 ≤ c.toInt ∧ c.toInt ≤ 57 from d)]
theorem mp_hex {fu : Nat} (c : Int32) (F : PF) (G : PG) : PP (mf_hex fu c F G) (fun r F' G' => F = F' ∧ G = G' ∧ ((HX c ∧ r = dv c) ∨ (¬ HX c ∧ r = 99))) := by
  unfold mf_hex mb_hex_0
  refine PP.bind (mp_isDigit c F G) ?_
  rintro r _ _ ⟨rfl, rfl, q⟩
  dsimp only
  unfold mb_hex_4 mb_hex_7 mb_hex_14 mb_hex_20 mb_hex_26 mb_hex_36 mb_hex_42 mb_hex_48 mb_hex_58 mb_hex_60
  have e0 : (97 : Int32).toInt = 97 := rfl
  have e1 : (102 : Int32).toInt = 102 := rfl
  have e2 : (65 : Int32).toInt = 65 := rfl
  have e3 : (70 : Int32).toInt = 70 := rfl
  refine PP.ite (fun z => ?_) (fun z => PP.ret ⟨rfl, rfl, .inl ⟨?_, ?_⟩⟩)
  · have nd := q.z.mp z
    unfold DIG at nd
    refine PP.ite (fun y => ?_) (fun y => PP.ite (fun x => ?_) (fun x => PP.ret ⟨rfl, rfl, .inl ⟨.inr (.inl ⟨?_, ?_⟩), ?_⟩⟩))
    · have l := i_lt.mp y
      refine PP.ite (fun y => PP.ret ⟨rfl, rfl, .inr ⟨fun w => ?_, rfl⟩⟩) (fun y => PP.ite (fun x => PP.ret ⟨rfl, rfl, .inr ⟨fun w => ?_, rfl⟩⟩) (fun x => PP.ret ⟨rfl, rfl, .inl ⟨.inr (.inr ⟨?_, ?_⟩), ?_⟩⟩))
      · have := i_lt.mp y
        unfold HX at w
        omega
      · have := i_lt.mp x
        unfold HX at w
        omega
      · have := mt i_lt.mpr y
        omega
      · have := mt i_lt.mpr x
        omega
      · unfold dv
        rw [if_neg nd, if_neg (by omega)]
    · have x1 := i_lt.mp x
      refine PP.ite (fun y => PP.ret ⟨rfl, rfl, .inr ⟨fun w => ?_, rfl⟩⟩) (fun y => PP.ite (fun x => PP.ret ⟨rfl, rfl, .inr ⟨fun w => ?_, rfl⟩⟩) (fun x => ?_))
      · unfold HX at w
        omega
      · unfold HX at w
        omega
      · have := mt i_lt.mpr x
        omega
    · have := mt i_lt.mpr y
      omega
    · have := mt i_lt.mpr x
      omega
    · have := mt i_lt.mpr y
      unfold dv
      rw [if_neg nd, if_pos (by omega)]
  · exact .inl (Classical.byContradiction (fun w => z (q.z.mpr w)))
  · have d : DIG c := Classical.byContradiction (fun w => z (q.z.mpr w))
    unfold dv
    rw [if_pos (show 48 ≤ c.toInt ∧ c.toInt ≤ 57 from d)]
