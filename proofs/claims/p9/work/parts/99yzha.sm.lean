theorem and3_le {x : Int32} (h : x &&& 3 = 0) (h1 : x.toInt < 16384) : x.toInt ≤ 16380 := by
  rcases Int.lt_or_le 16380 x.toInt with q | q
  · exfalso
    rcases (show x.toInt = 16381 ∨ x.toInt = 16382 ∨ x.toInt = 16383 by omega) with e | e | e
    · have e2 : x = 16381 := i_eq.mpr (e.trans rfl)
      subst e2
      exact absurd h (by decide)
    · have e2 : x = 16382 := i_eq.mpr (e.trans rfl)
      subst e2
      exact absurd h (by decide)
    · have e2 : x = 16383 := i_eq.mpr (e.trans rfl)
      subst e2
      exact absurd h (by decide)
  · exact q
theorem pp_hold {fu : Nat} (x1 x2 : Int32) (F : PF) (G : PG) : PP (cf_X0_hold fu x1 x2 F G) (fun r _ _ => (r = 1 ∧ x1 &&& 3 = 0 ∧ 0 ≤ x1.toInt ∧ x1.toInt < 16384) ∨ (r = 0 ∧ ¬ (x1 &&& 3 = 0 ∧ 0 ≤ x1.toInt ∧ x1.toInt < 16384))) := by
  unfold cf_X0_hold cb_X0_hold_0 cb_X0_hold_4 cb_X0_hold_11 cb_X0_hold_19 cb_X0_hold_28 cb_X0_hold_17
  have e0 : (0 : Int32).toInt = 0 := rfl
  have e1 : (16384 : Int32).toInt = 16384 := rfl
  refine PP.ite (fun c => PP.ret (.inr ⟨rfl, fun q => ?_⟩)) (fun c => PP.ite (fun d => PP.ret (.inr ⟨rfl, fun q => ?_⟩)) (fun d => PP.ite (fun a => PP.ix (fun _ => PP.ret (.inl ⟨rfl, a, ?_, ?_⟩))) (fun a => PP.ret (.inr ⟨rfl, fun q => a q.1⟩))))
  · have := i_lt.mp c
    omega
  · have := i_le.mp d
    omega
  · have := mt i_lt.mpr c
    omega
  · have := mt i_le.mpr d
    omega
theorem pp_xput {fu : Nat} (x1 x2 : Int32) (F : PF) (G : PG) : PP (cf_X11_put fu x1 x2 F G) (fun r _ _ => (r = 1 ∧ x1 &&& 3 = 0 ∧ 0 ≤ x1.toInt ∧ x1.toInt < 16384) ∨ (r = 0 ∧ ¬ (x1 &&& 3 = 0 ∧ 0 ≤ x1.toInt ∧ x1.toInt < 16384))) := by
  unfold cf_X11_put cb_X11_put_0 cb_X11_put_9
  exact PP.bind (pp_hold x1 x2 F G) (fun r F G q => PP.bz (fun _ => PP.ret q))
theorem pp_put {fu : Nat} (x1 x2 : Int32) (F : PF) (G : PG) : PP (mf_put fu x1 x2 F G) (fun r _ _ => (r = 1 ∧ x1 &&& 3 = 0 ∧ 0 ≤ x1.toInt ∧ x1.toInt < 16384) ∨ (r = 0 ∧ ¬ (x1 &&& 3 = 0 ∧ 0 ≤ x1.toInt ∧ x1.toInt < 16384))) := by
  unfold mf_put mb_put_0 mb_put_6 mb_put_10 mb_put_19 mb_put_28 mb_put_17
  have e0 : (0 : Int32).toInt = 0 := rfl
  have e1 : (16380 : Int32).toInt = 16380 := rfl
  refine PP.ite (fun a => PP.ite (fun c => PP.ret (.inr ⟨rfl, fun q => ?_⟩)) (fun c => PP.ite (fun d => PP.ix (fun _ => PP.ret (.inl ⟨rfl, a, ?_, ?_⟩))) (fun d => PP.ret (.inr ⟨rfl, fun q => ?_⟩)))) (fun a => PP.ret (.inr ⟨rfl, fun q => a q.1⟩))
  · have := i_lt.mp c
    omega
  · have := mt i_lt.mpr c
    omega
  · have := i_le.mp d
    omega
  · have := mt i_le.mpr d
    have := and3_le q.1 q.2.2
    omega
theorem same_two {P : Prop} {r1 r2 : Int32} (a : (r1 = 1 ∧ P) ∨ (r1 = 0 ∧ ¬ P)) (b : (r2 = 1 ∧ P) ∨ (r2 = 0 ∧ ¬ P)) : r1 = r2 := by
  rcases a with ⟨ra, ha⟩ | ⟨ra, ha⟩ <;> rcases b with ⟨rb, hb⟩ | ⟨rb, hb⟩
  · rw [ra, rb]
  · exact absurd ha hb
  · exact absurd hb ha
  · rw [ra, rb]
theorem same_put {fu : Nat} {x1 x2 : Int32} {F F' F1 F2 : PF} {G G' G1 G2 : PG} {r1 r2 : Int32} (h1 : cf_X11_put fu x1 x2 F G = some (r1, F1, G1)) (h2 : mf_put fu x1 x2 F' G' = some (r2, F2, G2)) : r1 = r2 := same_two (pp_xput x1 x2 F G r1 F1 G1 h1) (pp_put x1 x2 F' G' r2 F2 G2 h2)
theorem pp_change {fu : Nat} (x1 x2 : Int32) (F : PF) (G : PG) : PP (cf_X0_change fu x1 x2 F G) (fun r _ _ => (r = 1 ∧ 1 ≤ x1.toInt ∧ x1.toInt ≤ 32) ∨ (r = 0 ∧ ¬ (1 ≤ x1.toInt ∧ x1.toInt ≤ 32))) := by
  unfold cf_X0_change cb_X0_change_0 cb_X0_change_5 cb_X0_change_13 cb_X0_change_19 cb_X0_change_24 cb_X0_change_27 cb_X0_change_33 cb_X0_change_34 cb_X0_change_11
  have e0 : (1 : Int32).toInt = 1 := rfl
  have e1 : (32 : Int32).toInt = 32 := rfl
  refine PP.ite (fun c => PP.ret (.inr ⟨rfl, fun q => ?_⟩)) (fun c => PP.ite (fun d => PP.ite (fun _ => PP.ret (.inl ⟨rfl, ?_, ?_⟩)) (fun _ => PP.bind (Q1 := fun _ _ _ => True) (fun _ _ _ _ => trivial) (fun _ _ _ _ => PP.ret (.inl ⟨rfl, ?_, ?_⟩)))) (fun d => PP.ret (.inr ⟨rfl, fun q => ?_⟩)))
  · have := i_lt.mp c
    omega
  · have := mt i_lt.mpr c
    omega
  · have := i_le.mp d
    omega
  · have := mt i_lt.mpr c
    omega
  · have := i_le.mp d
    omega
  · have := mt i_le.mpr d
    omega
theorem pp_xset {fu : Nat} (x1 x2 : Int32) (F : PF) (G : PG) : PP (cf_X11_set fu x1 x2 F G) (fun r _ _ => (r = 1 ∧ 1 ≤ x1.toInt ∧ x1.toInt ≤ 32) ∨ (r = 0 ∧ ¬ (1 ≤ x1.toInt ∧ x1.toInt ≤ 32))) := by
  unfold cf_X11_set cb_X11_set_0 cb_X11_set_9
  exact PP.bind (pp_change x1 x2 F G) (fun r F G q => PP.bz (fun _ => PP.ret q))
theorem pp_set {fu : Nat} (x1 x2 : Int32) (F : PF) (G : PG) : PP (mf_set fu x1 x2 F G) (fun r _ _ => (r = 1 ∧ 1 ≤ x1.toInt ∧ x1.toInt ≤ 32) ∨ (r = 0 ∧ ¬ (1 ≤ x1.toInt ∧ x1.toInt ≤ 32))) := by
  unfold mf_set mb_set_0 mb_set_5 mb_set_13 mb_set_20 mb_set_11
  have e0 : (1 : Int32).toInt = 1 := rfl
  have e1 : (32 : Int32).toInt = 32 := rfl
  refine PP.ite (fun c => PP.ret (.inr ⟨rfl, fun q => ?_⟩)) (fun c => PP.ite (fun d => PP.ix (fun _ => PP.ret (.inl ⟨rfl, ?_, ?_⟩))) (fun d => PP.ret (.inr ⟨rfl, fun q => ?_⟩)))
  · have := i_lt.mp c
    omega
  · have := mt i_lt.mpr c
    omega
  · have := i_le.mp d
    omega
  · have := mt i_le.mpr d
    omega
theorem same_set {fu : Nat} {x1 x2 : Int32} {F F' F1 F2 : PF} {G G' G1 G2 : PG} {r1 r2 : Int32} (h1 : cf_X11_set fu x1 x2 F G = some (r1, F1, G1)) (h2 : mf_set fu x1 x2 F' G' = some (r2, F2, G2)) : r1 = r2 := same_two (pp_xset x1 x2 F G r1 F1 G1 h1) (pp_set x1 x2 F' G' r2 F2 G2 h2)
