/-- the room of the class's stack of values -/
def jXB (F : PF) : Prop := 0 < xn F ∧ xn F ≤ 1048576
theorem jXB.kx {a b : List Nat} {F F1 : PF} {G G1 : PG} (h : jXB F) (k : KX a b F G F1 G1) (e : a.contains 300 = false) : jXB F1 := by
  unfold jXB xn at h ⊢
  rw [k.1 300 e]
  exact h
section JKX
variable {fu : Nat}
theorem cx_push40 (x : Int32) {F : PF} (G : PG) (h : jXB F) : PP (cb_X6_push_40 fu x F G) (fun _ F' _ => jXB F') := by
  unfold cb_X6_push_40 cb_X6_push_52 cb_X6_push_62 cb_X6_push_72
  refine PP.ite (fun _ => PP.ret h) (fun _ => PP.ix (fun _ => PP.ret ?_))
  unfold jXB
  rw [xn_fup (by decide)]
  exact h
theorem cx_push (x : Int32) {F : PF} (G : PG) (h : jXB F) : PP (cf_X6_push fu x F G) (fun _ F' _ => jXB F') := by
  unfold cf_X6_push cb_X6_push_0
  refine PP.ite (fun _ => cx_push40 x G h) (fun _ => ?_)
  unfold cb_X6_push_12
  refine PP.ite (fun _ => cx_push40 x G h) (fun _ => ?_)
  unfold cb_X6_push_22
  by_cases g : gok F = true
  · rw [if_pos g]
    have g' : 0 < xn F ∧ xn F ≤ 524288 := of_decide_eq_true g
    have e : (nI (xn F)).toInt = xn F := nI_toInt (by omega)
    have e2 : (nI (xn F) * 2).toInt = (nI (xn F)).toInt * 2 := i_muln _ rfl (by omega) (by omega)
    refine cx_push40 x _ ?_
    unfold jXB
    rw [xn_grow]
    have e3 : (nI (xn F) * 2).toNatClampNeg = (nI (xn F) * 2).toInt.toNat := rfl
    omega
  · rw [if_neg g]
    exact PP.no
theorem cx_jump69 (x y : Int32) {F : PF} (G : PG) (h : jXB F) : PP (cb_X6_jump_69 fu x y F G) (fun _ F' _ => jXB F') := by
  unfold cb_X6_jump_69 cb_X6_jump_73 cb_X6_jump_78
  refine PP.ite (fun _ => PP.ret h) (fun _ => PP.ret ?_)
  unfold jXB
  rw [xn_fup (by decide)]
  exact h
theorem cx_jump49 (x y z w : Int32) {F : PF} (G : PG) (h : jXB F) : PP (cb_X6_jump_49 fu x y z w F G) (fun _ F' _ => jXB F') := by
  unfold cb_X6_jump_49
  refine PP.ite (fun _ => cx_jump69 _ _ G h) (fun _ => ?_)
  unfold cb_X6_jump_54
  refine PP.ite (fun _ => cx_jump69 _ _ G h) (fun _ => ?_)
  unfold cb_X6_jump_60
  refine PP.bind (cw_X11_truth z F G) ?_
  rintro r F1 G1 k1
  dsimp only
  unfold cb_X6_jump_66
  refine PP.bind (cx_push r G1 (h.kx k1 rfl)) ?_
  rintro r2 F2 G2 k2
  exact cx_jump69 _ _ G2 k2
theorem cx_jump41 (x y z w v : Int32) {F : PF} (G : PG) (h : jXB F) : PP (cb_X6_jump_41 fu x y z w v F G) (fun _ F' _ => jXB F') := by
  unfold cb_X6_jump_41 cb_X6_jump_44 cb_X6_jump_48
  exact PP.ite (fun _ => cx_jump49 _ _ _ _ G h) (fun _ => cx_jump49 _ _ _ _ G h)
theorem cx_jump20 (x y z : Int32) {F : PF} (G : PG) (h : jXB F) : PP (cb_X6_jump_20 fu x y z F G) (fun _ F' _ => jXB F') := by
  unfold cb_X6_jump_20 cb_X6_jump_30 cb_X6_jump_36 cb_X6_jump_40
  exact PP.ite (fun _ => cx_jump41 _ _ _ _ _ G h) (fun _ => PP.ite (fun _ => cx_jump41 _ _ _ _ _ G h) (fun _ => cx_jump41 _ _ _ _ _ G h))
theorem cx_jump (x y : Int32) {F : PF} (G : PG) (h : jXB F) : PP (cf_X6_jump fu x y F G) (fun _ F' _ => jXB F') := by
  unfold cf_X6_jump cb_X6_jump_0
  refine PP.ite (fun _ => cx_jump69 _ _ G h) (fun _ => ?_)
  unfold cb_X6_jump_8
  refine PP.bind (cw_X6_pop F G) ?_
  rintro r F1 G1 k1
  dsimp only
  unfold cb_X6_jump_12 cb_X6_jump_19 cb_X6_jump_15
  exact PP.ite (fun _ => cx_jump20 _ _ _ G1 (h.kx k1 rfl)) (fun _ => cx_jump20 _ _ _ G1 (h.kx k1 rfl))
theorem cx_loop : ∀ (n : Nat) (x2 : Int32) (F : PF) (G : PG), jXB F → PP (cl_X6_valueFrom_12 fu n x2 F G) (fun _ F' _ => jXB F') := by
  intro n
  induction n with
  | zero => intro x2 F G h; exact PP.no
  | succ n ih =>
    intro x2 F G h
    show PP (cb_X6_valueFrom_12 fu (cl_X6_valueFrom_12 fu n) x2 F G) _
    have k119 : PP (cb_X6_valueFrom_119 fu F G) (fun _ F' _ => jXB F') := by
      unfold cb_X6_valueFrom_119
      refine PP.bind (cw_X6_pop F G) ?_
      rintro r F1 G1 k1
      dsimp only
      unfold cb_X6_valueFrom_123
      exact PP.ret (h.kx k1 rfl)
    unfold cb_X6_valueFrom_12
    refine PP.ite (fun _ => k119) (fun _ => ?_)
    unfold cb_X6_valueFrom_18
    refine PP.ite (fun _ => k119) (fun _ => ?_)
    unfold cb_X6_valueFrom_32
    refine PP.bind (cw_X6_next F G) ?_
    rintro r1 F1 G1 k1
    have h1 := h.kx k1 rfl
    dsimp only
    unfold cb_X6_valueFrom_36
    refine PP.ite (fun _ => ?_) (fun _ => ?_)
    · unfold cb_X6_valueFrom_43
      refine PP.bind (cw_X6_next F1 G1) ?_
      rintro r2 F2 G2 k2
      dsimp only
      unfold cb_X6_valueFrom_48
      refine PP.bind (cx_push r2 G2 (h1.kx k2 rfl)) ?_
      rintro r3 F3 G3 k3
      dsimp only
      unfold cb_X6_valueFrom_51 cb_X6_valueFrom_113
      exact ih _ F3 G3 k3
    · unfold cb_X6_valueFrom_54
      refine PP.ite (fun _ => ?_) (fun _ => ?_)
      · unfold cb_X6_valueFrom_72
        refine PP.ite (fun _ => ?_) (fun _ => ?_)
        · unfold cb_X6_valueFrom_93
          refine PP.bind (cw_X6_pop F1 G1) ?_
          rintro r2 F2 G2 k2
          have h2 := h1.kx k2 rfl
          dsimp only
          unfold cb_X6_valueFrom_97
          refine PP.bind (cw_X6_pop F2 G2) ?_
          rintro r3 F3 G3 k3
          have h3 := h2.kx k3 rfl
          dsimp only
          unfold cb_X6_valueFrom_105
          refine PP.bind (cw_X11_joined _ _ _ F3 G3) ?_
          rintro r4 F4 G4 k4
          dsimp only
          unfold cb_X6_valueFrom_110
          refine PP.bind (cx_push r4 G4 (h3.kx k4 rfl)) ?_
          rintro r5 F5 G5 k5
          dsimp only
          unfold cb_X6_valueFrom_113
          exact ih _ F5 G5 k5
        · unfold cb_X6_valueFrom_78
          refine PP.bind (cw_X6_pop F1 G1) ?_
          rintro r2 F2 G2 k2
          have h2 := h1.kx k2 rfl
          dsimp only
          unfold cb_X6_valueFrom_84
          refine PP.bind (cw_X6_changed _ _ F2 G2) ?_
          rintro r4 F4 G4 k4
          dsimp only
          unfold cb_X6_valueFrom_87
          refine PP.bind (cx_push r4 G4 (h2.kx k4 rfl)) ?_
          rintro r5 F5 G5 k5
          dsimp only
          unfold cb_X6_valueFrom_90 cb_X6_valueFrom_113
          exact ih _ F5 G5 k5
      · unfold cb_X6_valueFrom_60
        refine PP.bind (cw_X6_next F1 G1) ?_
        rintro r2 F2 G2 k2
        dsimp only
        unfold cb_X6_valueFrom_66
        refine PP.bind (cx_jump _ _ G2 (h1.kx k2 rfl)) ?_
        rintro r3 F3 G3 k3
        dsimp only
        unfold cb_X6_valueFrom_69 cb_X6_valueFrom_113
        exact ih _ F3 G3 k3
theorem cx_valueFrom (x : Int32) {F : PF} (G : PG) (h : jXB F) : PP (cf_X6_valueFrom fu x F G) (fun _ F' _ => jXB F') := by
  unfold cf_X6_valueFrom cb_X6_valueFrom_0 cb_X6_valueFrom_5 cb_X6_valueFrom_10
  refine cx_loop fu 0 _ G ?_
  unfold jXB
  rw [xn_fup (by decide), xn_fup (by decide)]
  exact h
end JKX
