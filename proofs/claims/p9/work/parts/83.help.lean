/-- the sign s stands at t -/
def sgn (K V : Nat → Int32) (t s : Int32) : Bool := decide (K t.toNatClampNeg = 4 ∧ V t.toNatClampNeg = s)
def wdn (K V : Nat → Int32) (t s : Int32) : Bool := decide (K t.toNatClampNeg = 2 ∧ V t.toNatClampNeg = s)
theorem mp_isSign {fu : Nat} (s : Int32) (F : PF) (G : PG) : PP (mf_isSign fu s F G) (fun r F' G' => F = F' ∧ G = G' ∧ ((r = 1 ∧ sgn (G 4) (G 5) (F 42) s = true) ∨ (r = 0 ∧ sgn (G 4) (G 5) (F 42) s = false))) := by
  unfold mf_isSign mb_isSign_0
  refine PP.ix (fun _ => PP.ite (fun c => ?_) (fun c => ?_))
  · unfold mb_isSign_13
    refine PP.ix (fun _ => PP.ite (fun e => ?_) (fun e => ?_))
    · unfold mb_isSign_26 mb_isSign_31
      exact PP.bz (fun _ => PP.ret ⟨rfl, rfl, Or.inl ⟨rfl, decide_eq_true ⟨c, e⟩⟩⟩)
    · unfold mb_isSign_30 mb_isSign_31
      exact PP.bz (fun _ => PP.ret ⟨rfl, rfl, Or.inr ⟨rfl, decide_eq_false (fun h => e h.2)⟩⟩)
  · unfold mb_isSign_30 mb_isSign_31
    exact PP.bz (fun _ => PP.ret ⟨rfl, rfl, Or.inr ⟨rfl, decide_eq_false (fun h => c h.1)⟩⟩)
theorem mp_isWord {fu : Nat} (s : Int32) (F : PF) (G : PG) : PP (mf_isWord fu s F G) (fun r F' G' => F = F' ∧ G = G' ∧ ((r = 1 ∧ wdn (G 4) (G 5) (F 42) s = true) ∨ (r = 0 ∧ wdn (G 4) (G 5) (F 42) s = false))) := by
  unfold mf_isWord mb_isWord_0
  refine PP.ix (fun _ => PP.ite (fun c => ?_) (fun c => ?_))
  · unfold mb_isWord_13
    refine PP.ix (fun _ => PP.ite (fun e => ?_) (fun e => ?_))
    · unfold mb_isWord_26 mb_isWord_31
      exact PP.bz (fun _ => PP.ret ⟨rfl, rfl, Or.inl ⟨rfl, decide_eq_true ⟨c, e⟩⟩⟩)
    · unfold mb_isWord_30 mb_isWord_31
      exact PP.bz (fun _ => PP.ret ⟨rfl, rfl, Or.inr ⟨rfl, decide_eq_false (fun h => e h.2)⟩⟩)
  · unfold mb_isWord_30 mb_isWord_31
    exact PP.bz (fun _ => PP.ret ⟨rfl, rfl, Or.inr ⟨rfl, decide_eq_false (fun h => c h.1)⟩⟩)
theorem i_pos {x : Int32} (h : (0 : Int32) < x) : 0 < x.toInt := i_lt.mp h
theorem i_nlt {x : Int32} (h : ¬ (0 : Int32) < x) : ¬ 0 < x.toInt := fun q => h (i_lt.mpr q)
theorem i_npos {x : Int32} (h : ¬ x ≤ 0) : 0 < x.toInt := by
  have := mt i_le.mpr h
  have l0 : (0 : Int32).toInt = 0 := rfl
  omega
/-- a fault is told, the rest stands -/
def FLT (F F' : PF) (G G' : PG) : Prop := 0 < (F' 44).toInt ∧ G = G' ∧ KX [44, 45] [] F G F' G'
theorem mp_fails {fu : Nat} (k : Int32) (hk : 0 < k.toInt) (F : PF) (G : PG) : PP (mf_fails fu k F G) (fun r F' G' => r = 0 ∧ FLT F F' G G') := by
  unfold mf_fails mb_fails_0
  refine PP.ite (fun _ => ?_) (fun c => ?_)
  · have h68 : ∀ (x z : Int32), 0 < x.toInt → PP (mb_fails_68 fu z (fup F 44 x) G) (fun r F' G' => r = 0 ∧ FLT F F' G G') := fun x z hx => PP.ret ⟨rfl, hx, rfl, KX.f rfl (KX.f rfl KX.rf)⟩
    have h47 : ∀ x z : Int32, 0 < z.toInt → PP (mb_fails_44 fu x z F G) (fun r F' G' => r = 0 ∧ FLT F F' G G') := by
      intro x z hz
      unfold mb_fails_44 mb_fails_47
      refine PP.ite (fun _ => ?_) (fun _ => ?_)
      · unfold mb_fails_59
        exact PP.ix (fun _ => h68 z _ hz)
      · exact h68 z _ hz
    have h33 : ∀ z : Int32, PP (mb_fails_33 fu k z F G) (fun r F' G' => r = 0 ∧ FLT F F' G G') := by
      intro z
      unfold mb_fails_33
      exact PP.ite (fun _ => h47 z k hk) (fun _ => h47 z 1 (by decide))
    unfold mb_fails_9
    refine PP.ite (fun _ => ?_) (fun _ => h33 0)
    unfold mb_fails_20
    exact PP.ite (fun _ => h33 0) (fun _ => h33 1)
  · exact PP.ret ⟨rfl, i_npos c, rfl, KX.rf⟩
theorem mp_sign {fu : Nat} (s : Int32) (F : PF) (G : PG) : PP (mf_sign fu s F G) (fun r F' G' => (r = 1 ∧ F' = fup F 42 (F 42 + 1) ∧ G = G' ∧ sgn (G 4) (G 5) (F 42) s = true ∧ ¬ 0 < (F 44).toInt) ∨ (r = 0 ∧ FLT F F' G G' ∧ (0 < (F 44).toInt ∨ sgn (G 4) (G 5) (F 42) s = false))) := by
  unfold mf_sign mb_sign_0
  refine PP.ite (fun c => ?_) (fun c => ?_)
  · unfold mb_sign_15
    refine PP.bind (mp_fails 2 (by decide) F G) ?_
    rintro r1 F1 G1 ⟨rfl, h⟩
    dsimp only
    unfold mb_sign_20
    exact PP.bz (fun _ => PP.ret (Or.inr ⟨rfl, h, Or.inl (i_pos c)⟩))
  · unfold mb_sign_7
    refine PP.bind (mp_isSign s F G) ?_
    rintro r1 _ _ ⟨rfl, rfl, (⟨rfl, h⟩ | ⟨rfl, h⟩)⟩
    · dsimp only
      unfold mb_sign_12
      rw [if_neg (by decide)]
      exact PP.ret (Or.inl ⟨rfl, rfl, rfl, h, i_nlt c⟩)
    · dsimp only
      unfold mb_sign_12
      rw [if_pos rfl]
      unfold mb_sign_15
      refine PP.bind (mp_fails 2 (by decide) F G) ?_
      rintro r1 F1 G1 ⟨rfl, h1⟩
      dsimp only
      unfold mb_sign_20
      exact PP.bz (fun _ => PP.ret (Or.inr ⟨rfl, h1, Or.inr h⟩))
theorem mp_word {fu : Nat} (s m : Int32) (F : PF) (G : PG) (h0 : F 44 = 0) : PP (mf_word fu s m F G) (fun r F' G' => (r = 1 ∧ F' = fup F 42 (F 42 + 1) ∧ G = G' ∧ wdn (G 4) (G 5) (F 42) s = true) ∨ (r = 0 ∧ wdn (G 4) (G 5) (F 42) s = false ∧ ((m = 0 ∧ F = F' ∧ G = G') ∨ (m ≠ 0 ∧ FLT F F' G G')))) := by
  unfold mf_word mb_word_0
  refine PP.ite (fun c => absurd (i_pos c) (by rw [h0]; decide)) (fun c => ?_)
  unfold mb_word_7
  refine PP.bind (mp_isWord s F G) ?_
  rintro r1 _ _ ⟨rfl, rfl, (⟨rfl, h⟩ | ⟨rfl, h⟩)⟩
  · dsimp only
    unfold mb_word_12
    rw [if_neg (by decide)]
    exact PP.ret (Or.inl ⟨rfl, rfl, rfl, h⟩)
  · dsimp only
    unfold mb_word_12
    rw [if_pos rfl]
    unfold mb_word_15
    refine PP.ite (fun e => ?_) (fun e => ?_)
    · unfold mb_word_31 mb_word_32
      exact PP.bz (fun _ => PP.ret (Or.inr ⟨rfl, h, Or.inl ⟨e, rfl, rfl⟩⟩))
    · unfold mb_word_19
      refine PP.bind (mp_fails 2 (by decide) F G) ?_
      rintro r1 F1 G1 ⟨rfl, h1⟩
      dsimp only
      unfold mb_word_24
      rw [if_pos rfl]
      unfold mb_word_31 mb_word_32
      exact PP.bz (fun _ => PP.ret (Or.inr ⟨rfl, h, Or.inr ⟨e, h1⟩⟩))
theorem mp_name {fu : Nat} (F : PF) (G : PG) : PP (mf_name fu F G) (fun r F' G' => (r = F 42 + 1 - 1 ∧ F' = fup F 42 (F 42 + 1) ∧ G = G' ∧ G 4 (F 42).toNatClampNeg = 1 ∧ ¬ 0 < (F 44).toInt ∧ vp_in (F 42) 4002) ∨ (r = 0 ∧ FLT F F' G G' ∧ (0 < (F 44).toInt ∨ ¬ G 4 (F 42).toNatClampNeg = 1))) := by
  unfold mf_name mb_name_0
  have hf : (0 < (F 44).toInt ∨ ¬ G 4 (F 42).toNatClampNeg = 1) → PP (mb_name_20 fu F G) (fun r F' G' => (r = F 42 + 1 - 1 ∧ F' = fup F 42 (F 42 + 1) ∧ G = G' ∧ G 4 (F 42).toNatClampNeg = 1 ∧ ¬ 0 < (F 44).toInt ∧ vp_in (F 42) 4002) ∨ (r = 0 ∧ FLT F F' G G' ∧ (0 < (F 44).toInt ∨ ¬ G 4 (F 42).toNatClampNeg = 1))) := by
    intro q
    unfold mb_name_20
    refine PP.bind (mp_fails 2 (by decide) F G) ?_
    rintro r1 F1 G1 ⟨rfl, h⟩
    dsimp only
    exact PP.ret (Or.inr ⟨rfl, h, q⟩)
  refine PP.ite (fun c => hf (Or.inl (i_pos c))) (fun c => ?_)
  unfold mb_name_7
  refine PP.ix (fun hx => PP.ite (fun e => ?_) (fun e => hf (Or.inr e)))
  exact PP.ret (Or.inl ⟨rfl, rfl, rfl, e, i_nlt c, hx⟩)
theorem mp_opens {fu : Nat} (F : PF) (G : PG) : PP (mf_opens fu F G) (fun r F' G' => (r = 1 ∧ F' = fup (fup F 43 (F 43 + 1)) 42 (F 42 + 1) ∧ G = G' ∧ ¬ F 43 = 40) ∨ (r = 0 ∧ FLT F F' G G' ∧ F 43 = 40)) := by
  unfold mf_opens mb_opens_0
  refine PP.ite (fun c => ?_) (fun c => ?_)
  · unfold mb_opens_9
    refine PP.bind (mp_fails 3 (by decide) F G) ?_
    rintro r1 F1 G1 ⟨rfl, h⟩
    dsimp only
    unfold mb_opens_14
    exact PP.bz (fun _ => PP.ret (Or.inr ⟨rfl, h, c⟩))
  · exact PP.ret (Or.inl ⟨rfl, rfl, rfl, c⟩)
theorem mp_openSign {fu : Nat} (s : Int32) (F : PF) (G : PG) : PP (mf_openSign fu s F G) (fun r F' G' => (r = 1 ∧ F' = fup (fup F 43 (F 43 + 1)) 42 (F 42 + 1) ∧ G = G' ∧ sgn (G 4) (G 5) (F 42) s = true ∧ ¬ F 43 = 40 ∧ ¬ 0 < (F 44).toInt) ∨ (r = 0 ∧ FLT F F' G G' ∧ (0 < (F 44).toInt ∨ sgn (G 4) (G 5) (F 42) s = false ∨ (sgn (G 4) (G 5) (F 42) s = true ∧ F 43 = 40)))) := by
  unfold mf_openSign mb_openSign_0
  have hf : (0 < (F 44).toInt ∨ sgn (G 4) (G 5) (F 42) s = false ∨ (sgn (G 4) (G 5) (F 42) s = true ∧ F 43 = 40)) → PP (mb_openSign_15 fu F G) (fun r F' G' => (r = 1 ∧ F' = fup (fup F 43 (F 43 + 1)) 42 (F 42 + 1) ∧ G = G' ∧ sgn (G 4) (G 5) (F 42) s = true ∧ ¬ F 43 = 40 ∧ ¬ 0 < (F 44).toInt) ∨ (r = 0 ∧ FLT F F' G G' ∧ (0 < (F 44).toInt ∨ sgn (G 4) (G 5) (F 42) s = false ∨ (sgn (G 4) (G 5) (F 42) s = true ∧ F 43 = 40)))) := by
    intro q
    unfold mb_openSign_15
    refine PP.bind (mp_fails 2 (by decide) F G) ?_
    rintro r1 F1 G1 ⟨rfl, h⟩
    dsimp only
    unfold mb_openSign_20 mb_openSign_27
    exact PP.bz (fun _ => PP.ret (Or.inr ⟨rfl, h, q⟩))
  refine PP.ite (fun c => hf (Or.inl (i_pos c))) (fun c => ?_)
  unfold mb_openSign_7
  refine PP.bind (mp_isSign s F G) ?_
  rintro r1 _ _ ⟨rfl, rfl, (⟨rfl, h⟩ | ⟨rfl, h⟩)⟩
  · dsimp only
    unfold mb_openSign_12
    rw [if_neg (by decide)]
    unfold mb_openSign_23
    refine PP.bind (mp_opens F G) ?_
    rintro r2 F2 G2 (⟨rfl, rfl, rfl, h2⟩ | ⟨rfl, h2, h3⟩)
    · dsimp only
      unfold mb_openSign_27
      exact PP.bz (fun _ => PP.ret (Or.inl ⟨rfl, rfl, rfl, h, h2, i_nlt c⟩))
    · dsimp only
      unfold mb_openSign_27
      exact PP.bz (fun _ => PP.ret (Or.inr ⟨rfl, h2, Or.inr (Or.inr ⟨h, h3⟩)⟩))
  · dsimp only
    unfold mb_openSign_12
    rw [if_pos rfl]
    exact hf (Or.inr (Or.inl h))
theorem mp_closeSign {fu : Nat} (s : Int32) (F : PF) (G : PG) : PP (mf_closeSign fu s F G) (fun r F' G' => (r = 1 ∧ F' = fup (fup F 42 (F 42 + 1)) 43 (F 43 - 1) ∧ G = G' ∧ sgn (G 4) (G 5) (F 42) s = true ∧ ¬ 0 < (F 44).toInt) ∨ (r = 0 ∧ FLT F F' G G' ∧ (0 < (F 44).toInt ∨ sgn (G 4) (G 5) (F 42) s = false))) := by
  unfold mf_closeSign mb_closeSign_0
  refine PP.bind (mp_sign s F G) ?_
  rintro r1 F1 G1 (⟨rfl, rfl, rfl, h, h0⟩ | ⟨rfl, h, h0⟩)
  · dsimp only
    unfold mb_closeSign_5
    rw [if_neg (by decide)]
    exact PP.ret (Or.inl ⟨rfl, rfl, rfl, h, h0⟩)
  · dsimp only
    unfold mb_closeSign_5
    rw [if_pos rfl]
    exact PP.ret (Or.inr ⟨rfl, h, h0⟩)
theorem mp_step {fu : Nat} (w a b : Int32) (F : PF) (G : PG) : PP (mf_step fu w a b F G) (fun r F' G' => r = F 60 + 1 - 1 ∧ F' = fup F 60 (F 60 + 1) ∧ G' = gup (gup (gup G 56 (F 60).toNatClampNeg w) 57 (F 60).toNatClampNeg a) 58 (F 60).toNatClampNeg b ∧ vp_in (F 60) 9000) := by
  unfold mf_step mb_step_0
  refine PP.ix (fun h => ?_)
  unfold mb_step_10
  refine PP.ix (fun _ => ?_)
  unfold mb_step_20
  refine PP.ix (fun _ => ?_)
  exact PP.ret ⟨rfl, rfl, rfl, h⟩
theorem mp_noteAs {fu : Nat} (k p o : Int32) (hk : 0 < k.toInt) (F : PF) (G : PG) : PP (mf_noteAs fu k p o F G) (fun _ F' G' => KX [47, 48, 49] [] F G F' G' ∧ G = G' ∧ (¬ F 46 = 0 → 0 < (F' 47).toInt) ∧ (F 46 = 0 → F = F')) := by
  unfold mf_noteAs mb_noteAs_0
  refine PP.ite (fun c => ?_) (fun c => ?_)
  · exact PP.ret ⟨KX.rf, rfl, fun h => absurd c h, fun _ => rfl⟩
  · have h39 : PP (mb_noteAs_39 fu k p o F G) (fun _ F' G' => KX [47, 48, 49] [] F G F' G' ∧ G = G' ∧ (¬ F 46 = 0 → 0 < (F' 47).toInt) ∧ (F 46 = 0 → F = F')) := PP.ret ⟨KX.f rfl (KX.f rfl (KX.f rfl KX.rf)), rfl, fun _ => hk, fun h => absurd h c⟩
    unfold mb_noteAs_7
    refine PP.ite (fun _ => h39) (fun e => ?_)
    have h38 : PP (mb_noteAs_38 fu F G) (fun _ F' G' => KX [47, 48, 49] [] F G F' G' ∧ G = G' ∧ (¬ F 46 = 0 → 0 < (F' 47).toInt) ∧ (F 46 = 0 → F = F')) := PP.ret ⟨KX.rf, rfl, fun _ => i_npos e, fun h => absurd h c⟩
    unfold mb_noteAs_14
    refine PP.ite (fun _ => h38) (fun _ => ?_)
    unfold mb_noteAs_22
    refine PP.ite (fun _ => ?_) (fun _ => h39)
    unfold mb_noteAs_30
    exact PP.ite (fun _ => h39) (fun _ => h38)
theorem mp_note {fu : Nat} (k p : Int32) (hk : 0 < k.toInt) (F : PF) (G : PG) : PP (mf_note fu k p F G) (fun _ F' G' => KX [47, 48, 49] [] F G F' G' ∧ G = G' ∧ (¬ F 46 = 0 → 0 < (F' 47).toInt) ∧ (F 46 = 0 → F = F')) := by
  unfold mf_note mb_note_0
  have hr : PP (mf_rank fu k F G) (fun _ F' G' => F = F' ∧ G = G') := by
    unfold mf_rank mb_rank_0
    exact PP.ite (fun _ => PP.ret ⟨rfl, rfl⟩) (fun _ => PP.ret ⟨rfl, rfl⟩)
  refine PP.bind hr ?_
  rintro r1 _ _ ⟨rfl, rfl⟩
  dsimp only
  unfold mb_note_7
  refine PP.bind (mp_noteAs k p r1 hk F G) ?_
  intro r2 F2 G2 h
  dsimp only
  exact PP.ret h

/-- an answer of a reader of tokens: none is no answer, some none is a fault -/
abbrev OR : Type := Option (Option Int32)
abbrev RR : Type := Nat → Int32 → Int32 → OR
def rno : OR := some none
def ryes (t : Int32) : OR := some (some t)
def rb (x : OR) (f : Int32 → OR) : OR := x.bind (fun y => y.elim (some none) f)
theorem rb_yes {t : Int32} {f : Int32 → OR} : rb (some (some t)) f = f t := rfl
theorem rb_no {f : Int32 → OR} : rb (some none) f = some none := rfl
theorem rb_none {f : Int32 → OR} : rb none f = none := rfl
theorem i_as (a : Int32) : a + 1 - 1 = a := Int32.add_sub_cancel a 1
theorem i_a0 (a : Int32) : a + 0 = a := Int32.add_zero a
theorem i0m : ((0 : Int32) = -1) = False := by simp
theorem i10 : ((1 : Int32) = 0) = False := by simp
theorem f_tt {p : Prop} : (false = true) = False := by simp
def lvS (s : Int32) : Int32 := if s.toInt < 1 ∨ 42 < s.toInt then (-1) else if s = 1 then 7 else if s = 2 then (-1) else if s = 3 then (-1) else if s = 4 then (-1) else if s = 5 then (-1) else if s = 6 then (-1) else if s = 7 then (-1) else if s = 8 then (-1) else if s = 9 then (-1) else if s = 10 then (-1) else if s = 11 then (-1) else if s = 12 then (-1) else if s = 13 then (-1) else if s = 14 then 0 else if s = 15 then 1 else if s = 16 then 5 else if s = 17 then 5 else if s = 18 then 6 else if s = 19 then 6 else if s = 20 then 7 else if s = 21 then 7 else if s = 22 then (-1) else if s = 23 then (-1) else if s = 24 then (-1) else if s = 25 then (-1) else if s = 26 then (-1) else if s = 27 then (-1) else if s = 28 then (-1) else if s = 29 then (-1) else if s = 30 then (-1) else if s = 31 then (-1) else if s = 32 then (-1) else if s = 33 then 2 else if s = 34 then 3 else if s = 35 then 4 else if s = 36 then 6 else if s = 37 then 6 else if s = 38 then 8 else if s = 39 then 8 else if s = 40 then 9 else if s = 41 then 9 else 9
def lvl (K V : Nat → Int32) (t : Int32) : Int32 := if K t.toNatClampNeg = 4 then lvS (V t.toNatClampNeg) else -1
theorem PP.lv {c : Prop} [Decidable c] {a x : Int32} {F : PF} {G : PG} {B : PR} (h : PP B (fun r F' G' => F = F' ∧ G = G' ∧ r = x)) : PP (if c then some (a, F, G) else B) (fun r F' G' => F = F' ∧ G = G' ∧ r = if c then a else x) := by
  by_cases hc : c
  · rw [if_pos hc]
    exact PP.ret ⟨rfl, rfl, (if_pos hc).symm⟩
  · rw [if_neg hc, if_neg hc]
    exact h
theorem mp_level {fu : Nat} (F : PF) (G : PG) : PP (mf_level fu F G) (fun r F' G' => F = F' ∧ G = G' ∧ r = lvl (G 4) (G 5) (F 42)) := by
  unfold mf_level mb_level_0 lvl
  refine PP.ix (fun _ => ?_)
  refine PP.ite (fun c => ?_) (fun c => ?_)
  · rw [if_pos c]
    unfold mb_level_15 lvS
    refine PP.ix (fun _ => ?_)
    unfold mb_level_208 mb_level_210 mb_level_212 mb_level_214 mb_level_216 mb_level_218 mb_level_220 mb_level_223 mb_level_226 mb_level_229 mb_level_232
    exact PP.lv (PP.lv (PP.lv (PP.lv (PP.lv (PP.lv (PP.lv (PP.lv (PP.lv (PP.lv (PP.lv (PP.lv (PP.lv (PP.lv (PP.lv (PP.lv (PP.lv (PP.lv (PP.lv (PP.lv (PP.lv (PP.lv (PP.lv (PP.lv (PP.lv (PP.lv (PP.lv (PP.lv (PP.lv (PP.lv (PP.lv (PP.lv (PP.lv (PP.lv (PP.lv (PP.lv (PP.lv (PP.lv (PP.lv (PP.lv (PP.lv (PP.lv (PP.ret ⟨rfl, rfl, rfl⟩))))))))))))))))))))))))))))))))))))))))))
  · rw [if_neg c]
    exact PP.ret ⟨rfl, rfl, rfl⟩
def rclose (K V : Nat → Int32) (s : Int32) (t : Int32) : OR := if sgn K V t s = true then ryes (t + 1) else rno
/-- one name that stands alone as an argument -/
def ral (K V : Nat → Int32) (t : Int32) : Bool := decide (K t.toNatClampNeg = 1 ∧ K (t + 1).toNatClampNeg = 4 ∧ (V (t + 1).toNatClampNeg = 28 ∨ V (t + 1).toNatClampNeg = 23))
def rh_argument (K V : Nat → Int32) (r : RR) (t o : Int32) : OR := if ral K V t = true then ryes (t + 1) else r 4 t o
def rl_args (K V : Nat → Int32) (r : RR) (o : Int32) : Nat → Int32 → OR
  | 0 => fun _ => none
  | n + 1 => fun t => rb (r 0 t o) (fun t1 => if sgn K V t1 28 = true then rl_args K V r o n (t1 + 1) else rclose K V 23 t1)
def rh_call (K V : Nat → Int32) (fu : Nat) (r : RR) (t o : Int32) : OR := if sgn K V t 22 = true then (if o = 40 then rno else if sgn K V (t + 1) 23 = true then rclose K V 23 (t + 1) else rl_args K V r (o + 1) fu (t + 1)) else rno
def rl_chain (K V : Nat → Int32) (r : RR) (o : Int32) : Nat → Int32 → OR
  | 0 => fun _ => none
  | n + 1 => fun t => if lvl K V t = -1 then ryes t else rb (r 7 (t + 1) o) (fun t1 => rl_chain K V r o n t1)
def rh_chain (K V : Nat → Int32) (fu : Nat) (r : RR) (t o : Int32) : OR := rb (r 7 t o) (fun t1 => rl_chain K V r o fu t1)
def rh_element (K V : Nat → Int32) (r : RR) (t o : Int32) : OR := if sgn K V t 24 = true then (if o = 40 then rno else rb (r 4 (t + 1) (o + 1)) (fun t1 => rclose K V 25 t1)) else rno
def rh_expression (K V : Nat → Int32) (r : RR) (t o : Int32) : OR := rb (r 2 t o) (fun t1 => if sgn K V t1 30 = true then (if o = 40 then rno else rb (r 4 (t1 + 1) (o + 1)) (fun t2 => if sgn K V t2 31 = true then r 4 (t2 + 1) (o + 1) else rno)) else ryes t1)
def rh_tail (K V : Nat → Int32) (r : RR) (t o : Int32) : OR := if sgn K V t 22 = true then r 1 t o else if sgn K V t 24 = true then r 3 t o else ryes t
def rl_un (K V : Nat → Int32) (r : RR) (o : Int32) : Nat → Int32 → OR
  | 0 => fun _ => none
  | n + 1 => fun t => if sgn K V t 39 = true then rl_un K V r o n (t + 1) else if sgn K V t 43 = true then rl_un K V r o n (t + 1) else if sgn K V t 44 = true then rl_un K V r o n (t + 1) else r 8 t o
def rh_operand (K V : Nat → Int32) (fu : Nat) (r : RR) (t o : Int32) : OR := rl_un K V r o fu t
def rh_plain (K V : Nat → Int32) (r : RR) (t o : Int32) : OR := if K t.toNatClampNeg = 3 then ryes (t + 1) else if sgn K V t 22 = true then (if o = 40 then rno else rb (r 4 (t + 1) (o + 1)) (fun t1 => rclose K V 23 t1)) else if wdn K V t 13 = true then (if sgn K V (t + 1) 22 = true then (if o = 40 then rno else rclose K V 23 (t + 1 + 1)) else rno) else if K t.toNatClampNeg = 1 then r 6 (t + 1) o else rno
def rS1 (K V : Nat → Int32) (fu : Nat) : Nat → RR
  | 0 => fun _ _ _ => none
  | d + 1 => fun i t o => if i = 0 then rh_argument K V (rS1 K V fu d) t o else if i = 1 then rh_call K V fu (rS1 K V fu d) t o else if i = 2 then rh_chain K V fu (rS1 K V fu d) t o else if i = 3 then rh_element K V (rS1 K V fu d) t o else if i = 4 then rh_expression K V (rS1 K V fu d) t o else if i = 5 then rh_tail K V (rS1 K V fu d) t o else if i = 6 then rh_tail K V (rS1 K V fu d) t o else if i = 7 then rh_operand K V fu (rS1 K V fu d) t o else if i = 8 then rh_plain K V (rS1 K V fu d) t o else none
/-- a method follows its reader -/
def ROK (x : OR) (F : PF) (r : Int32) (F' : PF) : Prop := (r = 1 ∧ F' 44 = 0 ∧ F' 43 = F 43 ∧ x = some (some (F' 42))) ∨ (r = 0 ∧ 0 < (F' 44).toInt ∧ x = some none)
/-- a name alone is read by every reader -/
def rAL (K V : Nat → Int32) (r : RR) : Prop := ∀ t o, ral K V t = true → (r 4 t o = none ∨ r 4 t o = some (some (t + 1))) ∧ (r 2 t o = none ∨ r 2 t o = some (some (t + 1))) ∧ (r 7 t o = none ∨ r 7 t o = some (some (t + 1))) ∧ (r 8 t o = none ∨ r 8 t o = some (some (t + 1))) ∧ (r 6 (t + 1) o = none ∨ r 6 (t + 1) o = some (some (t + 1)))
/-- behind a call stands its bracket -/
def rCL (K : Nat → Int32) (r : RR) : Prop := ∀ t o t1, r 1 t o = some (some t1) → K (t1 - 1).toNatClampNeg = 4
def mRI1 (K V : Nat → Int32) (rc : RC) (r : RR) : Prop := (∀ t o, r 5 t o = r 6 t o) ∧ rAL K V r ∧ rCL K r ∧ ∀ (i : Nat) (x y : Int32) (F : PF) (G : PG), G 4 = K → G 5 = V → F 44 = 0 → (i = 5 → K (F 42 - 1).toNatClampNeg = 1) → PP (rc i x y F G) (fun r' F' _ => ROK (r i (F 42) (F 43)) F r' F')
theorem rarg {K V : Nat → Int32} {r : RR} (hA : rAL K V r) {t o : Int32} {x : Option Int32} (h : r 4 t o = some x) : rh_argument K V r t o = some x := by
  unfold rh_argument
  by_cases c : ral K V t = true
  · rw [if_pos c]
    rcases (hA t o c).1 with e | e
    · rw [e] at h; cases h
    · rw [e] at h; exact h
  · rw [if_neg c]; exact h
theorem rarg1 {K V : Nat → Int32} {r : RR} {t o : Int32} (h1 : K t.toNatClampNeg = 1) (h2 : K (t + 1).toNatClampNeg = 4) (h3 : V (t + 1).toNatClampNeg = 28 ∨ V (t + 1).toNatClampNeg = 23) : rh_argument K V r t o = some (some (t + 1)) := by
  unfold rh_argument
  rw [if_pos (show ral K V t = true from decide_eq_true ⟨h1, h2, h3⟩)]
  rfl
theorem sgn_ne {K V : Nat → Int32} {t a b : Int32} (h : sgn K V t a = true) (e : a ≠ b) : sgn K V t b = false := decide_eq_false (fun q => e ((of_decide_eq_true h).2.symm.trans q.2))
theorem rclose_cl {K V : Nat → Int32} {s t t1 : Int32} (h : rclose K V s t = some (some t1)) : K (t1 - 1).toNatClampNeg = 4 := by
  unfold rclose at h
  by_cases c : sgn K V t s = true
  · rw [if_pos c] at h
    have e : t + 1 = t1 := Option.some.inj (Option.some.inj h)
    rw [← e, i_as]
    exact (of_decide_eq_true c).1
  · rw [if_neg c] at h
    cases h
theorem rb_el {x : OR} {f : Int32 → OR} {t1 : Int32} (h : rb x f = some (some t1)) : ∃ t, f t = some (some t1) := by
  cases x with
  | none => cases h
  | some y =>
    cases y with
    | none => cases h
    | some t => exact ⟨t, h⟩
theorem rargs_cl {K V : Nat → Int32} {r : RR} {o : Int32} : ∀ (n : Nat) (t t1 : Int32), rl_args K V r o n t = some (some t1) → K (t1 - 1).toNatClampNeg = 4 := by
  intro n
  induction n with
  | zero => intro t t1 h; cases h
  | succ n ih =>
    intro t t1 h
    obtain ⟨t2, h⟩ := rb_el (x := r 0 t o) h
    by_cases c : sgn K V t2 28 = true
    · rw [if_pos c] at h
      exact ih _ _ h
    · rw [if_neg c] at h
      exact rclose_cl h
theorem rcall_cl {K V : Nat → Int32} {fu : Nat} {r : RR} {t o t1 : Int32} (h : rh_call K V fu r t o = some (some t1)) : K (t1 - 1).toNatClampNeg = 4 := by
  unfold rh_call at h
  split at h
  · split at h
    · cases h
    · split at h
      · exact rclose_cl h
      · exact rargs_cl _ _ _ h
  · cases h
theorem n_ne (a b : Int32) (K : Nat → Int32) (t : Int32) (h : K t.toNatClampNeg = a) (e : a ≠ b) : ¬ K t.toNatClampNeg = b := by rw [h]; exact e
theorem rAL.up {K V : Nat → Int32} {fu : Nat} {r : RR} (hA : rAL K V r) : rAL K V (fun i t o => if i = 0 then rh_argument K V r t o else if i = 1 then rh_call K V fu r t o else if i = 2 then rh_chain K V fu r t o else if i = 3 then rh_element K V r t o else if i = 4 then rh_expression K V r t o else if i = 5 then rh_tail K V r t o else if i = 6 then rh_tail K V r t o else if i = 7 then rh_operand K V fu r t o else if i = 8 then rh_plain K V r t o else none) := by
  intro t o h
  obtain ⟨h4, h2, h7, h8, h6⟩ := hA t o h
  have h' := of_decide_eq_true h
  obtain ⟨k1, k4, kv⟩ := h'
  have ns : ∀ s : Int32, sgn K V t s = false := fun s => decide_eq_false (fun q => by rw [k1] at q; exact absurd q.1 (by decide))
  have nw : ∀ s : Int32, wdn K V t s = false := fun s => decide_eq_false (fun q => by rw [k1] at q; exact absurd q.1 (by decide))
  have n1 : ∀ s : Int32, s ≠ 28 → s ≠ 23 → sgn K V (t + 1) s = false := fun s q1 q2 => decide_eq_false (fun q => by
    rcases kv with kv | kv
    · rw [kv] at q; exact q1 q.2.symm
    · rw [kv] at q; exact q2 q.2.symm)
  have hl : lvl K V (t + 1) = -1 := by
    unfold lvl
    rw [if_pos k4]
    rcases kv with kv | kv <;> rw [kv] <;> decide
  refine ⟨?_, ?_, ?_, ?_, ?_⟩
  · show rh_expression K V r t o = none ∨ rh_expression K V r t o = some (some (t + 1))
    unfold rh_expression
    rcases h2 with e | e
    · rw [e]; exact Or.inl rfl
    · rw [e, rb_yes, n1 30 (by decide) (by decide)]; exact Or.inr rfl
  · show rh_chain K V fu r t o = none ∨ rh_chain K V fu r t o = some (some (t + 1))
    unfold rh_chain
    rcases h7 with e | e
    · rw [e]; exact Or.inl rfl
    · rw [e, rb_yes]
      cases fu with
      | zero => exact Or.inl rfl
      | succ n =>
        show (if lvl K V (t + 1) = -1 then ryes (t + 1) else rb (r 7 (t + 1 + 1) o) (fun t1 => rl_chain K V r o n t1)) = none ∨ (if lvl K V (t + 1) = -1 then ryes (t + 1) else rb (r 7 (t + 1 + 1) o) (fun t1 => rl_chain K V r o n t1)) = some (some (t + 1))
        rw [if_pos hl]
        exact Or.inr rfl
  · show rh_operand K V fu r t o = none ∨ rh_operand K V fu r t o = some (some (t + 1))
    unfold rh_operand
    cases fu with
    | zero => exact Or.inl rfl
    | succ n =>
      show (if sgn K V t 39 = true then rl_un K V r o n (t + 1) else if sgn K V t 43 = true then rl_un K V r o n (t + 1) else if sgn K V t 44 = true then rl_un K V r o n (t + 1) else r 8 t o) = none ∨ (if sgn K V t 39 = true then rl_un K V r o n (t + 1) else if sgn K V t 43 = true then rl_un K V r o n (t + 1) else if sgn K V t 44 = true then rl_un K V r o n (t + 1) else r 8 t o) = some (some (t + 1))
      rw [ns 39, ns 43, ns 44]
      exact h8
  · show rh_plain K V r t o = none ∨ rh_plain K V r t o = some (some (t + 1))
    unfold rh_plain
    rw [ns 22, nw 13, if_neg (n_ne 1 3 K t k1 (by decide)), if_neg (by decide), if_neg (by decide), if_pos k1]
    exact h6
  · show rh_tail K V r (t + 1) o = none ∨ rh_tail K V r (t + 1) o = some (some (t + 1))
    unfold rh_tail
    rw [n1 22 (by decide) (by decide), n1 24 (by decide) (by decide)]
    exact Or.inr rfl

