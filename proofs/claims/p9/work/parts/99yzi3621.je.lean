/-- the signs ahead of an operand, on both sides -/
def jUs (b j0 : Nat) (w v : Nat → Int32) : List (Int32 × Int32) → Prop
  | [] => True
  | e :: l => jUs b j0 w v l ∧ w (b + l.length) = e.1 ∧ v (j0 + l.length) = e.2 ∧ ((e.2 = 39 ∧ e.1 = 64) ∨ (e.2 = 43 ∧ e.1 = 62) ∨ (e.2 = 44 ∧ e.1 = 63))
theorem jUs.keep {b j0 : Nat} {w v w1 : Nat → Int32} : ∀ {l : List (Int32 × Int32)}, jUs b j0 w v l → (∀ k : Nat, k < b + l.length → w1 k = w k) → jUs b j0 w1 v l := by
  intro l
  induction l with
  | nil => exact fun _ _ => trivial
  | cons e l ih =>
    rintro ⟨h0, h1, h2, h3⟩ c
    have hl : (e :: l).length = l.length + 1 := rfl
    exact ⟨ih h0 (fun k hk => c k (by omega)), (c _ (by omega)).trans h1, h2, h3⟩
/-- the reference's steps for them -/
def EML : List (Int32 × Int32) → PF → PG → PF → PG → Prop
  | [], F, G, F1, G1 => F = F1 ∧ G = G1
  | e :: l, F, G, F1, G1 => ∃ (F' : PF) (G' : PG), EMM 11 e.2 0 F G F' G' ∧ EML l F' G' F1 G1
theorem EML.kx : ∀ {l : List (Int32 × Int32)} {F F1 : PF} {G G1 : PG}, EML l F G F1 G1 → KX [60] [56, 57, 58, 59] F G F1 G1 := by
  intro l
  induction l with
  | nil =>
    rintro F F1 G G1 ⟨rfl, rfl⟩
    exact KX.rf
  | cons e l ih =>
    rintro F F1 G G1 ⟨F', G', h1, h2⟩
    exact KX.tr (KX.tr KX.rf h1.1 rfl rfl) (ih h2) rfl rfl
theorem mp_pre {fu : Nat} {rc : RC} {b j0 : Nat} {w : Nat → Int32} (hj : j0 ≤ 4000) : ∀ (us : List (Int32 × Int32)) (m : Nat) (x3 : Int32) (F : PF) (G : PG), x3.toInt = (j0 : Int) + us.length - 1 → us.length ≤ 4000 → jUs b j0 w (G 5) us → PP (ml_operand_63 fu rc m (nI j0) x3 F G) (fun r F' G' => r = 1 ∧ EML us F G F' G') := by
  have n0 : (nI j0).toInt = j0 := nI_toInt (by omega)
  intro us
  induction us with
  | nil =>
    intro m x3 F G h hn hu
    have hl : ([] : List (Int32 × Int32)).length = 0 := rfl
    cases m with
    | zero => exact PP.no
    | succ m =>
      show PP (mb_operand_63 fu rc (ml_operand_63 fu rc m) (nI j0) x3 F G) _
      unfold mb_operand_63 mb_operand_88
      rw [if_pos (show x3 < nI j0 from i_lt.mpr (by omega))]
      exact PP.ret ⟨rfl, rfl, rfl⟩
  | cons e l ih =>
    intro m x3 F G h hn hu
    have hl : (e :: l).length = l.length + 1 := rfl
    obtain ⟨h0, -, h2, -⟩ := hu
    cases m with
    | zero => exact PP.no
    | succ m =>
      show PP (mb_operand_63 fu rc (ml_operand_63 fu rc m) (nI j0) x3 F G) _
      unfold mb_operand_63
      rw [if_neg (show ¬ x3 < nI j0 from fun z => absurd (i_lt.mp z) (by omega))]
      unfold mb_operand_68
      refine PP.ix (fun _ => ?_)
      rw [show x3.toNatClampNeg = j0 + l.length by show x3.toInt.toNat = _; omega, h2]
      refine PP.bind (mp_em 11 e.2 0 F G) ?_
      rintro r F' G' ⟨-, -, m2, -⟩
      dsimp only
      unfold mb_operand_81
      have e1 : (x3 + (-1)).toInt = x3.toInt + (-1) := i_addn _ rfl (by omega) (by omega)
      refine PP.mono (ih m (x3 + (-1)) F' G' (by omega) (by omega) (by rw [m2.1.2 5 rfl]; exact h0)) (fun r2 F2 G2 w => ⟨w.1, F', G', m2, w.2⟩)
theorem JP.isSS {fu : Nat} {s : Int32} {F : PF} {G : PG} {a : PR} {f g : Int32 × PF × PG → PR} {Q : Int32 → PF → PG → Int32 → PF → PG → Prop} (h1 : sgn (G 4) (G 5) (F 42) s = true → JP a ((g (1, F, G)).bind f) Q) (h0 : sgn (G 4) (G 5) (F 42) s = false → JP a ((g (0, F, G)).bind f) Q) : JP a (((mf_isSign fu s F G).bind g).bind f) Q := by
  rw [Option.bind_assoc]
  exact JP.isS h1 h0
section JE21
variable {fu : Nat} {X : JCX} {p : Int32} {N K n q nf t i : Nat} {s : SH} {Fc Fm : PF} {Gc Gm : PG} {ag : Int32 → Int32 → Int32 → PF → PG → PR} {g : Int32 × PF × PG → PR} {Q : Int32 → PF → PG → Int32 → PF → PG → Prop}
theorem je_ahead {dm dc j0 : Nat} {x3 : Int32} {ps : List JPE} (I : jIn X p N K n q nf t i Fc Gc Fm Gm) (hQ : ∀ (r1 : Int32) (F1 : PF) (G1 : PG) (r2 : Int32) (F2 : PF) (G2 : PG), jEnd F1 F2 → Q r1 F1 G1 r2 F2 G2) (hag : ∀ (F0 : PF) (x1 x2 x3 : Int32) (F : PF) (G : PG), CFS F0 F → PP (ag x1 x2 x3 F G) (fun _ F' _ => CFS F0 F')) (hg : ∀ (F0 : PF) (r : Int32) (F : PF) (G : PG), MFS F0 F → PP (g (r, F, G)) (fun _ F' _ => MFS F0 F')) (H : ∀ (us : List (Int32 × Int32)) (κ : Int) (j : Nat) (F1 : PF) (G1 : PG) (F2 : PF) (G2 : PG), jCh X p N i j κ s (jPs s ps) ps us.length Fc Gc Fm Gm F1 G1 F2 G2 → κ + ps.length + us.length ≤ 0 → j = j0 + us.length → jUs ((Fc 21).toInt.toNat + jCn ps) j0 (G1 20) (Gm 5) us → JP (cb_X3_joinedOperands_85 fu (cS1 fu dc) ag (Fc 21) x3 F1 G1) ((mb_operand_45 fu (mS1 fu dm) (nI j0) F2 G2).bind g) Q) : ∀ (m mm : Nat) (us : List (Int32 × Int32)) (κ : Int) (j : Nat) (x4 : Int32) (F1 : PF) (G1 : PG) (F2 : PF) (G2 : PG), jCh X p N i j κ s (jPs s ps) ps us.length Fc Gc Fm Gm F1 G1 F2 G2 → κ + ps.length + us.length ≤ 0 → j = j0 + us.length → jUs ((Fc 21).toInt.toNat + jCn ps) j0 (G1 20) (Gm 5) us → x4 = nI us.length → JP (cl_X3_joinedOperands_23 fu (cS1 fu dc) ag m (Fc 21) x3 x4 F1 G1) ((ml_operand_5 fu (mS1 fu dm) mm (nI j0) F2 G2).bind g) Q := by
  have z1 := I.2.1.2.2.1.1
  have l4 : (4001 : Int32).toInt = 4001 := rfl
  intro m
  induction m with
  | zero =>
    intro mm us κ j x4 F1 G1 F2 G2 h hk hj hu hx4
    exact JP.noL
  | succ m ih =>
    intro mm us κ j x4 F1 G1 F2 G2 h hk hj hu hx4
    rw [hx4]
    cases mm with
    | zero => exact (JP.noR : JP _ none Q)
    | succ mm =>
      have I1 := h.inn I (by omega)
      obtain ⟨h1, ⟨h2, h2'⟩, h4, h5⟩ := id h
      obtain ⟨pl0, pl1, pl2⟩ := I1.2.1.1.place I1.1.1
      have g5 : G2 5 = Gm 5 := h1.1.2.2 5 rfl
      have g6 : G2 6 = Gm 6 := h1.1.2.2 6 rfl
      rw [pl2, g6] at pl1
      have ix := I1.2.1.1.ix I1.1.1
      have s39 := I1.sg (w := 39) (a := 58) (b := 39) (by decide) (by decide) (by decide)
      have s43 := I1.sg (w := 43) (a := 62) (b := 43) (by decide) (by decide) (by decide)
      have s44 := I1.sg (w := 44) (a := 63) (b := 44) (by decide) (by decide) (by decide)
      have nl : (nI us.length).toInt = us.length := nI_toInt (by omega)
      have val : ∀ a : Int32, sgn (G2 4) (G2 5) (F2 42) a = true → G2 5 j = a := fun a y => by
        have q := of_decide_eq_true y
        rw [ix] at q
        exact q.2
      show JP (cb_X3_joinedOperands_23 fu (cS1 fu dc) ag (cl_X3_joinedOperands_23 fu (cS1 fu dc) ag m) (Fc 21) x3 (nI us.length) F1 G1) ((mb_operand_5 fu (mS1 fu dm) (ml_operand_5 fu (mS1 fu dm) mm) (nI j0) F2 G2).bind g) Q
      unfold cb_X3_joinedOperands_23
      rw [if_neg (show ¬ (4001 : Int32) ≤ nI us.length from fun z => absurd (i_le.mp z) (by omega))]
      unfold cb_X3_joinedOperands_31
      refine JP.L (cp_ahead (F1 11) F1 G1) ?_
      rintro r _ _ ⟨rfl, rfl, hr⟩
      dsimp only
      unfold mb_operand_5
      rcases hr with ⟨rfl, hr⟩ | ⟨rfl, n1, n2, n3⟩
      · unfold cb_X3_joinedOperands_41
        rw [if_neg i10n]
        have li : j < N := by
          rcases hr with z | z | z
          · exact I1.2.1.1.ltS I1.1.1 (s39.mp z)
          · exact I1.2.1.1.ltS I1.1.1 (s43.mp z)
          · exact I1.2.1.1.ltS I1.1.1 (s44.mp z)
        have go : ∀ (c a : Int32), ((a = 39 ∧ c = 64) ∨ (a = 43 ∧ c = 62) ∨ (a = 44 ∧ c = 63)) → G2 5 j = a → JP (cb_X3_joinedOperands_69 fu (cS1 fu dc) ag (cl_X3_joinedOperands_23 fu (cS1 fu dc) ag m) (Fc 21) x3 (nI us.length) c F1 G1) ((mb_operand_32 fu (mS1 fu dm) (ml_operand_5 fu (mS1 fu dm) mm) (nI j0) F2 G2).bind g) Q := by
          intro c a hca hv
          have nc : ¬ c = 43 ∧ ¬ c = 44 := by
            rcases hca with ⟨-, z⟩ | ⟨-, z⟩ | ⟨-, z⟩
            · rw [z]; decide
            · rw [z]; decide
            · rw [z]; decide
          have lt4 := (I1.1.1.2.2.2.1 j li).2.2.2
          rw [g6] at lt4
          have n4 := I1.1.1.1.2.1
          have i21 : (F1 21).toNatClampNeg = (Fc 21).toInt.toNat + jCn ps + us.length := by
            show (F1 21).toInt.toNat = _
            omega
          unfold cb_X3_joinedOperands_69 mb_operand_32 mb_operand_42
          refine JP.L (cp_wait1 c (by omega) nc.1 nc.2) ?_
          rintro _ _ _ ⟨rfl, rfl⟩
          dsimp only
          unfold cb_X3_joinedOperands_72
          have kc : KX [21] [20] F1 G1 (fup F1 21 (F1 21 + 1)) (gup G1 20 (F1 21).toNatClampNeg c) := KX.f rfl (KX.g rfl KX.rf)
          have S3 := I1.1.keep (KX.tr KX.rf kc rfl rfl) (KX.rf (a := jXm) (b := jYm))
          have C3 := I1.2.1.1.kx kc rfl rfl
          refine JP.L (jo_next S3.1 C3 li) ?_
          rintro _ F5 G5 (o | o)
          · dsimp only
            have f1 : (F1 21 + 1).toInt = (F1 21).toInt + 1 := i_addn _ rfl (by omega) (by omega)
            have low : ∀ k : Nat, (k : Int) < (F1 21).toInt → gup G1 20 (F1 21).toNatClampNeg c 20 k = G1 20 k := fun k hk => gup_x (by rw [i21]; omega)
            obtain ⟨u1, ⟨u2, rfl, u4, -⟩, u6⟩ := h1.push (w := 1) I (by omega) h2' (by omega) li (I.1.t1 li) kc (KX.rf (a := [70]) (b := [67, 68, 69])) (by rw [fup_s]; exact f1) low (fun _ _ => ⟨rfl, rfl, rfl⟩) o
            unfold cb_X3_joinedOperands_79
            rw [nI_s us.length (by omega)]
            have hl : ((c, a) :: us).length = us.length + 1 := rfl
            refine ih mm ((c, a) :: us) _ (j + 1) _ F5 _ _ _ ⟨u1, ⟨by rw [u2, fup_s]; omega, u6⟩, by rw [u4]; exact h4, h5.keep (fun k hk => low k (by omega)) (fun _ _ => ⟨rfl, rfl, rfl⟩)⟩ (by omega) (by omega) ⟨hu.keep (fun k hk => low k (by omega)), ?_, ?_, hca⟩ rfl
            · rw [← i21]
              exact gup_i
            · rw [← hj, ← g5]
              exact hv
          · dsimp only
            exact JP.fin (kqj_X3_joinedOperands_79 _ (kqS1 dc) ag (hag F5) _ (kqz_X3_joinedOperands_23 _ (kqS1 dc) ag (hag F5) m) _ _ _ F5 G5 CFS.rf) (PP.bind (nqz_operand_5 _ (nqS1 dm) mm _ _ _ MFS.rf) (fun r F G y => hg _ r F G y)) (.inr o) hQ
        unfold cb_X3_joinedOperands_44
        rcases hr with z | z | z
        · have y := s39.mp z
          rw [if_pos z]
          unfold cb_X3_joinedOperands_57
          refine JP.isSS (fun _ => ?_) (fun w => by rw [y] at w; cases w)
          dsimp only
          unfold mb_operand_11
          rw [if_neg i10n]
          exact go 64 39 (.inl ⟨rfl, rfl⟩) (val _ y)
        · have y := s43.mp z
          rw [if_neg (show ¬ F1 11 = 58 by rw [z]; decide)]
          unfold cb_X3_joinedOperands_62
          rw [z]
          refine JP.isSS (fun w => absurd (s39.mpr w) (by rw [z]; decide)) (fun _ => ?_)
          dsimp only
          unfold mb_operand_11
          rw [if_pos rfl]
          unfold mb_operand_14
          refine JP.isSS (fun _ => ?_) (fun w => by rw [y] at w; cases w)
          dsimp only
          unfold mb_operand_20
          rw [if_neg i10n]
          exact go 62 43 (.inr (.inl ⟨rfl, rfl⟩)) (val _ y)
        · have y := s44.mp z
          rw [if_neg (show ¬ F1 11 = 58 by rw [z]; decide)]
          unfold cb_X3_joinedOperands_62
          rw [z]
          refine JP.isSS (fun w => absurd (s39.mpr w) (by rw [z]; decide)) (fun _ => ?_)
          dsimp only
          unfold mb_operand_11
          rw [if_pos rfl]
          unfold mb_operand_14
          refine JP.isSS (fun w => absurd (s43.mpr w) (by rw [z]; decide)) (fun _ => ?_)
          dsimp only
          unfold mb_operand_20
          rw [if_pos rfl]
          unfold mb_operand_23
          refine JP.isSS (fun _ => ?_) (fun w => by rw [y] at w; cases w)
          dsimp only
          unfold mb_operand_29
          rw [if_neg i10n]
          exact go 63 44 (.inr (.inr ⟨rfl, rfl⟩)) (val _ y)
      · unfold cb_X3_joinedOperands_41
        rw [if_pos rfl]
        refine JP.isSS (fun w => absurd (s39.mpr w) n1) (fun _ => ?_)
        dsimp only
        unfold mb_operand_11
        rw [if_pos rfl]
        unfold mb_operand_14
        refine JP.isSS (fun w => absurd (s43.mpr w) n2) (fun _ => ?_)
        dsimp only
        unfold mb_operand_20
        rw [if_pos rfl]
        unfold mb_operand_23
        refine JP.isSS (fun w => absurd (s44.mpr w) n3) (fun _ => ?_)
        dsimp only
        unfold mb_operand_29
        rw [if_pos rfl]
        exact H us κ j F1 G1 F2 G2 h hk hj hu
end JE21
