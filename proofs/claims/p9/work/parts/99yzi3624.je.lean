section JE24
variable {fu : Nat} {X : JCX} {p : Int32} {N K n q nf t i : Nat} {s : SH} {Fc Fm : PF} {Gc Gm : PG}
theorem je_plainD {dm dc : Nat} (ihE : ∀ d : Nat, d < dm → jPx fu X p N K n q nf t 1 4 d) (I : jIn X p N K n q nf t i Fc Gc Fm Gm) : JP (cS1 fu dc 5 0 0 Fc Gc) (mS1 fu dm 8 0 0 Fm Gm) (fun _ F1 G1 r2 F2 G2 => jOut X p N i 0 s (0 :: s) Fc Gc Fm Gm r2 F1 G1 F2 G2) := by
  cases dc with
  | zero => exact JP.noL
  | succ dc =>
    cases dm with
    | zero => exact JP.noR
    | succ dm =>
      show JP (ch_X3_operand fu (cS1 fu dc) Fc Gc) (mh_plain fu (mS1 fu dm) Fm Gm) _
      exact je_plain (fun d hd => ihE d (by omega)) I
/-- operands and the signs between them -/
theorem je_join {d dc : Nat} (ihE : ∀ e : Nat, e < d → jPx fu X p N K n q nf t 1 4 e) (I : jIn X p N K n q nf t i Fc Gc Fm Gm) : ∀ (m mm : Nat) (ps : List JPE) (κ : Int) (k j : Nat) (x3 : Int32) (F1 : PF) (G1 : PG) (F2 : PF) (G2 : PG), jCh X p N i j κ s (jPs s ps) ps 0 Fc Gc Fm Gm F1 G1 F2 G2 → κ + ps.length ≤ 0 → k ≤ j → x3 = nI k → JP (cl_X3_joinedOperands_9 fu (cS1 fu dc) m (Fc 21) 1 x3 F1 G1) ((mS1 fu (d + 1) 7 0 0 F2 G2).bind (fun q => ml_chain_10 fu (mS1 fu (d + 1)) mm (Fm 70) q.1 q.2.1 q.2.2)) (fun _ F1 G1 r2 F2 G2 => jOut X p N i 0 s (0 :: s) Fc Gc Fm Gm r2 F1 G1 F2 G2) := by
  have z1 := I.2.1.2.2.1.1
  have z2 := I.2.1.2.2.2.2.2
  have l4 : (4001 : Int32).toInt = 4001 := rfl
  have l43 : (43 : Int32).toInt = 43 := rfl
  have l61 : (61 : Int32).toInt = 61 := rfl
  have l0 : (0 : Int32).toInt = 0 := rfl
  have lm : (-1 : Int32).toInt = -1 := rfl
  have hQ : ∀ (r1 : Int32) (F1 : PF) (G1 : PG) (r2 : Int32) (F2 : PF) (G2 : PG), jEnd F1 F2 → jOut X p N i 0 s (0 :: s) Fc Gc Fm Gm r2 F1 G1 F2 G2 := fun _ _ _ _ _ _ w => .inr w
  have hbg : ∀ (mm : Nat) (F0 : PF) (x1 x2 : Int32) (F : PF) (G : PG), MFS F0 F → PP (ml_chain_10 fu (mS1 fu (d + 1)) mm x1 x2 F G) (fun _ F' _ => MFS F0 F') := fun mm F0 x1 x2 F G y => nqz_chain_10 _ (nqS1 (d + 1)) mm x1 x2 F G y
  intro m
  induction m with
  | zero =>
    intro mm ps κ k j x3 F1 G1 F2 G2 h hk hkj hx
    exact JP.noL
  | succ m ih =>
    intro mm ps κ k j x3 F1 G1 F2 G2 h hk hkj hx
    rw [hx]
    have I1 := h.inn I (by omega)
    have jN : j ≤ N := I1.2.1.1.1
    have N4 : N ≤ 4000 := by
      have a := I.1.1.1.1
      have b := I.1.1.1.2.1
      omega
    have e42 : F2 42 = nI j := I1.2.1.1.2.2.1
    have nk : (nI k).toInt = k := nI_toInt (by omega)
    have hag : ∀ (F0 : PF) (x1 x2 x3 : Int32) (F : PF) (G : PG), CFS F0 F → PP (cl_X3_joinedOperands_9 fu (cS1 fu dc) m x1 x2 x3 F G) (fun _ F' _ => CFS F0 F') := fun F0 x1 x2 x3 F G y => kqz_X3_joinedOperands_9 _ (kqS1 dc) m x1 x2 x3 F G y
    show JP (cb_X3_joinedOperands_9 fu (cS1 fu dc) (cl_X3_joinedOperands_9 fu (cS1 fu dc) m) (Fc 21) 1 (nI k) F1 G1) ((mh_operand fu (mS1 fu d) F2 G2).bind (fun q => ml_chain_10 fu (mS1 fu (d + 1)) mm (Fm 70) q.1 q.2.1 q.2.2)) _
    unfold cb_X3_joinedOperands_9
    rw [if_neg (show ¬ (4001 : Int32) ≤ nI k from fun z => absurd (i_le.mp z) (by omega))]
    unfold cb_X3_joinedOperands_16
    rw [if_neg i10n]
    unfold cb_X3_joinedOperands_20 mh_operand mb_operand_0
    rw [e42]
    have hl0 : ([] : List (Int32 × Int32)).length = 0 := rfl
    refine je_ahead (j0 := j) I hQ hag (fun F0 r F G y => hbg mm F0 _ _ F G y) ?_ fu fu [] κ j 0 F1 G1 F2 G2 h (by omega) rfl trivial rfl
    intro us κ' j' F3 G3 F4 G4 h3 hk3 hj3 hu3
    have I3 := h3.inn I (by omega)
    have jN3 : j' ≤ N := I3.2.1.1.1
    unfold cb_X3_joinedOperands_85 mb_operand_45
    rw [Option.bind_assoc]
    refine JP.both (je_plainD (s := jPs s ps) ihE I3) ?_
    rintro r5 F5 G5 r6 F6 G6 (⟨rfl, l, a3⟩ | a3)
    · dsimp only
      have h6 := h3.op I a3
      have I6 := h6.inn I (by omega)
      have jl : j' ≤ l := a3.2.2.1.1
      unfold mb_operand_54
      rw [if_neg i10n]
      unfold mb_operand_59
      have g64 : G6 4 = Gm 4 := h6.1.1.2.2 4 rfl
      have g65 : G6 5 = Gm 5 := h6.1.1.2.2 5 rfl
      have g66 : G6 6 = Gm 6 := h6.1.1.2.2 6 rfl
      have e4 : F4 42 = nI j' := I3.2.1.1.2.2.1
      have nj : (nI j').toInt = j' := nI_toInt (by omega)
      have x4 : (F4 42 - 1).toInt = (j : Int) + us.length - 1 := by
        have := i_subn (nI j') (n := 1) (m := 1) rfl (by omega) (by omega)
        rw [e4]
        omega
      refine JP.R (mp_pre (b := (Fc 21).toInt.toNat + jCn ps) (w := G3 20) (by omega) us fu (F4 42 - 1) F6 G6 x4 (by omega) (by rw [g65]; exact hu3)) ?_
      rintro r7 F7 G7 ⟨rfl, el⟩
      dsimp only
      cases mm with
      | zero => exact JP.noR
      | succ mm =>
        show JP _ (mb_chain_10 fu (mS1 fu (d + 1)) (ml_chain_10 fu (mS1 fu (d + 1)) mm) (Fm 70) 1 F7 G7) _
        unfold mb_chain_10
        rw [if_neg i10n]
        unfold mb_chain_14
        have kl := el.kx
        refine JP.R (mp_level F7 G7) ?_
        rintro lv _ _ ⟨rfl, rfl, hlv⟩
        rw [kl.2 4 rfl, kl.2 5 rfl, kl.1 42 rfl] at hlv
        dsimp only
        unfold mb_chain_18
        have n21 := h3.2.1.1
        have m21 := h6.2.1.1
        have c21 := h6.2.1.2
        obtain ⟨pl0, pl1, pl2⟩ := I6.2.1.1.place I6.1.1
        rw [pl2, g66] at pl1
        have us5 : jUs ((Fc 21).toInt.toNat + jCn ps) j (G5 20) (Gm 5) us := hu3.keep (fun k hk => a3.2.2.2.2.1.2 k (by omega))
        rcases I6.lv with ⟨v, v0, v1, t4, t5, c11, q1⟩ | ⟨q1, q2⟩
        · have lN : l < N := I6.2.1.1.lt I6.1.1 (by rw [t4]; decide)
          obtain ⟨k1, k2⟩ := kS_lv v v0
          obtain ⟨st, lo, hi⟩ := k2 v1
          obtain ⟨b1, b2⟩ := k1.mpr v1
          rw [hlv, q1]
          have c11' : (F5 11).toInt = (kS v).toInt := by rw [c11]
          unfold cb_X3_joinedOperands_89
          rw [if_neg (show ¬ F5 11 < 43 from fun z => absurd (i_lt.mp z) (by omega))]
          unfold cb_X3_joinedOperands_101
          rw [if_neg (show ¬ (61 : Int32) < F5 11 from fun z => absurd (i_lt.mp z) (by omega))]
          unfold cb_X3_joinedOperands_113 cb_X3_joinedOperands_118
          rw [if_neg i10n]
          unfold cb_X3_joinedOperands_123
          refine JP.L (cp_str (F5 11) F5 G5) ?_
          rintro st' _ _ ⟨rfl, rfl, rfl⟩
          dsimp only
          unfold cb_X3_joinedOperands_135 cf_X3_settle cb_X3_settle_0
          refine je_peel (j0 := j) (v := Gm 5) I (by rw [c11]; omega) ?_ us fu _ 0 F5 G5 F6 G6 h6 (by omega) (Int.le_refl _) (by omega) us5 el
          intro m2 κ2 x32 F8 G8 h8 hk8 h08 h38
          refine je_settle I (by rw [c11]; omega) ?_ ps m2 fu κ2 x32 F8 G8 F7 G7 h8 hk8 h08 h38
          intro ps9 κ9 F9 G9 Fx Gx h9 hk9 _
          dsimp only
          have I9 := h9.inn I (by omega)
          have c9 : F9 11 = kS v := by
            have y1 : F9 11 = G9 90 l := I9.2.1.1.2.2.2.2.2.2.2.2.1
            have y2 : F5 11 = G5 90 l := I6.2.1.1.2.2.2.2.2.2.2.2.1
            have y3 : G9 90 = Gc 90 := h9.1.1.1.2 90 rfl
            have y4 : G5 90 = Gc 90 := h6.1.1.1.2 90 rfl
            rw [y1, y3, ← y4, ← y2]
            exact c11
          exact je_more I hQ hag (hbg mm) h9 hk9 v0 v1 (by rw [← g64]; exact t4) (by rw [← g65]; exact t5) c9 lN (fun ps κ F1 G1 F2 G2 ha hka => by rw [nI_s k (by omega)]; exact ih mm ps κ (k + 1) (l + 1) (nI (k + 1)) F1 G1 F2 G2 ha hka (by omega) rfl)
        · rw [hlv, q1]
          have k162 : JP (cb_X3_joinedOperands_162 fu (cS1 fu dc) (Fc 21) F5 G5) (ml_chain_19 fu (mS1 fu (d + 1)) (ml_chain_10 fu (mS1 fu (d + 1)) mm) fu (Fm 70) (-1) F7 G7) (fun _ F1 G1 r2 F2 G2 => jOut X p N i 0 s (0 :: s) Fc Gc Fm Gm r2 F1 G1 F2 G2) := by
            unfold cb_X3_joinedOperands_162 cf_X3_settle cb_X3_settle_0
            refine je_peel (j0 := j) (v := Gm 5) I (by omega) ?_ us fu _ 0 F5 G5 F6 G6 h6 (by omega) (Int.le_refl _) (by omega) us5 el
            intro m2 κ2 x32 F8 G8 h8 hk8 h08 h38
            refine je_settle I (by omega) ?_ ps m2 fu κ2 x32 F8 G8 F7 G7 h8 hk8 h08 h38
            intro ps9 κ9 F9 G9 Fx Gx h9 hk9 hno
            have e9 : ps9 = [] := by
              cases ps9 with
              | nil => rfl
              | cons e l' =>
                exfalso
                have y := hno e l' rfl
                obtain ⟨-, -, -, -, ⟨e1, e2, -⟩, -⟩ := h9
                have y2 := (kS_lv e.1 e1).2 e2
                omega
            rw [e9] at h9 hk9
            dsimp only
            unfold cb_X3_joinedOperands_168 mb_chain_49
            rw [if_pos rfl]
            unfold mb_chain_54
            obtain ⟨a1, ⟨a2, -⟩, a4, -⟩ := h9
            have j0 : jCn [] = 0 := rfl
            have j1 : ([] : List JPE).length = 0 := rfl
            have b1 : F9 21 = Fc 21 := i_eq.mpr (by omega)
            have b2 : Fx 70 = Fm 70 := i_eq.mpr (by omega)
            rw [← b1, fup_sm, ← b2, fup_sm] at a1
            exact JP.ret (.inl ⟨rfl, l, a1.le (by omega)⟩)
          have fin : JP (cb_X3_joinedOperands_117 fu (cS1 fu dc) (cl_X3_joinedOperands_9 fu (cS1 fu dc) m) (Fc 21) (nI k) F5 G5) (ml_chain_19 fu (mS1 fu (d + 1)) (ml_chain_10 fu (mS1 fu (d + 1)) mm) fu (Fm 70) (-1) F7 G7) (fun _ F1 G1 r2 F2 G2 => jOut X p N i 0 s (0 :: s) Fc Gc Fm Gm r2 F1 G1 F2 G2) := by
            unfold cb_X3_joinedOperands_117 cb_X3_joinedOperands_118
            rw [if_pos rfl]
            unfold cb_X3_joinedOperands_156
            clear ih hag
            cases m with
            | zero => exact JP.noL
            | succ m =>
              show JP (cb_X3_joinedOperands_9 fu (cS1 fu dc) (cl_X3_joinedOperands_9 fu (cS1 fu dc) m) (Fc 21) 0 (nI k + 1) F5 G5) _ _
              unfold cb_X3_joinedOperands_9
              by_cases c : (4001 : Int32) ≤ nI k + 1
              · rw [if_pos c]
                exact k162
              · rw [if_neg c]
                unfold cb_X3_joinedOperands_16
                rw [if_pos rfl]
                exact k162
          unfold cb_X3_joinedOperands_89
          by_cases c : F5 11 < 43
          · rw [if_pos c]
            exact fin
          · rw [if_neg c]
            unfold cb_X3_joinedOperands_101
            have y := mt i_lt.mpr c
            rw [if_pos (show (61 : Int32) < F5 11 from i_lt.mpr (by omega))]
            exact fin
    · dsimp only
      exact JP.fin (kqj_X3_joinedOperands_89 _ (kqS1 dc) _ (hag F5) _ _ F5 G5 CFS.rf) (PP.bind (nqj_operand_54 _ (nqS1 d) _ _ r6 F6 G6 MFS.rf) (fun r F G y => hbg mm _ _ _ F G y)) a3 hQ
theorem je_chain {d dc : Nat} (ihE : ∀ e : Nat, e < d → jPx fu X p N K n q nf t 1 4 e) (I : jIn X p N K n q nf t i Fc Gc Fm Gm) : JP (ch_X3_joinedOperands fu (cS1 fu dc) Fc Gc) (mh_chain fu (mS1 fu (d + 1)) Fm Gm) (fun _ F1 G1 r2 F2 G2 => jOut X p N i 0 s (0 :: s) Fc Gc Fm Gm r2 F1 G1 F2 G2) := by
  unfold ch_X3_joinedOperands cb_X3_joinedOperands_0 mh_chain mb_chain_0 mb_chain_9
  exact je_join ihE I fu fu [] 0 0 i 0 Fc Gc Fm Gm (jCh.rf I) (by show (0 : Int) + ((0 : Nat) : Int) ≤ 0; omega) (Nat.zero_le _) rfl
/-- expressions are alike, at any depth -/
theorem jPx_all : ∀ dm : Nat, jPx fu X p N K n q nf t 1 4 dm := by
  intro dm
  induction dm using Nat.strongRecOn with
  | ind dm ih =>
    intro dc i s Fc Gc Fm Gm I
    cases dc with
    | zero => exact JP.noL
    | succ dc =>
      cases dm with
      | zero => exact JP.noR
      | succ dm =>
        show JP (ch_X3_expression fu (cS1 fu dc) Fc Gc) (mh_expression fu (mS1 fu dm) Fm Gm) _
        refine je_expression ?_ (ih dm (Nat.lt_succ_self _)) I
        intro dc i s Fc Gc Fm Gm I
        cases dc with
        | zero => exact JP.noL
        | succ dc =>
          cases dm with
          | zero => exact JP.noR
          | succ d =>
            show JP (ch_X3_joinedOperands fu (cS1 fu dc) Fc Gc) (mh_chain fu (mS1 fu d) Fm Gm) _
            cases d with
            | zero =>
              unfold mh_chain mb_chain_0
              exact (JP.noR : JP _ none _)
            | succ d => exact je_chain (fun e he => ih e (by omega)) I
end JE24
