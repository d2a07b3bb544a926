theorem JP.wR {a b : PR} {Q : Int32 → PF → PG → Int32 → PF → PG → Prop} {V : Int32 → PF → PG → Prop} (h : JP a b Q) (k : PP b V) : JP a b (fun r1 F1 G1 r2 F2 G2 => Q r1 F1 G1 r2 F2 G2 ∧ V r2 F2 G2) := fun r1 F1 G1 r2 F2 G2 e1 e2 => ⟨h r1 F1 G1 r2 F2 G2 e1 e2, k r2 F2 G2 e2⟩
/-- whether a name may stand there: e an entry, g a function; '(' or '[' behind it -/
def jGd (cn : Int32) (nf t : Nat) (Gm : PG) (m f : Int32) (pa sq : Bool) : Prop :=
  (¬ cn = 0 ∧ pa = false ∧ sq = false ∧ ∃ e : Nat, e < t ∧ m = nI e ∧ Gm 17 e = 0) ∨
  (cn = 0 ∧ ((pa = false ∧ ∃ e : Nat, e < t ∧ m = nI e ∧ ((Gm 17 e = 2 ∧ sq = true) ∨ (¬ Gm 17 e = 2 ∧ sq = false))) ∨ (pa = true ∧ m = -1 ∧ ∃ g : Nat, g < nf ∧ f = nI g ∧ Gm 33 g = 0)))
section JE11
variable {fu : Nat} {N K n q nf t : Nat}
/-- the reference finds a fault at a name -/
theorem mp_nameN {dm : Nat} {x1 m f : Int32} {F : PF} {G : PG} {pa sq : Bool} (u : jSU nf t G) (h14 : (F 14).toInt = t) (h24 : (F 24).toInt = nf) (ht : t ≤ 690) (hn : nf ≤ 449) (h46 : F 46 = 1) (hm : jMn nf t G (G 5 x1.toNatClampNeg) m f) (hpa : pa = sgn (G 4) (G 5) (F 42) 22) (hsq : sq = sgn (G 4) (G 5) (F 42) 24) (nb : ¬ jGd (F 54) nf t G m f pa sq) : PP (mb_plain_190 fu (mS1 fu dm) x1 F G) (fun _ F1 _ => ¬ F1 47 = 0) := by
  have n46 : ¬ F 46 = 0 := by rw [h46]; decide
  have ne1 : ∀ {k : Nat}, k < 690 → ¬ nI k = (-1 : Int32) := fun hk => nI_n1 (by omega)
  have pass : ∀ (z : Int32) (F1 : PF) (G1 : PG), ¬ F1 47 = 0 → PP (mb_plain_210 fu (mS1 fu dm) z F1 G1) (fun _ F1 _ => ¬ F1 47 = 0) := fun z F1 G1 w => by
    unfold mb_plain_210
    exact PP.bz (fun _ => PP.ret w)
  unfold mb_plain_190
  by_cases cn : F 54 = 0
  · rw [if_pos cn]
    unfold mb_plain_205
    refine PP.bind (Q1 := fun _ F1 _ => ¬ F1 47 = 0) ?_ (fun r F1 G1 w => pass r F1 G1 w)
    cases dm with
    | zero => exact PP.no
    | succ dm =>
      show PP (mh_named fu (mS1 fu dm) x1 F G) _
      unfold mh_named mb_named_0
      refine PP.bind (mp_isSign 22 F G) ?_
      rintro z _ _ ⟨rfl, rfl, hz⟩
      dsimp only
      unfold mb_named_6
      rcases hz with ⟨rfl, hz⟩ | ⟨rfl, hz⟩
      · rw [if_neg i10n]
        rw [hz] at hpa
        unfold mb_named_9
        refine PP.bind (Q1 := fun _ F1 _ => ¬ F1 47 = 0) ?_ (fun r F1 G1 w => by unfold mb_named_15; exact PP.bz (fun _ => PP.ret w))
        cases dm with
        | zero => exact PP.no
        | succ dm =>
          show PP (mh_call fu (mS1 fu dm) x1 1 F G) _
          unfold mh_call mb_call_0
          rw [if_neg n46]
          unfold mb_call_11
          refine PP.bind (mp_meanX x1 u h14 h24 (by omega) (by omega) hm) ?_
          rintro m' F2 _ ⟨rfl, kx, rfl, k62⟩
          dsimp only
          have e46 : ¬ F2 46 = 0 := by rw [kx.1 46 rfl]; exact n46
          have e54 : F2 54 = 0 := (kx.1 54 rfl).trans cn
          unfold mb_call_16
          rw [if_neg e46]
          unfold mb_call_28 mb_call_32
          rw [if_pos e54, k62]
          unfold mb_call_41
          rcases hm with ⟨m1, e, e0, m2, -⟩ | ⟨m2, -, ⟨m3, -⟩ | ⟨g, g0, m3, -⟩⟩
          · have nm : ¬ m = -1 := by rw [m2]; exact ne1 (by omega)
            rw [if_neg nm]
            unfold mb_call_63
            rw [if_pos e54]
            unfold mb_call_70
            rw [if_neg nm]
            unfold mb_call_75
            exact PP.ix (fun _ => mp_nt (A := fun F' G' => mb_call_87 fu (mS1 fu dm) x1 1 f F' G') e46 (by decide) (fun F' G' => nqj_call_87 _ (nqS1 dm) x1 1 f F' G' MFS.rf))
          · rw [if_pos m2]
            unfold mb_call_46
            rw [if_pos m3]
            unfold mb_call_52
            exact PP.ix (fun _ => mp_nt (A := fun F' G' => mb_call_63 fu (mS1 fu dm) x1 1 m f F' G') e46 (by decide) (fun F' G' => nqj_call_63 _ (nqS1 dm) x1 1 m f F' G' MFS.rf))
          · have nf1 : ¬ f = -1 := by rw [m3]; exact ne1 (by omega)
            rw [if_pos m2]
            unfold mb_call_46
            rw [if_neg nf1]
            unfold mb_call_63
            rw [if_pos e54]
            unfold mb_call_70
            rw [if_pos m2]
            unfold mb_call_87
            rw [if_pos e54]
            unfold mb_call_94
            rw [if_neg nf1]
            unfold mb_call_100
            rw [if_neg i10n]
            unfold mb_call_104
            refine PP.ix (fun _ => ?_)
            rw [show f.toNatClampNeg = g by show f.toInt.toNat = g; rw [m3, nI_toInt (by omega)]; omega]
            refine PP.ite (fun y => absurd (.inr ⟨cn, .inr ⟨hpa, m2, g, g0, m3, y⟩⟩) nb) (fun _ => ?_)
            unfold mb_call_114
            exact PP.ix (fun _ => mp_nt (A := fun F' G' => mb_call_126 fu (mS1 fu dm) x1 f F' G') e46 (by decide) (fun F' G' => nqj_call_126 _ (nqS1 dm) x1 f F' G' MFS.rf))
      · rw [if_pos rfl]
        rw [hz] at hpa
        unfold mb_named_16
        rw [if_neg n46]
        unfold mb_named_27
        refine PP.bind (mp_meanX x1 u h14 h24 (by omega) (by omega) hm) ?_
        rintro m' F2 _ ⟨rfl, kx, rfl, k62⟩
        dsimp only
        have e46 : ¬ F2 46 = 0 := by rw [kx.1 46 rfl]; exact n46
        have n103 : ∀ x4 : Int32, PP (mb_named_103 fu (mS1 fu dm) x1 m x4 F2 G) (fun _ F1 _ => ¬ F1 47 = 0) := by
          intro x4
          unfold mb_named_103
          exact PP.ix (fun _ => mp_nt (A := fun F' G' => mb_named_115 fu (mS1 fu dm) m x4 F' G') e46 (by decide) (fun F' G' => nqj_named_115 _ (nqS1 dm) m x4 F' G' MFS.rf))
        unfold mb_named_32
        rcases hm with ⟨m1, e, e0, m2, -⟩ | ⟨m2, -, ⟨m3, -⟩ | ⟨g, g0, m3, -⟩⟩
        · have nm : ¬ m = -1 := by rw [m2]; exact ne1 (by omega)
          have em : m.toNatClampNeg = e := by
            show m.toInt.toNat = e
            rw [m2, nI_toInt (by omega)]
            omega
          rw [if_neg nm]
          unfold mb_named_50 mb_named_51
          refine PP.bind (mp_isSign 24 F2 G) ?_
          rintro z _ _ ⟨rfl, rfl, hy⟩
          rw [kx.1 42 rfl] at hy
          dsimp only
          unfold mb_named_58
          rw [if_pos rfl]
          unfold mb_named_78
          rw [if_neg nm]
          unfold mb_named_83
          refine PP.ix (fun _ => ?_)
          rw [em]
          unfold mb_named_95 mb_named_99 mb_named_100
          refine PP.ite (fun c17 => ?_) (fun c17 => ?_)
          · rcases hy with ⟨rfl, hy⟩ | ⟨rfl, hy⟩
            · rw [hy] at hsq
              exact absurd (.inr ⟨cn, .inl ⟨hpa, e, e0, m2, .inl ⟨c17, hsq⟩⟩⟩) nb
            · rw [if_neg (show ¬ (0 : Int32) = 1 by decide)]
              exact n103 0
          · rcases hy with ⟨rfl, hy⟩ | ⟨rfl, hy⟩
            · rw [if_neg i10n]
              exact n103 1
            · rw [hy] at hsq
              exact absurd (.inr ⟨cn, .inl ⟨hpa, e, e0, m2, .inr ⟨c17, hsq⟩⟩⟩) nb
        · rw [if_pos m2]
          unfold mb_named_38
          rw [if_pos (k62.trans m3)]
          unfold mb_named_46 mb_named_51
          refine PP.bind (mp_isSign 24 F2 G) ?_
          rintro z _ _ ⟨rfl, rfl, -⟩
          dsimp only
          unfold mb_named_58
          rw [if_neg i10n]
          unfold mb_named_64
          exact PP.ix (fun _ => mp_nt (A := fun F' G' => mb_named_75 fu (mS1 fu dm) m z F' G') e46 (by decide) (fun F' G' => nqj_named_75 _ (nqS1 dm) m z F' G' MFS.rf))
        · rw [if_pos m2]
          unfold mb_named_38
          rw [if_neg (by rw [k62, m3]; exact ne1 (by omega))]
          unfold mb_named_50 mb_named_51
          refine PP.bind (mp_isSign 24 F2 G) ?_
          rintro z _ _ ⟨rfl, rfl, -⟩
          dsimp only
          unfold mb_named_58
          rw [if_pos rfl]
          unfold mb_named_78
          rw [if_pos m2]
          exact n103 z
  · rw [if_neg cn]
    unfold mb_plain_197
    refine PP.bind (Q1 := fun _ F1 _ => ¬ F1 47 = 0) ?_ (fun r F1 G1 w => by unfold mb_plain_202; exact pass r F1 G1 w)
    cases dm with
    | zero => exact PP.no
    | succ dm =>
      show PP (mh_inConstant fu (mS1 fu dm) x1 F G) _
      unfold mh_inConstant mb_inConstant_0
      rw [if_neg n46]
      unfold mb_inConstant_11
      refine PP.bind (mp_meanX x1 u h14 h24 (by omega) (by omega) hm) ?_
      rintro m' F2 _ ⟨rfl, kx, rfl, k62⟩
      dsimp only
      have e461 : F2 46 = 1 := (kx.1 46 rfl).trans h46
      have e46 : ¬ F2 46 = 0 := by rw [e461]; decide
      have g46 : ¬ F2 46 ≤ 0 := by rw [e461]; decide
      have n125 : ∀ x4 x5 : Int32, PP (mb_inConstant_125 fu (mS1 fu dm) x1 m x4 x5 F2 G) (fun _ F1 _ => ¬ F1 47 = 0) := by
        intro x4 x5
        unfold mb_inConstant_125
        exact PP.ix (fun _ => mp_nt (A := fun F' G' => mb_inConstant_137 fu (mS1 fu dm) x1 m x4 x5 F' G') e46 (by decide) (fun F' G' => nqj_inConstant_137 _ (nqS1 dm) x1 m x4 x5 F' G' MFS.rf))
      -- with what is known of the brackets
      have n80 : ∀ x3 x4 x5 : Int32, (x3 = 1 ∨ (x3 = 0 ∧ (x5 = 0 ∨ ¬ x4 = 0))) → PP (mb_inConstant_80 fu (mS1 fu dm) x1 m x3 x4 x5 F2 G) (fun _ F1 _ => ¬ F1 47 = 0) := by
        intro x3 x4 x5 hx
        unfold mb_inConstant_80
        rw [if_neg g46]
        unfold mb_inConstant_89
        rcases hx with hx | ⟨hx, hy⟩
        · rw [if_neg (by rw [hx]; decide)]
          unfold mb_inConstant_93
          exact PP.ix (fun _ => mp_nt (A := fun F' G' => mb_inConstant_104 fu (mS1 fu dm) x1 m x3 x4 x5 F' G') e46 (by decide) (fun F' G' => nqj_inConstant_104 _ (nqS1 dm) x1 m x3 x4 x5 F' G' MFS.rf))
        · rw [if_pos hx]
          unfold mb_inConstant_104
          rw [if_neg g46]
          unfold mb_inConstant_111
          rw [if_pos hx]
          unfold mb_inConstant_115
          rcases hy with hy | hy
          · rw [if_pos hy]
            exact n125 _ _
          · refine PP.ite (fun _ => n125 _ _) (fun _ => ?_)
            unfold mb_inConstant_120
            rw [if_neg hy]
            exact n125 _ _
      have n59 : ∀ x3 x4 : Int32, ((m = -1 ∧ x3 = 1) ∨ (x3 = 0 ∧ (m = -1 ∨ ¬ x4 = 0 ∨ ∀ e : Nat, e < t → m = nI e → ¬ G 17 e = 0))) → PP (mb_inConstant_59 fu (mS1 fu dm) x1 m x3 x4 F2 G) (fun _ F1 _ => ¬ F1 47 = 0) := by
        intro x3 x4 hx
        unfold mb_inConstant_59
        refine PP.ite (fun y => ?_) (fun y => ?_)
        · unfold mb_inConstant_79
          refine n80 x3 x4 0 ?_
          rcases hx with ⟨-, z⟩ | ⟨z, -⟩
          · exact .inl z
          · exact .inr ⟨z, .inl rfl⟩
        · rcases hx with ⟨z, -⟩ | ⟨z, w⟩
          · exact absurd z y
          unfold mb_inConstant_66
          refine PP.ix (fun _ => ?_)
          unfold mb_inConstant_75 mb_inConstant_79
          refine PP.ite (fun c => n80 x3 x4 1 (.inr ⟨z, ?_⟩)) (fun c => n80 x3 x4 0 (.inr ⟨z, .inl rfl⟩))
          rcases w with w | w | w
          · exact absurd w y
          · exact .inr w
          · rcases hm with ⟨-, e, e0, m2, -⟩ | ⟨m2, -⟩
            · rw [show m.toNatClampNeg = e by show m.toInt.toNat = e; rw [m2, nI_toInt (by omega)]; omega] at c
              exact absurd c (w e e0 m2)
            · exact absurd m2 y
      have n35 : ∀ x3 : Int32, ((m = -1 ∧ x3 = 1) ∨ x3 = 0) → PP (mb_inConstant_35 fu (mS1 fu dm) x1 m x3 F2 G) (fun _ F1 _ => ¬ F1 47 = 0) := by
        intro x3 hx
        have h1 : ∀ x4 : Int32, (x4 = 1 ∨ (x4 = 0 ∧ pa = false ∧ sq = false)) → ((m = -1 ∧ x3 = 1) ∨ (x3 = 0 ∧ (m = -1 ∨ ¬ x4 = 0 ∨ ∀ e : Nat, e < t → m = nI e → ¬ G 17 e = 0))) := by
          intro x4 h4
          rcases hx with z | z
          · exact .inl z
          · refine .inr ⟨z, ?_⟩
            rcases h4 with y | ⟨y1, y2, y3⟩
            · exact .inr (.inl (by rw [y]; decide))
            · exact .inr (.inr (fun e e0 e1 e2 => nb (.inl ⟨cn, y2, y3, e, e0, e1, e2⟩)))
        unfold mb_inConstant_35
        refine PP.bind (mp_isSign 24 F2 G) ?_
        rintro z _ _ ⟨rfl, rfl, hy⟩
        rw [kx.1 42 rfl] at hy
        dsimp only
        unfold mb_inConstant_42
        rcases hy with ⟨rfl, hy⟩ | ⟨rfl, hy⟩
        · rw [if_neg i10n]
          unfold mb_inConstant_54
          exact n59 x3 1 (h1 1 (.inl rfl))
        · rw [if_pos rfl]
          rw [hy] at hsq
          unfold mb_inConstant_45
          refine PP.bind (mp_isSign 22 F2 G) ?_
          rintro z _ _ ⟨rfl, rfl, hw⟩
          rw [kx.1 42 rfl] at hw
          dsimp only
          unfold mb_inConstant_51
          rcases hw with ⟨rfl, hw⟩ | ⟨rfl, hw⟩
          · rw [if_neg i10n]
            unfold mb_inConstant_54
            exact n59 x3 1 (h1 1 (.inl rfl))
          · rw [if_pos rfl]
            rw [hw] at hpa
            unfold mb_inConstant_58
            exact n59 x3 0 (h1 0 (.inr ⟨rfl, hpa, hsq⟩))
      unfold mb_inConstant_16
      refine PP.ite (fun y => ?_) (fun y => ?_)
      · unfold mb_inConstant_22 mb_inConstant_30 mb_inConstant_34
        exact PP.ite (fun _ => n35 1 (.inl ⟨y, rfl⟩)) (fun _ => n35 0 (.inr rfl))
      · unfold mb_inConstant_34
        exact n35 0 (.inr rfl)
end JE11
