theorem cq_truth {fu : Nat} {z : Int32} (hz : z = 0 ∨ z = 1) {F : PF} {G : PG} : cf_X11_truth fu z F G = some (z, F, G) := by
  unfold cf_X11_truth cb_X11_truth_0 cb_X11_truth_8 cb_X11_truth_4 cb_X11_truth_9
  rcases hz with rfl | rfl
  · rw [if_pos rfl]
  · rw [if_neg (by decide)]
theorem pq_plain {fu : Nat} {k q a b : Int32} {F : PF} {G : PG} {f : Int32 × PF × PG → PR} {Q : Int32 → PF → PG → Prop} (h : PP (f (plv k q a b, F, G)) Q) : PP ((cf_X0_plain fu k q a b F G).bind f) Q := by
  refine PP.bind (Q1 := fun r F' G' => r = plv k q a b ∧ F = F' ∧ G = G') ?_ (fun r F' G' e => ?_)
  · unfold cf_X0_plain cb_X0_plain_0 plv
    refine PP.ifg (R := fun z r F' G' => r = z ∧ F = F' ∧ G = G') (fun _ => PP.ret ⟨rfl, rfl, rfl⟩) (fun _ => PP.ifg (R := fun z r F' G' => r = z ∧ F = F' ∧ G = G') (fun _ => ?_) (fun _ => PP.ifg (R := fun z r F' G' => r = z ∧ F = F' ∧ G = G') (fun _ => PP.ret ⟨rfl, rfl, rfl⟩) (fun _ => PP.ifg (R := fun z r F' G' => r = z ∧ F = F' ∧ G = G') (fun _ => ?_) (fun _ => PP.ifg (R := fun z r F' G' => r = z ∧ F = F' ∧ G = G') (fun _ => ?_) (fun _ => PP.ifg (R := fun z r F' G' => r = z ∧ F = F' ∧ G = G') (fun _ => PP.ret ⟨rfl, rfl, rfl⟩) (fun _ => PP.ifg (R := fun z r F' G' => r = z ∧ F = F' ∧ G = G') (fun _ => ?_) (fun _ => PP.ret ⟨rfl, rfl, rfl⟩)))))))
    · unfold cb_X0_plain_44
      exact PP.ifg (R := fun z r F' G' => r = z ∧ F = F' ∧ G = G') (fun _ => PP.ret ⟨rfl, rfl, rfl⟩) (fun _ => PP.ret ⟨rfl, rfl, rfl⟩)
    · unfold cb_X0_plain_62 cb_X0_plain_71 cb_X0_plain_67 cb_X0_plain_72
      rw [cq_truth (.inl rfl), cq_truth (.inr rfl)]
      exact PP.ifg (R := fun z r F' G' => r = z ∧ F = F' ∧ G = G') (fun _ => PP.ret ⟨rfl, rfl, rfl⟩) (fun _ => PP.ret ⟨rfl, rfl, rfl⟩)
    · unfold cb_X0_plain_76 cb_X0_plain_81
      have hz2 : (if b + (-2147483648 : Int32) ≤ a + (-2147483648 : Int32) then (0 : Int32) else 1) = 0 ∨ (if b + (-2147483648 : Int32) ≤ a + (-2147483648 : Int32) then (0 : Int32) else 1) = 1 := by
        by_cases c : b + (-2147483648 : Int32) ≤ a + (-2147483648 : Int32)
        · exact .inl (if_pos c)
        · exact .inr (if_neg c)
      generalize hz : (if b + (-2147483648 : Int32) ≤ a + (-2147483648 : Int32) then (0 : Int32) else 1) = z at hz2 ⊢
      refine pq_bel hz ?_
      show PP ((cf_X11_truth fu z F G).bind _) _
      rw [cq_truth hz2]
      exact PP.ret ⟨rfl, rfl, rfl⟩
    · unfold cb_X0_plain_89
      exact PP.ifg (R := fun z r F' G' => r = z ∧ F = F' ∧ G = G') (fun _ => PP.ret ⟨rfl, rfl, rfl⟩) (fun _ => PP.ret ⟨rfl, rfl, rfl⟩)
  · obtain ⟨rfl, rfl, rfl⟩ := e
    exact h
theorem cp_60 {fu : Nat} (a b : Int32) (F : PF) (G : PG) : PP (cf_X11_joined fu 60 a b F G) (fun r F' G' => r = (if b = (0 : Int32) then -1 else if b = (-1 : Int32) then -a else a / b) ∧ F = F' ∧ G = G') := by
  unfold cf_X11_joined cb_X11_joined_0
  rw [if_neg (by decide), if_neg (show ¬ (60 : Int32) = 45 by decide), if_neg (show ¬ (60 : Int32) = 46 by decide), if_neg (show ¬ (60 : Int32) = 47 by decide), if_neg (show ¬ (60 : Int32) = 48 by decide), if_neg (show ¬ (60 : Int32) = 49 by decide), if_neg (show ¬ (60 : Int32) = 50 by decide), if_neg (show ¬ (60 : Int32) = 51 by decide), if_neg (show ¬ (60 : Int32) = 52 by decide), if_neg (show ¬ (60 : Int32) = 53 by decide), if_neg (show ¬ (60 : Int32) = 54 by decide), if_neg (show ¬ (60 : Int32) = 55 by decide), if_neg (show ¬ (60 : Int32) = 56 by decide), if_neg (show ¬ (60 : Int32) = 57 by decide), if_neg (show ¬ (60 : Int32) = 58 by decide), if_neg (show ¬ (60 : Int32) = 59 by decide), if_pos rfl]
  unfold cb_X11_joined_186 cb_X11_joined_190 cb_X11_joined_194 cb_X11_joined_199 cb_X11_joined_204 cb_X11_joined_207
  exact PP.ifg (R := fun z r F' G' => r = z ∧ F = F' ∧ G = G') (fun _ => PP.ret ⟨rfl, rfl, rfl⟩) (fun _ => PP.ifg (R := fun z r F' G' => r = z ∧ F = F' ∧ G = G') (fun _ => PP.ret ⟨rfl, rfl, rfl⟩) (fun _ => PP.nz (fun _ => PP.ret ⟨rfl, rfl, rfl⟩)))
theorem cp_61 {fu : Nat} (a b : Int32) (F : PF) (G : PG) : PP (cf_X11_joined fu 61 a b F G) (fun r F' G' => r = (if b = (0 : Int32) then a else if b = (-1 : Int32) then 0 else a - a / b * b) ∧ F = F' ∧ G = G') := by
  unfold cf_X11_joined cb_X11_joined_0
  rw [if_neg (by decide), if_neg (show ¬ (61 : Int32) = 45 by decide), if_neg (show ¬ (61 : Int32) = 46 by decide), if_neg (show ¬ (61 : Int32) = 47 by decide), if_neg (show ¬ (61 : Int32) = 48 by decide), if_neg (show ¬ (61 : Int32) = 49 by decide), if_neg (show ¬ (61 : Int32) = 50 by decide), if_neg (show ¬ (61 : Int32) = 51 by decide), if_neg (show ¬ (61 : Int32) = 52 by decide), if_neg (show ¬ (61 : Int32) = 53 by decide), if_neg (show ¬ (61 : Int32) = 54 by decide), if_neg (show ¬ (61 : Int32) = 55 by decide), if_neg (show ¬ (61 : Int32) = 56 by decide), if_neg (show ¬ (61 : Int32) = 57 by decide), if_neg (show ¬ (61 : Int32) = 58 by decide), if_neg (show ¬ (61 : Int32) = 59 by decide), if_neg (show ¬ (61 : Int32) = 60 by decide)]
  unfold cb_X11_joined_208 cb_X11_joined_212 cb_X11_joined_216 cb_X11_joined_221 cb_X11_joined_225 cb_X11_joined_228
  exact PP.ifg (R := fun z r F' G' => r = z ∧ F = F' ∧ G = G') (fun _ => PP.ret ⟨rfl, rfl, rfl⟩) (fun _ => PP.ifg (R := fun z r F' G' => r = z ∧ F = F' ∧ G = G') (fun _ => PP.ret ⟨rfl, rfl, rfl⟩) (fun _ => PP.nz (fun _ => PP.ret ⟨rfl, rfl, rfl⟩)))
theorem mp_over {fu : Nat} (a b : Int32) (F : PF) (G : PG) : PP (mf_over fu a b F G) (fun r F' G' => r = (if b = (0 : Int32) then -1 else if b = (-1 : Int32) then -a else a / b) ∧ F = F' ∧ G = G') := by
  unfold mf_over mb_over_0 mb_over_4 mb_over_8 mb_over_15 mb_over_20 mb_over_24 mb_over_27
  refine PP.ifg (R := fun z r F' G' => r = z ∧ F = F' ∧ G = G') (fun _ => PP.ret ⟨rfl, rfl, rfl⟩) (fun _ => PP.ite (fun e => PP.ifg (R := fun z r F' G' => r = z ∧ F = F' ∧ G = G') (fun _ => ?_) (fun _ => PP.nz (fun _ => PP.ret ⟨rfl, rfl, rfl⟩))) (fun _ => PP.nz (fun _ => PP.ret ⟨?_, rfl, rfl⟩)))
  · refine PP.ret ⟨?_, rfl, rfl⟩
    rw [e]
    decide
  · by_cases c : b = -1
    · rw [if_pos c, c]
      exact br_dneg a
    · rw [if_neg c]
theorem mp_rest {fu : Nat} (a b : Int32) (F : PF) (G : PG) : PP (mf_rest fu a b F G) (fun r F' G' => r = (if b = (0 : Int32) then a else if b = (-1 : Int32) then 0 else a - a / b * b) ∧ F = F' ∧ G = G') := by
  unfold mf_rest mb_rest_0 mb_rest_4 mb_rest_8 mb_rest_15 mb_rest_20 mb_rest_24 mb_rest_27
  refine PP.ifg (R := fun z r F' G' => r = z ∧ F = F' ∧ G = G') (fun _ => PP.ret ⟨rfl, rfl, rfl⟩) (fun _ => PP.ite (fun e => PP.ifg (R := fun z r F' G' => r = z ∧ F = F' ∧ G = G') (fun _ => PP.ret ⟨rfl, rfl, rfl⟩) (fun _ => PP.nz (fun _ => PP.ret ⟨rfl, rfl, rfl⟩))) (fun _ => PP.nz (fun _ => PP.ret ⟨?_, rfl, rfl⟩)))
  by_cases c : b = -1
  · rw [if_pos c, c]
    exact br_rneg a
  · rw [if_neg c]
theorem cp_product {fu : Nat} (k a b : Int32) (F : PF) (G : PG) : PP (cf_X0_product fu k a b F G) (fun r F' G' => r = pv k a b ∧ F = F' ∧ G = G') := by
  unfold cf_X0_product cb_X0_product_0 pv
  refine PP.ifg (R := fun z r F' G' => r = z ∧ F = F' ∧ G = G') (fun _ => ?_) (fun _ => PP.ifg (R := fun z r F' G' => r = z ∧ F = F' ∧ G = G') (fun _ => PP.ret ⟨rfl, rfl, rfl⟩) (fun _ => PP.ifg (R := fun z r F' G' => r = z ∧ F = F' ∧ G = G') (fun _ => PP.ret ⟨rfl, rfl, rfl⟩) (fun _ => PP.ifg (R := fun z r F' G' => r = z ∧ F = F' ∧ G = G') (fun _ => PP.ret ⟨rfl, rfl, rfl⟩) (fun _ => PP.ifg (R := fun z r F' G' => r = z ∧ F = F' ∧ G = G') (fun _ => PP.ret ⟨rfl, rfl, rfl⟩) (fun _ => PP.ifg (R := fun z r F' G' => r = z ∧ F = F' ∧ G = G') (fun _ => ?_) (fun _ => PP.ifg (R := fun z r F' G' => r = z ∧ F = F' ∧ G = G') (fun _ => ?_) (fun _ => ?_)))))))
  · unfold cb_X0_product_129 cb_X0_product_133 cb_X0_product_137 cb_X0_product_151
    exact PP.ifg (R := fun z r F' G' => r = z ∧ F = F' ∧ G = G') (fun _ => PP.ret ⟨rfl, rfl, rfl⟩) (fun _ => PP.nz (fun _ => PP.ret ⟨rfl, rfl, rfl⟩))
  · unfold cb_X0_product_90 cb_X0_product_97
    exact PP.bind (cp_60 a b F G) (fun r F' G' e => PP.ret e)
  · unfold cb_X0_product_98 cb_X0_product_102 cb_X0_product_106 cb_X0_product_120
    exact PP.ifg (R := fun z r F' G' => r = z ∧ F = F' ∧ G = G') (fun _ => PP.ret ⟨rfl, rfl, rfl⟩) (fun _ => PP.nz (fun _ => PP.ret ⟨rfl, rfl, rfl⟩))
  · unfold cb_X0_product_121 cb_X0_product_128
    exact PP.bind (cp_61 a b F G) (fun r F' G' e => PP.ret e)
theorem mp_product {fu : Nat} (k a b : Int32) (F : PF) (G : PG) : PP (mf_product fu k a b F G) (fun r F' G' => r = pv k a b ∧ F = F' ∧ G = G') := by
  unfold mf_product mb_product_0 pv
  refine PP.ifg (R := fun z r F' G' => r = z ∧ F = F' ∧ G = G') (fun _ => ?_) (fun _ => PP.ifg (R := fun z r F' G' => r = z ∧ F = F' ∧ G = G') (fun _ => PP.ret ⟨rfl, rfl, rfl⟩) (fun _ => PP.ifg (R := fun z r F' G' => r = z ∧ F = F' ∧ G = G') (fun _ => PP.ret ⟨rfl, rfl, rfl⟩) (fun _ => PP.ifg (R := fun z r F' G' => r = z ∧ F = F' ∧ G = G') (fun _ => PP.ret ⟨rfl, rfl, rfl⟩) (fun _ => PP.ifg (R := fun z r F' G' => r = z ∧ F = F' ∧ G = G') (fun _ => PP.ret ⟨rfl, rfl, rfl⟩) (fun _ => PP.ifg (R := fun z r F' G' => r = z ∧ F = F' ∧ G = G') (fun _ => ?_) (fun _ => PP.ifg (R := fun z r F' G' => r = z ∧ F = F' ∧ G = G') (fun _ => ?_) (fun _ => ?_)))))))
  · unfold mb_product_123 mb_product_127 mb_product_131 mb_product_137
    exact PP.ifg (R := fun z r F' G' => r = z ∧ F = F' ∧ G = G') (fun _ => PP.ret ⟨rfl, rfl, rfl⟩) (fun _ => PP.nz (fun _ => PP.ret ⟨rfl, rfl, rfl⟩))
  · unfold mb_product_96 mb_product_101
    exact PP.bind (mp_over a b F G) (fun r F' G' e => PP.ret e)
  · unfold mb_product_102 mb_product_106 mb_product_110 mb_product_116
    exact PP.ifg (R := fun z r F' G' => r = z ∧ F = F' ∧ G = G') (fun _ => PP.ret ⟨rfl, rfl, rfl⟩) (fun _ => PP.nz (fun _ => PP.ret ⟨rfl, rfl, rfl⟩))
  · unfold mb_product_117 mb_product_122
    exact PP.bind (mp_rest a b F G) (fun r F' G' e => PP.ret e)
/-- keep a number in a register, the word is done -/
theorem cp_kept {fu : Nat} {d v : Int32} {F : PF} {G : PG} (hd : d.toInt < 32) (h4 : F 4 = F 2 + 4) : PP ((cf_X0_keep fu d v F G).bind (fun q => some (q.1, q.2.1, q.2.2))) (CA F G (aD (F 2) d v)) :=
  pq_keep hd (fun G' h1 h0 => PP.ret (ca_ok (.inl rfl) h1 h0 rfl rfl h4))
theorem br_d (x : Int32) : (x &&& (31 : Int32)).toInt < 32 := (i_and x (m := 31) 5 (by decide) (by decide)).2
theorem cp_number {fu : Nat} (w : Int32) (F : PF) (G : PG) (h4 : F 4 = F 2 + 4) : PP (cf_X0_withNumber fu w F G) (CA F G (aI (F 2) (((w.toUInt32 >>> ((12 : Int32).toUInt32 &&& Int32.toUInt32 31)).toInt32) &&& (7 : Int32)) ((w.toUInt32 >>> ((25 : Int32).toUInt32 &&& Int32.toUInt32 31)).toInt32) (((w.toUInt32 >>> ((7 : Int32).toUInt32 &&& Int32.toUInt32 31)).toInt32) &&& (31 : Int32)) (G 1 (((w.toUInt32 >>> ((15 : Int32).toUInt32 &&& Int32.toUInt32 31)).toInt32) &&& (31 : Int32)).toNatClampNeg) (w >>> ((20 : Int32) &&& 31)))) := by
  unfold cf_X0_withNumber cb_X0_withNumber_0
  refine PP.ix (fun _ => ?_)
  have h59 : ∀ (f g a i : Int32), PP (cb_X0_withNumber_59 fu w f g a i F G) (CA F G (aI3 (F 2) f g (((w.toUInt32 >>> ((7 : Int32).toUInt32 &&& Int32.toUInt32 31)).toInt32) &&& (31 : Int32)) a i)) := by
    intro f g a i
    have h84 : ∀ q : Int32, PP (cb_X0_withNumber_84 fu a i q f (((w.toUInt32 >>> ((7 : Int32).toUInt32 &&& Int32.toUInt32 31)).toInt32) &&& (31 : Int32)) F G) (CA F G (aD (F 2) (((w.toUInt32 >>> ((7 : Int32).toUInt32 &&& Int32.toUInt32 31)).toInt32) &&& (31 : Int32)) (plv f q a i))) := by
      intro q
      unfold cb_X0_withNumber_84 cb_X0_withNumber_91 cb_X0_withNumber_94
      exact pq_plain (cp_kept (br_d _) h4)
    unfold cb_X0_withNumber_59 cb_X0_withNumber_73 cb_X0_withNumber_79 cb_X0_withNumber_83 aI3 iq
    exact PP.ifg (R := fun q => CA F G (aD (F 2) (((w.toUInt32 >>> ((7 : Int32).toUInt32 &&& Int32.toUInt32 31)).toInt32) &&& (31 : Int32)) (plv f q a i))) (fun _ => PP.ifg (R := fun q => CA F G (aD (F 2) (((w.toUInt32 >>> ((7 : Int32).toUInt32 &&& Int32.toUInt32 31)).toInt32) &&& (31 : Int32)) (plv f q a i))) (fun _ => h84 1) (fun _ => h84 0)) (fun _ => h84 0)
  have h42 : ∀ (f g a i : Int32), PP (cb_X0_withNumber_42 fu w f g a i F G) (CA F G (aI2 (F 2) f g (((w.toUInt32 >>> ((7 : Int32).toUInt32 &&& Int32.toUInt32 31)).toInt32) &&& (31 : Int32)) a i)) := by
    intro f g a i
    unfold cb_X0_withNumber_42 cb_X0_withNumber_47 cb_X0_withNumber_51 cb_X0_withNumber_57 aI2
    exact PP.ifg (R := CA F G) (fun _ => PP.ifg (R := CA F G) (fun _ => h59 f g a i) (fun _ => PP.ifg (R := CA F G) (fun _ => h59 f g a i) (fun _ => PP.ret (ca_no nok2)))) (fun _ => h59 f g a i)
  unfold cb_X0_withNumber_38 cb_X0_withNumber_57 aI
  exact PP.ifg (R := CA F G) (fun _ => PP.ifg (R := CA F G) (fun _ => h42 _ _ _ _) (fun _ => PP.ret (ca_no nok2))) (fun _ => h42 _ _ _ _)
theorem cp_register {fu : Nat} (w : Int32) (F : PF) (G : PG) (h4 : F 4 = F 2 + 4) : PP (cf_X0_withRegister fu w F G) (CA F G (aR (F 2) (((w.toUInt32 >>> ((12 : Int32).toUInt32 &&& Int32.toUInt32 31)).toInt32) &&& (7 : Int32)) ((w.toUInt32 >>> ((25 : Int32).toUInt32 &&& Int32.toUInt32 31)).toInt32) (((w.toUInt32 >>> ((7 : Int32).toUInt32 &&& Int32.toUInt32 31)).toInt32) &&& (31 : Int32)) (G 1 (((w.toUInt32 >>> ((15 : Int32).toUInt32 &&& Int32.toUInt32 31)).toInt32) &&& (31 : Int32)).toNatClampNeg) (G 1 (((w.toUInt32 >>> ((20 : Int32).toUInt32 &&& Int32.toUInt32 31)).toInt32) &&& (31 : Int32)).toNatClampNeg))) := by
  unfold cf_X0_withRegister cb_X0_withRegister_0
  refine PP.ix (fun _ => PP.ix (fun _ => ?_))
  have h87 : ∀ (f g a b : Int32), PP (cb_X0_withRegister_87 fu w f g a b F G) (CA F G (aR3 (F 2) f g (((w.toUInt32 >>> ((7 : Int32).toUInt32 &&& Int32.toUInt32 31)).toInt32) &&& (31 : Int32)) a b)) := by
    intro f g a b
    have h107 : ∀ q : Int32, PP (cb_X0_withRegister_107 fu a b q f (((w.toUInt32 >>> ((7 : Int32).toUInt32 &&& Int32.toUInt32 31)).toInt32) &&& (31 : Int32)) F G) (CA F G (aD (F 2) (((w.toUInt32 >>> ((7 : Int32).toUInt32 &&& Int32.toUInt32 31)).toInt32) &&& (31 : Int32)) (plv f q a b))) := by
      intro q
      unfold cb_X0_withRegister_107 cb_X0_withRegister_114 cb_X0_withRegister_117
      exact pq_plain (cp_kept (br_d _) h4)
    unfold cb_X0_withRegister_87 cb_X0_withRegister_102 cb_X0_withRegister_106 aR3
    exact PP.ifg (R := fun q => CA F G (aD (F 2) (((w.toUInt32 >>> ((7 : Int32).toUInt32 &&& Int32.toUInt32 31)).toInt32) &&& (31 : Int32)) (plv f q a b))) (fun _ => h107 1) (fun _ => h107 0)
  unfold cb_X0_withRegister_66 cb_X0_withRegister_70 cb_X0_withRegister_76 cb_X0_withRegister_80 cb_X0_withRegister_85 aR
  refine PP.ifg (R := CA F G) (fun _ => ?_) (fun _ => PP.ifg (R := CA F G) (fun _ => h87 _ _ _ _) (fun _ => PP.ifg (R := CA F G) (fun _ => PP.ifg (R := CA F G) (fun _ => h87 _ _ _ _) (fun _ => PP.ifg (R := CA F G) (fun _ => h87 _ _ _ _) (fun _ => PP.ret (ca_no nok2)))) (fun _ => PP.ret (ca_no nok2))))
  unfold cb_X0_withRegister_46 cb_X0_withRegister_62 cb_X0_withRegister_65
  refine PP.bind (cp_product _ _ _ F G) (fun r F' G' e => ?_)
  obtain ⟨rfl, rfl, rfl⟩ := e
  exact cp_kept (br_d _) h4
theorem mp_179 {fu : Nat} {d pc v : Int32} {F : PF} {G : PG} : PP (mb_immediate_179 fu d pc v F G) (MA F G (aD pc d v)) := by
  unfold mb_immediate_179 mb_immediate_186 mb_immediate_194
  exact mp_gg
theorem mp_26 {fu : Nat} (f g d a i n pc : Int32) (F : PF) (G : PG) (hn : i &&& 31 = n &&& 31) (hu : i.toUInt32 &&& Int32.toUInt32 31 = n.toUInt32 &&& Int32.toUInt32 31) (hg : f = 5 → g = 0 ∨ g = 32) : PP (mb_immediate_26 fu f g d a i n pc F G) (MA F G (aI3 pc f g d a i)) := by
  unfold mb_immediate_26 aI3 plv
  refine PP.ifg (R := fun z => MA F G (aD pc d z)) (fun _ => ?_) (fun _ => PP.ifg (R := fun z => MA F G (aD pc d z)) (fun e => ?_) (fun _ => PP.ifg (R := fun z => MA F G (aD pc d z)) (fun _ => ?_) (fun _ => PP.ifg (R := fun z => MA F G (aD pc d z)) (fun _ => ?_) (fun _ => PP.ifg (R := fun z => MA F G (aD pc d z)) (fun _ => ?_) (fun _ => PP.ifg (R := fun z => MA F G (aD pc d z)) (fun _ => ?_) (fun _ => PP.ifg (R := fun z => MA F G (aD pc d z)) (fun e => ?_) (fun _ => ?_)))))))
  · exact mp_179
  · have q : iq f g = 0 := if_neg (by rw [e]; decide)
    rw [q, if_pos rfl]
    exact mp_179
  · unfold mb_immediate_78
    rw [hn]
    exact mp_179
  · unfold mb_immediate_88 mb_immediate_99 mb_immediate_95 mb_immediate_100
    exact PP.ifg (R := fun z => MA F G (aD pc d z)) (fun _ => mp_179) (fun _ => mp_179)
  · unfold mb_immediate_105 mb_immediate_124 mb_immediate_120 mb_immediate_125
    exact PP.ifg (R := fun z => MA F G (aD pc d z)) (fun _ => mp_179) (fun _ => mp_179)
  · exact mp_179
  · unfold mb_immediate_140 mb_immediate_144 mb_immediate_152 mb_immediate_157
    rw [hn, hu]
    rcases hg e with rfl | rfl
    · have q : iq f 0 = 0 := by unfold iq; rw [if_pos e, if_neg (by decide)]
      rw [q, if_pos rfl, if_pos rfl]
      exact mp_179
    · have q : iq f 32 = 1 := by unfold iq; rw [if_pos e, if_pos rfl]
      rw [q, if_neg (by decide), if_neg (by decide)]
      exact mp_179
  · exact mp_179
theorem mp_immediate {fu : Nat} (f g d a i n pc : Int32) (F : PF) (G : PG) (hn : i &&& 31 = n &&& 31) (hu : i.toUInt32 &&& Int32.toUInt32 31 = n.toUInt32 &&& Int32.toUInt32 31) : PP (mf_immediate fu f g d a i n pc F G) (MA F G (aI pc f g d a i)) := by
  have h9 : PP (mb_immediate_9 fu f g d a i n pc F G) (MA F G (aI2 pc f g d a i)) := by
    unfold mb_immediate_9 mb_immediate_14 mb_immediate_18 mb_immediate_24 aI2
    exact PP.ifg (R := MA F G) (fun _ => PP.ifg (R := MA F G) (fun e => mp_26 f g d a i n pc F G hn hu (fun _ => .inl e)) (fun _ => PP.ifg (R := MA F G) (fun e => mp_26 f g d a i n pc F G hn hu (fun _ => .inr e)) (fun _ => PP.ret (ma_no nok2)))) (fun e => mp_26 f g d a i n pc F G hn hu (fun q => absurd q e))
  unfold mf_immediate mb_immediate_0 mb_immediate_5 mb_immediate_24 aI
  exact PP.ifg (R := MA F G) (fun _ => PP.ifg (R := MA F G) (fun _ => h9) (fun _ => PP.ret (ma_no nok2))) (fun _ => h9)
theorem mp_191 {fu : Nat} {d pc v : Int32} {F : PF} {G : PG} : PP (mb_both_191 fu pc v d F G) (MA F G (aD pc d v)) := by
  unfold mb_both_191 mb_both_194 mb_both_202
  exact mp_gg
theorem mp_doing {fu : Nat} (a b : Int32) (F : PF) (G : PG) : PP (mf_doing fu 36 a b F G) (fun r F' G' => r = (if b ≤ a then 0 else 1) ∧ F = F' ∧ G = G') := by
  unfold mf_doing mb_doing_0
  rw [if_neg (by decide), if_neg (show ¬ (36 : Int32) = 1 by decide), if_neg (show ¬ (36 : Int32) = 2 by decide), if_neg (show ¬ (36 : Int32) = 3 by decide), if_neg (show ¬ (36 : Int32) = 4 by decide), if_neg (show ¬ (36 : Int32) = 5 by decide), if_neg (show ¬ (36 : Int32) = 6 by decide), if_neg (show ¬ (36 : Int32) = 7 by decide), if_neg (show ¬ (36 : Int32) = 8 by decide), if_neg (show ¬ (36 : Int32) = 9 by decide), if_neg (show ¬ (36 : Int32) = 10 by decide), if_neg (show ¬ (36 : Int32) = 11 by decide), if_neg (show ¬ (36 : Int32) = 12 by decide), if_neg (show ¬ (36 : Int32) = 13 by decide), if_neg (show ¬ (36 : Int32) = 14 by decide), if_neg (show ¬ (36 : Int32) = 15 by decide), if_neg (show ¬ (36 : Int32) = 16 by decide), if_neg (show ¬ (36 : Int32) = 17 by decide), if_neg (show ¬ (36 : Int32) = 18 by decide), if_neg (show ¬ (36 : Int32) = 19 by decide), if_neg (show ¬ (36 : Int32) = 20 by decide), if_neg (show ¬ (36 : Int32) = 21 by decide), if_neg (show ¬ (36 : Int32) = 22 by decide), if_neg (show ¬ (36 : Int32) = 23 by decide), if_neg (show ¬ (36 : Int32) = 24 by decide), if_neg (show ¬ (36 : Int32) = 25 by decide), if_neg (show ¬ (36 : Int32) = 26 by decide), if_neg (show ¬ (36 : Int32) = 27 by decide), if_neg (show ¬ (36 : Int32) = 28 by decide), if_neg (show ¬ (36 : Int32) = 29 by decide), if_neg (show ¬ (36 : Int32) = 30 by decide), if_neg (show ¬ (36 : Int32) = 31 by decide), if_neg (show ¬ (36 : Int32) = 32 by decide), if_neg (show ¬ (36 : Int32) = 33 by decide), if_neg (show ¬ (36 : Int32) = 34 by decide), if_neg (show ¬ (36 : Int32) = 35 by decide), if_pos (show (36 : Int32) = 36 from rfl)]
  unfold mb_doing_214 mb_doing_219 mb_doing_224 mb_doing_223
  exact PP.ifg (R := fun z r F' G' => r = z ∧ F = F' ∧ G = G') (fun _ => PP.ret ⟨rfl, rfl, rfl⟩) (fun _ => PP.ret ⟨rfl, rfl, rfl⟩)
theorem mp_73 {fu : Nat} (f d a b pc : Int32) (hf : f = 0 ∨ f = 1 ∨ f = 2 ∨ f = 3 ∨ f = 4 ∨ f = 5 ∨ f = 6 ∨ f = 7) (F : PF) (G : PG) : PP (mb_both_73 fu f a b pc d F G) (MA F G (aD pc d (plv f 0 a b))) := by
  unfold mb_both_73 mb_both_77 mb_both_85 mb_both_90 mb_both_101 mb_both_106 mb_both_115 mb_both_118 mb_both_123 mb_both_140 mb_both_143 mb_both_148 mb_both_156 mb_both_161 mb_both_172 mb_both_178 mb_both_186
  rcases hf with rfl | rfl | rfl | rfl | rfl | rfl | rfl | rfl
  · rw [if_pos (show (0 : Int32) = 0 from rfl)]
    exact mp_191
  · rw [if_neg (show ¬ (1 : Int32) = 0 by decide)]
    rw [if_pos (show (1 : Int32) = 1 from rfl)]
    rw [br_31]
    exact mp_191
  · rw [if_neg (show ¬ (2 : Int32) = 0 by decide)]
    rw [if_neg (show ¬ (2 : Int32) = 1 by decide)]
    rw [if_pos (show (2 : Int32) = 2 from rfl)]
    refine PP.bind (mp_doing a b F G) (fun r F' G' e => ?_)
    obtain ⟨rfl, rfl, rfl⟩ := e
    exact mp_191
  · rw [if_neg (show ¬ (3 : Int32) = 0 by decide)]
    rw [if_neg (show ¬ (3 : Int32) = 1 by decide)]
    rw [if_neg (show ¬ (3 : Int32) = 2 by decide)]
    rw [if_pos (show (3 : Int32) = 3 from rfl)]
    refine PP.bind (mp_doing _ _ F G) (fun r F' G' e => ?_)
    obtain ⟨e1, rfl, rfl⟩ := e
    have ev : plv 3 0 a b = (if b + (-2147483648 : Int32) ≤ a + (-2147483648 : Int32) then 0 else 1) := by
      unfold plv
      rw [if_neg (show ¬ ((3 : Int32).toInt < 0 ∨ 6 < (3 : Int32).toInt) by decide), if_neg (show ¬ (3 : Int32) = 0 by decide), if_neg (show ¬ (3 : Int32) = 1 by decide), if_neg (show ¬ (3 : Int32) = 2 by decide), if_pos (show (3 : Int32) = 3 from rfl)]
    rw [ev, e1]
    generalize (if b + (-2147483648 : Int32) ≤ a + (-2147483648 : Int32) then (0 : Int32) else 1) = z
    exact mp_191
  · rw [if_neg (show ¬ (4 : Int32) = 0 by decide)]
    rw [if_neg (show ¬ (4 : Int32) = 1 by decide)]
    rw [if_neg (show ¬ (4 : Int32) = 2 by decide)]
    rw [if_neg (show ¬ (4 : Int32) = 3 by decide)]
    rw [if_pos (show (4 : Int32) = 4 from rfl)]
    exact mp_191
  · rw [if_neg (show ¬ (5 : Int32) = 0 by decide)]
    rw [if_neg (show ¬ (5 : Int32) = 1 by decide)]
    rw [if_neg (show ¬ (5 : Int32) = 2 by decide)]
    rw [if_neg (show ¬ (5 : Int32) = 3 by decide)]
    rw [if_neg (show ¬ (5 : Int32) = 4 by decide)]
    rw [if_pos (show (5 : Int32) = 5 from rfl)]
    rw [br_31u]
    exact mp_191
  · rw [if_neg (show ¬ (6 : Int32) = 0 by decide)]
    rw [if_neg (show ¬ (6 : Int32) = 1 by decide)]
    rw [if_neg (show ¬ (6 : Int32) = 2 by decide)]
    rw [if_neg (show ¬ (6 : Int32) = 3 by decide)]
    rw [if_neg (show ¬ (6 : Int32) = 4 by decide)]
    rw [if_neg (show ¬ (6 : Int32) = 5 by decide)]
    rw [if_pos (show (6 : Int32) = 6 from rfl)]
    exact mp_191
  · rw [if_neg (show ¬ (7 : Int32) = 0 by decide)]
    rw [if_neg (show ¬ (7 : Int32) = 1 by decide)]
    rw [if_neg (show ¬ (7 : Int32) = 2 by decide)]
    rw [if_neg (show ¬ (7 : Int32) = 3 by decide)]
    rw [if_neg (show ¬ (7 : Int32) = 4 by decide)]
    rw [if_neg (show ¬ (7 : Int32) = 5 by decide)]
    rw [if_neg (show ¬ (7 : Int32) = 6 by decide)]
    exact mp_191
theorem mp_both {fu : Nat} (f g d a b pc : Int32) (hf : f = 0 ∨ f = 1 ∨ f = 2 ∨ f = 3 ∨ f = 4 ∨ f = 5 ∨ f = 6 ∨ f = 7) (F : PF) (G : PG) : PP (mf_both fu f g d a b pc F G) (MA F G (aR pc f g d a b)) := by
  unfold mf_both mb_both_0 mb_both_4 mb_both_9 mb_both_15 mb_both_19 mb_both_24 aR aR3
  by_cases g1 : g = 1
  · rw [if_neg (show ¬ g = 0 by rw [g1]; decide), if_pos g1, if_pos g1]
    unfold mb_both_26 mb_both_33 mb_both_41
    rw [if_pos g1]
    refine PP.bind (mp_product f a b F G) (fun r F' G' e => ?_)
    obtain ⟨rfl, rfl, rfl⟩ := e
    exact mp_191
  · rw [if_neg g1, if_neg g1]
    refine PP.ifg (R := MA F G) (fun g0 => ?_) (fun g0 => PP.ifg (R := MA F G) (fun g3 => PP.ifg (R := MA F G) (fun f0 => ?_) (fun f0 => PP.ifg (R := MA F G) (fun f5 => ?_) (fun _ => PP.ret (ma_no nok2)))) (fun _ => PP.ret (ma_no nok2)))
    · unfold mb_both_26 mb_both_44
      rw [if_neg g1, if_neg (show ¬ g = 32 by rw [g0]; decide), if_neg (show ¬ g = 32 by rw [g0]; decide)]
      exact mp_73 f d a b pc hf F G
    · unfold mb_both_26 mb_both_44 mb_both_50 mb_both_54
      rw [if_neg g1, if_pos g3, if_pos g3, if_pos f0, f0]
      exact mp_191
    · unfold mb_both_26 mb_both_44 mb_both_50 mb_both_62
      rw [if_neg g1, if_pos g3, if_pos g3, if_neg f0, f5, br_31]
      exact mp_191
