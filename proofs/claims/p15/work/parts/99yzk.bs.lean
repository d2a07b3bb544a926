def rch (ad n : Int32) : Int32 := if (ad &&& (n - (1 : Int32))) = (0 : Int32) then (if ad < (0 : Int32) then 5 else if ad ≤ ((16384 : Int32) - n) then 0 else 5) else 4
theorem pq_reach {fu : Nat} {ad n : Int32} {F : PF} {G : PG} {f : Int32 × PF × PG → PR} {Q : Int32 → PF → PG → Prop} (h : PP (f (rch ad n, F, G)) Q) : PP ((cf_X0_reach fu ad n F G).bind f) Q := by
  refine PP.bind (Q1 := fun r F' G' => r = rch ad n ∧ F = F' ∧ G = G') ?_ (fun r F' G' e => ?_)
  · unfold cf_X0_reach cb_X0_reach_0 cb_X0_reach_8 cb_X0_reach_10 cb_X0_reach_14 cb_X0_reach_23 cb_X0_reach_27 cb_X0_reach_28 rch
    exact PP.ifg (R := fun z r F' G' => r = z ∧ F = F' ∧ G = G') (fun _ => PP.ifg (R := fun z r F' G' => r = z ∧ F = F' ∧ G = G') (fun _ => PP.ret ⟨rfl, rfl, rfl⟩) (fun _ => PP.ifg (R := fun z r F' G' => r = z ∧ F = F' ∧ G = G') (fun _ => PP.ret ⟨rfl, rfl, rfl⟩) (fun _ => PP.ret ⟨rfl, rfl, rfl⟩))) (fun _ => PP.ret ⟨rfl, rfl, rfl⟩)
  · obtain ⟨rfl, rfl, rfl⟩ := e
    exact h
theorem rch_le {ad n : Int32} (hn : n = 1 ∨ n = 2 ∨ n = 4) (c1 : (ad &&& (n - (1 : Int32))) = (0 : Int32)) (c3 : ad ≤ (16383 : Int32)) : ad ≤ (16384 : Int32) - n := by
  have h3 := i_le.mp c3
  have e3 : (16383 : Int32).toInt = 16383 := rfl
  rcases hn with rfl | rfl | rfl
  · exact c3
  · rw [show (2 : Int32) - 1 = 1 by decide] at c1
    refine i_le.mpr ?_
    rw [show ((16384 : Int32) - 2).toInt = 16382 by decide]
    by_cases q : ad.toInt = 16383
    · have e2 : ad = 16383 := i_eq.mpr (q.trans rfl)
      rw [e2] at c1
      exact absurd c1 (by decide)
    · omega
  · rw [show (4 : Int32) - 1 = 3 by decide] at c1
    refine i_le.mpr ?_
    rw [show ((16384 : Int32) - 4).toInt = 16380 by decide]
    exact and3_le c1 (by omega)
theorem rch_gt {ad n : Int32} (hn : n = 1 ∨ n = 2 ∨ n = 4) (c3 : ¬ ad ≤ (16383 : Int32)) : ¬ ad ≤ (16384 : Int32) - n := by
  intro q
  refine c3 (i_le.mpr ?_)
  have h := i_le.mp q
  have e3 : (16383 : Int32).toInt = 16383 := rfl
  rcases hn with rfl | rfl | rfl
  · rw [show ((16384 : Int32) - 1).toInt = 16383 by decide] at h
    omega
  · rw [show ((16384 : Int32) - 2).toInt = 16382 by decide] at h
    omega
  · rw [show ((16384 : Int32) - 4).toInt = 16380 by decide] at h
    omega
theorem ln_n {f : Int32} (hf : f = 0 ∨ f = 1 ∨ f = 2 ∨ f = 3 ∨ f = 4 ∨ f = 5 ∨ f = 6 ∨ f = 7) (h3 : ¬ f = 3) (h5 : f ≤ (5 : Int32)) : ln f = 1 ∨ ln f = 2 ∨ ln f = 4 := by
  rcases hf with rfl | rfl | rfl | rfl | rfl | rfl | rfl | rfl
  · exact .inl (by decide)
  · exact .inr (.inl (by decide))
  · exact .inr (.inr (by decide))
  · exact absurd rfl h3
  · exact .inl (by decide)
  · exact .inr (.inl (by decide))
  · exact absurd h5 (by decide)
  · exact absurd h5 (by decide)
theorem sn_n {f : Int32} (hf : f = 0 ∨ f = 1 ∨ f = 2 ∨ f = 3 ∨ f = 4 ∨ f = 5 ∨ f = 6 ∨ f = 7) (h5 : f ≤ (2 : Int32)) : sn f = 1 ∨ sn f = 2 ∨ sn f = 4 := by
  rcases hf with rfl | rfl | rfl | rfl | rfl | rfl | rfl | rfl
  · exact .inl (by decide)
  · exact .inr (.inl (by decide))
  · exact .inr (.inr (by decide))
  · exact absurd h5 (by decide)
  · exact absurd h5 (by decide)
  · exact absurd h5 (by decide)
  · exact absurd h5 (by decide)
  · exact absurd h5 (by decide)
/-- the four roads behind a reach -/
theorem cp_far {F : PF} {G : PG} {ad n : Int32} {X : PR} {K : Int32 → PR} {a : BA} (hn : n = 1 ∨ n = 2 ∨ n = 4) (pc : Int32) (hX : (ad &&& (n - (1 : Int32))) = (0 : Int32) → ¬ ad < (0 : Int32) → ad ≤ (16383 : Int32) → PP X (CA F G a)) (hK : ∀ r : Int32, K r = some (r, F, G)) : PP (if rch ad n = (0 : Int32) then X else K (rch ad n)) (CA F G (if (ad &&& (n - (1 : Int32))) = (0 : Int32) then (if ad < (0 : Int32) then aN 5 pc else if ad ≤ (16383 : Int32) then a else aN 5 pc) else aN 4 pc)) := by
  by_cases c1 : (ad &&& (n - (1 : Int32))) = (0 : Int32)
  · rw [if_pos c1]
    by_cases c2 : ad < (0 : Int32)
    · have e : rch ad n = 5 := by unfold rch; rw [if_pos c1, if_pos c2]
      rw [if_pos c2, e, if_neg (by decide), hK]
      exact PP.ret (ca_no nok5)
    · by_cases c3 : ad ≤ (16383 : Int32)
      · have e : rch ad n = 0 := by unfold rch; rw [if_pos c1, if_neg c2, if_pos (rch_le hn c1 c3)]
        rw [if_neg c2, if_pos c3, e, if_pos rfl]
        exact hX c1 c2 c3
      · have e : rch ad n = 5 := by unfold rch; rw [if_pos c1, if_neg c2, if_neg (rch_gt hn c3)]
        rw [if_neg c2, if_neg c3, e, if_neg (by decide), hK]
        exact PP.ret (ca_no nok5)
  · have e : rch ad n = 4 := by unfold rch; rw [if_neg c1]
    rw [if_neg c1, e, if_neg (by decide), hK]
    exact PP.ret (ca_no nok4)
theorem cp_load {fu : Nat} (w : Int32) (F : PF) (G : PG) (h4 : F 4 = F 2 + 4) : PP (cf_X0_load fu w F G) (CA F G (aL (G 0) (F 2) (((w.toUInt32 >>> ((12 : Int32).toUInt32 &&& Int32.toUInt32 31)).toInt32) &&& (7 : Int32)) (((w.toUInt32 >>> ((7 : Int32).toUInt32 &&& Int32.toUInt32 31)).toInt32) &&& (31 : Int32)) (G 1 (((w.toUInt32 >>> ((15 : Int32).toUInt32 &&& Int32.toUInt32 31)).toInt32) &&& (31 : Int32)).toNatClampNeg + (w >>> ((20 : Int32) &&& 31))))) := by
  have hf := br_8 ((w.toUInt32 >>> ((12 : Int32).toUInt32 &&& Int32.toUInt32 31)).toInt32)
  unfold cf_X0_load cb_X0_load_0 cb_X0_load_13 cb_X0_load_18 aL
  generalize (((w.toUInt32 >>> ((12 : Int32).toUInt32 &&& Int32.toUInt32 31)).toInt32) &&& (7 : Int32)) = f at hf ⊢
  refine PP.ifg (R := CA F G) (fun _ => PP.ret (ca_no nok2)) (fun h3 => PP.ifg (R := CA F G) (fun h5 => ?_) (fun _ => PP.ret (ca_no nok2)))
  unfold cb_X0_load_20
  refine PP.ix (fun _ => ?_)
  refine pq_reach ?_
  generalize G 1 (((w.toUInt32 >>> ((15 : Int32).toUInt32 &&& Int32.toUInt32 31)).toInt32) &&& (31 : Int32)).toNatClampNeg + (w >>> ((20 : Int32) &&& 31)) = ad
  show PP (cb_X0_load_51 fu w f (ln f) ad (rch ad (ln f)) F G) _
  unfold cb_X0_load_51
  refine cp_far (K := fun r => cb_X0_load_58 fu r F G) (ln_n hf h3 h5) (F 2) (fun _ _ _ => ?_) (fun _ => rfl)
  unfold cb_X0_load_61 cb_X0_load_113 cb_X0_load_105 cb_X0_load_118 cb_X0_load_121 lv
  refine PP.ix (fun _ => ?_)
  exact PP.ifg (R := fun z => CA F G (aD (F 2) (((w.toUInt32 >>> ((7 : Int32).toUInt32 &&& Int32.toUInt32 31)).toInt32) &&& (31 : Int32)) z)) (fun _ => cp_kept (br_d _) h4) (fun _ => cp_kept (br_d _) h4)
theorem cp_store {fu : Nat} (w : Int32) (F : PF) (G : PG) (h4 : F 4 = F 2 + 4) : PP (cf_X0_store fu w F G) (CA F G (aS (G 0) (F 2) (((w.toUInt32 >>> ((12 : Int32).toUInt32 &&& Int32.toUInt32 31)).toInt32) &&& (7 : Int32)) (G 1 (((w.toUInt32 >>> ((15 : Int32).toUInt32 &&& Int32.toUInt32 31)).toInt32) &&& (31 : Int32)).toNatClampNeg + (((w >>> ((25 : Int32) &&& 31)) <<< ((5 : Int32) &&& 31)) ||| (((w.toUInt32 >>> ((7 : Int32).toUInt32 &&& Int32.toUInt32 31)).toInt32) &&& (31 : Int32)))) (G 1 (((w.toUInt32 >>> ((20 : Int32).toUInt32 &&& Int32.toUInt32 31)).toInt32) &&& (31 : Int32)).toNatClampNeg))) := by
  have hf := br_8 ((w.toUInt32 >>> ((12 : Int32).toUInt32 &&& Int32.toUInt32 31)).toInt32)
  unfold cf_X0_store cb_X0_store_0 cb_X0_store_13 aS
  generalize (((w.toUInt32 >>> ((12 : Int32).toUInt32 &&& Int32.toUInt32 31)).toInt32) &&& (7 : Int32)) = f at hf ⊢
  refine PP.ifg (R := CA F G) (fun h5 => ?_) (fun _ => PP.ret (ca_no nok2))
  unfold cb_X0_store_15
  refine PP.ix (fun _ => ?_)
  refine pq_reach ?_
  generalize G 1 (((w.toUInt32 >>> ((15 : Int32).toUInt32 &&& Int32.toUInt32 31)).toInt32) &&& (31 : Int32)).toNatClampNeg + (((w >>> ((25 : Int32) &&& 31)) <<< ((5 : Int32) &&& 31)) ||| (((w.toUInt32 >>> ((7 : Int32).toUInt32 &&& Int32.toUInt32 31)).toInt32) &&& (31 : Int32))) = ad
  show PP (cb_X0_store_54 fu w (sn f) ad (rch ad (sn f)) F G) _
  unfold cb_X0_store_54
  refine cp_far (K := fun r => cb_X0_store_61 fu r F G) (sn_n hf h5) (F 2) (fun _ _ _ => ?_) (fun _ => rfl)
  unfold cb_X0_store_64 cb_X0_store_131
  refine PP.ix (fun _ => PP.ix (fun _ => PP.ix (fun _ => ?_)))
  exact PP.ret (ca_ok (.inl rfl) ((gup_o (by decide)).trans bk_0.symm) gup_u rfl rfl h4)
theorem cp_does {fu : Nat} (w : Int32) (F : PF) (G : PG) (h4 : F 4 = F 2 + 4) : PP (cf_X0_does fu w F G) (CA F G (act (G 1) (G 0) (F 2) w)) := by
  have ret : ∀ {X : PR} {a : BA}, PP X (CA F G a) → PP (X.bind (fun q => some (q.1, q.2.1, q.2.2))) (CA F G a) := fun h => PP.bind h (fun r F' G' e => PP.ret e)
  unfold cf_X0_does cb_X0_does_0 act
  refine PP.ifg (R := CA F G) (fun _ => ret (cp_load w F G h4)) (fun _ => PP.ifg (R := CA F G) (fun _ => ?_) (fun _ => PP.ifg (R := CA F G) (fun _ => ret (cp_number w F G h4)) (fun _ => PP.ifg (R := CA F G) (fun _ => cp_kept (br_d _) h4) (fun _ => PP.ifg (R := CA F G) (fun _ => ret (cp_store w F G h4)) (fun _ => PP.ifg (R := CA F G) (fun _ => ret (cp_register w F G h4)) (fun _ => PP.ifg (R := CA F G) (fun _ => cp_kept (br_d _) h4) (fun _ => PP.ifg (R := CA F G) (fun _ => ret (cp_branch w F G h4)) (fun _ => PP.ifg (R := CA F G) (fun _ => ?_) (fun _ => PP.ifg (R := CA F G) (fun _ => ?_) (fun _ => ?_))))))))))
  · unfold cb_X0_does_234 cb_X0_does_244 cb_X0_does_248 cb_X0_does_249
    exact PP.ifg (R := CA F G) (fun _ => PP.ret (ca_ok (.inl rfl) bk_0.symm rfl rfl rfl h4)) (fun _ => PP.ret (ca_no nok2))
  · unfold cb_X0_does_156 cb_X0_does_187 cb_X0_does_199 cb_X0_does_202 cb_X0_does_203
    exact PP.ix (fun _ => PP.ifg (R := CA F G) (fun _ => ret (cp_link _ _ F G (br_d _))) (fun _ => PP.ret (ca_no nok2)))
  · unfold cb_X0_does_135 cf_X0_offsetJ cb_X0_offsetJ_0 cb_X0_does_151 cb_X0_does_155
    exact ret (cp_link _ _ F G (br_d _))
  · unfold cb_X0_does_250 cb_X0_does_256 cb_X0_does_261 cb_X0_does_267 cb_X0_does_272 cb_X0_does_273
    exact PP.ifg (R := CA F G) (fun _ => PP.ret (ca_ok (.inr (.inl rfl)) bk_0.symm rfl rfl rfl h4)) (fun _ => PP.ifg (R := CA F G) (fun _ => PP.ret (ca_ok (.inr (.inr rfl)) bk_0.symm rfl rfl rfl h4)) (fun _ => PP.ret (ca_no nok2)))
/-- what a step of the class's board did -/
def CWD (F : PF) (G : PG) (r : Int32) (F1 : PF) (G1 : PG) : Prop := (¬ (((F 2) &&& (3 : Int32)) = (0 : Int32) ∧ ¬ F 2 < (0 : Int32) ∧ F 2 < (16384 : Int32)) ∧ r = 1 ∧ F = F1 ∧ G = G1) ∨ ((((F 2) &&& (3 : Int32)) = (0 : Int32) ∧ ¬ F 2 < (0 : Int32) ∧ F 2 < (16384 : Int32)) ∧ r = (act (G 1) (G 0) (F 2) (G 0 (ix2 (F 2)))).1 ∧ G1 0 = bm (G 0) (act (G 1) (G 0) (F 2) (G 0 (ix2 (F 2)))).2.2.2.1 ∧ ((okw r ∧ G1 1 = bk (G 1) (act (G 1) (G 0) (F 2) (G 0 (ix2 (F 2)))).2.1 (act (G 1) (G 0) (F 2) (G 0 (ix2 (F 2)))).2.2.1 ∧ F1 2 = (act (G 1) (G 0) (F 2) (G 0 (ix2 (F 2)))).2.2.2.2 ∧ F1 3 = F 3 + 1) ∨ (¬ okw r ∧ G1 1 = G 1 ∧ F1 2 = F 2 ∧ F1 3 = F 3)))
theorem cp_word {fu : Nat} (F : PF) (G : PG) : PP (cf_X0_doWord fu F G) (CWD F G) := by
  unfold cf_X0_doWord cb_X0_doWord_0 cb_X0_doWord_9 cb_X0_doWord_16 cb_X0_doWord_26
  refine PP.ite (fun c1 => PP.ite (fun c2 => PP.ret (.inl ⟨fun q => q.2.1 c2, rfl, rfl, rfl⟩)) (fun c2 => PP.ite (fun c3 => ?_) (fun c3 => PP.ret (.inl ⟨fun q => c3 q.2.2, rfl, rfl, rfl⟩)))) (fun c1 => PP.ret (.inl ⟨fun q => c1 q.1, rfl, rfl, rfl⟩))
  unfold cb_X0_doWord_28
  refine PP.ix (fun _ => ?_)
  unfold cb_X0_doWord_50
  refine PP.bind (cp_does _ _ G (by rw [fup_s, fup_n (by decide)])) (fun r F' G' e => ?_)
  obtain ⟨e1, e0, e2, e3, e4⟩ := e
  rw [fup_n (by decide)] at e2 e3
  rw [fup_n (by decide)] at e1 e0 e4
  unfold cb_X0_doWord_55 cb_X0_doWord_60 cb_X0_doWord_66 cb_X0_doWord_72 cb_X0_doWord_80 cb_X0_doWord_90
  have yes : okw r → CWD F G r (fup (fup F' 2 (F' 4)) 3 ((fup F' 2 (F' 4)) 3 + 1)) G' := fun k => by
    refine .inr ⟨⟨c1, c2, c3⟩, e1, e0, .inl ⟨k, ?_⟩⟩
    rcases e4 with ⟨_, h1, h4⟩ | ⟨h, _⟩
    · refine ⟨h1, ?_, ?_⟩
      · rw [fup_n (by decide), fup_s]
        exact h4
      · rw [fup_s, fup_n (by decide), e3]
    · rw [← e1] at h
      exact absurd k h
  refine PP.ite (fun k => PP.ret (yes (.inl k))) (fun k0 => PP.ite (fun k => PP.ret (yes (.inr (.inl k)))) (fun k6 => PP.ite (fun k => PP.ret (yes (.inr (.inr k)))) (fun k7 => PP.ret (.inr ⟨⟨c1, c2, c3⟩, e1, e0, .inr ⟨?_, ?_, e2, e3⟩⟩))))
  · rintro (k | k | k)
    · exact k0 k
    · exact k6 k
    · exact k7 k
  · rcases e4 with ⟨k, _, _⟩ | ⟨_, h⟩
    · rw [← e1] at k
      rcases k with k | k | k
      · exact absurd k k0
      · exact absurd k k6
      · exact absurd k k7
    · exact h
