theorem pq_out {fu : Nat} {x : Int32} {F : PF} {G : PG} {f : Int32 × PF × PG → PR} {Q : Int32 → PF → PG → Prop} (h : PP (f (if x < (0 : Int32) then 1 else if x ≤ (16383 : Int32) then 0 else 1, F, G)) Q) : PP ((mf_isOut fu x F G).bind f) Q := by
  refine PP.bind (Q1 := fun r F' G' => r = (if x < (0 : Int32) then 1 else if x ≤ (16383 : Int32) then 0 else 1) ∧ F = F' ∧ G = G') ?_ (fun r F' G' e => ?_)
  · unfold mf_isOut mb_isOut_0 mb_isOut_4 mb_isOut_11 mb_isOut_15 mb_isOut_16
    exact PP.ifg (R := fun z r F' G' => r = z ∧ F = F' ∧ G = G') (fun _ => PP.bz (fun _ => PP.ret ⟨rfl, rfl, rfl⟩)) (fun _ => PP.ifg (R := fun z r F' G' => r = z ∧ F = F' ∧ G = G') (fun _ => PP.bz (fun _ => PP.ret ⟨rfl, rfl, rfl⟩)) (fun _ => PP.bz (fun _ => PP.ret ⟨rfl, rfl, rfl⟩)))
  · obtain ⟨rfl, rfl, rfl⟩ := e
    exact h
theorem ad_j {ad k j s : Int32} {kn jn : Int} (hk : (ad &&& (3 : Int32)) = k) (ek : k.toInt = kn) (ej : j.toInt = jn) (hj : 0 ≤ jn) (hs : kn + jn ≤ 3) (h0 : ¬ ad < (0 : Int32)) (h1 : ad ≤ (16383 : Int32)) (es : s.toInt = kn + jn) : (ad + j) >>> ((2 : Int32) &&& 31) = ad >>> ((2 : Int32) &&& 31) ∧ ((ad + j) &&& (3 : Int32)) = s := by
  have a0 := mt i_lt.mpr h0
  have a1 := i_le.mp h1
  have z0 : (0 : Int32).toInt = 0 := rfl
  have z1 : (16383 : Int32).toInt = 16383 := rfl
  have b := br_and3 ad
  rw [hk, ek] at b
  have e : (ad + j).toInt = ad.toInt + jn := i_addn ad ej (by omega) (by omega)
  refine ⟨i_eq.mpr ?_, i_eq.mpr ?_⟩
  · rw [i_shr 2 (by decide), i_shr 2 (by decide), e]
    omega
  · rw [br_and3, e, es]
    omega
theorem ix2_lt {ad : Int32} (h0 : ¬ ad < (0 : Int32)) (h1 : ad ≤ (16383 : Int32)) : ix2 ad < 4096 := by
  have a0 := mt i_lt.mpr h0
  have a1 := i_le.mp h1
  have z0 : (0 : Int32).toInt = 0 := rfl
  have z1 : (16383 : Int32).toInt = 16383 := rfl
  unfold ix2
  show ((ad >>> ((2 : Int32) &&& 31)).toInt).toNat < 4096
  rw [i_shr 2 (by decide)]
  omega
theorem pq_byte {fu : Nat} {x ad s t : Int32} {F : PF} {G : PG} {f : Int32 × PF × PG → PR} {Q : Int32 → PF → PG → Prop} (e : x >>> ((2 : Int32) &&& 31) = ad >>> ((2 : Int32) &&& 31) ∧ (x &&& (3 : Int32)) = s) (hs : (8 : Int32) * s = t) (h : PP (f ((((G 94 (ix2 ad)).toUInt32 >>> (t.toUInt32 &&& Int32.toUInt32 31)).toInt32) &&& (255 : Int32), F, G)) Q) : PP ((mf_byteAt fu x F G).bind f) Q := by
  refine PP.bind (Q1 := fun r F' G' => r = ((((G 94 (ix2 ad)).toUInt32 >>> (t.toUInt32 &&& Int32.toUInt32 31)).toInt32) &&& (255 : Int32)) ∧ F = F' ∧ G = G') ?_ (fun r F' G' e => ?_)
  · unfold mf_byteAt mb_byteAt_0
    rw [e.1, e.2, hs]
    exact PP.ix (fun _ => PP.ret ⟨rfl, rfl, rfl⟩)
  · obtain ⟨rfl, rfl, rfl⟩ := e
    exact h
theorem pq_putb {fu : Nat} {x ad s t u : Int32} {F : PF} {G : PG} {f : Int32 × PF × PG → PR} {Q : Int32 → PF → PG → Prop} (e : x >>> ((2 : Int32) &&& 31) = ad >>> ((2 : Int32) &&& 31) ∧ (x &&& (3 : Int32)) = s) (hs : (8 : Int32) * s = t) (h : PP (f (0, F, gup G 94 (ix2 ad) (((G 94 (ix2 ad)) &&& (((255 : Int32) <<< (t &&& 31)) ^^^ (-1 : Int32))) ||| ((u &&& (255 : Int32)) <<< (t &&& 31))))) Q) : PP ((mf_putByte fu x u F G).bind f) Q := by
  refine PP.bind (Q1 := fun r F' G' => r = 0 ∧ F = F' ∧ gup G 94 (ix2 ad) (((G 94 (ix2 ad)) &&& (((255 : Int32) <<< (t &&& 31)) ^^^ (-1 : Int32))) ||| ((u &&& (255 : Int32)) <<< (t &&& 31))) = G') ?_ (fun r F' G' e => ?_)
  · unfold mf_putByte mb_putByte_0 mb_putByte_39
    rw [e.1, e.2, hs]
    exact PP.ix (fun _ => PP.ix (fun _ => PP.ret ⟨rfl, rfl, rfl⟩))
  · obtain ⟨rfl, rfl, rfl⟩ := e
    exact h
theorem gup_gup {G : PG} {k i : Nat} {u v : Int32} : gup (gup G k i u) k i v = gup G k i v := by
  funext a
  by_cases h : a = k
  · subst h
    rw [gup_u, gup_u, gup_u]
    funext b
    by_cases q : b = i
    · rw [q, upd_s, upd_s]
    · rw [upd_n q, upd_n q, upd_n q]
  · rw [gup_o h, gup_o h, gup_o h]
theorem mp_116 {fu : Nat} {d pc v : Int32} {F : PF} {G : PG} : PP (mb_loads_116 fu pc v d F G) (MA F G (aD pc d v)) := by
  unfold mb_loads_116 mb_loads_119 mb_loads_127
  exact mp_gg
theorem mp_l0_0 {fu n : Nat} (d ad pc : Int32) (F : PF) (G : PG) (hk : (ad &&& (3 : Int32)) = 0) (h0 : ¬ ad < (0 : Int32)) (h1 : ad ≤ (16383 : Int32)) : PP (ml_loads_64 fu (n + 5) 0 d ad pc 0 0 F G) (MA F G (aD pc d (lv 0 (ln 0) (G 94 (ix2 ad)) ad))) := by
  have ev : lv 0 (ln 0) (G 94 (ix2 ad)) ad = ((((0 : Int32) <<< ((8 : Int32) &&& 31)) ||| ((((G 94 (ix2 ad)).toUInt32 >>> ((0 : Int32).toUInt32 &&& Int32.toUInt32 31)).toInt32) &&& (255 : Int32)))).toInt8.toInt32 := by
    unfold lv lv0
    rw [show ln 0 = 1 by decide, hk, show (32 : Int32) - ((1 : Int32) * (8 : Int32)) = 24 by decide, show (0 : Int32) * (8 : Int32) = 0 by decide, if_neg (show ¬ (4 : Int32) ≤ 0 by decide)]
    exact (br_b0 (G 94 (ix2 ad))).symm
  rw [ev]
  show PP (mb_loads_64 fu (ml_loads_64 fu (n + 4)) 0 d ad pc _ 0 F G) _
  unfold mb_loads_64 mb_loads_69 mb_loads_82
  rw [if_neg (show ¬ (0 : Int32) < (0 : Int32) by decide)]
  refine pq_byte (ad := ad) (s := 0) (t := 0) (ad_j hk (kn := 0) (jn := 0) (j := 0) rfl rfl (by decide) (by decide) h0 h1 rfl) (by decide) ?_
  show PP (ml_loads_64 fu (n + 4) 0 d ad pc _ ((0 : Int32) + (-1)) F G) _
  rw [show (0 : Int32) + (-1) = -1 by decide]
  show PP (mb_loads_64 fu (ml_loads_64 fu (n + 3)) 0 d ad pc _ (-1) F G) _
  unfold mb_loads_64 mb_loads_91 mb_loads_97 mb_loads_103 mb_loads_108 mb_loads_114
  rw [if_pos (show (-1 : Int32) < (0 : Int32) by decide), if_pos (show (0 : Int32) = 0 from rfl)]
  exact mp_116
theorem mp_l0_1 {fu n : Nat} (d ad pc : Int32) (F : PF) (G : PG) (hk : (ad &&& (3 : Int32)) = 1) (h0 : ¬ ad < (0 : Int32)) (h1 : ad ≤ (16383 : Int32)) : PP (ml_loads_64 fu (n + 5) 0 d ad pc 0 0 F G) (MA F G (aD pc d (lv 0 (ln 0) (G 94 (ix2 ad)) ad))) := by
  have ev : lv 0 (ln 0) (G 94 (ix2 ad)) ad = ((((0 : Int32) <<< ((8 : Int32) &&& 31)) ||| ((((G 94 (ix2 ad)).toUInt32 >>> ((8 : Int32).toUInt32 &&& Int32.toUInt32 31)).toInt32) &&& (255 : Int32)))).toInt8.toInt32 := by
    unfold lv lv0
    rw [show ln 0 = 1 by decide, hk, show (32 : Int32) - ((1 : Int32) * (8 : Int32)) = 24 by decide, show (1 : Int32) * (8 : Int32) = 8 by decide, if_neg (show ¬ (4 : Int32) ≤ 0 by decide)]
    exact (br_b8 (G 94 (ix2 ad))).symm
  rw [ev]
  show PP (mb_loads_64 fu (ml_loads_64 fu (n + 4)) 0 d ad pc _ 0 F G) _
  unfold mb_loads_64 mb_loads_69 mb_loads_82
  rw [if_neg (show ¬ (0 : Int32) < (0 : Int32) by decide)]
  refine pq_byte (ad := ad) (s := 1) (t := 8) (ad_j hk (kn := 1) (jn := 0) (j := 0) rfl rfl (by decide) (by decide) h0 h1 rfl) (by decide) ?_
  show PP (ml_loads_64 fu (n + 4) 0 d ad pc _ ((0 : Int32) + (-1)) F G) _
  rw [show (0 : Int32) + (-1) = -1 by decide]
  show PP (mb_loads_64 fu (ml_loads_64 fu (n + 3)) 0 d ad pc _ (-1) F G) _
  unfold mb_loads_64 mb_loads_91 mb_loads_97 mb_loads_103 mb_loads_108 mb_loads_114
  rw [if_pos (show (-1 : Int32) < (0 : Int32) by decide), if_pos (show (0 : Int32) = 0 from rfl)]
  exact mp_116
theorem mp_l0_2 {fu n : Nat} (d ad pc : Int32) (F : PF) (G : PG) (hk : (ad &&& (3 : Int32)) = 2) (h0 : ¬ ad < (0 : Int32)) (h1 : ad ≤ (16383 : Int32)) : PP (ml_loads_64 fu (n + 5) 0 d ad pc 0 0 F G) (MA F G (aD pc d (lv 0 (ln 0) (G 94 (ix2 ad)) ad))) := by
  have ev : lv 0 (ln 0) (G 94 (ix2 ad)) ad = ((((0 : Int32) <<< ((8 : Int32) &&& 31)) ||| ((((G 94 (ix2 ad)).toUInt32 >>> ((16 : Int32).toUInt32 &&& Int32.toUInt32 31)).toInt32) &&& (255 : Int32)))).toInt8.toInt32 := by
    unfold lv lv0
    rw [show ln 0 = 1 by decide, hk, show (32 : Int32) - ((1 : Int32) * (8 : Int32)) = 24 by decide, show (2 : Int32) * (8 : Int32) = 16 by decide, if_neg (show ¬ (4 : Int32) ≤ 0 by decide)]
    exact (br_b16 (G 94 (ix2 ad))).symm
  rw [ev]
  show PP (mb_loads_64 fu (ml_loads_64 fu (n + 4)) 0 d ad pc _ 0 F G) _
  unfold mb_loads_64 mb_loads_69 mb_loads_82
  rw [if_neg (show ¬ (0 : Int32) < (0 : Int32) by decide)]
  refine pq_byte (ad := ad) (s := 2) (t := 16) (ad_j hk (kn := 2) (jn := 0) (j := 0) rfl rfl (by decide) (by decide) h0 h1 rfl) (by decide) ?_
  show PP (ml_loads_64 fu (n + 4) 0 d ad pc _ ((0 : Int32) + (-1)) F G) _
  rw [show (0 : Int32) + (-1) = -1 by decide]
  show PP (mb_loads_64 fu (ml_loads_64 fu (n + 3)) 0 d ad pc _ (-1) F G) _
  unfold mb_loads_64 mb_loads_91 mb_loads_97 mb_loads_103 mb_loads_108 mb_loads_114
  rw [if_pos (show (-1 : Int32) < (0 : Int32) by decide), if_pos (show (0 : Int32) = 0 from rfl)]
  exact mp_116
theorem mp_l0_3 {fu n : Nat} (d ad pc : Int32) (F : PF) (G : PG) (hk : (ad &&& (3 : Int32)) = 3) (h0 : ¬ ad < (0 : Int32)) (h1 : ad ≤ (16383 : Int32)) : PP (ml_loads_64 fu (n + 5) 0 d ad pc 0 0 F G) (MA F G (aD pc d (lv 0 (ln 0) (G 94 (ix2 ad)) ad))) := by
  have ev : lv 0 (ln 0) (G 94 (ix2 ad)) ad = ((((0 : Int32) <<< ((8 : Int32) &&& 31)) ||| ((((G 94 (ix2 ad)).toUInt32 >>> ((24 : Int32).toUInt32 &&& Int32.toUInt32 31)).toInt32) &&& (255 : Int32)))).toInt8.toInt32 := by
    unfold lv lv0
    rw [show ln 0 = 1 by decide, hk, show (32 : Int32) - ((1 : Int32) * (8 : Int32)) = 24 by decide, show (3 : Int32) * (8 : Int32) = 24 by decide, if_neg (show ¬ (4 : Int32) ≤ 0 by decide)]
    exact (br_b24 (G 94 (ix2 ad))).symm
  rw [ev]
  show PP (mb_loads_64 fu (ml_loads_64 fu (n + 4)) 0 d ad pc _ 0 F G) _
  unfold mb_loads_64 mb_loads_69 mb_loads_82
  rw [if_neg (show ¬ (0 : Int32) < (0 : Int32) by decide)]
  refine pq_byte (ad := ad) (s := 3) (t := 24) (ad_j hk (kn := 3) (jn := 0) (j := 0) rfl rfl (by decide) (by decide) h0 h1 rfl) (by decide) ?_
  show PP (ml_loads_64 fu (n + 4) 0 d ad pc _ ((0 : Int32) + (-1)) F G) _
  rw [show (0 : Int32) + (-1) = -1 by decide]
  show PP (mb_loads_64 fu (ml_loads_64 fu (n + 3)) 0 d ad pc _ (-1) F G) _
  unfold mb_loads_64 mb_loads_91 mb_loads_97 mb_loads_103 mb_loads_108 mb_loads_114
  rw [if_pos (show (-1 : Int32) < (0 : Int32) by decide), if_pos (show (0 : Int32) = 0 from rfl)]
  exact mp_116
theorem mp_l1_0 {fu n : Nat} (d ad pc : Int32) (F : PF) (G : PG) (hk : (ad &&& (3 : Int32)) = 0) (h0 : ¬ ad < (0 : Int32)) (h1 : ad ≤ (16383 : Int32)) : PP (ml_loads_64 fu (n + 5) 1 d ad pc 0 1 F G) (MA F G (aD pc d (lv 1 (ln 1) (G 94 (ix2 ad)) ad))) := by
  have ev : lv 1 (ln 1) (G 94 (ix2 ad)) ad = ((((((0 : Int32) <<< ((8 : Int32) &&& 31)) ||| ((((G 94 (ix2 ad)).toUInt32 >>> ((8 : Int32).toUInt32 &&& Int32.toUInt32 31)).toInt32) &&& (255 : Int32))) <<< ((8 : Int32) &&& 31)) ||| ((((G 94 (ix2 ad)).toUInt32 >>> ((0 : Int32).toUInt32 &&& Int32.toUInt32 31)).toInt32) &&& (255 : Int32)))).toInt16.toInt32 := by
    unfold lv lv0
    rw [show ln 1 = 2 by decide, hk, show (32 : Int32) - ((2 : Int32) * (8 : Int32)) = 16 by decide, show (0 : Int32) * (8 : Int32) = 0 by decide, if_neg (show ¬ (4 : Int32) ≤ 1 by decide)]
    exact (br_h0 (G 94 (ix2 ad))).symm
  rw [ev]
  show PP (mb_loads_64 fu (ml_loads_64 fu (n + 4)) 1 d ad pc _ 1 F G) _
  unfold mb_loads_64 mb_loads_69 mb_loads_82
  rw [if_neg (show ¬ (1 : Int32) < (0 : Int32) by decide)]
  refine pq_byte (ad := ad) (s := 1) (t := 8) (ad_j hk (kn := 0) (jn := 1) (j := 1) rfl rfl (by decide) (by decide) h0 h1 rfl) (by decide) ?_
  show PP (ml_loads_64 fu (n + 4) 1 d ad pc _ ((1 : Int32) + (-1)) F G) _
  rw [show (1 : Int32) + (-1) = 0 by decide]
  show PP (mb_loads_64 fu (ml_loads_64 fu (n + 3)) 1 d ad pc _ 0 F G) _
  unfold mb_loads_64 mb_loads_69 mb_loads_82
  rw [if_neg (show ¬ (0 : Int32) < (0 : Int32) by decide)]
  refine pq_byte (ad := ad) (s := 0) (t := 0) (ad_j hk (kn := 0) (jn := 0) (j := 0) rfl rfl (by decide) (by decide) h0 h1 rfl) (by decide) ?_
  show PP (ml_loads_64 fu (n + 3) 1 d ad pc _ ((0 : Int32) + (-1)) F G) _
  rw [show (0 : Int32) + (-1) = -1 by decide]
  show PP (mb_loads_64 fu (ml_loads_64 fu (n + 2)) 1 d ad pc _ (-1) F G) _
  unfold mb_loads_64 mb_loads_91 mb_loads_97 mb_loads_103 mb_loads_108 mb_loads_114
  rw [if_pos (show (-1 : Int32) < (0 : Int32) by decide), if_neg (show ¬ (1 : Int32) = 0 by decide), if_pos (show (1 : Int32) = 1 from rfl)]
  exact mp_116
theorem mp_l1_2 {fu n : Nat} (d ad pc : Int32) (F : PF) (G : PG) (hk : (ad &&& (3 : Int32)) = 2) (h0 : ¬ ad < (0 : Int32)) (h1 : ad ≤ (16383 : Int32)) : PP (ml_loads_64 fu (n + 5) 1 d ad pc 0 1 F G) (MA F G (aD pc d (lv 1 (ln 1) (G 94 (ix2 ad)) ad))) := by
  have ev : lv 1 (ln 1) (G 94 (ix2 ad)) ad = ((((((0 : Int32) <<< ((8 : Int32) &&& 31)) ||| ((((G 94 (ix2 ad)).toUInt32 >>> ((24 : Int32).toUInt32 &&& Int32.toUInt32 31)).toInt32) &&& (255 : Int32))) <<< ((8 : Int32) &&& 31)) ||| ((((G 94 (ix2 ad)).toUInt32 >>> ((16 : Int32).toUInt32 &&& Int32.toUInt32 31)).toInt32) &&& (255 : Int32)))).toInt16.toInt32 := by
    unfold lv lv0
    rw [show ln 1 = 2 by decide, hk, show (32 : Int32) - ((2 : Int32) * (8 : Int32)) = 16 by decide, show (2 : Int32) * (8 : Int32) = 16 by decide, if_neg (show ¬ (4 : Int32) ≤ 1 by decide)]
    exact (br_h16 (G 94 (ix2 ad))).symm
  rw [ev]
  show PP (mb_loads_64 fu (ml_loads_64 fu (n + 4)) 1 d ad pc _ 1 F G) _
  unfold mb_loads_64 mb_loads_69 mb_loads_82
  rw [if_neg (show ¬ (1 : Int32) < (0 : Int32) by decide)]
  refine pq_byte (ad := ad) (s := 3) (t := 24) (ad_j hk (kn := 2) (jn := 1) (j := 1) rfl rfl (by decide) (by decide) h0 h1 rfl) (by decide) ?_
  show PP (ml_loads_64 fu (n + 4) 1 d ad pc _ ((1 : Int32) + (-1)) F G) _
  rw [show (1 : Int32) + (-1) = 0 by decide]
  show PP (mb_loads_64 fu (ml_loads_64 fu (n + 3)) 1 d ad pc _ 0 F G) _
  unfold mb_loads_64 mb_loads_69 mb_loads_82
  rw [if_neg (show ¬ (0 : Int32) < (0 : Int32) by decide)]
  refine pq_byte (ad := ad) (s := 2) (t := 16) (ad_j hk (kn := 2) (jn := 0) (j := 0) rfl rfl (by decide) (by decide) h0 h1 rfl) (by decide) ?_
  show PP (ml_loads_64 fu (n + 3) 1 d ad pc _ ((0 : Int32) + (-1)) F G) _
  rw [show (0 : Int32) + (-1) = -1 by decide]
  show PP (mb_loads_64 fu (ml_loads_64 fu (n + 2)) 1 d ad pc _ (-1) F G) _
  unfold mb_loads_64 mb_loads_91 mb_loads_97 mb_loads_103 mb_loads_108 mb_loads_114
  rw [if_pos (show (-1 : Int32) < (0 : Int32) by decide), if_neg (show ¬ (1 : Int32) = 0 by decide), if_pos (show (1 : Int32) = 1 from rfl)]
  exact mp_116
theorem mp_l2_0 {fu n : Nat} (d ad pc : Int32) (F : PF) (G : PG) (hk : (ad &&& (3 : Int32)) = 0) (h0 : ¬ ad < (0 : Int32)) (h1 : ad ≤ (16383 : Int32)) : PP (ml_loads_64 fu (n + 5) 2 d ad pc 0 3 F G) (MA F G (aD pc d (lv 2 (ln 2) (G 94 (ix2 ad)) ad))) := by
  have ev : lv 2 (ln 2) (G 94 (ix2 ad)) ad = (((((((((0 : Int32) <<< ((8 : Int32) &&& 31)) ||| ((((G 94 (ix2 ad)).toUInt32 >>> ((24 : Int32).toUInt32 &&& Int32.toUInt32 31)).toInt32) &&& (255 : Int32))) <<< ((8 : Int32) &&& 31)) ||| ((((G 94 (ix2 ad)).toUInt32 >>> ((16 : Int32).toUInt32 &&& Int32.toUInt32 31)).toInt32) &&& (255 : Int32))) <<< ((8 : Int32) &&& 31)) ||| ((((G 94 (ix2 ad)).toUInt32 >>> ((8 : Int32).toUInt32 &&& Int32.toUInt32 31)).toInt32) &&& (255 : Int32))) <<< ((8 : Int32) &&& 31)) ||| ((((G 94 (ix2 ad)).toUInt32 >>> ((0 : Int32).toUInt32 &&& Int32.toUInt32 31)).toInt32) &&& (255 : Int32))) := by
    unfold lv lv0
    rw [show ln 2 = 4 by decide, hk, show (32 : Int32) - ((4 : Int32) * (8 : Int32)) = 0 by decide, show (0 : Int32) * (8 : Int32) = 0 by decide, if_neg (show ¬ (4 : Int32) ≤ 2 by decide)]
    exact (br_l4 (G 94 (ix2 ad))).symm
  rw [ev]
  show PP (mb_loads_64 fu (ml_loads_64 fu (n + 4)) 2 d ad pc _ 3 F G) _
  unfold mb_loads_64 mb_loads_69 mb_loads_82
  rw [if_neg (show ¬ (3 : Int32) < (0 : Int32) by decide)]
  refine pq_byte (ad := ad) (s := 3) (t := 24) (ad_j hk (kn := 0) (jn := 3) (j := 3) rfl rfl (by decide) (by decide) h0 h1 rfl) (by decide) ?_
  show PP (ml_loads_64 fu (n + 4) 2 d ad pc _ ((3 : Int32) + (-1)) F G) _
  rw [show (3 : Int32) + (-1) = 2 by decide]
  show PP (mb_loads_64 fu (ml_loads_64 fu (n + 3)) 2 d ad pc _ 2 F G) _
  unfold mb_loads_64 mb_loads_69 mb_loads_82
  rw [if_neg (show ¬ (2 : Int32) < (0 : Int32) by decide)]
  refine pq_byte (ad := ad) (s := 2) (t := 16) (ad_j hk (kn := 0) (jn := 2) (j := 2) rfl rfl (by decide) (by decide) h0 h1 rfl) (by decide) ?_
  show PP (ml_loads_64 fu (n + 3) 2 d ad pc _ ((2 : Int32) + (-1)) F G) _
  rw [show (2 : Int32) + (-1) = 1 by decide]
  show PP (mb_loads_64 fu (ml_loads_64 fu (n + 2)) 2 d ad pc _ 1 F G) _
  unfold mb_loads_64 mb_loads_69 mb_loads_82
  rw [if_neg (show ¬ (1 : Int32) < (0 : Int32) by decide)]
  refine pq_byte (ad := ad) (s := 1) (t := 8) (ad_j hk (kn := 0) (jn := 1) (j := 1) rfl rfl (by decide) (by decide) h0 h1 rfl) (by decide) ?_
  show PP (ml_loads_64 fu (n + 2) 2 d ad pc _ ((1 : Int32) + (-1)) F G) _
  rw [show (1 : Int32) + (-1) = 0 by decide]
  show PP (mb_loads_64 fu (ml_loads_64 fu (n + 1)) 2 d ad pc _ 0 F G) _
  unfold mb_loads_64 mb_loads_69 mb_loads_82
  rw [if_neg (show ¬ (0 : Int32) < (0 : Int32) by decide)]
  refine pq_byte (ad := ad) (s := 0) (t := 0) (ad_j hk (kn := 0) (jn := 0) (j := 0) rfl rfl (by decide) (by decide) h0 h1 rfl) (by decide) ?_
  show PP (ml_loads_64 fu (n + 1) 2 d ad pc _ ((0 : Int32) + (-1)) F G) _
  rw [show (0 : Int32) + (-1) = -1 by decide]
  show PP (mb_loads_64 fu (ml_loads_64 fu (n + 0)) 2 d ad pc _ (-1) F G) _
  unfold mb_loads_64 mb_loads_91 mb_loads_97 mb_loads_103 mb_loads_108 mb_loads_114
  rw [if_pos (show (-1 : Int32) < (0 : Int32) by decide), if_neg (show ¬ (2 : Int32) = 0 by decide), if_neg (show ¬ (2 : Int32) = 1 by decide)]
  exact mp_116
theorem mp_l4_0 {fu n : Nat} (d ad pc : Int32) (F : PF) (G : PG) (hk : (ad &&& (3 : Int32)) = 0) (h0 : ¬ ad < (0 : Int32)) (h1 : ad ≤ (16383 : Int32)) : PP (ml_loads_64 fu (n + 5) 4 d ad pc 0 0 F G) (MA F G (aD pc d (lv 4 (ln 4) (G 94 (ix2 ad)) ad))) := by
  have ev : lv 4 (ln 4) (G 94 (ix2 ad)) ad = (((0 : Int32) <<< ((8 : Int32) &&& 31)) ||| ((((G 94 (ix2 ad)).toUInt32 >>> ((0 : Int32).toUInt32 &&& Int32.toUInt32 31)).toInt32) &&& (255 : Int32))) := by
    unfold lv lv0
    rw [show ln 4 = 1 by decide, hk, show (32 : Int32) - ((1 : Int32) * (8 : Int32)) = 24 by decide, show (0 : Int32) * (8 : Int32) = 0 by decide, if_pos (show (4 : Int32) ≤ 4 by decide)]
    exact (br_bu0 (G 94 (ix2 ad))).symm
  rw [ev]
  show PP (mb_loads_64 fu (ml_loads_64 fu (n + 4)) 4 d ad pc _ 0 F G) _
  unfold mb_loads_64 mb_loads_69 mb_loads_82
  rw [if_neg (show ¬ (0 : Int32) < (0 : Int32) by decide)]
  refine pq_byte (ad := ad) (s := 0) (t := 0) (ad_j hk (kn := 0) (jn := 0) (j := 0) rfl rfl (by decide) (by decide) h0 h1 rfl) (by decide) ?_
  show PP (ml_loads_64 fu (n + 4) 4 d ad pc _ ((0 : Int32) + (-1)) F G) _
  rw [show (0 : Int32) + (-1) = -1 by decide]
  show PP (mb_loads_64 fu (ml_loads_64 fu (n + 3)) 4 d ad pc _ (-1) F G) _
  unfold mb_loads_64 mb_loads_91 mb_loads_97 mb_loads_103 mb_loads_108 mb_loads_114
  rw [if_pos (show (-1 : Int32) < (0 : Int32) by decide), if_neg (show ¬ (4 : Int32) = 0 by decide), if_neg (show ¬ (4 : Int32) = 1 by decide)]
  exact mp_116
theorem mp_l4_1 {fu n : Nat} (d ad pc : Int32) (F : PF) (G : PG) (hk : (ad &&& (3 : Int32)) = 1) (h0 : ¬ ad < (0 : Int32)) (h1 : ad ≤ (16383 : Int32)) : PP (ml_loads_64 fu (n + 5) 4 d ad pc 0 0 F G) (MA F G (aD pc d (lv 4 (ln 4) (G 94 (ix2 ad)) ad))) := by
  have ev : lv 4 (ln 4) (G 94 (ix2 ad)) ad = (((0 : Int32) <<< ((8 : Int32) &&& 31)) ||| ((((G 94 (ix2 ad)).toUInt32 >>> ((8 : Int32).toUInt32 &&& Int32.toUInt32 31)).toInt32) &&& (255 : Int32))) := by
    unfold lv lv0
    rw [show ln 4 = 1 by decide, hk, show (32 : Int32) - ((1 : Int32) * (8 : Int32)) = 24 by decide, show (1 : Int32) * (8 : Int32) = 8 by decide, if_pos (show (4 : Int32) ≤ 4 by decide)]
    exact (br_bu8 (G 94 (ix2 ad))).symm
  rw [ev]
  show PP (mb_loads_64 fu (ml_loads_64 fu (n + 4)) 4 d ad pc _ 0 F G) _
  unfold mb_loads_64 mb_loads_69 mb_loads_82
  rw [if_neg (show ¬ (0 : Int32) < (0 : Int32) by decide)]
  refine pq_byte (ad := ad) (s := 1) (t := 8) (ad_j hk (kn := 1) (jn := 0) (j := 0) rfl rfl (by decide) (by decide) h0 h1 rfl) (by decide) ?_
  show PP (ml_loads_64 fu (n + 4) 4 d ad pc _ ((0 : Int32) + (-1)) F G) _
  rw [show (0 : Int32) + (-1) = -1 by decide]
  show PP (mb_loads_64 fu (ml_loads_64 fu (n + 3)) 4 d ad pc _ (-1) F G) _
  unfold mb_loads_64 mb_loads_91 mb_loads_97 mb_loads_103 mb_loads_108 mb_loads_114
  rw [if_pos (show (-1 : Int32) < (0 : Int32) by decide), if_neg (show ¬ (4 : Int32) = 0 by decide), if_neg (show ¬ (4 : Int32) = 1 by decide)]
  exact mp_116
theorem mp_l4_2 {fu n : Nat} (d ad pc : Int32) (F : PF) (G : PG) (hk : (ad &&& (3 : Int32)) = 2) (h0 : ¬ ad < (0 : Int32)) (h1 : ad ≤ (16383 : Int32)) : PP (ml_loads_64 fu (n + 5) 4 d ad pc 0 0 F G) (MA F G (aD pc d (lv 4 (ln 4) (G 94 (ix2 ad)) ad))) := by
  have ev : lv 4 (ln 4) (G 94 (ix2 ad)) ad = (((0 : Int32) <<< ((8 : Int32) &&& 31)) ||| ((((G 94 (ix2 ad)).toUInt32 >>> ((16 : Int32).toUInt32 &&& Int32.toUInt32 31)).toInt32) &&& (255 : Int32))) := by
    unfold lv lv0
    rw [show ln 4 = 1 by decide, hk, show (32 : Int32) - ((1 : Int32) * (8 : Int32)) = 24 by decide, show (2 : Int32) * (8 : Int32) = 16 by decide, if_pos (show (4 : Int32) ≤ 4 by decide)]
    exact (br_bu16 (G 94 (ix2 ad))).symm
  rw [ev]
  show PP (mb_loads_64 fu (ml_loads_64 fu (n + 4)) 4 d ad pc _ 0 F G) _
  unfold mb_loads_64 mb_loads_69 mb_loads_82
  rw [if_neg (show ¬ (0 : Int32) < (0 : Int32) by decide)]
  refine pq_byte (ad := ad) (s := 2) (t := 16) (ad_j hk (kn := 2) (jn := 0) (j := 0) rfl rfl (by decide) (by decide) h0 h1 rfl) (by decide) ?_
  show PP (ml_loads_64 fu (n + 4) 4 d ad pc _ ((0 : Int32) + (-1)) F G) _
  rw [show (0 : Int32) + (-1) = -1 by decide]
  show PP (mb_loads_64 fu (ml_loads_64 fu (n + 3)) 4 d ad pc _ (-1) F G) _
  unfold mb_loads_64 mb_loads_91 mb_loads_97 mb_loads_103 mb_loads_108 mb_loads_114
  rw [if_pos (show (-1 : Int32) < (0 : Int32) by decide), if_neg (show ¬ (4 : Int32) = 0 by decide), if_neg (show ¬ (4 : Int32) = 1 by decide)]
  exact mp_116
theorem mp_l4_3 {fu n : Nat} (d ad pc : Int32) (F : PF) (G : PG) (hk : (ad &&& (3 : Int32)) = 3) (h0 : ¬ ad < (0 : Int32)) (h1 : ad ≤ (16383 : Int32)) : PP (ml_loads_64 fu (n + 5) 4 d ad pc 0 0 F G) (MA F G (aD pc d (lv 4 (ln 4) (G 94 (ix2 ad)) ad))) := by
  have ev : lv 4 (ln 4) (G 94 (ix2 ad)) ad = (((0 : Int32) <<< ((8 : Int32) &&& 31)) ||| ((((G 94 (ix2 ad)).toUInt32 >>> ((24 : Int32).toUInt32 &&& Int32.toUInt32 31)).toInt32) &&& (255 : Int32))) := by
    unfold lv lv0
    rw [show ln 4 = 1 by decide, hk, show (32 : Int32) - ((1 : Int32) * (8 : Int32)) = 24 by decide, show (3 : Int32) * (8 : Int32) = 24 by decide, if_pos (show (4 : Int32) ≤ 4 by decide)]
    exact (br_bu24 (G 94 (ix2 ad))).symm
  rw [ev]
  show PP (mb_loads_64 fu (ml_loads_64 fu (n + 4)) 4 d ad pc _ 0 F G) _
  unfold mb_loads_64 mb_loads_69 mb_loads_82
  rw [if_neg (show ¬ (0 : Int32) < (0 : Int32) by decide)]
  refine pq_byte (ad := ad) (s := 3) (t := 24) (ad_j hk (kn := 3) (jn := 0) (j := 0) rfl rfl (by decide) (by decide) h0 h1 rfl) (by decide) ?_
  show PP (ml_loads_64 fu (n + 4) 4 d ad pc _ ((0 : Int32) + (-1)) F G) _
  rw [show (0 : Int32) + (-1) = -1 by decide]
  show PP (mb_loads_64 fu (ml_loads_64 fu (n + 3)) 4 d ad pc _ (-1) F G) _
  unfold mb_loads_64 mb_loads_91 mb_loads_97 mb_loads_103 mb_loads_108 mb_loads_114
  rw [if_pos (show (-1 : Int32) < (0 : Int32) by decide), if_neg (show ¬ (4 : Int32) = 0 by decide), if_neg (show ¬ (4 : Int32) = 1 by decide)]
  exact mp_116
theorem mp_l5_0 {fu n : Nat} (d ad pc : Int32) (F : PF) (G : PG) (hk : (ad &&& (3 : Int32)) = 0) (h0 : ¬ ad < (0 : Int32)) (h1 : ad ≤ (16383 : Int32)) : PP (ml_loads_64 fu (n + 5) 5 d ad pc 0 1 F G) (MA F G (aD pc d (lv 5 (ln 5) (G 94 (ix2 ad)) ad))) := by
  have ev : lv 5 (ln 5) (G 94 (ix2 ad)) ad = (((((0 : Int32) <<< ((8 : Int32) &&& 31)) ||| ((((G 94 (ix2 ad)).toUInt32 >>> ((8 : Int32).toUInt32 &&& Int32.toUInt32 31)).toInt32) &&& (255 : Int32))) <<< ((8 : Int32) &&& 31)) ||| ((((G 94 (ix2 ad)).toUInt32 >>> ((0 : Int32).toUInt32 &&& Int32.toUInt32 31)).toInt32) &&& (255 : Int32))) := by
    unfold lv lv0
    rw [show ln 5 = 2 by decide, hk, show (32 : Int32) - ((2 : Int32) * (8 : Int32)) = 16 by decide, show (0 : Int32) * (8 : Int32) = 0 by decide, if_pos (show (4 : Int32) ≤ 5 by decide)]
    exact (br_hu0 (G 94 (ix2 ad))).symm
  rw [ev]
  show PP (mb_loads_64 fu (ml_loads_64 fu (n + 4)) 5 d ad pc _ 1 F G) _
  unfold mb_loads_64 mb_loads_69 mb_loads_82
  rw [if_neg (show ¬ (1 : Int32) < (0 : Int32) by decide)]
  refine pq_byte (ad := ad) (s := 1) (t := 8) (ad_j hk (kn := 0) (jn := 1) (j := 1) rfl rfl (by decide) (by decide) h0 h1 rfl) (by decide) ?_
  show PP (ml_loads_64 fu (n + 4) 5 d ad pc _ ((1 : Int32) + (-1)) F G) _
  rw [show (1 : Int32) + (-1) = 0 by decide]
  show PP (mb_loads_64 fu (ml_loads_64 fu (n + 3)) 5 d ad pc _ 0 F G) _
  unfold mb_loads_64 mb_loads_69 mb_loads_82
  rw [if_neg (show ¬ (0 : Int32) < (0 : Int32) by decide)]
  refine pq_byte (ad := ad) (s := 0) (t := 0) (ad_j hk (kn := 0) (jn := 0) (j := 0) rfl rfl (by decide) (by decide) h0 h1 rfl) (by decide) ?_
  show PP (ml_loads_64 fu (n + 3) 5 d ad pc _ ((0 : Int32) + (-1)) F G) _
  rw [show (0 : Int32) + (-1) = -1 by decide]
  show PP (mb_loads_64 fu (ml_loads_64 fu (n + 2)) 5 d ad pc _ (-1) F G) _
  unfold mb_loads_64 mb_loads_91 mb_loads_97 mb_loads_103 mb_loads_108 mb_loads_114
  rw [if_pos (show (-1 : Int32) < (0 : Int32) by decide), if_neg (show ¬ (5 : Int32) = 0 by decide), if_neg (show ¬ (5 : Int32) = 1 by decide)]
  exact mp_116
theorem mp_l5_2 {fu n : Nat} (d ad pc : Int32) (F : PF) (G : PG) (hk : (ad &&& (3 : Int32)) = 2) (h0 : ¬ ad < (0 : Int32)) (h1 : ad ≤ (16383 : Int32)) : PP (ml_loads_64 fu (n + 5) 5 d ad pc 0 1 F G) (MA F G (aD pc d (lv 5 (ln 5) (G 94 (ix2 ad)) ad))) := by
  have ev : lv 5 (ln 5) (G 94 (ix2 ad)) ad = (((((0 : Int32) <<< ((8 : Int32) &&& 31)) ||| ((((G 94 (ix2 ad)).toUInt32 >>> ((24 : Int32).toUInt32 &&& Int32.toUInt32 31)).toInt32) &&& (255 : Int32))) <<< ((8 : Int32) &&& 31)) ||| ((((G 94 (ix2 ad)).toUInt32 >>> ((16 : Int32).toUInt32 &&& Int32.toUInt32 31)).toInt32) &&& (255 : Int32))) := by
    unfold lv lv0
    rw [show ln 5 = 2 by decide, hk, show (32 : Int32) - ((2 : Int32) * (8 : Int32)) = 16 by decide, show (2 : Int32) * (8 : Int32) = 16 by decide, if_pos (show (4 : Int32) ≤ 5 by decide)]
    exact (br_hu16 (G 94 (ix2 ad))).symm
  rw [ev]
  show PP (mb_loads_64 fu (ml_loads_64 fu (n + 4)) 5 d ad pc _ 1 F G) _
  unfold mb_loads_64 mb_loads_69 mb_loads_82
  rw [if_neg (show ¬ (1 : Int32) < (0 : Int32) by decide)]
  refine pq_byte (ad := ad) (s := 3) (t := 24) (ad_j hk (kn := 2) (jn := 1) (j := 1) rfl rfl (by decide) (by decide) h0 h1 rfl) (by decide) ?_
  show PP (ml_loads_64 fu (n + 4) 5 d ad pc _ ((1 : Int32) + (-1)) F G) _
  rw [show (1 : Int32) + (-1) = 0 by decide]
  show PP (mb_loads_64 fu (ml_loads_64 fu (n + 3)) 5 d ad pc _ 0 F G) _
  unfold mb_loads_64 mb_loads_69 mb_loads_82
  rw [if_neg (show ¬ (0 : Int32) < (0 : Int32) by decide)]
  refine pq_byte (ad := ad) (s := 2) (t := 16) (ad_j hk (kn := 2) (jn := 0) (j := 0) rfl rfl (by decide) (by decide) h0 h1 rfl) (by decide) ?_
  show PP (ml_loads_64 fu (n + 3) 5 d ad pc _ ((0 : Int32) + (-1)) F G) _
  rw [show (0 : Int32) + (-1) = -1 by decide]
  show PP (mb_loads_64 fu (ml_loads_64 fu (n + 2)) 5 d ad pc _ (-1) F G) _
  unfold mb_loads_64 mb_loads_91 mb_loads_97 mb_loads_103 mb_loads_108 mb_loads_114
  rw [if_pos (show (-1 : Int32) < (0 : Int32) by decide), if_neg (show ¬ (5 : Int32) = 0 by decide), if_neg (show ¬ (5 : Int32) = 1 by decide)]
  exact mp_116
theorem br_k {ad n : Int32} (hn : (ad &&& (n - (1 : Int32))) = (0 : Int32)) (h : n = 2 ∨ n = 4) : (n = 2 → (ad &&& (3 : Int32)) = 0 ∨ (ad &&& (3 : Int32)) = 2) ∧ (n = 4 → (ad &&& (3 : Int32)) = 0) := by
  refine ⟨fun e => ?_, fun e => ?_⟩
  · rw [e, show (2 : Int32) - 1 = 1 by decide] at hn
    have h3 := i_and ad (m := 3) 2 (by decide) (by decide)
    have h1 : ((ad &&& (3 : Int32)) &&& (1 : Int32)) = 0 := by
      rw [Int32.and_assoc, show (3 : Int32) &&& 1 = 1 by decide]
      exact hn
    generalize (ad &&& (3 : Int32)) = y at h3 h1 ⊢
    rcases (show y.toInt = 0 ∨ y.toInt = 1 ∨ y.toInt = 2 ∨ y.toInt = 3 by omega) with q | q | q | q
    · exact .inl (i_eq.mpr q)
    · have e2 : y = 1 := i_eq.mpr q
      rw [e2] at h1
      exact absurd h1 (by decide)
    · exact .inr (i_eq.mpr q)
    · have e2 : y = 3 := i_eq.mpr q
      rw [e2] at h1
      exact absurd h1 (by decide)
  · rw [e, show (4 : Int32) - 1 = 3 by decide] at hn
    exact hn
theorem br_k4 (ad : Int32) : (ad &&& (3 : Int32)) = 0 ∨ (ad &&& (3 : Int32)) = 1 ∨ (ad &&& (3 : Int32)) = 2 ∨ (ad &&& (3 : Int32)) = 3 := by
  have h3 := i_and ad (m := 3) 2 (by decide) (by decide)
  generalize (ad &&& (3 : Int32)) = y at h3 ⊢
  rcases (show y.toInt = 0 ∨ y.toInt = 1 ∨ y.toInt = 2 ∨ y.toInt = 3 by omega) with q | q | q | q
  · exact .inl (i_eq.mpr q)
  · exact .inr (.inl (i_eq.mpr q))
  · exact .inr (.inr (.inl (i_eq.mpr q)))
  · exact .inr (.inr (.inr (i_eq.mpr q)))
theorem mp_33 {fu : Nat} (f d ad pc n : Int32) (mm : Nat → Int32) (F : PF) (G : PG) (hm : ∀ i : Nat, i < 4096 → G 94 i = mm i) (hn : ln f = n) (hX : (ad &&& (n - (1 : Int32))) = (0 : Int32) → ¬ ad < (0 : Int32) → ad ≤ (16383 : Int32) → PP (ml_loads_64 fu fu f d ad pc 0 (n - (1 : Int32)) F G) (MA F G (aD pc d (lv f (ln f) (G 94 (ix2 ad)) ad)))) : PP (mb_loads_33 fu f d ad pc n F G) (MA F G (if (ad &&& (ln f - (1 : Int32))) = (0 : Int32) then (if ad < (0 : Int32) then aN 5 pc else if ad ≤ (16383 : Int32) then aD pc d (lv f (ln f) (mm (ix2 ad)) ad) else aN 5 pc) else aN 4 pc)) := by
  unfold mb_loads_33 mb_loads_44 mb_loads_46
  rw [show (ad &&& (ln f - (1 : Int32))) = (ad &&& (n - (1 : Int32))) by rw [hn]]
  refine PP.ifg (R := MA F G) (fun c1 => ?_) (fun _ => PP.ret (ma_no nok4))
  refine pq_out ?_
  show PP (mb_loads_50 fu f d ad pc n (if ad < (0 : Int32) then 1 else if ad ≤ (16383 : Int32) then 0 else 1) F G) _
  unfold mb_loads_50 mb_loads_53 mb_loads_55
  by_cases c2 : ad < (0 : Int32)
  · rw [if_pos c2, if_pos c2, if_neg (by decide)]
    exact PP.ret (ma_no nok5)
  · rw [if_neg c2, if_neg c2]
    by_cases c3 : ad ≤ (16383 : Int32)
    · rw [if_pos c3, if_pos c3, if_pos rfl, ← hm _ (ix2_lt c2 c3)]
      exact hX c1 c2 c3
    · rw [if_neg c3, if_neg c3, if_neg (by decide)]
      exact PP.ret (ma_no nok5)
theorem mp_loads {fu : Nat} (hfu : 5 ≤ fu) (f d ad pc : Int32) (mm : Nat → Int32) (hf : f = 0 ∨ f = 1 ∨ f = 2 ∨ f = 3 ∨ f = 4 ∨ f = 5 ∨ f = 6 ∨ f = 7) (F : PF) (G : PG) (hm : ∀ i : Nat, i < 4096 → G 94 i = mm i) : PP (mf_loads fu f d ad pc F G) (MA F G (aL mm pc f d ad)) := by
  obtain ⟨n, rfl⟩ : ∃ n, fu = n + 5 := ⟨fu - 5, by omega⟩
  unfold mf_loads mb_loads_0 mb_loads_5 mb_loads_10 aL
  refine PP.ifg (R := MA F G) (fun _ => PP.ret (ma_no nok2)) (fun h3 => PP.ifg (R := MA F G) (fun h5 => ?_) (fun _ => PP.ret (ma_no nok2)))
  unfold mb_loads_12 mb_loads_17 mb_loads_21 mb_loads_28 mb_loads_32
  rcases hf with rfl | rfl | rfl | rfl | rfl | rfl | rfl | rfl
  · rw [if_neg (show ¬ (0 : Int32) = 2 by decide), if_neg (show ¬ (0 : Int32) &&& (3 : Int32) = 1 by decide)]
    refine mp_33 0 d ad pc 1 mm F G hm (by decide) (fun c1 c2 c3 => ?_)
    rw [show (1 : Int32) - 1 = 0 by decide]
    rcases br_k4 ad with q | q | q | q
    · exact mp_l0_0 d ad pc F G q c2 c3
    · exact mp_l0_1 d ad pc F G q c2 c3
    · exact mp_l0_2 d ad pc F G q c2 c3
    · exact mp_l0_3 d ad pc F G q c2 c3
  · rw [if_neg (show ¬ (1 : Int32) = 2 by decide), if_pos (show (1 : Int32) &&& (3 : Int32) = 1 by decide)]
    refine mp_33 1 d ad pc 2 mm F G hm (by decide) (fun c1 c2 c3 => ?_)
    rw [show (2 : Int32) - 1 = 1 by decide]
    rcases (br_k c1 (.inl rfl)).1 rfl with q | q
    · exact mp_l1_0 d ad pc F G q c2 c3
    · exact mp_l1_2 d ad pc F G q c2 c3
  · rw [if_pos (show (2 : Int32) = 2 from rfl)]
    refine mp_33 2 d ad pc 4 mm F G hm (by decide) (fun c1 c2 c3 => ?_)
    rw [show (4 : Int32) - 1 = 3 by decide]
    exact mp_l2_0 d ad pc F G ((br_k c1 (.inr rfl)).2 rfl) c2 c3
  · exact absurd rfl h3
  · rw [if_neg (show ¬ (4 : Int32) = 2 by decide), if_neg (show ¬ (4 : Int32) &&& (3 : Int32) = 1 by decide)]
    refine mp_33 4 d ad pc 1 mm F G hm (by decide) (fun c1 c2 c3 => ?_)
    rw [show (1 : Int32) - 1 = 0 by decide]
    rcases br_k4 ad with q | q | q | q
    · exact mp_l4_0 d ad pc F G q c2 c3
    · exact mp_l4_1 d ad pc F G q c2 c3
    · exact mp_l4_2 d ad pc F G q c2 c3
    · exact mp_l4_3 d ad pc F G q c2 c3
  · rw [if_neg (show ¬ (5 : Int32) = 2 by decide), if_pos (show (5 : Int32) &&& (3 : Int32) = 1 by decide)]
    refine mp_33 5 d ad pc 2 mm F G hm (by decide) (fun c1 c2 c3 => ?_)
    rw [show (2 : Int32) - 1 = 1 by decide]
    rcases (br_k c1 (.inl rfl)).1 rfl with q | q
    · exact mp_l5_0 d ad pc F G q c2 c3
    · exact mp_l5_2 d ad pc F G q c2 c3
  · exact absurd h5 (by decide)
  · exact absurd h5 (by decide)
theorem mp_s1_0 {fu n : Nat} (ad v pc : Int32) (F : PF) (G : PG) (hk : (ad &&& (3 : Int32)) = 0) (h0 : ¬ ad < (0 : Int32)) (h1 : ad ≤ (16383 : Int32)) : PP (ml_stores_35 fu (n + 5) ad v pc 1 0 F G) (MA F G (0, 0, 0, some (ix2 ad, sv (sn 0) (G 94 (ix2 ad)) v ad), pc + (4 : Int32))) := by
  have ev : sv (sn 0) (G 94 (ix2 ad)) v ad = (((G 94 (ix2 ad)) &&& (((255 : Int32) <<< ((0 : Int32) &&& 31)) ^^^ (-1 : Int32))) ||| (((v >>> ((0 : Int32) &&& 31)) &&& (255 : Int32)) <<< ((0 : Int32) &&& 31))) := by
    unfold sv sk
    rw [show sn 0 = 1 by decide, hk, show (32 : Int32) - ((1 : Int32) * (8 : Int32)) = 24 by decide, show (0 : Int32) * (8 : Int32) = 0 by decide]
    exact (br_s1_0 (G 94 (ix2 ad)) v).symm
  rw [ev]
  show PP (mb_stores_35 fu (ml_stores_35 fu (n + 4)) ad v pc 1 0 F _) _
  unfold mb_stores_35 mb_stores_42 mb_stores_57
  rw [if_neg (show ¬ (1 : Int32) ≤ (0 : Int32) by decide), show (8 : Int32) * (0 : Int32) = 0 by decide]
  refine pq_putb (ad := ad) (s := 0) (t := 0) (ad_j hk (kn := 0) (jn := 0) (j := 0) rfl rfl (by decide) (by decide) h0 h1 rfl) (by decide) ?_
  show PP (ml_stores_35 fu (n + 4) ad v pc 1 ((0 : Int32) + 1) F _) _
  rw [show (0 : Int32) + 1 = 1 by decide]
  show PP (mb_stores_35 fu (ml_stores_35 fu (n + 3)) ad v pc 1 1 F _) _
  unfold mb_stores_35 mb_stores_63 mb_stores_71
  rw [if_pos (show (1 : Int32) ≤ (1 : Int32) by decide)]
  refine pq_goes ?_
  show PP (some (0, fup F 96 (F 96 + 1), gup (gup G 94 (ix2 ad) _) 95 32 (pc + (4 : Int32)))) _
  exact PP.ret (ma_ok (.inl rfl) ((gup_o (by decide)).trans bk_0.symm) gup_u)
theorem mp_s1_1 {fu n : Nat} (ad v pc : Int32) (F : PF) (G : PG) (hk : (ad &&& (3 : Int32)) = 1) (h0 : ¬ ad < (0 : Int32)) (h1 : ad ≤ (16383 : Int32)) : PP (ml_stores_35 fu (n + 5) ad v pc 1 0 F G) (MA F G (0, 0, 0, some (ix2 ad, sv (sn 0) (G 94 (ix2 ad)) v ad), pc + (4 : Int32))) := by
  have ev : sv (sn 0) (G 94 (ix2 ad)) v ad = (((G 94 (ix2 ad)) &&& (((255 : Int32) <<< ((8 : Int32) &&& 31)) ^^^ (-1 : Int32))) ||| (((v >>> ((0 : Int32) &&& 31)) &&& (255 : Int32)) <<< ((8 : Int32) &&& 31))) := by
    unfold sv sk
    rw [show sn 0 = 1 by decide, hk, show (32 : Int32) - ((1 : Int32) * (8 : Int32)) = 24 by decide, show (1 : Int32) * (8 : Int32) = 8 by decide]
    exact (br_s1_8 (G 94 (ix2 ad)) v).symm
  rw [ev]
  show PP (mb_stores_35 fu (ml_stores_35 fu (n + 4)) ad v pc 1 0 F _) _
  unfold mb_stores_35 mb_stores_42 mb_stores_57
  rw [if_neg (show ¬ (1 : Int32) ≤ (0 : Int32) by decide), show (8 : Int32) * (0 : Int32) = 0 by decide]
  refine pq_putb (ad := ad) (s := 1) (t := 8) (ad_j hk (kn := 1) (jn := 0) (j := 0) rfl rfl (by decide) (by decide) h0 h1 rfl) (by decide) ?_
  show PP (ml_stores_35 fu (n + 4) ad v pc 1 ((0 : Int32) + 1) F _) _
  rw [show (0 : Int32) + 1 = 1 by decide]
  show PP (mb_stores_35 fu (ml_stores_35 fu (n + 3)) ad v pc 1 1 F _) _
  unfold mb_stores_35 mb_stores_63 mb_stores_71
  rw [if_pos (show (1 : Int32) ≤ (1 : Int32) by decide)]
  refine pq_goes ?_
  show PP (some (0, fup F 96 (F 96 + 1), gup (gup G 94 (ix2 ad) _) 95 32 (pc + (4 : Int32)))) _
  exact PP.ret (ma_ok (.inl rfl) ((gup_o (by decide)).trans bk_0.symm) gup_u)
theorem mp_s1_2 {fu n : Nat} (ad v pc : Int32) (F : PF) (G : PG) (hk : (ad &&& (3 : Int32)) = 2) (h0 : ¬ ad < (0 : Int32)) (h1 : ad ≤ (16383 : Int32)) : PP (ml_stores_35 fu (n + 5) ad v pc 1 0 F G) (MA F G (0, 0, 0, some (ix2 ad, sv (sn 0) (G 94 (ix2 ad)) v ad), pc + (4 : Int32))) := by
  have ev : sv (sn 0) (G 94 (ix2 ad)) v ad = (((G 94 (ix2 ad)) &&& (((255 : Int32) <<< ((16 : Int32) &&& 31)) ^^^ (-1 : Int32))) ||| (((v >>> ((0 : Int32) &&& 31)) &&& (255 : Int32)) <<< ((16 : Int32) &&& 31))) := by
    unfold sv sk
    rw [show sn 0 = 1 by decide, hk, show (32 : Int32) - ((1 : Int32) * (8 : Int32)) = 24 by decide, show (2 : Int32) * (8 : Int32) = 16 by decide]
    exact (br_s1_16 (G 94 (ix2 ad)) v).symm
  rw [ev]
  show PP (mb_stores_35 fu (ml_stores_35 fu (n + 4)) ad v pc 1 0 F _) _
  unfold mb_stores_35 mb_stores_42 mb_stores_57
  rw [if_neg (show ¬ (1 : Int32) ≤ (0 : Int32) by decide), show (8 : Int32) * (0 : Int32) = 0 by decide]
  refine pq_putb (ad := ad) (s := 2) (t := 16) (ad_j hk (kn := 2) (jn := 0) (j := 0) rfl rfl (by decide) (by decide) h0 h1 rfl) (by decide) ?_
  show PP (ml_stores_35 fu (n + 4) ad v pc 1 ((0 : Int32) + 1) F _) _
  rw [show (0 : Int32) + 1 = 1 by decide]
  show PP (mb_stores_35 fu (ml_stores_35 fu (n + 3)) ad v pc 1 1 F _) _
  unfold mb_stores_35 mb_stores_63 mb_stores_71
  rw [if_pos (show (1 : Int32) ≤ (1 : Int32) by decide)]
  refine pq_goes ?_
  show PP (some (0, fup F 96 (F 96 + 1), gup (gup G 94 (ix2 ad) _) 95 32 (pc + (4 : Int32)))) _
  exact PP.ret (ma_ok (.inl rfl) ((gup_o (by decide)).trans bk_0.symm) gup_u)
theorem mp_s1_3 {fu n : Nat} (ad v pc : Int32) (F : PF) (G : PG) (hk : (ad &&& (3 : Int32)) = 3) (h0 : ¬ ad < (0 : Int32)) (h1 : ad ≤ (16383 : Int32)) : PP (ml_stores_35 fu (n + 5) ad v pc 1 0 F G) (MA F G (0, 0, 0, some (ix2 ad, sv (sn 0) (G 94 (ix2 ad)) v ad), pc + (4 : Int32))) := by
  have ev : sv (sn 0) (G 94 (ix2 ad)) v ad = (((G 94 (ix2 ad)) &&& (((255 : Int32) <<< ((24 : Int32) &&& 31)) ^^^ (-1 : Int32))) ||| (((v >>> ((0 : Int32) &&& 31)) &&& (255 : Int32)) <<< ((24 : Int32) &&& 31))) := by
    unfold sv sk
    rw [show sn 0 = 1 by decide, hk, show (32 : Int32) - ((1 : Int32) * (8 : Int32)) = 24 by decide, show (3 : Int32) * (8 : Int32) = 24 by decide]
    exact (br_s1_24 (G 94 (ix2 ad)) v).symm
  rw [ev]
  show PP (mb_stores_35 fu (ml_stores_35 fu (n + 4)) ad v pc 1 0 F _) _
  unfold mb_stores_35 mb_stores_42 mb_stores_57
  rw [if_neg (show ¬ (1 : Int32) ≤ (0 : Int32) by decide), show (8 : Int32) * (0 : Int32) = 0 by decide]
  refine pq_putb (ad := ad) (s := 3) (t := 24) (ad_j hk (kn := 3) (jn := 0) (j := 0) rfl rfl (by decide) (by decide) h0 h1 rfl) (by decide) ?_
  show PP (ml_stores_35 fu (n + 4) ad v pc 1 ((0 : Int32) + 1) F _) _
  rw [show (0 : Int32) + 1 = 1 by decide]
  show PP (mb_stores_35 fu (ml_stores_35 fu (n + 3)) ad v pc 1 1 F _) _
  unfold mb_stores_35 mb_stores_63 mb_stores_71
  rw [if_pos (show (1 : Int32) ≤ (1 : Int32) by decide)]
  refine pq_goes ?_
  show PP (some (0, fup F 96 (F 96 + 1), gup (gup G 94 (ix2 ad) _) 95 32 (pc + (4 : Int32)))) _
  exact PP.ret (ma_ok (.inl rfl) ((gup_o (by decide)).trans bk_0.symm) gup_u)
theorem mp_s2_0 {fu n : Nat} (ad v pc : Int32) (F : PF) (G : PG) (hk : (ad &&& (3 : Int32)) = 0) (h0 : ¬ ad < (0 : Int32)) (h1 : ad ≤ (16383 : Int32)) : PP (ml_stores_35 fu (n + 5) ad v pc 2 0 F G) (MA F G (0, 0, 0, some (ix2 ad, sv (sn 1) (G 94 (ix2 ad)) v ad), pc + (4 : Int32))) := by
  have ev : sv (sn 1) (G 94 (ix2 ad)) v ad = (((((G 94 (ix2 ad)) &&& (((255 : Int32) <<< ((0 : Int32) &&& 31)) ^^^ (-1 : Int32))) ||| (((v >>> ((0 : Int32) &&& 31)) &&& (255 : Int32)) <<< ((0 : Int32) &&& 31))) &&& (((255 : Int32) <<< ((8 : Int32) &&& 31)) ^^^ (-1 : Int32))) ||| (((v >>> ((8 : Int32) &&& 31)) &&& (255 : Int32)) <<< ((8 : Int32) &&& 31))) := by
    unfold sv sk
    rw [show sn 1 = 2 by decide, hk, show (32 : Int32) - ((2 : Int32) * (8 : Int32)) = 16 by decide, show (0 : Int32) * (8 : Int32) = 0 by decide]
    exact (br_s2_0 (G 94 (ix2 ad)) v).symm
  rw [ev]
  show PP (mb_stores_35 fu (ml_stores_35 fu (n + 4)) ad v pc 2 0 F _) _
  unfold mb_stores_35 mb_stores_42 mb_stores_57
  rw [if_neg (show ¬ (2 : Int32) ≤ (0 : Int32) by decide), show (8 : Int32) * (0 : Int32) = 0 by decide]
  refine pq_putb (ad := ad) (s := 0) (t := 0) (ad_j hk (kn := 0) (jn := 0) (j := 0) rfl rfl (by decide) (by decide) h0 h1 rfl) (by decide) ?_
  show PP (ml_stores_35 fu (n + 4) ad v pc 2 ((0 : Int32) + 1) F _) _
  rw [show (0 : Int32) + 1 = 1 by decide]
  show PP (mb_stores_35 fu (ml_stores_35 fu (n + 3)) ad v pc 2 1 F _) _
  unfold mb_stores_35 mb_stores_42 mb_stores_57
  rw [if_neg (show ¬ (2 : Int32) ≤ (1 : Int32) by decide), show (8 : Int32) * (1 : Int32) = 8 by decide]
  refine pq_putb (ad := ad) (s := 1) (t := 8) (ad_j hk (kn := 0) (jn := 1) (j := 1) rfl rfl (by decide) (by decide) h0 h1 rfl) (by decide) ?_
  dsimp only
  rw [gup_i, gup_gup]
  show PP (ml_stores_35 fu (n + 3) ad v pc 2 ((1 : Int32) + 1) F _) _
  rw [show (1 : Int32) + 1 = 2 by decide]
  show PP (mb_stores_35 fu (ml_stores_35 fu (n + 2)) ad v pc 2 2 F _) _
  unfold mb_stores_35 mb_stores_63 mb_stores_71
  rw [if_pos (show (2 : Int32) ≤ (2 : Int32) by decide)]
  refine pq_goes ?_
  show PP (some (0, fup F 96 (F 96 + 1), gup (gup G 94 (ix2 ad) _) 95 32 (pc + (4 : Int32)))) _
  exact PP.ret (ma_ok (.inl rfl) ((gup_o (by decide)).trans bk_0.symm) gup_u)
theorem mp_s2_2 {fu n : Nat} (ad v pc : Int32) (F : PF) (G : PG) (hk : (ad &&& (3 : Int32)) = 2) (h0 : ¬ ad < (0 : Int32)) (h1 : ad ≤ (16383 : Int32)) : PP (ml_stores_35 fu (n + 5) ad v pc 2 0 F G) (MA F G (0, 0, 0, some (ix2 ad, sv (sn 1) (G 94 (ix2 ad)) v ad), pc + (4 : Int32))) := by
  have ev : sv (sn 1) (G 94 (ix2 ad)) v ad = (((((G 94 (ix2 ad)) &&& (((255 : Int32) <<< ((16 : Int32) &&& 31)) ^^^ (-1 : Int32))) ||| (((v >>> ((0 : Int32) &&& 31)) &&& (255 : Int32)) <<< ((16 : Int32) &&& 31))) &&& (((255 : Int32) <<< ((24 : Int32) &&& 31)) ^^^ (-1 : Int32))) ||| (((v >>> ((8 : Int32) &&& 31)) &&& (255 : Int32)) <<< ((24 : Int32) &&& 31))) := by
    unfold sv sk
    rw [show sn 1 = 2 by decide, hk, show (32 : Int32) - ((2 : Int32) * (8 : Int32)) = 16 by decide, show (2 : Int32) * (8 : Int32) = 16 by decide]
    exact (br_s2_16 (G 94 (ix2 ad)) v).symm
  rw [ev]
  show PP (mb_stores_35 fu (ml_stores_35 fu (n + 4)) ad v pc 2 0 F _) _
  unfold mb_stores_35 mb_stores_42 mb_stores_57
  rw [if_neg (show ¬ (2 : Int32) ≤ (0 : Int32) by decide), show (8 : Int32) * (0 : Int32) = 0 by decide]
  refine pq_putb (ad := ad) (s := 2) (t := 16) (ad_j hk (kn := 2) (jn := 0) (j := 0) rfl rfl (by decide) (by decide) h0 h1 rfl) (by decide) ?_
  show PP (ml_stores_35 fu (n + 4) ad v pc 2 ((0 : Int32) + 1) F _) _
  rw [show (0 : Int32) + 1 = 1 by decide]
  show PP (mb_stores_35 fu (ml_stores_35 fu (n + 3)) ad v pc 2 1 F _) _
  unfold mb_stores_35 mb_stores_42 mb_stores_57
  rw [if_neg (show ¬ (2 : Int32) ≤ (1 : Int32) by decide), show (8 : Int32) * (1 : Int32) = 8 by decide]
  refine pq_putb (ad := ad) (s := 3) (t := 24) (ad_j hk (kn := 2) (jn := 1) (j := 1) rfl rfl (by decide) (by decide) h0 h1 rfl) (by decide) ?_
  dsimp only
  rw [gup_i, gup_gup]
  show PP (ml_stores_35 fu (n + 3) ad v pc 2 ((1 : Int32) + 1) F _) _
  rw [show (1 : Int32) + 1 = 2 by decide]
  show PP (mb_stores_35 fu (ml_stores_35 fu (n + 2)) ad v pc 2 2 F _) _
  unfold mb_stores_35 mb_stores_63 mb_stores_71
  rw [if_pos (show (2 : Int32) ≤ (2 : Int32) by decide)]
  refine pq_goes ?_
  show PP (some (0, fup F 96 (F 96 + 1), gup (gup G 94 (ix2 ad) _) 95 32 (pc + (4 : Int32)))) _
  exact PP.ret (ma_ok (.inl rfl) ((gup_o (by decide)).trans bk_0.symm) gup_u)
theorem mp_s4_0 {fu n : Nat} (ad v pc : Int32) (F : PF) (G : PG) (hk : (ad &&& (3 : Int32)) = 0) (h0 : ¬ ad < (0 : Int32)) (h1 : ad ≤ (16383 : Int32)) : PP (ml_stores_35 fu (n + 5) ad v pc 4 0 F G) (MA F G (0, 0, 0, some (ix2 ad, sv (sn 2) (G 94 (ix2 ad)) v ad), pc + (4 : Int32))) := by
  have ev : sv (sn 2) (G 94 (ix2 ad)) v ad = (((((((((G 94 (ix2 ad)) &&& (((255 : Int32) <<< ((0 : Int32) &&& 31)) ^^^ (-1 : Int32))) ||| (((v >>> ((0 : Int32) &&& 31)) &&& (255 : Int32)) <<< ((0 : Int32) &&& 31))) &&& (((255 : Int32) <<< ((8 : Int32) &&& 31)) ^^^ (-1 : Int32))) ||| (((v >>> ((8 : Int32) &&& 31)) &&& (255 : Int32)) <<< ((8 : Int32) &&& 31))) &&& (((255 : Int32) <<< ((16 : Int32) &&& 31)) ^^^ (-1 : Int32))) ||| (((v >>> ((16 : Int32) &&& 31)) &&& (255 : Int32)) <<< ((16 : Int32) &&& 31))) &&& (((255 : Int32) <<< ((24 : Int32) &&& 31)) ^^^ (-1 : Int32))) ||| (((v >>> ((24 : Int32) &&& 31)) &&& (255 : Int32)) <<< ((24 : Int32) &&& 31))) := by
    unfold sv sk
    rw [show sn 2 = 4 by decide, hk, show (32 : Int32) - ((4 : Int32) * (8 : Int32)) = 0 by decide, show (0 : Int32) * (8 : Int32) = 0 by decide]
    exact (br_s4_0 (G 94 (ix2 ad)) v).symm
  rw [ev]
  show PP (mb_stores_35 fu (ml_stores_35 fu (n + 4)) ad v pc 4 0 F _) _
  unfold mb_stores_35 mb_stores_42 mb_stores_57
  rw [if_neg (show ¬ (4 : Int32) ≤ (0 : Int32) by decide), show (8 : Int32) * (0 : Int32) = 0 by decide]
  refine pq_putb (ad := ad) (s := 0) (t := 0) (ad_j hk (kn := 0) (jn := 0) (j := 0) rfl rfl (by decide) (by decide) h0 h1 rfl) (by decide) ?_
  show PP (ml_stores_35 fu (n + 4) ad v pc 4 ((0 : Int32) + 1) F _) _
  rw [show (0 : Int32) + 1 = 1 by decide]
  show PP (mb_stores_35 fu (ml_stores_35 fu (n + 3)) ad v pc 4 1 F _) _
  unfold mb_stores_35 mb_stores_42 mb_stores_57
  rw [if_neg (show ¬ (4 : Int32) ≤ (1 : Int32) by decide), show (8 : Int32) * (1 : Int32) = 8 by decide]
  refine pq_putb (ad := ad) (s := 1) (t := 8) (ad_j hk (kn := 0) (jn := 1) (j := 1) rfl rfl (by decide) (by decide) h0 h1 rfl) (by decide) ?_
  dsimp only
  rw [gup_i, gup_gup]
  show PP (ml_stores_35 fu (n + 3) ad v pc 4 ((1 : Int32) + 1) F _) _
  rw [show (1 : Int32) + 1 = 2 by decide]
  show PP (mb_stores_35 fu (ml_stores_35 fu (n + 2)) ad v pc 4 2 F _) _
  unfold mb_stores_35 mb_stores_42 mb_stores_57
  rw [if_neg (show ¬ (4 : Int32) ≤ (2 : Int32) by decide), show (8 : Int32) * (2 : Int32) = 16 by decide]
  refine pq_putb (ad := ad) (s := 2) (t := 16) (ad_j hk (kn := 0) (jn := 2) (j := 2) rfl rfl (by decide) (by decide) h0 h1 rfl) (by decide) ?_
  dsimp only
  rw [gup_i, gup_gup]
  show PP (ml_stores_35 fu (n + 2) ad v pc 4 ((2 : Int32) + 1) F _) _
  rw [show (2 : Int32) + 1 = 3 by decide]
  show PP (mb_stores_35 fu (ml_stores_35 fu (n + 1)) ad v pc 4 3 F _) _
  unfold mb_stores_35 mb_stores_42 mb_stores_57
  rw [if_neg (show ¬ (4 : Int32) ≤ (3 : Int32) by decide), show (8 : Int32) * (3 : Int32) = 24 by decide]
  refine pq_putb (ad := ad) (s := 3) (t := 24) (ad_j hk (kn := 0) (jn := 3) (j := 3) rfl rfl (by decide) (by decide) h0 h1 rfl) (by decide) ?_
  dsimp only
  rw [gup_i, gup_gup]
  show PP (ml_stores_35 fu (n + 1) ad v pc 4 ((3 : Int32) + 1) F _) _
  rw [show (3 : Int32) + 1 = 4 by decide]
  show PP (mb_stores_35 fu (ml_stores_35 fu (n + 0)) ad v pc 4 4 F _) _
  unfold mb_stores_35 mb_stores_63 mb_stores_71
  rw [if_pos (show (4 : Int32) ≤ (4 : Int32) by decide)]
  refine pq_goes ?_
  show PP (some (0, fup F 96 (F 96 + 1), gup (gup G 94 (ix2 ad) _) 95 32 (pc + (4 : Int32)))) _
  exact PP.ret (ma_ok (.inl rfl) ((gup_o (by decide)).trans bk_0.symm) gup_u)
theorem mp_stores {fu : Nat} (hfu : 5 ≤ fu) (f ad v pc : Int32) (mm : Nat → Int32) (hf : f = 0 ∨ f = 1 ∨ f = 2 ∨ f = 3 ∨ f = 4 ∨ f = 5 ∨ f = 6 ∨ f = 7) (F : PF) (G : PG) (hm : ∀ i : Nat, i < 4096 → G 94 i = mm i) : PP (mf_stores fu f ad v pc F G) (MA F G (aS mm pc f ad v)) := by
  obtain ⟨n, rfl⟩ : ∃ n, fu = n + 5 := ⟨fu - 5, by omega⟩
  unfold mf_stores mb_stores_0 mb_stores_5 aS
  refine PP.ifg (R := MA F G) (fun h5 => ?_) (fun _ => PP.ret (ma_no nok2))
  unfold mb_stores_7 mb_stores_21 mb_stores_23
  rcases hf with rfl | rfl | rfl | rfl | rfl | rfl | rfl | rfl
  · rw [show (1 : Int32) <<< ((0 : Int32) &&& 31) = 1 by decide, show (ad &&& (sn 0 - (1 : Int32))) = (ad &&& ((1 : Int32) - (1 : Int32))) by rw [show sn 0 = 1 by decide]]
    refine PP.ifg (R := MA F G) (fun c1 => ?_) (fun _ => PP.ret (ma_no nok4))
    refine pq_out ?_
    show PP (mb_stores_27 (n + 5) ad v pc 1 (if ad < (0 : Int32) then 1 else if ad ≤ (16383 : Int32) then 0 else 1) F G) _
    unfold mb_stores_27 mb_stores_30 mb_stores_32
    by_cases c2 : ad < (0 : Int32)
    · rw [if_pos c2, if_pos c2, if_neg (by decide)]
      exact PP.ret (ma_no nok5)
    · rw [if_neg c2, if_neg c2]
      by_cases c3 : ad ≤ (16383 : Int32)
      · rw [if_pos c3, if_pos c3, if_pos rfl, ← hm _ (ix2_lt c2 c3)]
        rcases br_k4 ad with q | q | q | q
        · exact mp_s1_0 ad v pc F G q c2 c3
        · exact mp_s1_1 ad v pc F G q c2 c3
        · exact mp_s1_2 ad v pc F G q c2 c3
        · exact mp_s1_3 ad v pc F G q c2 c3
      · rw [if_neg c3, if_neg c3, if_neg (by decide)]
        exact PP.ret (ma_no nok5)
  · rw [show (1 : Int32) <<< ((1 : Int32) &&& 31) = 2 by decide, show (ad &&& (sn 1 - (1 : Int32))) = (ad &&& ((2 : Int32) - (1 : Int32))) by rw [show sn 1 = 2 by decide]]
    refine PP.ifg (R := MA F G) (fun c1 => ?_) (fun _ => PP.ret (ma_no nok4))
    refine pq_out ?_
    show PP (mb_stores_27 (n + 5) ad v pc 2 (if ad < (0 : Int32) then 1 else if ad ≤ (16383 : Int32) then 0 else 1) F G) _
    unfold mb_stores_27 mb_stores_30 mb_stores_32
    by_cases c2 : ad < (0 : Int32)
    · rw [if_pos c2, if_pos c2, if_neg (by decide)]
      exact PP.ret (ma_no nok5)
    · rw [if_neg c2, if_neg c2]
      by_cases c3 : ad ≤ (16383 : Int32)
      · rw [if_pos c3, if_pos c3, if_pos rfl, ← hm _ (ix2_lt c2 c3)]
        rcases (br_k c1 (.inl rfl)).1 rfl with q | q
        · exact mp_s2_0 ad v pc F G q c2 c3
        · exact mp_s2_2 ad v pc F G q c2 c3
      · rw [if_neg c3, if_neg c3, if_neg (by decide)]
        exact PP.ret (ma_no nok5)
  · rw [show (1 : Int32) <<< ((2 : Int32) &&& 31) = 4 by decide, show (ad &&& (sn 2 - (1 : Int32))) = (ad &&& ((4 : Int32) - (1 : Int32))) by rw [show sn 2 = 4 by decide]]
    refine PP.ifg (R := MA F G) (fun c1 => ?_) (fun _ => PP.ret (ma_no nok4))
    refine pq_out ?_
    show PP (mb_stores_27 (n + 5) ad v pc 4 (if ad < (0 : Int32) then 1 else if ad ≤ (16383 : Int32) then 0 else 1) F G) _
    unfold mb_stores_27 mb_stores_30 mb_stores_32
    by_cases c2 : ad < (0 : Int32)
    · rw [if_pos c2, if_pos c2, if_neg (by decide)]
      exact PP.ret (ma_no nok5)
    · rw [if_neg c2, if_neg c2]
      by_cases c3 : ad ≤ (16383 : Int32)
      · rw [if_pos c3, if_pos c3, if_pos rfl, ← hm _ (ix2_lt c2 c3)]
        exact mp_s4_0 ad v pc F G ((br_k c1 (.inr rfl)).2 rfl) c2 c3
      · rw [if_neg c3, if_neg c3, if_neg (by decide)]
        exact PP.ret (ma_no nok5)
  · exact absurd h5 (by decide)
  · exact absurd h5 (by decide)
  · exact absurd h5 (by decide)
  · exact absurd h5 (by decide)
  · exact absurd h5 (by decide)
