theorem br_dn (x : Int32) : (x &&& (31 : Int32)).toNatClampNeg < 32 := by
  have h := i_and x (m := 31) 5 (by decide) (by decide)
  show ((x &&& (31 : Int32)).toInt).toNat < 32
  omega
theorem mp_100 {fu : Nat} (hfu : 5 ≤ fu) (rg mm : Nat → Int32) (pc w : Int32) (F : PF) (G : PG) (hm : ∀ i : Nat, i < 4096 → G 94 i = mm i) : PP (mb_oneWord_100 fu pc w (((w.toUInt32 >>> ((7 : Int32).toUInt32 &&& Int32.toUInt32 31)).toInt32) &&& (31 : Int32)) (((w.toUInt32 >>> ((12 : Int32).toUInt32 &&& Int32.toUInt32 31)).toInt32) &&& (7 : Int32)) ((w.toUInt32 >>> ((25 : Int32).toUInt32 &&& Int32.toUInt32 31)).toInt32) (rg (((w.toUInt32 >>> ((15 : Int32).toUInt32 &&& Int32.toUInt32 31)).toInt32) &&& (31 : Int32)).toNatClampNeg) (rg (((w.toUInt32 >>> ((20 : Int32).toUInt32 &&& Int32.toUInt32 31)).toInt32) &&& (31 : Int32)).toNatClampNeg) (w >>> ((20 : Int32) &&& 31)) (w &&& (127 : Int32)) F G) (MA F G (act rg mm pc w)) := by
  have hf := br_8 ((w.toUInt32 >>> ((12 : Int32).toUInt32 &&& Int32.toUInt32 31)).toInt32)
  have ret : ∀ {X : PR} {a : BA}, PP X (MA F G a) → PP (X.bind (fun q => some (q.1, q.2.1, q.2.2))) (MA F G a) := fun h => PP.bind h (fun r F' G' e => PP.ret e)
  unfold mb_oneWord_100 act
  refine PP.ifg (R := MA F G) (fun _ => ret (mp_loads hfu _ _ _ _ mm hf F G hm)) (fun _ => PP.ifg (R := MA F G) (fun _ => ?_) (fun _ => PP.ifg (R := MA F G) (fun _ => ?_) (fun _ => PP.ifg (R := MA F G) (fun _ => mp_gg) (fun _ => PP.ifg (R := MA F G) (fun _ => ret (mp_stores hfu _ _ _ _ mm hf F G hm)) (fun _ => PP.ifg (R := MA F G) (fun _ => ret (mp_both _ _ _ _ _ _ hf F G)) (fun _ => PP.ifg (R := MA F G) (fun _ => mp_gg) (fun _ => PP.ifg (R := MA F G) (fun _ => ?_) (fun _ => PP.ifg (R := MA F G) (fun _ => ?_) (fun _ => PP.ifg (R := MA F G) (fun _ => ?_) (fun _ => ?_))))))))))
  · unfold mb_oneWord_429 mb_oneWord_434 mb_oneWord_441 mb_oneWord_444 mb_oneWord_445
    exact PP.ifg (R := MA F G) (fun _ => mp_g) (fun _ => PP.ret (ma_no nok2))
  · unfold mb_oneWord_392
    refine pq_part (m := 31) (by decide) ?_
    exact ret (mp_immediate _ _ _ _ _ _ _ F G (br_n31 w) (br_n31u w))
  · unfold mb_oneWord_304
    refine pq_part (m := 1) (by decide) ?_
    unfold mb_oneWord_326
    refine pq_part (m := 63) (by decide) ?_
    unfold mb_oneWord_338
    refine pq_part (m := 15) (by decide) ?_
    exact ret (mp_branches _ _ _ _ _ F G)
  · unfold mb_oneWord_280 mb_oneWord_285 mb_oneWord_299 mb_oneWord_302 mb_oneWord_303
    exact PP.ifg (R := MA F G) (fun _ => ret (mp_jumps _ _ _ F G)) (fun _ => PP.ret (ma_no nok2))
  · unfold mb_oneWord_230
    refine pq_part (m := 255) (by decide) ?_
    unfold mb_oneWord_248
    refine pq_part (m := 1) (by decide) ?_
    unfold mb_oneWord_259
    refine pq_part (m := 1023) (by decide) ?_
    rw [← br_j12 w]
    exact ret (mp_jumps _ _ _ F G)
  · unfold mb_oneWord_446 mb_oneWord_452 mb_oneWord_459
    refine PP.ifg (R := MA F G) (fun c => ?_) (fun c => PP.ifg (R := MA F G) (fun c2 => ?_) (fun _ => PP.ret (ma_no nok2)))
    · unfold mb_oneWord_461
      refine pq_goes ?_
      show PP (mb_oneWord_468 fu w 0 _ _) _
      unfold mb_oneWord_468 mb_oneWord_474 mb_oneWord_481
      rw [if_pos c]
      exact PP.ret (ma_ok (why := 6) (.inr (.inl rfl)) bk_0.symm rfl)
    · unfold mb_oneWord_461
      refine pq_goes ?_
      show PP (mb_oneWord_468 fu w 0 _ _) _
      unfold mb_oneWord_468 mb_oneWord_479 mb_oneWord_481
      rw [if_neg c]
      exact PP.ret (ma_ok (why := 7) (.inr (.inr rfl)) bk_0.symm rfl)
theorem mp_wordB {fu : Nat} (hfu : 5 ≤ fu) (rg mm : Nat → Int32) (pc : Int32) (F : PF) (G : PG) (hr : ∀ i : Nat, i < 32 → G 95 i = rg i) (hm : ∀ i : Nat, i < 4096 → G 94 i = mm i) (hp : G 95 32 = pc) : PP (mf_oneWord fu F G) (fun r F1 G1 => (¬ ((pc &&& (3 : Int32)) = (0 : Int32) ∧ ¬ pc < (0 : Int32) ∧ pc ≤ (16383 : Int32)) ∧ r = 1 ∧ F = F1 ∧ G = G1) ∨ (((pc &&& (3 : Int32)) = (0 : Int32) ∧ ¬ pc < (0 : Int32) ∧ pc ≤ (16383 : Int32)) ∧ MA F G (act rg mm pc (mm (ix2 pc))) r F1 G1)) := by
  unfold mf_oneWord mb_oneWord_0 mb_oneWord_21
  rw [if_pos (show ixb (32 : Int32) 33 = true by decide), show (32 : Int32).toNatClampNeg = 32 by decide, hp]
  refine PP.ite (fun c1 => ?_) (fun c1 => PP.ret (.inl ⟨fun q => c1 q.1, rfl, rfl, rfl⟩))
  unfold mb_oneWord_14
  refine pq_out ?_
  show PP (mb_oneWord_18 fu pc (if pc < (0 : Int32) then 1 else if pc ≤ (16383 : Int32) then 0 else 1) F G) _
  unfold mb_oneWord_18 mb_oneWord_21
  by_cases c2 : pc < (0 : Int32)
  · rw [if_pos c2, if_neg (by decide)]
    exact PP.ret (.inl ⟨fun q => q.2.1 c2, rfl, rfl, rfl⟩)
  by_cases c3 : pc ≤ (16383 : Int32)
  · rw [if_neg c2, if_pos c3, if_pos rfl]
    refine PP.mono (Q1 := MA F G (act rg mm pc (mm (ix2 pc)))) ?_ (fun r F1 G1 h => .inr ⟨⟨c1, c2, c3⟩, h⟩)
    unfold mb_oneWord_23
    refine PP.ix (fun _ => ?_)
    have ew : G 94 (pc >>> ((2 : Int32) &&& 31)).toNatClampNeg = mm (ix2 pc) := hm _ (ix2_lt c2 c3)
    rw [ew]
    generalize mm (ix2 pc) = w
    refine pq_part (m := 31) (by decide) ?_
    unfold mb_oneWord_39
    refine pq_part (m := 7) (by decide) ?_
    unfold mb_oneWord_47
    refine pq_part (m := 127) (by decide) ?_
    unfold mb_oneWord_57
    refine pq_part (m := 31) (by decide) ?_
    unfold mb_oneWord_70
    refine PP.ix (fun _ => ?_)
    refine pq_part (m := 31) (by decide) ?_
    unfold mb_oneWord_84
    refine PP.ix (fun _ => ?_)
    refine pq_part (m := 127) (by decide) ?_
    have h := mp_100 hfu rg mm pc w F G hm
    rw [← hr _ (br_dn _), ← hr _ (br_dn _), ← br_u25 w] at h
    have e0 := br_u0 w
    show PP (mb_oneWord_100 fu pc w _ _ _ _ _ _ (((w.toUInt32 >>> ((0 : Int32).toUInt32 &&& Int32.toUInt32 31)).toInt32) &&& (127 : Int32)) F G) _
    rw [e0]
    exact h
  · rw [if_neg c2, if_neg c3, if_neg (by decide)]
    exact PP.ret (.inl ⟨fun q => c3 q.2.2, rfl, rfl, rfl⟩)
/-- both boards are alike -/
def BRD (Fc : PF) (Gc : PG) (Fm : PF) (Gm : PG) : Prop := (∀ i : Nat, i < 32 → Gm 95 i = Gc 1 i) ∧ (∀ i : Nat, i < 4096 → Gm 94 i = Gc 0 i) ∧ Gm 95 32 = Fc 2 ∧ Fm 96 = Fc 3
theorem KB.refl {F : PF} {G : PG} : KB F G F G := ⟨rfl, rfl, rfl, rfl, rfl⟩
theorem BRD.keep {Fc F1 Fm F2 : PF} {Gc G1 Gm G2 : PG} {a b : List Nat} (h : BRD Fc Gc Fm Gm) (k : KB Fc Gc F1 G1) (q : KX a b Fm Gm F2 G2) (h1 : a.contains 96 = false) (h2 : b.contains 94 = false) (h3 : b.contains 95 = false) : BRD F1 G1 F2 G2 := by
  obtain ⟨k2, k3, -, k0, k1⟩ := k
  unfold BRD
  rw [k2, k3, k0, k1, q.1 96 h1, q.2 94 h2, q.2 95 h3]
  exact h
theorem bk_at {g h : Nat → Int32} {d v : Int32} (e : ∀ i : Nat, i < 32 → g i = h i) : ∀ i : Nat, i < 32 → bk g d v i = bk h d v i := by
  intro i hi
  unfold bk
  by_cases c : d ≤ 0
  · rw [if_pos c, if_pos c]
    exact e i hi
  · rw [if_neg c, if_neg c]
    by_cases q : i = d.toNatClampNeg
    · rw [q, upd_s, upd_s]
    · rw [upd_n q, upd_n q]
      exact e i hi
theorem bm_at {g h : Nat → Int32} {q : Option (Nat × Int32)} (e : ∀ i : Nat, i < 4096 → g i = h i) : ∀ i : Nat, i < 4096 → bm g q i = bm h q i := by
  intro i hi
  cases q with
  | none => exact e i hi
  | some q =>
    show upd g q.1 q.2 i = upd h q.1 q.2 i
    by_cases c : i = q.1
    · rw [c, upd_s, upd_s]
    · rw [upd_n c, upd_n c]
      exact e i hi
theorem same_word {fu : Nat} (hfu : 5 ≤ fu) {Fc F1 Fm F2 : PF} {Gc G1 Gm G2 : PG} {r1 r2 : Int32} (h : BRD Fc Gc Fm Gm) (h1 : cf_X0_doWord fu Fc Gc = some (r1, F1, G1)) (h2 : mf_oneWord fu Fm Gm = some (r2, F2, G2)) : r1 = r2 ∧ BRD F1 G1 F2 G2 := by
  obtain ⟨hr, hm, hp, hd⟩ := h
  have a := cp_word Fc Gc r1 F1 G1 h1
  have b := mp_wordB hfu (Gc 1) (Gc 0) (Fc 2) Fm Gm hr hm hp r2 F2 G2 h2
  have le : Fc 2 < (16384 : Int32) ↔ Fc 2 ≤ (16383 : Int32) := by
    rw [i_lt, i_le]
    have e1 : (16384 : Int32).toInt = 16384 := rfl
    have e2 : (16383 : Int32).toInt = 16383 := rfl
    omega
  unfold CWD at a
  rw [le] at a
  rcases a with ⟨na, rfl, rfl, rfl⟩ | ⟨ga, a1, a0, a2⟩
  · rcases b with ⟨-, rfl, rfl, rfl⟩ | ⟨gb, -⟩
    · exact ⟨rfl, hr, hm, hp, hd⟩
    · exact absurd gb na
  · rcases b with ⟨nb, -⟩ | ⟨-, b1, b0, b2⟩
    · exact absurd ga nb
    · generalize act (Gc 1) (Gc 0) (Fc 2) (Gc 0 (ix2 (Fc 2))) = t at a1 a0 a2 b1 b0 b2
      refine ⟨a1.trans b1.symm, ?_⟩
      rw [a1] at a2
      rcases a2 with ⟨k, x1, x2, x3⟩ | ⟨k, x1, x2, x3⟩
      · rcases b2 with ⟨-, y1, y2⟩ | ⟨k2, -⟩
        · refine ⟨fun i hi => ?_, fun i hi => ?_, ?_, ?_⟩
          · rw [y1, x1, upd_n (by omega)]
            exact bk_at hr i hi
          · rw [b0, a0]
            exact bm_at hm i hi
          · rw [y1, x2, upd_s]
          · rw [y2, x3, hd]
        · exact absurd k k2
      · rcases b2 with ⟨k2, -⟩ | ⟨-, y1, y2⟩
        · exact absurd k2 k
        · refine ⟨fun i hi => ?_, fun i hi => ?_, ?_, ?_⟩
          · rw [y1, x1]
            exact hr i hi
          · rw [b0, a0]
            exact bm_at hm i hi
          · rw [y1, x2, hp]
          · rw [y2, x3, hd]
theorem same_words {fu : Nat} (hfu : 5 ≤ fu) : ∀ (n k : Nat) (x z i : Int32) (Fc F1 Fm F2 : PF) (Gc G1 Gm G2 : PG) (r1 r2 : Int32), BRD Fc Gc Fm Gm → cl_X0_doWords_4 fu n x z i Fc Gc = some (r1, F1, G1) → ml_go_18 fu k x z i Fm Gm = some (r2, F2, G2) → r1 = r2 ∧ BRD F1 G1 F2 G2 := by
  intro n
  induction n with
  | zero => intro k x z i Fc F1 Fm F2 Gc G1 Gm G2 r1 r2 h h1 h2; cases h1
  | succ n ih =>
    intro k x z i Fc F1 Fm F2 Gc G1 Gm G2 r1 r2 h h1 h2
    cases k with
    | zero => cases h2
    | succ k =>
      replace h1 : cb_X0_doWords_4 fu (cl_X0_doWords_4 fu n) x z i Fc Gc = some (r1, F1, G1) := h1
      replace h2 : mb_go_18 fu (ml_go_18 fu k) x z i Fm Gm = some (r2, F2, G2) := h2
      unfold cb_X0_doWords_4 cb_X0_doWords_9 cb_X0_doWords_13 cb_X0_doWords_17 cb_X0_doWords_24 at h1
      unfold mb_go_18 mb_go_23 mb_go_27 mb_go_31 mb_go_38 at h2
      by_cases c : x ≤ i
      · rw [if_pos c] at h1 h2
        cases h1
        cases h2
        exact ⟨rfl, h⟩
      · rw [if_neg c] at h1 h2
        by_cases c0 : z = (0 : Int32)
        · rw [if_pos c0] at h1 h2
          obtain ⟨q1, e1, h1⟩ := bind_elim h1
          obtain ⟨q2, e2, h2⟩ := bind_elim h2
          obtain ⟨s, hB⟩ := same_word hfu h (r1 := q1.1) (F1 := q1.2.1) (G1 := q1.2.2) e1 (r2 := q2.1) (F2 := q2.2.1) (G2 := q2.2.2) e2
          replace h2 : ml_go_18 fu k x q2.1 (i + 1) q2.2.1 q2.2.2 = some (r2, F2, G2) := h2
          rw [← s] at h2
          exact ih k x q1.1 (i + 1) _ _ _ _ _ _ _ _ r1 r2 hB h1 h2
        · rw [if_neg c0] at h1 h2
          cases h1
          cases h2
          exact ⟨rfl, h⟩
theorem same_go {fu : Nat} (hfu : 5 ≤ fu) {x : Int32} {Fc F1 Fm F2 : PF} {Gc G1 Gm G2 : PG} {r1 r2 : Int32} (h : BRD Fc Gc Fm Gm) (h1 : cf_X11_go fu x Fc Gc = some (r1, F1, G1)) (h2 : mf_go fu x Fm Gm = some (r2, F2, G2)) : r1 = r2 ∧ BRD F1 G1 F2 G2 := by
  unfold cf_X11_go cb_X11_go_0 cb_X11_go_5 cb_X11_go_12 cb_X11_go_16 cb_X11_go_24 at h1
  unfold mf_go mb_go_0 mb_go_5 mb_go_12 mb_go_14 at h2
  by_cases c : x < (1 : Int32)
  · rw [if_pos c] at h1 h2
    cases h1
    cases h2
    exact ⟨rfl, h⟩
  · rw [if_neg c] at h1 h2
    by_cases c1 : x ≤ (1000 : Int32)
    · rw [if_pos c1] at h1 h2
      obtain ⟨q, e, h1⟩ := bind_elim h1
      cases h1
      exact same_words hfu fu fu x 0 0 _ _ _ _ _ _ _ _ _ _ h e h2
    · rw [if_neg c1] at h1 h2
      cases h1
      cases h2
      exact ⟨rfl, h⟩
theorem same_board {fu : Nat} {x : Int32} {Fc F1 Fm F2 : PF} {Gc G1 Gm G2 : PG} {r1 r2 : Int32} (h : BRD Fc Gc Fm Gm) (h1 : cf_X11_board fu x Fc Gc = some (r1, F1, G1)) (h2 : mf_board fu x Fm Gm = some (r2, F2, G2)) : r1 = r2 := by
  obtain ⟨hr, hm, hp, hd⟩ := h
  unfold cf_X11_board cb_X11_board_0 cb_X11_board_8 at h1
  obtain ⟨q, e, h1⟩ := bind_elim h1
  cases h1
  unfold cf_X0_shown cb_X0_shown_0 cb_X0_shown_4 at e
  unfold mf_board mb_board_0 mb_board_4 at h2
  have z2 : (32 : Int32).toInt = 32 := rfl
  have z3 : (33 : Int32).toInt = 33 := rfl
  have tail : ¬ x = (32 : Int32) → cb_X0_shown_17 fu x Fc Gc = some q → mb_board_19 fu x Fm Gm = some (r2, F2, G2) → q.1 = r2 := by
    intro c32 e h2
    unfold cb_X0_shown_17 cb_X0_shown_28 cb_X0_shown_34 cb_X0_shown_39 cb_X0_shown_45 cb_X0_shown_52 cb_X0_shown_64 cb_X0_shown_65 at e
    unfold mb_board_19 mb_board_25 mb_board_32 mb_board_38 mb_board_45 mb_board_57 mb_board_58 at h2
    rw [if_neg c32] at e
    by_cases c33 : x = (33 : Int32)
    · rw [if_pos c33] at e h2
      cases e
      cases h2
      exact hd.symm
    · rw [if_neg c33] at e h2
      by_cases c100 : x < (100 : Int32)
      · rw [if_pos c100] at e h2
        cases e
        cases h2
        rfl
      · rw [if_neg c100] at e h2
        by_cases c4 : (4196 : Int32) ≤ x
        · rw [if_pos c4] at e h2
          cases e
          cases h2
          rfl
        · rw [if_neg c4] at e h2
          obtain ⟨i1, e⟩ := ix_elim e
          obtain ⟨i2, h2⟩ := ix_elim h2
          cases e
          cases h2
          exact (hm _ (Nat.lt_of_not_le (fun q => i1 (.inr q)))).symm
  by_cases c0 : x < (0 : Int32)
  · rw [if_pos c0] at e h2
    exact tail (fun q => by rw [q] at c0; exact absurd c0 (by decide)) e h2
  · rw [if_neg c0] at e h2
    by_cases c32 : (32 : Int32) ≤ x
    · rw [if_pos c32] at e
      by_cases e32 : x = (32 : Int32)
      · rw [if_neg (show ¬ (33 : Int32) ≤ x by rw [e32]; decide)] at h2
        unfold cb_X0_shown_17 cb_X0_shown_23 at e
        rw [if_pos e32] at e
        cases e
        unfold mb_board_10 mb_board_58 at h2
        obtain ⟨-, h2⟩ := ix_elim h2
        cases h2
        show Fc 2 = Gm 95 x.toNatClampNeg
        rw [e32]
        exact hp.symm
      · have l1 := i_le.mp c32
        have l2 : ¬ x.toInt = 32 := fun q => e32 (i_eq.mpr q)
        rw [if_pos (show (33 : Int32) ≤ x from i_le.mpr (by omega))] at h2
        exact tail e32 e h2
    · have l1 := mt i_le.mpr c32
      rw [if_neg c32] at e
      rw [if_neg (show ¬ (33 : Int32) ≤ x from fun q => by have := i_le.mp q; omega)] at h2
      unfold cb_X0_shown_10 at e
      unfold mb_board_10 mb_board_58 at h2
      obtain ⟨i1, e⟩ := ix_elim e
      obtain ⟨-, h2⟩ := ix_elim h2
      cases e
      cases h2
      exact (hr _ (Nat.lt_of_not_le (fun q => i1 (.inr q)))).symm
def PUTP (x : Int32) : Prop := (x &&& (3 : Int32)) = (0 : Int32) ∧ 0 ≤ x.toInt ∧ x.toInt < 16384
theorem pd_hold {fu : Nat} (x1 x2 : Int32) (F : PF) (G : PG) : PP (cf_X11_put fu x1 x2 F G) (fun _ F' G' => F = F' ∧ ((PUTP x1 ∧ gup G 0 (ix2 x1) x2 = G') ∨ (¬ PUTP x1 ∧ G = G'))) := by
  unfold cf_X11_put cb_X11_put_0 cb_X11_put_9
  refine PP.bind (Q1 := fun _ F' G' => F = F' ∧ ((PUTP x1 ∧ gup G 0 (ix2 x1) x2 = G') ∨ (¬ PUTP x1 ∧ G = G'))) ?_ (fun r F G q => PP.bz (fun _ => PP.ret q))
  unfold cf_X0_hold cb_X0_hold_0 cb_X0_hold_4 cb_X0_hold_11 cb_X0_hold_19 cb_X0_hold_28 cb_X0_hold_17
  have e0 : (0 : Int32).toInt = 0 := rfl
  have e1 : (16384 : Int32).toInt = 16384 := rfl
  refine PP.ite (fun c => PP.ret ⟨rfl, .inr ⟨fun q => ?_, rfl⟩⟩) (fun c => PP.ite (fun d => PP.ret ⟨rfl, .inr ⟨fun q => ?_, rfl⟩⟩) (fun d => PP.ite (fun a => PP.ix (fun _ => PP.ret ⟨rfl, .inl ⟨⟨a, ?_, ?_⟩, rfl⟩⟩)) (fun a => PP.ret ⟨rfl, .inr ⟨fun q => a q.1, rfl⟩⟩)))
  · have := i_lt.mp c
    have := q.2.1
    omega
  · have := i_le.mp d
    have := q.2.2
    omega
  · have := mt i_lt.mpr c
    omega
  · have := mt i_le.mpr d
    omega
theorem pd_put {fu : Nat} (x1 x2 : Int32) (F : PF) (G : PG) : PP (mf_put fu x1 x2 F G) (fun _ F' G' => F = F' ∧ ((PUTP x1 ∧ gup G 94 (ix2 x1) x2 = G') ∨ (¬ PUTP x1 ∧ G = G'))) := by
  unfold mf_put mb_put_0 mb_put_6 mb_put_10 mb_put_19 mb_put_28 mb_put_17
  have e0 : (0 : Int32).toInt = 0 := rfl
  have e1 : (16380 : Int32).toInt = 16380 := rfl
  refine PP.ite (fun a => PP.ite (fun c => PP.ret ⟨rfl, .inr ⟨fun q => ?_, rfl⟩⟩) (fun c => PP.ite (fun d => PP.ix (fun _ => PP.ret ⟨rfl, .inl ⟨⟨a, ?_, ?_⟩, rfl⟩⟩)) (fun d => PP.ret ⟨rfl, .inr ⟨fun q => ?_, rfl⟩⟩))) (fun a => PP.ret ⟨rfl, .inr ⟨fun q => a q.1, rfl⟩⟩)
  · have := i_lt.mp c
    have := q.2.1
    omega
  · have := mt i_lt.mpr c
    omega
  · have := i_le.mp d
    omega
  · have := mt i_le.mpr d
    have := and3_le q.1 q.2.2
    omega
theorem brd_put {fu : Nat} {x1 x2 : Int32} {Fc F1 Fm F2 : PF} {Gc G1 Gm G2 : PG} {r1 r2 : Int32} (h : BRD Fc Gc Fm Gm) (h1 : cf_X11_put fu x1 x2 Fc Gc = some (r1, F1, G1)) (h2 : mf_put fu x1 x2 Fm Gm = some (r2, F2, G2)) : BRD F1 G1 F2 G2 := by
  obtain ⟨rfl, a⟩ := pd_hold x1 x2 Fc Gc r1 F1 G1 h1
  obtain ⟨rfl, b⟩ := pd_put x1 x2 Fm Gm r2 F2 G2 h2
  obtain ⟨hr, hm, hp, hd⟩ := h
  rcases a with ⟨pa, rfl⟩ | ⟨pa, rfl⟩
  · rcases b with ⟨-, rfl⟩ | ⟨pb, -⟩
    · refine ⟨fun i hi => ?_, fun i hi => ?_, ?_, hd⟩
      · rw [gup_o (by decide), gup_o (by decide)]
        exact hr i hi
      · rw [gup_u, gup_u]
        by_cases q : i = ix2 x1
        · rw [q, upd_s, upd_s]
        · rw [upd_n q, upd_n q]
          exact hm i hi
      · rw [gup_o (by decide)]
        exact hp
    · exact absurd pa pb
  · rcases b with ⟨pb, -⟩ | ⟨-, rfl⟩
    · exact absurd pb pa
    · exact ⟨hr, hm, hp, hd⟩
theorem pd_change {fu : Nat} (x1 x2 : Int32) (F : PF) (G : PG) : PP (cf_X11_set fu x1 x2 F G) (fun _ F' G' => (1 ≤ x1.toInt ∧ x1.toInt < 32 ∧ F = F' ∧ G' 1 = upd (G 1) x1.toNatClampNeg x2 ∧ G' 0 = G 0) ∨ (x1 = 32 ∧ fup F 2 x2 = F' ∧ G = G') ∨ (¬ (1 ≤ x1.toInt ∧ x1.toInt ≤ 32) ∧ F = F' ∧ G = G')) := by
  unfold cf_X11_set cb_X11_set_0 cb_X11_set_9
  refine PP.bind (Q1 := fun _ F' G' => (1 ≤ x1.toInt ∧ x1.toInt < 32 ∧ F = F' ∧ G' 1 = upd (G 1) x1.toNatClampNeg x2 ∧ G' 0 = G 0) ∨ (x1 = 32 ∧ fup F 2 x2 = F' ∧ G = G') ∨ (¬ (1 ≤ x1.toInt ∧ x1.toInt ≤ 32) ∧ F = F' ∧ G = G')) ?_ (fun r F G q => PP.bz (fun _ => PP.ret q))
  unfold cf_X0_change cb_X0_change_0 cb_X0_change_5 cb_X0_change_13 cb_X0_change_19 cb_X0_change_24 cb_X0_change_27 cb_X0_change_33 cb_X0_change_34 cb_X0_change_11
  have e0 : (1 : Int32).toInt = 1 := rfl
  have e1 : (32 : Int32).toInt = 32 := rfl
  have e2 : (0 : Int32).toInt = 0 := rfl
  refine PP.ite (fun c => PP.ret (.inr (.inr ⟨fun q => ?_, rfl, rfl⟩))) (fun c => PP.ite (fun d => PP.ite (fun k => PP.ret (.inr (.inl ⟨k, rfl, rfl⟩))) (fun k => ?_)) (fun d => PP.ret (.inr (.inr ⟨fun q => ?_, rfl, rfl⟩))))
  · have := i_lt.mp c
    omega
  · have k1 := mt i_lt.mpr c
    have k2 := i_le.mp d
    have k3 : ¬ x1.toInt = 32 := fun q => k (i_eq.mpr q)
    refine pq_keep (by omega) (fun G' h1 h0 => PP.ret (.inl ⟨by omega, by omega, rfl, ?_, h0⟩))
    show G' 1 = upd (G 1) x1.toNatClampNeg x2
    rw [h1]
    unfold bk
    rw [if_neg (fun q => by have := i_le.mp q; omega)]
  · have := mt i_le.mpr d
    omega
theorem pd_set {fu : Nat} (x1 x2 : Int32) (F : PF) (G : PG) : PP (mf_set fu x1 x2 F G) (fun _ F' G' => F = F' ∧ ((1 ≤ x1.toInt ∧ x1.toInt ≤ 32 ∧ gup G 95 x1.toNatClampNeg x2 = G') ∨ (¬ (1 ≤ x1.toInt ∧ x1.toInt ≤ 32) ∧ G = G'))) := by
  unfold mf_set mb_set_0 mb_set_5 mb_set_13 mb_set_20 mb_set_11
  have e0 : (1 : Int32).toInt = 1 := rfl
  have e1 : (32 : Int32).toInt = 32 := rfl
  refine PP.ite (fun c => PP.ret ⟨rfl, .inr ⟨fun q => ?_, rfl⟩⟩) (fun c => PP.ite (fun d => PP.ix (fun _ => PP.ret ⟨rfl, .inl ⟨?_, ?_, rfl⟩⟩)) (fun d => PP.ret ⟨rfl, .inr ⟨fun q => ?_, rfl⟩⟩))
  · have := i_lt.mp c
    omega
  · have := mt i_lt.mpr c
    omega
  · have := i_le.mp d
    omega
  · have := mt i_le.mpr d
    omega
theorem brd_set {fu : Nat} {x1 x2 : Int32} {Fc F1 Fm F2 : PF} {Gc G1 Gm G2 : PG} {r1 r2 : Int32} (h : BRD Fc Gc Fm Gm) (h1 : cf_X11_set fu x1 x2 Fc Gc = some (r1, F1, G1)) (h2 : mf_set fu x1 x2 Fm Gm = some (r2, F2, G2)) : BRD F1 G1 F2 G2 := by
  have a := pd_change x1 x2 Fc Gc r1 F1 G1 h1
  obtain ⟨rfl, b⟩ := pd_set x1 x2 Fm Gm r2 F2 G2 h2
  obtain ⟨hr, hm, hp, hd⟩ := h
  have tn : x1.toNatClampNeg = x1.toInt.toNat := rfl
  rcases b with ⟨b1, b2, rfl⟩ | ⟨nb, rfl⟩
  · rcases a with ⟨a1, a2, rfl, g1, g0⟩ | ⟨rfl, rfl, rfl⟩ | ⟨na, -⟩
    · refine ⟨fun i hi => ?_, fun i hi => ?_, ?_, hd⟩
      · rw [gup_u, g1]
        by_cases q : i = x1.toNatClampNeg
        · rw [q, upd_s, upd_s]
        · rw [upd_n q, upd_n q]
          exact hr i hi
      · rw [gup_o (by decide), g0]
        exact hm i hi
      · rw [gup_u, upd_n (by rw [tn]; omega)]
        exact hp
    · rw [show (32 : Int32).toNatClampNeg = 32 by decide]
      refine ⟨fun i hi => ?_, fun i hi => ?_, ?_, ?_⟩
      · rw [gup_u, upd_n (by omega)]
        exact hr i hi
      · rw [gup_o (by decide)]
        exact hm i hi
      · rw [gup_u, upd_s, fup_s]
      · rw [fup_n (by decide)]
        exact hd
    · exact absurd ⟨b1, b2⟩ na
  · rcases a with ⟨a1, a2, -⟩ | ⟨e, -⟩ | ⟨-, rfl, rfl⟩
    · exact absurd ⟨a1, by omega⟩ nb
    · exact absurd (show 1 ≤ x1.toInt ∧ x1.toInt ≤ 32 by rw [e]; decide) nb
    · exact ⟨hr, hm, hp, hd⟩
