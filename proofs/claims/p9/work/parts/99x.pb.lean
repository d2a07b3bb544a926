theorem WR.tr {F0 F F1 : PF} {G0 G G1 : PG} {κ κ1 j δ δ1 : Int} (h : WR F0 G0 κ j δ F G) (q : WR F G κ1 0 δ1 F1 G1) : WR F0 G0 (κ + κ1) j δ1 F1 G1 := by
  obtain ⟨K, hg, h42, h43, h51, hΦ, hD⟩ := h
  obtain ⟨K1, q1, q42, q43, q51, qΦ, qD⟩ := q
  rw [K.1 7 rfl] at q42
  exact ⟨KX.tr K K1 rfl rfl, q1, q42, by omega, q51.trans h51, by omega, qD⟩
theorem WF0.tr {F0 F F1 : PF} {G0 G G1 : PG} {κ j δ : Int} (h : WR F0 G0 κ j δ F G) (q : WF0 F G F1 G1) : WF0 F0 G0 F1 G1 := ⟨KX.tr h.1 q.1 rfl rfl, q.2⟩
theorem WR.ends {fu : Nat} (hfu : 8589934592 ≤ fu) {F0 F : PF} {G0 G : PG} {κ j δ : Int} (h : WR F0 G0 κ j δ F G) (h0 : YG F0 G0) (hδ : δ ≤ 1) (x : Int32) : WP (mf_ends fu x F G) (fun _ F1 G1 => WR F0 G0 κ j δ F1 G1) := by
  have ht := h.t h0
  obtain ⟨K, hg, h42, h43, h51, hΦ, hD⟩ := h
  refine WP.mono ((wa_ends hfu x ⟨hD.1, by omega⟩).of (mp_ends x F G)) ?_
  rintro r F1 G1 ⟨K1, q⟩
  have q := q hD.1
  have e : tT F1 G1 = tT F G := by unfold tT; rw [K1.1 42 rfl, K1.2 6 rfl]
  refine ⟨KX.tr K K1 rfl rfl, hg.kx K1 rfl rfl rfl rfl rfl rfl, by rw [K1.1 42 rfl]; exact h42, by rw [K1.1 43 rfl]; exact h43, (K1.1 51 rfl).trans h51, by rw [K1.1 60 rfl, e, K1.1 42 rfl]; exact hΦ, q.1, by rw [e]; omega⟩
theorem WF0.ends {fu : Nat} (hfu : 8589934592 ≤ fu) {F0 F : PF} {G0 G : PG} (h : WF0 F0 G0 F G) (x : Int32) : WP (mf_ends fu x F G) (fun _ F1 G1 => WF0 F0 G0 F1 G1) := by
  obtain ⟨K, h44, hD⟩ := h
  refine WP.mono ((wa_ends hfu x hD).of (mp_ends x F G)) ?_
  rintro r F1 G1 ⟨K1, q⟩
  have q := q hD.1
  exact ⟨KX.tr K K1 rfl rfl, by rw [K1.1 44 rfl]; exact h44, by omega⟩
theorem WF0.kx {a b : List Nat} {F0 F F1 : PF} {G0 G G1 : PG} (h : WF0 F0 G0 F G) (K1 : KX a b F G F1 G1) (ea : a.all [14, 15, 42, 43, 44, 45, 47, 48, 49, 51, 52, 53, 54, 55, 60, 62, 63, 64, 65, 66, 70, 72].contains = true) (eb : b.all [16, 17, 18, 19, 20, 21, 22, 23, 56, 57, 58, 59, 67, 68, 69, 71].contains = true) (e44 : a.contains 44 = false) (e14 : a.contains 14 = false) : WF0 F0 G0 F1 G1 := ⟨KX.tr h.1 K1 ea eb, by rw [K1.1 44 e44]; exact h.2.1, by rw [K1.1 14 e14]; exact h.2.2⟩
def κG (i : Nat) : Int := if i = 1 then 0 else -1
def eS (i : Nat) : Int := if i = 6 then 2 else if i = 5 then 3 else if i = 1 then 4 else 1
def ZG (rc : RC) (d : Nat) : Prop := ∀ (i : Nat) (x y : Int32) (F : PF) (G : PG), i ≤ 7 → YG F G → (i = 1 → (F 51).toInt < (F 43).toInt ∧ (F 60).toInt + 1 ≤ 2 * tT F G + 600) → (i = 2 ∨ i = 3 ∨ i = 4 ∨ i = 7 → ¬ G 4 (F 42).toNatClampNeg = 0) → 4 * (40 - (F 43).toInt) + eS i ≤ d → WP (rc i x y F G) (fun r F1 G1 => VZ (κG i) 0 F G r F1 G1)
section G2W
variable {fu : Nat} {rc : RC} {d : Nat}
theorem zg_scoped (hfu : 8589934592 ≤ fu) (hr : ZG rc d) (F : PF) (G : PG) (h0 : YG F G) (hd : 4 * (40 - (F 43).toInt) + eS 5 ≤ d + 1) : WP (mh_scoped fu rc F G) (fun r F1 G1 => VZ (-1) 0 F G r F1 G1) := by
  have e5 : eS 5 = 3 := rfl
  have e6 : eS 6 = 2 := rfl
  have q0 := WR.rf h0
  unfold mh_scoped mb_scoped_0
  refine WP.bind (wa_begins.of (mw_begins F G)) ?_
  intro r F1 G1 K1
  dsimp only
  have q1 := q0.kx K1 rfl
  unfold mb_scoped_9
  refine WP.bind (hr 6 0 0 F1 G1 (by decide) (q1.yg h0 (by decide)) (fun z => absurd z (by decide)) (fun z => absurd z (by decide)) (by rw [K1.1 43 rfl]; omega)) ?_
  rintro r F2 G2 (⟨rfl, q2⟩ | ⟨rfl, q2⟩)
  · dsimp only
    unfold mb_scoped_13
    refine WP.bind ((q1.tr q2).ends hfu h0 (by decide) (F 15)) (fun r F3 G3 q3 => ?_)
    dsimp only
    unfold mb_scoped_19
    exact WP.bz (Or.inr rfl) (WP.ret (Or.inl ⟨rfl, q3.le (by decide) (by decide)⟩))
  · dsimp only
    unfold mb_scoped_13
    refine WP.bind ((WF0.tr q1 q2).ends hfu (F 15)) (fun r F3 G3 q3 => ?_)
    dsimp only
    unfold mb_scoped_19
    exact WP.bz (Or.inl rfl) (WP.ret (Or.inr ⟨rfl, q3⟩))
/-- behind a fault a sign is refused at once -/
theorem wb_sign {F : PF} {G : PG} (s : Int32) (h : 0 < (F 44).toInt) : WP (mf_sign fu s F G) (fun r F1 G1 => r = 0 ∧ F = F1 ∧ G = G1) := by
  unfold mf_sign mb_sign_0
  rw [if_pos (i_lt.mpr (show (0 : Int32).toInt < (F 44).toInt from h))]
  unfold mb_sign_15
  have fl : WP (mf_fails fu 2 F G) (fun r F4 G4 => r = 0 ∧ F = F4 ∧ G = G4) := by
    unfold mf_fails mb_fails_0
    refine WP.ite (fun c => ?_) (fun _ => ?_)
    · have := i_le.mp c
      have : (0 : Int32).toInt = 0 := rfl
      omega
    · unfold mb_fails_7
      exact WP.ret ⟨rfl, rfl, rfl⟩
  refine WP.bind fl ?_
  rintro r F4 G4 ⟨rfl, rfl, rfl⟩
  dsimp only
  unfold mb_sign_20
  exact WP.bz (Or.inl rfl) (WP.ret ⟨rfl, rfl, rfl⟩)
theorem wb_closeSign {F : PF} {G : PG} (s : Int32) (h : 0 < (F 44).toInt) : WP (mf_closeSign fu s F G) (fun r F1 G1 => r = 0 ∧ F = F1 ∧ G = G1) := by
  unfold mf_closeSign mb_closeSign_0
  refine WP.bind (wb_sign s h) ?_
  rintro r F4 G4 ⟨rfl, rfl, rfl⟩
  dsimp only
  unfold mb_closeSign_5 mb_closeSign_8
  rw [if_pos rfl]
  exact WP.ret ⟨rfl, rfl, rfl⟩
theorem zg_block (hfu : 8589934592 ≤ fu) (hr : ZG rc d) (F : PF) (G : PG) (h0 : YG F G) (hd : 4 * (40 - (F 43).toInt) + eS 0 ≤ d + 1) : WP (mh_block fu rc F G) (fun r F1 G1 => VZ (-1) 0 F G r F1 G1) := by
  have e0 : eS 0 = 1 := rfl
  have e6 : eS 6 = 2 := rfl
  have q0 := WR.rf h0
  have fin : ∀ (F1 : PF) (G1 : PG), WR F G (-2) 1 0 F1 G1 ∨ WF0 F G F1 G1 → WP (mb_block_35 fu rc F1 G1) (fun r F1 G1 => VZ (-1) 0 F G r F1 G1) := by
    intro F1 G1 h
    unfold mb_block_35
    rcases h with q | q
    · refine WP.bind (ws_closeSign 27 (q.t h0).2.2) ?_
      rintro r F2 G2 (⟨rfl, rfl, rfl, s, -⟩ | ⟨rfl, u, -⟩)
      · dsimp only
        unfold mb_block_41
        exact WP.bz (Or.inr rfl) (WP.ret (Or.inl ⟨rfl, (WR.cl (j := 0) q h0 (by decide) (k_ne (sgn_k s).1 (by decide))).le (by decide) (by decide)⟩))
      · dsimp only
        unfold mb_block_41
        exact WP.bz (Or.inl rfl) (WP.ret (Or.inr ⟨rfl, q.flt h0 (by decide) u⟩))
    · refine WP.bind (wb_closeSign 27 q.2.1) ?_
      rintro r F2 G2 ⟨rfl, rfl, rfl⟩
      dsimp only
      unfold mb_block_41
      exact WP.bz (Or.inl rfl) (WP.ret (Or.inr ⟨rfl, q⟩))
  have loop : ∀ (m : Nat) (F1 : PF) (G1 : PG), (WR F G (-2) 1 0 F1 G1 ∧ (8001 + 2 * tT F G - 2 * tT F1 G1 + (F1 60).toInt).toNat < m) ∨ (WF0 F G F1 G1 ∧ 0 < m) → WP (ml_block_11 fu rc m F1 G1) (fun r F1 G1 => VZ (-1) 0 F G r F1 G1) := by
    intro m
    induction m with
    | zero =>
      rintro F1 G1 (⟨-, q⟩ | ⟨-, q⟩)
      · exact absurd q (Nat.not_lt_zero _)
      · exact absurd q (Nat.lt_irrefl _)
    | succ m ih =>
      intro F1 G1 h
      show WP (mb_block_11 fu rc (ml_block_11 fu rc m) F1 G1) _
      unfold mb_block_11
      rcases h with ⟨q, qm⟩ | ⟨q, -⟩
      · refine WP.ite (fun _ => ?_) (fun _ => fin F1 G1 (Or.inl q))
        unfold mb_block_18
        refine WP.bind (ws_isSign 27 (q.t h0).2.2) ?_
        rintro z _ _ ⟨rfl, rfl, -⟩
        dsimp only
        unfold mb_block_24
        refine WP.ite (fun _ => ?_) (fun _ => fin F1 G1 (Or.inl q))
        unfold mb_block_27
        have a := q.2.2.2.1
        have t0 := (q0.t h0).2.1
        have t1 := (q.t h0).2.1
        refine WP.bind (hr 6 0 0 F1 G1 (by decide) (q.yg h0 (by decide)) (fun z => absurd z (by decide)) (fun z => absurd z (by decide)) (by omega)) ?_
        rintro r F2 G2 (⟨rfl, q2⟩ | ⟨rfl, q2⟩)
        · dsimp only
          unfold mb_block_31
          have k6 : κG 6 = -1 := rfl
          rw [k6] at q2
          have f2 := q2.2.2.2.2.2.1.1
          have g1 := q.2.1.1
          have g2 := q2.2.1.1
          have t2 := ((q.tr q2).t h0).2.1
          exact ih F2 G2 (Or.inl ⟨(q.tr q2).le (by decide) (by decide), by omega⟩)
        · dsimp only
          unfold mb_block_31
          have g1 := q.2.1.1
          exact ih F2 G2 (Or.inr ⟨WF0.tr q q2, by omega⟩)
      · refine WP.ite (fun c => ?_) (fun _ => fin F1 G1 (Or.inr q))
        have := q.2.1
        rw [c] at this
        exact absurd this (by decide)
  unfold mh_block mb_block_0
  refine WP.bind (ws_openSign 26 (q0.t h0).2.2) ?_
  rintro r F1 G1 (⟨rfl, rfl, rfl, s, u, -⟩ | ⟨rfl, u, -⟩)
  · dsimp only
    unfold mb_block_6
    rw [if_neg (by decide)]
    have q1 := (q0.op h0 (k_ne (sgn_k s).1 (by decide)) u).le (κ1 := -2) (δ1 := 0) (by decide) (by decide)
    have t0 := (q0.t h0).2.1
    have t1 := (q1.t h0).2.1
    have b := h0.2.2.2.1
    exact loop fu _ _ (Or.inl ⟨q1, by show (8001 + 2 * tT F G - 2 * tT (fup (fup F 43 (F 43 + 1)) 42 (F 42 + 1)) G + (F 60).toInt).toNat < fu; omega⟩)
  · dsimp only
    unfold mb_block_6 mb_block_9
    rw [if_pos rfl]
    exact WP.ret (Or.inr ⟨rfl, q0.flt h0 (by decide) u⟩)
theorem zg_choice (hfu : 8589934592 ≤ fu) (hr : ZG rc d) (F : PF) (G : PG) (h0 : YG F G) (hk : ¬ G 4 (F 42).toNatClampNeg = 0) (hd : 4 * (40 - (F 43).toInt) + eS 2 ≤ d + 1) : WP (mh_choice fu rc F G) (fun r F1 G1 => VZ (-1) 0 F G r F1 G1) := by
  have e2 : eS 2 = 1 := rfl
  have e5 : eS 5 = 3 := rfl
  have q0 := WR.rf h0
  have fin : ∀ (F1 : PF) (G1 : PG), WR F G (-1) 1 0 F1 G1 → WP (mb_choice_110 fu rc F1 G1) (fun r F1 G1 => VZ (-1) 0 F G r F1 G1) := by
    intro F1 G1 q
    unfold mb_choice_110
    have q2 := WR.dn (j := 0) q h0 (by decide)
    unfold mb_choice_120
    rw [if_pos (show (fup F1 43 (F1 43 - 1)) 44 = 0 from q2.2.1.2.1)]
    unfold mb_choice_127 mb_choice_132
    exact WP.bz (Or.inr rfl) (WP.ret (Or.inl ⟨rfl, q2⟩))
  have sc : ∀ (κ : Int) (F1 : PF) (G1 : PG), κ ≤ 0 → WR F G κ 1 0 F1 G1 → WP (rc 5 0 0 F1 G1) (fun r F2 G2 => (r = 1 ∧ WR F G (κ - 1) 1 0 F2 G2) ∨ (r = 0 ∧ WF0 F G F2 G2)) := by
    intro κ F1 G1 hκ q
    have a := q.2.2.2.1
    refine WP.mono (hr 5 0 0 F1 G1 (by decide) (q.yg h0 hκ) (fun z => absurd z (by decide)) (fun z => absurd z (by decide)) (by omega)) ?_
    rintro r F2 G2 (⟨rfl, q2⟩ | ⟨rfl, q2⟩)
    · exact Or.inl ⟨rfl, q.tr q2⟩
    · exact Or.inr ⟨rfl, WF0.tr q q2⟩
  unfold mh_choice mb_choice_0
  refine WP.bind (ws_opens (q0.t h0).2.2) ?_
  rintro r F1 G1 (⟨rfl, rfl, rfl, u⟩ | ⟨rfl, u, -⟩)
  · dsimp only
    unfold mb_choice_4
    rw [if_neg (by decide)]
    have q1 := (q0.op h0 hk u).le (κ1 := -2) (δ1 := 0) (by decide) (by decide)
    generalize fup (fup F 43 (F 43 + 1)) 42 (F 42 + 1) = F1 at q1
    unfold mb_choice_7
    refine WP.bind (wz_condition hfu F1 G (q1.yg h0 (by decide))) ?_
    rintro r F2 G2 (⟨rfl, q2⟩ | ⟨rfl, q2⟩)
    · dsimp only
      unfold mb_choice_11
      rw [if_neg (by decide)]
      have q2 := q1.tr q2
      unfold mb_choice_16
      refine WP.bind (q2.step h0 (by decide) 13 0 0) ?_
      rintro _ F3 G3 ⟨rfl, n3, -, -, q3⟩
      dsimp only
      unfold mb_choice_24
      refine WP.bind (sc (-6) F3 G3 (by decide) (q3.le (by decide) (by decide))) ?_
      rintro r F4 G4 (⟨rfl, q4⟩ | ⟨rfl, q4⟩)
      · dsimp only
        unfold mb_choice_29
        rw [if_neg (by decide)]
        have no : WP (mb_choice_100 fu rc (F2 60) F4 G4) (fun r F1 G1 => VZ (-1) 0 F G r F1 G1) := by
          unfold mb_choice_100
          refine WP.ix n3 ?_
          have K5 : KX [] [57] F4 G4 F4 (gup G4 57 (F2 60).toNatClampNeg (F4 60)) := KX.g rfl KX.rf
          exact fin _ _ ((q4.kx K5 rfl).le (by decide) (by decide))
        unfold mb_choice_34
        refine WP.ite (fun _ => ?_) (fun _ => no)
        unfold mb_choice_41
        refine WP.bind (ws_isWord 5 (q4.t h0).2.2) ?_
        rintro z _ _ ⟨rfl, rfl, (⟨rfl, s⟩ | ⟨rfl, -⟩)⟩
        · dsimp only
          unfold mb_choice_46
          rw [if_neg (by decide)]
          unfold mb_choice_49
          have q5 := q4.adv h0 (k_ne (wdn_k s).1 (by decide))
          generalize fup F4 42 (F4 42 + 1) = F5 at q5
          unfold mb_choice_59
          refine WP.bind (q5.step h0 (by decide) 12 0 0) ?_
          rintro _ F6 G6 ⟨rfl, n6, -, -, q6⟩
          dsimp only
          unfold mb_choice_67
          refine WP.ix n3 ?_
          have K7 : KX [] [57] F6 G6 F6 (gup G6 57 (F2 60).toNatClampNeg (F6 60)) := KX.g rfl KX.rf
          unfold mb_choice_78
          refine WP.bind (sc (-6) F6 _ (by decide) ((q6.kx K7 rfl).le (by decide) (by decide))) ?_
          rintro r F8 G8 (⟨rfl, q8⟩ | ⟨rfl, q8⟩)
          · dsimp only
            unfold mb_choice_82
            rw [if_neg (by decide)]
            unfold mb_choice_87
            refine WP.ix n6 ?_
            have K9 : KX [] [57] F8 G8 F8 (gup G8 57 (F5 60).toNatClampNeg (F8 60)) := KX.g rfl KX.rf
            unfold mb_choice_97
            exact fin _ _ ((q8.kx K9 rfl).le (by decide) (by decide))
          · dsimp only
            unfold mb_choice_82 mb_choice_85
            rw [if_pos rfl]
            exact WP.ret (Or.inr ⟨rfl, q8⟩)
        · dsimp only
          unfold mb_choice_46
          rw [if_pos rfl]
          exact no
      · dsimp only
        unfold mb_choice_29 mb_choice_32
        rw [if_pos rfl]
        exact WP.ret (Or.inr ⟨rfl, q4⟩)
    · dsimp only
      unfold mb_choice_11 mb_choice_14
      rw [if_pos rfl]
      exact WP.ret (Or.inr ⟨rfl, WF0.tr q1 q2⟩)
  · dsimp only
    unfold mb_choice_4 mb_choice_14
    rw [if_pos rfl]
    exact WP.ret (Or.inr ⟨rfl, q0.flt h0 (by decide) u⟩)
end G2W
