section G2V
variable {fu : Nat} {rc : RC} {d : Nat}
theorem WR.settle {F0 F : PF} {G0 G : PG} {κ j δ : Int} (hfu : 8589934592 ≤ fu) (q : WR F0 G0 κ j δ F G) (x v : Int32) (l : List Nat) (hc : chn (G 57) l x (-1)) (hn : l.Nodup) : WP (mf_settle fu x v F G) (fun _ F1 G1 => F = F1 ∧ pall G v l = G1 ∧ WR F0 G0 κ j δ F1 G1) := by
  refine WP.mono (ms_settle hfu x v F G l hc hn (nd_len 9000 l hn (chn_lt l x _ hc))) ?_
  rintro r F1 G1 ⟨rfl, rfl⟩
  exact ⟨rfl, rfl, q.kx (pall_kx l G) rfl⟩
theorem WR.body (hr : ZG rc d) (hG : mGI [] rc) {F0 F : PF} {G0 G : PG} {κ : Int} (q : WR F0 G0 κ 1 0 F G) (h0 : YG F0 G0) (hκ : κ ≤ -1) (x : Int32) (hd : 4 * (40 - (F0 43).toInt) ≤ d) : WP (rc 1 x 0 F G) (fun r F1 G1 => BQ [] x F G r F1 G1 ∧ ((r = 1 ∧ WR F0 G0 κ 1 0 F1 G1) ∨ (r = 0 ∧ WF0 F0 G0 F1 G1))) := by
  have e1 : eS 1 = 4 := rfl
  have a := q.2.2.2.1
  have b := q.2.2.2.2.1
  have c := h0.1.2.2.2.2.2.2.2
  have f := q.2.2.2.2.2.1
  have g := h0.2.2.2.1
  have l51 : (F 51).toInt < (F 43).toInt := by rw [b]; omega
  refine WP.mono (WP.pp (hr 1 x 0 F G (by decide) (q.yg h0 (by omega)) (fun _ => ⟨l51, by omega⟩) (fun z => absurd z (by decide)) (by omega)) (hG.b x F G q.2.1 l51)) ?_
  rintro r F1 G1 ⟨hb, hz⟩
  refine ⟨hb, ?_⟩
  rcases hz with ⟨rfl, q1⟩ | ⟨rfl, q1⟩
  · exact Or.inl ⟨rfl, (q.tr q1).le (by show κ + 0 ≤ κ; omega) (by decide)⟩
  · exact Or.inr ⟨rfl, WF0.tr q q1⟩
theorem zg_loop (hfu : 8589934592 ≤ fu) (hr : ZG rc d) (hG : mGI [] rc) (F : PF) (G : PG) (h0 : YG F G) (hk : ¬ G 4 (F 42).toNatClampNeg = 0) (hd : 4 * (40 - (F 43).toInt) + eS 4 ≤ d + 1) : WP (mh_loop fu rc F G) (fun r F1 G1 => VZ (-1) 0 F G r F1 G1) := by
  have e4 : eS 4 = 1 := rfl
  have q0 := WR.rf h0
  unfold mh_loop mb_loop_0
  refine WP.bind (ws_opens (q0.t h0).2.2) ?_
  rintro r F1 G1 (⟨rfl, rfl, rfl, u⟩ | ⟨rfl, u, -⟩)
  · dsimp only
    unfold mb_loop_9
    rw [if_neg (by decide)]
    have q1 := (q0.op h0 hk u).le (κ1 := -2) (δ1 := 0) (by decide) (by decide)
    generalize fup (fup F 43 (F 43 + 1)) 42 (F 42 + 1) = F1 at q1
    unfold mb_loop_12
    refine WP.bind (wz_condition hfu F1 G (q1.yg h0 (by decide))) ?_
    rintro r F2 G2 (⟨rfl, q2⟩ | ⟨rfl, q2⟩)
    · dsimp only
      unfold mb_loop_16
      rw [if_neg (by decide)]
      have q2 := q1.tr q2
      unfold mb_loop_21
      refine WP.bind (q2.step h0 (by decide) 13 0 0) ?_
      rintro _ F3 G3 ⟨rfl, n3, -, ⟨s3, -⟩, q3⟩
      dsimp only
      unfold mb_loop_29
      refine WP.bind ((q3.le (κ1 := -6) (δ1 := 0) (by decide) (by decide)).body hr hG h0 (by decide) (F 60) (by omega)) ?_
      rintro r F4 G4 ⟨hb, (⟨rfl, q4⟩ | ⟨rfl, q4⟩)⟩
      · dsimp only
        unfold mb_loop_35
        rw [if_neg (by decide)]
        obtain ⟨-, -, -, KB, KC, c1, -, -, c4, c5, -⟩ := hb
        have nB := (List.nodup_append.mp c5).1
        unfold mb_loop_40
        refine WP.bind (q4.step h0 (by decide) 12 (F 60) 0) ?_
        rintro _ F5 G5 ⟨rfl, -, -, ⟨s5, b5⟩, q5⟩
        dsimp only
        unfold mb_loop_53
        refine WP.ix n3 ?_
        have K6 : KX [] [57] F5 G5 F5 (gup G5 57 (F2 60).toNatClampNeg (F5 60)) := KX.g rfl KX.rf
        have cc : chn ((gup G5 57 (F2 60).toNatClampNeg (F5 60)) 57) KB (F4 65) (-1) := by
          refine chn.ext KB _ _ (fun p hp => ?_) c1
          have c4 := c4 p (List.mem_append_left _ hp)
          have s3 : sN F3 = (F2 60).toNatClampNeg + 1 := s3
          rw [gup_x (by omega)]
          exact (b5 p c4.2).2.1
        unfold mb_loop_64
        refine WP.bind ((q5.kx K6 rfl).settle hfu (F4 65) (F5 60) KB cc nB) ?_
        rintro r F7 G7 ⟨rfl, rfl, q7⟩
        dsimp only
        unfold mb_loop_73 mb_loop_83
        exact WP.ret (Or.inl ⟨rfl, (WR.dn (j := 0) q7 h0 (by decide)).le (by decide) (by decide)⟩)
      · dsimp only
        unfold mb_loop_35 mb_loop_38
        rw [if_pos rfl]
        exact WP.ret (Or.inr ⟨rfl, q4⟩)
    · dsimp only
      unfold mb_loop_16 mb_loop_19
      rw [if_pos rfl]
      exact WP.ret (Or.inr ⟨rfl, WF0.tr q1 q2⟩)
  · dsimp only
    unfold mb_loop_9 mb_loop_19
    rw [if_pos rfl]
    exact WP.ret (Or.inr ⟨rfl, q0.flt h0 (by decide) u⟩)
theorem zg_turnLoop (hfu : 8589934592 ≤ fu) (hr : ZG rc d) (hG : mGI [] rc) (F : PF) (G : PG) (h0 : YG F G) (hk : ¬ G 4 (F 42).toNatClampNeg = 0) (hd : 4 * (40 - (F 43).toInt) + eS 7 ≤ d + 1) : WP (mh_turnLoop fu rc F G) (fun r F1 G1 => VZ (-1) 0 F G r F1 G1) := by
  have e7 : eS 7 = 1 := rfl
  have q0 := WR.rf h0
  unfold mh_turnLoop mb_turnLoop_0
  refine WP.bind (ws_opens (q0.t h0).2.2) ?_
  rintro r F1 G1 (⟨rfl, rfl, rfl, u⟩ | ⟨rfl, u, -⟩)
  · dsimp only
    unfold mb_turnLoop_9
    rw [if_neg (by decide)]
    have q1 := (q0.op h0 hk u).le (κ1 := -2) (δ1 := 0) (by decide) (by decide)
    generalize fup (fup F 43 (F 43 + 1)) 42 (F 42 + 1) = F1 at q1
    unfold mb_turnLoop_12
    refine WP.bind (q1.body hr hG h0 (by decide) (-1) (by omega)) ?_
    rintro r F4 G4 ⟨hb, (⟨rfl, q4⟩ | ⟨rfl, q4⟩)⟩
    · dsimp only
      unfold mb_turnLoop_17
      rw [if_neg (by decide)]
      obtain ⟨-, -, -, KB, KC, c1, c2, -, c4, c5, -⟩ := hb
      have c2 := c2 rfl
      obtain ⟨nB, nC, nX⟩ := List.nodup_append.mp c5
      unfold mb_turnLoop_22
      refine WP.bind (q4.settle hfu (F4 66) (F4 60) KC c2 nC) ?_
      rintro r F5 G5 ⟨rfl, rfl, q5⟩
      dsimp only
      have cB : chn ((pall G4 (F4 60) KC) 57) KB (F4 65) (-1) := chn.ext KB _ _ (fun p hp => pall_x KC G4 (fun z => nX p hp p z rfl)) c1
      generalize pall G4 (F4 60) KC = G5 at q5 cB
      unfold mb_turnLoop_41
      refine WP.bind ((wa_word 6 1 (q5.t h0).2.2).of (mp_word 6 1 F4 G5 q5.2.1.2.1)) ?_
      rintro r F6 G6 (⟨rfl, rfl, rfl, s⟩ | ⟨rfl, -, (⟨q, -⟩ | ⟨-, u⟩)⟩)
      · dsimp only
        unfold mb_turnLoop_48
        rw [if_neg (by decide)]
        have q7 := (q5.adv h0 (k_ne (wdn_k s).1 (by decide))).le (κ1 := -4) (δ1 := 0) (by decide) (by decide)
        have s7 : sN (fup F4 42 (F4 42 + 1)) = sN F4 := rfl
        generalize fup F4 42 (F4 42 + 1) = F7 at q7 s7
        unfold mb_turnLoop_51
        refine WP.bind (WP.pp (wz_condition hfu F7 G5 (q7.yg h0 (by decide))) (mg_condition (L := []) F7 G5 q7.2.1)) ?_
        rintro r F8 G8 ⟨hx, (⟨rfl, q8⟩ | ⟨rfl, q8⟩)⟩
        · dsimp only
          unfold mb_turnLoop_55
          rw [if_neg (by decide)]
          have q8 := q7.tr q8
          have cb : CB F7 G5 G8 ∧ sN F7 ≤ sN F8 := by
            rcases hx with ⟨-, hx⟩ | ⟨z, -⟩
            · exact ⟨hx.2.2.1, hx.2.1⟩
            · exact absurd z (by decide)
          unfold mb_turnLoop_60
          refine WP.bind (q8.step h0 (by decide) 14 (F 60) 0) ?_
          rintro _ F9 G9 ⟨rfl, -, -, ⟨s9, b9⟩, q9⟩
          dsimp only
          have cc : chn (G9 57) KB (F4 65) (-1) := by
            refine chn.ext KB _ _ (fun p hp => ?_) cB
            have c4 := c4 p (List.mem_append_left _ hp)
            exact (b9 p (by omega)).2.1.trans (cb.1 p (by omega)).2.1
          unfold mb_turnLoop_68
          refine WP.bind (q9.settle hfu (F4 65) (F9 60) KB cc nB) ?_
          rintro r F10 G10 ⟨rfl, rfl, q10⟩
          dsimp only
          unfold mb_turnLoop_78
          have q11 := WR.dn (j := 0) q10 h0 (by decide)
          unfold mb_turnLoop_88
          refine WP.bind (wz_semi (q11.le (Int.le_refl _) (by decide)) h0) (fun r F12 G12 q12 => ?_)
          dsimp only
          unfold mb_turnLoop_94
          exact WP.bz q12.b (WP.ret (q12.le (by decide) (by decide)))
        · dsimp only
          unfold mb_turnLoop_55 mb_turnLoop_58
          rw [if_pos rfl]
          exact WP.ret (Or.inr ⟨rfl, WF0.tr q7 q8⟩)
      · exact absurd q (by decide)
      · dsimp only
        unfold mb_turnLoop_48 mb_turnLoop_58
        rw [if_pos rfl]
        exact WP.ret (Or.inr ⟨rfl, q5.flt h0 (by decide) u⟩)
    · dsimp only
      unfold mb_turnLoop_17 mb_turnLoop_20
      rw [if_pos rfl]
      exact WP.ret (Or.inr ⟨rfl, q4⟩)
  · dsimp only
    unfold mb_turnLoop_9 mb_turnLoop_20
    rw [if_pos rfl]
    exact WP.ret (Or.inr ⟨rfl, q0.flt h0 (by decide) u⟩)
theorem wc_164 (hfu : 8589934592 ≤ fu) (hr : ZG rc d) (hG : mGI [] rc) {F0 : PF} {G0 : PG} (h0 : YG F0 G0) (hd : 4 * (40 - (F0 43).toInt) ≤ d) (x1 x2 x3 x4 x5 : Int32) (F : PF) (G : PG) (q : WR F0 G0 (-5) 1 0 F G) (v4 : vp_in x4 9000) (l4 : x4.toNatClampNeg < sN F) (l3 : x3 = -1 ∨ (vp_in x3 9000 ∧ x3.toNatClampNeg < sN F)) : WP (mb_counted_164 fu rc x1 x2 x3 x4 x5 F G) (fun r F1 G1 => VZ (-1) 0 F0 G0 r F1 G1) := by
  unfold mb_counted_164
  refine WP.bind (q.step h0 (by decide) 12 x2 0) ?_
  rintro _ F1 G1 ⟨rfl, -, -, ⟨s1, -⟩, q1⟩
  dsimp only
  unfold mb_counted_172
  refine WP.ix v4 ?_
  have K2 : KX [] [57] F1 G1 F1 (gup G1 57 x4.toNatClampNeg (F1 60)) := KX.g rfl KX.rf
  unfold mb_counted_184
  refine WP.bind (((q1.kx K2 rfl).le (κ1 := -4) (δ1 := 0) (by decide) (by decide)).body hr hG h0 (by decide) x5 hd) ?_
  rintro r F4 G4 ⟨hb, (⟨rfl, q4⟩ | ⟨rfl, q4⟩)⟩
  · dsimp only
    unfold mb_counted_190
    rw [if_neg (by decide)]
    obtain ⟨-, -, -, KB, KC, c1, -, -, c4, c5, -⟩ := hb
    have nB := (List.nodup_append.mp c5).1
    unfold mb_counted_195
    refine WP.bind (q4.step h0 (by decide) 12 x5 0) ?_
    rintro _ F5 G5 ⟨rfl, -, -, ⟨s5, b5⟩, q5⟩
    dsimp only
    have fin : ∀ (G6 : PG), WR F0 G0 (-3) 1 0 F5 G6 → (∀ p, p ∈ KB → G6 57 p = G5 57 p) → WP (mb_counted_226 fu rc x1 (F4 65) F5 G6) (fun r F1 G1 => VZ (-1) 0 F0 G0 r F1 G1) := by
      intro G6 q6 e6
      have cc : chn (G6 57) KB (F4 65) (-1) := chn.ext KB _ _ (fun p hp => (e6 p hp).trans (b5 p (c4 p (List.mem_append_left _ hp)).2).2.1) c1
      unfold mb_counted_226
      refine WP.bind (q6.settle hfu (F4 65) (F5 60) KB cc nB) ?_
      rintro r F7 G7 ⟨rfl, rfl, q7⟩
      dsimp only
      unfold mb_counted_236
      refine WP.bind (q7.ends hfu h0 (by decide) x1) (fun r F8 G8 q8 => ?_)
      dsimp only
      unfold mb_counted_241 mb_counted_251
      exact WP.ret (Or.inl ⟨rfl, (WR.dn (j := 0) q8 h0 (by decide)).le (by decide) (by decide)⟩)
    unfold mb_counted_210
    refine WP.ite (fun _ => fin G5 (q5.le (by decide) (by decide)) (fun _ _ => rfl)) (fun c => ?_)
    rcases l3 with z | ⟨v3, l3⟩
    · exact absurd z c
    · unfold mb_counted_216
      refine WP.ix v3 ?_
      have K6 : KX [] [57] F5 G5 F5 (gup G5 57 x3.toNatClampNeg (F5 60)) := KX.g rfl KX.rf
      refine fin _ ((q5.kx K6 rfl).le (by decide) (by decide)) (fun p hp => gup_x (fun z => ?_))
      have := (c4 p (List.mem_append_left _ hp)).1
      omega
  · dsimp only
    unfold mb_counted_190 mb_counted_193
    rw [if_pos rfl]
    exact WP.ret (Or.inr ⟨rfl, q4⟩)
theorem wc_108 (hfu : 8589934592 ≤ fu) (hr : ZG rc d) (hG : mGI [] rc) {F0 : PF} {G0 : PG} (h0 : YG F0 G0) (hd : 4 * (40 - (F0 43).toInt) ≤ d) (x1 x2 x3 : Int32) (F : PF) (G : PG) (q : WR F0 G0 (-4) 2 0 F G) (l3 : x3 = -1 ∨ (vp_in x3 9000 ∧ x3.toNatClampNeg < sN F)) : WP (mb_counted_108 fu rc x1 x2 x3 F G) (fun r F1 G1 => VZ (-1) 0 F0 G0 r F1 G1) := by
  unfold mb_counted_108
  refine WP.bind (ws_sign 29 (q.t h0).2.2) ?_
  rintro r F1 G1 (⟨rfl, rfl, rfl, s, -⟩ | ⟨rfl, u, -⟩)
  · dsimp only
    unfold mb_counted_114
    rw [if_neg (by decide)]
    have q1 := q.adv h0 (k_ne (sgn_k s).1 (by decide))
    have s1 : sN (fup F 42 (F 42 + 1)) = sN F := rfl
    generalize fup F 42 (F 42 + 1) = F1 at q1 s1
    unfold mb_counted_119
    refine WP.bind (q1.step h0 (by decide) 12 0 0) ?_
    rintro _ F2 G2 ⟨rfl, n2, -, ⟨s2, -⟩, q2⟩
    dsimp only
    have q2 := q2.le (κ1 := -5) (δ1 := 0) (by decide) (by decide)
    have cls : ∀ (F3 : PF) (G3 : PG), sN F2 ≤ sN F3 → WR F0 G0 (-5) 2 0 F3 G3 → WP (mb_counted_153 fu rc x1 x2 x3 (F1 60) (F2 60) F3 G3) (fun r F1 G1 => VZ (-1) 0 F0 G0 r F1 G1) := by
      intro F3 G3 S3 q3
      unfold mb_counted_153
      refine WP.bind (ws_closeSign 23 (q3.t h0).2.2) ?_
      rintro r F4 G4 (⟨rfl, rfl, rfl, s, -⟩ | ⟨rfl, u, -⟩)
      · dsimp only
        unfold mb_counted_159
        rw [if_neg (by decide)]
        have q4 := (WR.cl (j := 1) q3 h0 (by decide) (k_ne (sgn_k s).1 (by decide))).le (κ1 := -5) (δ1 := 0) (by decide) (by decide)
        have s4 : sN (fup (fup F3 42 (F3 42 + 1)) 43 (F3 43 - 1)) = sN F3 := rfl
        generalize fup (fup F3 42 (F3 42 + 1)) 43 (F3 43 - 1) = F4 at q4 s4
        refine wc_164 hfu hr hG h0 hd x1 x2 x3 (F1 60) (F2 60) F4 G3 q4 n2 (by show sN F1 < sN F4; omega) ?_
        rcases l3 with z | ⟨z, z1⟩
        · exact Or.inl z
        · exact Or.inr ⟨z, by omega⟩
      · dsimp only
        unfold mb_counted_159 mb_counted_162
        rw [if_pos rfl]
        exact WP.ret (Or.inr ⟨rfl, q3.flt h0 (by decide) u⟩)
    unfold mb_counted_127
    refine WP.bind (ws_isSign 23 (q2.t h0).2.2) ?_
    rintro z _ _ ⟨rfl, rfl, -⟩
    dsimp only
    unfold mb_counted_141
    refine WP.ite (fun _ => ?_) (fun _ => cls F2 G2 (Nat.le_refl _) q2)
    unfold mb_counted_144
    refine WP.bind (WP.pp (wz_simple hfu F2 G2 (q2.yg h0 (by decide))) (mg_simple (L := []) F2 G2 q2.2.1)) ?_
    rintro r F3 G3 ⟨hx, (⟨rfl, q3⟩ | ⟨rfl, q3⟩)⟩
    · dsimp only
      unfold mb_counted_148
      rw [if_neg (by decide)]
      have S3 : sN F2 ≤ sN F3 := by
        rcases hx with ⟨-, hx⟩ | ⟨z, -⟩
        · exact hx.2.1
        · exact absurd z (by decide)
      exact cls F3 G3 S3 ((q2.tr q3).le (by decide) (by decide))
    · dsimp only
      unfold mb_counted_148 mb_counted_151
      rw [if_pos rfl]
      exact WP.ret (Or.inr ⟨rfl, WF0.tr q2 q3⟩)
  · dsimp only
    unfold mb_counted_114 mb_counted_117
    rw [if_pos rfl]
    exact WP.ret (Or.inr ⟨rfl, q.flt h0 (by decide) u⟩)
theorem wc_63 (hfu : 8589934592 ≤ fu) (hr : ZG rc d) (hG : mGI [] rc) {F0 : PF} {G0 : PG} (h0 : YG F0 G0) (hd : 4 * (40 - (F0 43).toInt) ≤ d) (x1 : Int32) (F : PF) (G : PG) (q : WR F0 G0 (-4) 2 1 F G) : WP (mb_counted_63 fu rc x1 F G) (fun r F1 G1 => VZ (-1) 0 F0 G0 r F1 G1) := by
  unfold mb_counted_63
  refine WP.bind (ws_sign 29 (q.t h0).2.2) ?_
  rintro r F1 G1 (⟨rfl, rfl, rfl, s, -⟩ | ⟨rfl, u, -⟩)
  · dsimp only
    unfold mb_counted_69
    rw [if_neg (by decide)]
    have q1 := (q.adv h0 (k_ne (sgn_k s).1 (by decide))).le (κ1 := -6) (δ1 := 0) (by decide) (by decide)
    generalize fup F 42 (F 42 + 1) = F1 at q1
    unfold mb_counted_74
    refine WP.bind (ws_isSign 29 (q1.t h0).2.2) ?_
    rintro z _ _ ⟨rfl, rfl, -⟩
    dsimp only
    unfold mb_counted_87
    refine WP.ite (fun _ => ?_) (fun _ => wc_108 hfu hr hG h0 hd x1 _ (-1) F1 G (q1.le (by decide) (by decide)) (Or.inl rfl))
    unfold mb_counted_90
    refine WP.bind (q1.expr hfu h0 (by decide) (by decide) 4 0 0 (by decide) ⟨fun z => absurd z (by decide), fun z => absurd z (by decide)⟩) ?_
    rintro r F2 G2 ⟨-, -, (⟨rfl, q2⟩ | ⟨rfl, q2⟩)⟩
    · dsimp only
      unfold mb_counted_94
      rw [if_neg (by decide)]
      unfold mb_counted_99
      refine WP.bind (q2.step h0 (by decide) 13 0 0) ?_
      rintro _ F3 G3 ⟨rfl, n3, -, ⟨s3, -⟩, q3⟩
      dsimp only
      unfold mb_counted_107
      exact wc_108 hfu hr hG h0 hd x1 _ (F2 60) F3 G3 (q3.le (by decide) (by decide)) (Or.inr ⟨n3, by show sN F2 < sN F3; omega⟩)
    · dsimp only
      unfold mb_counted_94 mb_counted_97
      rw [if_pos rfl]
      exact WP.ret (Or.inr ⟨rfl, q2⟩)
  · dsimp only
    unfold mb_counted_69 mb_counted_72
    rw [if_pos rfl]
    exact WP.ret (Or.inr ⟨rfl, q.flt h0 (by decide) u⟩)
theorem zg_counted (hfu : 8589934592 ≤ fu) (hr : ZG rc d) (hG : mGI [] rc) (F : PF) (G : PG) (h0 : YG F G) (hk : ¬ G 4 (F 42).toNatClampNeg = 0) (hd : 4 * (40 - (F 43).toInt) + eS 3 ≤ d + 1) : WP (mh_counted fu rc F G) (fun r F1 G1 => VZ (-1) 0 F G r F1 G1) := by
  have e3 : eS 3 = 1 := rfl
  have hd : 4 * (40 - (F 43).toInt) ≤ d := by omega
  have q0 := WR.rf h0
  unfold mh_counted mb_counted_0
  refine WP.bind (ws_opens (q0.t h0).2.2) ?_
  rintro r F1 G1 (⟨rfl, rfl, rfl, u⟩ | ⟨rfl, u, -⟩)
  · dsimp only
    unfold mb_counted_4
    rw [if_neg (by decide)]
    have q1 := q0.op h0 hk u
    generalize fup (fup F 43 (F 43 + 1)) 42 (F 42 + 1) = F1 at q1
    unfold mb_counted_7
    refine WP.bind (ws_openSign 22 (q1.t h0).2.2) ?_
    rintro r F2 G2 (⟨rfl, rfl, rfl, s, u, -⟩ | ⟨rfl, u, -⟩)
    · dsimp only
      unfold mb_counted_13
      rw [if_neg (by decide)]
      have q2 := (q1.op h0 (k_ne (sgn_k s).1 (by decide)) u).le (κ1 := -4) (δ1 := 0) (by decide) (by decide)
      generalize fup (fup F1 43 (F1 43 + 1)) 42 (F1 42 + 1) = F2 at q2
      unfold mb_counted_18
      refine WP.bind (wa_begins.of (mw_begins F2 G)) ?_
      intro r F3 G3 K3
      dsimp only
      have q3 : WR F G (-4) 2 0 F3 G3 := q2.kx K3 rfl
      have gone : ∀ (r : Int32) (F4 : PF) (G4 : PG) (δ : Int), δ ≤ 1 → VZ 0 δ F3 G3 r F4 G4 → WP (mb_counted_56 fu rc (F2 15) r F4 G4) (fun r F1 G1 => VZ (-1) 0 F G r F1 G1) := by
        rintro r F4 G4 δ hδ (⟨rfl, q4⟩ | ⟨rfl, q4⟩)
        · unfold mb_counted_56
          rw [if_neg (by decide)]
          exact wc_63 hfu hr hG h0 hd (F2 15) F4 G4 ((q3.tr q4).le (by decide) hδ)
        · unfold mb_counted_56 mb_counted_61
          rw [if_pos rfl]
          exact WP.ret (Or.inr ⟨rfl, WF0.tr q3 q4⟩)
      unfold mb_counted_27
      refine WP.bind (ws_isSign 29 (q3.t h0).2.2) ?_
      rintro z _ _ ⟨rfl, rfl, -⟩
      dsimp only
      unfold mb_counted_33
      refine WP.ite (fun _ => ?_) (fun _ => wc_63 hfu hr hG h0 hd (F2 15) F3 G3 (q3.le (by decide) (by decide)))
      unfold mb_counted_36
      refine WP.bind (ws_isWord 0 (q3.t h0).2.2) ?_
      rintro z _ _ ⟨rfl, rfl, (⟨rfl, s⟩ | ⟨rfl, -⟩)⟩
      · dsimp only
        unfold mb_counted_41
        rw [if_neg (by decide)]
        unfold mb_counted_44
        refine WP.bind (wz_tellHere hfu 0 F3 G3 (q3.yg h0 (by decide)) (wdn_k s).1 (by rw [(wdn_k s).2]; decide)) (fun r F4 G4 q4 => ?_)
        dsimp only
        unfold mb_counted_49
        exact gone r F4 G4 1 (by decide) q4
      · dsimp only
        unfold mb_counted_41
        rw [if_pos rfl]
        unfold mb_counted_52
        exact WP.bind (wz_simple hfu F3 G3 (q3.yg h0 (by decide))) (fun r F4 G4 q4 => gone r F4 G4 0 (by decide) q4)
    · dsimp only
      unfold mb_counted_13 mb_counted_16
      rw [if_pos rfl]
      exact WP.ret (Or.inr ⟨rfl, q1.flt h0 (by decide) u⟩)
  · dsimp only
    unfold mb_counted_4 mb_counted_16
    rw [if_pos rfl]
    exact WP.ret (Or.inr ⟨rfl, q0.flt h0 (by decide) u⟩)
end G2V
