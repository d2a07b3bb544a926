theorem WP.of {o : PR} {Q : Int32 → PF → PG → Prop} (h : WP o (fun _ _ _ => True)) (k : PP o Q) : WP o Q := by
  obtain ⟨r, F, G, e, -⟩ := h
  exact ⟨r, F, G, e, k r F G e⟩
section HELP
variable {fu : Nat} {F : PF} {G : PG}
theorem wa_isSign (s : Int32) (v : vp_in (F 42) 4002) : WP (mf_isSign fu s F G) (fun _ _ _ => True) := by
  unfold mf_isSign mb_isSign_0 mb_isSign_13 mb_isSign_26 mb_isSign_30 mb_isSign_31
  exact WP.ix v (WP.ite (fun _ => WP.ix v (WP.ite (fun _ => WP.bz (Or.inr rfl) (WP.ret trivial)) (fun _ => WP.bz (Or.inl rfl) (WP.ret trivial)))) (fun _ => WP.bz (Or.inl rfl) (WP.ret trivial)))
theorem wa_isWord (s : Int32) (v : vp_in (F 42) 4002) : WP (mf_isWord fu s F G) (fun _ _ _ => True) := by
  unfold mf_isWord mb_isWord_0 mb_isWord_13 mb_isWord_26 mb_isWord_30 mb_isWord_31
  exact WP.ix v (WP.ite (fun _ => WP.ix v (WP.ite (fun _ => WP.bz (Or.inr rfl) (WP.ret trivial)) (fun _ => WP.bz (Or.inl rfl) (WP.ret trivial)))) (fun _ => WP.bz (Or.inl rfl) (WP.ret trivial)))
theorem ws_isSign (s : Int32) (v : vp_in (F 42) 4002) : WP (mf_isSign fu s F G) (fun r F' G' => F = F' ∧ G = G' ∧ ((r = 1 ∧ sgn (G 4) (G 5) (F 42) s = true) ∨ (r = 0 ∧ sgn (G 4) (G 5) (F 42) s = false))) := (wa_isSign s v).of (mp_isSign s F G)
theorem ws_isWord (s : Int32) (v : vp_in (F 42) 4002) : WP (mf_isWord fu s F G) (fun r F' G' => F = F' ∧ G = G' ∧ ((r = 1 ∧ wdn (G 4) (G 5) (F 42) s = true) ∨ (r = 0 ∧ wdn (G 4) (G 5) (F 42) s = false))) := (wa_isWord s v).of (mp_isWord s F G)
theorem wa_fails (k : Int32) (v : vp_in (F 42) 4002) : WP (mf_fails fu k F G) (fun _ _ _ => True) := by
  have fin : ∀ (x2 z0 : Int32), WP (mb_fails_44 fu x2 z0 F G) (fun _ _ _ => True) := by
    intro x2 z0
    unfold mb_fails_44 mb_fails_47 mb_fails_59 mb_fails_52 mb_fails_68 mb_fails_71
    exact WP.ite (fun _ => WP.ix v (WP.ret trivial)) (fun _ => WP.ret trivial)
  unfold mf_fails mb_fails_0 mb_fails_9 mb_fails_20 mb_fails_28 mb_fails_32 mb_fails_33 mb_fails_39 mb_fails_43 mb_fails_7
  refine WP.ite (fun _ => WP.ite (fun _ => WP.ite (fun _ => ?_) (fun _ => ?_)) (fun _ => ?_)) (fun _ => WP.ret trivial)
  · exact WP.ite (fun _ => fin _ _) (fun _ => fin _ _)
  · exact WP.ite (fun _ => fin _ _) (fun _ => fin _ _)
  · exact WP.ite (fun _ => fin _ _) (fun _ => fin _ _)
theorem ws_fails (k : Int32) (hk : 0 < k.toInt) (v : vp_in (F 42) 4002) : WP (mf_fails fu k F G) (fun r F' G' => r = 0 ∧ FLT F F' G G') := (wa_fails k v).of (mp_fails k hk F G)
theorem wa_sign (s : Int32) (v : vp_in (F 42) 4002) : WP (mf_sign fu s F G) (fun _ _ _ => True) := by
  have bad : WP (mb_sign_15 fu F G) (fun _ _ _ => True) := by
    unfold mb_sign_15
    refine WP.bind (ws_fails 2 (by decide) v) ?_
    rintro r F1 G1 ⟨rfl, -⟩
    dsimp only
    unfold mb_sign_20
    exact WP.bz (Or.inl rfl) (WP.ret trivial)
  unfold mf_sign mb_sign_0
  refine WP.ite (fun _ => bad) (fun _ => ?_)
  unfold mb_sign_7
  refine WP.bind (ws_isSign s v) ?_
  rintro r _ _ ⟨rfl, rfl, -⟩
  dsimp only
  unfold mb_sign_12 mb_sign_21 mb_sign_31
  exact WP.ite (fun _ => bad) (fun _ => WP.ret trivial)
theorem ws_sign (s : Int32) (v : vp_in (F 42) 4002) : WP (mf_sign fu s F G) (fun r F' G' => (r = 1 ∧ F' = fup F 42 (F 42 + 1) ∧ G = G' ∧ sgn (G 4) (G 5) (F 42) s = true ∧ ¬ 0 < (F 44).toInt) ∨ (r = 0 ∧ FLT F F' G G' ∧ (0 < (F 44).toInt ∨ sgn (G 4) (G 5) (F 42) s = false))) := (wa_sign s v).of (mp_sign s F G)
theorem wa_word (s m : Int32) (v : vp_in (F 42) 4002) : WP (mf_word fu s m F G) (fun _ _ _ => True) := by
  have bad : WP (mb_word_15 fu m F G) (fun _ _ _ => True) := by
    unfold mb_word_15
    refine WP.ite (fun _ => ?_) (fun _ => ?_)
    · unfold mb_word_31 mb_word_32
      exact WP.bz (Or.inl rfl) (WP.ret trivial)
    · unfold mb_word_19
      refine WP.bind (ws_fails 2 (by decide) v) ?_
      rintro r F1 G1 ⟨rfl, -⟩
      dsimp only
      unfold mb_word_24 mb_word_31 mb_word_32
      rw [if_pos rfl]
      exact WP.bz (Or.inl rfl) (WP.ret trivial)
  unfold mf_word mb_word_0
  refine WP.ite (fun _ => bad) (fun _ => ?_)
  unfold mb_word_7
  refine WP.bind (ws_isWord s v) ?_
  rintro r _ _ ⟨rfl, rfl, -⟩
  dsimp only
  unfold mb_word_12 mb_word_33 mb_word_43
  exact WP.ite (fun _ => bad) (fun _ => WP.ret trivial)
theorem wa_name (v : vp_in (F 42) 4002) : WP (mf_name fu F G) (fun _ _ _ => True) := by
  have bad : WP (mb_name_20 fu F G) (fun _ _ _ => True) := by
    unfold mb_name_20
    refine WP.bind (wa_fails 2 v) ?_
    intro r F1 G1 _
    dsimp only
    unfold mb_name_25
    exact WP.ret trivial
  unfold mf_name mb_name_0
  refine WP.ite (fun _ => bad) (fun _ => ?_)
  unfold mb_name_7 mb_name_28 mb_name_38
  exact WP.ix v (WP.ite (fun _ => WP.ret trivial) (fun _ => bad))
theorem wa_opens (v : vp_in (F 42) 4002) : WP (mf_opens fu F G) (fun _ _ _ => True) := by
  unfold mf_opens mb_opens_0
  refine WP.ite (fun _ => ?_) (fun _ => ?_)
  · unfold mb_opens_9
    refine WP.bind (ws_fails 3 (by decide) v) ?_
    rintro r F1 G1 ⟨rfl, -⟩
    dsimp only
    unfold mb_opens_14
    exact WP.bz (Or.inl rfl) (WP.ret trivial)
  · unfold mb_opens_15 mb_opens_25 mb_opens_35
    exact WP.ret trivial
theorem ws_opens (v : vp_in (F 42) 4002) : WP (mf_opens fu F G) (fun r F' G' => (r = 1 ∧ F' = fup (fup F 43 (F 43 + 1)) 42 (F 42 + 1) ∧ G = G' ∧ ¬ F 43 = 40) ∨ (r = 0 ∧ FLT F F' G G' ∧ F 43 = 40)) := (wa_opens v).of (mp_opens F G)
theorem wa_openSign (s : Int32) (v : vp_in (F 42) 4002) : WP (mf_openSign fu s F G) (fun _ _ _ => True) := by
  have bad : WP (mb_openSign_15 fu F G) (fun _ _ _ => True) := by
    unfold mb_openSign_15
    refine WP.bind (ws_fails 2 (by decide) v) ?_
    rintro r F1 G1 ⟨rfl, -⟩
    dsimp only
    unfold mb_openSign_20 mb_openSign_27
    exact WP.bz (Or.inl rfl) (WP.ret trivial)
  unfold mf_openSign mb_openSign_0
  refine WP.ite (fun _ => bad) (fun _ => ?_)
  unfold mb_openSign_7
  refine WP.bind (ws_isSign s v) ?_
  rintro r _ _ ⟨rfl, rfl, -⟩
  dsimp only
  unfold mb_openSign_12
  refine WP.ite (fun _ => bad) (fun _ => ?_)
  unfold mb_openSign_23
  refine WP.bind (ws_opens v) ?_
  rintro r F1 G1 q
  dsimp only
  unfold mb_openSign_27
  rcases q with ⟨rfl, -⟩ | ⟨rfl, -⟩
  · exact WP.bz (Or.inr rfl) (WP.ret trivial)
  · exact WP.bz (Or.inl rfl) (WP.ret trivial)
theorem ws_openSign (s : Int32) (v : vp_in (F 42) 4002) : WP (mf_openSign fu s F G) (fun r F' G' => (r = 1 ∧ F' = fup (fup F 43 (F 43 + 1)) 42 (F 42 + 1) ∧ G = G' ∧ sgn (G 4) (G 5) (F 42) s = true ∧ ¬ F 43 = 40 ∧ ¬ 0 < (F 44).toInt) ∨ (r = 0 ∧ FLT F F' G G' ∧ (0 < (F 44).toInt ∨ sgn (G 4) (G 5) (F 42) s = false ∨ (sgn (G 4) (G 5) (F 42) s = true ∧ F 43 = 40)))) := (wa_openSign s v).of (mp_openSign s F G)
theorem wa_closeSign (s : Int32) (v : vp_in (F 42) 4002) : WP (mf_closeSign fu s F G) (fun _ _ _ => True) := by
  unfold mf_closeSign mb_closeSign_0
  refine WP.bind (wa_sign s v) ?_
  intro r F1 G1 _
  dsimp only
  unfold mb_closeSign_5 mb_closeSign_8 mb_closeSign_10 mb_closeSign_20
  exact WP.ite (fun _ => WP.ret trivial) (fun _ => WP.ret trivial)
theorem ws_closeSign (s : Int32) (v : vp_in (F 42) 4002) : WP (mf_closeSign fu s F G) (fun r F' G' => (r = 1 ∧ F' = fup (fup F 42 (F 42 + 1)) 43 (F 43 - 1) ∧ G = G' ∧ sgn (G 4) (G 5) (F 42) s = true ∧ ¬ 0 < (F 44).toInt) ∨ (r = 0 ∧ FLT F F' G G' ∧ (0 < (F 44).toInt ∨ sgn (G 4) (G 5) (F 42) s = false))) := (wa_closeSign s v).of (mp_closeSign s F G)
theorem wa_step (w a b : Int32) (v : vp_in (F 60) 9000) : WP (mf_step fu w a b F G) (fun _ _ _ => True) := by
  unfold mf_step mb_step_0 mb_step_10 mb_step_20 mb_step_30 mb_step_40
  exact WP.ix v (WP.ix v (WP.ix v (WP.ret trivial)))
theorem ws_step (w a b : Int32) (v : vp_in (F 60) 9000) : WP (mf_step fu w a b F G) (fun r F1 G1 => KX [60] [56, 57, 58] F G F1 G1 ∧ r = F 60 ∧ F1 60 = F 60 + 1 ∧ G1 = g3s G (sN F) w a b ∧ vp_in (F 60) 9000) := (wa_step w a b v).of (mq_step w a b F G)
theorem wa_noteAs (k p o : Int32) : WP (mf_noteAs fu k p o F G) (fun _ _ _ => True) := by
  have no : WP (mb_noteAs_38 fu F G) (fun _ _ _ => True) := by
    unfold mb_noteAs_38
    exact WP.ret trivial
  have yes : WP (mb_noteAs_39 fu k p o F G) (fun _ _ _ => True) := by
    unfold mb_noteAs_39 mb_noteAs_44 mb_noteAs_49 mb_noteAs_54
    exact WP.ret trivial
  unfold mf_noteAs mb_noteAs_0 mb_noteAs_7 mb_noteAs_14 mb_noteAs_22 mb_noteAs_30
  exact WP.ite (fun _ => no) (fun _ => WP.ite (fun _ => yes) (fun _ => WP.ite (fun _ => no) (fun _ => WP.ite (fun _ => WP.ite (fun _ => yes) (fun _ => no)) (fun _ => yes))))
theorem wa_rank (k : Int32) : WP (mf_rank fu k F G) (fun _ _ _ => True) := by
  unfold mf_rank mb_rank_0 mb_rank_6 mb_rank_11 mb_rank_14
  exact WP.ite (fun _ => WP.ret trivial) (fun _ => WP.ret trivial)
theorem wa_note (k p : Int32) : WP (mf_note fu k p F G) (fun _ _ _ => True) := by
  unfold mf_note mb_note_0
  refine WP.bind (wa_rank k) (fun r F1 G1 _ => ?_)
  dsimp only
  unfold mb_note_7
  refine WP.bind (wa_noteAs k p r) (fun r F1 G1 _ => ?_)
  dsimp only
  unfold mb_note_10
  exact WP.ret trivial
theorem ws_note (k p : Int32) (hk : 0 < k.toInt) : WP (mf_note fu k p F G) (fun _ F' G' => KX [47, 48, 49] [] F G F' G' ∧ G = G') := WP.mono ((wa_note k p).of (mp_note k p hk F G)) (fun _ _ _ q => ⟨q.1, q.2.1⟩)
theorem ws_noteAs (k p o : Int32) (hk : 0 < k.toInt) : WP (mf_noteAs fu k p o F G) (fun _ F' G' => KX [47, 48, 49] [] F G F' G' ∧ G = G') := WP.mono ((wa_noteAs k p o).of (mp_noteAs k p o hk F G)) (fun _ _ _ q => ⟨q.1, q.2.1⟩)
end HELP
