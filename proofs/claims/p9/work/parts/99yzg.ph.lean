theorem i_b255 (x : Int32) : 0 ≤ (x &&& 255).toInt ∧ (x &&& 255).toInt ≤ 255 := by
  have h : (x &&& 255).toBitVec.toNat ≤ 255 := by
    show (x.toBitVec &&& (255 : Int32).toBitVec).toNat ≤ 255
    rw [BitVec.toNat_and]
    exact Nat.le_trans Nat.and_le_right (by decide)
  have e : (x &&& 255).toInt = ((x &&& 255).toBitVec.toNat : Int) := by
    show (x &&& 255).toBitVec.toInt = _
    rw [BitVec.toInt_eq_toNat_of_lt (by omega)]
  omega
theorem RUNI.kx {a b : List Nat} {F F1 : PF} {G G1 : PG} (h : RUNI F G) (K : KX a b F G F1 G1) (ea : a.all [2, 80, 96].contains = true) (eb : b.all [0, 88, 94, 95].contains = true) (hc : 0 ≤ (F1 80).toInt ∧ (F1 80).toInt ≤ 500) : RUNI F1 G1 := by
  have K1 : KX [2, 80, 96] [0, 88, 94, 95] F G F1 G1 := KX.tr KX.rf K ea eb
  have hs : STT F G F1 G1 := STT.of K1 rfl
  unfold RUNI
  rw [K1.1 73 rfl, K1.1 75 rfl, K1.1 84 rfl, K1.1 85 rfl, K1.1 83 rfl, K1.1 72 rfl]
  rcases h with q | ⟨q1, q2, q3⟩
  · exact Or.inl q
  · refine Or.inr ⟨q1, hs.prg q2, ?_⟩
    rcases q3 with q3 | ⟨q3, q4⟩
    · exact Or.inl q3
    · refine Or.inr ⟨q3, ?_⟩
      rcases q4 with q4 | ⟨q4, q5⟩
      · exact Or.inl q4
      · refine Or.inr ⟨q4, ?_⟩
        rcases q5 with q5 | ⟨φ, q5⟩
        · exact Or.inl q5
        · refine Or.inr ⟨φ, ?_⟩
          obtain ⟨es, eg, et⟩ := hs.eqs
          have g30 := hs.2.1.2.2.2.1
          obtain ⟨n, a0, d0, t0, A, m, ⟨c1, c2, c3, c4, c5, c6, c7, c8⟩, p, ht, hv, e⟩ := q5
          refine ⟨n, a0, d0, t0, A, m, ⟨KX.rf, by rw [K1.1 85 rfl]; exact c2, ?_, ?_, by rw [K1.1 83 rfl]; exact c5, by rw [K1.1 86 rfl, K1.2 93 rfl]; exact c6, by rw [et, K1.2 91 rfl]; exact c7, ?_⟩, by rw [g30, K1.2 91 rfl, K1.1 76 rfl]; exact p, by rw [K1.1 72 rfl, K1.1 76 rfl]; exact ht, by rw [es, K1.2 91 rfl, K1.2 93 rfl, K1.2 71 rfl, K1.1 72 rfl, K1.1 76 rfl]; exact hv, by rw [K1.1 76 rfl, K1.1 78 rfl]; exact e⟩
          · rw [K1.2 91 rfl, K1.2 92 rfl, K1.2 93 rfl, K1.2 71 rfl, K1.2 90 rfl]
            exact hs.frs n a0 d0 t0 c3
          · rw [eg, K1.2 91 rfl, K1.2 93 rfl, K1.2 90 rfl, K1.1 87 rfl, K1.1 83 rfl]
            exact c4
          · unfold CNR at c8 ⊢
            rw [K1.1 78 rfl, K1.1 79 rfl]
            exact ⟨c8.1, c8.2.1, hc⟩
theorem RI.kx {a b : List Nat} {F F1 : PF} {G G1 : PG} (h : RI F G) (K : KX a b F G F1 G1) (ea : a.all [2, 80, 96].contains = true) (eb : b.all [0, 88, 94, 95].contains = true) (h2 : 0 ≤ (F1 2).toInt ∧ (F1 2).toInt ≤ 4000) (h0 : ∀ j : Nat, 0 ≤ (G1 0 j).toInt ∧ (G1 0 j).toInt ≤ 255) (hc : 0 ≤ (F1 80).toInt ∧ (F1 80).toInt ≤ 500) : RI F1 G1 := by
  have K1 : KX [2, 80, 96] [0, 88, 94, 95] F G F1 G1 := KX.tr KX.rf K ea eb
  refine ⟨⟨h2, h0, by rw [K1.2 1 rfl]; exact h.1.2.2.1, h.1.2.2.2.kx K1 rfl⟩, ⟨by rw [K1.1 79 rfl]; exact h.2.1.1, hc⟩, h.2.2.kx K ea eb hc⟩
section REFS
variable {fu : Nat} {F : PF} {G : PG}
theorem wq_read (hfu : 8589934592 ≤ fu) (h : RI F G) : WP (mf_read fu F G) (fun _ F1 G1 => RI F1 G1 ∧ F1 2 = 0) := by
  refine WP.mono (wz_read hfu F G h.1) ?_
  rintro r F1 G1 ⟨hb, ⟨e75, e80, e79, e2⟩, q⟩
  refine ⟨⟨hb, ⟨by rw [e79]; decide, by rw [e80]; decide, by rw [e80]; decide⟩, ?_⟩, e2⟩
  rcases q with q | ⟨q1, q2⟩
  · exact Or.inl ⟨q, e75⟩
  · exact Or.inr ⟨q1, q2, Or.inl e75⟩
theorem fd_18 : ∀ (n : Nat) (x1 x2 x3 x4 x5 x6 : Int32) (F : PF) (G : PG), (∀ j : Nat, 0 ≤ (G 0 j).toInt ∧ (G 0 j).toInt ≤ 255) → PP (ml_feed_18 fu n x1 x2 x3 x4 x5 x6 F G) (fun _ _ G1 => ∀ j : Nat, 0 ≤ (G1 0 j).toInt ∧ (G1 0 j).toInt ≤ 255) := by
  intro n
  induction n with
  | zero => intro x1 x2 x3 x4 x5 x6 F G _; exact PP.no
  | succ n ih =>
    intro x1 x2 x3 x4 x5 x6 F G h
    show PP (mb_feed_18 fu (ml_feed_18 fu n) x1 x2 x3 x4 x5 x6 F G) _
    have go : ∀ z : Int32, PP (mb_feed_71 fu (ml_feed_18 fu n) x1 x2 x3 x4 x5 x6 z F G) (fun _ _ G1 => ∀ j : Nat, 0 ≤ (G1 0 j).toInt ∧ (G1 0 j).toInt ≤ 255) := by
      intro z
      unfold mb_feed_71
      refine PP.ix (fun _ => ?_)
      unfold mb_feed_102
      refine ih _ _ _ _ _ _ _ _ (fun j => ?_)
      by_cases e : j = (F 2 + x6).toNatClampNeg
      · rw [e, gup_i]
        exact i_b255 _
      · rw [gup_x e]
        exact h j
    unfold mb_feed_18
    refine PP.ite (fun _ => ?_) (fun _ => ?_)
    · unfold mb_feed_108 mb_feed_119
      exact PP.ret h
    · unfold mb_feed_25 mb_feed_35 mb_feed_46 mb_feed_57 mb_feed_31 mb_feed_42 mb_feed_53 mb_feed_64 mb_feed_69
      exact PP.ite (fun _ => PP.ite (fun _ => PP.ite (fun _ => PP.ite (fun _ => go _) (fun _ => go _)) (fun _ => go _)) (fun _ => go _)) (fun _ => go _)
theorem wq_feed (hfu : 8589934592 ≤ fu) (x1 x2 x3 x4 x5 : Int32) (h : RI F G) : WP (mf_feed fu x1 x2 x3 x4 x5 F G) (fun r F1 G1 => RI F1 G1 ∧ (((F 2).toInt ≤ 3980 ∧ r.toInt = (F 2).toInt + 20 ∧ (F1 2).toInt = (F 2).toInt + 20) ∨ (3980 < (F 2).toInt ∧ r.toInt = -1 ∧ (F1 2).toInt = (F 2).toInt))) := by
  have pb : PP (mf_feed fu x1 x2 x3 x4 x5 F G) (fun _ _ G1 => ∀ j : Nat, 0 ≤ (G1 0 j).toInt ∧ (G1 0 j).toInt ≤ 255) := by
    unfold mf_feed mb_feed_0 mb_feed_15 mb_feed_13
    exact PP.ite (fun _ => fd_18 _ _ _ _ _ _ _ _ _ h.1.2.1) (fun _ => PP.ret h.1.2.1)
  have h2 := h.1.1
  refine WP.mono (WP.pp (WP.pp (ms_feed hfu x1 x2 x3 x4 x5 F G h2.1 h2.2) (mw_feed x1 x2 x3 x4 x5 F G)) pb) ?_
  rintro r F1 G1 ⟨b, K, q⟩
  refine ⟨h.kx K rfl rfl ?_ b (by rw [K.1 80 rfl]; exact h.2.1.2), q⟩
  rcases q with q | q <;> omega
theorem wq_end (x1 : Int32) (h : RI F G) : WP (mf_end fu x1 F G) (fun r F1 G1 => RI F1 G1 ∧ ((0 ≤ x1.toInt ∧ x1.toInt ≤ (F 2).toInt ∧ r.toInt = x1.toInt ∧ (F1 2).toInt = x1.toInt) ∨ (¬ (0 ≤ x1.toInt ∧ x1.toInt ≤ (F 2).toInt) ∧ r.toInt = -1 ∧ (F1 2).toInt = (F 2).toInt))) := by
  have h2 := h.1.1
  refine WP.mono (WP.pp (ms_end x1 F G h2.1 h2.2) (mw_end x1 F G)) ?_
  rintro r F1 G1 ⟨K, q⟩
  refine ⟨h.kx K rfl rfl ?_ (by rw [K.2 0 rfl]; exact h.1.2.1) (by rw [K.1 80 rfl]; exact h.2.1.2), q⟩
  rcases q with q | q <;> omega
theorem wq_give (x1 : Int32) (h : RI F G) : WP (mf_give fu x1 F G) (fun _ F1 G1 => RI F1 G1 ∧ F1 2 = F 2) := by
  have h80 := h.2.1.2
  unfold mf_give mb_give_0 mb_give_17
  refine WP.ite (fun _ => WP.ret ⟨h, rfl⟩) (fun _ => ?_)
  unfold mb_give_7 mb_give_17
  refine WP.ite (fun _ => WP.ret ⟨h, rfl⟩) (fun c => ?_)
  have c : ¬ (F 80).toInt = 500 := fun e => c (i_eq.mpr (by rw [e]; rfl))
  have i1 : (F 80 + 1).toInt = (F 80).toInt + 1 := i_addn _ rfl (by omega) (by omega)
  unfold mb_give_19
  refine WP.ix (vp_in_iff.mpr ⟨h80.1, by omega⟩) ?_
  unfold mb_give_29 mb_give_39
  exact WP.ret ⟨h.kx (KX.f rfl (KX.g rfl KX.rf) : KX [80] [88] F G _ _) rfl rfl h.1.1 h.1.2.1 (by show 0 ≤ (F 80 + 1).toInt ∧ (F 80 + 1).toInt ≤ 500; omega), rfl⟩
theorem wq_look (x1 x2 : Int32) (h : RI F G) : WP (mf_look fu x1 x2 F G) (fun _ F1 G1 => RI F1 G1 ∧ F1 2 = F 2) := by
  by_cases c : F 73 = 0
  · unfold mf_look mb_look_0 mb_look_7
    rw [if_pos c]
    exact WP.ret ⟨h, rfl⟩
  · rcases h.2.2 with ⟨q, -⟩ | ⟨-, hP, -⟩
    · exact absurd q c
    · refine WP.mono (ms_look x1 x2 F G hP.1.1 hP.1.2) ?_
      rintro r F1 G1 ⟨rfl, rfl, -⟩
      exact ⟨h, rfl⟩
theorem wq_output (x1 : Int32) (h : RI F G) : WP (mf_output fu x1 F G) (fun _ F1 G1 => RI F1 G1 ∧ F1 2 = F 2) := WP.mono (ms_output x1 F G) (by rintro r F1 G1 ⟨rfl, rfl, -⟩; exact ⟨h, rfl⟩)
theorem wq_world (x1 : Int32) (h : RI F G) : WP (mf_world fu x1 F G) (fun _ F1 G1 => RI F1 G1 ∧ F1 2 = F 2) := WP.mono (ms_world x1 F G) (by rintro r F1 G1 ⟨rfl, rfl, -⟩; exact ⟨h, rfl⟩)
theorem wq_board (x1 : Int32) (h : RI F G) : WP (mf_board fu x1 F G) (fun _ F1 G1 => RI F1 G1 ∧ F1 2 = F 2) := WP.mono (ms_board x1 F G) (by rintro r F1 G1 ⟨rfl, rfl, -⟩; exact ⟨h, rfl⟩)
theorem wq_global (hfu : 8589934592 ≤ fu) (x1 : Int32) (h : RI F G) : WP (mf_global fu x1 F G) (fun _ F1 G1 => RI F1 G1 ∧ F1 2 = F 2) := WP.mono (wz_global hfu x1 F G h) (by rintro r F1 G1 ⟨rfl, rfl⟩; exact ⟨h, rfl⟩)
theorem RI.kxb {a b : List Nat} {F1 : PF} {G1 : PG} (h : RI F G) (K : KX a b F G F1 G1) (ea : a.all [96].contains = true) (eb : b.all [94, 95].contains = true) : RI F1 G1 ∧ F1 2 = F 2 := by
  have K1 : KX [96] [94, 95] F G F1 G1 := KX.tr KX.rf K ea eb
  exact ⟨h.kx K1 rfl rfl (by rw [K1.1 2 rfl]; exact h.1.1) (by rw [K1.2 0 rfl]; exact h.1.2.1) (by rw [K1.1 80 rfl]; exact h.2.1.2), K1.1 2 rfl⟩
theorem wq_put (x1 x2 : Int32) (h : RI F G) : WP (mf_put fu x1 x2 F G) (fun r F1 G1 => (r = 0 ∨ r = 1) ∧ RI F1 G1 ∧ F1 2 = F 2) := WP.mono (WP.pp (ms_put x1 x2 F G) (mw_put x1 x2 F G)) (by rintro r F1 G1 ⟨K, q⟩; exact ⟨q, h.kxb K rfl rfl⟩)
theorem wq_set (x1 x2 : Int32) (h : RI F G) : WP (mf_set fu x1 x2 F G) (fun r F1 G1 => (r = 0 ∨ r = 1) ∧ RI F1 G1 ∧ F1 2 = F 2) := WP.mono (WP.pp (ms_set x1 x2 F G) (mw_set x1 x2 F G)) (by rintro r F1 G1 ⟨K, q⟩; exact ⟨q, h.kxb K rfl rfl⟩)
theorem wq_go (hfu : 8589934592 ≤ fu) (x1 : Int32) (h : RI F G) : WP (mf_go fu x1 F G) (fun _ F1 G1 => RI F1 G1 ∧ F1 2 = F 2) := WP.mono (WP.pp (ms_go hfu x1 F G) (mw_go x1 F G)) (by rintro r F1 G1 ⟨K, -⟩; exact h.kxb K rfl rfl)
theorem wq_begin (hfu : 8589934592 ≤ fu) (x1 : Int32) (h : RI F G) : WP (mf_begin fu x1 F G) (fun _ F1 G1 => RI F1 G1 ∧ F1 2 = F 2) := WP.mono (WP.pp (wz_begin hfu x1 F G h) (mw_begin x1 F G)) (by rintro r F1 G1 ⟨K, q⟩; exact ⟨q, K.1 2 rfl⟩)
theorem wq_run (hfu : 300000000000 ≤ fu) (x1 : Int32) (h : RI F G) : WP (mf_run fu x1 F G) (fun _ F1 G1 => RI F1 G1 ∧ F1 2 = F 2) := WP.mono (WP.pp (wz_run hfu x1 F G h) (mw_run x1 F G)) (by rintro r F1 G1 ⟨K, q⟩; exact ⟨q, K.1 2 rfl⟩)
end REFS
/-- all begins with nothing -/
theorem RI.zero : RI (fun _ => 0) (fun _ _ => 0) := by
  refine ⟨⟨⟨by decide, by decide⟩, fun _ => ⟨(by decide : 0 ≤ (0 : Int32).toInt), (by decide : (0 : Int32).toInt ≤ 255)⟩, fun _ => ⟨(by decide : 0 ≤ (0 : Int32).toInt), (by decide : (0 : Int32).toInt ≤ 255)⟩, fun _ => (by decide : 0 ≤ (0 : Int32).toInt)⟩, ⟨by decide, by decide, by decide⟩, Or.inl ⟨rfl, rfl⟩⟩
