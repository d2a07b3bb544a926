theorem SQ0.of {L : List Nat} {F F1 : PF} {G G1 : PG} {r : Int32} (hg : GP F) (h : XQ L [] F G r F1 G1) : SQ0 L F G r F1 G1 := by
  rcases h with ⟨rfl, q⟩ | ⟨rfl, q⟩
  · exact q.good hg (fun _ _ _ => List.Perm.refl _)
  · exact q
/-- the body of a loop within -/
theorem PQ.body {L : List Nat} {F0 F F1 : PF} {G0 G G1 : PG} {j : Int} {e : Nat} {hs : Nat → Nat → Nat → HLs} {ls : Nat → HLs} {LB LC : List Nat} {x : Int32} (h : PQ L F0 G0 j F G [] e hs ls LB LC) (q : BQ L x F G 1 F1 G1) (e1 eB eC : Nat) (l1 : e ≤ e1) (l2 : eB ≤ e1) (l3 : eC ≤ e1) (hx : ¬ x = -1 → 0 ≤ x.toInt ∧ eC < e1 ∧ ∀ d, (x.toInt.toNat, [], d + eC) ∈ ls d) : ∃ KB KC, chn (G1 57) KB (F1 65) (-1) ∧ (x = -1 → chn (G1 57) KC (F1 66) (-1)) ∧ (¬ x = -1 → KC = []) ∧ (KB ++ KC).Nodup ∧ (∀ p ∈ KB ++ KC, sN F ≤ p ∧ p < sN F1 ∧ p ∉ LB ++ LC) ∧ PQ L F0 G0 j F1 G1 [] e1 (fun d dB dC => (lpH [] (d + eB) KB ++ lpH [] (d + eC) KC) ++ hs d dB dC) ls LB LC := by
  obtain ⟨h1, h2, h3, h4, h5, h6, h7, h8⟩ := h
  obtain ⟨g, g63, g64, KB, KC, c1, c2, c3, c4, c5, t⟩ := q
  have g1 := h1.gs g
  obtain ⟨q1, q2, q3, q4, q5, q6, q7⟩ := g
  obtain ⟨q8, q9, q10, q11, q12⟩ := q7 rfl
  refine ⟨KB, KC, c1, c2, c3, c5, fun p hp => ⟨(c4 p hp).1, (c4 p hp).2, fun z => ?_⟩, g1, Nat.le_trans h2 q3, CB.tr h3 h2 q4, M7.tr h4 q5, by rw [q9]; exact h5, q11.trans h6, CK.lo h7 g63 g64 q3 (fun p hp => (q4 p (h7.2.2.1 p hp).2).2.1), ?_⟩
  · have := (h7.2.2.1 p z).2
    have := (c4 p hp).1
    omega
  · refine TY.seq (hs1 := fun d _ _ => lpH [] (d + eB) KB ++ lpH [] (d + eC) KC) h8 q5 (fun _ hS h47 => ?_)
    obtain ⟨t1, t2, t3⟩ := t rfl hS h47
    refine ⟨t1, t2, fun A d dB dC _ _ hA hl => t3 A (d + e) (d + e1) (d + eB) (d + eC) (by omega) (by omega) (by omega) hA (fun z => ?_)⟩
    obtain ⟨x1, x2, x3⟩ := hx z
    obtain ⟨y1, y2⟩ := hl _ (x3 d)
    exact ⟨x1, y1, y2, by omega⟩
theorem PQ.bodyB {L : List Nat} {F0 F F1 : PF} {G0 G G1 : PG} {j : Int} {s : SH} {e : Nat} {hs : Nat → Nat → Nat → HLs} {ls : Nat → HLs} {LB LC : List Nat} {x r : Int32} (h : PQ L F0 G0 j F G s e hs ls LB LC) (q : BQ L x F G r F1 G1) : SQ0 L F0 G0 0 F1 G1 := by
  obtain ⟨h1, h2, h3, h4, h5, h6, h7, h8⟩ := h
  obtain ⟨⟨q1, q2, q3, q4, q5, q6, q7⟩, g63, g64, -⟩ := q
  exact ⟨⟨Or.inl rfl, q2, Nat.le_trans h2 q3, CB.tr h3 h2 q4, fun z => absurd z (by decide)⟩, LB, LC, CK.lo h7 g63 g64 q3 (fun p hp => (q4 p (h7.2.2.1 p hp).2).2.1), fun z => absurd z (by decide)⟩
theorem mGI.b {L : List Nat} {rc : RC} (ih : mGI L rc) (x : Int32) (F : PF) (G : PG) (hg : GP F) (h51 : (F 51).toInt < (F 43).toInt) : PP (rc 1 x 0 F G) (fun r F1 G1 => BQ L x F G r F1 G1) := by
  refine PP.mono (ih 1 x 0 F G hg (fun _ => h51)) ?_
  intro r F1 G1 q
  rw [if_pos rfl] at q
  exact q
section GRP
variable {fu : Nat} {L : List Nat} {rc : RC}
theorem gt_scoped (ih : mGI L rc) (F : PF) (G : PG) (hg : GP F) : PP (mh_scoped fu rc F G) (fun r F1 G1 => SQ0 L F G r F1 G1) := by
  have h0 : PQ L F G 0 F G [] 0 hN0 lN0 [] [] := PQ.rf hg
  unfold mh_scoped mb_scoped_0
  refine PP.bind h0.begins ?_
  rintro r F1 G1 ⟨K1, h1⟩
  dsimp only
  unfold mb_scoped_9
  refine PP.bind (ih.s (fu := fu) 6 (by decide) F1 G1 h1.1) ?_
  rintro r F2 G2 (⟨rfl, LB, LC, q⟩ | ⟨rfl, -, q⟩)
  · dsimp only
    unfold mb_scoped_13
    refine PP.bind ((h1.app q).ends (F 15)) ?_
    rintro r F3 G3 ⟨K3, h3⟩
    dsimp only
    unfold mb_scoped_19
    refine PP.bz (fun _ => PP.ret (h3.good hg (fun d dB dC => ?_)))
    rw [List.append_nil, List.append_nil]
    exact List.Perm.of_eq (by rw [List.append_nil])
  · dsimp only
    unfold mb_scoped_13
    refine PP.bind (mp_ends (F 15) F2 G2) ?_
    rintro r F3 G3 ⟨K3, -⟩
    dsimp only
    unfold mb_scoped_19
    exact PP.bz (fun _ => PP.ret ((h1.apB q).kx K3 rfl rfl rfl rfl rfl rfl rfl))
theorem gt_block (ih : mGI L rc) (F : PF) (G : PG) (hg : GP F) : PP (mh_block fu rc F G) (fun r F1 G1 => SQ0 L F G r F1 G1) := by
  have h0 : PQ L F G 0 F G [] 0 hN0 lN0 [] [] := PQ.rf hg
  have fin : ∀ (F1 : PF) (G1 : PG), ((∃ LB LC, PQ L F G 1 F1 G1 [] 0 (hLC LB LC) lN0 LB LC) ∨ (0 < (F1 44).toInt ∧ SQ0 L F G 0 F1 G1)) → PP (mb_block_35 fu rc F1 G1) (fun r F1 G1 => SQ0 L F G r F1 G1) := by
    intro F1 G1 h
    unfold mb_block_35
    refine PP.bind (mp_closeSign 27 F1 G1) ?_
    rintro r F2 G2 (⟨rfl, rfl, rfl, -, u⟩ | ⟨rfl, u, -⟩)
    · dsimp only
      unfold mb_block_41
      refine PP.bz (fun _ => PP.ret ?_)
      rcases h with ⟨LB, LC, q⟩ | ⟨q, -⟩
      · exact (PQ.cl (j := 0) q hg (by decide)).good hg (fun _ _ _ => List.Perm.refl _)
      · exact absurd q u
    · dsimp only
      unfold mb_block_41
      refine PP.bz (fun _ => PP.ret ?_)
      rcases h with ⟨LB, LC, q⟩ | ⟨-, q⟩
      · exact q.flt u
      · exact q.flt u
  have loop : ∀ (n : Nat) (F1 : PF) (G1 : PG), ((∃ LB LC, PQ L F G 1 F1 G1 [] 0 (hLC LB LC) lN0 LB LC) ∨ (0 < (F1 44).toInt ∧ SQ0 L F G 0 F1 G1)) → PP (ml_block_11 fu rc n F1 G1) (fun r F1 G1 => SQ0 L F G r F1 G1) := by
    intro n
    induction n with
    | zero => intro F1 G1 _; exact PP.no
    | succ n ihn =>
      intro F1 G1 h
      show PP (mb_block_11 fu rc (ml_block_11 fu rc n) F1 G1) _
      unfold mb_block_11
      refine PP.ite (fun c => ?_) (fun _ => fin F1 G1 h)
      rcases h with ⟨LB, LC, q⟩ | ⟨q, -⟩
      · unfold mb_block_18
        refine PP.bind (mp_isSign 27 F1 G1) ?_
        rintro z0 _ _ ⟨rfl, rfl, -⟩
        dsimp only
        unfold mb_block_24
        refine PP.ite (fun _ => ?_) (fun _ => fin F1 G1 (Or.inl ⟨LB, LC, q⟩))
        unfold mb_block_27
        refine PP.bind (ih.s (fu := fu) 6 (by decide) F1 G1 q.1) ?_
        rintro r F2 G2 (⟨rfl, LB1, LC1, q1⟩ | ⟨rfl, q0, q1⟩)
        · dsimp only
          unfold mb_block_31
          refine ihn F2 G2 (Or.inl ⟨LB1 ++ LB, LC1 ++ LC, (q.app q1).pm (fun d dB dC => ?_)⟩)
          show List.Perm (lpH [] dB (LB1 ++ LB) ++ lpH [] dC (LC1 ++ LC)) ((lpH [] dB LB1 ++ lpH [] dC LC1) ++ (lpH [] dB LB ++ lpH [] dC LC))
          rw [lpH_app, lpH_app]
          exact pm4 _ _ _ _
        · dsimp only
          unfold mb_block_31
          exact ihn F2 G2 (Or.inr ⟨q0, q.apB q1⟩)
      · rw [c] at q
        exact absurd q (by decide)
  unfold mh_block mb_block_0
  refine PP.bind (mp_openSign 26 F G) ?_
  rintro r F1 G1 (⟨rfl, rfl, rfl, -, u, -⟩ | ⟨rfl, u, -⟩)
  · dsimp only
    unfold mb_block_6
    rw [if_neg (by decide)]
    exact loop fu _ _ (Or.inl ⟨[], [], h0.op u⟩)
  · dsimp only
    unfold mb_block_6 mb_block_9
    rw [if_pos rfl]
    exact PP.ret (h0.flt u)
theorem nin {F0 F : PF} {G : PG} {LB LC : List Nat} (c : CK F0 F G LB LC) {p : Nat} (h : sN F ≤ p) : p ∉ LB ++ LC := fun z => by
  have := (c.2.2.1 p z).2
  omega
theorem gt_choice (ih : mGI L rc) (F : PF) (G : PG) (hg : GP F) : PP (mh_choice fu rc F G) (fun r F1 G1 => SQ0 L F G r F1 G1) := by
  have h0 : PQ L F G 0 F G [] 0 hN0 lN0 [] [] := PQ.rf hg
  have fin : ∀ (LB LC : List Nat) (hs : Nat → Nat → Nat → HLs) (F1 : PF) (G1 : PG), PQ L F G 1 F1 G1 [] 0 hs lN0 LB LC → (∀ d dB dC, List.Perm (lpH [] dB LB ++ lpH [] dC LC) (hs d dB dC)) → PP (mb_choice_110 fu rc F1 G1) (fun r F1 G1 => SQ0 L F G r F1 G1) := by
    intro LB LC hs F1 G1 q p
    unfold mb_choice_110
    have q2 := PQ.dn (j := 0) q hg (by decide)
    have e44 : (fup F1 43 (F1 43 - 1)) 44 = 0 := q2.1.2.1
    unfold mb_choice_120
    rw [if_pos e44]
    unfold mb_choice_127 mb_choice_132
    exact PP.bz (fun _ => PP.ret (q2.good hg p))
  unfold mh_choice mb_choice_0
  refine PP.bind (mp_opens F G) ?_
  rintro r F1 G1 (⟨rfl, rfl, rfl, u⟩ | ⟨rfl, u, -⟩)
  · dsimp only
    unfold mb_choice_4
    rw [if_neg (by decide)]
    have h1 := h0.op (v := F 42 + 1) u
    generalize fup (fup F 43 (F 43 + 1)) 42 (F 42 + 1) = F1 at h1
    unfold mb_choice_7
    refine PP.bind (mg_condition (L := L) F1 G h1.1) ?_
    rintro r F2 G2 (⟨rfl, q⟩ | ⟨rfl, q⟩)
    · dsimp only
      unfold mb_choice_11
      rw [if_neg (by decide)]
      have h2 : PQ L F G 1 F2 G2 [0] 0 hN0 lN0 [] [] := h1.app q
      unfold mb_choice_16
      refine PP.bind (h2.cnd 13 (by decide) (Or.inl rfl)) ?_
      rintro _ F3 G3 ⟨rfl, -, n3, -, h3⟩
      dsimp only
      unfold mb_choice_24
      refine PP.bind (ih.s (fu := fu) 5 (by decide) F3 G3 h3.1) ?_
      rintro r F4 G4 (⟨rfl, LB, LC, q4⟩ | ⟨rfl, -, q4⟩)
      · dsimp only
        unfold mb_choice_29
        rw [if_neg (by decide)]
        have h4 := h3.app q4
        have S4 : sN F3 ≤ sN F4 := q4.2.1
        have S2 : sN F ≤ sN F2 := h2.2.1
        have nn : sN F2 ∉ (LB ++ []) ++ (LC ++ []) := fun z => by
          rw [List.append_nil, List.append_nil] at z
          have := (q4.2.2.2.2.2.2.1.2.2.1 _ z).1
          omega
        have no : PP (mb_choice_100 fu rc (F2 60) F4 G4) (fun r F1 G1 => SQ0 L F G r F1 G1) := by
          unfold mb_choice_100
          refine PP.ix (fun _ => ?_)
          have h5 := h4.patch (p := sN F2) (l1 := hLC LB LC) (l2 := hN0) (fun d dB dC => rfl) S2 nn
          refine fin _ _ _ F4 _ h5 (fun d dB dC => ?_)
          rw [List.append_nil, List.append_nil, List.append_nil]
        unfold mb_choice_34
        refine PP.ite (fun _ => ?_) (fun _ => no)
        unfold mb_choice_41
        refine PP.bind (mp_isWord 5 F4 G4) ?_
        rintro z0 _ _ ⟨rfl, rfl, -⟩
        dsimp only
        unfold mb_choice_46
        refine PP.ite (fun _ => no) (fun _ => ?_)
        unfold mb_choice_49
        have h4b := PQ.f (k := 42) (v := F4 42 + 1) h4
        generalize e4 : fup F4 42 (F4 42 + 1) = F5 at h4b
        have s5 : sN F5 = sN F4 := by rw [← e4]; rfl
        unfold mb_choice_59
        refine PP.bind (h4b.go (by decide) [] 0 (Nat.le_refl _)) ?_
        rintro _ F6 G6 ⟨rfl, -, n6, -, h6⟩
        dsimp only
        unfold mb_choice_67
        refine PP.ix (fun _ => ?_)
        have h7 := h6.patch (p := sN F2) (l1 := fun d dB dC => (sN F5, [], d + 0) :: (lpH [] dB LB ++ lpH [] dC LC)) (l2 := hN0) (fun d dB dC => rfl) S2 nn
        unfold mb_choice_78
        refine PP.bind (ih.s (fu := fu) 5 (by decide) F6 _ h7.1) ?_
        rintro r F8 G8 (⟨rfl, LB8, LC8, q8⟩ | ⟨rfl, -, q8⟩)
        · dsimp only
          unfold mb_choice_82
          rw [if_neg (by decide)]
          have h8 := h7.app q8
          unfold mb_choice_87
          refine PP.ix (fun _ => ?_)
          have nn8 : sN F5 ∉ (LB8 ++ (LB ++ [])) ++ (LC8 ++ (LC ++ [])) := fun z => by
            rw [List.append_nil, List.append_nil] at z
            rcases List.mem_append.mp ((pm4 LB8 LB LC8 LC).mem_iff.mp z) with y | y
            · have := (q8.2.2.2.2.2.2.1.2.2.1 _ y).1
              omega
            · have := (q4.2.2.2.2.2.2.1.2.2.1 _ y).2
              omega
          have h9 := h8.patch (p := sN F5) (l1 := fun d dB dC => lpH [] dB LB8 ++ lpH [] dC LC8) (l2 := fun d dB dC => (lpH [] dB LB ++ lpH [] dC LC) ++ []) (fun d dB dC => rfl) (by omega) nn8
          unfold mb_choice_97
          refine fin _ _ _ F8 _ h9 (fun d dB dC => ?_)
          rw [List.append_nil, List.append_nil, List.append_nil, lpH_app, lpH_app]
          exact pm4 _ _ _ _
        · dsimp only
          unfold mb_choice_82 mb_choice_85
          rw [if_pos rfl]
          exact PP.ret (h7.apB q8)
      · dsimp only
        unfold mb_choice_29 mb_choice_32
        rw [if_pos rfl]
        exact PP.ret (h3.apB q4)
    · dsimp only
      unfold mb_choice_11 mb_choice_14
      rw [if_pos rfl]
      exact PP.ret (h1.apB q)
  · dsimp only
    unfold mb_choice_4 mb_choice_14
    rw [if_pos rfl]
    exact PP.ret (h0.flt u)
theorem gt_loop (hfu : 8589934592 ≤ fu) (ih : mGI L rc) (F : PF) (G : PG) (hg : GP F) : PP (mh_loop fu rc F G) (fun r F1 G1 => SQ0 L F G r F1 G1) := by
  have h0 : PQ L F G 0 F G [] 0 hN0 (fun d => [(sN F, [], d + 0)]) [] [] := PQ.lab (PQ.rf hg)
  unfold mh_loop mb_loop_0
  refine PP.bind (mp_opens F G) ?_
  rintro r F1 G1 (⟨rfl, rfl, rfl, u⟩ | ⟨rfl, u, -⟩)
  · dsimp only
    unfold mb_loop_9
    rw [if_neg (by decide)]
    have h1 := h0.op (v := F 42 + 1) u
    generalize fup (fup F 43 (F 43 + 1)) 42 (F 42 + 1) = F1 at h1
    unfold mb_loop_12
    refine PP.bind (mg_condition (L := L) F1 G h1.1) ?_
    rintro r F2 G2 (⟨rfl, q⟩ | ⟨rfl, q⟩)
    · dsimp only
      unfold mb_loop_16
      rw [if_neg (by decide)]
      have h2 : PQ L F G 1 F2 G2 [0] 0 hN0 (fun d => [(sN F, [], d + 0)]) [] [] := h1.app q
      unfold mb_loop_21
      refine PP.bind (h2.cnd 13 (by decide) (Or.inl rfl)) ?_
      rintro _ F3 G3 ⟨rfl, -, n3, -, h3⟩
      dsimp only
      unfold mb_loop_29
      have h51 : (F3 51).toInt < (F3 43).toInt := by
        have a := h3.2.2.2.2.1
        rw [h3.2.2.2.2.2.1]
        have := hg.2.2.2.2.2.2.2
        omega
      have hx0 : 0 ≤ (F 60).toInt := hg.1
      have hxn : ¬ F 60 = -1 := fun z => by rw [z] at hx0; exact absurd hx0 (by decide)
      refine PP.bind (ih.b (F 60) F3 G3 h3.1 h51) ?_
      intro r F4 G4 q4
      rcases q4.1.1 with rfl | rfl
      · dsimp only
        unfold mb_loop_35 mb_loop_38
        rw [if_pos rfl]
        exact PP.ret (h3.bodyB q4)
      · dsimp only
        unfold mb_loop_35
        rw [if_neg (by decide)]
        obtain ⟨KB, KC, c1, -, c3, c5, c6, h4⟩ := h3.body q4 1 0 0 (by decide) (by decide) (by decide) (fun _ => ⟨hx0, by decide, fun d => List.mem_singleton.mpr rfl⟩)
        have c3 := c3 hxn
        subst c3
        rw [List.append_nil] at c5 c6
        unfold mb_loop_40
        refine PP.bind (h4.goL (F 60) (q := sN F) (eq := 0) (fun d => List.mem_singleton.mpr rfl) hx0 rfl (by decide) (by decide) [] 0) ?_
        rintro _ F5 G5 ⟨rfl, K5, n5, b5, h5⟩
        dsimp only
        unfold mb_loop_53
        refine PP.ix (fun _ => ?_)
        have S2 : sN F ≤ sN F2 := h2.2.1
        have h6 := h5.patch (p := sN F2) (l1 := fun d dB dC => lpH [] (d + 0) KB ++ lpH [] (d + 0) []) (l2 := hN0) (fun d dB dC => rfl) S2 (fun z => nomatch z)
        have h7 : PQ L F G 1 F5 (gup G5 57 (sN F2) (F5 60)) [] 0 (fun d dB dC => lpH [] (d + 0) KB ++ hN0 d dB dC) (fun d => [(sN F, [], d + 0)]) [] [] := h6.pm (fun d dB dC => by
          show List.Perm (lpH [] (d + 0) KB ++ []) ((lpH [] (d + 0) KB ++ []) ++ [])
          rw [List.append_nil, List.append_nil])
        have cc : chn ((gup G5 57 (sN F2) (F5 60)) 57) KB (F4 65) (-1) := by
          refine chn.ext KB _ _ (fun p hp => ?_) c1
          have := (c6 p hp).1
          rw [gup_x (by omega)]
          exact (b5 p (c6 p hp).2.1).2.1
        unfold mb_loop_64
        refine PP.bind (mg_settle hfu (F4 65) (F5 60) F5 _ KB cc c5) ?_
        rintro _ F6 G6 ⟨rfl, rfl⟩
        dsimp only
        have h8 := h7.settle (fun p hp => ⟨by have := (c6 p hp).1; omega, fun z => nomatch z⟩)
        unfold mb_loop_73 mb_loop_83
        exact PP.ret ((PQ.dn (j := 0) h8 hg (by decide)).good hg (fun _ _ _ => List.Perm.refl _))
    · dsimp only
      unfold mb_loop_16 mb_loop_19
      rw [if_pos rfl]
      exact PP.ret (h1.apB q)
  · dsimp only
    unfold mb_loop_9 mb_loop_19
    rw [if_pos rfl]
    exact PP.ret (h0.flt u)
end GRP
