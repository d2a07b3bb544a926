section GRP2
variable {fu : Nat} {L : List Nat} {rc : RC}
theorem gt_turnLoop (hfu : 8589934592 ≤ fu) (ih : mGI L rc) (F : PF) (G : PG) (hg : GP F) : PP (mh_turnLoop fu rc F G) (fun r F1 G1 => SQ0 L F G r F1 G1) := by
  have h0 : PQ L F G 0 F G [] 0 hN0 (fun d => [(sN F, [], d + 0)]) [] [] := PQ.lab (PQ.rf hg)
  unfold mh_turnLoop mb_turnLoop_0
  refine PP.bind (mp_opens F G) ?_
  rintro r F1 G1 (⟨rfl, rfl, rfl, u⟩ | ⟨rfl, u, -⟩)
  · dsimp only
    unfold mb_turnLoop_9
    rw [if_neg (by decide)]
    have h1 := h0.op (v := F 42 + 1) u
    generalize fup (fup F 43 (F 43 + 1)) 42 (F 42 + 1) = F1 at h1
    unfold mb_turnLoop_12
    have h51 : (F1 51).toInt < (F1 43).toInt := by
      have a := h1.2.2.2.2.1
      rw [h1.2.2.2.2.2.1]
      have := hg.2.2.2.2.2.2.2
      omega
    refine PP.bind (ih.b (-1) F1 G h1.1 h51) ?_
    intro r F4 G4 q4
    rcases q4.1.1 with rfl | rfl
    · dsimp only
      unfold mb_turnLoop_17 mb_turnLoop_20
      rw [if_pos rfl]
      exact PP.ret (h1.bodyB q4)
    · dsimp only
      unfold mb_turnLoop_17
      rw [if_neg (by decide)]
      have S1 : sN F ≤ sN F1 := h1.2.1
      obtain ⟨KB, KC, c1, c2, -, c5, c6, h4⟩ := h1.body q4 1 0 1 (by decide) (by decide) (by decide) (fun z => absurd rfl z)
      have c2 := c2 rfl
      obtain ⟨nB, nC, nX⟩ := List.nodup_append.mp c5
      have h5 : PQ L F G 1 F4 G4 [] 1 (fun d dB dC => lpH [] (d + 1) KC ++ (lpH [] (d + 0) KB ++ [])) (fun d => [(sN F, [], d + 0)]) [] [] := h4.pm (fun d dB dC => by
        show List.Perm (lpH [] (d + 1) KC ++ (lpH [] (d + 0) KB ++ [])) ((lpH [] (d + 0) KB ++ lpH [] (d + 1) KC) ++ [])
        rw [List.append_nil, List.append_nil]
        exact List.perm_append_comm)
      unfold mb_turnLoop_22
      refine PP.bind (mg_settle hfu (F4 66) (F4 60) F4 G4 KC c2 nC) ?_
      rintro _ F5 G5 ⟨rfl, rfl⟩
      dsimp only
      have h6 := h5.settle (fun p hp => ⟨by have := (c6 p (List.mem_append_right _ hp)).1; omega, fun z => nomatch z⟩)
      have cB : chn ((pall G4 (F4 60) KC) 57) KB (F4 65) (-1) := chn.ext KB _ _ (fun p hp => pall_x KC G4 (fun z => nX p hp p z rfl)) c1
      generalize pall G4 (F4 60) KC = G5 at h6 cB
      unfold mb_turnLoop_41
      refine PP.bind (mp_word 6 1 F4 G5 h6.1.2.1) ?_
      rintro r F6 G6 (⟨rfl, rfl, rfl, -⟩ | ⟨rfl, -, (⟨q, -⟩ | ⟨-, u⟩)⟩)
      · dsimp only
        unfold mb_turnLoop_48
        rw [if_neg (by decide)]
        have h7 := PQ.f (k := 42) (v := F4 42 + 1) h6
        have s7 : sN (fup F4 42 (F4 42 + 1)) = sN F4 := rfl
        generalize fup F4 42 (F4 42 + 1) = F7 at h7 s7
        unfold mb_turnLoop_51
        refine PP.bind (mg_condition (L := L) F7 G5 h7.1) ?_
        rintro r F8 G8 (⟨rfl, q8⟩ | ⟨rfl, q8⟩)
        · dsimp only
          unfold mb_turnLoop_55
          rw [if_neg (by decide)]
          have b8 : CB F7 G5 G8 := q8.2.2.1
          have s8 : sN F7 ≤ sN F8 := q8.2.1
          have h8 : PQ L F G 1 F8 G8 [0] 1 (fun d dB dC => lpH [] (d + 0) KB ++ []) (fun d => [(sN F, [], d + 0)]) [] [] := h7.app q8
          unfold mb_turnLoop_60
          refine PP.bind (h8.ifL (F 60) (q := sN F) (eq := 0) (fun d => List.mem_singleton.mpr rfl) hg.1 rfl (by decide) (by decide) 0 (by decide)) ?_
          rintro _ F9 G9 ⟨rfl, K9, n9, b9, h9⟩
          dsimp only
          have cc : chn (G9 57) KB (F4 65) (-1) := by
            refine chn.ext KB _ _ (fun p hp => ?_) cB
            have := (c6 p (List.mem_append_left _ hp)).2.1
            exact (b9 p (by omega)).2.1.trans (b8 p (by omega)).2.1
          unfold mb_turnLoop_68
          refine PP.bind (mg_settle hfu (F4 65) (F9 60) F9 G9 KB cc nB) ?_
          rintro _ F10 G10 ⟨rfl, rfl⟩
          dsimp only
          have h10 := PQ.settle (hs := hN0) h9 (fun p hp => ⟨by have := (c6 p (List.mem_append_left _ hp)).1; omega, fun z => nomatch z⟩)
          unfold mb_turnLoop_78
          have h11 := PQ.dn (j := 0) h10 hg (by decide)
          unfold mb_turnLoop_88
          refine PP.bind (mp_sign 29 _ _) ?_
          rintro r F12 G12 (⟨rfl, rfl, rfl, -, -⟩ | ⟨rfl, u, -⟩)
          · dsimp only
            unfold mb_turnLoop_94
            exact PP.bz (fun _ => PP.ret ((PQ.f (k := 42) h11).good hg (fun _ _ _ => List.Perm.refl _)))
          · dsimp only
            unfold mb_turnLoop_94
            exact PP.bz (fun _ => PP.ret (h11.flt u))
        · dsimp only
          unfold mb_turnLoop_55 mb_turnLoop_58
          rw [if_pos rfl]
          exact PP.ret (h7.apB q8)
      · exact absurd q (by decide)
      · dsimp only
        unfold mb_turnLoop_48 mb_turnLoop_58
        rw [if_pos rfl]
        exact PP.ret (h6.flt u)
  · dsimp only
    unfold mb_turnLoop_9 mb_turnLoop_20
    rw [if_pos rfl]
    exact PP.ret (h0.flt u)
/-- the end of a counted loop: its body and what comes behind -/
theorem ct_164 (hfu : 8589934592 ≤ fu) (ih : mGI L rc) {F0 : PF} {G0 : PG} (hg : GP F0) (x1 x2 x3 x4 x5 : Int32) (P : Nat) (F : PF) (G : PG) {ls : Nat → HLs} {h3 : Nat → HLs} (h : PQ L F0 G0 1 F G [] 1 (fun d _ _ => (P, [], d + 0) :: h3 d) ls [] []) (e4 : x4.toNatClampNeg = P) (hP : sN F0 ≤ P ∧ P < sN F) (e2 : 0 ≤ x2.toInt) (l2 : ∀ d, (x2.toInt.toNat, [], d + 0) ∈ ls d) (e5 : 0 ≤ x5.toInt) (l5 : ∀ d, (x5.toInt.toNat, [], d + 1) ∈ ls d) (e3 : (x3 = -1 ∧ ∀ d, h3 d = []) ∨ (¬ x3 = -1 ∧ (∀ d, h3 d = [(x3.toNatClampNeg, [], d + 0)]) ∧ sN F0 ≤ x3.toNatClampNeg ∧ x3.toNatClampNeg < P)) : PP (mb_counted_164 fu rc x1 x2 x3 x4 x5 F G) (fun r F1 G1 => SQ0 L F0 G0 r F1 G1) := by
  unfold mb_counted_164
  refine PP.bind (h.goL x2 (q := x2.toInt.toNat) (eq := 0) l2 e2 rfl (by decide) (by decide) [] 0) ?_
  rintro _ F1 G1 ⟨rfl, K1, n1, b1, h1⟩
  dsimp only
  unfold mb_counted_172
  refine PP.ix (fun _ => ?_)
  rw [e4]
  have h2 := h1.patch (p := P) (l1 := hN0) (l2 := fun d _ _ => h3 d) (fun d dB dC => rfl) hP.1 (fun z => nomatch z)
  have h2 : PQ L F0 G0 1 F1 (gup G1 57 P (F1 60)) [] 0 (fun d _ _ => h3 d) ls [] [] := h2
  generalize gup G1 57 P (F1 60) = G2 at h2
  unfold mb_counted_184
  have h51 : (F1 51).toInt < (F1 43).toInt := by
    have a := h2.2.2.2.2.1
    rw [h2.2.2.2.2.2.1]
    have := hg.2.2.2.2.2.2.2
    omega
  have hxn : ¬ x5 = -1 := fun z => by rw [z] at e5; exact absurd e5 (by decide)
  refine PP.bind (ih.b x5 F1 G2 h2.1 h51) ?_
  intro r F4 G4 q4
  rcases q4.1.1 with rfl | rfl
  · dsimp only
    unfold mb_counted_190 mb_counted_193
    rw [if_pos rfl]
    exact PP.ret (h2.bodyB q4)
  · dsimp only
    unfold mb_counted_190
    rw [if_neg (by decide)]
    obtain ⟨KB, KC, c1, -, c3, c5, c6, h4⟩ := h2.body q4 2 0 1 (by decide) (by decide) (by decide) (fun _ => ⟨e5, by decide, l5⟩)
    have c3 := c3 hxn
    subst c3
    rw [List.append_nil] at c5 c6
    unfold mb_counted_195
    refine PP.bind (h4.goL x5 (q := x5.toInt.toNat) (eq := 1) l5 e5 rfl (by decide) (by decide) [] 0) ?_
    rintro _ F5 G5 ⟨rfl, K5, n5, b5, h5⟩
    dsimp only
    have fin : ∀ (G6 : PG), PQ L F0 G0 1 F5 G6 [] 0 (fun d dB dC => lpH [] (d + 0) KB ++ hN0 d dB dC) ls [] [] → (∀ p, p ∈ KB → G6 57 p = G5 57 p) → PP (mb_counted_226 fu rc x1 (F4 65) F5 G6) (fun r F1 G1 => SQ0 L F0 G0 r F1 G1) := by
      intro G6 h6 e6
      have cc : chn (G6 57) KB (F4 65) (-1) := chn.ext KB _ _ (fun p hp => (e6 p hp).trans (b5 p (c6 p hp).2.1).2.1) c1
      unfold mb_counted_226
      refine PP.bind (mg_settle hfu (F4 65) (F5 60) F5 G6 KB cc c5) ?_
      rintro _ F7 G7 ⟨rfl, rfl⟩
      dsimp only
      have S1 : sN F0 ≤ sN F1 := h2.2.1
      have h7 := h6.settle (fun p hp => ⟨by have := (c6 p hp).1; omega, fun z => nomatch z⟩)
      unfold mb_counted_236
      refine PP.bind (h7.ends x1) ?_
      rintro r F8 G8 ⟨-, h8⟩
      dsimp only
      unfold mb_counted_241 mb_counted_251
      exact PP.ret ((PQ.dn (j := 0) h8 hg (by decide)).good hg (fun _ _ _ => List.Perm.refl _))
    unfold mb_counted_210
    rcases e3 with ⟨q1, q2⟩ | ⟨q1, q2, q3, q4⟩
    · rw [if_pos q1]
      refine fin G5 (h5.pm (fun d dB dC => ?_)) (fun _ _ => rfl)
      show List.Perm (lpH [] (d + 0) KB ++ []) ((lpH [] (d + 0) KB ++ lpH [] (d + 1) []) ++ h3 d)
      rw [q2]
      exact List.Perm.of_eq (by rw [List.append_nil, List.append_nil]; exact (List.append_nil _).symm)
    · rw [if_neg q1]
      unfold mb_counted_216
      refine PP.ix (fun _ => ?_)
      have h6 := h5.patch (p := x3.toNatClampNeg) (l1 := fun d _ _ => lpH [] (d + 0) KB ++ lpH [] (d + 1) []) (l2 := hN0) (fun d dB dC => by rw [q2]) q3 (fun z => nomatch z)
      refine fin _ (h6.pm (fun d dB dC => ?_)) (fun p hp => gup_x (fun z => ?_))
      · show List.Perm (lpH [] (d + 0) KB ++ []) ((lpH [] (d + 0) KB ++ lpH [] (d + 1) []) ++ [])
        exact List.Perm.of_eq (by rw [List.append_nil, List.append_nil]; exact (List.append_nil _).symm)
      · have := (c6 p hp).1
        omega
theorem ct_108 (hfu : 8589934592 ≤ fu) (ih : mGI L rc) {F0 : PF} {G0 : PG} (hg : GP F0) (x1 x2 x3 : Int32) (F : PF) (G : PG) {ls : Nat → HLs} {h3 : Nat → HLs} (h : PQ L F0 G0 2 F G [] 0 (fun d _ _ => h3 d) ls [] []) (e2 : 0 ≤ x2.toInt) (l2 : ∀ d, (x2.toInt.toNat, [], d + 0) ∈ ls d) (e3 : (x3 = -1 ∧ ∀ d, h3 d = []) ∨ (¬ x3 = -1 ∧ (∀ d, h3 d = [(x3.toNatClampNeg, [], d + 0)]) ∧ sN F0 ≤ x3.toNatClampNeg ∧ x3.toNatClampNeg < sN F)) : PP (mb_counted_108 fu rc x1 x2 x3 F G) (fun r F1 G1 => SQ0 L F0 G0 r F1 G1) := by
  unfold mb_counted_108
  refine PP.bind (mp_sign 29 F G) ?_
  rintro r F1 G1 (⟨rfl, rfl, rfl, -, -⟩ | ⟨rfl, u, -⟩)
  · dsimp only
    unfold mb_counted_114
    rw [if_neg (by decide)]
    have h1 := PQ.f (k := 42) (v := F 42 + 1) h
    have s1 : sN (fup F 42 (F 42 + 1)) = sN F := rfl
    generalize fup F 42 (F 42 + 1) = F1 at h1 s1
    unfold mb_counted_119
    refine PP.bind (h1.go (by decide) [] 1 (by decide)) ?_
    rintro _ F2 G2 ⟨rfl, -, n2, -, h2⟩
    dsimp only
    have h2 := h2.lab
    have S0 : sN F0 ≤ sN F1 := h1.2.1
    have h60 : 0 ≤ (F2 60).toInt := h2.1.1
    have e3' : (x3 = -1 ∧ ∀ d, h3 d = []) ∨ (¬ x3 = -1 ∧ (∀ d, h3 d = [(x3.toNatClampNeg, [], d + 0)]) ∧ sN F0 ≤ x3.toNatClampNeg ∧ x3.toNatClampNeg < sN F1) := by
      rw [s1]
      exact e3
    have cls : ∀ (F3 : PF) (G3 : PG), sN F2 ≤ sN F3 → PQ L F0 G0 2 F3 G3 [] 1 (fun d _ _ => (sN F1, [], d + 0) :: h3 d) (fun d => (sN F2, [], d + 1) :: ls d) [] [] → PP (mb_counted_153 fu rc x1 x2 x3 (F1 60) (F2 60) F3 G3) (fun r F1 G1 => SQ0 L F0 G0 r F1 G1) := by
      intro F3 G3 S3 q3
      unfold mb_counted_153
      refine PP.bind (mp_closeSign 23 F3 G3) ?_
      rintro r F4 G4 (⟨rfl, rfl, rfl, -, -⟩ | ⟨rfl, u, -⟩)
      · dsimp only
        unfold mb_counted_159
        rw [if_neg (by decide)]
        have q4 := PQ.cl (j := 1) (v := F3 42 + 1) q3 hg (by decide)
        have s4 : sN (fup (fup F3 42 (F3 42 + 1)) 43 (F3 43 - 1)) = sN F3 := rfl
        generalize fup (fup F3 42 (F3 42 + 1)) 43 (F3 43 - 1) = F4 at q4 s4
        exact ct_164 hfu ih hg x1 x2 x3 (F1 60) (F2 60) (sN F1) F4 G3 q4 rfl ⟨S0, by omega⟩ e2 (fun d => List.mem_cons_of_mem _ (l2 d)) h60 (fun d => List.mem_cons_self ..) e3'
      · dsimp only
        unfold mb_counted_159 mb_counted_162
        rw [if_pos rfl]
        exact PP.ret (q3.flt u)
    unfold mb_counted_127
    refine PP.bind (mp_isSign 23 F2 G2) ?_
    rintro z0 _ _ ⟨rfl, rfl, -⟩
    dsimp only
    unfold mb_counted_141
    refine PP.ite (fun _ => ?_) (fun _ => cls F2 G2 (Nat.le_refl _) h2)
    unfold mb_counted_144
    refine PP.bind (mg_simple (L := L) F2 G2 h2.1) ?_
    rintro r F3 G3 (⟨rfl, q⟩ | ⟨rfl, q⟩)
    · dsimp only
      unfold mb_counted_148
      rw [if_neg (by decide)]
      exact cls F3 G3 q.2.1 (h2.app q)
    · dsimp only
      unfold mb_counted_148 mb_counted_151
      rw [if_pos rfl]
      exact PP.ret (h2.apB q)
  · dsimp only
    unfold mb_counted_114 mb_counted_117
    rw [if_pos rfl]
    exact PP.ret (h.flt u)
theorem ct_63 (hfu : 8589934592 ≤ fu) (ih : mGI L rc) {F0 : PF} {G0 : PG} (hg : GP F0) (x1 : Int32) (F : PF) (G : PG) (h : PQ L F0 G0 2 F G [] 0 hN0 lN0 [] []) : PP (mb_counted_63 fu rc x1 F G) (fun r F1 G1 => SQ0 L F0 G0 r F1 G1) := by
  unfold mb_counted_63
  refine PP.bind (mp_sign 29 F G) ?_
  rintro r F1 G1 (⟨rfl, rfl, rfl, -, -⟩ | ⟨rfl, u, -⟩)
  · dsimp only
    unfold mb_counted_69
    rw [if_neg (by decide)]
    have h1 := (PQ.f (k := 42) (v := F 42 + 1) h).lab
    generalize fup F 42 (F 42 + 1) = F1 at h1
    have h60 : 0 ≤ (F1 60).toInt := h1.1.1
    unfold mb_counted_74
    refine PP.bind (mp_isSign 29 F1 G) ?_
    rintro z0 _ _ ⟨rfl, rfl, -⟩
    dsimp only
    unfold mb_counted_87
    refine PP.ite (fun _ => ?_) (fun _ => ?_)
    · unfold mb_counted_90
      refine PP.bind (h1.expr (by decide)) ?_
      rintro r F2 G2 ⟨-, (⟨rfl, q⟩ | ⟨rfl, q⟩)⟩
      · dsimp only
        unfold mb_counted_94
        rw [if_neg (by decide)]
        unfold mb_counted_99
        refine PP.bind (q.cnd 13 (by decide) (Or.inl rfl)) ?_
        rintro _ F3 G3 ⟨rfl, -, n3, -, h3⟩
        dsimp only
        unfold mb_counted_107
        have i60 := q.1.1
        have S2 : sN F0 ≤ sN F2 := q.2.1
        refine ct_108 hfu ih hg x1 (F1 60) (F2 60) F3 G3 (h3 := fun d => [(sN F2, [], d + 0)]) h3 h60 (fun d => List.mem_cons_self ..) (Or.inr ⟨fun z => ?_, fun d => rfl, S2, by show sN F2 < sN F3; omega⟩)
        rw [z] at i60
        exact absurd i60 (by decide)
      · dsimp only
        unfold mb_counted_94 mb_counted_97
        rw [if_pos rfl]
        exact PP.ret q
    · exact ct_108 hfu ih hg x1 (F1 60) (-1) F1 G (h3 := fun _ => []) h1 h60 (fun d => List.mem_cons_self ..) (Or.inl ⟨rfl, fun _ => rfl⟩)
  · dsimp only
    unfold mb_counted_69 mb_counted_72
    rw [if_pos rfl]
    exact PP.ret (h.flt u)
theorem gt_counted (hfu : 8589934592 ≤ fu) (ih : mGI L rc) (F : PF) (G : PG) (hg : GP F) : PP (mh_counted fu rc F G) (fun r F1 G1 => SQ0 L F G r F1 G1) := by
  have h0 : PQ L F G 0 F G [] 0 hN0 lN0 [] [] := PQ.rf hg
  unfold mh_counted mb_counted_0
  refine PP.bind (mp_opens F G) ?_
  rintro r F1 G1 (⟨rfl, rfl, rfl, u⟩ | ⟨rfl, u, -⟩)
  · dsimp only
    unfold mb_counted_4
    rw [if_neg (by decide)]
    have h1 := h0.op (v := F 42 + 1) u
    generalize fup (fup F 43 (F 43 + 1)) 42 (F 42 + 1) = F1 at h1
    unfold mb_counted_7
    refine PP.bind (mp_openSign 22 F1 G) ?_
    rintro r F2 G2 (⟨rfl, rfl, rfl, -, u, -⟩ | ⟨rfl, u, -⟩)
    · dsimp only
      unfold mb_counted_13
      rw [if_neg (by decide)]
      have h2 := h1.op (v := F1 42 + 1) u
      generalize fup (fup F1 43 (F1 43 + 1)) 42 (F1 42 + 1) = F2 at h2
      unfold mb_counted_18
      refine PP.bind h2.begins ?_
      rintro r F3 G3 ⟨-, h3⟩
      dsimp only
      have h3 : PQ L F G 2 F3 G3 [] 0 hN0 lN0 [] [] := h3
      have gone : ∀ (r : Int32) (F4 : PF) (G4 : PG), XQ L [] F3 G3 r F4 G4 → PP (mb_counted_56 fu rc (F2 15) r F4 G4) (fun r F1 G1 => SQ0 L F G r F1 G1) := by
        rintro r F4 G4 (⟨rfl, q⟩ | ⟨rfl, q⟩)
        · unfold mb_counted_56
          rw [if_neg (by decide)]
          exact ct_63 hfu ih hg (F2 15) F4 G4 (h3.app q)
        · unfold mb_counted_56 mb_counted_61
          rw [if_pos rfl]
          exact PP.ret (h3.apB q)
      unfold mb_counted_27
      refine PP.bind (mp_isSign 29 F3 G3) ?_
      rintro z0 _ _ ⟨rfl, rfl, -⟩
      dsimp only
      unfold mb_counted_33
      refine PP.ite (fun _ => ?_) (fun _ => ct_63 hfu ih hg (F2 15) F3 G3 h3)
      unfold mb_counted_36
      refine PP.bind (mp_isWord 0 F3 G3) ?_
      rintro z0 _ _ ⟨rfl, rfl, -⟩
      dsimp only
      unfold mb_counted_41
      refine PP.ite (fun _ => ?_) (fun _ => ?_)
      · unfold mb_counted_52
        exact PP.bind (mg_simple (L := L) F3 G3 h3.1) (fun r F4 G4 q => gone r F4 G4 q)
      · unfold mb_counted_44
        refine PP.bind (mg_tellHere (L := L) 0 F3 G3 h3.1) (fun r F4 G4 q => ?_)
        dsimp only
        unfold mb_counted_49
        exact gone r F4 G4 q
    · dsimp only
      unfold mb_counted_13 mb_counted_16
      rw [if_pos rfl]
      exact PP.ret (h1.flt u)
  · dsimp only
    unfold mb_counted_4 mb_counted_16
    rw [if_pos rfl]
    exact PP.ret (h0.flt u)
/-- the body of a loop, but for what readers and frames say -/
def BQ0 (L : List Nat) (x : Int32) (F : PF) (G : PG) (r : Int32) (F1 : PF) (G1 : PG) : Prop := GS0 F G r F1 G1 ∧ F1 63 = F 63 ∧ F1 64 = F 64 ∧ ∃ KB KC, chn (G1 57) KB (F1 65) (-1) ∧ (x = -1 → chn (G1 57) KC (F1 66) (-1)) ∧ (¬ x = -1 → KC = []) ∧ (∀ p ∈ KB ++ KC, sN F ≤ p ∧ p < sN F1) ∧ (KB ++ KC).Nodup ∧ (r = 1 → ST L F G → F1 47 = 0 → ST L F1 G1 ∧ XL (XS L F G) (XS L F1 G1) ∧ ∀ (A : AN) (d d1 dB dC : Nat), d ≤ d1 → dB ≤ d1 → dC ≤ d1 → A (sN F) = ([], d, false) → (¬ x = -1 → 0 ≤ x.toInt ∧ x.toInt.toNat ≤ sN F ∧ A x.toInt.toNat = ([], dC, false) ∧ dC < d1) → EX (XS L F1 G1) F G A F1 G1 [] d1 (lpH [] dB KB ++ lpH [] dC KC))
theorem gt_body (hfu : 8589934592 ≤ fu) (ih : mGI L rc) (x : Int32) (F : PF) (G : PG) (hg : GP F) (h51 : (F 51).toInt < (F 43).toInt) : PP (mh_body fu rc x F G) (fun r F1 G1 => BQ0 L x F G r F1 G1) := by
  obtain ⟨g1, g2, g3, g4, g5, g6, g7, g8⟩ := id hg
  have e51 : (F 51 + 1).toInt = (F 51).toInt + 1 := i_addn _ rfl (by omega) (by omega)
  unfold mh_body mb_body_0 mb_body_15 mb_body_20 mb_body_30
  have Kb : KX [51, 63, 64] [] F G (fup (fup (fup F 63 (-1)) 64 (-1)) 51 (F 51 + 1)) G := KX.f rfl (KX.f rfl (KX.f rfl KX.rf))
  have gb : GP (fup (fup (fup F 63 (-1)) 64 (-1)) 51 (F 51 + 1)) := ⟨g1, g2, g3, g4, g5, g6, by show 0 ≤ (F 51 + 1).toInt; omega, by show (F 51 + 1).toInt ≤ (F 43).toInt; omega⟩
  have b63 : (fup (fup (fup F 63 (-1)) 64 (-1)) 51 (F 51 + 1)) 63 = -1 := rfl
  have b64 : (fup (fup (fup F 63 (-1)) 64 (-1)) 51 (F 51 + 1)) 64 = -1 := rfl
  have b51 : (fup (fup (fup F 63 (-1)) 64 (-1)) 51 (F 51 + 1)) 51 = F 51 + 1 := rfl
  show PP ((mf_step fu 15 0 0 (fup (fup (fup F 63 (-1)) 64 (-1)) 51 (F 51 + 1)) G).bind (fun q => mb_body_38 fu rc x (F 63) (F 64) q.1 q.2.1 q.2.2)) _
  generalize fup (fup (fup F 63 (-1)) 64 (-1)) 51 (F 51 + 1) = Fb at Kb gb b63 b64 b51
  refine PP.bind (mq_step 15 0 0 Fb G) ?_
  rintro _ Fc Gc ⟨K, rfl, e60, eg, hn⟩
  dsimp only
  have gc : GP Fc := by
    obtain ⟨c1, c2, c3, c4, c5, c6, c7, c8⟩ := gb
    unfold GP
    rw [K.1 44 rfl, K.1 70 rfl, K.1 54 rfl, K.1 43 rfl, K.1 51 rfl]
    exact ⟨inc60 hn e60, c2, c3, c4, c5, c6, c7, c8⟩
  have nb : sN Fb = sN F := by show (Fb 60).toNatClampNeg = (F 60).toNatClampNeg; rw [Kb.1 60 rfl]
  have nc : sN Fc = sN F + 1 := by
    have : sN Fc = sN Fb + 1 := by show (Fc 60).toNatClampNeg = _; rw [e60]; exact nI_inc hn
    omega
  have Cc : CB F G Gc := CB.stp (F := Fb) (fun _ _ => cEq.rf) (by omega) eg
  have Kc : KX [51, 60, 63, 64] [56, 57, 58] F G Fc Gc := KX.tr (KX.tr KX.rf Kb rfl rfl) K rfl rfl
  unfold mb_body_38
  refine PP.bind (PP.and (PP.and (ih 5 0 0 Fc Gc gc (fun q => absurd q (by decide))) (fun _ _ _ _ => trivial : PP _ (fun _ _ _ => True))) (fun _ _ _ _ => trivial : PP _ (fun _ _ _ => True))) ?_
  rintro r Fd Gd ⟨⟨q, -⟩, -⟩
  dsimp only
  rw [if_neg (by decide)] at q
  obtain ⟨⟨q1, q2, q3, q4, q5, q6, q7⟩, LB, LC, ⟨k1, k2, k3, k4, k5⟩, t⟩ := q
  rw [K.1 63 rfl, b63] at k1
  rw [K.1 64 rfl, b64] at k2
  obtain ⟨nB, nC, nX⟩ := List.nodup_append.mp k4
  have Cd : CB F G Gd := CB.tr Cc (by omega) q4
  have f51 : r = 1 → Fd 51 - 1 = F 51 := fun z => by
    rw [(q7 z).2.2.2.1, K.1 51 rfl, b51]
    exact i_as _
  have typ : ∀ (F1 : PF) (G1 : PG), r = 1 → KX [51, 63, 64, 65, 66] [57] Fd Gd F1 G1 → ST L F G → F1 47 = 0 → ST L F1 G1 ∧ XL (XS L F G) (XS L F1 G1) ∧ XS L F1 G1 = XS L Fd Gd ∧ ∀ (A : AN) (d d1 dB dC : Nat), d ≤ d1 → dB ≤ d1 → dC ≤ d1 → A (sN F) = ([], d, false) → EX (XS L Fd Gd) F G A Fc Gc [] d1 [] ∧ ∀ A1 : AN, A1 (sN Fc) = ([], d1, false) → EX (XS L Fd Gd) Fc Gc A1 Fd Gd [] d1 (lpH [] dB LB ++ lpH [] dC LC) := by
    intro F1 G1 r1 K1 hS z
    have zd : Fd 47 = 0 := (K1.1 47 rfl).symm.trans z
    have hSc : ST L Fc Gc := by
      have hM : M7 F Fc := M7.kx Kc rfl
      exact hS.kx Kc hM rfl rfl rfl
    obtain ⟨t1, t2, t3⟩ := t r1 hSc zd
    have hXc := XS.kx (L := L) Kc rfl
    have hX1 := XS.kx (L := L) K1 rfl
    refine ⟨t1.kx K1 (M7.kx K1 rfl) rfl rfl rfl, ?_, hX1, fun A d d1 dB dC l1 l2 l3 hA => ⟨?_, fun A1 hA1 => EY.ex (t3 A1 d1 dB dC l2 l3 hA1)⟩⟩
    · rw [hX1, ← hXc]
      exact t2
    · have E0 : EX (XS L F G) F G A Fb G [] d [] := EX.st (EX.rf hA) (Kb.1 60 rfl) (fun _ _ _ => rfl)
      refine EX.mono (by rw [hXc] at t2; exact t2) (EX.turn E0 hS.m hn e60 eg (by decide) d1 l1)
  unfold mb_body_43 mb_body_55
  refine PP.ite (fun c => ?_) (fun c => ?_)
  · unfold mb_body_77 mb_body_85 mb_body_90 mb_body_98 mb_body_103
    refine PP.bz (fun _ => PP.ret ?_)
    have K1 : KX [51, 63, 64, 65, 66] [57] Fd Gd (fup (fup (fup (fup (fup Fd 51 (Fd 51 - 1)) 66 (Fd 64)) 64 (F 64)) 65 (Fd 63)) 63 (F 63)) Gd := KX.f rfl (KX.f rfl (KX.f rfl (KX.f rfl (KX.f rfl KX.rf))))
    refine ⟨⟨q1, q2, by show sN F ≤ sN Fd; omega, Cd, fun z => ⟨?_, f51 z, ?_⟩⟩, rfl, rfl, LB, LC, k1, fun _ => k2, fun z => absurd c z, fun p hp => ⟨by have := (k3 p hp).1; omega, (k3 p hp).2⟩, k4, fun r1 hS z => ?_⟩
    · show Fd 70 = F 70
      rw [(q7 z).2.2.1, K.1 70 rfl, Kb.1 70 rfl]
    · show Fd 54 = F 54
      rw [(q7 z).2.2.2.2, K.1 54 rfl, Kb.1 54 rfl]
    · obtain ⟨t1, t2, t3, t4⟩ := typ _ _ r1 K1 hS z
      refine ⟨t1, t2, fun A d d1 dB dC l1 l2 l3 hA _ => ?_⟩
      obtain ⟨u1, u2⟩ := t4 A d d1 dB dC l1 l2 l3 hA
      have E := EX.tr u1 u2
      rw [List.append_nil] at E
      exact EX.mono (XL.of t3) (EX.st E rfl (fun _ _ _ => rfl))
  · unfold mb_body_60
    refine PP.bind (mg_settle hfu (Fd 64) x (fup Fd 51 (Fd 51 - 1)) Gd LC k2 nC) ?_
    rintro _ Fe Ge ⟨rfl, rfl⟩
    dsimp only
    unfold mb_body_69 mb_body_74 mb_body_90 mb_body_98 mb_body_103
    refine PP.bz (fun _ => PP.ret ?_)
    have K1 : KX [51, 63, 64, 65, 66] [57] Fd Gd (fup (fup (fup (fup Fd 51 (Fd 51 - 1)) 64 (F 64)) 65 (Fd 63)) 63 (F 63)) (pall Gd x LC) := KX.f rfl (KX.f rfl (KX.f rfl (KX.tr (KX.f (a := [51, 63, 64, 65, 66]) (b := [57]) rfl KX.rf) (pall_kx LC Gd) rfl rfl)))
    have hB : chn ((pall Gd x LC) 57) LB (Fd 63) (-1) := chn.ext LB _ _ (fun p hp => pall_x LC Gd (fun z => nX p hp p z rfl)) k1
    refine ⟨⟨q1, q2, by show sN F ≤ sN Fd; omega, CB.pall LC Gd Cd (fun p hp => by have := (k3 p (List.mem_append_right _ hp)).1; omega), fun z => ⟨?_, f51 z, ?_⟩⟩, rfl, rfl, LB, [], hB, fun z => absurd z c, fun _ => rfl, fun p hp => ?_, ?_, fun r1 hS z => ?_⟩
    · show Fd 70 = F 70
      rw [(q7 z).2.2.1, K.1 70 rfl, Kb.1 70 rfl]
    · show Fd 54 = F 54
      rw [(q7 z).2.2.2.2, K.1 54 rfl, Kb.1 54 rfl]
    · rw [List.append_nil] at hp
      have := k3 p (List.mem_append_left _ hp)
      exact ⟨by omega, this.2⟩
    · rw [List.append_nil]
      exact nB
    · obtain ⟨t1, t2, t3, t4⟩ := typ _ _ r1 K1 hS z
      refine ⟨t1, t2, fun A d d1 dB dC l1 l2 l3 hA hx => ?_⟩
      obtain ⟨x1, x2, x3, x4⟩ := hx c
      obtain ⟨u1, u2⟩ := t4 A d d1 dB dC l1 l2 l3 hA
      have Y : EY (XS L Fd Gd) F G A Fc Gc [] d1 [] [(x.toInt.toNat, [], dC)] := EY.labq (EX.ey u1) x2 x3
      have Y2 := EY.tr Y (F1 := Fd) (G1 := pall Gd x LC) (s1 := []) (d1 := d1) (hs1 := lpH [] dB LB) (fun A1 a1 a2 => by
        have w : A1 x.toInt.toNat = ([], dC, false) := (a2 _ (List.mem_singleton.mpr rfl)).2
        have hm : (XS L Fd Gd).1 = false := (congrArg Prod.fst t3).symm.trans t1.m
        have P := EX.patchesB (X := XS L Fd Gd) (F0 := Fc) (G0 := Gc) (A0 := A1) (F := Fd) (q := x.toInt.toNat) (sq := []) (dq := dC) (hs := []) (s := []) (d := d1) x1 rfl (by omega) w (by rw [a1]; exact x4) hm LC Gd (lpH [] dB LB) (by rw [List.append_nil]; exact u2 A1 a1)
        rw [List.append_nil] at P
        exact P)
      exact EX.mono (XL.of t3) (EX.st (EY.ex Y2) rfl (fun _ _ _ => rfl))
theorem gt_statement (ih : mGI L rc) (F : PF) (G : PG) (hg : GP F) : PP (mh_statement fu rc F G) (fun r F1 G1 => SQ0 L F G r F1 G1) := by
  have h0 : PQ L F G 0 F G [] 0 hN0 lN0 [] [] := PQ.rf hg
  have semi : ∀ (F1 : PF) (G1 : PG), PQ L F G 0 F1 G1 [] 0 hN0 lN0 [] [] → PP (mf_sign fu 29 F1 G1) (fun r F2 G2 => (r = 0 ∨ r = 1) ∧ SQ0 L F G r F2 G2) := by
    intro F1 G1 q
    refine PP.mono (mp_sign 29 F1 G1) ?_
    rintro r F2 G2 (⟨rfl, rfl, rfl, -, -⟩ | ⟨rfl, u, -⟩)
    · exact ⟨Or.inr rfl, (PQ.f (k := 42) q).good hg (fun _ _ _ => List.Perm.refl _)⟩
    · exact ⟨Or.inl rfl, q.flt u⟩
  have sub : ∀ i, i ≠ 1 → PP (rc i 0 0 F G) (fun r F1 G1 => SQ0 L F G r F1 G1) := by
    intro i hi
    refine PP.mono (ih.s (fu := fu) i hi F G hg) ?_
    rintro r F1 G1 (⟨rfl, LB, LC, q⟩ | ⟨rfl, -, q⟩)
    · exact q.good hg (fun _ _ _ => List.Perm.refl _)
    · exact q
  have bad : PP (mf_fails fu 2 F G) (fun r F1 G1 => SQ0 L F G r F1 G1) := by
    refine PP.mono (mp_fails 2 (by decide) F G) ?_
    rintro r F1 G1 ⟨rfl, u⟩
    exact h0.flt u
  have tell : PP (mb_statement_184 fu rc F G) (fun r F1 G1 => SQ0 L F G r F1 G1) := by
    unfold mb_statement_184
    refine PP.bind (mg_tellHere (L := L) 1 F G hg) ?_
    rintro r F1 G1 (⟨rfl, q⟩ | ⟨rfl, q⟩)
    · dsimp only
      unfold mb_statement_189
      rw [if_neg (by decide)]
      unfold mb_statement_192
      refine PP.bind (semi F1 G1 q) ?_
      rintro r F2 G2 ⟨(rfl | rfl), q2⟩
      · dsimp only
        unfold mb_statement_198 mb_statement_205 mb_statement_206
        rw [if_pos rfl]
        exact PP.bz (fun _ => PP.ret q2)
      · dsimp only
        unfold mb_statement_198 mb_statement_201 mb_statement_206
        rw [if_neg (by decide)]
        exact PP.bz (fun _ => PP.ret q2)
    · dsimp only
      unfold mb_statement_189 mb_statement_205 mb_statement_206
      rw [if_pos rfl]
      exact PP.bz (fun _ => PP.ret q)
  have put : PP (mb_statement_237 fu rc F G) (fun r F1 G1 => SQ0 L F G r F1 G1) := by
    have all : ∀ x1 : Int32, x1 = 19 ∨ x1 = 20 → PP (mb_statement_253 fu rc x1 F G) (fun r F1 G1 => SQ0 L F G r F1 G1) := by
      intro x1 hx
      unfold mb_statement_253
      have h1 := PQ.f (k := 42) (v := F 42 + 1) h0
      generalize fup F 42 (F 42 + 1) = F1 at h1
      unfold mb_statement_264
      refine PP.bind (mp_openSign 22 F1 G) ?_
      rintro r F2 G2 (⟨rfl, rfl, rfl, -, u, -⟩ | ⟨rfl, u, -⟩)
      · dsimp only
        unfold mb_statement_270
        rw [if_neg (by decide)]
        unfold mb_statement_273
        refine PP.bind ((h1.op u).expr (by decide)) ?_
        rintro r F3 G3 ⟨-, (⟨rfl, q⟩ | ⟨rfl, q⟩)⟩
        · dsimp only
          unfold mb_statement_277
          rw [if_neg (by decide)]
          unfold mb_statement_280
          refine PP.bind (mp_closeSign 23 F3 G3) ?_
          rintro r F4 G4 (⟨rfl, rfl, rfl, -, -⟩ | ⟨rfl, u, -⟩)
          · dsimp only
            unfold mb_statement_286
            rw [if_neg (by decide)]
            have q4 := PQ.cl (j := 0) (v := F3 42 + 1) q hg (by decide)
            generalize fup (fup F3 42 (F3 42 + 1)) 43 (F3 43 - 1) = F4 at q4
            have st : PP (mf_step fu x1 0 0 F4 G3) (fun _ F5 G5 => PQ L F G 0 F5 G5 [] 0 hN0 lN0 [] []) := by
              rcases hx with rfl | rfl
              · refine PP.mono (q4.step 19 0 0 [] (by decide) (fun hS _ _ => ?_)) (fun _ _ _ z => z.2.2.2.2)
                exact Or.inr (Or.inr (Or.inr (Or.inr ⟨hS.m, Or.inr (Or.inr (Or.inr (Or.inr (Or.inr (Or.inr (Or.inr (Or.inr (Or.inr (Or.inr (Or.inl ⟨rfl, rfl⟩))))))))))⟩)))
              · exact PP.mono (q4.hlt (by decide) []) (fun _ _ _ z => z.2.2.2.2)
            unfold mb_statement_291
            refine PP.bind st ?_
            intro r F5 G5 q5
            dsimp only
            unfold mb_statement_298
            refine PP.bind (semi F5 G5 q5) ?_
            rintro r F6 G6 ⟨-, q6⟩
            dsimp only
            unfold mb_statement_305
            exact PP.bz (fun _ => PP.ret q6)
          · dsimp only
            unfold mb_statement_286 mb_statement_289
            rw [if_pos rfl]
            exact PP.ret (q.flt u)
        · dsimp only
          unfold mb_statement_277 mb_statement_289
          rw [if_pos rfl]
          exact PP.ret q
      · dsimp only
        unfold mb_statement_270 mb_statement_289
        rw [if_pos rfl]
        exact PP.ret (h1.flt u)
    unfold mb_statement_237
    refine PP.bind (mp_isWord 12 F G) ?_
    rintro z0 _ _ ⟨rfl, rfl, -⟩
    dsimp only
    unfold mb_statement_243 mb_statement_251 mb_statement_246
    exact PP.ite (fun _ => all 20 (Or.inr rfl)) (fun _ => all 19 (Or.inl rfl))
  have no : PP (mb_statement_306 fu rc F G) (fun r F1 G1 => SQ0 L F G r F1 G1) := by
    unfold mb_statement_306
    refine PP.bind bad ?_
    intro r F1 G1 q
    dsimp only
    unfold mb_statement_311
    exact PP.bz (fun _ => PP.ret q)
  have s207 : PP (mb_statement_207 fu rc F G) (fun r F1 G1 => SQ0 L F G r F1 G1) := by
    unfold mb_statement_207
    refine PP.bind (sub 2 (by decide)) (fun r F1 G1 q => ?_)
    dsimp only
    unfold mb_statement_211
    exact PP.bz (fun _ => PP.ret q)
  have s212 : PP (mb_statement_212 fu rc F G) (fun r F1 G1 => SQ0 L F G r F1 G1) := by
    unfold mb_statement_212
    refine PP.bind (sub 4 (by decide)) (fun r F1 G1 q => ?_)
    dsimp only
    unfold mb_statement_216
    exact PP.bz (fun _ => PP.ret q)
  have s217 : PP (mb_statement_217 fu rc F G) (fun r F1 G1 => SQ0 L F G r F1 G1) := by
    unfold mb_statement_217
    refine PP.bind (sub 7 (by decide)) (fun r F1 G1 q => ?_)
    dsimp only
    unfold mb_statement_221
    exact PP.bz (fun _ => PP.ret q)
  have s222 : PP (mb_statement_222 fu rc F G) (fun r F1 G1 => SQ0 L F G r F1 G1) := by
    unfold mb_statement_222
    refine PP.bind (sub 3 (by decide)) (fun r F1 G1 q => ?_)
    dsimp only
    unfold mb_statement_226
    exact PP.bz (fun _ => PP.ret q)
  have s227 : PP (mb_statement_227 fu rc F G) (fun r F1 G1 => SQ0 L F G r F1 G1) := by
    unfold mb_statement_227
    refine PP.bind (mg_leaves (L := L) F G hg) (fun r F1 G1 q => ?_)
    dsimp only
    unfold mb_statement_231
    exact PP.bz (fun _ => PP.ret q)
  have s232 : PP (mb_statement_232 fu rc F G) (fun r F1 G1 => SQ0 L F G r F1 G1) := by
    unfold mb_statement_232
    refine PP.bind (mg_returns (L := L) F G hg) (fun r F1 G1 q => ?_)
    dsimp only
    unfold mb_statement_236
    exact PP.bz (fun _ => PP.ret q)
  unfold mh_statement mb_statement_0
  refine PP.bind (mp_isSign 26 F G) ?_
  rintro z0 _ _ ⟨rfl, rfl, -⟩
  dsimp only
  unfold mb_statement_6
  refine PP.ite (fun _ => ?_) (fun _ => ?_)
  · unfold mb_statement_30
    refine PP.bind (mp_isSign 29 F G) ?_
    rintro z0 _ _ ⟨rfl, rfl, -⟩
    dsimp only
    unfold mb_statement_36
    refine PP.ite (fun _ => ?_) (fun _ => ?_)
    · unfold mb_statement_46
      refine PP.ix (fun _ => PP.ite (fun _ => ?_) (fun _ => ?_))
      · unfold mb_statement_59
        refine PP.bind (mg_simple (L := L) F G hg) ?_
        rintro r F1 G1 (⟨rfl, q⟩ | ⟨rfl, q⟩)
        · dsimp only
          unfold mb_statement_63
          rw [if_neg (by decide)]
          unfold mb_statement_66
          refine PP.bind (semi F1 G1 q) ?_
          rintro r F2 G2 ⟨(rfl | rfl), q2⟩
          · dsimp only
            unfold mb_statement_72 mb_statement_79 mb_statement_80
            rw [if_pos rfl]
            exact PP.bz (fun _ => PP.ret q2)
          · dsimp only
            unfold mb_statement_72 mb_statement_75 mb_statement_80
            rw [if_neg (by decide)]
            exact PP.bz (fun _ => PP.ret q2)
        · dsimp only
          unfold mb_statement_63 mb_statement_79 mb_statement_80
          rw [if_pos rfl]
          exact PP.bz (fun _ => PP.ret q)
      · unfold mb_statement_81
        refine PP.ix (fun _ => PP.ite (fun _ => ?_) (fun _ => ?_))
        · unfold mb_statement_100
          refine PP.ix (fun _ => PP.ite (fun _ => no) (fun _ => ?_))
          repeat' first | exact tell | exact put | exact no | exact s207 | exact s212 | exact s217 | exact s222 | exact s227 | exact s232 | refine PP.ite (fun _ => ?_) (fun _ => ?_)
        · unfold mb_statement_94
          refine PP.bind bad ?_
          intro r F1 G1 q
          dsimp only
          unfold mb_statement_99
          exact PP.bz (fun _ => PP.ret q)
    · unfold mb_statement_39
      refine PP.bind (semi F G h0) ?_
      rintro r F2 G2 ⟨-, q2⟩
      dsimp only
      unfold mb_statement_45
      exact PP.bz (fun _ => PP.ret q2)
  · unfold mb_statement_9
    refine PP.bind h0.begins ?_
    rintro r F1 G1 ⟨K1, h1⟩
    dsimp only
    unfold mb_statement_18
    refine PP.bind (ih.s (fu := fu) 0 (by decide) F1 G1 h1.1) ?_
    rintro r F2 G2 (⟨rfl, LB, LC, q⟩ | ⟨rfl, -, q⟩)
    · dsimp only
      unfold mb_statement_22
      refine PP.bind ((h1.app q).ends (F 15)) ?_
      rintro r F3 G3 ⟨K3, h3⟩
      dsimp only
      unfold mb_statement_28
      refine PP.bz (fun _ => PP.ret (h3.good hg (fun d dB dC => ?_)))
      rw [List.append_nil, List.append_nil]
      exact List.Perm.of_eq (by rw [List.append_nil])
    · dsimp only
      unfold mb_statement_22
      refine PP.bind (mp_ends (F 15) F2 G2) ?_
      rintro r F3 G3 ⟨K3, -⟩
      dsimp only
      unfold mb_statement_28
      exact PP.bz (fun _ => PP.ret ((h1.apB q).kx K3 rfl rfl rfl rfl rfl rfl rfl))
end GRP2
theorem SQ0.sq {x : OR} {L : List Nat} {F F1 : PF} {G G1 : PG} {r : Int32} (h : SQ0 L F G r F1 G1) (hR : ROK x F r F1) (hN : M7 F F1) : SQ L F G r F1 G1 := ⟨h.1.gs hR hN, h.2⟩
/-- the statements: what is sure, and what is typed -/
theorem mgS2 {fu : Nat} (hfu : 8589934592 ≤ fu) {L : List Nat} : ∀ d : Nat, mGI L (mS2 fu d) := by
  intro d
  induction d with
  | zero => exact fun _ _ _ _ _ _ _ => PP.no
  | succ d ih =>
    intro i x y F G hg h51 r F1 G1 e
    have hR := mrS2 (K := G 4) (V := G 5) (fu := fu) (d + 1) i x y F G rfl rfl hg.2.1 r F1 G1 e
    have hN := mnS2 (fu := fu) (d + 1) i x y F G r F1 G1 e
    by_cases c : i = 1
    · subst c
      have hb : PP (mS2 fu (d + 1) 1 x y F G) (fun r F1 G1 => BQ0 L x F G r F1 G1) := gt_body hfu ih x F G hg (h51 rfl)
      obtain ⟨b1, b2⟩ := hb r F1 G1 e
      rw [if_pos rfl]
      exact ⟨b1.gs hR hN, b2⟩
    · have hs : PP (mS2 fu (d + 1) i x y F G) (fun r F1 G1 => SQ0 L F G r F1 G1) := PP.ite (fun _ => gt_block ih F G hg) (fun _ => PP.ite (fun q => absurd q c) (fun _ => PP.ite (fun _ => gt_choice ih F G hg) (fun _ => PP.ite (fun _ => gt_counted hfu ih F G hg) (fun _ => PP.ite (fun _ => gt_loop hfu ih F G hg) (fun _ => PP.ite (fun _ => gt_scoped ih F G hg) (fun _ => PP.ite (fun _ => gt_statement ih F G hg) (fun _ => PP.ite (fun _ => gt_turnLoop hfu ih F G hg) (fun _ => PP.no))))))))
      rw [if_neg c]
      exact (hs r F1 G1 e).sq hR hN
