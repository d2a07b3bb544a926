abbrev hLC (LB LC : List Nat) : Nat → Nat → Nat → HLs := fun _ dB dC => lpH [] dB LB ++ lpH [] dC LC
/-- behind a statement, for those who go on -/
def SC (L : List Nat) (F : PF) (G : PG) (r : Int32) (F1 : PF) (G1 : PG) : Prop := (r = 1 ∧ ∃ LB LC, PQ L F G 0 F1 G1 [] 0 (hLC LB LC) lN0 LB LC) ∨ (r = 0 ∧ 0 < (F1 44).toInt ∧ SQ0 L F G 0 F1 G1)
theorem SQ.sc {L : List Nat} {F F1 : PF} {G G1 : PG} {r : Int32} (hg : GP F) (h : SQ L F G r F1 G1) : SC L F G r F1 G1 := by
  obtain ⟨q, LB, LC, c, t⟩ := h
  rcases q.1 with rfl | rfl
  · obtain ⟨q1, q2, q3, q4, q5, q6, q7⟩ := q
    exact Or.inr ⟨rfl, q6 rfl, ⟨Or.inl rfl, q2, q3, q4, fun z => absurd z (by decide)⟩, LB, LC, c, fun z => absurd z (by decide)⟩
  · have g1 := hg.gs q
    obtain ⟨q1, q2, q3, q4, q5, q6, q7⟩ := q
    obtain ⟨q8, q9, q10, q11, q12⟩ := q7 rfl
    exact Or.inl ⟨rfl, LB, LC, g1, q3, q4, q5, by rw [q9]; omega, q11, c, t rfl⟩
theorem mGI.s {fu : Nat} {L : List Nat} {rc : RC} (ih : mGI L rc) (i : Nat) (hi : i ≠ 1) (F : PF) (G : PG) (hg : GP F) : PP (rc i 0 0 F G) (fun r F1 G1 => SC L F G r F1 G1) := by
  refine PP.mono (ih i 0 0 F G hg (fun q => absurd q hi)) ?_
  intro r F1 G1 q
  rw [if_neg hi] at q
  exact q.sc hg
theorem SQ0.kx {a b : List Nat} {L : List Nat} {F0 F F1 : PF} {G0 G G1 : PG} (h : SQ0 L F0 G0 0 F G) (K : KX a b F G F1 G1) (e60 : a.contains 60 = false) (e63 : a.contains 63 = false) (e64 : a.contains 64 = false) (q4 : b.contains 56 = false) (q5 : b.contains 57 = false) (q6 : b.contains 58 = false) (q7 : b.contains 59 = false) : SQ0 L F0 G0 0 F1 G1 := by
  obtain ⟨⟨-, h1, h2, h3, -⟩, LB, LC, c, -⟩ := h
  refine ⟨⟨Or.inl rfl, by rw [K.1 60 e60]; exact h1, S_eq h2 (K.1 60 e60), CB.kx h3 K q4 q5 q6 q7, fun q => absurd q (by decide)⟩, LB, LC, CK.lo c (K.1 63 e63) (K.1 64 e64) (Nat.le_of_eq ?_) (fun p _ => by rw [K.2 57 q5]), fun q => absurd q (by decide)⟩
  show (F 60).toNatClampNeg = (F1 60).toNatClampNeg
  rw [K.1 60 e60]
theorem SQ0.flt {L : List Nat} {F0 F F1 : PF} {G0 G G1 : PG} (h : SQ0 L F0 G0 0 F G) (u : FLT F F1 G G1) : SQ0 L F0 G0 0 F1 G1 := by
  obtain ⟨-, rfl, K⟩ := u
  exact h.kx K rfl rfl rfl rfl rfl rfl rfl
theorem mp_ends {fu : Nat} (x : Int32) (F : PF) (G : PG) : PP (mf_ends fu x F G) (fun _ F1 G1 => KX [14, 15] [] F G F1 G1 ∧ (0 ≤ (F 14).toInt → 0 ≤ (F1 14).toInt ∧ (F1 14).toInt ≤ (F 14).toInt)) := by
  refine PP.and (mw_ends x F G) ?_
  have loop : ∀ (n : Nat) (F : PF) (G : PG), PP (ml_ends_0 fu n x F G) (fun _ F1 _ => 0 ≤ (F 14).toInt → 0 ≤ (F1 14).toInt ∧ (F1 14).toInt ≤ (F 14).toInt) := by
    intro n
    induction n with
    | zero => intro F G; exact PP.no
    | succ n ihn =>
      intro F G
      show PP (mb_ends_0 fu (ml_ends_0 fu n) x F G) _
      have fin : PP (mb_ends_35 fu x F G) (fun _ F1 _ => 0 ≤ (F 14).toInt → 0 ≤ (F1 14).toInt ∧ (F1 14).toInt ≤ (F 14).toInt) := by
        unfold mb_ends_35 mb_ends_40
        exact PP.ret (fun q => ⟨q, Int.le_refl _⟩)
      unfold mb_ends_0
      refine PP.ite (fun _ => fin) (fun c => ?_)
      unfold mb_ends_7
      refine PP.ix (fun _ => PP.ite (fun _ => fin) (fun _ => ?_))
      unfold mb_ends_22 mb_ends_32
      refine PP.mono (ihn _ G) ?_
      intro r F1 G1 q q0
      have c1 : ¬ (F 14).toInt ≤ (0 : Int32).toInt := mt i_le.mpr c
      have l0 : (0 : Int32).toInt = 0 := rfl
      have e : (F 14 - 1).toInt = (F 14).toInt - 1 := i_subn (F 14) rfl (by omega) (by have := i_rng (F 14); omega)
      have q : 0 ≤ (F 14 - 1).toInt → 0 ≤ (F1 14).toInt ∧ (F1 14).toInt ≤ (F 14 - 1).toInt := q
      rw [e] at q
      have := q (by omega)
      omega
  exact loop fu F G
theorem PQ.ends {fu : Nat} {L : List Nat} {F0 F : PF} {G0 G : PG} {j : Int} {s : SH} {e : Nat} {hs : Nat → Nat → Nat → HLs} {ls : Nat → HLs} {LB LC : List Nat} (h : PQ L F0 G0 j F G s e hs ls LB LC) (x : Int32) : PP (mf_ends fu x F G) (fun _ F1 G1 => KX [14, 15] [] F G F1 G1 ∧ PQ L F0 G0 j F1 G1 s e hs ls LB LC) := by
  refine PP.mono (mp_ends x F G) ?_
  rintro r F1 G1 ⟨K, q⟩
  refine ⟨K, h.set K (M7.kx K rfl) rfl (fun _ hS h47 => ?_)⟩
  have hk : kindsOf G1 = kindsOf G := by
    funext f
    unfold kindsOf
    rw [K.2 27 rfl, K.2 31 rfl, K.2 34 rfl]
  have hX : XS L F1 G1 = XS L F G := by
    unfold XS
    rw [K.1 24 rfl, K.1 37 rfl, K.1 53 rfl, K.1 54 rfl, hk]
  obtain ⟨s1, s2, s3, s4, s5, s6⟩ := hS
  have q := q s4
  refine ⟨⟨(K.1 46 rfl).trans s1, (K.1 54 rfl).trans s2, ?_, q.1, by rw [K.1 24 rfl]; exact s5, fun z => ?_⟩, XL.of hX⟩
  · unfold FTb at s3 ⊢
    rw [K.1 24 rfl, K.2 27 rfl, K.2 31 rfl, K.2 34 rfl]
    exact s3
  · obtain ⟨t1, t2⟩ := s6 ((K.1 47 rfl).symm.trans z)
    rw [K.1 52 rfl, K.1 53 rfl, hX]
    refine ⟨fun k hk => ?_, t2⟩
    rw [K.2 17 rfl, K.2 20 rfl, K.2 21 rfl, K.2 23 rfl]
    exact t1 k (by omega)
theorem PQ.begins {fu : Nat} {L : List Nat} {F0 F : PF} {G0 G : PG} {j : Int} {s : SH} {e : Nat} {hs : Nat → Nat → Nat → HLs} {ls : Nat → HLs} {LB LC : List Nat} (h : PQ L F0 G0 j F G s e hs ls LB LC) : PP (mf_begins fu F G) (fun _ F1 G1 => KX [15] [] F G F1 G1 ∧ PQ L F0 G0 j F1 G1 s e hs ls LB LC) := by
  refine PP.mono (mw_begins F G) ?_
  intro r F1 G1 K
  exact ⟨K, h.kx K (M7.kx K rfl) rfl rfl rfl rfl⟩
/-- leaving a loop, or going on with it -/
theorem mg_leaves {fu : Nat} {L : List Nat} (F : PF) (G : PG) (hg : GP F) : PP (mf_leaves fu F G) (fun r F1 G1 => SQ0 L F G r F1 G1) := by
  have h0 : PQ L F G 0 F G [] 0 hN0 lN0 [] [] := PQ.rf hg
  have l0 : (0 : Int32).toInt = 0 := rfl
  unfold mf_leaves mb_leaves_0
  refine PP.bind (mp_isWord 9 F G) ?_
  rintro x1 _ _ ⟨rfl, rfl, -⟩
  dsimp only
  have fin : ∀ (hs : Nat → Nat → Nat → HLs) (LB LC : List Nat) (F1 : PF) (G1 : PG), PQ L F G 0 F1 G1 [] 0 hs lN0 LB LC → (∀ d dB dC, List.Perm (lpH [] dB LB ++ lpH [] dC LC) (hs d dB dC)) → PP (mb_leaves_93 fu F1 G1) (fun r F1 G1 => SQ0 L F G r F1 G1) := by
    intro hs LB LC F1 G1 q p
    unfold mb_leaves_93
    refine PP.bind (mp_sign 29 F1 G1) ?_
    rintro r F2 G2 (⟨rfl, rfl, rfl, -, -⟩ | ⟨rfl, u, -⟩)
    · dsimp only
      unfold mb_leaves_99
      exact PP.bz (fun _ => PP.ret ((PQ.f (k := 42) q).good hg p))
    · dsimp only
      unfold mb_leaves_99
      exact PP.bz (fun _ => PP.ret (q.flt u))
  have step : ∀ (F1 : PF) (G1 : PG), PQ L F G 0 F1 G1 [] 0 hN0 lN0 [] [] → (F 51 = 0 → ST L F G → ¬ F1 47 = 0) → PP (mb_leaves_39 fu x1 F1 G1) (fun r F1 G1 => SQ0 L F G r F1 G1) := by
    intro F1 G1 q hd
    unfold mb_leaves_39
    have e51 : F1 51 = F 51 := q.2.2.2.2.2.1
    by_cases c : F 51 = 0
    · refine PP.bind (PP.and (mw_step 12 0 0 F1 G1) (q.stp (s1 := []) (e1 := 0) (hs1 := hN0) 12 0 0 ?_)) ?_
      · intro F2 G2 _ _ _ hS _ z
        exact absurd z (hd c hS)
      · rintro r F2 G2 ⟨K, rfl, -, -, -, q2⟩
        dsimp only
        unfold mb_leaves_47
        refine PP.ite (fun _ => fin hN0 [] [] F2 G2 q2 (fun _ _ _ => List.Perm.refl _)) (fun c1 => ?_)
        exact absurd (by rw [K.1 51 rfl, e51, c]; decide) c1
    · refine PP.bind (mq_step 12 0 0 F1 G1) ?_
      rintro _ F2 G2 ⟨K, rfl, e60, eg, hn⟩
      dsimp only
      obtain ⟨n0, n1⟩ := vp_in_iff.mp hn
      have h63 : F1 63 = F 63 := q.2.2.2.2.2.2.1.1
      have h64 : F1 64 = F 64 := q.2.2.2.2.2.2.1.2.1
      have S1 : sN F1 < sN F2 := by
        have : sN F2 = sN F1 + 1 := by show (F2 60).toNatClampNeg = _; rw [e60]; exact nI_inc hn
        omega
      have g2 : GP F2 := by
        obtain ⟨b1, b2, b3, b4, b5, b6, b7, b8⟩ := q.1
        unfold GP
        rw [K.1 44 rfl, K.1 70 rfl, K.1 54 rfl, K.1 43 rfl, K.1 51 rfl]
        exact ⟨inc60 hn e60, b2, b3, b4, b5, b6, b7, b8⟩
      have done : ∀ (b : Bool), PQ L F G 0 (fup F2 (if b then 63 else 64) (F1 60)) (gup G2 57 (sN F1) (if b then F2 63 else F2 64)) [] 0 (hLC (if b then [sN F1] else []) (if b then [] else [sN F1])) lN0 (if b then [sN F1] else []) (if b then [] else [sN F1]) := by
        intro b
        obtain ⟨h1, h2, h3, h4, h5, h6, h7, h8⟩ := q
        have K2 : KX [63, 64] [57] F2 G2 (fup F2 (if b then 63 else 64) (F1 60)) (gup G2 57 (sN F1) (if b then F2 63 else F2 64)) := KX.g rfl (KX.f (by cases b <;> rfl) KX.rf)
        have i60 : (fup F2 (if b then 63 else 64) (F1 60)) 60 = F2 60 := K2.1 60 rfl
        have en : sN (fup F2 (if b then 63 else 64) (F1 60)) = sN F2 := by show (_ : Int32).toNatClampNeg = _; rw [i60]
        refine ⟨g2.kx K2 rfl rfl rfl rfl rfl rfl, by rw [en]; omega, CB.g57 (CB.stp h3 h2 eg) h2, M7.tr h4 (M7.tr (M7.kx K rfl) (M7.kx K2 rfl)), ?_, ((K2.1 51 rfl).trans (K.1 51 rfl)).trans h6, ?_, ?_⟩
        · rw [K2.1 43 rfl, K.1 43 rfl]
          exact h5
        · cases b
          · refine ⟨?_, ⟨n0, n1, rfl, ?_⟩, ?_, ?_, fun z => absurd z c⟩
            · show F2 63 = F 63
              rw [K.1 63 rfl]; exact h63
            · show gup G2 57 (sN F1) (F2 64) 57 (sN F1) = F 64
              rw [gup_i, K.1 64 rfl]; exact h64
            · intro p hp
              have : p = sN F1 := List.mem_singleton.mp hp
              rw [this, en]
              exact ⟨h2, S1⟩
            · exact List.nodup_cons.mpr ⟨(fun z => nomatch z), List.nodup_nil⟩
          · refine ⟨⟨n0, n1, rfl, ?_⟩, ?_, ?_, ?_, fun z => absurd z c⟩
            · show gup G2 57 (sN F1) (F2 63) 57 (sN F1) = F 63
              rw [gup_i, K.1 63 rfl]; exact h63
            · show F2 64 = F 64
              rw [K.1 64 rfl]; exact h64
            · intro p hp
              have : p = sN F1 := List.mem_singleton.mp hp
              rw [this, en]
              exact ⟨h2, S1⟩
            · exact List.nodup_cons.mpr ⟨(fun z => nomatch z), List.nodup_nil⟩
        · have M2 : M7 F1 (fup F2 (if b then 63 else 64) (F1 60)) := M7.tr (M7.kx K rfl) (M7.kx K2 rfl)
          have t := TY.seq (F1 := fup F2 (if b then 63 else 64) (F1 60)) (G1 := gup G2 57 (sN F1) (if b then F2 63 else F2 64)) (s1 := []) (e1 := 0) (hs1 := hLC (if b then [sN F1] else []) (if b then [] else [sN F1])) h8 M2 (fun _ hS z => ?_)
          · exact fun a b' => ⟨(t a b').1, (t a b').2.1, fun A d dB dC hB hC hA => by have := (t a b').2.2 A d dB dC hB hC hA; simpa using this⟩
          · have K3 : KX [60, 63, 64] [56, 57, 58] F1 G1 (fup F2 (if b then 63 else 64) (F1 60)) (gup G2 57 (sN F1) (if b then F2 63 else F2 64)) := KX.tr (KX.tr KX.rf K rfl rfl) K2 rfl rfl
            have hX := XS.kx (L := L) K3 rfl
            refine ⟨hS.kx K3 M2 rfl rfl rfl, XL.of hX, fun A d dB dC hB hC hA _ => ?_⟩
            rw [hX]
            have E : ∀ dX, dX ≤ d → EX (XS L F1 G1) F1 G1 A F2 G2 [] (d + 0) [(sN F1, [], dX)] := fun dX hX => EX.gos (EX.rf hA) hn e60 eg (by decide) [] (d + 0) dX (by rcases Nat.lt_or_eq_of_le hX with z | z; exact Or.inl ⟨z, hS.m⟩; exact Or.inr z) (Or.inl (Nat.le_refl _))
            have E2 : ∀ dX, dX ≤ d → EX (XS L F1 G1) F1 G1 A (fup F2 (if b then 63 else 64) (F1 60)) (gup G2 57 (sN F1) (if b then F2 63 else F2 64)) [] (d + 0) [(sN F1, [], dX)] := fun dX hX => EX.st (EY.ex (EY.h57 (EX.ey (E dX hX)) ⟨_, List.mem_singleton.mpr rfl, rfl⟩)) i60 (fun _ _ _ => rfl)
            cases b
            · exact E2 dC hC
            · exact E2 dB hB
      unfold mb_leaves_47
      refine PP.ite (fun c1 => ?_) (fun _ => ?_)
      · have c2 := i_le.mp c1
        have g := hg.2.2.2.2.2.2.1
        rw [K.1 51 rfl, e51] at c2
        exact absurd (i_eq.mpr (by omega)) c
      · unfold mb_leaves_55
        refine PP.ite (fun cx => ?_) (fun cx => ?_)
        · unfold mb_leaves_71 mb_leaves_75
          refine PP.ix (fun _ => ?_)
          unfold mb_leaves_76
          rw [if_pos cx]
          unfold mb_leaves_88
          exact fin _ [] [sN F1] _ _ (done false) (fun _ _ _ => List.Perm.refl _)
        · unfold mb_leaves_64 mb_leaves_75
          refine PP.ix (fun _ => ?_)
          unfold mb_leaves_76
          rw [if_neg cx]
          unfold mb_leaves_80 mb_leaves_85
          exact fin _ [sN F1] [] _ _ (done true) (fun _ _ _ => List.Perm.refl _)
  unfold mb_leaves_6
  refine PP.ite (fun c => ?_) (fun c => ?_)
  · unfold mb_leaves_14
    refine PP.ix (fun _ => PP.bind (PP.and (mp_note 9 _ (by decide) F G) (mm_note 9 _ (by decide) F G)) ?_)
    rintro r F1 G1 ⟨⟨K, rfl, n1, -⟩, hM⟩
    dsimp only
    unfold mb_leaves_29
    refine step _ _ (PQ.f (k := 42) (h0.kx K hM.1 rfl rfl rfl rfl)) (fun _ hS z => ?_)
    have := n1 hS.n0
    have z : F1 47 = 0 := z
    rw [z] at this
    exact absurd this (by decide)
  · unfold mb_leaves_29
    exact step _ _ (PQ.f (k := 42) h0) (fun z => absurd z c)
theorem mg_returns {fu : Nat} {L : List Nat} (F : PF) (G : PG) (hg : GP F) : PP (mf_returns fu F G) (fun r F1 G1 => SQ0 L F G r F1 G1) := by
  have h0 : PQ L F G 0 F G [] 0 hN0 lN0 [] [] := PQ.rf hg
  have end_ : ∀ (F1 : PF) (G1 : PG), PQ L F G 0 F1 G1 [0] 0 hN0 lN0 [] [] → PP (mb_returns_98 fu F1 G1) (fun r F1 G1 => SQ0 L F G r F1 G1) := by
    intro F1 G1 q
    unfold mb_returns_98
    refine PP.bind (q.ret []) ?_
    rintro _ F2 G2 ⟨rfl, -, -, -, q⟩
    dsimp only
    unfold mb_returns_106
    refine PP.bind (mp_sign 29 F2 G2) ?_
    rintro r F3 G3 (⟨rfl, rfl, rfl, -, -⟩ | ⟨rfl, u, -⟩)
    · dsimp only
      unfold mb_returns_113
      exact PP.bz (fun _ => PP.ret ((PQ.f (k := 42) q).good hg (fun _ _ _ => List.Perm.refl _)))
    · dsimp only
      unfold mb_returns_113
      exact PP.bz (fun _ => PP.ret (q.flt u))
  have nul : ∀ (F1 : PF) (G1 : PG), PQ L F G 0 F1 G1 [] 0 hN0 lN0 [] [] → PP (mb_returns_46 fu F1 G1) (fun r F1 G1 => SQ0 L F G r F1 G1) := by
    intro F1 G1 q
    unfold mb_returns_46
    refine PP.bind (q.step 0 0 0 [0] (by decide) (fun _ _ _ => Or.inl ⟨rfl, rfl⟩)) ?_
    rintro _ F2 G2 ⟨rfl, -, -, -, q⟩
    dsimp only
    unfold mb_returns_53
    exact end_ F2 G2 q
  have exp : ∀ (F1 : PF) (G1 : PG), PQ L F G 0 F1 G1 [] 0 hN0 lN0 [] [] → PP (mb_returns_89 fu F1 G1) (fun r F1 G1 => SQ0 L F G r F1 G1) := by
    intro F1 G1 q
    unfold mb_returns_89
    refine PP.bind (q.expr (by decide)) ?_
    rintro r F2 G2 ⟨-, (⟨rfl, q⟩ | ⟨rfl, q⟩)⟩
    · dsimp only
      unfold mb_returns_93
      rw [if_neg (by decide)]
      exact end_ F2 G2 q
    · dsimp only
      unfold mb_returns_93 mb_returns_96
      rw [if_pos rfl]
      exact PP.ret q
  unfold mf_returns mb_returns_0
  have h1 : PQ L F G 0 (fup F 42 (F 42 + 1)) G [] 0 hN0 lN0 [] [] := h0.f
  generalize fup F 42 (F 42 + 1) = F1 at h1
  unfold mb_returns_10
  refine PP.bind (mp_isSign 29 F1 G) ?_
  rintro z0 _ _ ⟨rfl, rfl, -⟩
  dsimp only
  unfold mb_returns_16
  refine PP.ite (fun _ => ?_) (fun _ => ?_)
  · unfold mb_returns_57
    refine PP.ix (fun _ => PP.ite (fun _ => exp F1 G h1) (fun _ => ?_))
    unfold mb_returns_69
    refine PP.ix (fun _ => PP.bind (mw_rank 7 F1 G) ?_)
    intro r F2 G2 K
    dsimp only
    unfold mb_returns_86
    have h2 := h1.kx K (M7.kx K rfl) rfl rfl rfl rfl
    refine PP.bind (PP.and (mp_noteAs 8 _ _ (by decide) F2 G2) (mm_noteAs 8 _ _ (by decide) F2 G2)) ?_
    rintro r F3 G3 ⟨⟨K, rfl, n1, -⟩, hM⟩
    dsimp only
    exact exp F3 G2 (h2.kx K hM.1 rfl rfl rfl rfl)
  · unfold mb_returns_19
    refine PP.ix (fun _ => PP.ite (fun _ => ?_) (fun _ => nul F1 G h1))
    unfold mb_returns_31
    refine PP.ix (fun _ => PP.bind (PP.and (mp_note 8 _ (by decide) F1 G) (mm_note 8 _ (by decide) F1 G)) ?_)
    rintro r F3 G3 ⟨⟨K, rfl, n1, -⟩, hM⟩
    dsimp only
    exact nul F3 G (h1.kx K hM.1 rfl rfl rfl rfl)
theorem nd_len : ∀ (n : Nat) (l : List Nat), l.Nodup → (∀ p ∈ l, p < n) → l.length ≤ n := by
  intro n
  induction n with
  | zero =>
    intro l _ h
    cases l with
    | nil => exact Nat.le_refl _
    | cons a l => exact absurd (h a (List.mem_cons_self ..)) (Nat.not_lt_zero _)
  | succ n ih =>
    intro l hn h
    by_cases c : n ∈ l
    · have h1 := ih (l.erase n) (hn.erase n) (fun p hp => by
        have q := (hn.mem_erase_iff).mp hp
        have := h p q.2
        have : p ≠ n := q.1
        omega)
      have h2 := List.length_erase_of_mem c
      omega
    · have h1 := ih l hn (fun p hp => by
        have := h p hp
        have : p ≠ n := fun z => c (by rw [← z]; exact hp)
        omega)
      omega
theorem chn_lt {a : Nat → Int32} : ∀ (l : List Nat) (x y : Int32), chn a l x y → ∀ p ∈ l, p < 9000 := by
  intro l
  induction l with
  | nil => intro x y _ p hp; exact nomatch hp
  | cons q l ih =>
    intro x y h p hp
    obtain ⟨h0, h1, h2, h3⟩ := h
    rcases List.mem_cons.mp hp with rfl | hp
    · rw [← h2]
      show x.toInt.toNat < 9000
      omega
    · exact ih _ _ h3 p hp
theorem mg_settle {fu : Nat} (hfu : 8589934592 ≤ fu) (x v : Int32) (F : PF) (G : PG) (l : List Nat) (hc : chn (G 57) l x (-1)) (hn : l.Nodup) : PP (mf_settle fu x v F G) (fun _ F1 G1 => F = F1 ∧ pall G v l = G1) := (ms_settle hfu x v F G l hc hn (nd_len 9000 l hn (chn_lt l x _ hc))).toPP
theorem CB.pall {F0 : PF} {G0 : PG} {v : Int32} : ∀ (l : List Nat) (G : PG), CB F0 G0 G → (∀ p ∈ l, sN F0 ≤ p) → CB F0 G0 (pall G v l) := by
  intro l
  induction l with
  | nil => intro G h _; exact h
  | cons p l ih =>
    intro G h hp
    exact ih _ (CB.g57 h (hp p (List.mem_cons_self ..))) (fun q hq => hp q (List.mem_cons_of_mem _ hq))
theorem PQ.settle {L : List Nat} {F0 F : PF} {G0 G : PG} {j : Int} {s : SH} {e : Nat} {hs : Nat → Nat → Nat → HLs} {ls : Nat → HLs} {LB LC K : List Nat} (h : PQ L F0 G0 j F G s e (fun d dB dC => lpH s (d + e) K ++ hs d dB dC) ls LB LC) (hp : ∀ p ∈ K, sN F0 ≤ p ∧ p ∉ LB ++ LC) : PQ L F0 G0 j F (pall G (F 60) K) s e hs ls LB LC := by
  obtain ⟨h1, h2, h3, h4, h5, h6, h7, h8⟩ := h
  have KK : KX [] [57] F G F (pall G (F 60) K) := pall_kx K G
  refine ⟨h1, h2, CB.pall K G h3 (fun p q => (hp p q).1), h4, h5, h6, CK.lo h7 rfl rfl (Nat.le_refl _) (fun p hq => pall_x K G (fun z => (hp p z).2 hq)), fun hS z => ?_⟩
  obtain ⟨S1, X1, E⟩ := h8 hS z
  have hX := XS.kx (L := L) KK rfl
  refine ⟨S1.kx KK M7.rf rfl rfl rfl, X1.tr (XL.of hX), fun A d dB dC hB hC hA => ?_⟩
  rw [hX]
  exact EY.patches h1.1 K G (E A d dB dC hB hC hA)
