def rR (x : Int32) : Prop := -1 ≤ x.toInt ∧ x.toInt ≤ 9
theorem rng_ite {c : Prop} [Decidable c] {a b : Int32} (ha : rR a) (hb : rR b) : rR (if c then a else b) := by
  split
  · exact ha
  · exact hb
theorem lvS_rng (s : Int32) : rR (lvS s) := by
  unfold lvS
  iterate 42 (refine rng_ite (by unfold rR; decide) ?_)
  unfold rR
  decide
theorem lvl_rng (K V : Nat → Int32) (t : Int32) : -1 ≤ (lvl K V t).toInt ∧ (lvl K V t).toInt ≤ 9 := by
  unfold lvl
  split
  · exact lvS_rng _
  · decide
section CHAIN
variable {fu : Nat} {X : TX} {L : List Nat} {rc : RC} {F0 : PF} {G0 : PG} {ag : Int32 → Int32 → PF → PG → PR}
theorem mt_ch_op (ihK : mKI1 rc) (ihM : mMOI rc) (ihT : mTI X L rc) (hT : TP X L F0 G0) (hag : ∀ (x2 : Int32) (F : PF) (G : PG), (x2 = 0 ∨ (x2 = 1 ∧ ∃ j, CS X F0 G0 F G j)) → PP (ag (F0 70) x2 F G) (fun r F1 G1 => TQ X 2 0 0 F0 G0 r F1 G1)) (j : Nat) (F : PF) (G : PG) (hj : j ≤ 20) (hK : KX [42, 43, 44, 45, 47, 48, 49, 55, 60, 62, 70] [56, 57, 58, 59, 67, 68, 69] F0 G0 F G) (hM : MO F0 F) (h43 : F 43 = F0 43) (h70 : (F 70).toInt = (F0 70).toInt + j) (h60 : 0 ≤ (F 60).toInt) (hPK : PKp F0 G0 G) (h600 : (F 70).toInt < 600) (hlv : lvOK G (F0 70).toInt.toNat (j + 1))
    (hL : LV F → ∀ (A : AN) (s : SH) (d : Nat), A (sN F0) = (s, d, false) → bd 0 F0 s → EX X F0 G0 A F G (sig G (F0 70).toInt.toNat s (j + 1)) d (hol G (F0 70).toInt.toNat s d (j + 1))) : PP (mb_chain_119 fu rc ag (F0 70) F G) (fun r F1 G1 => TQ X 2 0 0 F0 G0 r F1 G1) := by
  have t43 : 0 ≤ (F0 43).toInt ∧ (F0 43).toInt ≤ 40 := ⟨hT.2.2.2.2.2.1, hT.2.2.2.2.2.2.1⟩
  have t70 : 0 ≤ (F0 70).toInt := hT.2.2.2.2.2.2.2.1
  have e70 : (F 70 + 1).toInt = (F 70).toInt + 1 := i_addn (F 70) rfl (by omega) (by omega)
  unfold mb_chain_119 mb_chain_129 mb_chain_139
  have K3 : KX [42, 43, 44, 45, 47, 48, 49, 55, 60, 62, 70] [56, 57, 58, 59, 67, 68, 69] F0 G0 (fup (fup F 70 (F 70 + 1)) 42 (F 42 + 1)) G := KX.f rfl (KX.f rfl hK)
  have M3 : MO F0 (fup (fup F 70 (F 70 + 1)) 42 (F 42 + 1)) := MO.f (by decide) (by decide) (MO.f (by decide) (by decide) hM)
  have T3 : TP X L (fup (fup F 70 (F 70 + 1)) 42 (F 42 + 1)) G := TP.kx hT K3 (fun q => M3.1 q) rfl (show 0 ≤ (F 43).toInt ∧ (F 43).toInt ≤ 40 by rw [h43]; exact t43) (show 0 ≤ (F 70 + 1).toInt by omega) h60
  refine PP.bind (PP.and (ihK 7 0 0 (fup (fup F 70 (F 70 + 1)) 42 (F 42 + 1)) G) (PP.and (ihM 7 0 0 (fup (fup F 70 (F 70 + 1)) 42 (F 42 + 1)) G) (ihT 7 0 0 (fup (fup F 70 (F 70 + 1)) 42 (F 42 + 1)) G T3))) ?_
  rintro r F1 G1 ⟨k1, m1, (rfl | rfl), u1⟩
  · dsimp only
    exact hag 0 F1 G1 (Or.inl rfl)
  · dsimp only
    obtain ⟨a43, a70, a60, aPK, aTS⟩ := u1 rfl
    have q70 : (F1 70).toInt = (F0 70).toInt + (j + 1 : Nat) := by
      rw [a70]
      show (F 70 + 1).toInt = _
      omega
    have same : ∀ i, i < j + 1 → G1 68 ((F0 70).toInt.toNat + i) = G 68 ((F0 70).toInt.toNat + i) ∧ G1 69 ((F0 70).toInt.toNat + i) = G 69 ((F0 70).toInt.toNat + i) := by
      intro i hi
      refine aPK _ ?_
      show _ < (F 70 + 1).toInt
      omega
    refine hag 1 F1 G1 (Or.inr ⟨rfl, j + 1, KX.tr K3 k1 rfl rfl, MO.tr M3 m1, a43.trans h43, q70, a60, ?_, ?_, ?_⟩)
    · intro i hi
      have a := hPK i hi
      have b := aPK i (by show _ < (F 70 + 1).toInt; omega)
      exact ⟨b.1.trans a.1, b.2.trans a.2⟩
    · intro i hi
      have q := hlv i hi
      rw [(same i hi).1]
      refine ⟨q.1, q.2.1, fun q1 => ?_⟩
      rw [(same (i + 1) q1).1]
      exact q.2.2 q1
    · intro hl A s d hA hb
      have lb : s.length ≤ 560 := by have := bd.len hb t43.2; omega
      have hl1 : LV (fup (fup F 70 (F 70 + 1)) 42 (F 42 + 1)) := LV.mo k1 m1 rfl rfl hl
      have hl0 : LV F := hl1
      have E0 : EX X F0 G0 A (fup (fup F 70 (F 70 + 1)) 42 (F 42 + 1)) G (sig G (F0 70).toInt.toNat s (j + 1)) d (hol G (F0 70).toInt.toNat s d (j + 1)) := EX.st (hL hl0 A s d hA hb) rfl (fun _ _ _ => rfl)
      have te : TE X (fup (fup F 70 (F 70 + 1)) 42 (F 42 + 1)) G F1 G1 8 (fun s => 0 :: s) := aTS hl
      have sl := sig_len8 (s := s) (j + 1) hlv
      have bd8 : bd 8 (fup (fup F 70 (F 70 + 1)) 42 (F 42 + 1)) (sig G (F0 70).toInt.toNat s (j + 1)) := bd.mv (e := 0) (c := 8) hb (show F 54 = F0 54 from hK.1 54 rfl) (show (F 43).toInt = (F0 43).toInt + 0 by rw [h43]; omega) sl (by omega)
      have E1 : EX X F0 G0 A F1 G1 (0 :: sig G (F0 70).toInt.toNat s (j + 1)) d (hol G (F0 70).toInt.toNat s d (j + 1)) := EX.tr E0 (fun A1 hA1 => te A1 _ _ hA1 bd8)
      rw [sig_x (j + 1) (fun i hi => (same i hi).1), hol_x (j + 1) same]
      exact E1
theorem mt_ch_49 (ihK : mKI1 rc) (ihM : mMOI rc) (ihT : mTI X L rc) (hT : TP X L F0 G0) (hag : ∀ (x2 : Int32) (F : PF) (G : PG), (x2 = 0 ∨ (x2 = 1 ∧ ∃ j, CS X F0 G0 F G j)) → PP (ag (F0 70) x2 F G) (fun r F1 G1 => TQ X 2 0 0 F0 G0 r F1 G1)) (j : Nat) (x3 : Int32) (F : PF) (G : PG) (h : CS X F0 G0 F G j) (hx : -1 ≤ x3.toInt ∧ x3.toInt ≤ 9) (hj : ∀ i, i + 1 = j → (G 68 ((F0 70).toInt.toNat + i)).toInt < x3.toInt) : PP (mb_chain_49 fu rc ag (F0 70) x3 F G) (fun r F1 G1 => TQ X 2 0 0 F0 G0 r F1 G1) := by
  obtain ⟨hK, hM, h43, h70, h60, hPK, hlv, hL⟩ := h
  have t43 : 0 ≤ (F0 43).toInt ∧ (F0 43).toInt ≤ 40 := ⟨hT.2.2.2.2.2.1, hT.2.2.2.2.2.2.1⟩
  have t70 : 0 ≤ (F0 70).toInt := hT.2.2.2.2.2.2.2.1
  have lm : (-1 : Int32).toInt = -1 := rfl
  unfold mb_chain_49
  refine PP.ite (fun c => ?_) (fun c => ?_)
  · have cx := i_eq.mp c
    have j0 : j = 0 := by
      cases j with
      | zero => rfl
      | succ i =>
        have q := hj i rfl
        have q1 := (hlv i (by omega)).1
        omega
    subst j0
    refine PP.ret ⟨Or.inr rfl, fun _ => ⟨h43, i_eq.mpr (by omega), h60, hPK, fun hl => ?_⟩⟩
    show TE X F0 G0 F G 0 (fun s => 0 :: s)
    intro A s d hA hb
    exact hL hl A s d hA hb
  · have cx : ¬ x3.toInt = -1 := fun q => c (i_eq.mpr q)
    unfold mb_chain_56
    refine PP.ix (fun _ => PP.ix (fun h6 => ?_))
    obtain ⟨i0, i1⟩ := vp_in_iff.mp h6
    have ix : (F 70).toNatClampNeg = (F0 70).toInt.toNat + j := by show (F 70).toInt.toNat = _; omega
    unfold mb_chain_74
    refine PP.ix (fun _ => ?_)
    rw [ix]
    -- the state behind the two writes
    have hK2 : ∀ v : Int32, KX [42, 43, 44, 45, 47, 48, 49, 55, 60, 62, 70] [56, 57, 58, 59, 67, 68, 69] F0 G0 F (gup (gup G 67 ((F0 70).toInt.toNat + j) v) 68 ((F0 70).toInt.toNat + j) x3) := fun v => KX.g rfl (KX.g rfl hK)
    have low : ∀ (v z : Int32) (i : Nat), i < j → gup (gup (gup G 67 ((F0 70).toInt.toNat + j) v) 68 ((F0 70).toInt.toNat + j) x3) 69 ((F0 70).toInt.toNat + j) z 68 ((F0 70).toInt.toNat + i) = G 68 ((F0 70).toInt.toNat + i) ∧ gup (gup (gup G 67 ((F0 70).toInt.toNat + j) v) 68 ((F0 70).toInt.toNat + j) x3) 69 ((F0 70).toInt.toNat + j) z 69 ((F0 70).toInt.toNat + i) = G 69 ((F0 70).toInt.toNat + i) := by
      intro v z i hi
      refine ⟨?_, ?_⟩
      · show gup (gup G 67 ((F0 70).toInt.toNat + j) v) 68 ((F0 70).toInt.toNat + j) x3 68 _ = _
        rw [gup_x (by omega)]
        rfl
      · rw [gup_x (by omega)]
        rfl
    unfold mb_chain_84
    refine PP.ite (fun c1 => ?_) (fun c1 => ?_)
    · have cl : x3.toInt ≤ 1 := i_le.mp c1
      have hw : ∀ w : Int32, (w = 13 ∨ w = 14) → ∀ v : Int32, PP (mb_chain_113 fu rc ag (F0 70) w (F 70) F (gup (gup G 67 ((F0 70).toInt.toNat + j) v) 68 ((F0 70).toInt.toNat + j) x3)) (fun r F1 G1 => TQ X 2 0 0 F0 G0 r F1 G1) := by
        intro w hw v
        unfold mb_chain_113
        refine PP.bind (mq_step w 0 0 F (gup (gup G 67 ((F0 70).toInt.toNat + j) v) 68 ((F0 70).toInt.toNat + j) x3)) ?_
        rintro _ F1 G1 ⟨k1, rfl, e1, g1, n1⟩
        dsimp only
        unfold mb_chain_118
        refine PP.ix (fun _ => ?_)
        rw [ix]
        have p68 : G1 68 = gup (gup G 67 ((F0 70).toInt.toNat + j) v) 68 ((F0 70).toInt.toNat + j) x3 68 := k1.2 68 rfl
        have p69 : G1 69 = G 69 := k1.2 69 rfl
        have top : gup G1 69 ((F0 70).toInt.toNat + j) (F 60) 68 ((F0 70).toInt.toNat + j) = x3 := by
          show G1 68 _ = _
          rw [p68]
          exact gup_i
        have lw : ∀ i, i < j → gup G1 69 ((F0 70).toInt.toNat + j) (F 60) 68 ((F0 70).toInt.toNat + i) = G 68 ((F0 70).toInt.toNat + i) ∧ gup G1 69 ((F0 70).toInt.toNat + j) (F 60) 69 ((F0 70).toInt.toNat + i) = G 69 ((F0 70).toInt.toNat + i) := by
          intro i hi
          refine ⟨?_, ?_⟩
          · show G1 68 _ = _
            rw [p68, gup_x (by omega)]
            rfl
          · rw [gup_x (by omega), p69]
        have q70 : F1 70 = F 70 := k1.1 70 rfl
        have jb : j ≤ 20 := by
          cases j with
          | zero => omega
          | succ i =>
            have a1 := (hlv i (by omega)).2.1
            have : ∀ k, k < i + 1 → (k : Int) ≤ (G 68 ((F0 70).toInt.toNat + k)).toInt := by
              intro k
              induction k with
              | zero => intro hk; exact (hlv 0 (by omega)).1
              | succ k ih =>
                intro hk
                have b1 := ih (by omega)
                have b2 := (hlv k (by omega)).2.2 hk
                omega
            have := this i (by omega)
            omega
        refine mt_ch_op ihK ihM ihT hT hag j F1 _ jb (KX.g rfl (KX.tr (hK2 v) k1 rfl rfl)) (MO.tr hM (MO.kx k1 rfl rfl)) ((k1.1 43 rfl).trans h43) (by rw [q70]; exact h70) (inc60 n1 e1) ?_ (by rw [q70]; exact i1) ?_ ?_
        · intro i hi
          have a := hPK i hi
          have b1 : gup G1 69 ((F0 70).toInt.toNat + j) (F 60) 68 i = G 68 i := by
            show G1 68 i = _
            rw [p68, gup_x (by omega)]
            rfl
          have b2 : gup G1 69 ((F0 70).toInt.toNat + j) (F 60) 69 i = G 69 i := by rw [gup_x (by omega), p69]
          exact ⟨b1.trans a.1, b2.trans a.2⟩
        · intro i hi
          by_cases ci : i = j
          · subst ci
            rw [top]
            exact ⟨by omega, by omega, fun q => by omega⟩
          · have q := hlv i (by omega)
            rw [(lw i (by omega)).1]
            refine ⟨q.1, q.2.1, fun q1 => ?_⟩
            by_cases cj : i + 1 = j
            · rw [cj, top]
              exact hj i cj
            · rw [(lw (i + 1) (by omega)).1]
              exact q.2.2 (by omega)
        · intro hl A s d hA hb
          have lb : s.length ≤ 560 := by have := bd.len hb t43.2; omega
          have sl := sig_len8 (s := s) j hlv
          have hl0 : LV F := LV.kx k1 rfl rfl rfl rfl hl
          have E0 := hL hl0 A s d hA hb
          have E1 : EX X F0 G0 A F (gup (gup G 67 ((F0 70).toInt.toNat + j) v) 68 ((F0 70).toInt.toNat + j) x3) (0 :: sig G (F0 70).toInt.toNat s j) d (hol G (F0 70).toInt.toNat s d j) := EX.st E0 rfl (fun k q1 q2 => by rw [gup_o (by omega), gup_o (by omega)])
          have E2 : EX X F0 G0 A F1 G1 (sig G (F0 70).toInt.toNat s j) d ((sN F, sig G (F0 70).toInt.toNat s j, d) :: hol G (F0 70).toInt.toNat s d j) := EX.cnd E1 n1 e1 g1 (by omega) hw d (Or.inr rfl)
          have f1 : sig (gup G1 69 ((F0 70).toInt.toNat + j) (F 60)) (F0 70).toInt.toNat s (j + 1) = sig G (F0 70).toInt.toNat s j := by
            show (if 1 < (gup G1 69 ((F0 70).toInt.toNat + j) (F 60) 68 ((F0 70).toInt.toNat + j)).toInt then _ else _) = _
            rw [top, if_neg (by omega)]
            exact sig_x j (fun i hi => (lw i hi).1)
          have f0 : sig (gup G1 69 ((F0 70).toInt.toNat + j) (F 60)) (F0 70).toInt.toNat s j = sig G (F0 70).toInt.toNat s j := sig_x j (fun i hi => (lw i hi).1)
          have f2 : hol (gup G1 69 ((F0 70).toInt.toNat + j) (F 60)) (F0 70).toInt.toNat s d (j + 1) = (sN F, sig G (F0 70).toInt.toNat s j, d) :: hol G (F0 70).toInt.toNat s d j := by
            show (if 1 < (gup G1 69 ((F0 70).toInt.toNat + j) (F 60) 68 ((F0 70).toInt.toNat + j)).toInt then _ else (((gup G1 69 ((F0 70).toInt.toNat + j) (F 60)) 69 ((F0 70).toInt.toNat + j)).toNatClampNeg, _, d) :: _) = _
            rw [top, if_neg (by omega), gup_i, f0, hol_x j lw]
          rw [f1, f2]
          exact EX.st E2 rfl (fun k q1 q2 => by rw [gup_o (by omega)])
      unfold mb_chain_101
      exact PP.ite (fun _ => hw 14 (Or.inr rfl) _) (fun _ => hw 13 (Or.inl rfl) _)
    · have cl : 1 < x3.toInt := by
        have q : ¬ x3.toInt ≤ 1 := fun q => c1 (i_le.mpr q)
        omega
      unfold mb_chain_97 mb_chain_118
      refine PP.ix (fun _ => ?_)
      rw [ix]
      have top : ∀ v : Int32, gup (gup (gup G 67 ((F0 70).toInt.toNat + j) v) 68 ((F0 70).toInt.toNat + j) x3) 69 ((F0 70).toInt.toNat + j) (-1) 68 ((F0 70).toInt.toNat + j) = x3 := fun v => gup_i (G := gup G 67 ((F0 70).toInt.toNat + j) v) (k := 68)
      have jb : j ≤ 20 := by
        cases j with
        | zero => omega
        | succ i =>
          have a1 := (hlv i (by omega)).2.1
          have : ∀ k, k < i + 1 → (k : Int) ≤ (G 68 ((F0 70).toInt.toNat + k)).toInt := by
            intro k
            induction k with
            | zero => intro hk; exact (hlv 0 (by omega)).1
            | succ k ih =>
              intro hk
              have b1 := ih (by omega)
              have b2 := (hlv k (by omega)).2.2 hk
              omega
          have := this i (by omega)
          omega
      refine mt_ch_op ihK ihM ihT hT hag j F _ jb (KX.g rfl (hK2 _)) hM h43 h70 h60 ?_ i1 ?_ ?_
      · intro i hi
        have a := hPK i hi
        refine ⟨?_, ?_⟩
        · show gup (gup G 67 ((F0 70).toInt.toNat + j) _) 68 ((F0 70).toInt.toNat + j) x3 68 i = _
          rw [gup_x (by omega)]
          exact a.1
        · rw [gup_x (by omega)]
          exact a.2
      · intro i hi
        by_cases ci : i = j
        · subst ci
          rw [top]
          exact ⟨by omega, by omega, fun q => by omega⟩
        · have q := hlv i (by omega)
          rw [(low _ _ i (by omega)).1]
          refine ⟨q.1, q.2.1, fun q1 => ?_⟩
          by_cases cj : i + 1 = j
          · rw [cj, top]
            exact hj i cj
          · rw [(low _ _ (i + 1) (by omega)).1]
            exact q.2.2 (by omega)
      · intro hl A s d hA hb
        have E0 := hL hl A s d hA hb
        have f1 : ∀ v : Int32, sig (gup (gup (gup G 67 ((F0 70).toInt.toNat + j) v) 68 ((F0 70).toInt.toNat + j) x3) 69 ((F0 70).toInt.toNat + j) (-1)) (F0 70).toInt.toNat s (j + 1) = 0 :: sig G (F0 70).toInt.toNat s j := by
          intro v
          show (if 1 < (gup (gup (gup G 67 ((F0 70).toInt.toNat + j) v) 68 ((F0 70).toInt.toNat + j) x3) 69 ((F0 70).toInt.toNat + j) (-1) 68 ((F0 70).toInt.toNat + j)).toInt then _ else _) = _
          rw [top, if_pos cl, sig_x j (fun i hi => (low v (-1) i hi).1)]
        have f2 : ∀ v : Int32, hol (gup (gup (gup G 67 ((F0 70).toInt.toNat + j) v) 68 ((F0 70).toInt.toNat + j) x3) 69 ((F0 70).toInt.toNat + j) (-1)) (F0 70).toInt.toNat s d (j + 1) = hol G (F0 70).toInt.toNat s d j := by
          intro v
          show (if 1 < (gup (gup (gup G 67 ((F0 70).toInt.toNat + j) v) 68 ((F0 70).toInt.toNat + j) x3) 69 ((F0 70).toInt.toNat + j) (-1) 68 ((F0 70).toInt.toNat + j)).toInt then _ else _) = _
          rw [top, if_pos cl, hol_x j (low v (-1))]
        rw [f1, f2]
        exact EX.st E0 rfl (fun k q1 q2 => by rw [gup_o (by omega), gup_o (by omega), gup_o (by omega)])
theorem mt_ch_19 (ihK : mKI1 rc) (ihM : mMOI rc) (ihT : mTI X L rc) (hT : TP X L F0 G0) (hag : ∀ (x2 : Int32) (F : PF) (G : PG), (x2 = 0 ∨ (x2 = 1 ∧ ∃ j, CS X F0 G0 F G j)) → PP (ag (F0 70) x2 F G) (fun r F1 G1 => TQ X 2 0 0 F0 G0 r F1 G1)) : ∀ (n : Nat) (x3 : Int32) (F : PF) (G : PG) (j : Nat), CS X F0 G0 F G j → (-1 ≤ x3.toInt ∧ x3.toInt ≤ 9) → PP (ml_chain_19 fu rc ag n (F0 70) x3 F G) (fun r F1 G1 => TQ X 2 0 0 F0 G0 r F1 G1) := by
  intro n
  induction n with
  | zero => intro x3 F G j _ _; exact PP.no
  | succ n ih =>
    intro x3 F G j h hx
    have h70 := h.2.2.2.1
    have t70 : 0 ≤ (F0 70).toInt := hT.2.2.2.2.2.2.2.1
    show PP (mb_chain_19 fu rc ag (ml_chain_19 fu rc ag n) (F0 70) x3 F G) _
    unfold mb_chain_19
    refine PP.ite (fun c => ?_) (fun c => ?_)
    · have := i_le.mp c
      exact mt_ch_49 ihK ihM ihT hT hag j x3 F G h hx (fun i hi => by omega)
    · have c1 := mt i_le.mpr c
      unfold mb_chain_27
      refine PP.ix (fun h6 => ?_)
      obtain ⟨i0, i1⟩ := vp_in_iff.mp h6
      obtain ⟨i, rfl⟩ : ∃ i, j = i + 1 := ⟨j - 1, by omega⟩
      have r70 := i_rng (F 70)
      have e70 : (F 70 - 1).toInt = (F 70).toInt - 1 := i_subn (F 70) rfl (by omega) (by omega)
      have ix : (F 70 - 1).toNatClampNeg = (F0 70).toInt.toNat + i := by show (F 70 - 1).toInt.toNat = _; omega
      refine PP.ite (fun c2 => ?_) (fun c2 => ?_)
      · refine mt_ch_49 ihK ihM ihT hT hag (i + 1) x3 F G h hx (fun k hk => ?_)
        have : k = i := by omega
        subst this
        rw [← ix]
        exact i_lt.mp c2
      · unfold mb_chain_42
        refine PP.bind (mt_binds (fu := fu) (j := i) hT h) ?_
        intro r F1 G1 h1
        dsimp only
        unfold mb_chain_46
        exact ih x3 F1 G1 i h1 hx
end CHAIN
theorem mt_ch_10 {fu : Nat} {X : TX} {L : List Nat} {rc : RC} {F0 : PF} {G0 : PG} (ihK : mKI1 rc) (ihM : mMOI rc) (ihT : mTI X L rc) (hT : TP X L F0 G0) : ∀ (n : Nat) (x2 : Int32) (F : PF) (G : PG), (x2 = 0 ∨ (x2 = 1 ∧ ∃ j, CS X F0 G0 F G j)) → PP (ml_chain_10 fu rc n (F0 70) x2 F G) (fun r F1 G1 => TQ X 2 0 0 F0 G0 r F1 G1) := by
  intro n
  induction n with
  | zero => intro x2 F G _; exact PP.no
  | succ n ih =>
    intro x2 F G h
    show PP (mb_chain_10 fu rc (ml_chain_10 fu rc n) (F0 70) x2 F G) _
    unfold mb_chain_10
    rcases h with rfl | ⟨rfl, j, h⟩
    · rw [if_pos rfl]
      exact PP.ret ⟨Or.inl rfl, fun q => absurd q (by decide)⟩
    · rw [if_neg (by decide)]
      unfold mb_chain_14
      refine PP.bind (mp_level F G) ?_
      rintro _ _ _ ⟨rfl, rfl, rfl⟩
      dsimp only
      unfold mb_chain_18
      exact mt_ch_19 ihK ihM ihT hT ih fu _ F G j h (lvl_rng _ _ _)
theorem mtt_chain {fu : Nat} {X : TX} {L : List Nat} (rc : RC) (ihK : mKI1 rc) (ihM : mMOI rc) (ihT : mTI X L rc) (F : PF) (G : PG) (hT : TP X L F G) : PP (mh_chain fu rc F G) (fun r' F' G' => TQ X 2 0 0 F G r' F' G') := by
  unfold mh_chain mb_chain_0
  refine PP.bind (PP.and (ihK 7 0 0 F G) (PP.and (ihM 7 0 0 F G) (ihT 7 0 0 F G hT))) ?_
  rintro r F1 G1 ⟨k1, m1, (rfl | rfl), u1⟩
  · dsimp only
    unfold mb_chain_9
    exact mt_ch_10 ihK ihM ihT hT fu 0 F1 G1 (Or.inl rfl)
  · dsimp only
    unfold mb_chain_9
    obtain ⟨a43, a70, a60, aPK, aTS⟩ := u1 rfl
    refine mt_ch_10 ihK ihM ihT hT fu 1 F1 G1 (Or.inr ⟨rfl, 0, k1, m1, a43, by rw [a70]; omega, a60, aPK, fun i hi => absurd hi (Nat.not_lt_zero _), ?_⟩)
    intro hl A s d hA hb
    have te : TE X F G F1 G1 8 (fun s => 0 :: s) := aTS hl
    exact te A s d hA (bd.mv (e := 0) (c := 0) hb rfl (by omega) (Nat.le_refl _) (by omega))
theorem mtS1 {fu : Nat} {X : TX} {L : List Nat} : ∀ d : Nat, mTI X L (mS1 fu d) := by
  intro d
  induction d with
  | zero => exact fun _ _ _ _ _ _ => PP.no
  | succ d ih =>
    intro i x y F G hT
    exact PP.ite (fun e => by subst e; exact mtt_argument (mS1 fu d) (mwS1 d) (mmS1 d) ih x y F G hT) (fun _ => PP.ite (fun e => by subst e; exact mtt_call (mS1 fu d) (mwS1 d) (mmS1 d) ih x y F G hT) (fun _ => PP.ite (fun e => by subst e; exact mtt_chain (mS1 fu d) (mwS1 d) (mmS1 d) ih F G hT) (fun _ => PP.ite (fun e => by subst e; exact mtt_element (mS1 fu d) (mwS1 d) (mmS1 d) ih x F G hT) (fun _ => PP.ite (fun e => by subst e; exact mtt_expression (mS1 fu d) (mwS1 d) (mmS1 d) ih F G hT) (fun _ => PP.ite (fun e => by subst e; exact mtt_inConstant (mS1 fu d) (mwS1 d) (mmS1 d) ih x F G hT) (fun _ => PP.ite (fun e => by subst e; exact mtt_named (mS1 fu d) (mwS1 d) (mmS1 d) ih x F G hT) (fun _ => PP.ite (fun e => by subst e; exact mtt_operand (mS1 fu d) (mwS1 d) (mmS1 d) ih F G hT) (fun _ => PP.ite (fun e => by subst e; exact mtt_plain (mS1 fu d) (mwS1 d) (mmS1 d) ih F G hT) (fun _ => PP.no)))))))))
