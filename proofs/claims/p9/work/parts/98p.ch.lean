def sig (G : PG) (b : Nat) (s : SH) : Nat → SH
  | 0 => s
  | j + 1 => if 1 < (G 68 (b + j)).toInt then 0 :: sig G b s j else sig G b s j
def hol (G : PG) (b : Nat) (s : SH) (d : Nat) : Nat → List (Nat × SH × Nat)
  | 0 => []
  | j + 1 => if 1 < (G 68 (b + j)).toInt then hol G b s d j else ((G 69 (b + j)).toNatClampNeg, sig G b s j, d) :: hol G b s d j
theorem sig_x {G G1 : PG} {b : Nat} {s : SH} : ∀ j : Nat, (∀ i, i < j → G1 68 (b + i) = G 68 (b + i)) → sig G1 b s j = sig G b s j := by
  intro j
  induction j with
  | zero => intro _; rfl
  | succ j ih =>
    intro h
    have e := ih (fun i hi => h i (by omega))
    show (if 1 < (G1 68 (b + j)).toInt then 0 :: sig G1 b s j else sig G1 b s j) = if 1 < (G 68 (b + j)).toInt then 0 :: sig G b s j else sig G b s j
    rw [h j (by omega), e]
theorem hol_x {G G1 : PG} {b : Nat} {s : SH} {d : Nat} : ∀ j : Nat, (∀ i, i < j → G1 68 (b + i) = G 68 (b + i) ∧ G1 69 (b + i) = G 69 (b + i)) → hol G1 b s d j = hol G b s d j := by
  intro j
  induction j with
  | zero => intro _; rfl
  | succ j ih =>
    intro h
    have e := ih (fun i hi => h i (by omega))
    have e1 : sig G1 b s j = sig G b s j := sig_x j (fun i hi => (h i (by omega)).1)
    show (if 1 < (G1 68 (b + j)).toInt then hol G1 b s d j else ((G1 69 (b + j)).toNatClampNeg, sig G1 b s j, d) :: hol G1 b s d j) = if 1 < (G 68 (b + j)).toInt then hol G b s d j else ((G 69 (b + j)).toNatClampNeg, sig G b s j, d) :: hol G b s d j
    rw [(h j (by omega)).1, (h j (by omega)).2, e, e1]
def lvOK (G : PG) (b j : Nat) : Prop := ∀ i, i < j → 0 ≤ (G 68 (b + i)).toInt ∧ (G 68 (b + i)).toInt ≤ 9 ∧ (i + 1 < j → (G 68 (b + i)).toInt < (G 68 (b + (i + 1))).toInt)
def tpL (G : PG) (b : Nat) : Nat → Nat
  | 0 => 0
  | j + 1 => ((G 68 (b + j)).toInt - 1).toNat
theorem sig_len {G : PG} {b : Nat} {s : SH} : ∀ j : Nat, lvOK G b j → (sig G b s j).length ≤ s.length + tpL G b j := by
  intro j
  induction j with
  | zero => intro _; exact Nat.le_refl _
  | succ j ih =>
    intro h
    have h1 := ih (fun i hi => ⟨(h i (by omega)).1, (h i (by omega)).2.1, fun q => (h i (by omega)).2.2 (by omega)⟩)
    have h2 := h j (by omega)
    have h3 : tpL G b j ≤ ((G 68 (b + j)).toInt - 1).toNat ∧ (1 < (G 68 (b + j)).toInt → tpL G b j + 1 ≤ ((G 68 (b + j)).toInt - 1).toNat) := by
      cases j with
      | zero => exact ⟨Nat.zero_le _, fun q => by show 0 + 1 ≤ _; omega⟩
      | succ i =>
        have h4 := h i (by omega)
        have h5 := h4.2.2 (by omega)
        refine ⟨?_, fun q => ?_⟩
        · show ((G 68 (b + i)).toInt - 1).toNat ≤ _
          omega
        · show ((G 68 (b + i)).toInt - 1).toNat + 1 ≤ _
          omega
    show (if 1 < (G 68 (b + j)).toInt then 0 :: sig G b s j else sig G b s j).length ≤ s.length + ((G 68 (b + j)).toInt - 1).toNat
    split
    · rename_i c
      have := h3.2 c
      show (sig G b s j).length + 1 ≤ _
      omega
    · have := h3.1
      omega
theorem sig_len8 {G : PG} {b : Nat} {s : SH} (j : Nat) (h : lvOK G b j) : (sig G b s j).length ≤ s.length + 8 := by
  have h1 := sig_len (s := s) j h
  cases j with
  | zero =>
    have : tpL G b 0 = 0 := rfl
    omega
  | succ j =>
    have h2 := (h j (by omega)).2.1
    have : tpL G b (j + 1) = ((G 68 (b + j)).toInt - 1).toNat := rfl
    omega
/-- between two operands of a chain: j operators wait -/
def CS (X : TX) (F0 : PF) (G0 : PG) (F : PF) (G : PG) (j : Nat) : Prop := KX [42, 43, 44, 45, 47, 48, 49, 55, 60, 62, 70] [56, 57, 58, 59, 67, 68, 69] F0 G0 F G ∧ MO F0 F ∧ F 43 = F0 43 ∧ (F 70).toInt = (F0 70).toInt + j ∧ 0 ≤ (F 60).toInt ∧ PKp F0 G0 G ∧ lvOK G (F0 70).toInt.toNat j ∧ (LV F → ∀ (A : AN) (s : SH) (d : Nat), A (sN F0) = (s, d, false) → bd 0 F0 s → EX X F0 G0 A F G (0 :: sig G (F0 70).toInt.toNat s j) d (hol G (F0 70).toInt.toNat s d j))
theorem mt_binds {fu : Nat} {X : TX} {L : List Nat} {F0 F : PF} {G0 G : PG} {j : Nat} (hT : TP X L F0 G0) (h : CS X F0 G0 F G (j + 1)) : PP (mf_binds fu F G) (fun _ F1 G1 => CS X F0 G0 F1 G1 j) := by
  obtain ⟨hK, hM, h43, h70, h60, hPK, hlv, hL⟩ := h
  have t43 : 0 ≤ (F0 43).toInt ∧ (F0 43).toInt ≤ 40 := ⟨hT.2.2.2.2.2.1, hT.2.2.2.2.2.2.1⟩
  have t70 : 0 ≤ (F0 70).toInt := hT.2.2.2.2.2.2.2.1
  have r70 := i_rng (F 70)
  have e70 : (F 70 - 1).toInt = (F 70).toInt - 1 := i_subn (F 70) rfl (by omega) (by omega)
  have ix : (F 70 - 1).toNatClampNeg = (F0 70).toInt.toNat + j := by show (F 70 - 1).toInt.toNat = _; omega
  have lvj : lvOK G (F0 70).toInt.toNat j := fun i hi => ⟨(hlv i (by omega)).1, (hlv i (by omega)).2.1, fun q => (hlv i (by omega)).2.2 (by omega)⟩
  unfold mf_binds mb_binds_0 mb_binds_10
  refine PP.ix (fun _ => ?_)
  refine PP.ite (fun c => ?_) (fun c => ?_)
  · have c1 : (G 68 ((F0 70).toInt.toNat + j)).toInt ≤ 1 := by
      rw [← ix]
      exact i_le.mp c
    have es : ∀ s : SH, sig G (F0 70).toInt.toNat s (j + 1) = sig G (F0 70).toInt.toNat s j := fun s => if_neg (by omega)
    have eh : ∀ (s : SH) (d : Nat), hol G (F0 70).toInt.toNat s d (j + 1) = ((G 69 ((F0 70).toInt.toNat + j)).toNatClampNeg, sig G (F0 70).toInt.toNat s j, d) :: hol G (F0 70).toInt.toNat s d j := fun s d => if_neg (by omega)
    unfold mb_binds_43
    refine PP.bind (mq_step 23 0 0 (fup F 70 (F 70 - 1)) G) ?_
    rintro _ F1 G1 ⟨k1, rfl, e1, g1, n1⟩
    dsimp only
    unfold mb_binds_51
    refine PP.bind (mq_step 12 0 0 F1 G1) ?_
    rintro _ F2 G2 ⟨k2, rfl, e2, g2, n2⟩
    dsimp only
    unfold mb_binds_60
    refine PP.ix (fun _ => PP.ix (fun _ => ?_))
    unfold mb_binds_79
    refine PP.bind (mq_step 0 (1 - _) 0 F2 (gup G2 57 (G2 69 (F2 70).toNatClampNeg).toNatClampNeg (F2 60))) ?_
    rintro _ F3 G3 ⟨k3, rfl, e3, g3, n3⟩
    dsimp only
    unfold mb_binds_88
    refine PP.ix (fun _ => ?_)
    unfold mb_binds_99
    refine PP.ret ?_
    have q70 : F2 70 = F 70 - 1 := (k2.1 70 rfl).trans (k1.1 70 rfl)
    have q69 : G2 69 = G 69 := (k2.2 69 rfl).trans (k1.2 69 rfl)
    have KK : KX [60, 70] [56, 57, 58] F G F3 (gup G3 57 (F1 60).toNatClampNeg (F3 60)) := KX.g rfl (KX.tr (KX.g (k := 57) rfl (KX.tr (KX.tr (KX.f (k := 70) rfl KX.rf) k1 rfl rfl) k2 rfl rfl)) k3 rfl rfl)
    have p68 : G3 68 = G 68 := (k3.2 68 rfl).trans ((k2.2 68 rfl).trans (k1.2 68 rfl))
    have p69 : G3 69 = G 69 := (k3.2 69 rfl).trans ((k2.2 69 rfl).trans (k1.2 69 rfl))
    refine ⟨KX.tr hK KK rfl rfl, MO.tr hM (MO.kx KK rfl rfl), (KK.1 43 rfl).trans h43, ?_, inc60 n3 e3, PKp.kx hPK KK rfl rfl, ?_, ?_⟩
    · have : F3 70 = F 70 - 1 := (k3.1 70 rfl).trans q70
      rw [this, e70]
      omega
    · intro i hi
      have := lvj i hi
      show 0 ≤ (G3 68 _).toInt ∧ (G3 68 _).toInt ≤ 9 ∧ (_ → (G3 68 _).toInt < (G3 68 _).toInt)
      rw [p68]
      exact this
    · intro hl A s d hA hb
      have lb : s.length ≤ 560 := by have := bd.len hb t43.2; omega
      have sl := sig_len8 (s := s) j lvj
      have hl0 : LV F := LV.kx KK rfl rfl rfl rfl hl
      have E0 := hL hl0 A s d hA hb
      rw [es, eh] at E0
      have E1 : EX X F0 G0 A F1 G1 (0 :: sig G (F0 70).toInt.toNat s j) d (((G 69 ((F0 70).toInt.toNat + j)).toNatClampNeg, sig G (F0 70).toInt.toNat s j, d) :: hol G (F0 70).toInt.toNat s d j) := EX.stp (EX.st E0 (F1 := fup F 70 (F 70 - 1)) (G1 := G) rfl (fun _ _ _ => rfl)) n1 e1 g1 (by simp only [List.length_cons]; omega) (fun _ => Or.inr (Or.inr (Or.inr (Or.inl ⟨rfl, _, rfl, rfl⟩))))
      have E2 : EX X F0 G0 A F2 G2 (sig G (F0 70).toInt.toNat s j) d ([(sN F1, 0 :: sig G (F0 70).toInt.toNat s j, d)] ++ ((G 69 ((F0 70).toInt.toNat + j)).toNatClampNeg, sig G (F0 70).toInt.toNat s j, d) :: hol G (F0 70).toInt.toNat s d j) := EX.gos E1 n2 e2 g2 (by simp only [List.length_cons]; omega) (sig G (F0 70).toInt.toNat s j) d d (Or.inr rfl)
      have E3 := EX.patch E2 (inc60 n2 e2)
      have ep : (G2 69 (F2 70).toNatClampNeg).toNatClampNeg = (G 69 ((F0 70).toInt.toNat + j)).toNatClampNeg := by rw [q69, q70, ix]
      rw [← ep] at E3
      have E4 : EX X F0 G0 A F3 G3 (0 :: sig G (F0 70).toInt.toNat s j) d ([] ++ (sN F1, 0 :: sig G (F0 70).toInt.toNat s j, d) :: hol G (F0 70).toInt.toNat s d j) := EX.stp E3 n3 e3 g3 (by omega) (fun _ => Or.inl ⟨rfl, rfl⟩)
      have E5 := EX.patch E4 (inc60 n3 e3)
      have f1 : sig (gup G3 57 (F1 60).toNatClampNeg (F3 60)) (F0 70).toInt.toNat s j = sig G (F0 70).toInt.toNat s j := sig_x j (fun i _ => by show G3 68 _ = _; rw [p68])
      have f2 : hol (gup G3 57 (F1 60).toNatClampNeg (F3 60)) (F0 70).toInt.toNat s d j = hol G (F0 70).toInt.toNat s d j := hol_x j (fun i _ => ⟨by show G3 68 _ = _; rw [p68], by show G3 69 _ = _; rw [p69]⟩)
      rw [f1, f2]
      exact E5
  · have c1 : 1 < (G 68 ((F0 70).toInt.toNat + j)).toInt := by
      rw [← ix]
      have := mt i_le.mpr c
      have l1 : (1 : Int32).toInt = 1 := rfl
      have q : ¬ (G 68 (F 70 - 1).toNatClampNeg).toInt ≤ 1 := this
      omega
    have es : ∀ s : SH, sig G (F0 70).toInt.toNat s (j + 1) = 0 :: sig G (F0 70).toInt.toNat s j := fun s => if_pos c1
    have eh : ∀ (s : SH) (d : Nat), hol G (F0 70).toInt.toNat s d (j + 1) = hol G (F0 70).toInt.toNat s d j := fun s d => if_pos c1
    unfold mb_binds_25
    refine PP.ix (fun _ => ?_)
    refine PP.bind (mq_step 10 _ 0 (fup F 70 (F 70 - 1)) G) ?_
    rintro _ F1 G1 ⟨k1, rfl, e1, g1, n1⟩
    dsimp only
    unfold mb_binds_41
    refine PP.ret ?_
    have KK : KX [60, 70] [56, 57, 58] F G F1 G1 := KX.tr (KX.f (k := 70) rfl KX.rf) k1 rfl rfl
    have p68 : G1 68 = G 68 := k1.2 68 rfl
    have p69 : G1 69 = G 69 := k1.2 69 rfl
    refine ⟨KX.tr hK KK rfl rfl, MO.tr hM (MO.kx KK rfl rfl), (KK.1 43 rfl).trans h43, ?_, inc60 n1 e1, PKp.kx hPK KK rfl rfl, ?_, ?_⟩
    · have : F1 70 = F 70 - 1 := k1.1 70 rfl
      rw [this, e70]
      omega
    · intro i hi
      have := lvj i hi
      rw [p68]
      exact this
    · intro hl A s d hA hb
      have lb : s.length ≤ 560 := by have := bd.len hb t43.2; omega
      have sl := sig_len8 (s := s) j lvj
      have hl0 : LV F := LV.kx KK rfl rfl rfl rfl hl
      have E0 := hL hl0 A s d hA hb
      rw [es, eh] at E0
      have E1 : EX X F0 G0 A F1 G1 (0 :: sig G (F0 70).toInt.toNat s j) d (hol G (F0 70).toInt.toNat s d j) := EX.stp (EX.st E0 (F1 := fup F 70 (F 70 - 1)) (G1 := G) rfl (fun _ _ _ => rfl)) n1 e1 g1 (by simp only [List.length_cons]; omega) (fun _ => Or.inr (Or.inl ⟨rfl, _, rfl, rfl⟩))
      have f1 : sig G1 (F0 70).toInt.toNat s j = sig G (F0 70).toInt.toNat s j := sig_x j (fun i _ => by rw [p68])
      have f2 : hol G1 (F0 70).toInt.toNat s d j = hol G (F0 70).toInt.toNat s d j := hol_x j (fun i _ => ⟨by rw [p68], by rw [p69]⟩)
      rw [f1, f2]
      exact E1
