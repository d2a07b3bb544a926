/-- the text at a place -/
def atv (F : PF) (G : PG) (x : Int32) : Int32 := if F 3 ≤ x then 0 else G 1 x.toNatClampNeg
def TXT (F : PF) (G : PG) : Prop := 0 ≤ (F 3).toInt ∧ (F 3).toInt ≤ 4000 ∧ ∀ j : Nat, 0 ≤ (G 1 j).toInt ∧ (G 1 j).toInt ≤ 255
theorem TXT.kx {a b : List Nat} {F F1 : PF} {G G1 : PG} (h : TXT F G) (K : KX a b F G F1 G1) (e : a.contains 3 = false) (e1 : b.contains 1 = false) : TXT F1 G1 := by
  unfold TXT
  rw [K.1 3 e, K.2 1 e1]
  exact h
theorem atv.kx {a b : List Nat} {F F1 : PF} {G G1 : PG} (K : KX a b F G F1 G1) (e : a.contains 3 = false) (e1 : b.contains 1 = false) (x : Int32) : atv F1 G1 x = atv F G x := by
  unfold atv
  rw [K.1 3 e, K.2 1 e1]
theorem atv.rng {F : PF} {G : PG} (h : TXT F G) (x : Int32) : 0 ≤ (atv F G x).toInt ∧ (atv F G x).toInt ≤ 255 := by
  unfold atv
  split
  · exact ⟨by decide, by decide⟩
  · exact h.2.2 _
theorem atv.in {F : PF} {G : PG} {x : Int32} (h : ¬ atv F G x = 0) : x.toInt < (F 3).toInt := by
  unfold atv at h
  split at h
  · exact absurd rfl h
  · rename_i c
    have := mt i_le.mpr c
    omega
theorem mz_at {fu : Nat} (x : Int32) (F : PF) (G : PG) (h : TXT F G) (hx : 0 ≤ x.toInt) : WP (mf_at fu x F G) (fun r F1 G1 => r = atv F G x ∧ F = F1 ∧ G = G1) := by
  unfold mf_at mb_at_0
  refine WP.ite (fun c => ?_) (fun c => ?_)
  · unfold mb_at_17 mb_at_18
    refine WP.ret ⟨?_, rfl, rfl⟩
    unfold atv
    rw [if_pos c]
  · have c1 := mt i_le.mpr c
    unfold mb_at_8
    refine WP.ix (vp_in_iff.mpr ⟨hx, by have := h.2.1; omega⟩) ?_
    unfold mb_at_18
    refine WP.ret ⟨?_, rfl, rfl⟩
    unfold atv
    rw [if_neg c]
def isLt (x : Int32) : Bool := decide ((97 ≤ x.toInt ∧ x.toInt ≤ 122) ∨ (65 ≤ x.toInt ∧ x.toInt ≤ 90) ∨ x.toInt = 95)
def isDg (x : Int32) : Bool := decide (48 ≤ x.toInt ∧ x.toInt ≤ 57)
def b2i (b : Bool) : Int32 := if b then 1 else 0
theorem mz_isLetter {fu : Nat} (x : Int32) (F : PF) (G : PG) : WP (mf_isLetter fu x F G) (fun r F1 G1 => r = b2i (isLt x) ∧ F = F1 ∧ G = G1) := by
  have l97 : (97 : Int32).toInt = 97 := rfl
  have l122 : (122 : Int32).toInt = 122 := rfl
  have l65 : (65 : Int32).toInt = 65 := rfl
  have l90 : (90 : Int32).toInt = 90 := rfl
  have l95 : (95 : Int32).toInt = 95 := rfl
  have yes : isLt x = true → WP (mb_isLetter_30 fu F G) (fun r F1 G1 => r = b2i (isLt x) ∧ F = F1 ∧ G = G1) := fun q => by
    unfold mb_isLetter_30 mb_isLetter_35
    exact WP.bz (Or.inr rfl) (WP.ret ⟨by rw [q]; rfl, rfl, rfl⟩)
  have no : isLt x = false → WP (mb_isLetter_34 fu F G) (fun r F1 G1 => r = b2i (isLt x) ∧ F = F1 ∧ G = G1) := fun q => by
    unfold mb_isLetter_34 mb_isLetter_35
    exact WP.bz (Or.inl rfl) (WP.ret ⟨by rw [q]; rfl, rfl, rfl⟩)
  have h24 : ¬ (97 ≤ x.toInt ∧ x.toInt ≤ 122) → ¬ (65 ≤ x.toInt ∧ x.toInt ≤ 90) → WP (mb_isLetter_24 fu x F G) (fun r F1 G1 => r = b2i (isLt x) ∧ F = F1 ∧ G = G1) := fun q1 q2 => by
    unfold mb_isLetter_24
    refine WP.ite (fun c => yes (decide_eq_true (Or.inr (Or.inr ?_)))) (fun c => no (decide_eq_false ?_))
    · have := i_eq.mp c
      omega
    · have := mt i_eq.mpr c
      omega
  have h12 : ¬ (97 ≤ x.toInt ∧ x.toInt ≤ 122) → WP (mb_isLetter_12 fu x F G) (fun r F1 G1 => r = b2i (isLt x) ∧ F = F1 ∧ G = G1) := fun q1 => by
    unfold mb_isLetter_12
    refine WP.ite (fun c => h24 q1 ?_) (fun c => ?_)
    · have := i_lt.mp c
      omega
    · have := mt i_lt.mpr c
      unfold mb_isLetter_18
      refine WP.ite (fun c => yes (decide_eq_true (Or.inr (Or.inl ?_)))) (fun c => h24 q1 ?_)
      · have := i_le.mp c
        omega
      · have := mt i_le.mpr c
        omega
  unfold mf_isLetter mb_isLetter_0
  refine WP.ite (fun c => h12 ?_) (fun c => ?_)
  · have := i_lt.mp c
    omega
  · have := mt i_lt.mpr c
    unfold mb_isLetter_6
    refine WP.ite (fun c => yes (decide_eq_true (Or.inl ?_))) (fun c => h12 ?_)
    · have := i_le.mp c
      omega
    · have := mt i_le.mpr c
      omega
theorem mz_isDigit {fu : Nat} (x : Int32) (F : PF) (G : PG) : WP (mf_isDigit fu x F G) (fun r F1 G1 => r = b2i (isDg x) ∧ F = F1 ∧ G = G1) := by
  have l48 : (48 : Int32).toInt = 48 := rfl
  have l57 : (57 : Int32).toInt = 57 := rfl
  unfold mf_isDigit mb_isDigit_0 mb_isDigit_6 mb_isDigit_16 mb_isDigit_12 mb_isDigit_17
  refine WP.ite (fun c => WP.bz (Or.inl rfl) (WP.ret ⟨?_, rfl, rfl⟩)) (fun c => WP.ite (fun c1 => WP.bz (Or.inl rfl) (WP.ret ⟨?_, rfl, rfl⟩)) (fun c1 => WP.bz (Or.inr rfl) (WP.ret ⟨?_, rfl, rfl⟩)))
  · have := i_lt.mp c
    rw [show isDg x = false from decide_eq_false (by omega)]
    rfl
  · have := i_lt.mp c1
    rw [show isDg x = false from decide_eq_false (by omega)]
    rfl
  · have := mt i_lt.mpr c
    have := mt i_lt.mpr c1
    rw [show isDg x = true from decide_eq_true (by omega)]
    rfl
theorem mz_isInner {fu : Nat} (x : Int32) (F : PF) (G : PG) : WP (mf_isInner fu x F G) (fun r F1 G1 => r = b2i (isLt x || isDg x) ∧ F = F1 ∧ G = G1) := by
  unfold mf_isInner mb_isInner_0
  refine WP.bind (mz_isLetter x F G) ?_
  rintro _ _ _ ⟨rfl, rfl, rfl⟩
  dsimp only
  unfold mb_isInner_4
  cases isLt x
  · rw [if_pos (show b2i false = 0 from rfl)]
    unfold mb_isInner_7
    refine WP.bind (mz_isDigit x F G) ?_
    rintro _ _ _ ⟨rfl, rfl, rfl⟩
    dsimp only
    unfold mb_isInner_11 mb_isInner_18 mb_isInner_14 mb_isInner_19
    cases isDg x
    · rw [if_pos (show b2i false = 0 from rfl)]
      exact WP.bz (Or.inl rfl) (WP.ret ⟨rfl, rfl, rfl⟩)
    · rw [if_neg (show ¬ b2i true = 0 by decide)]
      exact WP.bz (Or.inr rfl) (WP.ret ⟨rfl, rfl, rfl⟩)
  · rw [if_neg (show ¬ b2i true = 0 by decide)]
    unfold mb_isInner_14 mb_isInner_19
    exact WP.bz (Or.inr rfl) (WP.ret ⟨rfl, rfl, rfl⟩)
/-- the rows of words and of signs -/
def cS (i p : Nat) : Int32 := (((bytS.getD i []).getD p 0 &&& 255).toUInt32 % 65536).toInt32
def cn (i : Nat) : Nat → Nat
  | 0 => 0
  | p + 1 => cn i p + (if 1 ≤ p ∧ cS i p = 32 then 1 else 0)
def lnS (i : Nat) : Nat := lenS.getD i 0
theorem row_end : (∀ p, p < 118 → ¬ cS 0 p = 32 → p + 1 < 118) ∧ (∀ p, p < 77 → ¬ cS 1 p = 32 → p + 1 < 77) := by decide +kernel
theorem row_len0 : ∀ p, p < 118 → (1 ≤ p ∧ cS 0 (p - 1) = 32 ∧ (cn 0 p = 14 ∨ cn 0 p = 15)) → (¬ cS 0 p = 32 ∧ ¬ cS 0 (p + 1) = 32) := by decide +kernel
theorem row_len1 : ∀ p, p < 77 → (1 ≤ p ∧ cS 1 (p - 1) = 32 ∧ cn 1 p ≤ 2) → (¬ cS 1 p = 32 ∧ ¬ cS 1 (p + 1) = 32 ∧ ¬ cS 1 (p + 2) = 32) := by decide +kernel
/-- how long a word or a sign is at least -/
def OKR (i : Nat) (r n : Int32) : Prop := r = -1 ∨ (0 ≤ r.toInt ∧ (i = 0 → (r.toInt = 14 ∨ r.toInt = 15) → 2 ≤ n.toInt) ∧ (i = 1 → r.toInt ≤ 2 → 3 ≤ n.toInt))
theorem mz_charAt {fu : Nat} (i : Nat) (hi : i < 2) (k : Int32) (F : PF) (G : PG) (h0 : 0 ≤ k.toInt) (h1 : k.toInt < lnS i) : WP (mf_J0_charAt_5068e fu i k F G) (fun r F1 G1 => r = cS i k.toNatClampNeg ∧ F = F1 ∧ G = G1) := by
  unfold mf_J0_charAt_5068e
  rw [if_pos (by omega)]
  refine WP.ix (vp_in_iff.mpr ⟨h0, h1⟩) (WP.ret ⟨rfl, rfl, rfl⟩)
theorem mz_length {fu : Nat} (i : Nat) (hi : i < 2) (F : PF) (G : PG) : WP (mf_J0_length_8abf5 fu i F G) (fun r F1 G1 => r.toInt = lnS i ∧ F = F1 ∧ G = G1) := by
  unfold mf_J0_length_8abf5
  rw [if_pos (by omega)]
  refine WP.ret ⟨?_, rfl, rfl⟩
  have : i = 0 ∨ i = 1 := by omega
  rcases this with rfl | rfl
  · decide
  · decide
theorem row_nx {i : Nat} (hi : i < 2) {p : Nat} (hp : p < lnS i) (h : ¬ cS i p = 32) : p + 1 < lnS i := by
  have : i = 0 ∨ i = 1 := by omega
  rcases this with rfl | rfl
  · exact row_end.1 p hp h
  · exact row_end.2 p hp h
theorem lnS_le {i : Nat} (hi : i < 2) : 1 < lnS i ∧ lnS i ≤ 118 := by
  have : i = 0 ∨ i = 1 := by omega
  rcases this with rfl | rfl
  · exact ⟨by decide, by decide⟩
  · exact ⟨by decide, by decide⟩
theorem mz_placeIn {fu : Nat} (hfu : 8589934592 ≤ fu) (i : Nat) (hi : i < 2) (x n : Int32) (F : PF) (G : PG) (h : TXT F G) (hx : 0 ≤ x.toInt ∧ x.toInt ≤ 4000) (hn : 0 ≤ n.toInt ∧ n.toInt ≤ 4000) : WP (mf_placeIn fu i x n F G) (fun r F1 G1 => OKR i r n ∧ F = F1 ∧ G = G1) := by
  obtain ⟨ll, lh⟩ := lnS_le hi
  have m1 : (1 : Int32).toInt = 1 := rfl
  have m0 : (0 : Int32).toInt = 0 := rfl
  -- over the words that follow
  have outer : ∀ (m : Nat) (k w : Int32), 1 ≤ k.toInt → k.toInt ≤ lnS i → lnS i - k.toInt.toNat < m → cS i (k.toInt.toNat - 1) = 32 → w.toInt = cn i k.toInt.toNat → w.toInt ≤ k.toInt → WP (ml_placeIn_6 fu m i x n k w F G) (fun r F1 G1 => OKR i r n ∧ F = F1 ∧ G = G1) := by
    intro m
    induction m with
    | zero => intro k w _ _ q; exact absurd q (Nat.not_lt_zero _)
    | succ m ihm =>
      intro k w k1 k2 km ks kw kle
      show WP (mb_placeIn_6 fu (ml_placeIn_6 fu m) i x n k w F G) _
      unfold mb_placeIn_6
      refine WP.bind (mz_length i hi F G) ?_
      rintro z _ _ ⟨hz, rfl, rfl⟩
      dsimp only
      unfold mb_placeIn_12
      refine WP.ite (fun _ => ?_) (fun c => ?_)
      · unfold mb_placeIn_113
        exact WP.ret ⟨Or.inl rfl, rfl, rfl⟩
      · have c1 := mt i_le.mpr c
        -- to the end of the word
        have skip : ∀ (m2 : Nat) (k : Int32), 1 ≤ k.toInt → k.toInt < lnS i → lnS i - k.toInt.toNat < m2 → lnS i - k.toInt.toNat ≤ m → w.toInt = cn i k.toInt.toNat → w.toInt ≤ k.toInt → WP (ml_placeIn_87 fu (ml_placeIn_6 fu m) m2 i x n k w F G) (fun r F1 G1 => OKR i r n ∧ F = F1 ∧ G = G1) := by
          intro m2
          induction m2 with
          | zero => intro k _ _ q; exact absurd q (Nat.not_lt_zero _)
          | succ m2 ih2 =>
            intro k k1 k2 km2 km kw kle
            show WP (mb_placeIn_87 fu (ml_placeIn_6 fu m) (ml_placeIn_87 fu (ml_placeIn_6 fu m) m2) i x n k w F G) _
            unfold mb_placeIn_87
            refine WP.bind (mz_charAt i hi k F G (by omega) (by omega)) ?_
            rintro _ _ _ ⟨rfl, rfl, rfl⟩
            dsimp only
            have ek : (k + 1).toInt = k.toInt + 1 := i_addn k rfl (by omega) (by omega)
            have nk : (k + 1).toInt.toNat = k.toInt.toNat + 1 := by omega
            unfold mb_placeIn_93
            refine WP.ite (fun c => ?_) (fun c => ?_)
            · unfold mb_placeIn_104
              have ew : (w + 1).toInt = w.toInt + 1 := i_addn w rfl (by omega) (by omega)
              have c : cS i k.toInt.toNat = 32 := c
              refine ihm (k + 1) (w + 1) (by omega) (by omega) (by omega) (by rw [nk]; exact c) ?_ (by omega)
              rw [nk, ew]
              show w.toInt + 1 = ((cn i k.toInt.toNat + (if 1 ≤ k.toInt.toNat ∧ cS i k.toInt.toNat = 32 then 1 else 0) : Nat) : Int)
              rw [if_pos ⟨by omega, c⟩]
              omega
            · unfold mb_placeIn_98
              have c : ¬ cS i k.toInt.toNat = 32 := c
              have nx := row_nx hi (p := k.toInt.toNat) (by omega) c
              refine ih2 (k + 1) (by omega) (by omega) (by omega) (by omega) ?_ (by omega)
              rw [nk]
              show w.toInt = ((cn i k.toInt.toNat + (if 1 ≤ k.toInt.toNat ∧ cS i k.toInt.toNat = 32 then 1 else 0) : Nat) : Int)
              rw [if_neg (fun q => c q.2)]
              omega
        have after : WP (ml_placeIn_87 fu (ml_placeIn_6 fu m) fu i x n k w F G) (fun r F1 G1 => OKR i r n ∧ F = F1 ∧ G = G1) := skip fu k k1 (by omega) (by omega) (by omega) kw kle
        -- how far the word agrees
        have inner : ∀ (m3 : Nat) (a : Int32), 0 ≤ a.toInt → k.toInt + a.toInt < lnS i → lnS i - (k.toInt + a.toInt).toNat < m3 → (∀ b : Nat, (b : Int) < a.toInt → ¬ cS i (k.toInt.toNat + b) = 32) → WP (ml_placeIn_18 fu (ml_placeIn_6 fu m) m3 i x n k w a F G) (fun r F1 G1 => OKR i r n ∧ F = F1 ∧ G = G1) := by
          intro m3
          induction m3 with
          | zero => intro a _ _ q; exact absurd q (Nat.not_lt_zero _)
          | succ m3 ih3 =>
            intro a a0 a1 am ab
            show WP (mb_placeIn_18 fu (ml_placeIn_6 fu m) (ml_placeIn_18 fu (ml_placeIn_6 fu m) m3) i x n k w a F G) _
            have ea : (k + a).toInt = k.toInt + a.toInt := i_addn k rfl (by omega) (by omega)
            have na : (k + a).toNatClampNeg = k.toInt.toNat + a.toInt.toNat := by show (k + a).toInt.toNat = _; omega
            have stop : WP (mb_placeIn_64 fu (ml_placeIn_6 fu m) i x n k w a F G) (fun r F1 G1 => OKR i r n ∧ F = F1 ∧ G = G1) := by
              unfold mb_placeIn_64
              refine WP.ite (fun c => ?_) (fun _ => after)
              unfold mb_placeIn_70
              refine WP.bind (mz_charAt i hi (k + a) F G (by omega) (by omega)) ?_
              rintro _ _ _ ⟨rfl, rfl, rfl⟩
              dsimp only
              unfold mb_placeIn_79
              refine WP.ite (fun c32 => ?_) (fun _ => after)
              unfold mb_placeIn_84
              refine WP.ret ⟨Or.inr ⟨by omega, fun hi0 hw => ?_, fun hi1 hw => ?_⟩, rfl, rfl⟩
              · subst hi0
                have q := row_len0 k.toInt.toNat (by show k.toInt.toNat < lnS 0; omega) ⟨by omega, ks, by omega⟩
                rw [na] at c32
                rw [← c]
                by_cases z0 : a.toInt = 0
                · rw [z0] at c32
                  exact absurd c32 q.1
                · by_cases z1 : a.toInt = 1
                  · rw [z1] at c32
                    exact absurd c32 q.2
                  · omega
              · subst hi1
                have q := row_len1 k.toInt.toNat (by show k.toInt.toNat < lnS 1; omega) ⟨by omega, ks, by omega⟩
                rw [na] at c32
                rw [← c]
                by_cases z0 : a.toInt = 0
                · rw [z0] at c32
                  exact absurd c32 q.1
                · by_cases z1 : a.toInt = 1
                  · rw [z1] at c32
                    exact absurd c32 q.2.1
                  · by_cases z2 : a.toInt = 2
                    · rw [z2] at c32
                      exact absurd c32 q.2.2
                    · omega
            unfold mb_placeIn_18
            refine WP.bind (mz_charAt i hi (k + a) F G (by omega) (by omega)) ?_
            rintro _ _ _ ⟨rfl, rfl, rfl⟩
            dsimp only
            unfold mb_placeIn_27
            refine WP.ite (fun _ => stop) (fun c32 => ?_)
            unfold mb_placeIn_32
            refine WP.ite (fun _ => stop) (fun cn_ => ?_)
            have cn1 := mt i_le.mpr cn_
            unfold mb_placeIn_38
            refine WP.bind (mz_charAt i hi (k + a) F G (by omega) (by omega)) ?_
            rintro _ _ _ ⟨rfl, rfl, rfl⟩
            dsimp only
            unfold mb_placeIn_47
            have ex : (x + a).toInt = x.toInt + a.toInt := i_addn x rfl (by omega) (by omega)
            refine WP.bind (mz_at (x + a) F G h (by omega)) ?_
            rintro _ _ _ ⟨rfl, rfl, rfl⟩
            dsimp only
            unfold mb_placeIn_55
            refine WP.ite (fun _ => ?_) (fun _ => stop)
            unfold mb_placeIn_58
            have e1 : (a + 1).toInt = a.toInt + 1 := i_addn a rfl (by omega) (by omega)
            rw [na] at c32
            have nx := row_nx hi (p := k.toInt.toNat + a.toInt.toNat) (by omega) c32
            refine ih3 (a + 1) (by omega) (by omega) (by omega) (fun b hb => ?_)
            by_cases cb : (b : Int) < a.toInt
            · exact ab b cb
            · have : b = a.toInt.toNat := by omega
              rw [this]
              exact c32
        unfold mb_placeIn_15
        refine inner fu 0 (by omega) (by omega) (by omega) (fun b hb => ?_)
        omega
  unfold mf_placeIn mb_placeIn_0
  have e1 : (1 : Int32).toInt.toNat = 1 := rfl
  refine outer fu 1 0 (by omega) (by omega) (by omega) ?_ ?_ (by omega)
  · have : i = 0 ∨ i = 1 := by omega
    rcases this with rfl | rfl
    · decide
    · decide
  · rw [e1]
    have : i = 0 ∨ i = 1 := by omega
    rcases this with rfl | rfl
    · decide
    · decide
