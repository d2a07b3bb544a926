theorem i_shl1 {s : Int32} (h : 0 ≤ s.toInt ∧ s.toInt ≤ 3) : 1 ≤ ((1 : Int32) <<< (s &&& 31)).toInt ∧ ((1 : Int32) <<< (s &&& 31)).toInt ≤ 8 := by
  have e : s = 0 ∨ s = 1 ∨ s = 2 ∨ s = 3 := by
    simp only [i_eq, show (0 : Int32).toInt = 0 from rfl, show (1 : Int32).toInt = 1 from rfl, show (2 : Int32).toInt = 2 from rfl, show (3 : Int32).toInt = 3 from rfl]
    omega
  rcases e with rfl | rfl | rfl | rfl <;> decide
theorem l_nz {b : Int32} (h : ¬ b = 0) : ¬ (b.toInt64 &&& (4294967295 : Int64)) = 0 := by
  intro q
  refine h (Int32.toBitVec.inj ?_)
  have e := congrArg (fun z : Int64 => z.toBitVec.toNat) q
  have e2 : (b.toInt64 &&& (4294967295 : Int64)).toBitVec.toNat = b.toBitVec.toNat := by
    rw [Int64.toBitVec_and, BitVec.toNat_and, show (4294967295 : Int64).toBitVec.toNat = 2 ^ 32 - 1 from rfl, Nat.and_two_pow_sub_one_eq_mod, Int32.toBitVec_toInt64, BitVec.toNat_signExtend]
    have := b.toBitVec.isLt
    simp only [BitVec.toNat_setWidth]
    split <;> omega
  have e := e2.symm.trans e
  exact BitVec.eq_of_toNat_eq e
theorem cs_J0_charAt_5068e {fu : Nat} (hfu : 8589934592 ≤ fu) (i : Nat) (k : Int32) (F : PF) (G : PG) (hI : CI F G) (h4 : i < 4) (hk : vp_in k (lenS.getD i 0)) : WP (cf_J0_charAt_5068e fu i k F G) (fun r' F' G' => F = F' ∧ G = G' ∧ True) := by
  unfold cf_J0_charAt_5068e
  exact WP.lt h4 (WP.ix hk (WP.ret ⟨rfl, rfl, trivial⟩))
theorem cs_length {fu : Nat} (i : Nat) (F : PF) (G : PG) (h4 : i < 4) : WP (cf_J0_length_8abf5 fu i F G) (fun r' F' G' => F = F' ∧ G = G' ∧ r' = nI (lenS.getD i 0)) := by
  unfold cf_J0_length_8abf5
  refine WP.lt h4 (WP.ret ⟨rfl, rfl, ?_⟩)
  match i, h4 with
  | 0, _ => decide
  | 1, _ => decide
  | 2, _ => decide
  | 3, _ => decide
  | n + 4, h => exact absurd h (by omega)
theorem cz_indexOfChar {fu i : Nat} (h4 : i < 4) {F : PF} {G : PG} : ∀ (n : Nat) (x3 x4 x5 : Int32), 0 ≤ x5.toInt → x3.toInt ≤ (lenS.getD i 0 : Nat) → (2147483647 - x5.toInt).toNat < n → WP (cl_J1_indexOfChar_4cfef_7 fu n i x3 x4 x5 F G) (fun r' F' G' => F = F' ∧ G = G' ∧ True) := by
  intro n
  induction n with
  | zero => intro x3 x4 x5 h0 h1 hn; exact absurd hn (Nat.not_lt_zero _)
  | succ n ih =>
    intro x3 x4 x5 h0 h1 hn
    show WP (cb_J1_indexOfChar_4cfef_7 fu (cl_J1_indexOfChar_4cfef_7 fu n) i x3 x4 x5 F G) _
    unfold cb_J1_indexOfChar_4cfef_7
    have hl := lenS_lt h4
    refine WP.ite (fun c => ?_) (fun c => ?_)
    · exact WP.ret ⟨rfl, rfl, trivial⟩
    · have e := mt i_le.mpr c
      unfold cb_J1_indexOfChar_4cfef_13
      refine WP.lt h4 (WP.ix (vp_in_iff.mpr ⟨by omega, by omega⟩) ?_)
      refine WP.ite (fun _ => WP.ret ⟨rfl, rfl, trivial⟩) (fun _ => ?_)
      unfold cb_J1_indexOfChar_4cfef_25
      obtain ⟨k, e1, e2⟩ := i_add x5 1
      have l1 : (1 : Int32).toInt = 1 := rfl
      exact ih x3 x4 (x5 + 1) (by omega) h1 (by omega)
theorem cs_indexOf1 {fu i : Nat} (hfu : 8589934592 ≤ fu) (h4 : i < 4) (x1 x3 : Int32) (F : PF) (G : PG) (h3 : x3 = nI (lenS.getD i 0)) : WP (cf_J1_indexOf_4cfef fu i x1 0 x3 F G) (fun r' F' G' => F = F' ∧ G = G' ∧ True) := by
  have hl := lenS_lt h4
  unfold cf_J1_indexOf_4cfef cb_J1_indexOf_4cfef_0
  have hc : WP (cf_J1_canEncode_9a6ad fu x1 F G) (fun r' F' G' => F = F' ∧ G = G' ∧ True) := by
    unfold cf_J1_canEncode_9a6ad cb_J1_canEncode_9a6ad_0
    have h16 : ∀ z : Int32, (z = 0 ∨ z = 1) → WP (cb_J1_canEncode_9a6ad_16 fu z F G) (fun r' F' G' => F = F' ∧ G = G' ∧ True) := fun z hz => WP.bz hz (WP.ret ⟨rfl, rfl, trivial⟩)
    refine WP.ite (fun _ => h16 0 (Or.inl rfl)) (fun _ => ?_)
    unfold cb_J1_canEncode_9a6ad_4
    exact WP.ite (fun _ => h16 0 (Or.inl rfl)) (fun _ => h16 1 (Or.inr rfl))
  refine WP.bind hc ?_
  rintro r1 _ _ ⟨rfl, rfl, -⟩
  dsimp only
  unfold cb_J1_indexOf_4cfef_4
  refine WP.ite (fun _ => WP.ret ⟨rfl, rfl, trivial⟩) (fun _ => ?_)
  unfold cb_J1_indexOf_4cfef_9 cb_J1_indexOf_4cfef_14
  refine WP.lt h4 ?_
  subst h3
  unfold cb_J1_indexOf_4cfef_21
  refine WP.ite (fun _ => ?_) (fun _ => WP.ret ⟨rfl, rfl, trivial⟩)
  unfold cb_J1_indexOf_4cfef_29
  have hx : ∀ (y : Int32), y.toInt ≤ (lenS.getD i 0 : Nat) → ∀ z : Int32, 0 ≤ z.toInt → WP (cf_J1_indexOfChar_4cfef fu i x1 z y F G) (fun r' F' G' => F = F' ∧ G = G' ∧ True) := by
    intro y hy z hz
    unfold cf_J1_indexOfChar_4cfef cb_J1_indexOfChar_4cfef_0
    have := i_rng z
    exact cz_indexOfChar h4 fu y _ z hz hy (by omega)
  have hy : (if nI (lenS.getD i 0) < nI (lenS.getD i 0) then nI (lenS.getD i 0) else nI (lenS.getD i 0)).toInt ≤ (lenS.getD i 0 : Nat) := by
    have e : (nI (lenS.getD i 0)).toInt = (lenS.getD i 0 : Nat) := nI_toInt hl
    split <;> omega
  refine WP.bind (hx _ hy (if (0 : Int32) < 0 then 0 else 0) (by decide)) ?_
  · rintro r2 _ _ ⟨rfl, rfl, -⟩
    exact WP.ret ⟨rfl, rfl, trivial⟩
theorem cs_J0_indexOf_0f7a4 {fu : Nat} (hfu : 8589934592 ≤ fu) (i : Nat) (x1 : Int32) (F : PF) (G : PG) (hI : CI F G) (h4 : i < 4) : WP (cf_J0_indexOf_0f7a4 fu i x1 F G) (fun r' F' G' => F = F' ∧ G = G' ∧ True) := by
  unfold cf_J0_indexOf_0f7a4 cb_J0_indexOf_0f7a4_0
  have h2 : WP (cf_J0_indexOf_7cf53 fu i x1 0 F G) (fun r' F' G' => F = F' ∧ G = G' ∧ True) := by
    unfold cf_J0_indexOf_7cf53 cb_J0_indexOf_7cf53_0
    refine WP.bind (o := cf_J0_isLatin1_aae02 fu i F G) (Q1 := fun r' F' G' => F = F' ∧ G = G' ∧ r' = 1) (WP.lt h4 (WP.ret ⟨rfl, rfl, rfl⟩)) ?_
    rintro r1 _ _ ⟨rfl, rfl, rfl⟩
    dsimp only
    unfold cb_J0_indexOf_7cf53_4
    refine WP.ite (fun c => absurd c (by decide)) (fun _ => ?_)
    unfold cb_J0_indexOf_7cf53_7
    refine WP.lt h4 ?_
    refine WP.bind (cs_length i _ _ h4) ?_
    rintro r2 _ _ ⟨rfl, rfl, h3⟩
    dsimp only
    unfold cb_J0_indexOf_7cf53_17
    refine WP.bind (cs_indexOf1 hfu h4 x1 r2 _ _ h3) ?_
    rintro r3 _ _ ⟨rfl, rfl, -⟩
    dsimp only
    exact WP.ret ⟨rfl, rfl, trivial⟩
  refine WP.bind h2 ?_
  rintro r1 _ _ ⟨rfl, rfl, -⟩
  dsimp only
  exact WP.ret ⟨rfl, rfl, trivial⟩
theorem cs_push40 {fu : Nat} (x1 : Int32) {F0 : PF} {G0 : PG} (F : PF) (G : PG) (hI : CI F G) (hB : KB F0 G0 F G) (hT : KT F0 F) (hO : KO F0 F) (hK : KK F0 F) : WP (cb_X6_push_40 fu x1 F G) (fun r' F' G' => CI F' G' ∧ KB F0 G0 F' G' ∧ KT F0 F' ∧ KO F0 F' ∧ KK F0 F' ∧ True) := by
  unfold cb_X6_push_40
  have hx := hI.xx
  have h56 := hI.r 56 rfl
  have e0 : (nI (xn F)).toInt = (xn F : Int) := nI_toInt (by omega)
  refine WP.ite (fun c => ?_) (fun c => ?_)
  · exact WP.ret ⟨hI, hB, hT, hO, hK, trivial⟩
  · have c := mt i_le.mpr c
    unfold cb_X6_push_52
    refine WP.ix (vp_in_iff.mpr ⟨by omega, by omega⟩) ?_
    unfold cb_X6_push_62 cb_X6_push_72
    obtain ⟨k, e1, e2⟩ := i_add (F 56) 1
    have l1 : (1 : Int32).toInt = 1 := rfl
    exact WP.ret ⟨CI.top (CI.g (by decide) hI) (by omega) (by omega), KB.f (by decide) (KB.g (by decide) hB), KT.f (by decide) hT, KO.f (by decide) hO, KK.f (by decide) hK, trivial⟩
theorem cs_X6_push {fu : Nat} (hfu : 8589934592 ≤ fu) (x1 : Int32) (F : PF) (G : PG) (hI : CI F G) : WP (cf_X6_push fu x1 F G) (fun r' F' G' => CI F' G' ∧ KB F G F' G' ∧ KT F F' ∧ KO F F' ∧ KK F F' ∧ True) := by
  unfold cf_X6_push cb_X6_push_0
  have hx := hI.xx
  have e0 : (nI (xn F)).toInt = (xn F : Int) := nI_toInt (by omega)
  refine WP.ite (fun _ => cs_push40 x1 F G hI KB.rf rfl rfl rfl) (fun _ => ?_)
  unfold cb_X6_push_12
  refine WP.ite (fun _ => cs_push40 x1 F G hI KB.rf rfl rfl rfl) (fun c => ?_)
  have c := mt i_le.mpr c
  have l1 : (524288 : Int32).toInt = 524288 := rfl
  unfold cb_X6_push_22
  have hg : gok F = true := decide_eq_true (p := 0 < xn F ∧ xn F ≤ 524288) ⟨by omega, by omega⟩
  rw [if_pos hg]
  exact cs_push40 x1 _ _ (hI.grow (by omega)) ⟨rfl, rfl, rfl, rfl, rfl⟩ rfl rfl rfl
