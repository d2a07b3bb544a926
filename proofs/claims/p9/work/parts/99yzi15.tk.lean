/-- one token on both sides -/
def TK1 (ck cv cp mk mv mp : Int32) : Prop := cp = mp ∧ ((mk = 1 ∧ ck = 2 ∧ cv = mv) ∨ (mk = 2 ∧ ∃ w : Nat, w < 15 ∧ mv = nI w ∧ ck = nI (4 + w)) ∨ (mk = 3 ∧ ck = 3 ∧ cv = mv) ∨ (mk = 4 ∧ ∃ w : Nat, w < 45 ∧ mv = nI w ∧ ck = kS w))
def TKS (N K n : Nat) (Fc : PF) (Gc : PG) (Fm : PF) (Gm : PG) : Prop := (Fc 93).toInt = N ∧ (Fm 7).toInt = N ∧ ∀ i : Nat, i < N → TK1 (Gc 90 i) (Gc 91 i) (Gc 92 i) (Gm 4 i) (Gm 5 i) (Gm 6 i) ∧ (Gm 4 i = 1 → 0 ≤ (Gm 5 i).toInt ∧ (Gm 5 i).toInt < K) ∧ 0 ≤ (Gm 6 i).toInt ∧ (Gm 6 i).toInt < n
/-- the scanning so far -/
def SCN (b : Nat → Int32) (n N K : Nat) (ps ls : Nat → Nat) (pos : Nat) (Fc : PF) (Gc : PG) (Fm : PF) (Gm : PG) : Prop := BT b n Fc Gc Fm Gm ∧ TKS N K n Fc Gc Fm Gm ∧ NT b n K ps ls ∧ CNM b K ps ls Fc Gc ∧ MNM b K ps ls Fm Gm ∧ N ≤ pos ∧ pos ≤ n ∧ ∀ k : Nat, k < K → ps k + ls k ≤ pos ∧ ¬ (DIG (b (ps k + ls k)) ∨ LET (b (ps k + ls k)))
theorem BT.keep {b : Nat → Int32} {n : Nat} {Fc Fm F1 F2 : PF} {Gc Gm G1 G2 : PG} (h : BT b n Fc Gc Fm Gm) (a1 : F1 88 = Fc 88) (a2 : G1 87 = Gc 87) (a3 : F2 3 = Fm 3) (a4 : G2 1 = Gm 1) : BT b n F1 G1 F2 G2 := by
  unfold BT
  rw [a1, a2, a3, a4]
  exact h
theorem CNM.keep {b : Nat → Int32} {K : Nat} {ps ls : Nat → Nat} {Fc F1 : PF} {Gc G1 : PG} (h : CNM b K ps ls Fc Gc) (a1 : F1 98 = Fc 98) (a2 : G1 94 = Gc 94) (a3 : G1 95 = Gc 95) (a4 : G1 96 = Gc 96) (a5 : G1 97 = Gc 97) : CNM b K ps ls F1 G1 := by
  unfold CNM
  rw [a1, a2, a3, a4, a5]
  exact h
theorem MNM.keep {b : Nat → Int32} {K : Nat} {ps ls : Nat → Nat} {Fm F1 : PF} {Gm G1 : PG} (h : MNM b K ps ls Fm Gm) (a1 : F1 13 = Fm 13) (a2 : G1 9 = Gm 9) (a3 : G1 10 = Gm 10) (a4 : G1 11 = Gm 11) (a5 : G1 12 = Gm 12) : MNM b K ps ls F1 G1 := by
  unfold MNM
  rw [a1, a2, a3, a4, a5]
  exact h
theorem g3_a {G : PG} {a b c N : Nat} {x y z : Int32} (h1 : a ≠ b) (h2 : a ≠ c) (i : Nat) : gup (gup (gup G a N x) b N y) c N z a i = if i = N then x else G a i := by
  rw [gup_o h2, gup_o h1]
  by_cases q : i = N
  · rw [if_pos q, q, gup_i]
  · rw [if_neg q, gup_x q]
theorem g3_b {G : PG} {a b c N : Nat} {x y z : Int32} (h1 : b ≠ a) (h2 : b ≠ c) (i : Nat) : gup (gup (gup G a N x) b N y) c N z b i = if i = N then y else G b i := by
  rw [gup_o h2]
  by_cases q : i = N
  · rw [if_pos q, q, gup_i]
  · rw [if_neg q, gup_x q, gup_o h1]
theorem g3_e {G : PG} {a b c N : Nat} {x y z : Int32} (h1 : c ≠ a) (h2 : c ≠ b) (i : Nat) : gup (gup (gup G a N x) b N y) c N z c i = if i = N then z else G c i := by
  by_cases q : i = N
  · rw [if_pos q, q, gup_i]
  · rw [if_neg q, gup_x q, gup_o h2, gup_o h1]
/-- one token more -/
theorem SCN.tok {b : Nat → Int32} {n N K : Nat} {ps ls : Nat → Nat} {pos x e : Nat} {Fc Fm F1 F2 : PF} {Gc Gm G1 G2 : PG} {ck cv mk mv x1 : Int32} (h : SCN b n N K ps ls pos Fc Gc Fm Gm) (hx : pos ≤ e) (he : N < e) (hn : e ≤ n) (xn : x < n) (e1 : x1.toInt = x) (c : addC Fc Gc ck cv x1 F1 G1) (m : addM Fm Gm mk mv x1 F2 G2) (t : TK1 ck cv x1 mk mv x1) (tn : mk = 1 → 0 ≤ mv.toInt ∧ mv.toInt < K) : SCN b n (N + 1) K ps ls e F1 G1 F2 G2 := by
  obtain ⟨hB, ⟨t1, t2, t3⟩, hN, hC, hM, p1, p2, p3⟩ := h
  obtain ⟨rfl, rfl⟩ := c
  obtain ⟨rfl, rfl⟩ := m
  have n4 := hB.1
  have eC : (Fc 93).toNatClampNeg = N := by
    show (Fc 93).toInt.toNat = N
    omega
  have eM : (Fm 7).toNatClampNeg = N := by
    show (Fm 7).toInt.toNat = N
    omega
  rw [eC, eM]
  have s1 : (Fc 93 + 1).toInt = (Fc 93).toInt + 1 := i_addn _ rfl (by omega) (by omega)
  have s2 : (Fm 7 + 1).toInt = (Fm 7).toInt + 1 := i_addn _ rfl (by omega) (by omega)
  refine ⟨hB.keep (fup_n (by decide)) ?_ (fup_n (by decide)) ?_, ⟨?_, ?_, fun i hi => ?_⟩, hN, hC.keep (fup_n (by decide)) ?_ ?_ ?_ ?_, hM.keep (fup_n (by decide)) ?_ ?_ ?_ ?_, by omega, hn, fun k hk => ⟨by have := (p3 k hk).1; omega, (p3 k hk).2⟩⟩
  · rw [gup_o (by decide), gup_o (by decide), gup_o (by decide)]
  · rw [gup_o (by decide), gup_o (by decide), gup_o (by decide)]
  · rw [fup_s]
    omega
  · rw [fup_s]
    omega
  · rw [g3_a (a := 90) (by decide) (by decide), g3_b (b := 91) (by decide) (by decide), g3_e (c := 92) (by decide) (by decide), g3_a (a := 4) (by decide) (by decide), g3_b (b := 5) (by decide) (by decide), g3_e (c := 6) (by decide) (by decide)]
    by_cases q : i = N
    · rw [if_pos q, if_pos q, if_pos q, if_pos q, if_pos q, if_pos q]
      exact ⟨t, tn, by omega, by omega⟩
    · rw [if_neg q, if_neg q, if_neg q, if_neg q, if_neg q, if_neg q]
      exact t3 i (by omega)
  all_goals rw [gup_o (by decide), gup_o (by decide), gup_o (by decide)]
/-- a new name -/
theorem SCN.name {b : Nat → Int32} {n N K : Nat} {ps ls : Nat → Nat} {pos x m : Nat} {Fc Fm F1 F2 : PF} {Gc Gm G1 G2 : PG} (h : SCN b n N K ps ls pos Fc Gc Fm Gm) (hx : pos ≤ x) (hm : 1 ≤ m) (hm2 : m ≤ 16) (hn : x + m ≤ n) (hl : LET (b x)) (he : ¬ (DIG (b (x + m)) ∨ LET (b (x + m)))) (no : ∀ k : Nat, k < K → ¬ SAMET b (ps k) (ls k) x m) (c : CNM b (K + 1) (ext ps K x) (ext ls K m) F1 G1) (mm : MNM b (K + 1) (ext ps K x) (ext ls K m) F2 G2) (kc : KX [98] [94, 95, 96, 97] Fc Gc F1 G1) (km : KX [13] [9, 10, 11, 12] Fm Gm F2 G2) : SCN b n N (K + 1) (ext ps K x) (ext ls K m) (x + m) F1 G1 F2 G2 := by
  obtain ⟨hB, ⟨t1, t2, t3⟩, hN, hC, hM, p1, p2, p3⟩ := h
  have apart : ∀ k : Nat, k < K → ps k + ls k + 1 ≤ x := by
    intro k hk
    obtain ⟨a, d⟩ := p3 k hk
    rcases Nat.lt_or_ge (ps k + ls k) x with q | q
    · omega
    · have : ps k + ls k = x := by omega
      rw [this] at d
      exact absurd (.inr hl) d
  refine ⟨hB.keep (kc.1 88 rfl) (kc.2 87 rfl) (km.1 3 rfl) (km.2 1 rfl), ⟨?_, ?_, fun i hi => ?_⟩, ⟨fun k hk => ?_, fun i j hij hj => ?_, fun i j hij hj => ?_⟩, c, mm, by omega, hn, fun k hk => ?_⟩
  · rw [kc.1 93 rfl]
    exact t1
  · rw [km.1 7 rfl]
    exact t2
  · rw [kc.2 90 rfl, kc.2 91 rfl, kc.2 92 rfl, km.2 4 rfl, km.2 5 rfl, km.2 6 rfl]
    obtain ⟨a, d, f⟩ := t3 i hi
    exact ⟨a, fun q => ⟨(d q).1, by have := (d q).2; omega⟩, f⟩
  · by_cases q : k = K
    · rw [q, ext_s, ext_s]
      exact ⟨hm, hm2, hn, hl⟩
    · rw [ext_n q, ext_n q]
      exact hN.1 k (by omega)
  · have qi : ¬ i = K := by omega
    rw [ext_n qi, ext_n qi]
    by_cases q : j = K
    · rw [q, ext_s]
      exact apart i (by omega)
    · rw [ext_n q]
      exact hN.2.1 i j hij (by omega)
  · have qi : ¬ i = K := by omega
    rw [ext_n qi, ext_n qi]
    by_cases q : j = K
    · rw [q, ext_s, ext_s]
      exact no i (by omega)
    · rw [ext_n q, ext_n q]
      exact hN.2.2 i j hij (by omega)
  · by_cases q : k = K
    · rw [q, ext_s, ext_s]
      exact ⟨Nat.le_refl _, he⟩
    · rw [ext_n q, ext_n q]
      obtain ⟨a, d⟩ := p3 k (by omega)
      exact ⟨by omega, d⟩
/-- how long a token is at least -/
def tlen (mk mv : Int32) : Nat := if mk = 4 then sgl mv.toInt.toNat else if mk = 2 then stW (mv.toInt.toNat + 1) - 1 - stW mv.toInt.toNat else 1
/-- the text of a name's token is its name's text -/
def jTX (b : Nat → Int32) (N : Nat) (Gm : PG) : Prop := ∀ i : Nat, i < N → Gm 4 i = 1 → ∀ j : Nat, j < (Gm 10 (Gm 5 i).toInt.toNat).toInt.toNat → b ((Gm 6 i).toInt.toNat + j) = b ((Gm 9 (Gm 5 i).toInt.toNat).toInt.toNat + j)
/-- the tokens lie one behind the other, the last one ends at e or ahead of it -/
def TPL (b : Nat → Int32) (N : Nat) (Gm : PG) (e : Nat) : Prop := (∀ i : Nat, i + 1 < N → (Gm 6 i).toInt + tlen (Gm 4 i) (Gm 5 i) ≤ (Gm 6 (i + 1)).toInt ∧ (Gm 4 i = 2 → Gm 4 (i + 1) = 1 → (Gm 6 i).toInt + tlen (Gm 4 i) (Gm 5 i) + 1 ≤ (Gm 6 (i + 1)).toInt)) ∧ (∀ i : Nat, i + 1 = N → (Gm 6 i).toInt + tlen (Gm 4 i) (Gm 5 i) ≤ e ∧ (Gm 4 i = 2 → ¬ (DIG (b e) ∨ LET (b e)))) ∧ jTX b N Gm
theorem TPL.add {b : Nat → Int32} {N e0 x e : Nat} {Fm F2 : PF} {Gm G2 : PG} {mk mv x1 : Int32} (h : TPL b N Gm e0) (h0 : e0 ≤ x) (h7 : (Fm 7).toInt = N) (m : addM Fm Gm mk mv x1 F2 G2) (e1 : x1.toInt = x) (he : x + tlen mk mv ≤ e) (hw : mk = 2 → ¬ (DIG (b e) ∨ LET (b e))) (hl : mk = 1 → LET (b x)) (ht : mk = 1 → ∀ j : Nat, j < (Gm 10 mv.toInt.toNat).toInt.toNat → b (x + j) = b ((Gm 9 mv.toInt.toNat).toInt.toNat + j)) : TPL b (N + 1) G2 e := by
  obtain ⟨-, rfl⟩ := m
  have eM : (Fm 7).toNatClampNeg = N := by
    show (Fm 7).toInt.toNat = N
    omega
  rw [eM]
  have g4 : ∀ i : Nat, gup (gup (gup Gm 4 N mk) 5 N mv) 6 N x1 4 i = if i = N then mk else Gm 4 i := fun i => by
    rw [gup_o (by decide), gup_o (by decide)]
    by_cases q : i = N
    · rw [if_pos q, q, gup_i]
    · rw [if_neg q, gup_x q]
  have g5 : ∀ i : Nat, gup (gup (gup Gm 4 N mk) 5 N mv) 6 N x1 5 i = if i = N then mv else Gm 5 i := fun i => by
    rw [gup_o (by decide)]
    by_cases q : i = N
    · rw [if_pos q, q, gup_i]
    · rw [if_neg q, gup_x q, gup_o (by decide)]
  have g6 : ∀ i : Nat, gup (gup (gup Gm 4 N mk) 5 N mv) 6 N x1 6 i = if i = N then x1 else Gm 6 i := fun i => by
    by_cases q : i = N
    · rw [if_pos q, q, gup_i]
    · rw [if_neg q, gup_x q, gup_o (by decide), gup_o (by decide)]
  have g9 : gup (gup (gup Gm 4 N mk) 5 N mv) 6 N x1 9 = Gm 9 := by rw [gup_o (by decide), gup_o (by decide), gup_o (by decide)]
  have g10 : gup (gup (gup Gm 4 N mk) 5 N mv) 6 N x1 10 = Gm 10 := by rw [gup_o (by decide), gup_o (by decide), gup_o (by decide)]
  refine ⟨fun i hi => ?_, fun i hi => ?_, fun i hi h1 j hj => ?_⟩
  · have ni : ¬ i = N := by omega
    rw [g4, g5, g6, g4, g6, if_neg ni, if_neg ni, if_neg ni]
    by_cases q : i + 1 = N
    · rw [if_pos q, if_pos q]
      obtain ⟨k1, k2⟩ := h.2.1 i q
      refine ⟨by omega, fun z1 z2 => ?_⟩
      have ne : ¬ e0 = x := fun z => k2 z1 (by rw [z]; exact .inr (hl z2))
      omega
    · rw [if_neg q, if_neg q]
      exact h.1 i (by omega)
  · have ni : i = N := by omega
    rw [g4, g5, g6, if_pos ni, if_pos ni, if_pos ni]
    exact ⟨by omega, hw⟩
  · rw [g4] at h1
    rw [g10, g5] at hj
    rw [g9, g5, g6]
    by_cases q : i = N
    · rw [if_pos q] at h1 hj
      rw [if_pos q, if_pos q, show x1.toInt.toNat = x by omega]
      exact ht h1 j hj
    · rw [if_neg q] at h1 hj
      rw [if_neg q, if_neg q]
      exact h.2.2 i (by omega) h1 j hj
theorem same_token {fu : Nat} {b : Nat → Int32} {n N K : Nat} {ps ls : Nat → Nat} {pos x : Nat} {Fc Fm F1 F2 : PF} {Gc Gm G1 G2 : PG} {x1 r1 r2 : Int32} (h : SCN b n N K ps ls pos Fc Gc Fm Gm) (hx : pos ≤ x) (hn : x < n) (e1 : x1.toInt = x) (nn : ¬ (b x = 47 ∧ b (x + 1) = 42)) (h1 : cf_X10_behindToken fu x1 Fc Gc = some (r1, F1, G1)) (h2 : mf_tokenAt fu x1 Fm Gm = some (r2, F2, G2)) : (∃ (K' : Nat) (ps' ls' : Nat → Nat) (e : Nat), r1 = nI e ∧ r2 = nI e ∧ x < e ∧ e ≤ n ∧ SCN b n (N + 1) K' ps' ls' e F1 G1 F2 G2 ∧ ∀ e0 : Nat, TPL b N Gm e0 → e0 ≤ x → TPL b (N + 1) G2 e) ∨ (r1 = -1 ∧ r2 = -1 ∧ addC Fc Gc 1 0 x1 F1 G1 ∧ Fm = F2 ∧ Gm = G2) := by
  obtain ⟨hB, hT, hN, hC, hM, p1, p2, p3⟩ := id h
  obtain ⟨b0, b1, b2, b3, b4⟩ := id hB
  have h93 : (Fc 93).toInt < 4001 := by
    have := hT.1
    omega
  have bx := b3 x hn
  unfold cf_X10_behindToken cb_X10_behindToken_0 at h1
  unfold mf_tokenAt mb_tokenAt_0 at h2
  obtain ⟨⟨a, Fa, Ga⟩, a1, h1⟩ := bind_elim h1
  obtain ⟨⟨m, Fb, Gb⟩, a2, h2⟩ := bind_elim h2
  obtain ⟨rfl, rfl, ha⟩ := cp_at hB x1 a Fa Ga a1
  obtain ⟨rfl, rfl, hm⟩ := mp_at hB x1 (by omega) m Fb Gb a2
  dsimp only at h1 h2
  have xn : x1.toInt.toNat = x := by omega
  rw [xn] at hm
  have ea : a = b x := by
    rcases ha with ⟨q, -⟩ | ⟨-, -, q, -⟩ | ⟨q, -⟩
    · omega
    · rw [q, xn]
    · omega
  rw [ea] at h1
  rw [hm] at h2
  unfold cb_X10_behindToken_8 at h1
  unfold mb_tokenAt_5 at h2
  obtain ⟨⟨d, Fa, Ga⟩, d1, h1⟩ := bind_elim h1
  obtain ⟨rfl, rfl, hd⟩ := cp_isDigit (b x) Fc Gc d Fa Ga d1
  obtain ⟨⟨l, Fb, Gb⟩, l1, h2⟩ := bind_elim h2
  obtain ⟨rfl, rfl, hl⟩ := mp_isLetter (b x) Fm Gm l Fb Gb l1
  dsimp only at h1 h2
  unfold cb_X10_behindToken_13 at h1
  unfold mb_tokenAt_10 at h2
  -- a token that is none
  have bad : ∀ {F' : PF} {G' : PG}, cb_X10_behindToken_48 fu x1 (-1) Fc Gc = some (r1, F', G') → r1 = -1 ∧ addC Fc Gc 1 0 x1 F' G' := by
    intro F' G' e
    unfold cb_X10_behindToken_48 at e
    rw [if_pos (show (-1 : Int32) = -1 from rfl)] at e
    unfold cb_X10_behindToken_53 cb_X10_behindToken_60 at e
    obtain ⟨⟨q, Fq, Gq⟩, q1, e⟩ := bind_elim e
    have qq := cp_add 1 0 x1 Fc Gc h93 q Fq Gq q1
    cases e
    exact ⟨rfl, qq⟩
  have fine : ∀ {e : Nat} {F F' : PF} {G G' : PG}, e ≤ n → cb_X10_behindToken_48 fu x1 (nI e) F G = some (r1, F', G') → r1 = nI e ∧ F = F' ∧ G = G' := by
    intro e F F' G G' he q
    unfold cb_X10_behindToken_48 cb_X10_behindToken_60 at q
    rw [if_neg (show ¬ nI e = -1 from fun t => by
      have := congrArg Int32.toInt t
      rw [nI_toInt (by omega)] at this
      have l : (-1 : Int32).toInt = -1 := rfl
      omega)] at q
    cases q
    exact ⟨rfl, rfl, rfl⟩
  by_cases isD : DIG (b x)
  · -- a number
    have nl : ¬ LET (b x) := fun q => by
      unfold LET at q
      unfold DIG at isD
      omega
    rw [if_neg (fun q => hd.z.mp q isD)] at h1
    rw [if_pos (hl.z.mpr nl)] at h2
    unfold cb_X10_behindToken_16 cb_X10_behindToken_21 at h1
    unfold mb_tokenAt_19 at h2
    obtain ⟨⟨d2, Fb, Gb⟩, d3, h2⟩ := bind_elim h2
    obtain ⟨rfl, rfl, hd2⟩ := mp_isDigit (b x) Fm Gm d2 Fb Gb d3
    dsimp only at h2
    unfold mb_tokenAt_23 at h2
    rw [if_neg (fun q => hd2.z.mp q isD)] at h2
    unfold mb_tokenAt_26 mb_tokenAt_31 at h2
    obtain ⟨⟨z1, Fz, Gz⟩, y1, h1⟩ := bind_elim h1
    obtain ⟨⟨z2, Fy, Gy⟩, y2, h2⟩ := bind_elim h2
    obtain ⟨e, pe, en, c⟩ := cp_number hB h93 e1 hn isD z1 Fz Gz y1
    have mm := mp_number hB e1 hn isD pe en z2 Fy Gy y2
    dsimp only at h1
    cases h2
    have xe : x < e := by
      rcases Nat.lt_or_ge x e with q | q
      · exact q
      · have : e = x := by
          have := pe.1
          omega
        rw [this] at pe
        exact absurd (.inl isD) pe.2.2
    rcases c with ⟨v, c1, c2, c3⟩ | ⟨c1, c2, c3, c4⟩
    · rcases mm with ⟨v', m1, m2, m3⟩ | ⟨m1, -⟩
      · have vv : v = v' := by
          rcases c1 with ⟨ch, c1⟩ | ⟨cn, c1⟩
          · rcases m1 with ⟨-, m1⟩ | ⟨mn, -⟩
            · rw [c1.2.2.2.1, m1.2.2.2.1]
            · exact absurd ch mn
          · rcases m1 with ⟨mh, -⟩ | ⟨-, m1⟩
            · exact absurd mh cn
            · rw [c1.2.2.2.1, m1.2.2.2.1]
        rw [c2] at h1
        obtain ⟨f1, rfl, rfl⟩ := fine en h1
        refine .inl ⟨K, ps, ls, e, f1, m2, xe, en, h.tok (by omega) (by omega) en hn e1 c3 m3 ⟨rfl, .inr (.inr (.inl ⟨rfl, rfl, by rw [vv]⟩))⟩ (fun q => absurd q (by decide)), fun e0 T z => T.add z hT.2.1 m3 e1 (by unfold tlen; rw [if_neg (by decide), if_neg (by decide)]; exact xe) (fun q => absurd q (by decide)) (fun q => absurd q (by decide)) (fun q => absurd q (by decide))⟩
      · exact absurd c1 (m1 v)
    · rcases mm with ⟨v', m1, -⟩ | ⟨m1, m2, m3, m4⟩
      · exact absurd m1 (c1 v')
      · rw [c2, ← c3, ← c4] at h1
        obtain ⟨f1, f2⟩ := bad h1
        exact .inr ⟨f1, m2, f2, m3, m4⟩
  · rw [if_pos (hd.z.mpr isD)] at h1
    unfold cb_X10_behindToken_25 at h1
    obtain ⟨⟨q, Fa, Ga⟩, q1, h1⟩ := bind_elim h1
    obtain ⟨rfl, rfl, hq⟩ := cp_isPart (b x) Fc Gc q Fa Ga q1
    dsimp only at h1
    unfold cb_X10_behindToken_29 at h1
    by_cases isL : LET (b x)
    · -- a word or a name
      rw [if_neg (fun t => hq.z.mp t (.inr isL))] at h1
      rw [if_neg (fun t => hl.z.mp t isL)] at h2
      unfold cb_X10_behindToken_32 cb_X10_behindToken_37 at h1
      unfold mb_tokenAt_13 mb_tokenAt_18 at h2
      obtain ⟨⟨z1, Fz, Gz⟩, y1, h1⟩ := bind_elim h1
      obtain ⟨⟨z2, Fy, Gy⟩, y2, h2⟩ := bind_elim h2
      dsimp only at h1
      cases h2
      unfold cf_X10_behindName cb_X10_behindName_0 at y1
      obtain ⟨⟨x2, Fa, Ga⟩, w1, y1⟩ := bind_elim y1
      unfold cf_X10_behindParts cb_X10_behindParts_0 at w1
      obtain ⟨rfl, rfl, r0, r9, pe⟩ := cp_parts hB fu x1 (by omega) (by omega) x2 Fa Ga w1
      dsimp only at y1
      rw [xn] at pe
      obtain ⟨e, ee⟩ : ∃ e : Nat, x2.toInt = e := ⟨x2.toInt.toNat, by omega⟩
      rw [show x2.toInt.toNat = e by omega] at pe
      have x2e : x2 = nI e := i_eq.mpr (by rw [nI_toInt (by omega)]; exact ee)
      have xe : x < e := by
        rcases Nat.lt_or_ge x e with q | q
        · exact q
        · have : e = x := by
            have := pe.1
            omega
          rw [this] at pe
          exact absurd (.inr isL) pe.2.2
      have e21 : (x2 - x1).toInt = ((e - x : Nat) : Int) := by
        have t : (x2 - x1).toInt = x2.toInt - x1.toInt := i_subn x2 rfl (by omega) (by omega)
        omega
      have l16 : (16 : Int32).toInt = 16 := rfl
      -- the reference comes to the same place
      unfold mf_wordToken mb_wordToken_0 at y2
      have y3 : mb_wordToken_19 fu x1 x2 Fm Gm = some (z2, Fy, Gy) := by
        have t := mp_parts hB x1 (fun r F G => mb_wordToken_19 fu x1 x2 Fm Gm = some (r, F, G)) fu x1 (by omega) (by omega) (fun r q0 q1 qp => by
          rw [xn] at qp
          have : r.toInt.toNat = e := PEND.one qp pe
          have : r = x2 := i_eq.mpr (by omega)
          rw [this]
          exact fun _ _ _ q => q)
        exact t z2 Fy Gy y2
      unfold cb_X10_behindName_5 at y1
      unfold mb_wordToken_19 at y3
      have bl : ∀ j : Nat, j < e - x → ¬ b (x + j) = 32 := by
        intro j hj q
        have t := pe.2.1 (x + j) (by omega) (by omega)
        rw [q] at t
        rcases t with t | t
        · exact absurd t (by unfold DIG; decide)
        · exact absurd t (by unfold LET; decide)
      by_cases long : (x2 - x1) ≤ (16 : Int32)
      · rw [if_pos long] at y1 y3
        have lg := i_le.mp long
        unfold cb_X10_behindName_18 at y1
        unfold mb_wordToken_29 at y3
        obtain ⟨⟨wc, Fa, Ga⟩, w2, y1⟩ := bind_elim y1
        obtain ⟨⟨wm, Fb, Gb⟩, w3, y3⟩ := bind_elim y3
        obtain ⟨rfl, rfl, hwc⟩ := cp_word hB e1 e21 (by omega) bl wc Fa Ga w2
        obtain ⟨rfl, rfl, hwm⟩ := mp_place hB row_W e1 e21 (by omega) (by omega) wm Fb Gb w3
        dsimp only at y1 y3
        unfold cb_X10_behindName_24 at y1
        unfold mb_wordToken_39 at y3
        rcases hwc with ⟨w, w0, wr, wt, wf⟩ | ⟨wr, wf⟩
        · have em : wm = nI w := by
            rcases hwm with ⟨v, v0, v1, v2, v3⟩ | ⟨-, q⟩
            · rcases Nat.lt_trichotomy v w with t | t | t
              · exact absurd v2 (wf v t)
              · rw [v1, t]
              · exact absurd wt (v3 w t)
            · exact absurd wt (q w w0)
          rw [if_neg (show ¬ wc = -1 from fun t => by
            rw [wr] at t
            have := congrArg Int32.toInt t
            rw [nI_toInt (by omega)] at this
            have l : (-1 : Int32).toInt = -1 := rfl
            omega)] at y1
          have nm1 : ¬ wm = -1 := fun t => by
            rw [em] at t
            have := congrArg Int32.toInt t
            rw [nI_toInt (by omega)] at this
            have l : (-1 : Int32).toInt = -1 := rfl
            omega
          rw [if_neg nm1] at y3
          unfold cb_X10_behindName_32 cb_X10_behindName_40 cb_X10_behindName_55 at y1
          unfold mb_wordToken_50 mb_wordToken_51 at y3
          rw [if_neg nm1] at y3
          unfold mb_wordToken_67 mb_wordToken_68 mb_wordToken_72 at y3
          obtain ⟨⟨g, Fg, Gg⟩, g1, y1⟩ := bind_elim y1
          obtain ⟨⟨g', Fk, Gk⟩, g2, y3⟩ := bind_elim y3
          have c3 := cp_add wc 0 x1 Fc Gc h93 g Fg Gg g1
          have m3 := mp_token 2 wm x1 Fm Gm g' Fk Gk g2
          cases y1
          cases y3
          rw [x2e] at h1
          obtain ⟨f1, rfl, rfl⟩ := fine (by omega) h1
          exact .inl ⟨K, ps, ls, e, f1, x2e, xe, by omega, h.tok (by omega) (by omega) (by omega) hn e1 c3 m3 ⟨rfl, .inr (.inl ⟨rfl, w, w0, em, wr⟩)⟩ (fun q => absurd q (by decide)), fun e0 T z => T.add z hT.2.1 m3 e1 (by unfold tlen; rw [if_neg (by decide), if_pos rfl, em, nI_toInt (by omega), Int.toNat_natCast]; have := wt.1; omega) (fun _ => pe.2.2) (fun q => absurd q (by decide)) (fun q => absurd q (by decide))⟩
        · have em : wm = -1 := by
            rcases hwm with ⟨v, v0, v1, v2, v3⟩ | ⟨q, -⟩
            · exact absurd v2 (wf v v0)
            · exact q
          rw [if_pos wr] at y1
          rw [if_pos em] at y3
          unfold cb_X10_behindName_43 at y1
          unfold mb_wordToken_46 mb_wordToken_51 at y3
          rw [if_pos em] at y3
          unfold mb_wordToken_56 at y3
          obtain ⟨⟨ic, Fg, Gg⟩, g1, y1⟩ := bind_elim y1
          obtain ⟨⟨im, Fk, Gk⟩, g2, y3⟩ := bind_elim y3
          have cn := cp_nameAt hB hN hC e1 e21 (by omega) ic Fg Gg g1
          have mn := mp_nameOf hB hN hM e1 e21 (by omega) (by omega) im Fk Gk g2
          dsimp only at y1 y3
          unfold cb_X10_behindName_51 cb_X10_behindName_55 at y1
          unfold mb_wordToken_64 mb_wordToken_68 mb_wordToken_72 at y3
          obtain ⟨⟨g, Fp, Gp⟩, g3, y1⟩ := bind_elim y1
          obtain ⟨⟨g', Fr, Gr⟩, g4, y3⟩ := bind_elim y3
          cases y1
          cases y3
          rw [x2e] at h1
          obtain ⟨f1, rfl, rfl⟩ := fine (by omega) h1
          have m3 := mp_token 1 im x1 Fk Gk g' Fr Gr g4
          rcases cn with ⟨k, k0, k1, k2, rfl, rfl⟩ | ⟨c1, c2, c3, c4⟩
          · rcases mn with ⟨k', k0', k1', k2', rfl, rfl⟩ | ⟨m1, -⟩
            · have kk : k = k' := by
                rcases Nat.lt_trichotomy k k' with t | t | t
                · exact absurd ⟨k2.1.trans k2'.1.symm, fun j hj => (k2.2 j hj).trans (k2'.2 j (by have := k2.1; have := k2'.1; omega)).symm⟩ (hN.2.2 k k' t k0')
                · exact t
                · exact absurd ⟨k2'.1.trans k2.1.symm, fun j hj => (k2'.2 j hj).trans (k2.2 j (by have := k2.1; have := k2'.1; omega)).symm⟩ (hN.2.2 k' k t k0)
              have few := hN.few b0
              have c5 := cp_add 2 ic x1 Fc Gc h93 g Fp Gp g3
              exact .inl ⟨K, ps, ls, e, f1, x2e, xe, by omega, h.tok (by omega) (by omega) (by omega) hn e1 c5 m3 ⟨rfl, .inl ⟨rfl, rfl, by rw [k1, k1', kk]⟩⟩ (fun _ => by rw [k1', nI_toInt (by omega)]; omega), fun e0 T z => T.add z hT.2.1 m3 e1 (by unfold tlen; rw [if_neg (by decide), if_neg (by decide)]; exact xe) (fun q => absurd q (by decide)) (fun _ => isL) (fun _ j hj => by rw [k1', nI_toInt (by omega), Int.toNat_natCast] at hj ⊢; have q9 := (hM.2.1 k' k0').1; have q10 := (hM.2.1 k' k0').2; rw [show (Gm 9 k').toInt.toNat = ps k' by omega]; exact (k2'.2 j (by omega)).symm)⟩
            · exact absurd k2 (m1 k k0)
          · rcases mn with ⟨k', k0', k1', k2', -⟩ | ⟨m1, m2, m4, m5⟩
            · exact absurd k2' (c1 k' k0')
            · have e0 : x + (e - x) = e := by omega
              have nw := h.name hx (show 1 ≤ e - x by omega) (by omega) (by omega) isL (by rw [e0]; exact pe.2.2) c1 c3 m4 c4 m5
              have few := nw.2.2.1.few b0
              have h93' : (Fg 93).toInt < 4001 := by
                rw [c4.1 93 rfl]
                exact h93
              have c5 := cp_add 2 ic x1 Fg Gg h93' g Fp Gp g3
              -- the position is x still when the token comes
              have nw2 : SCN b n N (K + 1) (ext ps K x) (ext ls K (e - x)) e Fg Gg Fk Gk := by rw [e0] at nw; exact nw
              have tpk : ∀ e0 : Nat, TPL b N Gm e0 → TPL b N Gk e0 := by
                intro e0 T
                refine ⟨?_, ?_, fun i hi h1 j hj => ?_⟩
                · rw [m5.2 4 rfl, m5.2 5 rfl, m5.2 6 rfl]
                  exact T.1
                · rw [m5.2 4 rfl, m5.2 5 rfl, m5.2 6 rfl]
                  exact T.2.1
                · rw [m5.2 4 rfl] at h1
                  rw [m5.2 5 rfl] at hj ⊢
                  rw [m5.2 6 rfl]
                  have q := (hT.2.2 i hi).2.1 h1
                  have a9 := (m4.2.1 (Gm 5 i).toInt.toNat (by omega)).1
                  have a10 := (m4.2.1 (Gm 5 i).toInt.toNat (by omega)).2
                  have c9 := (hM.2.1 (Gm 5 i).toInt.toNat (by omega)).1
                  have c10 := (hM.2.1 (Gm 5 i).toInt.toNat (by omega)).2
                  rw [ext_n (by omega)] at a9 a10
                  rw [show (Gk 10 (Gm 5 i).toInt.toNat).toInt.toNat = (Gm 10 (Gm 5 i).toInt.toNat).toInt.toNat by omega] at hj
                  rw [show (Gk 9 (Gm 5 i).toInt.toNat).toInt.toNat = (Gm 9 (Gm 5 i).toInt.toNat).toInt.toNat by omega]
                  exact T.2.2 i hi h1 j hj
              exact .inl ⟨K + 1, ext ps K x, ext ls K (e - x), e, f1, x2e, xe, by omega, nw2.tok (Nat.le_refl _) (by omega) (by omega) hn e1 c5 m3 ⟨rfl, .inl ⟨rfl, rfl, by rw [c2, m2]⟩⟩ (fun _ => by rw [m2, nI_toInt (by omega)]; omega), fun e0 T z => TPL.add (Gm := Gk) (tpk e0 T) z ((congrArg Int32.toInt (m5.1 7 rfl)).trans hT.2.1) m3 e1 (by unfold tlen; rw [if_neg (by decide), if_neg (by decide)]; exact xe) (fun q => absurd q (by decide)) (fun _ => isL) (fun _ j hj => by rw [m2, nI_toInt (by omega), Int.toNat_natCast]; have q9 := (m4.2.1 K (by omega)).1; rw [ext_s] at q9; rw [show (Gk 9 K).toInt.toNat = x by omega])⟩
      · rw [if_neg long] at y1 y3
        unfold cb_X10_behindName_16 at y1
        unfold mb_wordToken_27 at y3
        cases y1
        cases y3
        obtain ⟨f1, f2⟩ := bad h1
        exact .inr ⟨f1, rfl, f2, rfl, rfl⟩
    · -- a sign
      rw [if_pos (hq.z.mpr (fun t => t.elim isD isL))] at h1
      rw [if_pos (hl.z.mpr isL)] at h2
      unfold cb_X10_behindToken_41 cb_X10_behindToken_47 at h1
      unfold mb_tokenAt_19 at h2
      obtain ⟨⟨d2, Fb, Gb⟩, d3, h2⟩ := bind_elim h2
      obtain ⟨rfl, rfl, hd2⟩ := mp_isDigit (b x) Fm Gm d2 Fb Gb d3
      dsimp only at h2
      unfold mb_tokenAt_23 at h2
      rw [if_pos (hd2.z.mpr isD)] at h2
      obtain ⟨⟨z1, Fz, Gz⟩, y1, h1⟩ := bind_elim h1
      have c := cp_sign hB h93 e1 hn rfl nn z1 Fz Gz y1
      have mm := mp_signT hB e1 hn r2 F2 G2 h2
      dsimp only at h1
      rcases c with ⟨w, c1, c2, c3⟩ | ⟨c1, c2, c3, c4⟩
      · rcases mm with ⟨v, m1, m2, m3, m4⟩ | ⟨m1, -⟩
        · have vw : v = w := m1.one c1
          rw [vw] at m2 m3 m4
          have s := sgl_4 w c1.1
          rw [c2] at h1
          obtain ⟨f1, rfl, rfl⟩ := fine m2 h1
          exact .inl ⟨K, ps, ls, x + sgl w, f1, m3, by omega, m2, h.tok (by omega) (by omega) m2 hn e1 c3 m4 ⟨rfl, .inr (.inr (.inr ⟨rfl, w, c1.1, rfl, rfl⟩))⟩ (fun q => absurd q (by decide)), fun e0 T z => T.add z hT.2.1 m4 e1 (by unfold tlen; rw [if_pos rfl, nI_toInt (by have := c1.1; omega), Int.toNat_natCast]; exact Nat.le_refl _) (fun q => absurd q (by decide)) (fun q => absurd q (by decide)) (fun q => absurd q (by decide))⟩
        · exact absurd c1.2.1 (m1 w c1.1)
      · rcases mm with ⟨v, m1, -⟩ | ⟨m1, m2, m3, m4⟩
        · exact absurd m1.2.1 (c1 v m1.1)
        · rw [c2, ← c3, ← c4] at h1
          obtain ⟨f1, f2⟩ := bad h1
          exact .inr ⟨f1, m2, f2, m3, m4⟩
