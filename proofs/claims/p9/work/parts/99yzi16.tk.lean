/-- the tokens lie one behind the other; between a word and a name is a gap -/
def TPF (N : Nat) (k v p : Nat → Int32) : Prop := ∀ i : Nat, i < N → (p i).toInt + tlen (k i) (v i) ≤ (p (i + 1)).toInt ∧ (k i = 2 → k (i + 1) = 1 → (p i).toInt + tlen (k i) (v i) + 1 ≤ (p (i + 1)).toInt)
/-- the tokens at the scanning's end: N of them; then END where the text ends, or BAD where the reference has it -/
def TKE (N K n : Nat) (Fc : PF) (Gc : PG) (Fm : PF) (Gm : PG) : Prop := (N ≤ n ∧ n ≤ 4000 ∧ TPF N (Gm 4) (Gm 5) (Gm 6)) ∧ (Fc 93).toInt = (N : Int) + 1 ∧ (Fm 7).toInt = N ∧ (∀ i : Nat, i < N → TK1 (Gc 90 i) (Gc 91 i) (Gc 92 i) (Gm 4 i) (Gm 5 i) (Gm 6 i) ∧ (Gm 4 i = 1 → 0 ≤ (Gm 5 i).toInt ∧ (Gm 5 i).toInt < K) ∧ 0 ≤ (Gm 6 i).toInt ∧ (Gm 6 i).toInt < n) ∧ Gm 4 N = 0 ∧ (Gm 6 N).toInt = n ∧ ((Gc 90 N = 0 ∧ (Gc 92 N).toInt = n ∧ Fm 8 = -1) ∨ (Gc 90 N = 1 ∧ Gc 92 N = Fm 8 ∧ 0 ≤ (Fm 8).toInt ∧ (Fm 8).toInt < n))
def SCE (b : Nat → Int32) (n N K : Nat) (ps ls : Nat → Nat) (Fc : PF) (Gc : PG) (Fm : PF) (Gm : PG) : Prop := BT b n Fc Gc Fm Gm ∧ TKE N K n Fc Gc Fm Gm ∧ NT b n K ps ls ∧ CNM b K ps ls Fc Gc ∧ MNM b K ps ls Fm Gm ∧ N ≤ n ∧ jTX b N Gm
theorem mp_fin {fu : Nat} (F : PF) (G : PG) : PP (mb_cut_89 fu F G) (fun _ F' G' => F = F' ∧ G' = gup (gup G 4 (F 7).toNatClampNeg 0) 6 (F 7).toNatClampNeg (F 3)) := by
  unfold mb_cut_89 mb_cut_99 mb_cut_112
  exact PP.ix (fun _ => PP.ix (fun _ => PP.ret ⟨rfl, rfl⟩))
theorem SCN.fin {fu : Nat} {b : Nat → Int32} {n N K : Nat} {ps ls : Nat → Nat} {pos : Nat} {Fc Fm F0 F1 F2 : PF} {Gc Gm G1 G2 : PG} {ck x1 r : Int32} (h : SCN b n N K ps ls pos Fc Gc Fm Gm) (tp : TPL b N Gm pos) (c : addC Fc Gc ck 0 x1 F1 G1) (f0 : ∀ j : Nat, ¬ j = 8 → F0 j = Fm j) (m : mb_cut_89 fu F0 Gm = some (r, F2, G2)) (t : (ck = 0 ∧ x1.toInt = n ∧ F0 8 = -1) ∨ (ck = 1 ∧ x1 = F0 8 ∧ 0 ≤ (F0 8).toInt ∧ (F0 8).toInt < n)) : SCE b n N K ps ls F1 G1 F2 G2 := by
  obtain ⟨hB, ⟨t1, t2, t3⟩, hN, hC, hM, p1, p2, p3⟩ := h
  obtain ⟨rfl, rfl⟩ := c
  obtain ⟨rfl, rfl⟩ := mp_fin F0 Gm r F2 G2 m
  have n4 := hB.1
  have e7 := f0 7 (by decide)
  have e3 := f0 3 (by decide)
  have eC : (Fc 93).toNatClampNeg = N := by
    show (Fc 93).toInt.toNat = N
    omega
  have eM : (F0 7).toNatClampNeg = N := by
    show (F0 7).toInt.toNat = N
    rw [e7]
    omega
  rw [eC, eM]
  have s1 : (Fc 93 + 1).toInt = (Fc 93).toInt + 1 := i_addn _ rfl (by omega) (by omega)
  refine ⟨hB.keep (fup_n (by decide)) ?_ e3 ?_, ⟨⟨by omega, n4, fun i hi => ?_⟩, ?_, ?_, fun i hi => ?_, ?_, ?_, ?_⟩, hN, hC.keep (fup_n (by decide)) ?_ ?_ ?_ ?_, hM.keep (f0 13 (by decide)) ?_ ?_ ?_ ?_, by omega, fun i hi h1 j hj => ?_⟩
  · rw [gup_o (by decide), gup_o (by decide), gup_o (by decide)]
  · rw [gup_o (by decide), gup_o (by decide)]
  · have q : ¬ i = N := by omega
    have h3 := hB.2.2.1
    have g4 : ∀ j : Nat, gup (gup Gm 4 N 0) 6 N (F0 3) 4 j = if j = N then 0 else Gm 4 j := fun j => by
      rw [gup_o (show (4 : Nat) ≠ 6 by decide)]
      by_cases z : j = N
      · rw [if_pos z, z, gup_i]
      · rw [if_neg z, gup_x z]
    have g5 : gup (gup Gm 4 N 0) 6 N (F0 3) 5 = Gm 5 := by
      rw [gup_o (show (5 : Nat) ≠ 6 by decide), gup_o (show (5 : Nat) ≠ 4 by decide)]
    have g6 : ∀ j : Nat, gup (gup Gm 4 N 0) 6 N (F0 3) 6 j = if j = N then F0 3 else Gm 6 j := fun j => by
      by_cases z : j = N
      · rw [if_pos z, z, gup_i]
      · rw [if_neg z, gup_x z, gup_o (show (6 : Nat) ≠ 4 by decide)]
    rw [g4, g4, g5, g6, g6, if_neg q, if_neg q]
    by_cases z : i + 1 = N
    · have w := (tp.2.1 i z).1
      rw [if_pos z, if_pos z, e3]
      exact ⟨by omega, fun _ y => absurd y (by decide)⟩
    · rw [if_neg z, if_neg z]
      exact tp.1 i (by omega)
  · rw [fup_s]
    omega
  · rw [e7]
    omega
  · have q : ¬ i = N := by omega
    rw [gup_o (by decide), gup_o (by decide), gup_x q, gup_o (by decide), gup_x q, gup_o (by decide), gup_x q, gup_o (by decide), gup_o (by decide), gup_o (by decide), gup_x q, gup_o (by decide), gup_o (by decide), gup_x q, gup_o (by decide)]
    exact t3 i hi
  · rw [gup_o (by decide), gup_i]
  · rw [gup_i, e3]
    exact hB.2.2.1
  · rw [gup_o (by decide), gup_o (by decide), gup_i, gup_i]
    exact t
  · rw [gup_o (by decide), gup_o (by decide), gup_o (by decide)]
  · rw [gup_o (by decide), gup_o (by decide), gup_o (by decide)]
  · rw [gup_o (by decide), gup_o (by decide), gup_o (by decide)]
  · rw [gup_o (by decide), gup_o (by decide), gup_o (by decide)]
  · rw [gup_o (by decide), gup_o (by decide)]
  · rw [gup_o (by decide), gup_o (by decide)]
  · rw [gup_o (by decide), gup_o (by decide)]
  · rw [gup_o (by decide), gup_o (by decide)]
  · have q : ¬ i = N := by omega
    have e10 : gup (gup Gm 4 N 0) 6 N (F0 3) 10 = Gm 10 := by rw [gup_o (by decide), gup_o (by decide)]
    have e9 : gup (gup Gm 4 N 0) 6 N (F0 3) 9 = Gm 9 := by rw [gup_o (by decide), gup_o (by decide)]
    have e5 : gup (gup Gm 4 N 0) 6 N (F0 3) 5 = Gm 5 := by rw [gup_o (by decide), gup_o (by decide)]
    have e6 : gup (gup Gm 4 N 0) 6 N (F0 3) 6 i = Gm 6 i := by rw [gup_x q, gup_o (by decide)]
    have e4 : gup (gup Gm 4 N 0) 6 N (F0 3) 4 i = Gm 4 i := by rw [gup_o (by decide), gup_x q]
    rw [e4] at h1
    rw [e10, e5] at hj
    rw [e5, e9, e6]
    exact tp.2.2 i hi h1 j hj
/-- the class at a note that nothing ends -/
theorem cp_open {fu : Nat} {b : Nat → Int32} {n : Nat} {Fc Fm : PF} {Gc Gm : PG} (h : BT b n Fc Gc Fm Gm) (h93 : (Fc 93).toInt < 4001) {x1 : Int32} {x : Nat} (e1 : x1.toInt = x) (hx : x < n) (k0 : b x = 47) (k1 : b (x + 1) = 42) : PP (cf_X10_behindToken fu x1 Fc Gc) (fun r F' G' => r = -1 ∧ addC Fc Gc 1 0 x1 F' G') := by
  obtain ⟨h0, h1, h2, h3, h4⟩ := id h
  unfold cf_X10_behindToken cb_X10_behindToken_0
  refine PP.bind (cp_at h x1) ?_
  rintro a _ _ ⟨rfl, rfl, ha⟩
  dsimp only
  have xn : x1.toInt.toNat = x := by omega
  have ea : a = 47 := by
    rcases ha with ⟨q, -⟩ | ⟨-, -, q, -⟩ | ⟨q, -⟩
    · omega
    · rw [q, xn, k0]
    · omega
  rw [ea]
  have nd : ¬ DIG 47 := by unfold DIG; decide
  have nl : ¬ LET 47 := by unfold LET; decide
  have bad : PP (cb_X10_behindToken_48 fu x1 (-1) Fc Gc) (fun r F' G' => r = -1 ∧ addC Fc Gc 1 0 x1 F' G') := by
    unfold cb_X10_behindToken_48 cb_X10_behindToken_53 cb_X10_behindToken_60
    rw [if_pos (show (-1 : Int32) = -1 from rfl)]
    refine PP.bind (cp_add 1 0 x1 Fc Gc h93) ?_
    intro _ F' G' q
    exact PP.ret ⟨rfl, q⟩
  unfold cb_X10_behindToken_8
  refine PP.bind (cp_isDigit 47 Fc Gc) ?_
  rintro d _ _ ⟨rfl, rfl, hd⟩
  dsimp only
  unfold cb_X10_behindToken_13
  rw [if_pos (hd.z.mpr nd)]
  unfold cb_X10_behindToken_25
  refine PP.bind (cp_isPart 47 Fc Gc) ?_
  rintro q _ _ ⟨rfl, rfl, hq⟩
  dsimp only
  unfold cb_X10_behindToken_29
  rw [if_pos (hq.z.mpr (fun t => t.elim nd nl))]
  unfold cb_X10_behindToken_41 cb_X10_behindToken_47
  refine PP.bind (Q1 := fun r F' G' => r = -1 ∧ Fc = F' ∧ Gc = G') ?_ ?_
  · unfold cf_X10_behindSign cb_X10_behindSign_0
    refine PP.bind (cp_index (k := 47) (by decide) (by decide) Fc Gc) ?_
    rintro x3 _ _ ⟨rfl, rfl, -⟩
    dsimp only
    unfold cb_X10_behindSign_7
    refine PP.bind (cp_at h (x1 + 1)) ?_
    rintro a1 _ _ ⟨rfl, rfl, ha1⟩
    dsimp only
    have x4i : (x1 + (1 : Int32)).toInt = x1.toInt + 1 := i_addn x1 rfl (by omega) (by omega)
    have m1 : b (x + 1) = b (x1 + 1).toInt.toNat := by rw [show (x1 + 1).toInt.toNat = x + 1 by omega]
    have a42 : a1 = 42 := (ha1.iff h4 (by omega) m1 (c := 42) (by decide) (by decide)).mpr k1
    unfold cb_X10_behindSign_22 cb_X10_behindSign_28 cb_X10_behindSign_36 cb_X10_behindSign_42 cb_X10_behindSign_49
    rw [a42, if_pos (show (47 : Int32) = 47 from rfl), if_pos (show (42 : Int32) = 42 from rfl)]
    exact PP.ite (fun _ => PP.ret ⟨rfl, rfl, rfl⟩) (fun _ => PP.ite (fun _ => PP.ret ⟨rfl, rfl, rfl⟩) (fun _ => PP.ret ⟨rfl, rfl, rfl⟩))
  · rintro z _ _ ⟨rfl, rfl, rfl⟩
    exact bad
theorem mp_skipE {fu : Nat} {x1 : Int32} {F : PF} {G : PG} (e : F 3 ≤ x1) : PP (mf_skip fu x1 F G) (fun r F' G' => x1 = r ∧ F = F' ∧ G = G') := by
  unfold mf_skip mb_skip_0
  have : ∀ k : Nat, PP (ml_skip_2 fu k x1 F G) (fun r F' G' => x1 = r ∧ F = F' ∧ G = G') := by
    intro k
    cases k with
    | zero => intro r F' G' q; cases q
    | succ k =>
      show PP (mb_skip_2 fu (ml_skip_2 fu k) x1 F G) _
      unfold mb_skip_2 mb_skip_168
      rw [if_pos e]
      exact PP.ret ⟨rfl, rfl, rfl⟩
  exact this fu
theorem SCN.stop {fu : Nat} {b : Nat → Int32} {n N K : Nat} {ps ls : Nat → Nat} {pos : Nat} {Fc Fm F1 F2 : PF} {Gc Gm G1 G2 : PG} {ag : Int32 → PF → PG → PR} {x c r1 r2 : Int32} (h : SCN b n N K ps ls pos Fc Gc Fm Gm) (tp : TPL b N Gm pos) (h8 : Fm 8 = -1) (k : Nat) (e : x.toInt = n) (hc : c.toInt ≤ n) (e1 : cl_X10_scan_22 fu k x c Fc Gc = some (r1, F1, G1)) (e2 : mb_cut_42 fu ag x Fm Gm = some (r2, F2, G2)) : SCE b n N K ps ls F1 G1 F2 G2 := by
  obtain ⟨hB, hT, hN, hC, hM, p1, p2, p3⟩ := id h
  obtain ⟨b0, b1, b2, b3, b4⟩ := id hB
  have l1 : (-1 : Int32).toInt = -1 := rfl
  have l4 : (4001 : Int32).toInt = 4001 := rfl
  cases k with
  | zero => cases e1
  | succ k =>
    replace e1 : cb_X10_scan_22 fu (cl_X10_scan_22 fu k) x c Fc Gc = some (r1, F1, G1) := e1
    unfold cb_X10_scan_22 cb_X10_scan_29 at e1
    rw [if_neg (show ¬ (4001 : Int32) ≤ c from fun q => by have := i_le.mp q; omega), if_pos (show Fc 88 ≤ x from i_le.mpr (by omega))] at e1
    unfold mb_cut_42 mb_cut_47 at e2
    rw [if_neg (show ¬ x = -1 from fun q => by rw [q] at e; omega), if_pos (show Fm 3 ≤ x from i_le.mpr (by omega))] at e2
    unfold cb_X10_scan_75 cb_X10_scan_88 at e1
    obtain ⟨⟨q, Fq, Gq⟩, q1, e1⟩ := bind_elim e1
    have c := cp_add 0 0 (Fc 88) Fc Gc (by have := hT.1; omega) q Fq Gq q1
    cases e1
    exact h.fin tp c (fun _ _ => rfl) e2 (.inl ⟨rfl, b1, h8⟩)
theorem same_scanL {fu : Nat} {b : Nat → Int32} {n : Nat} : ∀ (k1 k2 N K : Nat) (ps ls : Nat → Nat) (pos : Nat) (x c r1 r2 : Int32) (Fc Fm F1 F2 : PF) (Gc Gm G1 G2 : PG), SCN b n N K ps ls pos Fc Gc Fm Gm → TPL b N Gm pos → x.toInt = pos → 0 ≤ c.toInt → c.toInt ≤ pos → Fm 8 = -1 → cl_X10_scan_22 fu k1 x c Fc Gc = some (r1, F1, G1) → (mf_skip fu x Fm Gm).bind (fun q => ml_cut_42 fu k2 q.1 q.2.1 q.2.2) = some (r2, F2, G2) → ∃ (N K : Nat) (ps ls : Nat → Nat), SCE b n N K ps ls F1 G1 F2 G2 := by
  intro k1
  induction k1 with
  | zero => intro k2 N K ps ls pos x c r1 r2 Fc Fm F1 F2 Gc Gm G1 G2 _ _ _ _ _ _ e1; cases e1
  | succ k1 ih =>
    intro k2 N K ps ls pos x c r1 r2 Fc Fm F1 F2 Gc Gm G1 G2 h tp ex hc0 hc1 h8 e1 e2
    obtain ⟨hB, hT, hN, hC, hM, p1, p2, p3⟩ := id h
    obtain ⟨b0, b1, b2, b3, b4⟩ := id hB
    have l0 : (0 : Int32).toInt = 0 := rfl
    have l1 : (-1 : Int32).toInt = -1 := rfl
    have l4 : (4001 : Int32).toInt = 4001 := rfl
    obtain ⟨⟨z, Fz, Gz⟩, s2, e2⟩ := bind_elim e2
    dsimp only at e2
    cases k2 with
    | zero => cases e2
    | succ k2 =>
      replace e2 : mb_cut_42 fu (ml_cut_42 fu k2) z Fz Gz = some (r2, F2, G2) := e2
      by_cases ce : Fc 88 ≤ x
      · have ce1 := i_le.mp ce
        obtain ⟨rfl, rfl, rfl⟩ := mp_skipE (i_le.mpr (by omega)) z Fz Gz s2
        exact ⟨N, K, ps, ls, h.stop tp h8 (k1 + 1) (by omega) (by omega) e1 e2⟩
      · have ce1 := mt i_le.mpr ce
        replace e1 : cb_X10_scan_22 fu (cl_X10_scan_22 fu k1) x c Fc Gc = some (r1, F1, G1) := e1
        unfold cb_X10_scan_22 cb_X10_scan_29 at e1
        rw [if_neg (show ¬ (4001 : Int32) ≤ c from fun q => by have := i_le.mp q; omega), if_neg ce] at e1
        unfold cb_X10_scan_40 at e1
        obtain ⟨⟨g, Fa, Ga⟩, a1, e1⟩ := bind_elim e1
        unfold cf_X10_behindGap cb_X10_behindGap_0 at a1
        unfold mf_skip mb_skip_0 at s2
        obtain ⟨rfl, rfl, g0, g1, gq⟩ := same_gapL hB fu fu x 0 g Fa Ga (z, Fz, Gz) (by omega) (by omega) (by omega) (by omega) a1 s2
        dsimp only at e1
        unfold cb_X10_scan_45 at e1
        have ec : (c + 1).toInt = c.toInt + 1 := i_addn c rfl (by omega) (by omega)
        obtain ⟨y, ey⟩ : ∃ y : Nat, g.toInt = y := ⟨g.toInt.toNat, by omega⟩
        have yn : g.toInt.toNat = y := by omega
        rw [yn] at gq
        have gm : ¬ g = -1 := fun q => by rw [q] at ey; omega
        have h93 : (Fc 93).toInt < 4001 := by have := hT.1; omega
        rcases gq with ⟨q1, nn⟩ | ⟨q1, q2, q3, q4⟩
        · have z1 : z = g := congrArg (fun u : Int32 × PF × PG => u.1) q1
          have z2 : Fz = Fm := congrArg (fun u : Int32 × PF × PG => u.2.1) q1
          have z3 : Gz = Gm := congrArg (fun u : Int32 × PF × PG => u.2.2) q1
          rw [z1, z2, z3] at e2
          by_cases ge : Fc 88 ≤ g
          · have ge1 := i_le.mp ge
            rw [if_pos ge] at e1
            unfold cb_X10_scan_63 cb_X10_scan_69 at e1
            rw [if_neg gm] at e1
            exact ⟨N, K, ps, ls, h.stop tp h8 k1 (by omega) (by omega) e1 e2⟩
          · have ge1 := mt i_le.mpr ge
            rw [if_neg ge] at e1
            unfold cb_X10_scan_57 cb_X10_scan_62 cb_X10_scan_63 cb_X10_scan_68 cb_X10_scan_69 at e1
            unfold mb_cut_42 mb_cut_47 at e2
            rw [if_neg gm, if_neg (show ¬ Fm 3 ≤ g from fun q => by have := i_le.mp q; omega)] at e2
            unfold mb_cut_55 mb_cut_60 at e2
            obtain ⟨⟨t1, Fs, Gs⟩, u1, e1⟩ := bind_elim e1
            obtain ⟨⟨t2, Ft, Gt⟩, u2, e2⟩ := bind_elim e2
            have fr := mw_tokenAt g Fm Gm t2 Ft Gt u2
            dsimp only at e1 e2
            rcases same_token h (show pos ≤ y by omega) (by omega) ey nn u1 u2 with ⟨K', ps', ls', e, v1, v2, v3, v4, v5, v6⟩ | ⟨v1, v2, v3, v4, v5⟩
            · have ei : (nI e).toInt = e := nI_toInt (by omega)
              have em : ¬ nI e = -1 := fun q => by rw [q] at ei; omega
              rw [v1, if_neg em] at e1
              rw [v2, if_neg em] at e2
              unfold mb_cut_71 at e2
              rw [if_neg em] at e2
              unfold mb_cut_80 mb_cut_85 at e2
              exact ih k2 (N + 1) K' ps' ls' e (nI e) (c + 1) r1 r2 Fs Ft F1 F2 Gs Gt G1 G2 v5 (v6 pos tp (by omega)) ei (by omega) (by omega) (by rw [fr.1 8 rfl]; exact h8) e1 e2
            · rw [v1, if_pos (show (-1 : Int32) = -1 from rfl)] at e1
              rw [v2, if_pos (show (-1 : Int32) = -1 from rfl), ← v4, ← v5] at e2
              unfold mb_cut_66 mb_cut_71 at e2
              rw [if_pos (show (-1 : Int32) = -1 from rfl)] at e2
              unfold mb_cut_76 mb_cut_85 at e2
              cases e1
              cases k2 with
              | zero => cases e2
              | succ k2 =>
                replace e2 : mb_cut_42 fu (ml_cut_42 fu k2) (-1) (fup Fm 8 g) Gm = some (r2, F2, G2) := e2
                unfold mb_cut_42 at e2
                rw [if_pos (show (-1 : Int32) = -1 from rfl)] at e2
                exact ⟨N, K, ps, ls, h.fin tp v3 (fun j hj => fup_n hj) e2 (.inr (by rw [fup_s]; exact ⟨rfl, rfl, by omega, by omega⟩))⟩
        · have z1 : z = -1 := congrArg (fun u : Int32 × PF × PG => u.1) q1
          have z2 : Fz = fup Fm 8 g := congrArg (fun u : Int32 × PF × PG => u.2.1) q1
          have z3 : Gz = Gm := congrArg (fun u : Int32 × PF × PG => u.2.2) q1
          rw [z1, z2, z3] at e2
          have ge : ¬ Fc 88 ≤ g := fun q => by have := i_le.mp q; omega
          rw [if_neg ge] at e1
          unfold cb_X10_scan_57 cb_X10_scan_62 cb_X10_scan_63 cb_X10_scan_68 cb_X10_scan_69 at e1
          obtain ⟨⟨t1, Fs, Gs⟩, u1, e1⟩ := bind_elim e1
          obtain ⟨v1, v3⟩ := cp_open hB h93 ey (by omega) q3 q4 t1 Fs Gs u1
          dsimp only at e1
          rw [v1, if_pos (show (-1 : Int32) = -1 from rfl)] at e1
          cases e1
          unfold mb_cut_42 at e2
          rw [if_pos (show (-1 : Int32) = -1 from rfl)] at e2
          exact ⟨N, K, ps, ls, h.fin tp v3 (fun j hj => fup_n hj) e2 (.inr (by rw [fup_s]; exact ⟨rfl, rfl, by omega, by omega⟩))⟩
