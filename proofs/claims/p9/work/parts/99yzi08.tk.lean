def hmI (a c l : Int32) : Int32 := ((((a * (7 : Int32)) + (c * (3 : Int32))) + l) - (((a * (7 : Int32)) + (c * (3 : Int32))) + l) / (64 : Int32) * (64 : Int32))
def hM (b : Nat → Int32) (p l : Nat) : Nat := (hmI (b p) (b (p + l - 1)) (nI l)).toInt.toNat
theorem hM_same {b : Nat → Int32} {p l q m : Nat} (hl : 1 ≤ l) (h : SAMET b p l q m) : hM b p l = hM b q m := by
  obtain ⟨rfl, h⟩ := h
  unfold hM
  have a := h 0 (by omega)
  have c := h (l - 1) (by omega)
  rw [show p + l - 1 = p + (l - 1) by omega, show q + l - 1 = q + (l - 1) by omega, c]
  rw [Nat.add_zero, Nat.add_zero] at a
  rw [a]
def MNM (b : Nat → Int32) (K : Nat) (ps ls : Nat → Nat) (Fm : PF) (Gm : PG) : Prop := (Fm 13).toInt = K ∧ (∀ k : Nat, k < K → (Gm 9 k).toInt = ps k ∧ (Gm 10 k).toInt = ls k) ∧ CHN K 64 (fun k => hM b (ps k) (ls k)) (fun h => (Gm 12 h).toInt) (fun v => (Gm 11 v).toInt)
theorem mp_nameOf {fu : Nat} {b : Nat → Int32} {n K : Nat} {ps ls : Nat → Nat} {Fc Fm : PF} {Gc Gm : PG} (h : BT b n Fc Gc Fm Gm) (hN : NT b n K ps ls) (hC0 : MNM b K ps ls Fm Gm) {x1 x2 : Int32} {x m : Nat} (e1 : x1.toInt = x) (e2 : x2.toInt = m) (hm : 1 ≤ m) (hx : x + m ≤ n) : PP (mf_nameOf fu x1 x2 Fm Gm) (fun r F' G' => (∃ k : Nat, k < K ∧ r = nI k ∧ SAMET b (ps k) (ls k) x m ∧ Fm = F' ∧ Gm = G') ∨ ((∀ k : Nat, k < K → ¬ SAMET b (ps k) (ls k) x m) ∧ r = nI K ∧ MNM b (K + 1) (ext ps K x) (ext ls K m) F' G' ∧ KX [13] [9, 10, 11, 12] Fm Gm F' G')) := by
  obtain ⟨h0, h1, h2, h3, h4⟩ := id h
  obtain ⟨n0, n1, n2⟩ := id hC0
  have few := hN.few h0
  have eK : (Fm 13).toNatClampNeg = K := by
    show (Fm 13).toInt.toNat = K
    omega
  unfold mf_nameOf mb_nameOf_0
  refine PP.bind (mp_at h x1 (by omega)) ?_
  rintro ra _ _ ⟨rfl, rfl, hra⟩
  dsimp only
  unfold mb_nameOf_5
  have q1 : ((x1 + x2) - (1 : Int32)).toInt = ((x + m - 1 : Nat) : Int) := by
    have e : (x1 + x2).toInt = x1.toInt + x2.toInt := i_addn _ rfl (by omega) (by omega)
    have e' : ((x1 + x2) - (1 : Int32)).toInt = (x1 + x2).toInt - 1 := i_subn _ rfl (by omega) (by omega)
    omega
  refine PP.bind (mp_at h _ (by omega)) ?_
  rintro rc _ _ ⟨rfl, rfl, hrc⟩
  dsimp only
  unfold mb_nameOf_17
  have x2n : x2 = nI m := i_eq.mpr (by rw [nI_toInt (by omega)]; exact e2)
  have ya : ra = b x := by rw [hra, show x1.toInt.toNat = x by omega]
  have yc : rc = b (x + m - 1) := by rw [hrc, show ((x1 + x2) - (1 : Int32)).toInt.toNat = x + m - 1 by omega]
  refine PP.ix (fun vy => ?_)
  have yh : (((ra * (7 : Int32)) + (rc * (3 : Int32))) + x2) - (((ra * (7 : Int32)) + (rc * (3 : Int32))) + x2) / (64 : Int32) * (64 : Int32) = hmI (b x) (b (x + m - 1)) (nI m) := by
    rw [ya, yc]
    unfold hmI
    rw [← x2n]
  rw [yh] at vy ⊢
  have yn : (hmI (b x) (b (x + m - 1)) (nI m)).toNatClampNeg = hM b x m := rfl
  obtain ⟨y0, y1⟩ := vp_in_iff.mp vy
  have yt : (hmI (b x) (b (x + m - 1)) (nI m)).toInt.toNat = hM b x m := rfl
  rw [yn]
  generalize hmI (b x) (b (x + m - 1)) (nI m) = y at y0 y1 yn yt
  have new : (∀ k : Nat, k < K → ¬ SAMET b (ps k) (ls k) x m) → PP (mb_nameOf_130 fu x1 x2 y Fm Gm) (fun r F' G' => (∃ k : Nat, k < K ∧ r = nI k ∧ SAMET b (ps k) (ls k) x m ∧ Fm = F' ∧ Gm = G') ∨ ((∀ k : Nat, k < K → ¬ SAMET b (ps k) (ls k) x m) ∧ r = nI K ∧ MNM b (K + 1) (ext ps K x) (ext ls K m) F' G' ∧ KX [13] [9, 10, 11, 12] Fm Gm F' G')) := by
    intro none
    unfold mb_nameOf_130
    refine PP.ix (fun _ => ?_)
    unfold mb_nameOf_140
    refine PP.ix (fun _ => ?_)
    unfold mb_nameOf_150
    refine PP.ix (fun _ => PP.ix (fun _ => ?_))
    unfold mb_nameOf_165
    refine PP.ix (fun _ => ?_)
    unfold mb_nameOf_175 mb_nameOf_185
    rw [eK, yn]
    have e98 : (Fm 13 + 1).toInt = (Fm 13).toInt + 1 := i_addn _ rfl (by omega) (by omega)
    refine PP.ret (.inr ⟨none, ?_, ⟨?_, fun k hk => ?_, ?_⟩, ?_⟩)
    · rw [fup_s]
      refine i_eq.mpr ?_
      have q : (Fm 13 + 1 - 1).toInt = (Fm 13 + 1).toInt - 1 := i_subn _ rfl (by omega) (by omega)
      rw [q, nI_toInt (by omega)]
      omega
    · rw [fup_s]
      omega
    · by_cases q : k = K
      · rw [q, ext_s, ext_s, gup_o (by decide), gup_o (by decide), gup_o (by decide), gup_i, gup_o (by decide), gup_o (by decide), gup_i]
        exact ⟨e1, e2⟩
      · rw [ext_n q, ext_n q, gup_o (by decide), gup_o (by decide), gup_o (by decide), gup_x q, gup_o (by decide), gup_o (by decide), gup_x q, gup_o (by decide)]
        exact n1 k (by omega)
    · refine CHN.more (h := hM b x m) n2 (by omega) (fun k hk => ?_) ?_ ?_ (fun k hk hne => ?_) ?_ (fun k hk => ?_)
      · show hM b (ext ps K x k) (ext ls K m k) = hM b (ps k) (ls k)
        rw [ext_n (by omega), ext_n (by omega)]
      · show hM b (ext ps K x K) (ext ls K m K) = hM b x m
        rw [ext_s, ext_s]
      · show (gup _ 12 (hM b x m) (Fm 13) 12 (hM b x m)).toInt = K
        rw [gup_i]
        exact n0
      · show (gup _ 12 (hM b x m) (Fm 13) 12 k).toInt = (Gm 12 k).toInt
        rw [gup_x hne, gup_o (by decide), gup_o (by decide), gup_o (by decide)]
      · show (gup _ 12 (hM b x m) (Fm 13) 11 K).toInt = (Gm 12 (hM b x m)).toInt
        rw [gup_o (by decide), gup_i, gup_o (by decide), gup_o (by decide)]
      · show (gup _ 12 (hM b x m) (Fm 13) 11 k).toInt = (Gm 11 k).toInt
        rw [gup_o (by decide), gup_x (by omega), gup_o (by decide), gup_o (by decide)]
    · exact KX.f (k := 13) rfl (KX.g (k := 12) rfl (KX.g (k := 11) rfl (KX.g (k := 10) rfl (KX.g (k := 9) rfl KX.rf))))
  have walk : ∀ (k3 : Nat) (x4 : Int32), -1 ≤ x4.toInt → x4.toInt < K → (0 ≤ x4.toInt → hM b (ps x4.toInt.toNat) (ls x4.toInt.toNat) = hM b x m) → (∀ k : Nat, k < K → x4.toInt < k → ¬ SAMET b (ps k) (ls k) x m) → PP (ml_nameOf_34 fu k3 x1 x2 y x4 Fm Gm) (fun r F' G' => (∃ k : Nat, k < K ∧ r = nI k ∧ SAMET b (ps k) (ls k) x m ∧ Fm = F' ∧ Gm = G') ∨ ((∀ k : Nat, k < K → ¬ SAMET b (ps k) (ls k) x m) ∧ r = nI K ∧ MNM b (K + 1) (ext ps K x) (ext ls K m) F' G' ∧ KX [13] [9, 10, 11, 12] Fm Gm F' G')) := by
    intro k3
    induction k3 with
    | zero => intro x4 _ _ _ _; exact PP.no
    | succ k3 ih3 =>
      intro x4 c1 c2 c3 c4
      show PP (mb_nameOf_34 fu (ml_nameOf_34 fu k3) x1 x2 y x4 Fm Gm) _
      unfold mb_nameOf_34
      refine PP.ite (fun z => new ?_) (fun z => ?_)
      · have z1 : x4.toInt = -1 := by rw [z]; rfl
        intro k hk
        exact c4 k hk (by omega)
      have z1 : ¬ x4.toInt = -1 := fun q => z (i_eq.mpr (q.trans rfl))
      obtain ⟨v, hv⟩ : ∃ v : Nat, x4.toInt = v := ⟨x4.toInt.toNat, by omega⟩
      have xv : x4.toNatClampNeg = v := by
        show x4.toInt.toNat = v
        omega
      have vK : v < K := by omega
      obtain ⟨a1, a2, a3, a4⟩ := hN.1 v vK
      obtain ⟨p1, p2⟩ := n1 v vK
      have hsv : hM b (ps v) (ls v) = hM b x m := by
        have := c3 (by omega)
        rw [show x4.toInt.toNat = v by omega] at this
        exact this
      -- no: along the chain; yes: this one
      have no : ¬ SAMET b (ps v) (ls v) x m → PP (mb_nameOf_118 fu (ml_nameOf_34 fu k3) x1 x2 y x4 Fm Gm) (fun r F' G' => (∃ k : Nat, k < K ∧ r = nI k ∧ SAMET b (ps k) (ls k) x m ∧ Fm = F' ∧ Gm = G') ∨ ((∀ k : Nat, k < K → ¬ SAMET b (ps k) (ls k) x m) ∧ r = nI K ∧ MNM b (K + 1) (ext ps K x) (ext ls K m) F' G' ∧ KX [13] [9, 10, 11, 12] Fm Gm F' G')) := by
        intro t
        unfold mb_nameOf_118
        refine PP.ix (fun _ => ?_)
        rw [xv]
        obtain ⟨u0, u1, u2, u3⟩ := n2.2 v vK
        dsimp only at u0 u1 u2 u3
        refine ih3 (Gm 11 v) u0 (by omega) (fun q => (u2 q).trans hsv) (fun k hk hk2 => ?_)
        rcases Nat.lt_trichotomy k v with q | q | q
        · intro s
          exact u3 k hk2 q ((hM_same (hN.1 k hk).1 s).trans hsv.symm)
        · rw [q]
          exact t
        · exact c4 k hk (by omega)
      have over : ∀ x5 : Int32, ((x5 = 1 ∧ SAMET b (ps v) (ls v) x m) ∨ (x5 = 0 ∧ ¬ SAMET b (ps v) (ls v) x m)) → PP (mb_nameOf_110 fu (ml_nameOf_34 fu k3) x1 x2 y x4 x5 Fm Gm) (fun r F' G' => (∃ k : Nat, k < K ∧ r = nI k ∧ SAMET b (ps k) (ls k) x m ∧ Fm = F' ∧ Gm = G') ∨ ((∀ k : Nat, k < K → ¬ SAMET b (ps k) (ls k) x m) ∧ r = nI K ∧ MNM b (K + 1) (ext ps K x) (ext ls K m) F' G' ∧ KX [13] [9, 10, 11, 12] Fm Gm F' G')) := by
        intro x5 q
        unfold mb_nameOf_110 mb_nameOf_115
        rcases q with ⟨q1, q2⟩ | ⟨q1, q2⟩
        · rw [if_neg (show ¬ x5 = 0 by rw [q1]; decide)]
          exact PP.ret (.inl ⟨v, vK, i_eq.mpr (by rw [nI_toInt (by omega)]; exact hv), q2, rfl, rfl⟩)
        · rw [if_pos q1]
          exact no q2
      have cmp : ∀ (k2 : Nat) (x5 x6 : Int32) (a : Nat), x6.toInt = a → a ≤ m → ((x5 = 1 ∧ ls v = m ∧ ∀ j : Nat, j < a → b (ps v + j) = b (x + j)) ∨ (x5 = 0 ∧ ¬ SAMET b (ps v) (ls v) x m)) → PP (ml_nameOf_61 fu (ml_nameOf_34 fu k3) k2 x1 x2 y x4 x5 x6 Fm Gm) (fun r F' G' => (∃ k : Nat, k < K ∧ r = nI k ∧ SAMET b (ps k) (ls k) x m ∧ Fm = F' ∧ Gm = G') ∨ ((∀ k : Nat, k < K → ¬ SAMET b (ps k) (ls k) x m) ∧ r = nI K ∧ MNM b (K + 1) (ext ps K x) (ext ls K m) F' G' ∧ KX [13] [9, 10, 11, 12] Fm Gm F' G')) := by
        intro k2
        induction k2 with
        | zero => intro x5 x6 a _ _ _; exact PP.no
        | succ k2 ih2 =>
          intro x5 x6 a e6 a0 ha
          show PP (mb_nameOf_61 fu (ml_nameOf_34 fu k3) (ml_nameOf_61 fu (ml_nameOf_34 fu k3) k2) x1 x2 y x4 x5 x6 Fm Gm) _
          unfold mb_nameOf_61
          refine PP.ite (fun c => over x5 ?_) (fun c => ?_)
          · have c1 := i_le.mp c
            rcases ha with ⟨s, t, w⟩ | ⟨s, t⟩
            · exact .inl ⟨s, t, fun j hj => w j (by omega)⟩
            · exact .inr ⟨s, t⟩
          have c1' := mt i_le.mpr c
          unfold mb_nameOf_67
          refine PP.ite (fun z => over x5 ?_) (fun z => ?_)
          · rcases ha with ⟨s, t, w⟩ | ⟨s, t⟩
            · rw [s] at z
              exact absurd z (by decide)
            · exact .inr ⟨s, t⟩
          rcases ha with ⟨s, t, w⟩ | ⟨s, t⟩
          · unfold mb_nameOf_72
            refine PP.ix (fun _ => ?_)
            rw [xv]
            have q1 : ((Gm 9 v) + x6).toInt = ((ps v + a : Nat) : Int) := by
              have e : ((Gm 9 v) + x6).toInt = (Gm 9 v).toInt + x6.toInt := i_addn _ rfl (by omega) (by omega)
              omega
            have q2 : (x1 + x6).toInt = ((x + a : Nat) : Int) := by
              have e : (x1 + x6).toInt = x1.toInt + x6.toInt := i_addn _ rfl (by omega) (by omega)
              omega
            refine PP.bind (mp_at h _ (by omega)) ?_
            rintro r _ _ ⟨rfl, rfl, hr⟩
            dsimp only
            unfold mb_nameOf_86
            refine PP.bind (mp_at h _ (by omega)) ?_
            rintro r' _ _ ⟨rfl, rfl, hr'⟩
            dsimp only
            have er : r = b (ps v + a) := by rw [hr, show ((Gm 9 v) + x6).toInt.toNat = ps v + a by omega]
            have er' : r' = b (x + a) := by rw [hr', show (x1 + x6).toInt.toNat = x + a by omega]
            have e61 : (x6 + 1).toInt = x6.toInt + 1 := i_addn x6 rfl (by omega) (by omega)
            unfold mb_nameOf_94 mb_nameOf_97 mb_nameOf_101 mb_nameOf_102
            refine PP.ite (fun u => ih2 1 (x6 + 1) (a + 1) (by omega) (by omega) (.inl ⟨rfl, t, fun j hj => ?_⟩)) (fun u => ih2 0 (x6 + 1) (a + 1) (by omega) (by omega) (.inr ⟨rfl, fun q => u ?_⟩))
            · rcases Nat.lt_or_ge j a with q | q
              · exact w j q
              · rw [show j = a by omega, ← er, ← er', u]
            · rw [er, er']
              exact q.2 a (by omega)
          · exact absurd s z
      unfold mb_nameOf_40
      refine PP.ix (fun _ => ?_)
      rw [xv]
      unfold mb_nameOf_51 mb_nameOf_55 mb_nameOf_56
      refine PP.ite (fun z => cmp fu 1 0 0 rfl (Nat.zero_le _) (.inl ⟨rfl, ?_, fun j hj => absurd hj (by omega)⟩)) (fun z => cmp fu 0 0 0 rfl (Nat.zero_le _) (.inr ⟨rfl, fun t => z (i_eq.mpr ?_)⟩))
      · have := congrArg Int32.toInt z
        omega
      · have := t.1
        omega
  obtain ⟨u0, u1, u2, u3⟩ := n2.1 (hM b x m) (by omega)
  dsimp only at u0 u1 u2 u3
  exact walk fu (Gm 12 (hM b x m)) u0 u1 u2 (fun k hk hk2 s => u3 k hk hk2 (hM_same (hN.1 k hk).1 s))
