def ext (f : Nat → Nat) (K v : Nat) : Nat → Nat := fun k => if k = K then v else f k
theorem ext_s {f : Nat → Nat} {K v : Nat} : ext f K v K = v := if_pos rfl
theorem ext_n {f : Nat → Nat} {K v k : Nat} (h : ¬ k = K) : ext f K v k = f k := if_neg h
def hsum (b : Nat → Int32) (p l : Nat) : Nat → Int32
  | 0 => nI l
  | i + 1 => hsum b p l i * 31 + b (p + i)
def hcI (s : Int32) : Int32 := (s ^^^ (s.toUInt32 >>> ((10 : Int32).toUInt32 &&& Int32.toUInt32 31)).toInt32) &&& (1023 : Int32)
def hC (b : Nat → Int32) (p l : Nat) : Nat := (hcI (hsum b p l l)).toInt.toNat
theorem hcI_lt (s : Int32) : 0 ≤ (hcI s).toInt ∧ (hcI s).toInt < 1024 := i_and _ (m := 1023) 10 (by decide) (by decide)
theorem hsum_same {b : Nat → Int32} {p q l : Nat} (h : ∀ j : Nat, j < l → b (p + j) = b (q + j)) : ∀ i : Nat, i ≤ l → hsum b p l i = hsum b q l i := by
  intro i
  induction i with
  | zero => intro _; rfl
  | succ i ih =>
    intro hi
    show hsum b p l i * 31 + b (p + i) = hsum b q l i * 31 + b (q + i)
    rw [ih (by omega), h i (by omega)]
theorem hC_same {b : Nat → Int32} {p l q m : Nat} (h : SAMET b p l q m) : hC b p l = hC b q m := by
  obtain ⟨rfl, h⟩ := h
  unfold hC
  rw [hsum_same h l (Nat.le_refl _)]
def CNM (b : Nat → Int32) (K : Nat) (ps ls : Nat → Nat) (Fc : PF) (Gc : PG) : Prop := (Fc 98).toInt = K ∧ (∀ k : Nat, k < K → (Gc 96 k).toInt = ps k ∧ (Gc 97 k).toInt = ls k) ∧ CHN K 1024 (fun k => hC b (ps k) (ls k)) (fun h => (Gc 94 h).toInt) (fun v => (Gc 95 v).toInt)
theorem cp_isName {fu : Nat} {b : Nat → Int32} {n K : Nat} {ps ls : Nat → Nat} {Fc Fm : PF} {Gc Gm : PG} (h : BT b n Fc Gc Fm Gm) (hN : NT b n K ps ls) (hC : CNM b K ps ls Fc Gc) {x1 x2 x3 : Int32} {k x m : Nat} (e1 : x1.toInt = k) (hk : k < K) (e2 : x2.toInt = x) (e3 : x3.toInt = m) (hx : x + m ≤ n) : PP (cf_X10_isName fu x1 x2 x3 Fc Gc) (fun r F' G' => Fc = F' ∧ Gc = G' ∧ YN r (SAMET b (ps k) (ls k) x m)) := by
  obtain ⟨h0, h1, h2, h3, h4⟩ := id h
  obtain ⟨a1, a2, a3, a4⟩ := hN.1 k hk
  have ek : x1.toNatClampNeg = k := by
    show x1.toInt.toNat = k
    omega
  obtain ⟨p1, p2⟩ := hC.2.1 k hk
  have cmp : ∀ (k2 : Nat) (x4 x5 : Int32) (a : Nat), x5.toInt = a → a ≤ m → ((x4 = 1 ∧ ls k = m ∧ ∀ j : Nat, j < a → b (ps k + j) = b (x + j)) ∨ (x4 = 0 ∧ ¬ SAMET b (ps k) (ls k) x m)) → PP (cl_X10_isName_20 fu k2 x1 x2 x3 x4 x5 Fc Gc) (fun r F' G' => Fc = F' ∧ Gc = G' ∧ YN r (SAMET b (ps k) (ls k) x m)) := by
    intro k2
    induction k2 with
    | zero => intro x4 x5 a _ _ _; exact PP.no
    | succ k2 ih =>
      intro x4 x5 a e5 a0 ha
      show PP (cb_X10_isName_20 fu (cl_X10_isName_20 fu k2) x1 x2 x3 x4 x5 Fc Gc) _
      unfold cb_X10_isName_20 cb_X10_isName_74
      refine PP.ite (fun c => PP.bz (fun _ => PP.ret ⟨rfl, rfl, ?_⟩)) (fun c => ?_)
      · have c1 := i_le.mp c
        rcases ha with ⟨u, v, w⟩ | ⟨u, v⟩
        · exact .inl ⟨u, v, fun j hj => w j (by omega)⟩
        · exact .inr ⟨u, v⟩
      · have c1 := mt i_le.mpr c
        unfold cb_X10_isName_26 cb_X10_isName_74
        refine PP.ite (fun z => PP.bz (fun _ => PP.ret ⟨rfl, rfl, ?_⟩)) (fun z => ?_)
        · rcases ha with ⟨u, v, w⟩ | ⟨u, v⟩
          · rw [u] at z
            exact absurd z (by decide)
          · exact .inr ⟨u, v⟩
        · rcases ha with ⟨u, v, w⟩ | ⟨u, v⟩
          · unfold cb_X10_isName_31
            refine PP.ix (fun _ => ?_)
            rw [ek]
            have q1 : ((Gc 96 k) + x5).toInt = ((ps k + a : Nat) : Int) := by
              have e : ((Gc 96 k) + x5).toInt = (Gc 96 k).toInt + x5.toInt := i_addn _ rfl (by omega) (by omega)
              omega
            have q2 : (x2 + x5).toInt = ((x + a : Nat) : Int) := by
              have e : (x2 + x5).toInt = x2.toInt + x5.toInt := i_addn _ rfl (by omega) (by omega)
              omega
            refine PP.bind (cp_at h _) ?_
            rintro r _ _ ⟨rfl, rfl, hr⟩
            dsimp only
            have er : r = b (ps k + a) := by
              rcases hr with ⟨q, -⟩ | ⟨-, -, q, -⟩ | ⟨q, -⟩
              · omega
              · rw [q, q1]
                rfl
              · omega
            unfold cb_X10_isName_47
            refine PP.bind (cp_at h _) ?_
            rintro r' _ _ ⟨rfl, rfl, hr'⟩
            dsimp only
            have er' : r' = b (x + a) := by
              rcases hr' with ⟨q, -⟩ | ⟨-, -, q, -⟩ | ⟨q, -⟩
              · omega
              · rw [q, q2]
                rfl
              · omega
            have e51 : (x5 + 1).toInt = x5.toInt + 1 := i_addn x5 rfl (by omega) (by omega)
            unfold cb_X10_isName_58 cb_X10_isName_61 cb_X10_isName_65 cb_X10_isName_66
            refine PP.ite (fun t => ih 1 (x5 + 1) (a + 1) (by omega) (by omega) (.inl ⟨rfl, v, fun j hj => ?_⟩)) (fun t => ih 0 (x5 + 1) (a + 1) (by omega) (by omega) (.inr ⟨rfl, fun s => t ?_⟩))
            · rcases Nat.lt_or_ge j a with q | q
              · exact w j q
              · rw [show j = a by omega, ← er, ← er', t]
            · rw [er, er']
              exact s.2 a (by omega)
          · exact absurd u z
  unfold cf_X10_isName cb_X10_isName_0
  refine PP.ix (fun _ => ?_)
  rw [ek]
  unfold cb_X10_isName_10 cb_X10_isName_14 cb_X10_isName_15
  refine PP.ite (fun z => cmp fu 1 0 0 rfl (Nat.zero_le _) (.inl ⟨rfl, ?_, fun j hj => absurd hj (by omega)⟩)) (fun z => cmp fu 0 0 0 rfl (Nat.zero_le _) (.inr ⟨rfl, fun t => z (i_eq.mpr ?_)⟩))
  · have := congrArg Int32.toInt z
    omega
  · have := t.1
    omega
theorem cp_nameAt {fu : Nat} {b : Nat → Int32} {n K : Nat} {ps ls : Nat → Nat} {Fc Fm : PF} {Gc Gm : PG} (h : BT b n Fc Gc Fm Gm) (hN : NT b n K ps ls) (hC0 : CNM b K ps ls Fc Gc) {x1 x2 : Int32} {x m : Nat} (e1 : x1.toInt = x) (e2 : x2.toInt = m) (hx : x + m ≤ n) : PP (cf_X10_nameAt fu x1 x2 Fc Gc) (fun r F' G' => (∃ k : Nat, k < K ∧ r = nI k ∧ SAMET b (ps k) (ls k) x m ∧ Fc = F' ∧ Gc = G') ∨ ((∀ k : Nat, k < K → ¬ SAMET b (ps k) (ls k) x m) ∧ r = nI K ∧ CNM b (K + 1) (ext ps K x) (ext ls K m) F' G' ∧ KX [98] [94, 95, 96, 97] Fc Gc F' G')) := by
  obtain ⟨h0, h1, h2, h3, h4⟩ := id h
  obtain ⟨n0, n1, n2⟩ := id hC0
  have few := hN.few h0
  have l14 : (1408 : Int32).toInt = 1408 := rfl
  have l0 : (0 : Int32).toInt = 0 := rfl
  have eK : (Fc 98).toNatClampNeg = K := by
    show (Fc 98).toInt.toNat = K
    omega
  unfold cf_X10_nameAt cb_X10_nameAt_0
  have sum : ∀ (k2 : Nat) (x3 x4 : Int32) (a : Nat), x4.toInt = a → a ≤ m → x3 = hsum b x m a → PP (cl_X10_nameAt_5 fu k2 x1 x2 x3 x4 Fc Gc) (fun r F' G' => (∃ k : Nat, k < K ∧ r = nI k ∧ SAMET b (ps k) (ls k) x m ∧ Fc = F' ∧ Gc = G') ∨ ((∀ k : Nat, k < K → ¬ SAMET b (ps k) (ls k) x m) ∧ r = nI K ∧ CNM b (K + 1) (ext ps K x) (ext ls K m) F' G' ∧ KX [98] [94, 95, 96, 97] Fc Gc F' G')) := by
    intro k2
    induction k2 with
    | zero => intro x3 x4 a _ _ _; exact PP.no
    | succ k2 ih =>
      intro x3 x4 a e4 a0 e3
      show PP (cb_X10_nameAt_5 fu (cl_X10_nameAt_5 fu k2) x1 x2 x3 x4 Fc Gc) _
      unfold cb_X10_nameAt_5
      refine PP.ite (fun c => ?_) (fun c => ?_)
      · have c1 := i_le.mp c
        have am : a = m := by omega
        rw [am] at e3
        unfold cb_X10_nameAt_34
        refine PP.ix (fun _ => ?_)
        rw [e3]
        show PP (cl_X10_nameAt_58 fu fu x1 x2 (hcI (hsum b x m m)) (Gc 94 (hcI (hsum b x m m)).toNatClampNeg) 0 Fc Gc) _
        obtain ⟨y0, y1⟩ := hcI_lt (hsum b x m m)
        have yh : (hcI (hsum b x m m)).toInt.toNat = hC b x m := rfl
        have yn : (hcI (hsum b x m m)).toNatClampNeg = hC b x m := rfl
        rw [yn]
        generalize hcI (hsum b x m m) = y at y0 y1 yh yn
        -- a new name
        have new : (∀ k : Nat, k < K → ¬ SAMET b (ps k) (ls k) x m) → PP (cb_X10_nameAt_109 fu x1 x2 y Fc Gc) (fun r F' G' => (∃ k : Nat, k < K ∧ r = nI k ∧ SAMET b (ps k) (ls k) x m ∧ Fc = F' ∧ Gc = G') ∨ ((∀ k : Nat, k < K → ¬ SAMET b (ps k) (ls k) x m) ∧ r = nI K ∧ CNM b (K + 1) (ext ps K x) (ext ls K m) F' G' ∧ KX [98] [94, 95, 96, 97] Fc Gc F' G')) := by
          intro none
          unfold cb_X10_nameAt_109
          refine PP.ite (fun z => ?_) (fun z => absurd (i_lt.mpr (show (Fc 98).toInt < (1408 : Int32).toInt by omega)) z)
          unfold cb_X10_nameAt_121
          refine PP.ix (fun _ => ?_)
          unfold cb_X10_nameAt_131
          refine PP.ix (fun _ => ?_)
          unfold cb_X10_nameAt_141
          refine PP.ix (fun _ => PP.ix (fun _ => ?_))
          unfold cb_X10_nameAt_157
          refine PP.ix (fun _ => ?_)
          unfold cb_X10_nameAt_168 cb_X10_nameAt_178
          rw [eK, yn]
          have e98 : (Fc 98 + 1).toInt = (Fc 98).toInt + 1 := i_addn _ rfl (by omega) (by omega)
          refine PP.ret (.inr ⟨none, ?_, ⟨?_, fun k hk => ?_, ?_⟩, ?_⟩)
          · rw [fup_s]
            refine i_eq.mpr ?_
            have q : (Fc 98 + 1 - 1).toInt = (Fc 98 + 1).toInt - 1 := i_subn _ rfl (by omega) (by omega)
            rw [q, nI_toInt (by omega)]
            omega
          · rw [fup_s]
            omega
          · by_cases q : k = K
            · rw [q, ext_s, ext_s, gup_o (by decide), gup_o (by decide), gup_o (by decide), gup_i, gup_o (by decide), gup_o (by decide), gup_i]
              exact ⟨e1, e2⟩
            · rw [ext_n q, ext_n q, gup_o (by decide), gup_o (by decide), gup_o (by decide), gup_x q, gup_o (by decide), gup_o (by decide), gup_x q, gup_o (by decide)]
              exact n1 k (by omega)
          · refine CHN.more (h := hC b x m) n2 (by omega) (fun k hk => ?_) ?_ ?_ (fun k hk hne => ?_) ?_ (fun k hk => ?_)
            · show hC b (ext ps K x k) (ext ls K m k) = hC b (ps k) (ls k)
              rw [ext_n (by omega), ext_n (by omega)]
            · show hC b (ext ps K x K) (ext ls K m K) = hC b x m
              rw [ext_s, ext_s]
            · show (gup _ 94 (hC b x m) (Fc 98) 94 (hC b x m)).toInt = K
              rw [gup_i]
              exact n0
            · show (gup _ 94 (hC b x m) (Fc 98) 94 k).toInt = (Gc 94 k).toInt
              rw [gup_x hne, gup_o (by decide), gup_o (by decide), gup_o (by decide)]
            · show (gup _ 94 (hC b x m) (Fc 98) 95 K).toInt = (Gc 94 (hC b x m)).toInt
              rw [gup_o (by decide), gup_i, gup_o (by decide), gup_o (by decide)]
            · show (gup _ 94 (hC b x m) (Fc 98) 95 k).toInt = (Gc 95 k).toInt
              rw [gup_o (by decide), gup_x (by omega), gup_o (by decide), gup_o (by decide)]
          · exact KX.f (k := 98) rfl (KX.g (k := 94) rfl (KX.g (k := 95) rfl (KX.g (k := 97) rfl (KX.g (k := 96) rfl KX.rf))))
        -- along the chain
        have walk : ∀ (k3 : Nat) (x5 x6 : Int32) (c : Nat), x6.toInt = c → c ≤ K → -1 ≤ x5.toInt → x5.toInt + c < K → (0 ≤ x5.toInt → hC b (ps x5.toInt.toNat) (ls x5.toInt.toNat) = hC b x m) → (∀ k : Nat, k < K → x5.toInt < k → ¬ SAMET b (ps k) (ls k) x m) → PP (cl_X10_nameAt_58 fu k3 x1 x2 y x5 x6 Fc Gc) (fun r F' G' => (∃ k : Nat, k < K ∧ r = nI k ∧ SAMET b (ps k) (ls k) x m ∧ Fc = F' ∧ Gc = G') ∨ ((∀ k : Nat, k < K → ¬ SAMET b (ps k) (ls k) x m) ∧ r = nI K ∧ CNM b (K + 1) (ext ps K x) (ext ls K m) F' G' ∧ KX [98] [94, 95, 96, 97] Fc Gc F' G')) := by
          intro k3
          induction k3 with
          | zero => intro x5 x6 c _ _ _ _ _ _; exact PP.no
          | succ k3 ih3 =>
            intro x5 x6 c e6 c0 c1 c2 c3 c4
            show PP (cb_X10_nameAt_58 fu (cl_X10_nameAt_58 fu k3) x1 x2 y x5 x6 Fc Gc) _
            unfold cb_X10_nameAt_58
            refine PP.ite (fun z => new ?_) (fun z => ?_)
            · have z1 := i_le.mp z
              intro k hk
              exact c4 k hk (by omega)
            unfold cb_X10_nameAt_67
            refine PP.ite (fun z => new ?_) (fun z => ?_)
            · have z1 := i_lt.mp z
              intro k hk
              exact c4 k hk (by omega)
            have z1 := mt i_lt.mpr z
            unfold cb_X10_nameAt_72
            refine PP.ite (fun w => ?_) (fun w => ?_)
            · have w1 := i_le.mp w
              omega
            unfold cb_X10_nameAt_80
            obtain ⟨v, hv⟩ : ∃ v : Nat, x5.toInt = v := ⟨x5.toInt.toNat, by omega⟩
            refine PP.bind (cp_isName h hN hC0 hv (by omega) e1 e2 hx) ?_
            rintro r _ _ ⟨rfl, rfl, hr⟩
            dsimp only
            unfold cb_X10_nameAt_88 cb_X10_nameAt_91
            have xv : x5.toNatClampNeg = v := by
              show x5.toInt.toNat = v
              omega
            refine PP.ite (fun t => ?_) (fun t => PP.ret (.inl ⟨v, by omega, i_eq.mpr (by rw [nI_toInt (by omega)]; exact hv), Classical.byContradiction (fun w => t (hr.z.mpr w)), rfl, rfl⟩))
            unfold cb_X10_nameAt_94
            refine PP.ix (fun _ => ?_)
            rw [xv]
            obtain ⟨u0, u1, u2, u3⟩ := n2.2 v (by omega)
            dsimp only at u0 u1 u2 u3
            have e61 : (x6 + 1).toInt = x6.toInt + 1 := i_addn x6 rfl (by omega) (by omega)
            have hsv : hC b (ps v) (ls v) = hC b x m := by
              have := c3 (by omega)
              rw [show x5.toInt.toNat = v by omega] at this
              exact this
            refine ih3 (Gc 95 v) (x6 + 1) (c + 1) (by omega) (by omega) u0 (by omega) (fun q => (u2 q).trans hsv) (fun k hk hk2 => ?_)
            rcases Nat.lt_trichotomy k v with q | q | q
            · intro s
              exact u3 k hk2 q ((hC_same s).trans hsv.symm)
            · rw [q]
              exact hr.z.mp t
            · exact c4 k hk (by omega)
        obtain ⟨u0, u1, u2, u3⟩ := n2.1 (hC b x m) (by omega)
        dsimp only at u0 u1 u2 u3
        exact walk fu (Gc 94 (hC b x m)) 0 0 rfl (Nat.zero_le _) u0 (by omega) u2 (fun k hk hk2 s => u3 k hk hk2 (hC_same s))
      · have c1 := mt i_le.mpr c
        unfold cb_X10_nameAt_11
        have q2 : (x1 + x4).toInt = ((x + a : Nat) : Int) := by
          have e : (x1 + x4).toInt = x1.toInt + x4.toInt := i_addn _ rfl (by omega) (by omega)
          omega
        refine PP.bind (cp_at h _) ?_
        rintro r _ _ ⟨rfl, rfl, hr⟩
        dsimp only
        have er : r = b (x + a) := by
          rcases hr with ⟨q, -⟩ | ⟨-, -, q, -⟩ | ⟨q, -⟩
          · omega
          · rw [q, q2]
            rfl
          · omega
        have e41 : (x4 + 1).toInt = x4.toInt + 1 := i_addn x4 rfl (by omega) (by omega)
        unfold cb_X10_nameAt_26
        refine ih _ (x4 + 1) (a + 1) (by omega) (by omega) ?_
        rw [er, e3]
        rfl
  exact sum fu x2 0 0 rfl (Nat.zero_le _) (i_eq.mpr (by rw [e2]; show _ = (nI m).toInt; rw [nI_toInt (by omega)]))
