/-- a name that is all of an argument -/
def jAlone (Gm : PG) (i : Nat) : Prop := Gm 4 i = 1 ∧ Gm 4 (i + 1) = 4 ∧ (Gm 5 (i + 1) = 28 ∨ Gm 5 (i + 1) = 23)
section JE8
variable {fu : Nat} {X : JCX} {p : Int32} {N K n q nf t i : Nat} {Fc Fm : PF} {Gc Gm : PG}
theorem cp_alone (T : TKE N K n Fc Gc Fm Gm) (C : CU N i Fc Gc Fm Gm) : PP (cf_X2_isNameAlone fu Fc Gc) (fun r F' G' => Fc = F' ∧ Gc = G' ∧ ((r = 1 ∧ jAlone Gm i) ∨ (r = 0 ∧ ¬ jAlone Gm i))) := by
  have l0 : (0 : Int32).toInt = 0 := rfl
  obtain ⟨⟨t0, t0', -⟩, t1, t2, t3, t4, t5, t6⟩ := id T
  obtain ⟨c0, c1, -⟩ := id C
  have nm := (C.tk T).nam
  have e9 : (Fc 9).toInt = i := by rw [c1, nI_toInt (by omega)]
  have ea : (Fc 9 + 1).toInt = (i : Int) + 1 := by
    have : (Fc 9 + 1).toInt = (Fc 9).toInt + 1 := i_addn _ rfl (by omega) (by omega)
    omega
  have en : (Fc 9 + 1).toNatClampNeg = i + 1 := by
    show (Fc 9 + 1).toInt.toNat = i + 1
    omega
  -- the token behind
  have sg : i < N → ((Gc 90 (i + 1) = 25 ↔ (Gm 4 (i + 1) = 4 ∧ Gm 5 (i + 1) = 28)) ∧ (Gc 90 (i + 1) = 20 ↔ (Gm 4 (i + 1) = 4 ∧ Gm 5 (i + 1) = 23))) := by
    intro hi
    rcases Nat.lt_or_ge (i + 1) N with z | z
    · have w := (t3 (i + 1) z).1
      exact ⟨w.sign (w := 28) (by decide), w.sign (w := 23) (by decide)⟩
    · have e : i + 1 = N := by omega
      rw [e, t4]
      have b : ¬ Gc 90 N = 25 ∧ ¬ Gc 90 N = 20 := by
        rcases t6 with ⟨y, -⟩ | ⟨y, -⟩
        · rw [y]; decide
        · rw [y]; decide
      exact ⟨⟨fun y => absurd y b.1, fun y => absurd y.1 (by decide)⟩, ⟨fun y => absurd y b.2, fun y => absurd y.1 (by decide)⟩⟩
  unfold cf_X2_isNameAlone cb_X2_isNameAlone_0
  refine PP.bind (Q1 := fun r F' G' => Fc = F' ∧ Gc = G' ∧ (i < N → r = Gc 90 (i + 1))) ?_ ?_
  · unfold cf_X10_kind cb_X10_kind_0 cb_X10_kind_4 cb_X10_kind_12 cb_X10_kind_16 cb_X10_kind_22
    refine PP.ite (fun z => absurd (i_lt.mp z) (by omega)) (fun _ => PP.ite (fun z => PP.ix (fun _ => PP.ret ⟨rfl, rfl, fun _ => by rw [en]⟩)) (fun z => PP.ret ⟨rfl, rfl, fun hi => absurd (i_lt.mpr (by omega)) z⟩))
  · rintro r _ _ ⟨rfl, rfl, hr⟩
    dsimp only
    unfold cb_X2_isNameAlone_13 cb_X2_isNameAlone_22 cb_X2_isNameAlone_28 cb_X2_isNameAlone_34 cb_X2_isNameAlone_38 cb_X2_isNameAlone_39
    refine PP.ite (fun y => ?_) (fun y => PP.bz (fun _ => PP.ret ⟨rfl, rfl, .inr ⟨rfl, fun z => y (nm.mpr z.1)⟩⟩))
    have g4 : Gm 4 i = 1 := nm.mp y
    have hi : i < N := C.lt T (by rw [g4]; decide)
    have hr := hr hi
    obtain ⟨s1, s2⟩ := sg hi
    refine PP.ite (fun w => PP.bz (fun _ => PP.ret ⟨rfl, rfl, .inl ⟨rfl, g4, (s1.mp (hr.symm.trans w)).1, .inl (s1.mp (hr.symm.trans w)).2⟩⟩)) (fun w => PP.ite (fun v => PP.bz (fun _ => PP.ret ⟨rfl, rfl, .inl ⟨rfl, g4, (s2.mp (hr.symm.trans v)).1, .inr (s2.mp (hr.symm.trans v)).2⟩⟩)) (fun v => PP.bz (fun _ => PP.ret ⟨rfl, rfl, .inr ⟨rfl, fun z => ?_⟩⟩)))
    rcases z.2.2 with y1 | y1
    · exact w (hr.trans (s1.mpr ⟨z.2.1, y1⟩))
    · exact v (hr.trans (s2.mpr ⟨z.2.1, y1⟩))
/-- the class writes an array as an argument -/
theorem cp_pass (sym : Int32) {F : PF} {G : PG} (h0 : 0 ≤ (F 6).toInt) (rm : jRm 3 F) : PP (cf_X3_pass fu sym F G) (fun _ F1 G1 => ∃ a b c : Int32, EMC [a, b, c] F G F1 G1 ∧ ∀ j k : Nat, (F 41).toInt = k → k ≤ 700 → j < k → sym = nI j → a = (if G 38 j = 0 then 83 else if G 34 j = 0 then 81 else 82) ∧ b = G 37 j ∧ c = G 38 j) := by
  have rm2 : jRm 2 F := by
    rcases rm with z | ⟨z, z1, z2⟩
    · exact .inl z
    · exact .inr ⟨z, z1, by omega⟩
  have on : ∀ a : Int32, (∀ j k : Nat, (F 41).toInt = k → k ≤ 700 → j < k → sym = nI j → a = (if G 38 j = 0 then 83 else if G 34 j = 0 then 81 else 82)) → PP (cb_X3_pass_48 fu sym a F G) (fun _ F1 G1 => ∃ a b c : Int32, EMC [a, b, c] F G F1 G1 ∧ ∀ j k : Nat, (F 41).toInt = k → k ≤ 700 → j < k → sym = nI j → a = (if G 38 j = 0 then 83 else if G 34 j = 0 then 81 else 82) ∧ b = G 37 j ∧ c = G 38 j) := by
    intro a ha
    unfold cb_X3_pass_48
    refine PP.bind (cp_value sym F G) ?_
    rintro b _ _ ⟨rfl, rfl, hb⟩
    dsimp only
    unfold cb_X3_pass_56
    refine PP.bind (cp_wpair a b G rm2) ?_
    intro _ F1 G1 e1
    dsimp only
    unfold cb_X3_pass_59
    refine PP.bind (cp_size sym F1 G1) ?_
    rintro c _ _ ⟨rfl, rfl, hc⟩
    dsimp only
    unfold cb_X3_pass_71 cb_X3_pass_74
    have e7 : F1 7 = F 7 := e1.1.1 7 rfl
    refine PP.bind (cp_wadd c G1 ?_) ?_
    · rcases rm with z | ⟨z, z1, z2⟩
      · exact .inl (e7.trans z)
      · have : (F1 6).toInt = (F 6).toInt + ((2 : Nat) : Int) := (e1.2.2 z).1
        exact .inr ⟨e7.trans z, by omega, by omega⟩
    · intro _ F2 G2 e2
      refine PP.ret ⟨a, b, c, e1.tr e2 h0, fun j k k1 k2 k3 k4 => ⟨ha j k k1 k2 k3 k4, hb j k k1 k2 k3 k4, ?_⟩⟩
      rw [hc j k (by rw [e1.1.1 41 rfl]; exact k1) k2 k3 k4, e1.1.2 38 rfl]
  unfold cf_X3_pass cb_X3_pass_0
  refine PP.bind (cp_size sym F G) ?_
  rintro c _ _ ⟨rfl, rfl, hc⟩
  dsimp only
  unfold cb_X3_pass_8
  refine PP.ite (fun w => ?_) (fun w => ?_)
  · unfold cb_X3_pass_11 cb_X3_pass_16
    rw [if_neg i10n]
    unfold cb_X3_pass_25
    refine on 83 (fun j k k1 k2 k3 k4 => ?_)
    rw [if_pos ((hc j k k1 k2 k3 k4).symm.trans w)]
  · unfold cb_X3_pass_15 cb_X3_pass_16
    rw [if_pos rfl]
    unfold cb_X3_pass_30
    refine PP.bind (cp_isGlobal sym F G) ?_
    rintro g _ _ ⟨rfl, rfl, hg⟩
    dsimp only
    unfold cb_X3_pass_38
    refine PP.ite (fun w2 => ?_) (fun w2 => ?_)
    · unfold cb_X3_pass_46
      refine on 82 (fun j k k1 k2 k3 k4 => ?_)
      rw [if_neg (fun z => w ((hc j k k1 k2 k3 k4).trans z))]
      rcases hg j k k1 k2 k3 k4 with ⟨z, -⟩ | ⟨-, z⟩
      · rw [w2] at z
        exact absurd z (by decide)
      · rw [if_neg z]
    · unfold cb_X3_pass_41
      refine on 81 (fun j k k1 k2 k3 k4 => ?_)
      rw [if_neg (fun z => w ((hc j k k1 k2 k3 k4).trans z))]
      rcases hg j k k1 k2 k3 k4 with ⟨-, z⟩ | ⟨z, -⟩
      · rw [if_pos z]
      · exact absurd z w2
theorem cp_wantArray (sym pl w : Int32) {F : PF} {G : PG} {j c : Nat} (h41 : (F 41).toInt = c) (hc : c ≤ 700) (hj : j < c) (hs : sym = nI j) (on : ¬ F 45 = 0) (hpl : pl.toInt ≤ 4000) : PP (cf_X5_wantArray fu sym pl w F G) (fun _ F1 G1 => G = G1 ∧ KX [43, 44, 47] [] F G F1 G1 ∧ (G 35 j = w → F = F1) ∧ (¬ G 35 j = w → (F1 43).toInt ≤ 4000)) := by
  unfold cf_X5_wantArray cb_X5_wantArray_0
  refine PP.bind (cp_kind sym F G) ?_
  rintro κ _ _ ⟨rfl, rfl, -, hk⟩
  have hk := hk j c h41 hc hj hs
  dsimp only
  unfold cb_X5_wantArray_5 cb_X5_wantArray_9 cb_X5_wantArray_15
  refine PP.ite (fun z => PP.ret ⟨rfl, KX.rf, fun _ => rfl, fun y => absurd (hk.symm.trans z) y⟩) (fun z => PP.bind (cp_note 2 pl (by decide) (by decide) F G) ?_)
  rintro r F2 G2 ⟨g, k1, k2, k3⟩
  exact PP.ret ⟨g, k1, fun y => absurd (hk.trans y) z, fun _ => k3 on hpl⟩
/-- both write a call -/
theorem jAl.cal {s s1 : SH} {F1 Fa Fb : PF} {G1 Ga Gb : PG} {w fn f : Int32} (hX : p = 1 → X.1 = false ∧ ∃ g : Nat, g < 1000 ∧ fn = nI g ∧ f = nI g ∧ s1 = jArg (X.2.2.2 g) s) (h7 : Fc 7 = 0 ∨ Fc 7 = 1) (hp : p = 1 → Fc 7 = 1) (D : jD N i Fc Gc Fm Gm) (e : EMC [90, fn, w] Fc Gc F1 G1) (m1 : EMM 15 0 0 Fm Gm Fa Ga) (m2 : EMM 16 f w Fa Ga Fb Gb) : jAl X p N i i 0 3 s1 (0 :: s) [] Fc Gc Fm Gm F1 G1 Fb Gb := by
  obtain ⟨D1, ⟨D2, D3, D4⟩, ⟨D5, D6⟩, D7, D8, D9⟩ := D
  obtain ⟨x1, x2, x3⟩ := id e
  obtain ⟨y1, y2, y3, y4, y5, y6⟩ := id m1
  obtain ⟨z1, z2, z3, z4, z5, z6⟩ := id m2
  have yz : KX [60] [56, 57, 58, 59] Fm Gm Fb Gb := KX.tr y1 z1 rfl rfl
  have c6 : 0 ≤ (F1 6).toInt ∧ (F1 6).toInt ≤ (Fc 6).toInt + 3 := by
    rcases h7 with z | z
    · rw [(x2 z).1]
      omega
    · have : (F1 6).toInt = (Fc 6).toInt + ((3 : Nat) : Int) := (x3 z).1
      omega
  have sa : sN Fa = sN Fm + 1 := m1.sn D8
  have sb : sN Fb = sN Fa + 1 := m2.sn (by omega)
  refine ⟨⟨KX.tr KX.rf x1 rfl rfl, KX.tr KX.rf yz rfl rfl⟩, ⟨?_, ⟨?_, ?_, ?_⟩, ⟨?_, ?_⟩, c6.1, by omega, ?_⟩, ⟨Nat.le_refl _, Int.le_refl _⟩, ?_, ⟨x1.1 21 rfl, fun _ _ => by rw [x1.2 20 rfl]⟩, ⟨yz.1 70 rfl, fun _ _ => ⟨by rw [yz.2 67 rfl], by rw [yz.2 68 rfl], by rw [yz.2 69 rfl]⟩⟩, by omega, fun q => ⟨yz.1 55 rfl, fun mu A h1 h2 => ?_⟩⟩
  · unfold CU at D1 ⊢
    rw [x1.1 9 rfl, yz.1 42 rfl, x1.1 10 rfl, yz.1 43 rfl, x1.1 14 rfl, yz.1 44 rfl, x1.1 11 rfl, x1.1 12 rfl, x1.1 13 rfl, x1.2 90 rfl, x1.2 91 rfl, x1.2 92 rfl]
    exact D1
  · rw [yz.1 47 rfl]; exact D2
  · rw [x1.1 43 rfl]; exact D3
  · rw [x1.1 47 rfl]; exact D4
  · rw [x1.1 21 rfl]; exact D5
  · rw [x1.1 21 rfl, yz.2 6 rfl]; exact D6
  · rw [yz.1 70 rfl]; exact D9
  · rw [x1.1 10 rfl]; omega
  · have z := hp q
    have W := (x3 z).2.2
    obtain ⟨X1, g, g0, g1, g2, g3⟩ := hX q
    rw [g3] at h1
    refine (JX.rf h1 h2).call X1 g0 (by omega) (e.wn z D7) (fun k hk => (y3 k (Nat.ne_of_lt hk)).tr (z3 k (by omega))) (x3 z).2.1 ?_ ?_ ?_ (W 0 90 rfl) ((W 1 fn rfl).trans g1) ?_
    · rw [(z3 (sN Fm) (by omega)).1]
      exact y4
    · rw [← sa]
      exact z4
    · rw [← sa]
      exact z5.trans g2
    · rw [← sa, z6]
      exact W 2 w rfl
/-- where no code is made, shapes are nothing -/
theorem jAl.p0 {j : Nat} {d κ : Int} {s s1 s2 s3 : SH} {hs hs1 : List JHO} {F1 F2 : PF} {G1 G2 : PG} (hp : p = 0) (h : jAl X p N i j d κ s s1 hs Fc Gc Fm Gm F1 G1 F2 G2) : jAl X p N i j d κ s2 s3 hs1 Fc Gc Fm Gm F1 G1 F2 G2 := by
  obtain ⟨a1, a3, a4, a5, a6, a7, a8, -⟩ := h
  refine ⟨a1, a3, a4, a5, a6, a7, a8, fun z => ?_⟩
  rw [hp] at z
  exact absurd z (by decide)
/-- the class writes and goes on, the reference goes on and writes -/
theorem jAl.ps {l : Nat} {s s1 : SH} {w a b : Int32} {ws : List Int32} {F1 F3 F4 : PF} {G1 G3 G4 : PG} (S : jS X p N K n q nf t Fc Gc Fm Gm) (D : jD N i Fc Gc Fm Gm) (hi : i < N) (hl : l ≤ tlen (Gm 4 i) (Gm 5 i)) (c : EMC ws Fc Gc F1 G1) (o : jOn N (i + 1) 0 F1 G1 Fm Gm F3 G3 (fup Fm 42 (Fm 42 + 1)) Gm) (m : EMM w a b (fup Fm 42 (Fm 42 + 1)) Gm F4 G4) (ho : p = 1 → jO X w a b (G4 59 (sN Fm)) (fun j => G1 5 (wN Fc + j)) s s1 ws.length) : jAl X p N i (i + 1) 0 ((ws.length : Int) - 2 * l) s s1 [] Fc Gc Fm Gm F3 G3 F4 G4 := by
  obtain ⟨D1, ⟨D2, D3, D4⟩, ⟨D5, D6⟩, D7, D8, D9⟩ := D
  obtain ⟨x1, x2, x3⟩ := id c
  obtain ⟨⟨rfl, o1⟩, -, o3, o4⟩ := o
  obtain ⟨y1, y2, y3, y4, y5, y6⟩ := id m
  have e7 := S.2.2.1.2.2
  have f60 : fup Fm 42 (Fm 42 + 1) 60 = Fm 60 := fup_n (by decide)
  have fs : sN (fup Fm 42 (Fm 42 + 1)) = sN Fm := by
    show (fup Fm 42 (Fm 42 + 1) 60).toNatClampNeg = _
    rw [f60]
  rw [f60] at y2
  rw [fs] at y3 y4 y5 y6
  have kc : KX [6, 9, 10, 11, 12, 13, 14] [5] Fc Gc F3 G1 := KX.tr (KX.tr KX.rf x1 rfl rfl) o1 rfl rfl
  have km : KX [42, 60] [56, 57, 58, 59] Fm Gm F4 G4 := KX.tr (KX.f rfl KX.rf) y1 rfl rfl
  have e6 : F3 6 = F1 6 := o1.1 6 rfl
  have c6 : 0 ≤ (F1 6).toInt ∧ (F1 6).toInt ≤ (Fc 6).toInt + ws.length := by
    rcases S.2.1 with z | z
    · rw [(x2 (e7.trans z)).1]
      omega
    · have := (x3 (e7.trans z)).1
      omega
  have tp := (S.1.1.2.2 i hi).1
  have g6 : G4 6 = Gm 6 := km.2 6 rfl
  refine ⟨⟨KX.tr KX.rf kc rfl rfl, KX.tr KX.rf km rfl rfl⟩, ⟨?_, ⟨?_, ?_, ?_⟩, ⟨?_, ?_⟩, by rw [e6]; exact c6.1, by omega, ?_⟩, ⟨by omega, by omega⟩, ?_, ⟨kc.1 21 rfl, fun _ _ => by rw [kc.2 20 rfl]⟩, ⟨km.1 70 rfl, fun _ _ => ⟨by rw [km.2 67 rfl], by rw [km.2 68 rfl], by rw [km.2 69 rfl]⟩⟩, by rw [e6]; omega, fun q => ⟨km.1 55 rfl, fun mu A h1 h2 => ?_⟩⟩
  · unfold CU at o3 ⊢
    rw [y1.1 42 rfl, y1.1 43 rfl, y1.1 44 rfl]
    exact o3
  · rw [km.1 47 rfl]; exact D2
  · rw [kc.1 43 rfl]; exact D3
  · rw [kc.1 47 rfl]; exact D4
  · rw [kc.1 21 rfl]; exact D5
  · rw [kc.1 21 rfl, g6]; omega
  · rw [km.1 70 rfl]; exact D9
  · have e10 : F1 10 = Fc 10 := x1.1 10 rfl
    rw [← e10]
    exact o4
  · have z := e7.trans q
    have w3 : wN F3 = wN F1 := by
      show (F3 6).toNatClampNeg = _
      rw [e6]
    refine (JX.rf h1 h2).op (n := ws.length) ?_ (w3.trans (c.wn z D7)) (fun k hk => y3 k (Nat.ne_of_lt hk)) (x3 z).2.1 ?_
    · show (F4 60).toInt.toNat = (Fm 60).toInt.toNat + 1
      omega
    · rw [y4, y5, y6]
      exact ho q
end JE8
