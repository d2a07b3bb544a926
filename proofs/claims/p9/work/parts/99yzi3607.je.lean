section JE7
variable {fu : Nat} {X : JCX} {p : Int32} {N K n q nf t : Nat}
/-- the reference notes, and that stays -/
theorem mp_nt {k pl : Int32} {F : PF} {G : PG} {A : PF → PG → PR} (h46 : ¬ F 46 = 0) (hk : 0 < k.toInt) (hA : ∀ (F' : PF) (G' : PG), PP (A F' G') (fun _ F1 _ => MFS F' F1)) : PP ((mf_note fu k pl F G).bind (fun q => A q.2.1 q.2.2)) (fun _ F1 _ => ¬ F1 47 = 0) := by
  refine PP.bind (mp_note k pl hk F G) ?_
  rintro r F2 G2 ⟨-, -, n3, -⟩
  refine PP.mono (hA F2 G2) (fun _ F3 _ w z => ?_)
  have := n3 h46
  rw [w.2.1 z] at this
  exact absurd this (by decide)
/-- in the first pass notes are nothing -/
theorem mp_n0 {k pl : Int32} {F : PF} {G : PG} (h46 : F 46 = 0) (hk : 0 < k.toInt) : PP (mf_note fu k pl F G) (fun _ F1 G1 => F = F1 ∧ G = G1) := PP.mono (mp_note k pl hk F G) (fun _ F1 G1 w => ⟨w.2.2.2 h46, w.2.1⟩)
/-- the reference's own fields change -/
theorem jAl.mm {i : Nat} {s : SH} {Fc Fm F2 : PF} {Gc Gm : PG} (D : jD N i Fc Gc Fm Gm) (k : KX [55, 62] [] Fm Gm F2 Gm) (h : p = 1 → F2 55 = Fm 55) : jAl X p N i i 0 0 s s [] Fc Gc Fm Gm Fc Gc F2 Gm := by
  obtain ⟨D1, ⟨D2, D3, D4⟩, D5, D7, D8, D9⟩ := D
  refine ⟨⟨KX.rf, KX.tr KX.rf k rfl rfl⟩, ⟨?_, ⟨?_, D3, D4⟩, D5, D7, ?_, ?_⟩, ⟨Nat.le_refl _, Int.le_refl _⟩, by omega, ⟨rfl, fun _ _ => rfl⟩, ⟨k.1 70 rfl, fun _ _ => ⟨rfl, rfl, rfl⟩⟩, by omega, fun z => ⟨h z, fun mu A h1 h2 => (JX.rf h1 h2).st (k.1 60 rfl) (fun _ _ _ => rfl) rfl rfl⟩⟩
  · unfold CU at D1 ⊢
    rw [k.1 42 rfl, k.1 43 rfl, k.1 44 rfl]
    exact D1
  · rw [k.1 47 rfl]; exact D2
  · rw [k.1 60 rfl]; exact D8
  · rw [k.1 70 rfl]; exact D9
/-- index and element, at any depth -/
theorem je_indexD {dm dc i κ : Nat} {s : SH} {sym m : Int32} {Fc Fm : PF} {Gc Gm : PG} (ihE : ∀ d : Nat, d < dm → jPx fu X p N K n q nf t 1 4 d) (I : jIn X p N K n q nf t i Fc Gc Fm Gm) (h11 : Fc 11 = 21) (m0 : p = 0 → m = -1) (m1 : p = 1 → X.1 = false ∧ ∃ k : Nat, k < t ∧ sym = nI (q + k) ∧ m = nI k ∧ Gm 17 k = 2 ∧ Gc 35 (q + k) = nI (κ + 1)) (hκ : κ = 1 ∨ κ = 2) : JP (cS1 fu dc 2 sym 0 Fc Gc) (mS1 fu dm 3 m 0 Fm Gm) (fun _ F1 G1 r2 F2 G2 => jOut X p N i 1 s (κ :: s) Fc Gc Fm Gm r2 F1 G1 F2 G2) := by
  cases dc with
  | zero => exact JP.noL
  | succ dc =>
    cases dm with
    | zero => exact JP.noR
    | succ dm =>
      show JP (ch_X3_index fu (cS1 fu dc) sym Fc Gc) (mh_element fu (mS1 fu dm) m Fm Gm) _
      exact je_index (ihE dm (Nat.lt_succ_self _)) I h11 m0 m1 hκ
/-- a call, from its bracket on: what both begin with -/
def jCa (X : JCX) (p : Int32) (nf : Nat) (isf fn f : Int32) : Prop := (p = 0 → isf = 0 ∧ fn = -1 ∧ f = -1) ∧ (p = 1 → X.1 = false ∧ isf = 1 ∧ ∃ g : Nat, g < nf ∧ fn = nI g ∧ f = nI g)
/-- the call's tail, to be proved -/
def jPt (fu : Nat) (X : JCX) (p : Int32) (N K n q nf t : Nat) (dm : Nat) : Prop := ∀ (dc i : Nat) (s : SH) (isf fn f x1 pl : Int32) (Fc : PF) (Gc : PG) (Fm : PF) (Gm : PG), jIn X p N K n q nf t i Fc Gc Fm Gm → jCa X p nf isf fn f → Gm 6 x1.toNatClampNeg = pl → JP (cb_X3_call_34 fu (cS1 fu dc) pl isf fn Fc Gc) (mb_call_126 fu (mS1 fu dm) x1 f Fm Gm) (fun _ F1 G1 r2 F2 G2 => jOut X p N i 0 s (0 :: s) Fc Gc Fm Gm r2 F1 G1 F2 G2)
theorem cp_want0 {fu : Nat} (pl b : Int32) (F : PF) (G : PG) : PP (cf_X5_wantValue fu (-1) pl b F G) (fun _ F1 G1 => F = F1 ∧ G = G1) := by
  unfold cf_X5_wantValue cb_X5_wantValue_0
  refine PP.bind (cp_kind (-1) F G) ?_
  rintro κ _ _ ⟨rfl, rfl, hk, -⟩
  dsimp only
  unfold cb_X5_wantValue_5 cb_X5_wantValue_13
  rw [if_pos (hk rfl)]
  exact PP.ret ⟨rfl, rfl⟩
/-- a call in the first pass: the class's -/
theorem cp_call0 {fu : Nat} {rc : RC} (pl : Int32) {F : PF} {G : PG} {b : PR} {Q : Int32 → PF → PG → Int32 → PF → PG → Prop} (h : JP (cb_X3_call_34 fu rc pl 0 (-1) F G) b Q) : JP (ch_X3_call fu rc (-1) pl F G) b Q := by
  unfold ch_X3_call cb_X3_call_0
  refine JP.L (cp_kind (-1) F G) ?_
  rintro κ _ _ ⟨rfl, rfl, hk, -⟩
  dsimp only
  unfold cb_X3_call_8
  rw [if_neg (by rw [hk rfl]; decide)]
  unfold cb_X3_call_16 cb_X3_call_17
  rw [if_pos rfl]
  unfold cb_X3_call_33
  exact h
theorem mp_call0 {fu : Nat} {rc : RC} (x1 x2 : Int32) {F : PF} {G : PG} {a : PR} {Q : Int32 → PF → PG → Int32 → PF → PG → Prop} (h46 : F 46 = 0) (h : JP a (mb_call_126 fu rc x1 (-1) F G) Q) : JP a (mh_call fu rc x1 x2 F G) Q := by
  have h87 : JP a (mb_call_87 fu rc x1 x2 (-1) F G) Q := by
    unfold mb_call_87 mb_call_94
    exact JP.iteR (fun _ => by rw [if_pos rfl]; exact h) (fun _ => h)
  have h63 : JP a (mb_call_63 fu rc x1 x2 (-1) (-1) F G) Q := by
    unfold mb_call_63 mb_call_70
    exact JP.iteR (fun _ => by rw [if_pos rfl]; exact h87) (fun _ => h87)
  unfold mh_call mb_call_0
  rw [if_pos h46]
  unfold mb_call_7 mb_call_16
  rw [if_pos h46]
  unfold mb_call_24 mb_call_32
  refine JP.iteR (fun _ => ?_) (fun _ => h63)
  unfold mb_call_41
  rw [if_pos rfl]
  unfold mb_call_46
  rw [if_pos rfl]
  unfold mb_call_52
  refine JP.ixR (fun _ => JP.R (mp_n0 h46 (by decide)) ?_)
  rintro r _ _ ⟨rfl, rfl⟩
  exact h63
/-- a call in the first pass -/
theorem je_call0 {dm dc i : Nat} {s : SH} {x1 x2 pl : Int32} {Fc Fm : PF} {Gc Gm : PG} (ihT : ∀ d : Nat, d < dm → jPt fu X p N K n q nf t d) (I : jIn X p N K n q nf t i Fc Gc Fm Gm) (hp : p = 0) (hx : Gm 6 x1.toNatClampNeg = pl) : JP (cS1 fu dc 0 (-1) pl Fc Gc) (mS1 fu dm 1 x1 x2 Fm Gm) (fun _ F1 G1 r2 F2 G2 => jOut X p N i 0 s (0 :: s) Fc Gc Fm Gm r2 F1 G1 F2 G2) := by
  cases dc with
  | zero => exact JP.noL
  | succ dc =>
    cases dm with
    | zero => exact JP.noR
    | succ dm =>
      show JP (ch_X3_call fu (cS1 fu dc) (-1) pl Fc Gc) (mh_call fu (mS1 fu dm) x1 x2 Fm Gm) _
      refine cp_call0 pl (mp_call0 x1 x2 (by rw [I.1.2.2.1.1, hp]) ?_)
      refine ihT dm (Nat.lt_succ_self _) dc i s 0 (-1) (-1) x1 pl Fc Gc Fm Gm I ⟨fun _ => ⟨rfl, rfl, rfl⟩, fun z => ?_⟩ hx
      rw [hp] at z
      exact absurd z (by decide)
/-- a call of a function that is there, in the second pass -/
theorem je_call1 {dm dc i j g : Nat} {s : SH} {sym x1 x2 pl : Int32} {Fc Fm : PF} {Gc Gm : PG} (ihT : ∀ d : Nat, d < dm → jPt fu X p N K n q nf t d) (I : jIn X p N K n q nf t i Fc Gc Fm Gm) (hp : p = 1) (hX : X.1 = false) (hx : Gm 6 x1.toNatClampNeg = pl) (hj : j < q) (hg : g < nf) (hs : sym = nI j) (hv : Gc 37 j = nI g) (hk : Gc 35 j = 4) (hm : jMn nf t Gm (Gm 5 x1.toNatClampNeg) (-1) (nI g)) (hv2 : x2 = 0 ∨ Gm 33 g = 0) : JP (cS1 fu dc 0 sym pl Fc Gc) (mS1 fu dm 1 x1 x2 Fm Gm) (fun _ F1 G1 r2 F2 G2 => jOut X p N i 0 s (0 :: s) Fc Gc Fm Gm r2 F1 G1 F2 G2) := by
  cases dc with
  | zero => exact JP.noL
  | succ dc =>
    cases dm with
    | zero => exact JP.noR
    | succ dm =>
      show JP (ch_X3_call fu (cS1 fu dc) sym pl Fc Gc) (mh_call fu (mS1 fu dm) x1 x2 Fm Gm) _
      obtain ⟨x0, SA, SE, SU, SL, FT⟩ := I.1.2.2.2.2.2 hp
      have t9 := SE.2.2.1
      have f4 := FT.2.1
      have h46 : ¬ Fm 46 = 0 := by rw [I.1.2.2.1.1, hp]; decide
      have h54 : Fm 54 = 0 := by
        rcases I.1.2.2.2.2.1 with z | z
        · exact z
        · have := x0.mpr (by rw [z]; decide)
          rw [hX] at this
          cases this
      unfold ch_X3_call cb_X3_call_0
      refine JP.L (cp_kind sym Fc Gc) ?_
      rintro κ _ _ ⟨rfl, rfl, -, hκ⟩
      have hκ := hκ j (q + t) SE.2.1 (by omega) (by omega) hs
      dsimp only
      unfold cb_X3_call_8
      rw [if_pos (hκ.trans hk)]
      unfold cb_X3_call_12 cb_X3_call_17
      rw [if_neg i10n]
      unfold cb_X3_call_22
      refine JP.L (cp_value sym Fc Gc) ?_
      rintro fn _ _ ⟨rfl, rfl, hfn⟩
      have hfn := (hfn j (q + t) SE.2.1 (by omega) (by omega) hs).trans hv
      dsimp only
      unfold cb_X3_call_30 mh_call mb_call_0
      rw [if_neg h46]
      unfold mb_call_11
      refine JP.R (mp_mean x1 SU SE.1 SA.1 (by omega) (by omega)) ?_
      rintro m F2 _ ⟨rfl, kx, hmn⟩
      dsimp only
      -- what is meant is the same
      have one : m = -1 ∧ F2 62 = nI g := by
        have L1 : jLa (Gm 16) t (Gm 5 x1.toNatClampNeg) m := by
          rcases hmn with ⟨-, k, k1, k2, k3, k4⟩ | ⟨k1, k2, -⟩
          · exact .inr ⟨k, k1, k2, k3, k4⟩
          · exact .inl ⟨k1, k2⟩
        have L2 : jLa (Gm 16) t (Gm 5 x1.toNatClampNeg) (-1) := by
          rcases hm with ⟨-, k, k1, k2, k3, k4⟩ | ⟨k1, k2, -⟩
          · exact .inr ⟨k, k1, k2, k3, k4⟩
          · exact .inl ⟨k1, k2⟩
        have e := L1.one L2
        refine ⟨e, ?_⟩
        have ne : ∀ k : Nat, k < t → ¬ (-1 : Int32) = nI k := fun k k1 z => by
          have := congrArg Int32.toInt z
          rw [nI_toInt (by omega)] at this
          have l1 : (-1 : Int32).toInt = -1 := rfl
          omega
        have neg : ¬ nI g = (-1 : Int32) := fun z => by
          have := congrArg Int32.toInt z
          rw [nI_toInt (by omega)] at this
          have l1 : (-1 : Int32).toInt = -1 := rfl
          omega
        rcases hm with ⟨k1, -⟩ | ⟨-, k2, ⟨k3, -⟩ | ⟨g', k3, k4, k5, k6⟩⟩
        · exact absurd k1 neg
        · exact absurd k3 neg
        · have eg : g' = g := by
            have := congrArg Int32.toInt k4
            rw [nI_toInt (by omega), nI_toInt (by omega)] at this
            omega
          rw [eg] at k3 k5 k6
          rcases hmn with ⟨-, k, k7, k8, -⟩ | ⟨-, -, ⟨-, k8⟩ | ⟨g2, k7, k8, k9, k10⟩⟩
          · rw [e] at k8
            exact absurd k8 (ne k k7)
          · exact absurd k5 (k8 g k3)
          · rw [k8]
            rcases Nat.lt_trichotomy g2 g with y | y | y
            · exact absurd k9 (k6 g2 y)
            · rw [y]
            · exact absurd k5 (k10 g y)
      obtain ⟨em, ef⟩ := one
      have ngf : ¬ nI g = (-1 : Int32) := fun z => by
        have := congrArg Int32.toInt z
        rw [nI_toInt (by omega)] at this
        have l1 : (-1 : Int32).toInt = -1 := rfl
        omega
      have e46 : ¬ F2 46 = 0 := by rw [kx.1 46 rfl]; exact h46
      have e54 : F2 54 = 0 := (kx.1 54 rfl).trans h54
      unfold mb_call_16
      rw [if_neg e46]
      unfold mb_call_28
      rw [em, ef]
      unfold mb_call_32
      rw [if_pos e54]
      unfold mb_call_41
      rw [if_pos rfl]
      unfold mb_call_46
      rw [if_neg ngf]
      unfold mb_call_63
      rw [if_pos e54]
      unfold mb_call_70
      rw [if_pos rfl]
      unfold mb_call_87
      rw [if_pos e54]
      unfold mb_call_94
      rw [if_neg ngf]
      have e1 := jAl.mm (X := X) (p := p) (s := s) I.2.1 (KX.tr (a := [55, 62]) (b := []) KX.rf kx rfl rfl) (fun _ => kx.1 55 rfl)
      have I1 := I.next e1 (Int.le_refl _)
      have go : JP (cb_X3_call_34 fu (cS1 fu dc) pl 1 fn Fc Gc) (mb_call_126 fu (mS1 fu dm) x1 (nI g) F2 Gm) (fun _ F1 G1 r2 F2 G2 => jOut X p N i 0 s (0 :: s) Fc Gc Fm Gm r2 F1 G1 F2 G2) := by
        refine JP.mono (ihT dm (Nat.lt_succ_self _) dc i s 1 fn (nI g) x1 pl Fc Gc F2 Gm I1 ⟨fun z => ?_, fun _ => ⟨hX, rfl, g, hg, hfn, rfl⟩⟩ hx) ?_
        · rw [hp] at z
          exact absurd z (by decide)
        · rintro r1 F3 G3 r2 F4 G4 (⟨rfl, j2, h⟩ | h)
          · exact .inl ⟨rfl, j2, (e1.tr h).ca (by omega) (by omega)⟩
          · exact .inr h
      unfold mb_call_100
      refine JP.iteR (fun _ => go) (fun z => ?_)
      unfold mb_call_104
      refine JP.ixR (fun _ => ?_)
      rw [show (nI g).toNatClampNeg = g by show (nI g).toInt.toNat = g; rw [nI_toInt (by omega)]; omega]
      rcases hv2 with w | w
      · exact absurd w z
      · rw [if_pos w]
        exact go
end JE7
