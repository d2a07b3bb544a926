/-- the text 'main' -/
def jMb (b : Nat → Int32) (p l : Nat) : Prop := l = 4 ∧ b p = 109 ∧ b (p + 1) = 97 ∧ b (p + 2) = 105 ∧ b (p + 3) = 110
/-- the name of main, for the class -/
def jMi (b : Nat → Int32) (K : Nat) (ps ls : Nat → Nat) (r : Int32) : Prop := (r = -1 ∧ ∀ k : Nat, k < K → ¬ jMb b (ps k) (ls k)) ∨ ∃ k : Nat, k < K ∧ r = nI k ∧ jMb b (ps k) (ls k)
section JR3
variable {fu : Nat} {b : Nat → Int32} {n K N nf : Nat} {ps ls : Nat → Nat} {c27 : Int32} {Fc Fm F0 F : PF} {Gc Gm G : PG}
theorem jMb.one (hN : NT b n K ps ls) {k k' : Nat} (hk : k < K) (hk' : k' < K) (h : jMb b (ps k) (ls k)) (h' : jMb b (ps k') (ls k')) : k = k' := by
  have sm : ∀ i j : Nat, jMb b (ps i) (ls i) → jMb b (ps j) (ls j) → SAMET b (ps i) (ls i) (ps j) (ls j) := by
    rintro i j ⟨a0, a1, a2, a3, a4⟩ ⟨c0, c1, c2, c3, c4⟩
    refine ⟨a0.trans c0.symm, fun y hy => ?_⟩
    rw [a0] at hy
    rcases (show y = 0 ∨ y = 1 ∨ y = 2 ∨ y = 3 by omega) with z | z | z | z <;> rw [z]
    · exact a1.trans c1.symm
    · exact a2.trans c2.symm
    · exact a3.trans c3.symm
    · exact a4.trans c4.symm
  rcases Nat.lt_trichotomy k k' with y | y | y
  · exact absurd (sm k k' h h') (hN.2.2 k k' y hk')
  · exact y
  · exact absurd (sm k' k h' h) (hN.2.2 k' k y hk)
/-- the class looks for main -/
theorem cp_main4 (h : BT b n Fc Gc Fm Gm) (hN : NT b n K ps ls) (hC : CNM b K ps ls Fc Gc) : ∀ (m : Nat) (x1 : Int32) (j : Nat), j ≤ K → ((x1 = -1 ∧ ∀ k : Nat, k < j → ¬ jMb b (ps k) (ls k)) ∨ ∃ k : Nat, k < K ∧ x1 = nI k ∧ jMb b (ps k) (ls k)) → PP (cl_X10_mainId_4 fu m x1 (nI j) Fc Gc) (fun r F' G' => Fc = F' ∧ Gc = G' ∧ jMi b K ps ls r) := by
  have few := hN.few h.1
  have n4 := h.1
  intro m
  induction m with
  | zero => intro x1 j _ _; exact PP.no
  | succ m ih =>
    intro x1 j hj inv
    have jI : (nI j).toInt = j := nI_toInt (by omega)
    show PP (cb_X10_mainId_4 fu (cl_X10_mainId_4 fu m) x1 (nI j) Fc Gc) _
    unfold cb_X10_mainId_4
    refine PP.ite (fun c => ?_) (fun c => ?_)
    · refine PP.ret ⟨rfl, rfl, ?_⟩
      have := i_le.mp c
      rw [jI, hC.1] at this
      rcases inv with ⟨y1, y2⟩ | y
      · exact .inl ⟨y1, fun k hk => y2 k (by omega)⟩
      · exact .inr y
    · have jK : j < K := by
        rcases Nat.lt_or_ge j K with y | y
        · exact y
        · refine absurd (i_le.mpr ?_) c
          rw [jI, hC.1]
          omega
      unfold cb_X10_mainId_12
      refine PP.ite (fun c1 => ?_) (fun c1 => PP.ret ⟨rfl, rfl, ?_⟩)
      · have old : ∀ k : Nat, k < j → ¬ jMb b (ps k) (ls k) := by
          rcases inv with ⟨-, y⟩ | ⟨k, y1, y2, -⟩
          · exact y
          · rw [c1] at y2
            exact absurd y2.symm (nI_n1 (by omega))
        have jn : (nI j).toNatClampNeg = j := nI_c _ (by omega)
        obtain ⟨q96, q97⟩ := hC.2.1 j jK
        have bd := (hN.1 j jK).2.2.1
        have no : ¬ jMb b (ps j) (ls j) → PP (cb_X10_mainId_94 fu (cl_X10_mainId_4 fu m) x1 (nI j) Fc Gc) (fun r F' G' => Fc = F' ∧ Gc = G' ∧ jMi b K ps ls r) := by
          intro hno
          unfold cb_X10_mainId_94
          rw [nI_s j (by omega)]
          refine ih x1 (j + 1) (by omega) (.inl ⟨c1, fun k hk => ?_⟩)
          by_cases e : k = j
          · rw [e]; exact hno
          · exact old k (by omega)
        unfold cb_X10_mainId_17
        rw [jn]
        refine PP.ix (fun _ => PP.ix (fun _ => PP.ite (fun l4 => ?_) (fun l4 => no (fun y => l4 (i_eq.mpr (by rw [q97, y.1]; rfl))))))
        have ll : ls j = 4 := by
          have := congrArg Int32.toInt l4
          rw [q97] at this
          have l : (4 : Int32).toInt = 4 := rfl
          omega
        have a1 : (Gc 96 j + 1).toInt = (Gc 96 j).toInt + 1 := i_addn _ rfl (by omega) (by omega)
        have a2 : (Gc 96 j + 2).toInt = (Gc 96 j).toInt + 2 := i_addn _ rfl (by omega) (by omega)
        have a3 : (Gc 96 j + 3).toInt = (Gc 96 j).toInt + 3 := i_addn _ rfl (by omega) (by omega)
        have at' : ∀ (x r : Int32) (d : Nat), d < 4 → x.toInt = (ps j : Int) + d → AC b n x r → r = b (ps j + d) := by
          intro x r d hd hx hr
          rcases hr with ⟨y, -⟩ | ⟨-, -, y, -⟩ | ⟨y, -⟩
          · omega
          · rw [y, show x.toInt.toNat = ps j + d by omega]
          · omega
        unfold cb_X10_mainId_34
        refine PP.bind (cp_at h _) ?_
        rintro r _ _ ⟨rfl, rfl, hr⟩
        have r0 := at' _ _ 0 (by omega) (by omega) hr
        dsimp only
        unfold cb_X10_mainId_42
        refine PP.ite (fun d0 => ?_) (fun d0 => no (fun y => d0 (r0.trans y.2.1)))
        unfold cb_X10_mainId_47
        refine PP.bind (cp_at h _) ?_
        rintro s _ _ ⟨rfl, rfl, hs⟩
        have r1 := at' _ _ 1 (by omega) (by omega) hs
        dsimp only
        unfold cb_X10_mainId_57
        refine PP.ite (fun d1 => ?_) (fun d1 => no (fun y => d1 (r1.trans y.2.2.1)))
        unfold cb_X10_mainId_62
        refine PP.bind (cp_at h _) ?_
        rintro u _ _ ⟨rfl, rfl, hu⟩
        have r2 := at' _ _ 2 (by omega) (by omega) hu
        dsimp only
        unfold cb_X10_mainId_72
        refine PP.ite (fun d2 => ?_) (fun d2 => no (fun y => d2 (r2.trans y.2.2.2.1)))
        unfold cb_X10_mainId_77
        refine PP.bind (cp_at h _) ?_
        rintro v _ _ ⟨rfl, rfl, hv⟩
        have r3 := at' _ _ 3 (by omega) (by omega) hv
        dsimp only
        unfold cb_X10_mainId_87
        refine PP.ite (fun d3 => ?_) (fun d3 => no (fun y => d3 (r3.trans y.2.2.2.2)))
        unfold cb_X10_mainId_92 cb_X10_mainId_94
        rw [nI_s j (by omega)]
        exact ih (nI j) (j + 1) (by omega) (.inr ⟨j, jK, rfl, ll, r0.symm.trans d0, r1.symm.trans d1, r2.symm.trans d2, r3.symm.trans d3⟩)
      · rcases inv with ⟨y, -⟩ | y
        · exact absurd y c1
        · exact .inr y
theorem cp_mainId (h : BT b n Fc Gc Fm Gm) (hN : NT b n K ps ls) (hC : CNM b K ps ls Fc Gc) : PP (cf_X10_mainId fu Fc Gc) (fun r F' G' => Fc = F' ∧ Gc = G' ∧ jMi b K ps ls r) := by
  unfold cf_X10_mainId cb_X10_mainId_0
  exact cp_main4 h hN hC fu (-1) 0 (Nat.zero_le _) (.inl ⟨rfl, fun k hk => absurd hk (Nat.not_lt_zero _)⟩)
/-- a function is main: by its name's number, by its text -/
theorem jMi.fn (hN : NT b n K ps ls) (hM : MNM b K ps ls Fm Gm) (tx : jTX b N Gm) (mi : jMi b K ps ls c27) {i : Nat} (iN : i < N) (k1 : Gm 4 i = 1) (id0 : 0 ≤ (Gm 5 i).toInt ∧ (Gm 5 i).toInt < K) (n4 : n ≤ 4000) : (Gm 10 (Gm 5 i).toNatClampNeg = 4 ∧ b (Gm 6 i).toInt.toNat = 109 ∧ b ((Gm 6 i).toInt.toNat + 1) = 97 ∧ b ((Gm 6 i).toInt.toNat + 2) = 105 ∧ b ((Gm 6 i).toInt.toNat + 3) = 110) ↔ Gm 5 i = c27 := by
  have few := hN.few n4
  have l4 : (4 : Int32).toInt = 4 := rfl
  have en : (Gm 5 i).toNatClampNeg = (Gm 5 i).toInt.toNat := rfl
  obtain ⟨q9, q10⟩ := hM.2.1 (Gm 5 i).toInt.toNat (by omega)
  have tx := tx i iN k1
  rw [en]
  have tx' : ∀ d : Nat, d < ls (Gm 5 i).toInt.toNat → b ((Gm 6 i).toInt.toNat + d) = b (ps (Gm 5 i).toInt.toNat + d) := by
    intro d hd
    rw [tx d (by omega), show (Gm 9 (Gm 5 i).toInt.toNat).toInt.toNat = ps (Gm 5 i).toInt.toNat by omega]
  refine ⟨fun ⟨a0, a1, a2, a3, a4⟩ => ?_, fun e => ?_⟩
  · have l : ls (Gm 5 i).toInt.toNat = 4 := by
      have := congrArg Int32.toInt a0
      omega
    have m : jMb b (ps (Gm 5 i).toInt.toNat) (ls (Gm 5 i).toInt.toNat) := ⟨l, (tx' 0 (by omega)).symm.trans a1, (tx' 1 (by omega)).symm.trans a2, (tx' 2 (by omega)).symm.trans a3, (tx' 3 (by omega)).symm.trans a4⟩
    rcases mi with ⟨-, y⟩ | ⟨k, y1, y2, y3⟩
    · exact absurd m (y _ (by omega))
    · have e := jMb.one hN (show (Gm 5 i).toInt.toNat < K by omega) y1 m y3
      rw [y2, ← e, jnI id0.1]
  · rcases mi with ⟨y, -⟩ | ⟨k, y1, y2, y3⟩
    · rw [e, y] at id0
      exact absurd id0.1 (by decide)
    · have ek : (Gm 5 i).toInt.toNat = k := by
        rw [e, y2]
        exact nI_c _ (by omega)
      rw [ek] at q10 tx' ⊢
      obtain ⟨c0, c1, c2, c3, c4⟩ := y3
      exact ⟨i_eq.mpr (by omega), (tx' 0 (by omega)).trans c1, (tx' 1 (by omega)).trans c2, (tx' 2 (by omega)).trans c3, (tx' 3 (by omega)).trans c4⟩
/-- the reference looks for main -/
theorem mp_main127 (h : BT b n Fc Gc F0 G) (nf4 : nf ≤ 449) (h26 : ∀ y : Nat, y < nf → 0 ≤ (G 26 y).toInt ∧ (G 26 y).toInt ≤ 4000) (hq : ∀ y : Nat, y < nf → ((G 10 (G 25 y).toNatClampNeg = 4 ∧ b (G 26 y).toInt.toNat = 109 ∧ b ((G 26 y).toInt.toNat + 1) = 97 ∧ b ((G 26 y).toInt.toNat + 2) = 105 ∧ b ((G 26 y).toInt.toNat + 3) = 110) ↔ G 25 y = c27)) (e46 : ¬ F0 46 = 0) (e73 : F0 73 = 0) :
    ∀ (m : Nat) (x1 : Int32) (j : Nat) (F : PF), x1.toInt = (j : Int) - 1 → j ≤ nf → KX [47, 48, 49, 74] [] F0 G F G → ((F 74 = -1 ∧ ∀ y : Nat, j ≤ y → y < nf → ¬ G 25 y = c27) ∨ (¬ F 74 = -1 ∧ ∃ y : Nat, j ≤ y ∧ y < nf ∧ G 25 y = c27 ∧ F 74 = nI y ∧ ∀ z : Nat, j ≤ z → z < y → ¬ G 25 z = c27)) → 0 ≤ (F 47).toInt → ((¬ F0 47 = 0 ∨ ∃ y : Nat, j ≤ y ∧ y < nf ∧ G 25 y = c27 ∧ ¬ G 32 y = -1) → ¬ F 47 = 0) → (F0 47 = 0 → (∀ y : Nat, j ≤ y → y < nf → G 25 y = c27 → G 32 y = -1) → F 47 = 0) → PP (ml_read_127 fu m x1 F G) (fun _ F' _ => ((¬ F0 47 = 0 ∨ (∀ y : Nat, y < nf → ¬ G 25 y = c27) ∨ ∃ y : Nat, y < nf ∧ G 25 y = c27 ∧ ¬ G 32 y = -1) → F' 73 = 0) ∧ ((F0 47 = 0 ∧ (∃ y : Nat, y < nf ∧ G 25 y = c27) ∧ ∀ y : Nat, y < nf → G 25 y = c27 → G 32 y = -1) → F' 73 = 1 ∧ ∃ y : Nat, y < nf ∧ F' 74 = nI y ∧ G 25 y = c27 ∧ ∀ z : Nat, z < y → ¬ G 25 z = c27)) := by
  have l0 : (0 : Int32).toInt = 0 := rfl
  intro m
  induction m with
  | zero => intro x1 j F _ _ _ _ _ _ _; exact PP.no
  | succ m ih =>
    intro x1 j F hx hj kx A B0 B1 B2
    show PP (mb_read_127 fu (ml_read_127 fu m) x1 F G) _
    unfold mb_read_127
    refine PP.ite (fun c => ?_) (fun c => ?_)
    · have j0 : j = 0 := by
        have := i_lt.mp c
        omega
      subst j0
      have f73 : F 73 = 0 := (kx.1 73 rfl).trans e73
      have no : ∀ (F : PF), F 73 = 0 → ¬ F 47 = 0 → 0 ≤ (F 47).toInt → ¬ (F0 47 = 0 ∧ (∃ y : Nat, y < nf ∧ G 25 y = c27) ∧ ∀ y : Nat, y < nf → G 25 y = c27 → G 32 y = -1) → PP (mb_read_258 fu F G) (fun _ F' _ => ((¬ F0 47 = 0 ∨ (∀ y : Nat, y < nf → ¬ G 25 y = c27) ∨ ∃ y : Nat, y < nf ∧ G 25 y = c27 ∧ ¬ G 32 y = -1) → F' 73 = 0) ∧ ((F0 47 = 0 ∧ (∃ y : Nat, y < nf ∧ G 25 y = c27) ∧ ∀ y : Nat, y < nf → G 25 y = c27 → G 32 y = -1) → F' 73 = 1 ∧ ∃ y : Nat, y < nf ∧ F' 74 = nI y ∧ G 25 y = c27 ∧ ∀ z : Nat, z < y → ¬ G 25 z = c27)) := by
        intro F f73 n47 p47 hn
        unfold mb_read_258
        rw [if_neg (fun y => n47 (i_eq.mpr (by have := i_le.mp y; omega)))]
        exact PP.ret ⟨fun _ => f73, fun y => absurd y hn⟩
      unfold mb_read_240
      refine PP.ite (fun c74 => ?_) (fun c74 => ?_)
      · have nom : ∀ y : Nat, y < nf → ¬ G 25 y = c27 := by
          rcases A with ⟨-, y⟩ | ⟨y, -⟩
          · exact fun z hz => y z (Nat.zero_le _) hz
          · exact absurd c74 y
        unfold mb_read_248
        refine PP.bind (mp_note 12 (F 3) (by decide) F G) ?_
        rintro r F' G' ⟨k', rfl, w, -⟩
        have w := w (by rw [kx.1 46 rfl]; exact e46)
        exact no F' ((k'.1 73 rfl).trans f73) (fun y => by rw [y] at w; omega) (by omega) (fun ⟨_, ⟨y, y1, y2⟩, _⟩ => nom y y1 y2)
      · have mn : ∃ y : Nat, y < nf ∧ G 25 y = c27 := by
          rcases A with ⟨y, -⟩ | ⟨-, y, -, y2, y3, -⟩
          · exact absurd y c74
          · exact ⟨y, y2, y3⟩
        have mn2 : ∃ y : Nat, y < nf ∧ F 74 = nI y ∧ G 25 y = c27 ∧ ∀ z : Nat, z < y → ¬ G 25 z = c27 := by
          rcases A with ⟨y, -⟩ | ⟨-, y, -, y2, y3, y4, y5⟩
          · exact absurd y c74
          · exact ⟨y, y2, y4, y3, fun z hz => y5 z (Nat.zero_le _) hz⟩
        by_cases c47 : F 47 = 0
        · have f0 : F0 47 = 0 := Classical.byContradiction (fun y => B1 (.inl y) c47)
          unfold mb_read_258
          rw [if_pos (show F 47 ≤ 0 from i_le.mpr (by rw [c47]; exact Int.le_refl _))]
          unfold mb_read_278 mb_read_283
          refine PP.ret ⟨fun y => ?_, fun _ => ⟨fup_s, ?_⟩⟩
          · rcases y with y | y | ⟨y, y1, y2, y3⟩
            · exact absurd f0 y
            · obtain ⟨z, z1, z2⟩ := mn
              exact absurd z2 (y z z1)
            · exact absurd c47 (B1 (.inr ⟨y, Nat.zero_le _, y1, y2, y3⟩))
          · obtain ⟨y, y1, y2, y3, y4⟩ := mn2
            exact ⟨y, y1, by rw [fup_n (by decide)]; exact y2, y3, y4⟩
        · exact no F f73 c47 B0 (fun ⟨y1, _, y3⟩ => c47 (B2 y1 (fun z _ hz => y3 z hz)))
    · have c0 := i_ge0 c
      have xn : x1.toNatClampNeg = j - 1 := by
        show x1.toInt.toNat = j - 1
        omega
      have xd : (x1 + (-1)).toInt = ((j - 1 : Nat) : Int) - 1 := by
        rw [i_decn c0]
        omega
      have y0 : j - 1 < nf := by omega
      obtain ⟨p0, p1⟩ := h26 (j - 1) y0
      have hq0 := hq (j - 1) y0
      -- no main
      have no : ¬ G 25 (j - 1) = c27 → PP (mb_read_234 fu (ml_read_127 fu m) x1 F G) (fun _ F' _ => ((¬ F0 47 = 0 ∨ (∀ y : Nat, y < nf → ¬ G 25 y = c27) ∨ ∃ y : Nat, y < nf ∧ G 25 y = c27 ∧ ¬ G 32 y = -1) → F' 73 = 0) ∧ ((F0 47 = 0 ∧ (∃ y : Nat, y < nf ∧ G 25 y = c27) ∧ ∀ y : Nat, y < nf → G 25 y = c27 → G 32 y = -1) → F' 73 = 1 ∧ ∃ y : Nat, y < nf ∧ F' 74 = nI y ∧ G 25 y = c27 ∧ ∀ z : Nat, z < y → ¬ G 25 z = c27)) := by
        intro hno
        unfold mb_read_234
        refine ih (x1 + (-1)) (j - 1) F xd (by omega) kx ?_ B0 (fun y => B1 ?_) (fun y1 y2 => B2 y1 (fun z z1 z2 => y2 z (by omega) z2))
        · rcases A with ⟨a1, a2⟩ | ⟨a1, y, a2, a3, a4, a5, a6⟩
          · refine .inl ⟨a1, fun z z1 z2 => ?_⟩
            by_cases e : z = j - 1
            · rw [e]; exact hno
            · exact a2 z (by omega) z2
          · refine .inr ⟨a1, y, by omega, a3, a4, a5, fun z z1 z2 => ?_⟩
            by_cases e : z = j - 1
            · rw [e]; exact hno
            · exact a6 z (by omega) z2
        · rcases y with y | ⟨y, y1, y2, y3, y4⟩
          · exact .inl y
          · refine .inr ⟨y, ?_, y2, y3, y4⟩
            by_cases e : y = j - 1
            · rw [e] at y3
              exact absurd y3 hno
            · omega
      -- main
      have yes : G 25 (j - 1) = c27 → PP (mb_read_202 fu (ml_read_127 fu m) x1 F G) (fun _ F' _ => ((¬ F0 47 = 0 ∨ (∀ y : Nat, y < nf → ¬ G 25 y = c27) ∨ ∃ y : Nat, y < nf ∧ G 25 y = c27 ∧ ¬ G 32 y = -1) → F' 73 = 0) ∧ ((F0 47 = 0 ∧ (∃ y : Nat, y < nf ∧ G 25 y = c27) ∧ ∀ y : Nat, y < nf → G 25 y = c27 → G 32 y = -1) → F' 73 = 1 ∧ ∃ y : Nat, y < nf ∧ F' 74 = nI y ∧ G 25 y = c27 ∧ ∀ z : Nat, z < y → ¬ G 25 z = c27)) := by
        intro hy
        have kF : KX [47, 48, 49, 74] [] F0 G (fup F 74 x1) G := KX.f rfl kx
        have xe : x1 = nI (j - 1) := i_eq.mpr (by rw [nI_toInt (show j - 1 < 2 ^ 31 by omega)]; omega)
        have x1n : ¬ x1 = -1 := fun y => by
          have l1 : (-1 : Int32).toInt = -1 := rfl
          rw [y] at c0
          omega
        have A' : ∀ F' : PF, F' 74 = x1 → ((F' 74 = -1 ∧ ∀ y : Nat, j - 1 ≤ y → y < nf → ¬ G 25 y = c27) ∨ (¬ F' 74 = -1 ∧ ∃ y : Nat, j - 1 ≤ y ∧ y < nf ∧ G 25 y = c27 ∧ F' 74 = nI y ∧ ∀ z : Nat, j - 1 ≤ z → z < y → ¬ G 25 z = c27)) := fun F' e => .inr ⟨by rw [e]; exact x1n, j - 1, Nat.le_refl _, y0, hy, by rw [e]; exact xe, fun z z1 z2 => by omega⟩
        unfold mb_read_202 mb_read_207
        rw [xn]
        refine PP.ix (fun _ => PP.ite (fun c32 => ?_) (fun c32 => ?_))
        · unfold mb_read_234
          refine ih (x1 + (-1)) (j - 1) (fup F 74 x1) xd (by omega) kF (A' _ fup_s) (by rw [fup_n (by decide)]; exact B0) (fun y => ?_) (fun y1 y2 => ?_)
          · rw [fup_n (by decide)]
            refine B1 ?_
            rcases y with y | ⟨y, z1, z2, z3, z4⟩
            · exact .inl y
            · refine .inr ⟨y, ?_, z2, z3, z4⟩
              by_cases e : y = j - 1
              · rw [e] at z4
                exact absurd c32 z4
              · omega
          · rw [fup_n (by decide)]
            exact B2 y1 (fun z z1 z2 => y2 z (by omega) z2)
        · unfold mb_read_217
          rw [xn]
          refine PP.ix (fun _ => PP.ix (fun _ => ?_))
          refine PP.bind (mp_note 12 _ (by decide) (fup F 74 x1) G) ?_
          rintro r F' G' ⟨k', rfl, w, -⟩
          have w := w (by rw [kF.1 46 rfl]; exact e46)
          dsimp only
          unfold mb_read_234
          exact ih (x1 + (-1)) (j - 1) F' xd (by omega) (KX.tr kF k' rfl rfl) (A' _ ((k'.1 74 rfl).trans fup_s)) (by omega) (fun _ y => by rw [y] at w; omega) (fun _ y2 => absurd (y2 (j - 1) (Nat.le_refl _) y0 hy) c32)
      have hB : BT b n Fc Gc F G := h.keep rfl rfl (kx.1 3 rfl) rfl
      unfold mb_read_131
      rw [xn]
      refine PP.ix (fun _ => PP.ix (fun _ => PP.ix (fun _ => PP.ite (fun c10 => ?_) (fun c10 => no (fun y => c10 (hq0.mpr y).1)))))
      have a1 : (G 26 (j - 1) + 1).toInt = (G 26 (j - 1)).toInt + 1 := i_addn _ rfl (by omega) (by omega)
      have a2 : (G 26 (j - 1) + 2).toInt = (G 26 (j - 1)).toInt + 2 := i_addn _ rfl (by omega) (by omega)
      have a3 : (G 26 (j - 1) + 3).toInt = (G 26 (j - 1)).toInt + 3 := i_addn _ rfl (by omega) (by omega)
      unfold mb_read_153
      refine PP.bind (mp_at hB _ p0) ?_
      rintro r _ _ ⟨rfl, rfl, r0⟩
      dsimp only
      unfold mb_read_158
      refine PP.ite (fun d0 => ?_) (fun d0 => no (fun y => d0 (r0.trans (hq0.mpr y).2.1)))
      unfold mb_read_163
      refine PP.bind (mp_at hB _ (by omega)) ?_
      rintro s _ _ ⟨rfl, rfl, r1⟩
      rw [a1, show ((G 26 (j - 1)).toInt + 1).toNat = (G 26 (j - 1)).toInt.toNat + 1 by omega] at r1
      dsimp only
      unfold mb_read_170
      refine PP.ite (fun d1 => ?_) (fun d1 => no (fun y => d1 (r1.trans (hq0.mpr y).2.2.1)))
      unfold mb_read_175
      refine PP.bind (mp_at hB _ (by omega)) ?_
      rintro u _ _ ⟨rfl, rfl, r2⟩
      rw [a2, show ((G 26 (j - 1)).toInt + 2).toNat = (G 26 (j - 1)).toInt.toNat + 2 by omega] at r2
      dsimp only
      unfold mb_read_182
      refine PP.ite (fun d2 => ?_) (fun d2 => no (fun y => d2 (r2.trans (hq0.mpr y).2.2.2.1)))
      unfold mb_read_187
      refine PP.bind (mp_at hB _ (by omega)) ?_
      rintro v _ _ ⟨rfl, rfl, r3⟩
      rw [a3, show ((G 26 (j - 1)).toInt + 3).toNat = (G 26 (j - 1)).toInt.toNat + 3 by omega] at r3
      dsimp only
      unfold mb_read_194
      refine PP.ite (fun d3 => yes (hq0.mp ⟨c10, r0.symm.trans d0, r1.symm.trans d1, r2.symm.trans d2, r3.symm.trans d3⟩)) (fun d3 => ?_)
      unfold mb_read_199
      exact no (fun y => d3 (r3.trans (hq0.mpr y).2.2.2.2))
end JR3
