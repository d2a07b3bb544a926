/-- a row of words: word w stands from st w to the blank ahead of st (w + 1) -/
def ROW (i : Nat) (st : Nat → Nat) (W : Nat) : Prop := i < 4 ∧ st 0 = 1 ∧ st W = lenS.getD i 0 ∧ lenS.getD i 0 ≤ 200 ∧ ∀ w : Nat, w < W → st w + 1 < st (w + 1) ∧ st (w + 1) ≤ 200 ∧ (∀ j : Nat, st w ≤ j → j + 1 < st (w + 1) → ¬ chS i (nI j) = 32) ∧ chS i (nI (st (w + 1) - 1)) = 32
def MWD (b : Nat → Int32) (i : Nat) (st : Nat → Nat) (x n w : Nat) : Prop := st w + n + 1 = st (w + 1) ∧ ∀ j : Nat, j < n → chS i (nI (st w + j)) = b (x + j)
def FIRSTW (P : Nat → Prop) (W : Nat) (r : Int32) : Prop := (∃ w : Nat, w < W ∧ r = nI w ∧ P w ∧ ∀ v : Nat, v < w → ¬ P v) ∨ (r = -1 ∧ ∀ v : Nat, v < W → ¬ P v)
theorem FIRSTW.one {P Q : Nat → Prop} {W : Nat} {r s : Int32} (h : FIRSTW P W r) (g : FIRSTW Q W s) (e : ∀ v : Nat, v < W → (P v ↔ Q v)) : r = s := by
  rcases h with ⟨w, w0, w1, w2, w3⟩ | ⟨a, q⟩
  · rcases g with ⟨v, v0, v1, v2, v3⟩ | ⟨-, q⟩
    · rcases Nat.lt_trichotomy w v with z | z | z
      · exact absurd ((e w w0).mp w2) (v3 w z)
      · rw [w1, v1, z]
      · exact absurd ((e v v0).mpr v2) (w3 v z)
    · exact absurd ((e w w0).mp w2) (q w w0)
  · rcases g with ⟨v, v0, v1, v2, v3⟩ | ⟨d, -⟩
    · exact absurd ((e v v0).mpr v2) (q v v0)
    · rw [a, d]
theorem chS_at {i : Nat} {x : Int32} {j : Nat} (h : x.toInt = j) (hj : j < 2 ^ 31) : chS i x = chS i (nI j) := by
  have e : x = nI j := i_eq.mpr (by rw [nI_toInt hj]; exact h)
  rw [e]
theorem mq_char {fu i : Nat} {x : Int32} {F : PF} {G : PG} {f : Int32 × PF × PG → PR} {Q : Int32 → PF → PG → Prop} {j : Nat} (h : x.toInt = j) (hj : j < 2 ^ 31) (k : PP (f (chS i (nI j), F, G)) Q) : PP ((mf_J0_charAt_5068e fu i x F G).bind f) Q := by
  refine PP.bind (Q1 := fun r F' G' => r = chS i (nI j) ∧ F = F' ∧ G = G') ?_ (fun r F' G' e => ?_)
  · unfold mf_J0_charAt_5068e
    exact PP.lt (fun _ => PP.ix (fun _ => PP.ret ⟨chS_at h hj, rfl, rfl⟩))
  · obtain ⟨rfl, rfl, rfl⟩ := e
    exact k
theorem mp_place {fu : Nat} {b : Nat → Int32} {n : Nat} {Fc Fm : PF} {Gc Gm : PG} (h : BT b n Fc Gc Fm Gm) {i W : Nat} {st : Nat → Nat} (hr : ROW i st W) {x2 x3 : Int32} {x m : Nat} (ex : x2.toInt = x) (em : x3.toInt = m) (hx : x ≤ 4000) (hm : m ≤ 20) : PP (mf_placeIn fu i x2 x3 Fm Gm) (fun r F' G' => Fm = F' ∧ Gm = G' ∧ FIRSTW (MWD b i st x m) W r) := by
  obtain ⟨hi, s0, sW, hlen, hw⟩ := hr
  have up : ∀ w : Nat, w ≤ W → st w ≤ 200 := by
    intro w q
    rcases Nat.lt_or_ge w W with z | z
    · have := hw w z
      omega
    · have : w = W := by omega
      rw [this, sW]
      exact hlen
  unfold mf_placeIn mb_placeIn_0
  have main : ∀ (k w : Nat) (x4 x5 : Int32), w ≤ W → x4.toInt = st w → x5 = nI w → (∀ v : Nat, v < w → ¬ MWD b i st x m v) → PP (ml_placeIn_6 fu k i x2 x3 x4 x5 Fm Gm) (fun r F' G' => Fm = F' ∧ Gm = G' ∧ FIRSTW (MWD b i st x m) W r) := by
    intro k
    induction k with
    | zero => intro w x4 x5 _ _ _ _; exact PP.no
    | succ k ih =>
      intro w x4 x5 w0 e4 e5 hv
      show PP (mb_placeIn_6 fu (ml_placeIn_6 fu k) i x2 x3 x4 x5 Fm Gm) _
      unfold mb_placeIn_6
      refine PP.bind (Q1 := fun r F' G' => r.toInt = lenS.getD i 0 ∧ Fm = F' ∧ Gm = G') ?_ ?_
      · unfold mf_J0_length_8abf5
        refine PP.lt (fun _ => PP.ret ⟨?_, rfl, rfl⟩)
        rw [i_shr 0 (by decide), nI_toInt (by omega)]
        omega
      rintro r _ _ ⟨er, rfl, rfl⟩
      dsimp only
      unfold mb_placeIn_12 mb_placeIn_113
      refine PP.ite (fun c => PP.ret ⟨rfl, rfl, .inr ⟨rfl, ?_⟩⟩) (fun c => ?_)
      · have c1 := i_le.mp c
        have : w = W := by
          rcases Nat.lt_or_ge w W with z | z
          · have q := hw w z
            have q2 : st (w + 1) ≤ lenS.getD i 0 := by
              have mono : ∀ a c : Nat, a + c ≤ W → st a ≤ st (a + c) := by
                intro a c
                induction c with
                | zero => intro _; exact Nat.le_refl _
                | succ c ihc =>
                  intro z
                  have q1 := ihc (by omega)
                  have q2 := (hw (a + c) (by omega)).1
                  have e : a + (c + 1) = a + c + 1 := rfl
                  rw [e]
                  omega
              have q3 := mono (w + 1) (W - (w + 1)) (by omega)
              rw [show w + 1 + (W - (w + 1)) = W by omega, sW] at q3
              exact q3
            omega
          · omega
        rw [← this]
        exact hv
      have c1 := mt i_le.mpr c
      have wl : w < W := by
        rcases Nat.lt_or_ge w W with z | z
        · exact z
        · have : w = W := by omega
          rw [this, sW] at e4
          omega
      obtain ⟨q1, q2, q3, q4⟩ := hw w wl
      -- to the blank, and on
      have skip : ¬ MWD b i st x m w → ∀ (k2 : Nat) (y : Int32) (yn : Nat), y.toInt = yn → st w ≤ yn → yn + 1 ≤ st (w + 1) → PP (ml_placeIn_87 fu (ml_placeIn_6 fu k) k2 i x2 x3 y x5 Fm Gm) (fun r F' G' => Fm = F' ∧ Gm = G' ∧ FIRSTW (MWD b i st x m) W r) := by
        intro nm k2
        induction k2 with
        | zero => intro y yn _ _ _; exact PP.no
        | succ k2 ih2 =>
          intro y yn ey y0 y1
          show PP (mb_placeIn_87 fu (ml_placeIn_6 fu k) (ml_placeIn_87 fu (ml_placeIn_6 fu k) k2) i x2 x3 y x5 Fm Gm) _
          unfold mb_placeIn_87
          refine mq_char ey (by omega) ?_
          show PP (mb_placeIn_93 fu (ml_placeIn_6 fu k) (ml_placeIn_87 fu (ml_placeIn_6 fu k) k2) i x2 x3 y x5 (chS i (nI yn)) Fm Gm) _
          unfold mb_placeIn_93 mb_placeIn_98 mb_placeIn_104
          have ey1 : (y + 1).toInt = y.toInt + 1 := i_addn y rfl (by omega) (by omega)
          refine PP.ite (fun z => ?_) (fun z => ?_)
          · have : yn + 1 = st (w + 1) := by
              rcases Nat.lt_or_ge (yn + 1) (st (w + 1)) with u | u
              · exact absurd z (q3 yn y0 u)
              · omega
            refine ih (w + 1) (y + 1) (x5 + 1) (by omega) (by omega) (by rw [e5, ← nI_add]; rfl) (fun v hv2 => ?_)
            rcases Nat.lt_or_ge v w with u | u
            · exact hv v u
            · have : v = w := by omega
              rw [this]
              exact nm
          · have : ¬ yn + 1 = st (w + 1) := fun u => z (by rw [show yn = st (w + 1) - 1 by omega]; exact q4)
            exact ih2 (y + 1) (yn + 1) (by omega) (by omega) (by omega)
      unfold mb_placeIn_15
      -- the word is held against the text
      have cmp : ∀ (k2 : Nat) (x6 : Int32) (a : Nat), x6.toInt = a → a ≤ m → st w + a + 1 ≤ st (w + 1) → (∀ j : Nat, j < a → chS i (nI (st w + j)) = b (x + j)) → PP (ml_placeIn_18 fu (ml_placeIn_6 fu k) k2 i x2 x3 x4 x5 x6 Fm Gm) (fun r F' G' => Fm = F' ∧ Gm = G' ∧ FIRSTW (MWD b i st x m) W r) := by
        intro k2
        induction k2 with
        | zero => intro x6 a _ _ _ _; exact PP.no
        | succ k2 ih2 =>
          intro x6 a e6 a0 a1 ha
          show PP (mb_placeIn_18 fu (ml_placeIn_6 fu k) (ml_placeIn_18 fu (ml_placeIn_6 fu k) k2) i x2 x3 x4 x5 x6 Fm Gm) _
          have e46 : (x4 + x6).toInt = ((st w + a : Nat) : Int) := by
            have e : (x4 + x6).toInt = x4.toInt + x6.toInt := i_addn x4 rfl (by omega) (by omega)
            omega
          have stop : ((chS i (nI (st w + a)) = 32 ∨ a = m) ∨ ¬ chS i (nI (st w + a)) = b (x + a)) → PP (mb_placeIn_64 fu (ml_placeIn_6 fu k) i x2 x3 x4 x5 x6 Fm Gm) (fun r F' G' => Fm = F' ∧ Gm = G' ∧ FIRSTW (MWD b i st x m) W r) := by
            intro why
            unfold mb_placeIn_64
            refine PP.ite (fun z => ?_) (fun z => skip ?_ fu x4 (st w) e4 (Nat.le_refl _) (by omega))
            · have am : a = m := by
                have := congrArg Int32.toInt z
                omega
              unfold mb_placeIn_70
              refine mq_char e46 (by omega) ?_
              show PP (mb_placeIn_79 fu (ml_placeIn_6 fu k) i x2 x3 x4 x5 (chS i (nI (st w + a))) Fm Gm) _
              unfold mb_placeIn_79 mb_placeIn_84
              refine PP.ite (fun u => PP.ret ⟨rfl, rfl, .inl ⟨w, wl, e5, ⟨?_, ?_⟩, hv⟩⟩) (fun u => skip ?_ fu x4 (st w) e4 (Nat.le_refl _) (by omega))
              · rcases Nat.lt_or_ge (st w + a + 1) (st (w + 1)) with t | t
                · exact absurd u (q3 (st w + a) (by omega) t)
                · omega
              · rw [← am]
                exact ha
              · intro t
                have t1 := t.1
                rw [show st w + a = st (w + 1) - 1 by omega] at u
                exact u q4
            · intro t
              have am : ¬ a = m := fun q => z (i_eq.mpr (by rw [e6, em, q]))
              have t1 := t.1
              rcases why with (u | u) | u
              · exact absurd u (q3 (st w + a) (by omega) (by omega))
              · exact am u
              · exact u (t.2 a (by omega))
          unfold mb_placeIn_18
          refine mq_char e46 (by omega) ?_
          show PP (mb_placeIn_27 fu (ml_placeIn_6 fu k) (ml_placeIn_18 fu (ml_placeIn_6 fu k) k2) i x2 x3 x4 x5 x6 (chS i (nI (st w + a))) Fm Gm) _
          unfold mb_placeIn_27
          refine PP.ite (fun z => stop (.inl (.inl z))) (fun z => ?_)
          unfold mb_placeIn_32
          refine PP.ite (fun u => stop (.inl (.inr ?_))) (fun u => ?_)
          · have := i_le.mp u
            omega
          have u1 := mt i_le.mpr u
          unfold mb_placeIn_38
          refine mq_char e46 (by omega) ?_
          show PP (mb_placeIn_47 fu (ml_placeIn_6 fu k) (ml_placeIn_18 fu (ml_placeIn_6 fu k) k2) i x2 x3 x4 x5 x6 (chS i (nI (st w + a))) Fm Gm) _
          unfold mb_placeIn_47
          have e26 : (x2 + x6).toInt = ((x + a : Nat) : Int) := by
            have e : (x2 + x6).toInt = x2.toInt + x6.toInt := i_addn x2 rfl (by omega) (by omega)
            omega
          refine PP.bind (mp_at h (x2 + x6) (by omega)) ?_
          rintro mm _ _ ⟨rfl, rfl, hmm⟩
          dsimp only
          rw [show (x2 + x6).toInt.toNat = x + a by omega] at hmm
          unfold mb_placeIn_55 mb_placeIn_58
          refine PP.ite (fun t => ?_) (fun t => stop (.inr (fun q => t (by rw [hmm, ← q]))))
          have e61 : (x6 + 1).toInt = x6.toInt + 1 := i_addn x6 rfl (by omega) (by omega)
          have nb : ¬ st w + a + 1 = st (w + 1) := fun q => z (by rw [show st w + a = st (w + 1) - 1 by omega]; exact q4)
          refine ih2 (x6 + 1) (a + 1) (by omega) (by omega) (by omega) (fun j hj => ?_)
          rcases Nat.lt_or_ge j a with q | q
          · exact ha j q
          · have : j = a := by omega
            rw [this, t, hmm]
      exact cmp fu 0 0 rfl (Nat.zero_le _) (by omega) (fun j hj => absurd hj (by omega))
  exact main fu 0 1 0 (Nat.zero_le _) (by rw [s0]; rfl) rfl (fun v hv => absurd hv (by omega))
def stS (w : Nat) : Nat := ([1, 6, 10, 14, 18, 21, 24, 27, 30, 33, 36, 39, 42, 45, 48, 51, 54, 57, 60, 63, 66, 69, 72, 74, 76, 78, 80, 82, 84, 86, 88, 90, 92, 94, 96, 98, 100, 102, 104, 106, 108, 110, 112, 114, 116, 118] : List Nat).getD w 0
def stW (w : Nat) : Nat := ([1, 5, 10, 15, 21, 24, 29, 35, 38, 42, 48, 57, 64, 68, 72, 77] : List Nat).getD w 0
theorem row_S : ROW 0 stS 45 := by
  refine ⟨by decide, by decide, by decide, by decide, ?_⟩
  have h : ∀ w : Nat, w < 45 → stS w + 1 < stS (w + 1) ∧ stS (w + 1) ≤ 200 ∧ (∀ j : Nat, j < 118 → stS w ≤ j → j + 1 < stS (w + 1) → ¬ chS 0 (nI j) = 32) ∧ chS 0 (nI (stS (w + 1) - 1)) = 32 := by decide +kernel
  have h2 : ∀ w : Nat, w < 45 → stS (w + 1) ≤ 118 := by decide +kernel
  intro w hw
  obtain ⟨a, c, d, e⟩ := h w hw
  exact ⟨a, c, fun j j0 j1 => d j (by have := h2 w hw; omega) j0 j1, e⟩
theorem row_W : ROW 1 stW 15 := by
  refine ⟨by decide, by decide, by decide, by decide, ?_⟩
  have h : ∀ w : Nat, w < 15 → stW w + 1 < stW (w + 1) ∧ stW (w + 1) ≤ 200 ∧ (∀ j : Nat, j < 77 → stW w ≤ j → j + 1 < stW (w + 1) → ¬ chS 1 (nI j) = 32) ∧ chS 1 (nI (stW (w + 1) - 1)) = 32 := by decide +kernel
  have h2 : ∀ w : Nat, w < 15 → stW (w + 1) ≤ 77 := by decide +kernel
  intro w hw
  obtain ⟨a, c, d, e⟩ := h w hw
  exact ⟨a, c, fun j j0 j1 => d j (by have := h2 w hw; omega) j0 j1, e⟩
