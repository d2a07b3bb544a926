/-- the tapes are alike -/
def jTp (Fc : PF) (Gc : PG) (Fm : PF) (Gm : PG) : Prop := Fc 88 = Fm 2 ∧ ∀ i : Nat, (i : Int) < (Fm 2).toInt → Gc 87 i &&& (255 : Int32) = Gm 0 i
/-- behind read: a program is there in both, or in neither; its tables are alike -/
def jRd (F1 : PF) (G1 : PG) (F2 : PF) (G2 : PG) : Prop := (F1 73 = 0 ∧ F2 73 = 0) ∨ (F1 73 = 1 ∧ F2 73 = 1 ∧ ∃ f : Nat, jTab f F1 G1 F2 G2 ∧ ∃ y : Nat, y < f ∧ F1 76 = nI y ∧ F2 74 = nI y)
section JR5
variable {fu : Nat} {Fc Fm F F2 : PF} {Gc Gm G : PG} {a : PR} {Q : Int32 → PF → PG → Int32 → PF → PG → Prop}
theorem P1.k46 {M : Nat} {Kk V : Nat → Int32} (P : P1 Kk V fu M F G) (k : KX [46] [] F G F2 G) : P1 Kk V fu M F2 G := by
  obtain ⟨g, T, h44, h54, h24, h35, ⟨t, u, u1, u2, u3⟩, hr, hc⟩ := P
  refine ⟨g, T.kx k rfl rfl rfl rfl rfl, (k.1 44 rfl).trans h44, (k.1 54 rfl).trans h54, by rw [k.1 24 rfl]; exact h24, by rw [k.1 35 rfl]; exact h35, ⟨t, u, u1, u2, by rw [k.1 24 rfl]; exact u3⟩, ?_, ?_⟩
  · unfold RC1 at hr ⊢
    rw [k.1 24 rfl, k.1 35 rfl]
    exact hr
  · unfold CM1 at hc ⊢
    rw [k.1 24 rfl]
    exact hc
/-- the reference copies its tape -/
theorem mh_copy (h3 : (F 3).toInt ≤ 4000) (H : ∀ G' : PG, KX [] [1] F G F G' → (∀ i : Nat, (i : Int) < (F 3).toInt → G' 1 i = G 0 i) → (∀ i : Nat, G' 1 i = G 0 i ∨ G' 1 i = G 1 i) → JP a (mb_read_36 fu F G') Q) : ∀ (m : Nat) (x : Int32) (G1 : PG), KX [] [1] F G F G1 → 0 ≤ x.toInt → (∀ i : Nat, (i : Int) < x.toInt → G1 1 i = G 0 i) → (∀ i : Nat, G1 1 i = G 0 i ∨ G1 1 i = G 1 i) → JP a (ml_read_10 fu m x F G1) Q := by
  intro m
  induction m with
  | zero => intro x G1 _ _ _ _; exact JP.noR
  | succ m ih =>
    intro x G1 k x0 hx hor
    show JP a (mb_read_10 fu (ml_read_10 fu m) x F G1) Q
    unfold mb_read_10
    refine JP.iteR (fun c => ?_) (fun c => ?_)
    · have := i_le.mp c
      exact H G1 k (fun i hi => hx i (by omega)) hor
    · have c1 := mt i_le.mpr c
      have ex : (x + 1).toInt = x.toInt + 1 := i_addn x rfl (by omega) (by omega)
      have ec : x.toNatClampNeg = x.toInt.toNat := rfl
      unfold mb_read_18 mb_read_30
      refine JP.ixR (fun _ => JP.ixR (fun _ => ?_))
      have kg : KX [] [1] F G1 F (gup G1 1 x.toNatClampNeg (G1 0 x.toNatClampNeg)) := KX.g rfl KX.rf
      refine ih (x + 1) _ (KX.tr k kg rfl rfl) (by omega) (fun i hi => ?_) (fun i => ?_)
      · by_cases e : i = x.toNatClampNeg
        · rw [e, gup_i, k.2 0 rfl]
        · rw [gup_x e]
          exact hx i (by rw [ec] at e; omega)
      · by_cases e : i = x.toNatClampNeg
        · rw [e, gup_i, k.2 0 rfl]
          exact .inl rfl
        · rw [gup_x e]
          exact hor i
theorem cp_fill40 {v : Int32} : ∀ (k : Nat) (x : Int32) (F : PF) (G : PG), 0 ≤ x.toInt → (∀ i : Nat, (i : Int) < x.toInt → G 40 i = v) → PP (cl_fill_40_5 fu k v x 1408 F G) (fun _ F' G' => F = F' ∧ KX [] [40] F G F' G' ∧ ∀ i : Nat, i < 1408 → G' 40 i = v) := by
  have l : (1408 : Int32).toInt = 1408 := rfl
  intro k
  induction k with
  | zero => intro x F G _ _; exact PP.no
  | succ k ih =>
    intro x F G h0 h1
    show PP (cb_fill_40_5 fu (cl_fill_40_5 fu k) v x 1408 F G) _
    unfold cb_fill_40_5 cb_fill_40_20 cb_fill_40_10 cb_fill_40_14
    refine PP.ite (fun c => ?_) (fun c => PP.ix (fun _ => ?_))
    · have := i_le.mp c
      exact PP.ret ⟨rfl, KX.rf, fun i hi => h1 i (by omega)⟩
    · have c1 := mt i_le.mpr c
      have ex : (x + 1).toInt = x.toInt + 1 := i_addn x rfl (by omega) (by omega)
      have ec : x.toNatClampNeg = x.toInt.toNat := rfl
      refine PP.mono (ih (x + 1) F (gup G 40 x.toNatClampNeg v) (by omega) (fun i hi => ?_)) ?_
      · by_cases q : i = x.toNatClampNeg
        · rw [q, gup_i]
        · rw [gup_x q]
          exact h1 i (by rw [ec] at q; omega)
      · rintro r F' G' ⟨q1, q2, q3⟩
        exact ⟨q1, KX.tr (KX.g (k := 40) rfl KX.rf) q2 rfl rfl, q3⟩
theorem cp_fill86 {v : Int32} : ∀ (k : Nat) (x : Int32) (F : PF) (G : PG), 0 ≤ x.toInt → (∀ i : Nat, (i : Int) < x.toInt → G 86 i = v) → PP (cl_fill_86_5 fu k v x 2000 F G) (fun _ F' G' => F = F' ∧ KX [] [86] F G F' G' ∧ ∀ i : Nat, i < 2000 → G' 86 i = v) := by
  have l : (2000 : Int32).toInt = 2000 := rfl
  intro k
  induction k with
  | zero => intro x F G _ _; exact PP.no
  | succ k ih =>
    intro x F G h0 h1
    show PP (cb_fill_86_5 fu (cl_fill_86_5 fu k) v x 2000 F G) _
    unfold cb_fill_86_5 cb_fill_86_20 cb_fill_86_10 cb_fill_86_14
    refine PP.ite (fun c => ?_) (fun c => PP.ix (fun _ => ?_))
    · have := i_le.mp c
      exact PP.ret ⟨rfl, KX.rf, fun i hi => h1 i (by omega)⟩
    · have c1 := mt i_le.mpr c
      have ex : (x + 1).toInt = x.toInt + 1 := i_addn x rfl (by omega) (by omega)
      have ec : x.toNatClampNeg = x.toInt.toNat := rfl
      refine PP.mono (ih (x + 1) F (gup G 86 x.toNatClampNeg v) (by omega) (fun i hi => ?_)) ?_
      · by_cases q : i = x.toNatClampNeg
        · rw [q, gup_i]
        · rw [gup_x q]
          exact h1 i (by rw [ec] at q; omega)
      · rintro r F' G' ⟨q1, q2, q3⟩
        exact ⟨q1, KX.tr (KX.g (k := 86) rfl KX.rf) q2 rfl rfl, q3⟩
/-- the class clears what it has read -/
theorem cp_clear4 (x1 : Int32) (F : PF) (G : PG) : PP (cf_X4_clear fu x1 F G) (fun _ F' G' => KX [6, 27, 41, 42, 43, 44, 45, 46, 47, 73, 74, 75, 76, 85] [40, 86] F G F' G' ∧ (F' 6 = 0 ∧ F' 27 = x1 ∧ F' 41 = 0 ∧ F' 43 = 4001 ∧ F' 46 = 0 ∧ F' 47 = 1) ∧ (F' 74 = 0 ∧ F' 75 = 0 ∧ F' 76 = -1 ∧ F' 85 = 0) ∧ (∀ k : Nat, k < 1408 → G' 40 k = -1) ∧ ∀ k : Nat, k < 2000 → G' 86 k = 0) := by
  have c8 : ∀ (F : PF) (G : PG), PP (cf_X8_clear fu F G) (fun _ F' G' => KX [73, 74, 75, 76, 85] [86] F G F' G' ∧ F' 74 = 0 ∧ F' 75 = 0 ∧ F' 76 = -1 ∧ F' 85 = 0 ∧ ∀ k : Nat, k < 2000 → G' 86 k = 0) := by
    intro F G
    unfold cf_X8_clear cb_X8_clear_0 cb_X8_clear_5 cb_X8_clear_10 cb_X8_clear_15 cb_X8_clear_20 cb_X8_clear_25 cf_fill_86 cb_fill_86_0
    refine PP.bind (cp_fill86 fu 0 _ G (by decide) (fun i hi => by
      have l0 : (0 : Int32).toInt = 0 := rfl
      omega)) ?_
    rintro r F' G' ⟨rfl, k, h86⟩
    dsimp only
    unfold cb_X8_clear_33
    refine PP.ret ⟨KX.tr (KX.f rfl (KX.f rfl (KX.f rfl (KX.f rfl (KX.f rfl KX.rf))))) k rfl rfl, rfl, rfl, rfl, rfl, h86⟩
  have c5 : ∀ (F : PF) (G : PG), PP (cf_X5_clear fu F G) (fun _ F' G' => KX [41, 42, 43, 44, 45, 46, 47] [40] F G F' G' ∧ (F' 41 = 0 ∧ F' 43 = 4001 ∧ F' 46 = 0 ∧ F' 47 = 1) ∧ ∀ k : Nat, k < 1408 → G' 40 k = -1) := by
    intro F G
    unfold cf_X5_clear cb_X5_clear_0 cb_X5_clear_5 cb_X5_clear_10 cb_X5_clear_17 cb_X5_clear_22 cb_X5_clear_27 cb_X5_clear_32 cb_X5_clear_37 cf_fill_40 cb_fill_40_0
    refine PP.bind (cp_fill40 fu 0 _ G (by decide) (fun i hi => by
      have l0 : (0 : Int32).toInt = 0 := rfl
      omega)) ?_
    rintro r F' G' ⟨rfl, k, h⟩
    dsimp only
    unfold cb_X5_clear_45
    exact PP.ret ⟨KX.tr (KX.f rfl (KX.f rfl (KX.f rfl (KX.f rfl (KX.f rfl (KX.f rfl (KX.f rfl KX.rf))))))) k rfl rfl, ⟨rfl, rfl, rfl, rfl⟩, h⟩
  unfold cf_X4_clear cb_X4_clear_0 cb_X4_clear_5
  have k27 : KX [27] [] F G (fup F 27 x1) G := KX.f rfl KX.rf
  have v27 : fup F 27 x1 27 = x1 := fup_s
  generalize fup F 27 x1 = Fa at k27 v27 ⊢
  refine PP.bind (c8 Fa G) ?_
  rintro r Fb Gb ⟨kb, b1, b2, b3, b4, b5⟩
  dsimp only
  unfold cb_X4_clear_12
  refine PP.bind (c5 Fb Gb) ?_
  rintro r2 Fd Gd ⟨kd, ⟨d1, d2, d3, d4⟩, d5⟩
  dsimp only
  unfold cb_X4_clear_19 cb_X4_clear_27
  have k6 : KX [6] [] Fd Gd (fup Fd 6 0) Gd := KX.f rfl KX.rf
  have v6 : fup Fd 6 0 6 = 0 := fup_s
  generalize fup Fd 6 0 = Fe at k6 v6 ⊢
  refine PP.ret ⟨KX.tr (KX.tr (KX.tr (KX.tr KX.rf k27 rfl rfl) kb rfl rfl) kd rfl rfl) k6 rfl rfl, ⟨v6, ?_, ?_, ?_, ?_, ?_⟩, ⟨?_, ?_, ?_, ?_⟩, d5, by rw [kd.2 86 rfl]; exact b5⟩
  · rw [k6.1 27 rfl, kd.1 27 rfl, kb.1 27 rfl]; exact v27
  · rw [k6.1 41 rfl]; exact d1
  · rw [k6.1 43 rfl]; exact d2
  · rw [k6.1 46 rfl]; exact d3
  · rw [k6.1 47 rfl]; exact d4
  · rw [k6.1 74 rfl, kd.1 74 rfl]; exact b1
  · rw [k6.1 75 rfl, kd.1 75 rfl]; exact b2
  · rw [k6.1 76 rfl, kd.1 76 rfl]; exact b3
  · rw [k6.1 85 rfl, kd.1 85 rfl]; exact b4
theorem cp_64 (x1 : Int32) (F : PF) (G : PG) : PP (cb_X11_read_64 fu x1 F G) (fun _ F' G' => KX [73, 88] [] F G F' G' ∧ (x1 = 0 → F' 73 = 1) ∧ (¬ x1 = 0 → F' 73 = 0)) := by
  have w : ∀ z : Int32, (z = 0 ∨ z = 1) → PP (cb_X11_read_77 fu x1 z F G) (fun _ F' G' => KX [73, 88] [] F G F' G' ∧ F' 73 = z) := by
    intro z hz
    unfold cb_X11_read_77
    refine PP.bz (fun _ => ?_)
    unfold cb_X11_read_80 cb_X11_read_88
    refine PP.ret ⟨KX.f rfl (KX.f rfl KX.rf), ?_⟩
    rw [fup_n (by decide), fup_s]
  unfold cb_X11_read_64 cb_X11_read_72 cb_X11_read_76
  refine PP.ite (fun c => PP.mono (w 1 (.inr rfl)) (fun _ F' G' h => ⟨h.1, fun _ => h.2, fun y => absurd c y⟩)) (fun c => PP.mono (w 0 (.inl rfl)) (fun _ F' G' h => ⟨h.1, fun y => absurd y c, fun _ => h.2⟩))
theorem mw_main : ∀ (m : Nat) (x : Int32) (F0 : PF) (G0 : PG) (F : PF) (G : PG), KX [47, 48, 49, 73, 74] [] F0 G0 F G → PP (ml_read_127 fu m x F G) (fun _ F' G' => KX [47, 48, 49, 73, 74] [] F0 G0 F' G') := by
  intro m
  induction m with
  | zero => intro x F0 G0 F G _; exact PP.no
  | succ m ih =>
    intro x F0 G0 F G h
    show PP (mb_read_127 fu (ml_read_127 fu m) x F G) _
    have e258 : ∀ (F : PF) (G : PG), KX [47, 48, 49, 73, 74] [] F0 G0 F G → PP (mb_read_258 fu F G) (fun _ F' G' => KX [47, 48, 49, 73, 74] [] F0 G0 F' G') := by
      intro F G h
      unfold mb_read_258 mb_read_278 mb_read_283 mb_read_265
      exact PP.ite (fun _ => PP.ret (KX.f rfl h)) (fun _ => PP.ret h)
    have e234 : ∀ (F : PF) (G : PG), KX [47, 48, 49, 73, 74] [] F0 G0 F G → PP (mb_read_234 fu (ml_read_127 fu m) x F G) (fun _ F' G' => KX [47, 48, 49, 73, 74] [] F0 G0 F' G') := fun F G h => ih _ F0 G0 F G h
    unfold mb_read_127
    refine PP.ite (fun _ => ?_) (fun _ => ?_)
    · unfold mb_read_240
      refine PP.ite (fun _ => ?_) (fun _ => e258 F G h)
      unfold mb_read_248
      exact PP.bind (mw_note 12 _ F G) (fun r F1 G1 w => e258 F1 G1 (KX.tr h w rfl rfl))
    · unfold mb_read_131
      refine PP.ix (fun _ => PP.ix (fun _ => PP.ix (fun _ => PP.ite (fun _ => ?_) (fun _ => e234 F G h))))
      unfold mb_read_153
      refine PP.bind (mw_at _ F G) (fun r1 Fa Ga ka => ?_)
      show PP (mb_read_158 fu _ _ _ r1 Fa Ga) _
      unfold mb_read_158
      have ka := KX.tr h ka rfl rfl
      refine PP.ite (fun _ => ?_) (fun _ => e234 Fa Ga ka)
      unfold mb_read_163
      refine PP.bind (mw_at _ Fa Ga) (fun r2 Fb Gb kb => ?_)
      show PP (mb_read_170 fu _ _ _ r2 Fb Gb) _
      unfold mb_read_170
      have kb := KX.tr ka kb rfl rfl
      refine PP.ite (fun _ => ?_) (fun _ => e234 Fb Gb kb)
      unfold mb_read_175
      refine PP.bind (mw_at _ Fb Gb) (fun r3 Fd Gd kd => ?_)
      show PP (mb_read_182 fu _ _ _ r3 Fd Gd) _
      unfold mb_read_182
      have kd := KX.tr kb kd rfl rfl
      refine PP.ite (fun _ => ?_) (fun _ => e234 Fd Gd kd)
      unfold mb_read_187
      refine PP.bind (mw_at _ Fd Gd) (fun r4 Fe Ge ke => ?_)
      show PP (mb_read_194 fu _ _ r4 Fe Ge) _
      unfold mb_read_194
      have ke := KX.tr kd ke rfl rfl
      refine PP.ite (fun _ => ?_) (fun _ => e234 Fe Ge ke)
      unfold mb_read_202 mb_read_207
      have kf : KX [47, 48, 49, 73, 74] [] F0 G0 (fup Fe 74 x) Ge := KX.f rfl ke
      refine PP.ix (fun _ => PP.ite (fun _ => e234 _ Ge kf) (fun _ => ?_))
      unfold mb_read_217
      exact PP.ix (fun _ => PP.ix (fun _ => PP.bind (mw_note 12 _ _ Ge) (fun r F1 G1 w => e234 F1 G1 (KX.tr kf w rfl rfl))))
end JR5
