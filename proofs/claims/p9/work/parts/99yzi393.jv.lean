section JV3
variable {fu : Nat} {X : JCX} {p : Int32} {N K n q nf t i j f n0 o : Nat} {φ : Nat → Nat} {cid pl x1 x3 r : Int32} {Fa Fb Fc Fm F F1 F2 F3 F4 F5 : PF} {Ga Gb Gc Gm G G1 G2 G3 G4 G5 : PG}
theorem mp_gA42 {G' : PG} (k : KX [36, 37] [38, 39, 40, 41] F G (fup F 36 (F 36 + 1)) G') : PP (mb_globalAt_42 fu x1 (fup F 36 (F 36 + 1)) G') (fun _ F1 G1 => KX [36, 37] [38, 39, 40, 41] F G F1 G1) := by
  have h73 : ∀ G1 : PG, KX [36, 37] [38, 39, 40, 41] F G (fup F 36 (F 36 + 1)) G1 → PP (mb_globalAt_73 fu x1 (fup F 36 (F 36 + 1)) G1) (fun _ F1 G1 => KX [36, 37] [38, 39, 40, 41] F G F1 G1) := by
    intro G1 k1
    unfold mb_globalAt_73
    refine PP.ite (fun _ => PP.ret k1) (fun _ => ?_)
    unfold mb_globalAt_80
    refine PP.ix (fun _ => PP.ret (KX.f rfl (KX.g rfl k1)))
  unfold mb_globalAt_42
  refine PP.ite (fun _ => h73 _ k) (fun _ => ?_)
  unfold mb_globalAt_49
  refine PP.ix (fun _ => ?_)
  unfold mb_globalAt_56
  refine PP.ix (fun _ => ?_)
  unfold mb_globalAt_63
  exact PP.ix (fun _ => h73 _ (KX.g rfl (KX.g rfl (KX.g rfl k))))
/-- room for one more, in the first pass -/
theorem mp_gAt0 (h46 : F 46 = 0) : PP (mf_globalAt fu x1 F G) (fun _ F1 G1 => KX [36, 37] [38, 39, 40, 41] F G F1 G1) := by
  unfold mf_globalAt mb_globalAt_0
  refine PP.bind (mp_twice0 h46) ?_
  rintro _ _ _ ⟨rfl, rfl⟩
  dsimp only
  unfold mb_globalAt_5 mb_globalAt_20
  have k0 : KX [36, 37] [38, 39, 40, 41] F G (fup F 36 (F 36 + 1)) G := KX.f rfl KX.rf
  refine PP.ite (fun _ => mp_gA42 k0) (fun _ => ?_)
  unfold mb_globalAt_30
  refine PP.ix (fun _ => PP.bind (mp_n0 (by rw [fup_n (by decide)]; exact h46) (by decide)) ?_)
  rintro _ _ _ ⟨rfl, rfl⟩
  exact mp_gA42 k0
/-- in the second -/
theorem mp_gAt (h14 : (F 14).toInt = t) (ht : t ≤ 900) (h24 : (F 24).toInt = nf) (hn : nf ≤ 500) (h46 : ¬ F 46 = 0) (h36 : (F 36).toInt = o) (ho : o < 2000) (nt : ¬ jTw nf t x1 F G) : PP (mf_globalAt fu x1 F G) (fun r F1 G1 => r = F 36 ∧ KX [36, 37] [38, 39, 40, 41] F G F1 G1 ∧ F1 36 = F 36 + 1 ∧ F1 37 = F 37 + 1 ∧ G1 39 o = F 37 ∧ G1 41 (F 37).toNatClampNeg = 0 ∧ (∀ i : Nat, ¬ i = (F 37).toNatClampNeg → G1 41 i = G 41 i) ∧ jI0 o (F 37) G G1) := by
  have l2 : (2000 : Int32).toInt = 2000 := rfl
  have e1 : (F 36 + 1).toInt = (o : Int) + 1 := by rw [i_addn (m := 1) _ rfl (by omega) (by omega), h36]
  have en : (F 36).toNatClampNeg = o := by
    show (F 36).toInt.toNat = o
    omega
  unfold mf_globalAt mb_globalAt_0
  refine PP.bind (mp_twice h14 ht h24 hn h46) ?_
  rintro _ F1 _ ⟨rfl, -, y⟩
  have e := y nt
  subst e
  dsimp only
  unfold mb_globalAt_5 mb_globalAt_20
  rw [if_pos (show fup F 36 (F 36 + 1) 36 ≤ 2000 by rw [fup_s]; exact i_le.mpr (by omega))]
  unfold mb_globalAt_42
  rw [if_neg (show ¬ (2000 : Int32) < F 36 from fun z => by have := i_lt.mp z; omega)]
  unfold mb_globalAt_49
  refine PP.ix (fun _ => ?_)
  unfold mb_globalAt_56
  refine PP.ix (fun _ => ?_)
  unfold mb_globalAt_63
  refine PP.ix (fun _ => ?_)
  unfold mb_globalAt_73
  rw [if_neg (show ¬ (2000 : Int32) ≤ F 36 from fun z => by have := i_le.mp z; omega)]
  unfold mb_globalAt_80
  refine PP.ix (fun _ => PP.ret ⟨rfl, ?_, ?_, ?_, ?_, ?_, fun i hi => ?_, ⟨?_, ?_, ?_⟩, fun i hi => ⟨?_, ?_, ?_⟩⟩)
  · exact KX.f rfl (KX.g rfl (KX.g rfl (KX.g rfl (KX.g rfl (KX.f rfl KX.rf)))))
  · rw [fup_n (by decide), fup_s]
  · rw [fup_s, fup_n (by decide)]
  · rw [gup_o (by decide), en, gup_i, fup_n (by decide)]
  · rw [fup_n (by decide), gup_i]
  · rw [fup_n (by decide), gup_x hi, gup_o (by decide), gup_o (by decide), gup_o (by decide)]
  · rw [gup_o (by decide), gup_o (by decide), gup_o (by decide), en, gup_i]
  · rw [gup_o (by decide), en, gup_i, fup_n (by decide)]
  · rw [gup_o (by decide), gup_o (by decide), en, gup_i]
    rfl
  · rw [gup_o (by decide), gup_o (by decide), gup_o (by decide), en, gup_x hi]
  · rw [gup_o (by decide), en, gup_x hi, gup_o (by decide), gup_o (by decide)]
  · rw [gup_o (by decide), gup_o (by decide), en, gup_x hi, gup_o (by decide)]
/-- nothing fits, or it is told already -/
theorem mp_gAtB (h14 : (F 14).toInt = t) (ht : t ≤ 900) (h24 : (F 24).toInt = nf) (hn : nf ≤ 500) (h46 : ¬ F 46 = 0) (h36 : (F 36).toInt = o) (hb : jTw nf t x1 F G ∨ o = 2000) : PP (mf_globalAt fu x1 F G) (fun _ F1 _ => ¬ F1 47 = 0) := by
  have l2 : (2000 : Int32).toInt = 2000 := rfl
  unfold mf_globalAt mb_globalAt_0
  refine PP.bind (mp_twice h14 ht h24 hn h46) ?_
  rintro _ F1 _ ⟨rfl, y1, y2⟩
  dsimp only
  by_cases c : jTw nf t x1 F G
  · exact PP.mono (nqj_globalAt_5 x1 F1 G MFS.rf) (fun _ F' _ w z => y1 c (w.2.1 z))
  · have e := y2 c
    subst e
    have eo : o = 2000 := by
      rcases hb with z | z
      · exact absurd z c
      · exact z
    have e1 : (F 36 + 1).toInt = 2001 := by rw [i_addn (m := 1) _ rfl (by omega) (by omega)]; omega
    unfold mb_globalAt_5 mb_globalAt_20
    rw [if_neg (show ¬ fup F 36 (F 36 + 1) 36 ≤ 2000 from fun z => by rw [fup_s] at z; have := i_le.mp z; omega)]
    unfold mb_globalAt_30
    refine PP.ix (fun _ => mp_nt (A := fun F' G' => mb_globalAt_42 fu (F 36) F' G') (by rw [fup_n (by decide)]; exact h46) (by decide) (fun F' G' => nqj_globalAt_42 _ F' G' MFS.rf))
/-- the class's room -/
theorem cp_groom (w pl : Int32) (F : PF) (G : PG) : PP (cf_X5_globalRoom fu w pl F G) (fun r F1 G1 => r = F 75 ∧ G = G1 ∧ (F 45 = 0 → F = F1) ∧ (¬ F 45 = 0 → (F 75 + w) ≤ 2000 → fup F 75 (F 75 + w) = F1) ∧ (¬ F 45 = 0 → ¬ (F 75 + w) ≤ 2000 → pl.toInt ≤ 4000 → (F1 43).toInt ≤ 4000) ∧ KX [43, 44, 47, 75] [] F G F1 G1) := by
  unfold cf_X5_globalRoom cb_X5_globalRoom_0
  refine PP.ite (fun c => ?_) (fun c => ?_)
  · exact PP.ret ⟨rfl, rfl, fun _ => rfl, fun z => absurd c z, fun z => absurd c z, KX.rf⟩
  · unfold cb_X5_globalRoom_15 cb_X5_globalRoom_28
    refine PP.ite (fun d => ?_) (fun d => ?_)
    · rw [fup_s] at d
      exact PP.ret ⟨rfl, rfl, fun z => absurd z c, fun _ _ => rfl, fun _ z => absurd d z, KX.f rfl KX.rf⟩
    · rw [fup_s] at d
      unfold cb_X5_globalRoom_41
      refine PP.bind (cp_note 8 pl (by decide) (by decide) _ G) ?_
      rintro r F1 G1 ⟨rfl, k, -, y⟩
      exact PP.ret ⟨rfl, rfl, fun z => absurd z c, fun _ z => absurd z d, fun _ _ z => y (by rw [fup_n (by decide)]; exact c) z, KX.tr (KX.f rfl KX.rf) k rfl rfl⟩
end JV3
