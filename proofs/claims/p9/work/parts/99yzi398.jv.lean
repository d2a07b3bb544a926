abbrev jXf : List Nat := [6, 9, 10, 11, 12, 13, 14, 21, 30, 31, 41, 43, 44, 46, 47, 49, 50, 56, 57, 300]
/-- one FORMAL more stands in the class's tables -/
def jAd (kd : Nat) (Fc : PF) (Gc : PG) (F1 : PF) (G1 : PG) : Prop := ∀ f c : Nat, (Fc 74).toInt = (f : Int) + 1 → f < 450 → (Fc 85).toInt = c → c < 700 → (F1 85).toInt = (c : Int) + 1 ∧ (G1 84 c = nI (kd + 1) ∧ ∀ y : Nat, y ≠ c → G1 84 y = Gc 84 y) ∧ (G1 78 f = Gc 78 f + 1 ∧ ∀ y : Nat, y ≠ f → G1 78 y = Gc 78 y) ∧ (kd ≤ 2 → G1 81 f = Gc 81 f + (if kd = 0 then 1 else 2)) ∧ ∀ y : Nat, y ≠ f → G1 81 y = Gc 81 y
section JV8
variable {fu : Nat} {X : JCX} {p : Int32} {N K n q nf t i j f : Nat} {d κ : Int} {cid pl x1 x3 r : Int32} {Fa Fb Fc Fm F1 F2 F3 F4 F5 : PF} {Ga Gb Gc Gm G1 G2 G3 G4 G5 : PG}
theorem jS.k49 (h : jS X p N K n q nf t Fc Gc Fm Gm) (kc : KX [49] [] Fc Gc F1 Gc) : jS X p N K n q nf t F1 Gc Fm Gm := by
  obtain ⟨h1, h2, h3, h4, h5, h6⟩ := h
  refine ⟨h1.keep (kc.1 93 rfl) rfl rfl rfl rfl rfl rfl rfl rfl, h2, ?_, ?_, h5, ?_⟩
  · rw [kc.1 45 rfl, kc.1 7 rfl]
    exact h3
  · rw [kc.1 46 rfl]
    exact h4
  · unfold jSA jSE jFT
    unfold jSA jSE jFT at h6
    rw [kc.1 41 rfl, kc.1 42 rfl, kc.1 74 rfl]
    exact h6
theorem jD.k49 (D : jD N j Fc Gc Fm Gm) (kc : KX [49] [] Fc Gc F1 Gc) : jD N j F1 Gc Fm Gm := by
  unfold jD CU at D ⊢
  rw [kc.1 9 rfl, kc.1 10 rfl, kc.1 11 rfl, kc.1 12 rfl, kc.1 13 rfl, kc.1 14 rfl, kc.1 43 rfl, kc.1 47 rfl, kc.1 21 rfl, kc.1 6 rfl]
  exact D
/-- a FORMAL is told, in both -/
theorem jV.dclF {x : Nat × Nat} {ck cv cz mk b3 mc mz b6 : Int32} {n0 i0 : Nat} {F2' : PF} (V : jV X 1 N K n q nf t i0 Fa Ga Fb Gb) (S : jS X 1 N K n q nf t Fc Gc Fm Gm) (D : jD N j Fc Gc Fm Gm) (rm : (Fc 6).toInt ≤ 2 * (Gm 6 j).toInt + 100) (ins : jIns (q + t) cid pl ck cv cz Fc Gc F1 G1) (de : jDe t x1 mk b3 mc mz b6 Fm Gm F2' G2) (k53 : KX [53] [] F2' G2 F2 G2)
    (kc : KX jXf jYs Fa Ga F1 G1) (km : KX jZt jWs Fb Gb F2 G2) (e46 : F1 46 = 0) (e54 : F2 54 = 0) (xb : jXB F1) (hij : i0 ≤ j)
    (tok : i0 ≤ n0 + 1 ∧ n0 + 1 ≤ j ∧ cid = Gm 5 x1.toNatClampNeg ∧ pl = Gm 6 x1.toNatClampNeg ∧ 0 ≤ cid.toInt ∧ cid.toInt < K ∧ jDc (Gm 4) (Gm 5) n0 ∧ ¬ Gm 5 (n0 + 1) = 22 ∧ jPl N q nf t n0 (Gm 4) (Gm 5)) (nt : ¬ jTw nf t x1 Fm Gm) (en : jEN X.2.1 (X.2.2.1 ++ [x]) ck cv cz (Fm 15) mk mc mz (vp_nar .boolean b3) (vp_nar .boolean b6))
    (own : (F2 53).toInt = jsC (X.2.2.1 ++ [x]) ∧ F1 50 = F2 52 ∧ (F1 49).toInt + (F1 50).toInt = jsW (X.2.2.1 ++ [x]) ∧ (0 ≤ (F1 49).toInt ∧ (F1 49).toInt ≤ 8) ∧ 0 ≤ (F2 52).toInt ∧ (F2 52).toInt ≤ 200) : jV (X.1, X.2.1, X.2.2.1 ++ [x], X.2.2.2) 1 N K n q nf (t + 1) j F1 G1 F2 G2 := by
  obtain ⟨-, ⟨⟨a1, a2, a3⟩, ⟨b1, b2, b3'⟩, ⟨c1, c2, c3⟩, d1, d2⟩⟩ := V
  have S' := S
  obtain ⟨h1, h2, h3, h4, h5, h6⟩ := S
  have u : jUp X (X.1, X.2.1, X.2.2.1 ++ [x], X.2.2.2) := ⟨rfl, ⟨[], (List.append_nil _).symm⟩, ⟨[x], rfl⟩, rfl⟩
  have kc1 := ins.1
  have km1 : KX [14, 53] [16, 17, 18, 19, 20, 21, 22, 23] Fm Gm F2 G2 := KX.tr (KX.tr KX.rf de.1 rfl rfl) k53 rfl rfl
  have D' : jD N j F1 G1 F2 G2 := D.mv (KX.tr KX.rf kc1 rfl rfl) (KX.tr KX.rf km1 rfl rfl)
  have f42 : F1 42 = F2 15 := by rw [kc.1 42 rfl, km.1 15 rfl]; exact c1
  obtain ⟨t1, t2, t3, t4, t5, t6, t7, t8, t9⟩ := tok
  refine ⟨⟨⟨h1.keep (kc1.1 93 rfl) (kc1.2 90 rfl) (kc1.2 91 rfl) (kc1.2 92 rfl) (km1.1 7 rfl) (km1.1 8 rfl) (km1.2 4 rfl) (km1.2 5 rfl) (km1.2 6 rfl), h2, ?_, ?_, .inl e54, fun z => ?_⟩, D', ?_⟩, ⟨⟨a1, e54, xb⟩, ?_, ?_, fun z => absurd z (by decide), fun z => ?_⟩⟩
  · rw [km1.1 46 rfl, kc1.1 45 rfl, kc1.1 7 rfl]
    exact h3
  · rw [e46, e54]
  · obtain ⟨g1, g2, g3, g4, g5, g6⟩ := h6 rfl
    have f15 : Fm 15 = Fb 15 := by rw [← km1.1 15 rfl, km.1 15 rfl]
    have r6 := (t9.room h1.1.2.2 (fun i hi => S'.t1 hi) S'.p0t (by have := D.1.1; omega) (by rw [h1.2.2.2.2.2.1]; have := h1.1.2.1; omega)).1
    have nw := jNew u g2 g3 g4 g5 ins de t3 t4 t5 t6 (by omega) nt (fun y => by rw [f15] at y; rw [y] at c2; exact absurd c2 (by decide)) en
    obtain ⟨w1, ⟨w2, w3, w4, w5, w6, w7⟩, w8, w9⟩ := nw
    have f24 : F2 24 = F2' 24 := k53.1 24 rfl
    have f14 : F2 14 = F2' 14 := k53.1 14 rfl
    have f15' : F2 15 = F2' 15 := k53.1 15 rfl
    refine ⟨?_, ?_, ⟨by rw [f14]; exact w2, w3, w4, f42, by rw [f15']; exact w6, by rw [f15']; exact w7⟩, w8, w9, ?_⟩
    · show X.1 = true ↔ ¬ F2 54 = 0
      rw [e54, a1]
      exact ⟨fun y => absurd y (by decide), fun y => absurd rfl y⟩
    · unfold jSA at w1 ⊢
      rw [f24]
      exact w1
    · unfold jFT at g6 ⊢
      rw [kc1.1 74 rfl, kc1.2 82 rfl, kc1.2 77 rfl, kc1.2 78 rfl, kc1.2 83 rfl, kc1.2 84 rfl, km1.2 33 rfl, km1.2 26 rfl, km1.2 27 rfl, km1.2 31 rfl, km1.2 34 rfl]
      exact g6
  · rw [kc1.1 6 rfl, km1.2 6 rfl]
    exact rm
  · rw [kc.1 29 rfl, km.1 51 rfl]
    exact ⟨b1, b2, by omega⟩
  · rw [f42, km.1 15 rfl]
    exact ⟨rfl, c2, by omega⟩
  · obtain ⟨y1, y2, y3⟩ := d2 rfl
    obtain ⟨o1, o2, o3, ⟨o4, o5⟩, o6, o7⟩ := own
    refine ⟨?_, ⟨o1, o2, o3, o4, o5, o6, o7⟩, ?_⟩
    · rw [km.2 33 rfl, km.1 50 rfl, kc.1 48 rfl]
      exact y1
    · rw [km1.2 4 rfl, km1.2 5 rfl]
      exact t9.new (Nat.le_refl _) t2 t7 t8
/-- in the first pass the class's tables may grow -/
theorem jV.tb0 (V : jV X 0 N K n q nf t i Fc Gc Fm Gm) (kc : KX [85] [78, 81, 84] Fc Gc F1 G1) : jV X 0 N K n q nf t i F1 G1 Fm Gm := by
  obtain ⟨⟨⟨h1, h2, h3, h4, h5, h6⟩, D, R⟩, ⟨⟨a1, a2, a3⟩, b, c, d1, d2⟩⟩ := V
  refine ⟨⟨⟨h1.keep (kc.1 93 rfl) (kc.2 90 rfl) (kc.2 91 rfl) (kc.2 92 rfl) rfl rfl rfl rfl rfl, h2, ?_, ?_, h5, fun z => absurd z (by decide)⟩, ?_, ?_⟩, ⟨⟨a1, a2, a3.kx kc rfl⟩, ?_, ?_, fun z => ?_, fun z => absurd z (by decide)⟩⟩
  · rw [kc.1 45 rfl, kc.1 7 rfl]
    exact h3
  · rw [kc.1 46 rfl]
    exact h4
  · unfold jD CU at D ⊢
    rw [kc.1 9 rfl, kc.1 10 rfl, kc.1 11 rfl, kc.1 12 rfl, kc.1 13 rfl, kc.1 14 rfl, kc.1 43 rfl, kc.1 47 rfl, kc.1 21 rfl, kc.1 6 rfl, kc.2 90 rfl, kc.2 91 rfl, kc.2 92 rfl]
    exact D
  · rw [kc.1 6 rfl]; exact R
  · rw [kc.1 29 rfl]; exact b
  · rw [kc.1 42 rfl]; exact c
  · rw [kc.1 41 rfl, kc.2 34 rfl]
    exact d1 z
theorem cp_addFormal (kd : Nat) (F : PF) (G : PG) : PP (cf_X8_addFormal fu (nI (kd + 1)) F G) (fun _ F1 G1 => KX [85] [78, 81, 84] F G F1 G1 ∧ jAd kd F G F1 G1) := by
  have l7 : (700 : Int32).toInt = 700 := rfl
  have l0 : (0 : Int32).toInt = 0 := rfl
  unfold cf_X8_addFormal cb_X8_addFormal_0
  refine PP.ite (fun c => ?_) (fun c => ?_)
  · refine PP.ret ⟨KX.rf, fun f c' h1 h2 h3 h4 => ?_⟩
    have := i_le.mp c
    omega
  · unfold cb_X8_addFormal_10 cf_X8_has cb_X8_has_0
    by_cases c0 : (F 74 - 1) < 0
    · rw [if_pos c0]
      refine PP.ret ⟨KX.rf, fun f c' h1 h2 h3 h4 => ?_⟩
      have y := i_lt.mp c0
      have : (F 74 - 1).toInt = (F 74).toInt - 1 := i_subn (m := 1) _ rfl (by omega) (by omega)
      omega
    · rw [if_neg c0]
      unfold cb_X8_has_4
      by_cases c1 : F 74 ≤ F 74 - 1
      · rw [if_pos c1]
        refine PP.ret ⟨KX.rf, fun f c' h1 h2 h3 h4 => ?_⟩
        have y := i_le.mp c1
        have : (F 74 - 1).toInt = (F 74).toInt - 1 := i_subn (m := 1) _ rfl (by omega) (by omega)
        omega
      · rw [if_neg c1]
        show PP (cb_X8_addFormal_20 fu (nI (kd + 1)) 1 F G) _
        unfold cb_X8_addFormal_20
        rw [if_neg i10n]
        unfold cb_X8_addFormal_23
        refine PP.ix (fun _ => ?_)
        unfold cb_X8_addFormal_33 cb_X8_addFormal_43
        refine PP.ix (fun _ => PP.ix (fun _ => ?_))
        rw [fup_n (by decide)]
        -- what stands then
        have fin : ∀ (G2 : PG), KX [] [81] (fup F 85 (F 85 + 1)) (gup (gup G 84 (F 85).toNatClampNeg (nI (kd + 1))) 78 (F 74 - 1).toNatClampNeg (gup G 84 (F 85).toNatClampNeg (nI (kd + 1)) 78 (F 74 - 1).toNatClampNeg + 1)) (fup F 85 (F 85 + 1)) G2 → (kd ≤ 2 → G2 81 (F 74 - 1).toNatClampNeg = G 81 (F 74 - 1).toNatClampNeg + (if kd = 0 then 1 else 2)) → (∀ y : Nat, y ≠ (F 74 - 1).toNatClampNeg → G2 81 y = G 81 y) → KX [85] [78, 81, 84] F G (fup F 85 (F 85 + 1)) G2 ∧ jAd kd F G (fup F 85 (F 85 + 1)) G2 := by
          intro G2 k2 q1 q2
          refine ⟨KX.tr (KX.f rfl (KX.g rfl (KX.g rfl KX.rf))) k2 rfl rfl, fun f c' h1 h2 h3 h4 => ?_⟩
          have e74 : (F 74 - 1).toNatClampNeg = f := by
            show (F 74 - 1).toInt.toNat = f
            rw [i_subn (m := 1) _ rfl (by omega) (by omega)]
            omega
          have e85 : (F 85).toNatClampNeg = c' := by
            show (F 85).toInt.toNat = c'
            omega
          rw [e74, e85] at k2
          rw [e74] at q1 q2
          refine ⟨?_, ⟨?_, fun y hy => ?_⟩, ⟨?_, fun y hy => ?_⟩, q1, q2⟩
          · rw [fup_s, i_addn (m := 1) _ rfl (by omega) (by omega), h3]
          · rw [k2.2 84 rfl, gup_o (by decide), gup_i]
          · rw [k2.2 84 rfl, gup_o (by decide), gup_x hy]
          · rw [k2.2 78 rfl, gup_i, gup_o (by decide)]
          · rw [k2.2 78 rfl, gup_x hy, gup_o (by decide)]
        unfold cb_X8_addFormal_58
        refine PP.ix (fun _ => ?_)
        rw [fup_n (by decide), gup_o (by decide), gup_o (by decide)]
        have i1 : kd ≤ 2 → (nI (kd + 1) = 1 ↔ kd = 0) := by
          intro h
          rcases (show kd = 0 ∨ kd = 1 ∨ kd = 2 by omega) with z | z | z <;> rw [z] <;> decide
        refine PP.ite (fun ci => ?_) (fun ci => ?_)
        · unfold cb_X8_addFormal_75 cb_X8_addFormal_80
          exact PP.ix (fun _ => PP.ret (fin _ (KX.g rfl KX.rf) (fun h => by rw [gup_i, if_pos ((i1 h).mp ci)]) (fun y hy => by rw [gup_x hy, gup_o (by decide), gup_o (by decide)])))
        · unfold cb_X8_addFormal_79 cb_X8_addFormal_80
          exact PP.ix (fun _ => PP.ret (fin _ (KX.g rfl KX.rf) (fun h => by rw [gup_i, if_neg (fun z => ci ((i1 h).mpr z))]) (fun y hy => by rw [gup_x hy, gup_o (by decide), gup_o (by decide)])))
end JV8
