/-- how a FORMAL may end -/
def jQf (X : JCX) (p : Int32) (N K n q nf i k : Nat) (x2 : Int32) (Fc : PF) (Gc : PG) (Fm : PF) (Gm : PG) (r2 : Int32) (F1 : PF) (G1 : PG) (F2 : PF) (G2 : PG) : Prop :=
  (∃ (kd t1 j : Nat) (Y : JCX), (r2 = nI kd ∧ kd ≤ 2 ∧ kd = jKt (Gm 4) (Gm 5) i) ∧ jV Y p N K n q nf t1 j F1 G1 F2 G2 ∧ (i + 2 ≤ j ∧ (F1 10).toInt = (Fc 10).toInt ∧ (∀ y : Nat, i ≤ y → y < j → ¬ (Gm 4 y = 4 ∧ (Gm 5 y = 23 ∨ Gm 5 y = 28))) ∧ (Gm 6 i).toInt + 5 ≤ (Gm 6 j).toInt) ∧ (p = 0 → KX [9, 10, 11, 12, 13, 14, 85] [78, 81, 84] Fc Gc F1 G1 ∧ jAd kd Fc Gc F1 G1) ∧ (p = 1 → k < 4 ∧ x2 = 0 ∧ (F1 49).toInt = (Fc 49).toInt + (if kd = 0 then 1 else 2) ∧ jUq X Y ∧ Y.2.2.1 = X.2.2.1 ++ jFl [kd])) ∨
  jEnd F1 F2 ∨ (p = 1 ∧ ¬ x2 = 0 ∧ (F1 43).toInt ≤ 4000) ∨ (F2 44 = 0 ∧ TKE N K n F1 G1 F2 G2 ∧ (∃ j : Nat, CU N j F1 G1 F2 G2) ∧ ¬ F1 11 = 20 ∧ ¬ F1 11 = 25 ∧ (F1 10).toInt = (Fc 10).toInt)
section JV9
variable {fu : Nat} {X : JCX} {p : Int32} {N K n q nf t i j : Nat} {cid pl x1 x3 r : Int32} {Fa Fb Fc Fm F1 F2 F3 F4 F5 F6 : PF} {Ga Gb Gc Gm G1 G2 G3 G4 G5 G6 : PG}
theorem jV.r53 (V : jV X 0 N K n q nf t i Fc Gc Fm Gm) (km : KX [53] [] Fm Gm F2 Gm) : jV X 0 N K n q nf t i Fc Gc F2 Gm := by
  obtain ⟨⟨S, D, R⟩, ⟨⟨a1, a2, a3⟩, b, c, d1, d2⟩⟩ := V
  refine ⟨⟨S.keepV KX.rf (KX.tr KX.rf km rfl rfl) rfl (km.1 54 rfl), D.mv KX.rf (KX.tr KX.rf km rfl rfl), R⟩, ⟨⟨a1, by rw [km.1 54 rfl]; exact a2, a3⟩, ?_, ?_, d1, fun z => absurd z (by decide)⟩⟩
  · rw [km.1 51 rfl]; exact b
  · rw [km.1 15 rfl]; exact c
/-- a FORMAL's name and kind are read -/
theorem jt_told {k kd : Nat} {x2 arr b : Int32} (k4 : p = 1 → k < 4) (h49 : p = 1 → (Fc 49).toInt ≤ 2 * (k : Int)) (hx2 : p = 1 → x2 = 0) (M : jNm X p N K n q nf t i cid pl x3 Fc Gc Fm Gm F3 G3 F4 G4) (V5 : jV X p N K n q nf t j F5 G5 F6 G6) (ij : i + 2 ≤ j) (ka : KX [9, 10, 11, 12, 13, 14] [] Fc Gc F3 G3) (kc : KX [9, 10, 11, 12, 13, 14] [] F3 G3 F5 G5) (km : KX [42, 43, 44, 45] [] F4 G4 F6 G6) (e10 : (F5 10).toInt = (F3 10).toInt) (tk : ∀ y : Nat, i ≤ y → y < j → ¬ (Gm 4 y = 4 ∧ (Gm 5 y = 23 ∨ Gm 5 y = 28))) (hd : (kd = 0 ∧ arr = 0 ∧ b = 0) ∨ (kd = 1 ∧ arr = 1 ∧ b = 0) ∨ (kd = 2 ∧ arr = 1 ∧ b = 1)) (sb : p = 1 → Gm 4 (i + 2) = 4 ∧ ¬ Gm 5 (i + 2) = 22) (nt : p = 1 → ¬ jTw nf t x3 F4 G4) (hkt : kd = jKt (Gm 4) (Gm 5) i) : JP (cb_X4_formal_133 fu (nI k) cid pl (nI (kd + 1)) F5 G5) (mb_formalHere_117 fu b x3 arr F6 G6) (fun _ F1 G1 r2 F2 G2 => jQf X p N K n q nf i k x2 Fc Gc Fm Gm r2 F1 G1 F2 G2) := by
  have x3n := M.x3n
  have KN := M.kn
  have VA := M.va
  obtain ⟨V, a, ⟨e1, e2, e3, e4⟩, g1, g2, g3⟩ := M
  have hp := V.1.1.2.1
  have m46 : F6 46 = p := V5.1.1.2.2.1.1
  have c45 : F5 45 = p := V5.1.1.2.2.1.2.1
  have d10 : (F5 10).toInt = (Fc 10).toInt := by
    have := a.2.2.2.1
    omega
  have g5 : G6 5 = Gm 5 := (km.2 5 rfl).trans (a.1.2.2 5 rfl)
  have g4 : G6 4 = Gm 4 := (km.2 4 rfl).trans (a.1.2.2 4 rfl)
  have g6 : G6 6 = Gm 6 := (km.2 6 rfl).trans (a.1.2.2 6 rfl)
  -- the reference's code of the kind, and its declaration
  obtain ⟨mk, mz, w, hm, hw⟩ : ∃ mk mz w : Int32, ((kd = 0 ∧ mk = 1 ∧ mz = 1 ∧ w = 1) ∨ (¬ kd = 0 ∧ mk = 2 ∧ mz = -1 ∧ w = 2)) ∧ mb_formalHere_117 fu b x3 arr F6 G6 = (mf_declare fu x3 mk b (F6 53) mz 1 F6 G6).bind (fun q => some (nI kd, fup q.2.1 53 (q.2.1 53 + w), q.2.2)) := by
    rcases hd with ⟨z1, z2, z3⟩ | ⟨z1, z2, z3⟩ | ⟨z1, z2, z3⟩
    · refine ⟨1, 1, 1, .inl ⟨z1, rfl, rfl, rfl⟩, ?_⟩
      subst z1 z2 z3
      rfl
    · refine ⟨2, -1, 2, .inr ⟨by omega, rfl, rfl, rfl⟩, ?_⟩
      subst z1 z2 z3
      rfl
    · refine ⟨2, -1, 2, .inr ⟨by omega, rfl, rfl, rfl⟩, ?_⟩
      subst z1 z2 z3
      rfl
  have kd2 : kd ≤ 2 := by omega
  have h5 : (Gm 6 i).toInt + 5 ≤ (Gm 6 j).toInt := by
    have tp := V.1.1.1.1.2.2
    have jN : j ≤ N := V5.1.2.1.1.1
    have y1 := (tp i (by omega)).2 g1 g3
    have y2 := (tp (i + 1) e4).1
    have y3 := V.1.1.t1 (i := i + 1) e4
    have y4 := TPF.mono tp (i + 1 + 1) j (by omega) jN
    have y5 : 3 ≤ tlen (Gm 4 i) (Gm 5 i) := by
      rw [g1]
      rcases g2 with z | z <;> rw [z] <;> decide
    omega
  rw [hw]
  unfold cb_X4_formal_133
  rcases hp with rfl | rfl
  · rw [if_pos c45]
    unfold cb_X4_formal_143
    refine JP.L (cp_addFormal kd F5 G5) ?_
    rintro r1 F1 G1 ⟨k1, ad⟩
    dsimp only
    refine JP.R (mp_decl0 x3 mk b (F6 53) mz 1 m46) ?_
    rintro _ _ _ ⟨rfl, rfl⟩
    dsimp only
    unfold cb_X4_formal_152
    have kcc : KX [9, 10, 11, 12, 13, 14] [] Fc Gc F5 G5 := KX.tr ka kc rfl rfl
    refine JP.ret (.inl ⟨kd, t, j, X, ⟨rfl, kd2, hkt⟩, (V5.tb0 k1).r53 (KX.f rfl KX.rf), ⟨ij, by rw [k1.1 10 rfl]; exact d10, tk, h5⟩, fun _ => ⟨KX.tr (KX.tr KX.rf kcc rfl rfl) k1 rfl rfl, ?_⟩, fun z => absurd z (by decide)⟩)
    intro f c h1 h2 h3 h4
    have := ad f c (by rw [kcc.1 74 rfl]; exact h1) h2 (by rw [kcc.1 85 rfl]; exact h3) h4
    rw [kcc.2 84 rfl, kcc.2 78 rfl, kcc.2 81 rfl] at this
    exact this
  · rw [if_neg (show ¬ F5 45 = 0 by rw [c45]; decide)]
    obtain ⟨r, kn, tw⟩ := KN rfl
    have ke : KX [9, 10, 11, 12, 13, 14, 49] [] F3 G3 (fup F5 49 (F5 49 + w)) G5 := KX.f rfl (KX.tr KX.rf kc rfl rfl)
    have kf : KX [49] [] F5 G5 (fup F5 49 (F5 49 + w)) G5 := KX.f rfl KX.rf
    have f49 : fup F5 49 (F5 49 + w) 49 = F5 49 + w := fup_s
    have cls : cb_X4_formal_153 fu (nI k) cid pl (nI (kd + 1)) F5 G5 = ((cf_X5_tell fu cid pl (nI (kd + 1)) (4 + F5 49 + F5 50) 0 (fup F5 49 (F5 49 + w)) G5).bind (fun q => cb_X5_tellFormal_35 fu q.2.1 q.2.2)).bind (fun q => cb_X4_formal_166 fu (nI k) pl q.2.1 q.2.2) := by
      unfold cb_X4_formal_153 cf_X5_tellFormal cb_X5_tellFormal_0 cf_X5_measure cb_X5_measure_0
      show (cb_X5_tellFormal_4 fu cid pl (nI (kd + 1)) (4 + F5 49 + F5 50) F5 G5).bind _ = _
      unfold cb_X5_tellFormal_4
      rcases hm with ⟨z1, -, -, z4⟩ | ⟨z1, -, -, z4⟩
      · rw [if_pos (show nI (kd + 1) = 1 by rw [z1]; decide), z4]
        rfl
      · rw [if_neg (show ¬ nI (kd + 1) = 1 from fun y => by have := nI_ij (a := kd + 1) (b := 1) y (by omega) (by omega); omega), z4]
        rfl
    rw [cls]
    generalize hFe : fup F5 49 (F5 49 + w) = Fe at ke kf f49
    obtain ⟨⟨k1, k2⟩, ⟨k3, k4'⟩, k5, k6, k7, k8⟩ := kn.kx ke rfl rfl
    have nh : ¬ jHre (q + t) (Fe 42) pl r G5 := fun z => nt rfl (tw.mpr (by
      obtain ⟨jj, z1, z2, z3, z4⟩ := z
      rw [ke.2 34 rfl, ke.1 42 rfl] at z3
      rw [ke.2 35 rfl, ke.2 36 rfl] at z4
      exact ⟨jj, z1, z2, z3, z4⟩))
    refine JP.LL (cp_tell cid pl (nI (kd + 1)) (4 + F5 49 + F5 50) 0 k1 (by omega) k3 k4' k5 k6 k7 k8) ?_
    rintro rt F7 G7 ⟨-, hi⟩
    have ins := hi nh
    show JP (cb_X4_formal_166 fu (nI k) pl F7 G7) _ _
    have kk4 := k4 rfl
    unfold cb_X4_formal_166
    rw [if_pos (show nI k < 4 from i_lt.mpr (by rw [nI_toInt (show k < 2 ^ 31 by omega)]; show (k : Int) < 4; omega))]
    unfold cb_X4_formal_182
    have SE6 := (V5.1.1.2.2.2.2.2 rfl).2.2.1
    refine JP.R (mp_decl x3 mk b (F6 53) mz 1 SE6.1 (by have := SE6.2.2.1; omega) (by rw [m46]; decide)) ?_
    rintro rd F8 G8 de
    dsimp only
    -- what is one's own
    obtain ⟨-, ⟨o1, o2, o3, o4, o5, o6, o7⟩, -⟩ := V5.2.2.2.2.2 rfl
    have c15 := V5.2.2.2.1.2.1
    have e49 : F5 49 = Fc 49 := (kc.1 49 rfl).trans (ka.1 49 rfl)
    have h49' := h49 rfl
    have wI : w.toInt = (if kd = 0 then 1 else 2 : Int) ∧ (0 : Int) ≤ w.toInt ∧ w.toInt ≤ 2 := by
      rcases hm with ⟨z1, -, -, z4⟩ | ⟨z1, -, -, z4⟩
      · rw [z4, if_pos z1]; decide
      · rw [z4, if_neg z1]; decide
    have a49 : (F5 49 + w).toInt = (F5 49).toInt + w.toInt := i_addn _ rfl (by omega) (by rw [e49]; omega)
    have c4 := jsC_4 X.2.2.1
    have lW : (jsW X.2.2.1 : Int) ≤ 208 := by
      rw [← o3, o2]
      omega
    obtain ⟨x, hx, jc, jw⟩ : ∃ x : Nat × Nat, ((kd = 0 ∧ x = (0, 1)) ∨ (¬ kd = 0 ∧ x = (kd + 2, 0))) ∧ ((joC x : Nat) : Int) = w.toInt ∧ ((joW x : Nat) : Int) = w.toInt := by
      rcases hm with ⟨z1, -, -, z4⟩ | ⟨z1, -, -, z4⟩
      · exact ⟨(0, 1), .inl ⟨z1, rfl⟩, by rw [z4]; decide, by rw [z4]; decide⟩
      · refine ⟨(kd + 2, 0), .inr ⟨z1, rfl⟩, ?_, ?_⟩
        · have : kd = 1 ∨ kd = 2 := by omega
          rcases this with y | y <;> rw [y, z4] <;> decide
        · have : kd = 1 ∨ kd = 2 := by omega
          rcases this with y | y <;> rw [y, z4] <;> decide
    have eC : jsC (X.2.2.1 ++ [x]) = jsC X.2.2.1 + joC x := by
      rw [jsC_app]
      show jsC X.2.2.1 + (joC x + 0) = _
      rw [Nat.add_zero]
    have eW : jsW (X.2.2.1 ++ [x]) = jsW X.2.2.1 + joW x := by
      rw [jsW_app]
      show jsW X.2.2.1 + (joW x + 0) = _
      rw [Nat.add_zero]
    have m4 : (4 + F5 49 + F5 50) = nI (4 + jsW X.2.2.1) := by
      refine i_eq.mpr ?_
      have y1 : (4 + F5 49).toInt = 4 + (F5 49).toInt := by
        have := i_addn (4 : Int32) (n := F5 49) (m := (F5 49).toInt) rfl (by show -2147483648 ≤ (4 : Int) + _; omega) (by show (4 : Int) + _ < _; omega)
        exact this
      have y2 : (4 + F5 49 + F5 50).toInt = (4 + F5 49).toInt + (F5 50).toInt := i_addn _ rfl (by rw [y1, o2]; omega) (by rw [y1, o2]; omega)
      rw [y2, y1, nI_toInt (show 4 + jsW X.2.2.1 < 2 ^ 31 by omega)]
      omega
    have m53 : F6 53 = nI (jsC X.2.2.1) := i_eq.mpr (by rw [o1, nI_toInt (show jsC X.2.2.1 < 2 ^ 31 by omega)])
    have lv : ¬ F6 15 = 0 := fun y => by rw [y] at c15; exact absurd c15 (by decide)
    have en : jEN X.2.1 (X.2.2.1 ++ [x]) (nI (kd + 1)) (4 + F5 49 + F5 50) 0 (F6 15) mk (F6 53) mz (vp_nar .boolean b) (vp_nar .boolean 1) := by
      rcases hx with ⟨z1, z2⟩ | ⟨z1, z2⟩
      · rcases hm with ⟨-, w1, w2, -⟩ | ⟨w1, -⟩
        · rcases hd with ⟨-, -, u3⟩ | ⟨u1, -⟩ | ⟨u1, -⟩
          · refine .inr (.inl ⟨by rw [z1]; decide, w1, by rw [u3]; decide, .inr ⟨lv, by decide, jsC X.2.2.1, jsW X.2.2.1, ⟨X.2.2.1, [], by rw [z2], rfl, rfl⟩, m53, m4⟩⟩)
          · omega
          · omega
        · exact absurd z1 w1
      · rcases hm with ⟨w1, -⟩ | ⟨-, w1, w2, -⟩
        · exact absurd w1 z1
        · refine .inr (.inr ⟨kd, by omega, rfl, w1, ?_, .inl ⟨lv, by decide, w2, rfl, jsC X.2.2.1, jsW X.2.2.1, ⟨X.2.2.1, [], by rw [z2], rfl, rfl⟩, m53, m4⟩⟩)
          rcases hd with ⟨u1, -⟩ | ⟨u1, -, u3⟩ | ⟨u1, -, u3⟩
          · exact absurd u1 z1
          · rw [u1, u3]; decide
          · rw [u1, u3]; decide
    have k8' : KX [53] [] F8 G8 (fup F8 53 (F8 53 + w)) G8 := KX.f rfl KX.rf
    have VD := jV.dclF (x := x) (n0 := i + 1) (i0 := i + 2) (F2' := F8) VA (V5.1.1.k49 kf) (V5.1.2.1.k49 kf) (by rw [kf.1 6 rfl]; exact V5.1.2.2) ins de k8' (KX.tr (KX.tr KX.rf ke rfl rfl) ins.1 rfl rfl) (KX.tr (KX.tr (KX.tr KX.rf km rfl rfl) de.1 rfl rfl) k8' rfl rfl) ?_ ?_ ?_ ij ⟨by omega, by omega, ?_, ?_, k3, k4', ?_, ?_, ?_⟩ ?_ en ⟨?_, ?_, ?_, ⟨?_, ?_⟩, ?_, ?_⟩
    · refine JP.ret (.inl ⟨kd, t + 1, j, _, ⟨rfl, kd2, hkt⟩, VD, ⟨ij, ?_, tk, h5⟩, fun z => absurd z (by decide), fun _ => ⟨kk4, hx2 rfl, ?_, ⟨⟨rfl, ⟨[], (List.append_nil _).symm⟩, ⟨[x], rfl⟩, rfl⟩, rfl⟩, ?_⟩⟩)
      · rw [ins.1.1 10 rfl, kf.1 10 rfl]
        exact d10
      · rw [ins.1.1 49 rfl, f49, a49, e49, wI.1]
      · show X.2.2.1 ++ [x] = X.2.2.1 ++ [if kd = 0 then (0, 1) else (kd + 2, 0)]
        rcases hx with ⟨z1, z2⟩ | ⟨z1, z2⟩
        · rw [z2, if_pos z1]
        · rw [z2, if_neg z1]
    · rw [ins.1.1 46 rfl, kf.1 46 rfl]; exact V5.x0
    · rw [k8'.1 54 rfl, de.1.1 54 rfl]; exact V5.2.1.2.1
    · exact ((V5.2.1.2.2.kx kf rfl).kx ins.1 rfl)
    · rw [x3n, g5]; exact e1
    · rw [x3n, g6]; exact e2
    · rw [g4, g5]
      refine ⟨by omega, ?_, ?_, g3, (sb rfl).1⟩
      · exact g1
      · rcases g2 with y | y
        · exact .inl y
        · exact .inr (.inl y)
    · rw [g5]; exact (sb rfl).2
    · rw [g4, g5]; exact ((V.2.2.2.2.2 rfl).2.2).le (by omega)
    · exact fun y => nt rfl (y.kx (km.1 15 rfl) (km.2 19 rfl) (km.2 16 rfl) (km.2 5 rfl) (km.2 25 rfl) (km.2 26 rfl) (km.2 6 rfl))
    · rw [fup_s, de.1.1 53 rfl, i_addn (m := w.toInt) _ rfl (by omega) (by omega), o1, eC]
      omega
    · rw [ins.1.1 50 rfl, kf.1 50 rfl, k8'.1 52 rfl, de.1.1 52 rfl]; exact o2
    · rw [ins.1.1 50 rfl, kf.1 50 rfl, ins.1.1 49 rfl, f49, a49, eW]
      omega
    · rw [ins.1.1 49 rfl, f49, a49]; omega
    · rw [ins.1.1 49 rfl, f49, a49, e49]; omega
    · rw [k8'.1 52 rfl, de.1.1 52 rfl]; exact o6
    · rw [k8'.1 52 rfl, de.1.1 52 rfl]; exact o7
end JV9
