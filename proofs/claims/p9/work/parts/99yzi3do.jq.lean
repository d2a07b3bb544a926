theorem jN1.k {G G1 : PG} {s : Nat} (e : G1 34 = G 34) : ∀ c : Nat, jN1 G1 s c = jN1 G s c := by
  intro c
  induction c with
  | zero => rfl
  | succ c ih =>
    unfold jN1
    rw [ih, e]
theorem jW1.fl {G G2 : PG} {s : Nat} : ∀ c : Nat, (∀ j : Nat, j < c → ∃ k : Nat, k ≤ 2 ∧ G2 34 (s + j) = nI k ∧ G 84 (s + j) = nI (k + 1)) → jW1 G s c = jsW (jFl ((List.range c).map (fun j => (G2 34 (s + j)).toInt.toNat))) := by
  intro c
  induction c with
  | zero => intro _; rfl
  | succ c ih =>
    intro h
    have i1 := ih (fun j hj => h j (by omega))
    obtain ⟨k, k1, k2, k3⟩ := h c (by omega)
    have kI : (nI k).toInt.toNat = k := by rw [nI_toInt (by omega)]; omega
    rw [List.range_succ, List.map_append, jFl_app, jsW_app]
    unfold jW1
    rw [i1]
    show _ = _ + jsW (jFl [(G2 34 (s + c)).toInt.toNat])
    rw [k2, kI, k3]
    rcases (show k = 0 ∨ k = 1 ∨ k = 2 by omega) with e | e | e <;> subst e
    · rw [if_pos (show nI (0 + 1) = 1 from rfl)]; rfl
    · rw [if_neg (show ¬ nI (1 + 1) = 1 by decide)]; rfl
    · rw [if_neg (show ¬ nI (2 + 1) = 1 by decide)]; rfl
/-- what both know of a text that was read, with its first words -/
def jXz (gl : JLY) (K : Nat → List Nat) (nf : Nat) (F1 : PF) (G1 : PG) (F2 : PF) (G2 : PG) : Prop := jTz gl K nf F1 G1 F2 G2 ∧ jF0 gl (G1 86) (G2 41) ∧ F2 36 = F1 75 ∧ (F1 75).toInt = jsW gl ∧ jL0 gl (G2 38) (G2 39) (G2 40)
/-- both between calls -/
def jU8 (Fc : PF) (Gc : PG) (Fm : PF) (Gm : PG) : Prop := ∃ (gl : JLY) (K : Nat → List Nat) (nf : Nat), (Fm 73 = 1 → jXz gl K nf Fc Gc Fm Gm) ∧ jBt gl K nf Fc Gc Fm Gm
section JQO
variable {fu f nf : Nat} {x : Int32} {gl : JLY} {K : Nat → List Nat} {a b c d : List Nat} {r1 r2 : Int32} {Fc Fm F1 F2 F3 F4 : PF} {Gc Gm G G1 G2 G3 G4 : PG}
/-- a read tells both the same -/
theorem jXz.of (h : jTab f F1 G1 F2 G2) (w : jFW F1 G1) (hy : ∃ y : Nat, y < f ∧ F1 76 = nI y ∧ F2 74 = nI y) : ∃ (gl : JLY) (K : Nat → List Nat), jXz gl K f F1 G1 F2 G2 := by
  obtain ⟨b1, b2, b3, b4, gl, K, ⟨d1, d2, d3⟩, d4, d5, d6⟩ := h
  refine ⟨gl, K, ⟨⟨b1, b2, d5.2.1⟩, ⟨d2, d3⟩, fun g hg => ?_, d4, hy⟩, d6.1, b3, d1, d6.2⟩
  obtain ⟨t1, t2, t3, t4⟩ := b4 g hg
  obtain ⟨-, -, u3, u4, u5, u6, u7, u8, u9⟩ := d5.2.2 g hg
  obtain ⟨s, c, w1, w2, w3, -, w5⟩ := w.2.2 g (by omega)
  have w85 := w.2.1
  have e1 : s = (G2 31 g).toInt.toNat := nI_ij (w1.symm.trans (u4.trans (jnI u6).symm)) (by omega) (by omega)
  have e2 : c = (G2 27 g).toInt.toNat := nI_ij (w2.symm.trans (u3.trans (jnI u5).symm)) (by omega) (by omega)
  have q := jN1.fl (G := G2) (s := (G2 31 g).toInt.toNat) (G2 27 g).toInt.toNat (fun j hj => by
    obtain ⟨k, k1, k2, -⟩ := u8 j (by omega)
    exact ⟨k, k1, k2⟩)
  refine ⟨t4, t2, ?_, by rw [u9]; exact q.2, (G2 31 g).toInt.toNat, (G2 27 g).toInt.toNat, (jnI u6).symm, (jnI u5).symm, by omega, by rw [u9]; exact q.1⟩
  rw [w5, u9, e1, e2]
  exact congrArg nI (jW1.fl (G := G1) (G2 := G2) _ (fun j hj => u8 j (by omega)))
theorem jXz.k (h : jXz gl K nf Fc Gc Fm Gm) (kc : KX a b Fc Gc F1 G1) (km : KX c d Fm Gm F2 G2) (e1 : (a.contains 74 || a.contains 75 || a.contains 76 || a.contains 6 || b.contains 5 || b.contains 77 || b.contains 79 || b.contains 80 || b.contains 81 || b.contains 86) = false) (e2 : (c.contains 24 || c.contains 37 || c.contains 74 || c.contains 36 || c.contains 60 || d.contains 26 || d.contains 27 || d.contains 28 || d.contains 29 || d.contains 30 || d.contains 31 || d.contains 34 || d.contains 41 || d.any (fun a => decide (56 ≤ a) && decide (a ≤ 59)) || d.contains 38 || d.contains 39 || d.contains 40) = false) : jXz gl K nf F1 G1 F2 G2 := by
  simp only [Bool.or_eq_false_iff] at e1 e2
  obtain ⟨⟨⟨⟨⟨⟨⟨⟨⟨a1, a2⟩, a3⟩, a4⟩, a5⟩, a6⟩, a7⟩, a8⟩, a9⟩, a10⟩ := e1
  obtain ⟨⟨⟨⟨⟨⟨⟨⟨⟨⟨⟨⟨⟨⟨⟨⟨c1, c2⟩, c3⟩, c4⟩, c5⟩, c6⟩, c7⟩, c8⟩, c9⟩, c10⟩, c11⟩, c12⟩, c13⟩, c14⟩, c15⟩, c16⟩, c17⟩ := e2
  obtain ⟨⟨t1, t2, tb, tc, y, y1, y2, y3⟩, f0, b36, b75, l0⟩ := h
  refine ⟨⟨?_, ?_, fun g hg => ?_, fun g hg => ?_, y, y1, by rw [kc.1 76 a3]; exact y2, by rw [km.1 74 c3]; exact y3⟩, ?_, ?_, ?_, by rw [km.2 38 c15, km.2 39 c16, km.2 40 c17]; exact l0⟩
  · rw [kc.1 74 a1, km.1 24 c1]; exact t1
  · rw [km.1 37 c2]; exact t2
  · obtain ⟨v1, v2, v3, v4, s, c, v5, v6, v7, v8⟩ := tb g hg
    rw [kc.2 79 a7, km.2 28 c8, kc.2 77 a6, km.2 26 c6, kc.2 81 a9]
    exact ⟨v1, v2, v3, v4, s, c, by rw [km.2 31 c11]; exact v5, by rw [km.2 27 c7]; exact v6, v7, (jN1.k (km.2 34 c12) c).trans v8⟩
  · have w := (tc g hg).ext (ml := []) (jCB.of (km.1 60 c5) (kc.1 6 a4) (kc.2 5 a5) (fun k l u => km.rg c14 k l u)) (by rw [km.2 28 c8]) (by rw [km.2 29 c9]) (by rw [km.2 30 c10]) (by rw [kc.2 80 a8])
    rw [List.append_nil] at w
    exact w
  · rw [kc.2 86 a10, km.2 41 c13]; exact f0
  · rw [kc.1 75 a2, km.1 36 c4]; exact b36
  · rw [kc.1 75 a2]; exact b75
theorem jBr.k (h : jBr (jSS gl K nf (sN Fm) (wN Fc) Gc Gm) gl Fc Gc Fm Gm) (kc : KX [2, 3, 4, 70, 88] [0, 1, 68, 87] Fc Gc F1 G1) (km : KX [2, 80, 96] [0, 88, 94, 95] Fm Gm F2 G2) : jBr (jSS gl K nf (sN F2) (wN F1) G1 G2) gl F1 G1 F2 G2 := by
  obtain ⟨⟨b64, b67⟩, ou, b59, gm, pv, go⟩ := h
  have eS : sN F2 = sN Fm := by show (F2 60).toNatClampNeg = _; rw [km.1 60 rfl]
  have eW : wN F1 = wN Fc := by show (F1 6).toNatClampNeg = _; rw [kc.1 6 rfl]
  refine ⟨⟨by rw [kc.1 64 rfl, km.1 77 rfl]; exact b64, by rw [kc.1 67 rfl, km.1 84 rfl]; exact b67⟩, ?_, by rw [kc.1 59 rfl, km.1 83 rfl]; exact b59, ?_, ?_, fun z => ?_⟩
  · unfold jOu
    rw [kc.1 72 rfl, km.1 79 rfl, kc.2 71 rfl, km.2 89 rfl]
    exact ou
  · unfold jGm
    rw [km.2 90 rfl, kc.2 54 rfl]
    exact gm
  · unfold jPv
    rw [km.1 75 rfl, kc.1 66 rfl, km.1 82 rfl, kc.1 65 rfl, km.1 81 rfl]
    exact pv
  · rw [km.1 75 rfl] at z
    rw [kc.1 60 rfl, km.1 85 rfl, km.1 83 rfl, km.1 72 rfl, kc.1 56 rfl, eS, eW]
    rcases go z with w | ⟨w1, w2⟩
    · exact .inl w
    · refine .inr ⟨w1, jRg.fr (jRg.mS (fun g a b mu A le q => ⟨q.1, q.2.k (kc.2 5 rfl) (kc.2 80 rfl) (km.2 28 rfl) (km.2 29 rfl) (km.2 30 rfl) (KX.c km rfl rfl rfl rfl)⟩) w2) (kc.1 300 rfl) ⟨kc.1 56 rfl, kc.1 57 rfl, kc.1 58 rfl, kc.1 59 rfl, kc.2 54 rfl, kc.2 55 rfl⟩ ⟨km.1 72 rfl, km.1 76 rfl, km.1 83 rfl, km.1 85 rfl, km.1 86 rfl, km.1 87 rfl⟩ ⟨km.2 71 rfl, km.2 90 rfl, km.2 91 rfl, km.2 92 rfl, km.2 93 rfl⟩⟩
/-- calls that have nothing to do with it -/
theorem jU8.keep (h : jU8 Fc Gc Fm Gm) (kc : KX [2, 3, 4, 88] [0, 1, 87] Fc Gc F1 G1) (km : KX [2, 96] [0, 94, 95] Fm Gm F2 G2) : jU8 F1 G1 F2 G2 := by
  obtain ⟨gl, K, nf, hx, b63, ip, br⟩ := h
  refine ⟨gl, K, nf, fun z => (hx (by rw [km.1 73 rfl] at z; exact z)).k kc km rfl rfl, by rw [kc.1 63 rfl, km.1 75 rfl]; exact b63, ?_, ?_⟩
  · unfold jIp
    rw [kc.1 70 rfl, km.1 80 rfl, kc.1 69 rfl, kc.2 68 rfl, km.2 88 rfl]
    exact ip
  · rcases br with br | br
    · exact .inl (by rw [km.1 75 rfl, kc.1 72 rfl, km.1 79 rfl]; exact br)
    · exact .inr (br.k (kc.sub rfl rfl) (km.sub rfl rfl))
theorem mod5 {m : Nat} (h : m < 1000) : nI m - nI m / 500 * 500 = nI (m % 500) := by
  have : ∀ m : Nat, m < 1000 → nI m - nI m / 500 * 500 = nI (m % 500) := by decide +kernel
  exact this m h
/-- give -/
theorem same_give (e73 : Fc 73 = Fm 73) (h : jU8 Fc Gc Fm Gm) : JP (cf_X11_give fu x Fc Gc) (mf_give fu x Fm Gm) (fun r1 F1 G1 r2 F2 G2 => r1 = r2 ∧ jU8 F1 G1 F2 G2) := by
  have l5 : (500 : Int32).toInt = 500 := rfl
  unfold cf_X11_give cb_X11_give_0 cb_X11_give_21 mf_give mb_give_0 mb_give_17
  rw [e73]
  by_cases c0 : Fm 73 = 0
  · rw [if_pos c0, if_pos c0]
    exact JP.ret ⟨rfl, h⟩
  rw [if_neg c0, if_neg c0]
  obtain ⟨gl, K, nf, hx, b63, ⟨c, f, i1, i2, i3, i4, i5, i6⟩, br⟩ := id h
  have cI : (nI c).toInt = c := nI_toInt (by omega)
  unfold cb_X11_give_10 cf_X7_takes cb_X7_takes_0 cb_X7_takes_10 mb_give_7 mb_give_17
  rw [i1, i2]
  by_cases c5 : c = 500
  · rw [if_neg (show ¬ nI c < 500 from fun z => by have := i_lt.mp z; omega), if_pos (show nI c = 500 by rw [c5]; rfl)]
    show JP (cb_X11_give_18 fu 0 Fc Gc) _ _
    unfold cb_X11_give_18 cb_X11_give_21
    rw [if_pos rfl]
    exact JP.ret ⟨rfl, h⟩
  · have cl : c < 500 := by omega
    rw [if_pos (show nI c < 500 from i_lt.mpr (by omega)), if_neg (show ¬ nI c = 500 from fun z => c5 (by have := congrArg Int32.toInt z; omega))]
    unfold cb_X7_takes_12 mb_give_19
    have ei : Fc 69 + Fc 70 - (Fc 69 + Fc 70) / 500 * 500 = nI ((f + c) % 500) := by
      rw [i1, i3, nI_add]
      exact mod5 (by omega)
    rw [ei, nI_c _ (by omega)]
    refine JP.ixLL (fun _ => ?_)
    rw [i2, nI_c _ (by omega)]
    refine JP.ixR (fun _ => ?_)
    unfold cb_X7_takes_31 cb_X7_takes_41 mb_give_29 mb_give_39
    show JP (cb_X11_give_18 fu 1 _ _) _ _
    unfold cb_X11_give_18 cb_X11_give_23
    rw [if_neg i10n]
    dsimp only
    have kc : KX [70] [68] Fc Gc (fup Fc 70 (Fc 70 + 1)) (gup Gc 68 ((f + c) % 500) x) := KX.f rfl (KX.g rfl KX.rf)
    have km : KX [80] [88] Fm Gm (fup Fm 80 (Fm 80 + 1)) (gup Gm 88 c x) := KX.f rfl (KX.g rfl KX.rf)
    have v1 : fup Fc 70 (Fc 70 + 1) 70 = nI (c + 1) := by rw [fup_s, i1, nI_s c (by omega)]
    have v2 : fup Fm 80 (Fm 80 + 1) 80 = nI (c + 1) := by rw [fup_s, i2, nI_s c (by omega)]
    refine JP.ret ⟨v1.trans v2.symm, gl, K, nf, fun z => (hx (by rw [km.1 73 rfl] at z; exact z)).k kc km rfl rfl, by rw [kc.1 63 rfl, km.1 75 rfl]; exact b63, ⟨c + 1, f, v1, v2, by rw [kc.1 69 rfl]; exact i3, i4, by omega, fun i hi => ?_⟩, ?_⟩
    · show gup Gc 68 ((f + c) % 500) x 68 ((f + i) % 500) = gup Gm 88 c x 88 i
      by_cases e : i = c
      · rw [e, gup_i, gup_i]
      · rw [gup_x (show (f + i) % 500 ≠ (f + c) % 500 by omega), gup_x e]
        exact i6 i (by omega)
    · rcases br with br | br
      · exact .inl (by rw [km.1 75 rfl, kc.1 72 rfl, km.1 79 rfl]; exact br)
      · exact .inr (br.k (kc.sub rfl rfl) (km.sub rfl rfl))
end JQO
