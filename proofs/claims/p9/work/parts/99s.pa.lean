section G1Z
variable {fu : Nat} {rc : RC} {d : Nat}
theorem zt_argument (hfu : 8589934592 ≤ fu) (hr : ZI rc d) (x y : Int32) (F : PF) (G : PG) (h0 : YP F G) (hp : pS 0 x y F G) (hd : 7 * (40 - (F 43).toInt) + dS 0 ≤ d + 1) : WP (mh_argument fu rc x y F G) (fun r F1 G1 => ZQ 0 F G r F1 G1) := by
  have e0 : dS 0 = 7 := rfl
  have e4 : dS 4 = 6 := rfl
  have p1 := hp.1 (Or.inl rfl)
  have v0 := h0.v
  have q0 := YR.rf h0
  have yd := h0.2.2.2.2.2.2.2
  have f7 : (F 7).toInt ≤ 4000 := by have := h0.1.2.1; have := h0.1.2.2.2.1; omega
  have f42 := h0.2.2.1
  have exp : ∀ (F1 : PF) (G1 : PG), YR F G 0 0 F1 G1 → WP (rc 4 0 0 F1 G1) (fun r F2 G2 => (r = 0 ∨ r = 1) ∧ ZQ 0 F G r F2 G2) := by
    intro F1 G1 q1
    have a := q1.2.2.2.1
    have b := q1.2.2.2.2.2.1
    refine WP.mono (hr 4 0 0 F1 G1 (by decide) (q1.yp h0 (by decide)) ⟨fun _ => by rw [b]; omega, by rw [b]; omega, fun q => absurd q (by decide), fun q => absurd q (by decide), fun q => absurd q (by decide), fun q => absurd q (by decide)⟩ (by omega)) ?_
    rintro r F2 G2 (⟨rfl, q2⟩ | ⟨rfl, q2⟩)
    · exact ⟨Or.inr rfl, Or.inl ⟨rfl, (q1.tr q2).le (by decide)⟩⟩
    · exact ⟨Or.inl rfl, Or.inr ⟨rfl, YF.tr q1 q2⟩⟩
  have e12 : WP (mb_argument_12 fu rc F G) (fun r F1 G1 => ZQ 0 F G r F1 G1) := by
    unfold mb_argument_12
    refine WP.bind (exp F G q0) ?_
    rintro r F2 G2 ⟨h, q⟩
    dsimp only
    unfold mb_argument_16
    exact WP.bz h (WP.ret q)
  unfold mh_argument mb_argument_0
  refine WP.ite (fun c54 => ?_) (fun _ => e12)
  unfold mb_argument_7
  refine WP.ite (fun _ => e12) (fun cx => ?_)
  obtain ⟨hx, hy0, hy1⟩ := hp.2.2.2.2.1 rfl c54
  rcases hx with q | ⟨x0, x1, c46⟩
  · exact absurd q cx
  · have yf : 0 ≤ (G 27 x.toNatClampNeg).toInt ∧ 0 ≤ (G 31 x.toNatClampNeg).toInt ∧ (G 31 x.toNatClampNeg).toInt + (G 27 x.toNatClampNeg).toInt ≤ 900 := by
      rcases yd.2.2 with q | q
      · exact absurd q c46
      · exact q x.toNatClampNeg (by show ((x.toInt.toNat : Nat) : Int) < _; omega)
    have y24 := yd.2.1
    have vx : vp_in x 500 := vp_in_iff.mpr ⟨x0, by omega⟩
    unfold mb_argument_17
    refine WP.ix v0 (WP.ix vx (WP.ite (fun cy => ?_) (fun _ => ?_)))
    · have cy := i_lt.mp cy
      have ey : (G 31 x.toNatClampNeg + y).toInt = (G 31 x.toNatClampNeg).toInt + y.toInt := i_addn _ rfl (by omega) (by omega)
      unfold mb_argument_49
      refine WP.ix vx (WP.ix (vp_in_iff.mpr ⟨by omega, by omega⟩) (WP.ite (fun _ => ?_) (fun _ => ?_)))
      · unfold mb_argument_69
        refine WP.bind (exp F G q0) ?_
        rintro r F2 G2 ⟨h, q⟩
        dsimp only
        unfold mb_argument_73
        exact WP.bz h (WP.ret q)
      · generalize G 6 (F 42).toNatClampNeg = x3
        generalize G 34 (G 31 x.toNatClampNeg + y).toNatClampNeg = x4
        have nope : WP (mb_argument_138 fu rc x3 x4 F G) (fun r F1 G1 => ZQ 0 F G r F1 G1) := by
          unfold mb_argument_138 mb_argument_139
          rw [if_pos rfl]
          unfold mb_argument_146
          refine WP.bind (ws_note 7 _ (by decide)) ?_
          rintro r F1 G1 ⟨K, rfl⟩
          dsimp only
          unfold mb_argument_153
          refine WP.bind (exp F1 G (q0.kx K rfl rfl rfl rfl rfl rfl rfl rfl)) ?_
          rintro r F2 G2 ⟨h, q⟩
          dsimp only
          unfold mb_argument_157
          exact WP.bz h (WP.ret q)
        unfold mb_argument_74
        refine WP.ix v0 (WP.ite (fun c1 => ?_) (fun _ => nope))
        have kn := k_ne c1 (show ¬ (1 : Int32) = 0 by decide)
        obtain ⟨a1, a2, -⟩ := h0.1.adv f42.1 f42.2 kn
        have v1 : vp_in (F 42 + 1) 4002 := vp_in_iff.mpr ⟨by omega, by omega⟩
        have yes : WP (mb_argument_134 fu rc x3 x4 F G) (fun r F1 G1 => ZQ 0 F G r F1 G1) := by
          unfold mb_argument_134 mb_argument_139
          rw [if_neg (by decide)]
          unfold mb_argument_158
          refine WP.bind (ws_meaning hfu (F 42) v0 yd.1 yd.2.1) ?_
          rintro m F1 G1 ⟨rfl, K, hm, -⟩
          dsimp only
          have q1 := q0.kx K rfl rfl rfl rfl rfl rfl rfl rfl
          have hm := hm.v yd.1.2
          have fin : ∀ F2 : PF, YR F G 0 0 F2 G → F2 42 = F 42 → WP (mb_argument_236 fu rc m F2 G) (fun r F1 G1 => ZQ 0 F G r F1 G1) := by
            intro F2 q2 e42
            unfold mb_argument_236
            have q3 := q2.adv h0 (by rw [e42]; exact kn)
            generalize fup F2 42 (F2 42 + 1) = F3 at q3
            have st : ∀ z0 z1 : Int32, WP (mb_argument_282 fu rc m z0 z1 5 F3 G) (fun r F1 G1 => ZQ 0 F G r F1 G1) := by
              intro z0 z1
              unfold mb_argument_282
              refine WP.bind (q3.step h0 (by decide) 5 z1 z0) ?_
              rintro _ F4 G4 ⟨rfl, n4, -, q4⟩
              dsimp only
              have ret : ∀ z : Int32, WP (mb_argument_314 fu rc z (F3 60) F4 G4) (fun r F1 G1 => ZQ 0 F G r F1 G1) := by
                intro z
                unfold mb_argument_314 mb_argument_315
                exact WP.ix n4 (WP.ret (Or.inl ⟨rfl, (q4.patch (k := 59) (Or.inr rfl)).le (by decide)⟩))
              unfold mb_argument_285 mb_argument_299 mb_argument_313 mb_argument_309
              refine WP.ite (fun _ => ret _) (fun c => ?_)
              rcases hm with q | q
              · exact absurd q c
              · exact WP.ix (vp_in_iff.mpr ⟨q.1, by omega⟩) (WP.ite (fun _ => ret _) (fun _ => ret _))
            have s265 : ∀ z : Int32, WP (mb_argument_265 fu rc m z 5 F3 G) (fun r F1 G1 => ZQ 0 F G r F1 G1) := by
              intro z
              unfold mb_argument_265 mb_argument_271 mb_argument_275
              refine WP.ite (fun _ => st _ _) (fun c => ?_)
              rcases hm with q | q
              · exact absurd q c
              · exact WP.ix (vp_in_iff.mpr ⟨q.1, by omega⟩) (st _ _)
            unfold mb_argument_246 mb_argument_254 mb_argument_258
            refine WP.ite (fun _ => s265 _) (fun c => ?_)
            rcases hm with q | q
            · exact absurd q c
            · exact WP.ix (vp_in_iff.mpr ⟨q.1, by omega⟩) (s265 _)
          have e42 : F1 42 = F 42 := K.1 42 rfl
          have n229 : WP (mb_argument_229 fu rc x3 m F1 G) (fun r F1 G1 => ZQ 0 F G r F1 G1) := by
            unfold mb_argument_229
            refine WP.bind (ws_note 7 _ (by decide)) ?_
            rintro r F2 G2 ⟨K2, rfl⟩
            dsimp only
            exact fin F2 (q1.kx K2 rfl rfl rfl rfl rfl rfl rfl rfl) ((K2.1 42 rfl).trans e42)
          have n191 : WP (mb_argument_191 fu rc x3 x4 m F1 G) (fun r F1 G1 => ZQ 0 F G r F1 G1) := by
            unfold mb_argument_191
            refine WP.ite (fun _ => n229) (fun c => ?_)
            rcases hm with q | q
            · exact absurd q c
            · have vm : vp_in m 900 := vp_in_iff.mpr ⟨q.1, by omega⟩
              have n226 : ∀ z0 z1 : Int32, WP (mb_argument_226 fu rc x3 m z0 z1 F1 G) (fun r F1 G1 => ZQ 0 F G r F1 G1) := by
                intro z0 z1
                unfold mb_argument_226
                exact WP.ite (fun _ => fin F1 q1 e42) (fun _ => n229)
              unfold mb_argument_197 mb_argument_208 mb_argument_221 mb_argument_225
              exact WP.ix vm (WP.ite (fun _ => WP.ix vm (WP.ite (fun _ => n226 _ _) (fun _ => n226 _ _))) (fun _ => n229))
          unfold mb_argument_166
          refine WP.ite (fun _ => ?_) (fun _ => n191)
          unfold mb_argument_174
          refine WP.ite (fun _ => ?_) (fun _ => n191)
          unfold mb_argument_182
          refine WP.bind (ws_note 4 _ (by decide)) ?_
          rintro r F2 G2 ⟨K2, rfl⟩
          dsimp only
          unfold mb_argument_188
          exact fin F2 (q1.kx K2 rfl rfl rfl rfl rfl rfl rfl rfl) ((K2.1 42 rfl).trans e42)
        unfold mb_argument_87
        refine WP.ix v1 (WP.ite (fun _ => ?_) (fun _ => nope))
        unfold mb_argument_102 mb_argument_118
        exact WP.ix v1 (WP.ite (fun _ => yes) (fun _ => WP.ix v1 (WP.ite (fun _ => yes) (fun _ => nope))))
    · unfold mb_argument_37
      refine WP.bind (ws_note 7 _ (by decide)) ?_
      rintro r F1 G1 ⟨K, rfl⟩
      dsimp only
      unfold mb_argument_44
      refine WP.bind (exp F1 G (q0.kx K rfl rfl rfl rfl rfl rfl rfl rfl)) ?_
      rintro r F2 G2 ⟨h, q⟩
      dsimp only
      unfold mb_argument_48
      exact WP.bz h (WP.ret q)
/-- along a chain: j operators wait -/
def CW (F0 : PF) (G0 : PG) (j : Nat) (F : PF) (G : PG) : Prop := KX [42, 43, 44, 45, 47, 48, 49, 55, 60, 62, 70] [56, 57, 58, 59, 67, 68, 69] F0 G0 F G ∧ F 44 = 0 ∧ (0 ≤ (F 42).toInt ∧ (F 42).toInt ≤ (F0 7).toInt) ∧ F 43 = F0 43 ∧ 0 ≤ (F 60).toInt ∧ (F 70).toInt = (F0 70).toInt + j ∧ ((F 60).toInt + 3 * j + 2 * tT F0 G0 ≤ (F0 60).toInt + 2 * tT F G - 1 ∧ (F0 42).toInt ≤ (F 42).toInt) ∧ lvOK G (F0 70).toInt.toNat j ∧ ∀ i, i < j → (G 68 ((F0 70).toInt.toNat + i)).toInt ≤ 1 → vp_in (G 69 ((F0 70).toInt.toNat + i)) 9000
theorem lv_cnt {G : PG} {b j : Nat} (h : lvOK G b j) : ∀ i, i < j → (i : Int) ≤ (G 68 (b + i)).toInt := by
  intro i
  induction i with
  | zero => intro hi; exact (h 0 hi).1
  | succ i ih =>
    intro hi
    have a := ih (by omega)
    have b := (h i (by omega)).2.2 hi
    omega
theorem CW.v {F0 F : PF} {G0 G : PG} {j : Nat} (h : CW F0 G0 j F G) (h0 : YP F0 G0) : (F 60).toInt + 3 * j ≤ 8600 ∧ vp_in (F 42) 4002 ∧ TBL F G := by
  obtain ⟨K, h44, h42, h43, h60, h70, hΦ, -⟩ := h
  obtain ⟨p1, p2, p3, p4, p5, p6, p7, p8⟩ := h0
  have T1 := p1.kx K rfl rfl rfl rfl rfl
  have t1 : tT F G ≤ 4000 := (T1.rng h42.1 (by rw [K.1 7 rfl]; exact h42.2)).2
  have := p1.2.1
  have := p1.2.2.2.1
  exact ⟨by omega, vp_in_iff.mpr ⟨h42.1, by omega⟩, T1⟩
theorem wz_binds {F0 F : PF} {G0 G : PG} {j : Nat} (h : CW F0 G0 (j + 1) F G) (h0 : YP F0 G0) (hb : (F0 70).toInt + (j + 1) ≤ 500) : WP (mf_binds fu F G) (fun _ F1 G1 => CW F0 G0 j F1 G1) := by
  have hv := h.v h0
  obtain ⟨K, h44, h42, h43, h60, h70, hΦ, hl, hs⟩ := h
  have p6 := h0.2.2.2.2.2.1
  have e70 : (F 70 - 1).toInt = (F 70).toInt - 1 := i_dec (by omega)
  have ix : (F 70 - 1).toNatClampNeg = (F0 70).toInt.toNat + j := by show (F 70 - 1).toInt.toNat = _; omega
  have v70 : vp_in (F 70 - 1) 600 := vp_in_iff.mpr ⟨by omega, by omega⟩
  have lj : lvOK G (F0 70).toInt.toNat j := fun i hi => ⟨(hl i (by omega)).1, (hl i (by omega)).2.1, fun q => (hl i (by omega)).2.2 (by omega)⟩
  unfold mf_binds mb_binds_0 mb_binds_10
  refine WP.ix v70 (WP.ite (fun c => ?_) (fun c => ?_))
  · have c1 : (G 68 ((F0 70).toInt.toNat + j)).toInt ≤ 1 := by
      rw [← ix]
      exact i_le.mp c
    have pj := hs j (by omega) c1
    unfold mb_binds_43
    refine WP.bind (ws_step 23 0 0 (show vp_in (F 60) 9000 from vp_in_iff.mpr ⟨h60, by omega⟩)) ?_
    rintro _ F1 G1 ⟨K1, rfl, e1, g1, n1⟩
    dsimp only
    have i1 : (F1 60).toInt = (F 60).toInt + 1 := by
      rw [e1]
      exact i_addn (F 60) rfl (by omega) (by omega)
    unfold mb_binds_51
    refine WP.bind (ws_step 12 0 0 (vp_in_iff.mpr ⟨by omega, by omega⟩)) ?_
    rintro _ F2 G2 ⟨K2, rfl, e2, g2, n2⟩
    dsimp only
    have i2 : (F2 60).toInt = (F 60).toInt + 2 := by
      rw [e2]
      have := i_addn (F1 60) (n := 1) (m := 1) rfl (by omega) (by omega)
      omega
    have q70 : F2 70 = F 70 - 1 := (K2.1 70 rfl).trans (K1.1 70 rfl)
    have q69 : G2 69 = G 69 := (K2.2 69 rfl).trans (K1.2 69 rfl)
    unfold mb_binds_60
    refine WP.ix (by rw [q70]; exact v70) (WP.ix (by rw [q69, q70, ix]; exact pj) ?_)
    unfold mb_binds_79
    refine WP.bind (ws_step 0 _ 0 (vp_in_iff.mpr ⟨by omega, by omega⟩)) ?_
    rintro _ F3 G3 ⟨K3, rfl, e3, g3, n3⟩
    dsimp only
    have i3 : (F3 60).toInt = (F 60).toInt + 3 := by
      rw [e3]
      have := i_addn (F2 60) (n := 1) (m := 1) rfl (by omega) (by omega)
      omega
    unfold mb_binds_88
    refine WP.ix n2 ?_
    unfold mb_binds_99
    have KK : KX [60, 70] [56, 57, 58] F G F3 (gup G3 57 (F1 60).toNatClampNeg (F3 60)) := KX.g rfl (KX.tr (KX.g (k := 57) rfl (KX.tr (KX.tr (KX.f (k := 70) rfl KX.rf) K1 rfl rfl) K2 rfl rfl)) K3 rfl rfl)
    have f70 : F3 70 = F 70 - 1 := (K3.1 70 rfl).trans q70
    have tt : tT F3 (gup G3 57 (F1 60).toNatClampNeg (F3 60)) = tT F G := by unfold tT; rw [KK.1 42 rfl, KK.2 6 rfl]
    refine WP.ret ⟨KX.tr K KK rfl rfl, by rw [KK.1 44 rfl]; exact h44, by rw [KK.1 42 rfl]; exact h42, by rw [KK.1 43 rfl]; exact h43, by omega, by rw [f70]; omega, ?_, ?_, ?_⟩
    · rw [tt, KK.1 42 rfl]
      omega
    · unfold lvOK
      rw [KK.2 68 rfl]
      exact lj
    · rw [KK.2 68 rfl, KK.2 69 rfl]
      exact fun i hi => hs i (by omega)
  · unfold mb_binds_25
    refine WP.ix v70 (WP.bind (ws_step 10 _ 0 (show vp_in (F 60) 9000 from vp_in_iff.mpr ⟨h60, by omega⟩)) ?_)
    rintro _ F1 G1 ⟨K1, rfl, e1, g1, n1⟩
    dsimp only
    have i1 : (F1 60).toInt = (F 60).toInt + 1 := by
      rw [e1]
      exact i_addn (F 60) rfl (by omega) (by omega)
    unfold mb_binds_41
    have KK : KX [60, 70] [56, 57, 58] F G F1 G1 := KX.tr (KX.f (k := 70) rfl KX.rf) K1 rfl rfl
    have f70 : F1 70 = F 70 - 1 := K1.1 70 rfl
    have tt : tT F1 G1 = tT F G := by unfold tT; rw [KK.1 42 rfl, KK.2 6 rfl]
    refine WP.ret ⟨KX.tr K KK rfl rfl, by rw [KK.1 44 rfl]; exact h44, by rw [KK.1 42 rfl]; exact h42, by rw [KK.1 43 rfl]; exact h43, by omega, by rw [f70]; omega, ?_, ?_, ?_⟩
    · rw [tt, KK.1 42 rfl]
      omega
    · unfold lvOK
      rw [KK.2 68 rfl]
      exact lj
    · rw [KK.2 68 rfl, KK.2 69 rfl]
      exact fun i hi => hs i (by omega)
end G1Z
