section JVI
variable {fu : Nat} {X : JCX} {N K n q nf t f n0 : Nat} {φ : Nat → Nat} {cid pl gv xv : Int32} {Fa Fb F1 F2 : PF} {Ga Gb G1 : PG} {g kc : Int32 × PF × PG → PR} {Q : Int32 → PF → PG → Int32 → PF → PG → Prop}
/-- a function begins, in the second pass -/
theorem jGs.fun1 (T : jGs X 1 N K n q nf t (n0 + 1) f φ Fa Ga Fb Gb) (hf : f < nf) (hφ : φ f = n0) (hgv : (Gb 5 (n0 - 1) = 0 ∧ gv = 1) ∨ (Gb 5 (n0 - 1) = 2 ∧ gv = 0)) (kc : KX [42, 48, 49, 50] [80] Fa Ga F1 G1) (km : KX [15, 50, 51, 52, 53, 61, 63, 64] [] Fb Gb F2 Gb) (e42 : F1 42 = 1) (e15 : F2 15 = 1) (e48 : F1 48 = gv) (e49 : F1 49 = 0) (e50 : F1 50 = 0) (m50 : F2 50 = nI f) (m51 : F2 51 = 0) (m52 : F2 52 = 0) (m53 : F2 53 = 0) : jV X 1 N K n q nf t (n0 + 1) F1 G1 F2 Gb := by
  obtain ⟨⟨⟨h1, h2, h3, h4, h5, h6⟩, D, R⟩, ⟨a1, a2, a3, a4⟩, ⟨b1, b2, b3⟩, ⟨c1, c2⟩, PO, t0, t1⟩ := T
  have z0 : (0 : Int32).toInt = 0 := rfl
  have z1 : (1 : Int32).toInt = 1 := rfl
  have jN : n0 + 1 ≤ N := D.1.1
  have n4 := h1.1
  have nfl := (h6 rfl).2.2.2.2.2.2.1
  refine ⟨⟨⟨h1.keep (kc.1 93 rfl) (kc.2 90 rfl) (kc.2 91 rfl) (kc.2 92 rfl) (km.1 7 rfl) (km.1 8 rfl) rfl rfl rfl, h2, ?_, ?_, ?_, fun _ => ?_⟩, ?_, ?_⟩, ⟨⟨a1, ?_, a4.kx kc rfl⟩, ?_, ?_, fun z => absurd z (by decide), fun _ => ?_⟩⟩
  · rw [km.1 46 rfl, kc.1 45 rfl, kc.1 7 rfl]; exact h3
  · rw [km.1 54 rfl, kc.1 46 rfl]; exact h4
  · rw [km.1 54 rfl]; exact h5
  · obtain ⟨g1, SA, ⟨s1, s2, s3, s4, s5, s6⟩, SU, SL, FT⟩ := h6 rfl
    refine ⟨by rw [km.1 54 rfl]; exact g1, ?_, ⟨by rw [km.1 14 rfl]; exact s1, by rw [kc.1 41 rfl]; exact s2, s3, by rw [e42, e15], by rw [e15]; decide, fun k hk => ?_⟩, SU, ?_, ?_⟩
    · unfold jSA at SA ⊢
      rw [km.1 24 rfl, kc.2 35 rfl, kc.2 34 rfl, kc.2 37 rfl, kc.2 33 rfl, kc.2 36 rfl]
      exact SA
    · obtain ⟨u1, u2, u3, u4, u5, u6⟩ := s6 k hk
      rw [kc.2 33 rfl, kc.2 34 rfl, kc.2 36 rfl, kc.2 35 rfl, kc.2 37 rfl, kc.2 38 rfl]
      refine ⟨u1, u2, u3, u4, ⟨u5.1, ?_⟩, u6⟩
      have := u5.2
      rw [b3, z0] at this
      rw [e15, z1]
      omega
    · unfold jSL at SL ⊢
      rw [kc.2 33 rfl, kc.2 39 rfl, kc.2 40 rfl]
      exact SL
    · unfold jFT at FT ⊢
      rw [kc.1 74 rfl, kc.2 82 rfl, kc.2 77 rfl, kc.2 78 rfl, kc.2 83 rfl, kc.2 84 rfl]
      exact FT
  · unfold jD CU at D ⊢
    rw [kc.1 9 rfl, kc.1 10 rfl, kc.1 11 rfl, kc.1 12 rfl, kc.1 13 rfl, kc.1 14 rfl, kc.1 43 rfl, kc.1 47 rfl, kc.1 21 rfl, kc.1 6 rfl, km.1 42 rfl, km.1 43 rfl, km.1 44 rfl, km.1 47 rfl, km.1 60 rfl, km.1 70 rfl, kc.2 90 rfl, kc.2 91 rfl, kc.2 92 rfl]
    exact D
  · rw [kc.1 6 rfl]; exact R
  · rw [km.1 54 rfl]; exact a3
  · rw [kc.1 29 rfl, m51, b1, z0]
    exact ⟨rfl, by omega, by omega⟩
  · rw [e42, e15, z1]
    exact ⟨rfl, by omega, by omega⟩
  · obtain ⟨p1, p2⟩ := t1 rfl
    have po := PO.1 f hf
    refine ⟨?_, ⟨?_, ?_, ?_, ?_, ?_, ?_, ?_⟩, p1⟩
    · rw [m50, nI_c f (by omega), e48]
      have q1 := po.2.2.1
      rw [hφ] at q1
      rcases q1 with ⟨y1, y2⟩ | ⟨y1, y2⟩
      · rcases hgv with ⟨v1, v2⟩ | ⟨v1, v2⟩
        · exact .inl ⟨y2, v2⟩
        · rw [y1] at v1
          exact absurd v1 (by decide)
      · rcases hgv with ⟨v1, v2⟩ | ⟨v1, v2⟩
        · rw [y1] at v1
          exact absurd v1 (by decide)
        · exact .inr ⟨by rw [y2]; decide, v2⟩
    · rw [m53, a2]; rfl
    · rw [e50, m52]
    · rw [e49, e50, a2]; rfl
    · rw [e49, z0]; omega
    · rw [e49, z0]; omega
    · rw [m52, z0]; omega
    · rw [m52, z0]; omega
/-- the head of a function, in the second pass -/
theorem jt_fhead1 (hQ : ∀ (r1 : Int32) (F1 : PF) (G1 : PG) (r2 : Int32) (F2 : PF) (G2 : PG), jEnd F1 F2 → Q r1 F1 G1 r2 F2 G2) (hkc : ∀ (F0 : PF) (r : Int32) (F : PF) (G : PG), CFS F0 F → PP (kc (r, F, G)) (fun _ F' _ => CFS F0 F')) (hg : ∀ (F0 : PF) (r : Int32) (F : PF) (G : PG), MFS F0 F → PP (g (r, F, G)) (fun _ F' _ => MFS F0 F')) (T : jGs X 1 N K n q nf t (n0 + 1) f φ Fa Ga Fb Gb) (hc : cid = Gb 5 n0) (hpl : pl = Gb 6 n0) (hf : f < nf) (hφ : φ f = n0) (hgv : (Gb 5 (n0 - 1) = 0 ∧ gv = 1) ∨ (Gb 5 (n0 - 1) = 2 ∧ gv = 0))
    (H : ∀ (F3 : PF) (G3 : PG) (F4 : PF), jV X 1 N K n q nf t (n0 + 1) F3 G3 F4 Gb → (F4 15 = 1 ∧ F3 49 = 0 ∧ F4 51 = 0) → (G3 80 f = Fa 6 ∧ ∀ y : Nat, y ≠ f → G3 80 y = Ga 80 y) → KX [42, 48, 49, 50] [80] Fa Ga F3 G3 → KX [15, 50, 51, 52, 53, 61, 63, 64] [] Fb Gb F4 Gb → JP (kc (0, F3, G3)) ((mb_function_131 fu (nI f) F4 Gb).bind g) Q) : JP ((cf_X4_startFunction fu cid pl gv Fa Ga).bind kc) ((mf_function fu (nI f) (nI n0) xv Fb Gb).bind g) Q := by
  have S := T.1.1
  have po := T.2.2.2.2.1.1 f hf
  rw [hφ] at po
  obtain ⟨⟨dc, nN, -⟩, ⟨q25, q26⟩, -⟩ := po
  obtain ⟨-, SA, SE, SU, SL, FT⟩ := S.2.2.2.2.2 rfl
  obtain ⟨P, -⟩ := T.2.2.2.2.2.2 rfl
  have n4 := S.1.1
  have r6 := (P.room S.1.1.2.2 (fun i hi => S.t1 hi) S.p0t T.1.2.1.1.1 (by rw [S.1.2.2.2.2.2.1]; omega)).1
  have x3n : (nI n0).toNatClampNeg = n0 := nI_c _ (by omega)
  have tn := (S.1.2.2.2.1 n0 nN).2
  have id0 := tn.1 dc.2.2.2.1
  have f28 := T.2.2.2.1.1
  have nfl := FT.2.1
  rw [← hc] at id0
  have q2 := SL.2.1 cid.toInt.toNat (by omega)
  rw [jnI id0.1] at q2
  have c45 : ¬ Fa 45 = 0 := by rw [S.2.2.1.2.1]; decide
  have m46 : ¬ Fb 46 = 0 := by rw [S.2.2.1.1]; decide
  have kn : jKn K (q + t) cid pl (Ga 40 cid.toInt.toNat) Fa Ga := ⟨⟨SE.2.1, by omega⟩, id0, c45, SL, q2, by rw [hpl]; omega⟩
  have tf := jTF (x1 := nI n0) (r := Ga 40 cid.toInt.toNat) SA SE nfl T.2.2.1.2.2 hf (by rw [x3n]; exact q25) (by rw [x3n]; exact q26) (by rw [x3n, ← hc]; exact q2)
  have b14 : fup Fb 61 1 14 = Fb 14 := fup_n (by decide)
  have tw1 : jTw nf t (nI n0) (fup Fb 61 1) Gb ↔ jTw nf t (nI n0) Fb Gb := by
    unfold jTw
    rw [fup_n (by decide)]
  have fI : (nI f).toInt = f := nI_toInt (by omega)
  have l4 : (40 : Int32).toInt = 40 := rfl
  have l0 : (0 : Int32).toInt = 0 := rfl
  have mt := mp_twice (fu := fu) (x1 := nI n0) (F := fup Fb 61 1) (G := Gb) (nf := nf) (t := t) (by rw [b14]; exact SE.1) (by omega) (by rw [fup_n (by decide)]; exact SA.1) (by omega) (by rw [fup_n (by decide)]; exact m46)
  unfold cf_X4_startFunction cb_X4_startFunction_0 mf_function mb_function_0 mb_function_5
  rw [if_neg c45]
  unfold cb_X4_startFunction_10
  rw [f28]
  by_cases bad : jTw nf t (nI n0) Fb Gb ∨ 40 ≤ f
  · have c1 : PP (((cf_X5_tellFunction fu cid pl (nI f) Fa Ga).bind (fun q => cb_X4_startFunction_23 fu gv q.2.1 q.2.2)).bind kc) (fun _ F' _ => (F' 43).toInt ≤ 4000) := by
      rw [Option.bind_assoc]
      refine PP.bind (cp_tellF (f := f) (by omega) kn) ?_
      rintro r F G ⟨-, -, -, w⟩
      have h43 := w (by
        rcases bad with y | y
        · exact .inl (fun v => (tf.mpr v) y)
        · exact .inr y)
      exact PP.mono (PP.bind (kqj_X4_startFunction_23 gv F G CFS.rf) (fun r F' G' v => hkc F r F' G' v)) (fun _ F' _ v => v.2 h43)
    have c2 : PP (((mf_twice fu (nI n0) (fup Fb 61 1) Gb).bind (fun q => mb_function_10 fu (nI f) (nI n0) xv q.2.1 q.2.2)).bind g) (fun _ F' _ => ¬ F' 47 = 0) := by
      rw [Option.bind_assoc]
      refine PP.bind mt ?_
      rintro r F G ⟨rfl, w1, w2⟩
      by_cases hT : jTw nf t (nI n0) Fb Gb
      · exact PP.mono (PP.bind (nqj_function_10 (nI f) (nI n0) xv F Gb MFS.rf) (fun r F' G' v => hg F r F' G' v)) (fun _ F' _ v y => w1 (tw1.mpr hT) (v.2.1 y))
      · obtain rfl := w2 (fun y => hT (tw1.mp y))
        have f40 : 40 ≤ f := by
          rcases bad with y | y
          · exact absurd y hT
          · exact y
        show PP ((mb_function_10 fu (nI f) (nI n0) xv (fup Fb 61 1) Gb).bind g) _
        unfold mb_function_10
        rw [if_neg (fun y => by have := i_lt.mp y; omega)]
        unfold mb_function_16
        by_cases ci : ixb (nI n0) 4002 = true
        · rw [if_pos ci, Option.bind_assoc]
          exact mp_nt (A := fun F' G' => (mb_function_28 fu (nI f) (nI n0) xv F' G').bind g) (by rw [fup_n (by decide)]; exact m46) (by decide) (fun F' G' => PP.bind (nqj_function_28 (nI f) (nI n0) xv F' G' MFS.rf) (fun r F G v => hg F' r F G v))
        · rw [if_neg ci]
          exact PP.no
    exact JP.pp c1 c2 (fun _ _ _ _ _ _ w1 w2 => hQ _ _ _ _ _ _ (.inl ⟨w1, w2⟩))
  · have nT : ¬ jTw nf t (nI n0) Fb Gb := fun y => bad (.inl y)
    have f40 : f < 40 := by
      rcases Nat.lt_or_ge f 40 with y | y
      · exact y
      · exact absurd (.inr y) bad
    refine JP.LL (cp_tellF (f := f) (by omega) kn) ?_
    rintro r F G ⟨rfl, -, w, -⟩
    obtain rfl := w (tf.mp nT) f40
    refine JP.RR mt ?_
    rintro r2 F5 G5 ⟨rfl, -, w2⟩
    obtain rfl := w2 (fun y => nT (tw1.mp y))
    dsimp only
    unfold cb_X4_startFunction_23 cb_X4_startFunction_78 mb_function_10
    rw [if_pos (show nI f < 40 from i_lt.mpr (by omega))]
    unfold mb_function_28
    rw [if_neg (show ¬ fup Fb 61 1 46 = 0 by rw [fup_n (by decide)]; exact m46)]
    have eh : cf_X8_has fu (Fa 28) Fa Ga = some (1, Fa, Ga) := by
      have f2 := FT.1
      unfold cf_X8_has cb_X8_has_0
      rw [f28, if_neg (fun y => by have := i_lt.mp y; omega)]
      unfold cb_X8_has_4
      rw [if_neg (fun y => by have := i_le.mp y; omega)]
      rfl
    rw [eh]
    show JP ((cb_X4_startFunction_89 fu gv 1 Fa Ga).bind kc) _ _
    unfold cb_X4_startFunction_89
    rw [if_neg i10n]
    unfold cb_X4_startFunction_92
    by_cases ci : ixb (Fa 28) 450 = true
    · rw [if_pos ci]
      unfold cb_X4_startFunction_111 cf_X5_enterFunction cb_X5_enterFunction_0
      have gb : b01 gv = true := by
        rcases hgv with ⟨-, y⟩ | ⟨-, y⟩ <;> rw [y] <;> rfl
      rw [if_pos gb]
      unfold cb_X5_enterFunction_5 cb_X5_enterFunction_10 cb_X5_enterFunction_15 cf_X5_enter cb_X5_enter_0 cb_X5_enter_10
      unfold mb_function_97 mb_function_102 mb_function_107 mb_function_112 mb_function_117 mb_function_122 mb_function_127 mf_begins mb_begins_0 mb_begins_10
      have k1 : KX [42, 48, 49, 50] [80] Fa Ga (fup (fup (fup (fup Fa 48 gv) 49 0) 50 0) 42 (fup (fup (fup Fa 48 gv) 49 0) 50 0 42 + 1)) (gup Ga 80 (Fa 28).toNatClampNeg (Fa 6)) := KX.f rfl (KX.f rfl (KX.f rfl (KX.f rfl (KX.g rfl KX.rf))))
      have k2 : KX [15, 50, 51, 52, 53, 61, 63, 64] [] Fb Gb (fup (fup (fup (fup (fup (fup (fup (fup Fb 61 1) 50 (nI f)) 63 (-1)) 64 (-1)) 52 0) 53 0) 51 0) 15 (fup (fup (fup (fup (fup (fup (fup Fb 61 1) 50 (nI f)) 63 (-1)) 64 (-1)) 52 0) 53 0) 51 0 15 + 1)) Gb := KX.f rfl (KX.f rfl (KX.f rfl (KX.f rfl (KX.f rfl (KX.f rfl (KX.f rfl (KX.f rfl KX.rf)))))))
      have v42 : fup (fup (fup (fup Fa 48 gv) 49 0) 50 0) 42 (fup (fup (fup Fa 48 gv) 49 0) 50 0 42 + 1) 42 = 1 := by
        rw [fup_s, fup_n (by decide), fup_n (by decide), fup_n (by decide), T.2.2.1.2.1]
        decide
      have v15 : fup (fup (fup (fup (fup (fup (fup (fup Fb 61 1) 50 (nI f)) 63 (-1)) 64 (-1)) 52 0) 53 0) 51 0) 15 (fup (fup (fup (fup (fup (fup (fup Fb 61 1) 50 (nI f)) 63 (-1)) 64 (-1)) 52 0) 53 0) 51 0 15 + 1) 15 = 1 := by
        rw [fup_s, fup_n (by decide), fup_n (by decide), fup_n (by decide), fup_n (by decide), fup_n (by decide), fup_n (by decide), fup_n (by decide), T.2.2.1.2.2]
        decide
      have v80 : gup Ga 80 (Fa 28).toNatClampNeg (Fa 6) 80 f = Fa 6 ∧ ∀ y : Nat, y ≠ f → gup Ga 80 (Fa 28).toNatClampNeg (Fa 6) 80 y = Ga 80 y := by
        rw [f28, nI_c f (by omega)]
        exact ⟨gup_i, fun y hy => gup_x hy⟩
      refine H _ _ _ (T.fun1 hf hφ hgv k1 k2 v42 v15 rfl rfl rfl rfl rfl rfl rfl) ⟨v15, rfl, rfl⟩ v80 k1 k2
    · rw [if_neg ci]
      exact JP.noL
end JVI
