section JK6
variable {fu : Nat} {X : JCX} {p : Int32} {N K n q nf t i : Nat} {Fc Fm : PF} {Gc Gm : PG}
/-- an array's size, from behind its bracket: a constant of 1 to 500, or both find a fault -/
theorem jk_size {b : Int32 × PF × PG → PR} {Q : Int32 → PF → PG → Int32 → PF → PG → Prop} (I : jIn X p N K n q nf t i Fc Gc Fm Gm) (h54 : Fm 54 = 0) (hx : jXB Fc) (hQ : ∀ (r1 : Int32) (F1 : PF) (G1 : PG) (r2 : Int32) (F2 : PF) (G2 : PG), jEnd F1 F2 → Q r1 F1 G1 r2 F2 G2) (hb : ∀ (F0 : PF) (r : Int32) (F : PF) (G : PG), MFS F0 F → PP (b (r, F, G)) (fun _ F' _ => MFS F0 F')) (H : ∀ (r1 : Int32) (j : Nat) (F1 : PF) (G1 : PG) (r2 : Int32) (F2 : PF) (G2 : PG), jAk p N i j Fc Gc Fm Gm F1 G1 F2 G2 → (p = 0 → r1 = 0 ∧ r2 = 1) → (p = 1 → r1 = r2 ∧ 1 ≤ r1.toInt ∧ r1.toInt ≤ 500) → JP (cb_X3_arraySize_80 fu r1 F1 G1) (b (r2, F2, G2)) Q) : JP (cb_X3_arraySize_14 fu Fc Gc) ((mf_sizeHere fu Fm Gm).bind b) Q := by
  have l1 : (1 : Int32).toInt = 1 := rfl
  have l5 : (500 : Int32).toInt = 500 := rfl
  obtain ⟨pl0, pl1, pl2⟩ := I.2.1.1.place I.1.1
  have hp := I.1.2.1
  have l0 : (0 : Int32).toInt = 0 := rfl
  unfold cb_X3_arraySize_14 mf_sizeHere mb_sizeHere_0
  refine JP.ixRR (fun _ => ?_)
  unfold mf_value mb_value_0 mb_value_10 mb_value_15
  rw [Option.bind_assoc, Option.bind_assoc]
  refine JP.L (cp_startC Fc Gc) ?_
  rintro _ _ _ ⟨rfl, rfl⟩
  dsimp only
  have kc : KX [46, 47] [] Fc Gc (fup (fup Fc 46 1) 47 1) Gc := KX.f rfl (KX.f rfl KX.rf)
  have km : KX [54, 55] [] Fm Gm (fup (fup Fm 54 1) 55 0) Gm := KX.f rfl (KX.f rfl KX.rf)
  have s46 : fup (fup Fc 46 1) 47 1 46 = 1 := by rw [fup_n (by decide), fup_s]
  have s47 : fup (fup Fc 46 1) 47 1 47 = 1 := fup_s
  have t54 : fup (fup Fm 54 1) 55 0 54 = 1 := by rw [fup_n (by decide), fup_s]
  have t55 : fup (fup Fm 54 1) 55 0 55 = 0 := fup_s
  generalize fup (fup Fc 46 1) 47 1 = Fs at kc s46 s47 ⊢
  generalize fup (fup Fm 54 1) 55 0 = Ft at km t54 t55 ⊢
  have Is : jIn (true, X.2) p N K n q nf t i Fs Gc Ft Gm := by
    obtain ⟨⟨h1, h2, h3, h4, h5, h6⟩, ⟨D1, ⟨D2, D3, D4⟩, D5, D7, D8, D9⟩, B⟩ := id I
    refine ⟨⟨h1.keep (kc.1 93 rfl) rfl rfl rfl (km.1 7 rfl) (km.1 8 rfl) rfl rfl rfl, h2, ?_, ?_, ?_, ?_⟩, ⟨?_, ⟨?_, ?_, s47⟩, ?_, ?_, ?_, ?_⟩, ?_⟩
    · rw [km.1 46 rfl, kc.1 45 rfl, kc.1 7 rfl]
      exact h3
    · rw [s46, t54]
    · exact .inr t54
    · intro hp1
      obtain ⟨-, g2⟩ := h6 hp1
      refine ⟨⟨fun _ => by rw [t54]; decide, fun _ => rfl⟩, ?_⟩
      unfold jSA jSE jSU jSL jFT at g2 ⊢
      rw [km.1 24 rfl, km.1 14 rfl, km.1 15 rfl, kc.1 41 rfl, kc.1 42 rfl, kc.1 74 rfl]
      exact g2
    · unfold CU at D1 ⊢
      rw [kc.1 9 rfl, km.1 42 rfl, kc.1 10 rfl, km.1 43 rfl, kc.1 14 rfl, km.1 44 rfl, kc.1 11 rfl, kc.1 12 rfl, kc.1 13 rfl]
      exact D1
    · rw [km.1 47 rfl]; exact D2
    · rw [kc.1 43 rfl]; exact D3
    · rw [kc.1 21 rfl]; exact D5
    · rw [kc.1 6 rfl]; exact D7
    · rw [km.1 60 rfl]; exact D8
    · rw [km.1 70 rfl]; exact D9
    · rw [kc.1 6 rfl]; exact B
  unfold cb_X3_arraySize_37 cf_X3_expression mf_expression
  refine JP.both (jPx_all 300 300 i [] Fs Gc Ft Gm Is) ?_
  rintro r1 F1 G1 r2 F2 G2 (⟨rfl, j, h⟩ | h)
  · dsimp only
    have fin : ∀ (F3 : PF) (G3 : PG) (F4 : PF) (G4 : PG), KX [6, 46, 56, 57, 300] [55] F1 G1 F3 G3 → KX [54, 60, 72] [71] F2 G2 F4 G4 → F3 46 = 0 → F4 54 = 0 → F4 60 = Ft 60 → jXB F3 → 0 ≤ (F3 6).toInt → (F3 6).toInt ≤ (Fc 6).toInt → (p = 1 → F3 6 = Fc 6) → jAk p N i j Fc Gc Fm Gm F3 G3 F4 G4 := by
      intro F3 G3 F4 G4 a b a46 b54 b60 axb a0 a6 a7
      obtain ⟨⟨k1, k2⟩, ⟨D1, ⟨D2, D3, D4⟩, D5, D7, D8, D9⟩, x1, x2, ⟨x3, -⟩, ⟨x4, -⟩, x5, x6⟩ := id h
      refine ⟨⟨KX.tr (KX.tr (KX.tr KX.rf kc rfl rfl) k1 rfl rfl) a rfl rfl, KX.tr (KX.tr (KX.tr KX.rf km rfl rfl) k2 rfl rfl) b rfl rfl⟩, ⟨?_, ⟨?_, ?_, ?_⟩, ?_, a0, ?_, ?_⟩, x1, ?_, ⟨a46, b54, ?_, ?_, ?_, axb⟩, a6, fun z => ⟨a7 z, ?_, ?_⟩⟩
      · unfold CU at D1 ⊢
        rw [a.1 9 rfl, b.1 42 rfl, a.1 10 rfl, b.1 43 rfl, a.1 14 rfl, b.1 44 rfl, a.1 11 rfl, a.1 12 rfl, a.1 13 rfl, a.2 90 rfl, a.2 91 rfl, a.2 92 rfl]
        exact D1
      · rw [b.1 47 rfl]; exact D2
      · rw [a.1 43 rfl]; exact D3
      · rw [a.1 47 rfl]; exact D4
      · rw [a.1 21 rfl, b.2 6 rfl]; exact D5
      · rw [b60, km.1 60 rfl]; exact I.2.1.2.2.2.2.1
      · rw [b.1 70 rfl]; exact D9
      · rw [a.1 10 rfl, x2, kc.1 10 rfl]; omega
      · rw [a.1 21 rfl, x3, kc.1 21 rfl]
      · rw [b.1 70 rfl, x4, km.1 70 rfl]
      · rw [b60, km.1 60 rfl]
      · rw [b.1 55 rfl, (x6 z).1]; exact t55
      · obtain ⟨mu, A, l0, -, -, -, -, ⟨c1, c2⟩, -⟩ := (x6 z).2 (fun _ => wN Fs) (fun _ => ([], some X.2.2.1)) rfl rfl
        have es : sN Ft = sN Fm := by show (Ft 60).toNatClampNeg = _; rw [km.1 60 rfl]
        have ew : wN Fs = wN Fc := by show (Fs 6).toNatClampNeg = _; rw [kc.1 6 rfl]
        rw [es] at c1
        rw [ew] at c2
        refine ⟨fun k hk => ?_, fun l hl => ?_⟩
        · obtain ⟨d1, d2, d3, d4⟩ := c1 k hk
          exact ⟨by rw [b.2 56 rfl]; exact d1, by rw [b.2 57 rfl]; exact d2, by rw [b.2 58 rfl]; exact d3, by rw [b.2 59 rfl]; exact d4⟩
        · rw [a.2 5 rfl]
          exact c2 l hl
    have e45 : F1 45 = p := by rw [h.1.1.1 45 rfl, kc.1 45 rfl]; exact I.1.2.2.1.2.1
    have e47 : F1 47 = 1 := h.2.1.2.1.2.2
    have e44 : F2 44 = 0 := h.2.1.1.2.2.2.2.2.2.2.1
    have e46 : F2 46 = p := by rw [h.1.2.1 46 rfl, km.1 46 rfl]; exact I.1.2.2.1.1
    have z6 : 0 ≤ (Fc 6).toInt := I.2.1.2.2.2.1
    have y6 : 0 ≤ (F1 6).toInt := h.2.1.2.2.2.1
    unfold mb_value_24
    rw [h54, if_pos (show b01 0 = true from rfl)]
    unfold cb_X3_arraySize_41
    refine JP.L (cp_endsC F1 G1) ?_
    rintro r _ _ ⟨rfl, rfl, hr⟩
    dsimp only
    unfold mb_value_30
    rw [if_neg (show ¬ (0 : Int32) < fup F2 54 0 44 by rw [fup_n (by decide), e44]; decide)]
    unfold mb_value_37
    have f6 : fup F1 46 0 6 = F1 6 := fup_n (by decide)
    rcases hp with hp0 | hp1
    · have r0 : r = 0 := by
        rcases hr with ⟨z, -⟩ | ⟨-, z, -⟩
        · exact z
        · exact absurd (e45.trans hp0) z
      rw [r0, if_pos (show fup F2 54 0 46 = 0 by rw [fup_n (by decide), e46, hp0])]
      unfold cb_X3_arraySize_48
      rw [if_pos rfl]
      unfold cb_X3_arraySize_70 cb_X3_arraySize_71 mb_value_51 mb_value_60 mb_value_66
      refine JP.L (cp_cut z6) ?_
      rintro _ F3 _ ⟨rfl, c1, c2, c3, c4⟩
      rw [f6] at c3 c4
      dsimp only
      have k4 : fup (fup F2 54 0) 60 (Ft 60) 44 = 0 := by rw [fup_n (by decide), fup_n (by decide)]; exact e44
      have k6 : fup (fup F2 54 0) 60 (Ft 60) 46 = 0 := by rw [fup_n (by decide), fup_n (by decide), e46, hp0]
      show JP _ ((mb_sizeHere_14 fu (Gm 6 (Fm 42).toNatClampNeg) 0 (fup (fup F2 54 0) 60 (Ft 60)) G2).bind b) _
      unfold mb_sizeHere_14
      rw [if_neg (show ¬ (0 : Int32) < fup (fup F2 54 0) 60 (Ft 60) 44 by rw [k4]; decide)]
      unfold mb_sizeHere_22
      rw [if_pos k6]
      refine H 0 j F3 G1 1 _ G2 (fin F3 G1 _ G2 (KX.tr (KX.f rfl KX.rf) c1 rfl rfl) (KX.f rfl (KX.f rfl KX.rf)) ?_ ?_ ?_ (((hx.kx kc rfl).kx h.1.1 rfl).kx (KX.tr (a := [46, 6]) (b := []) (KX.f rfl KX.rf) c1 rfl rfl) rfl) ?_ c2 (fun z => ?_)) (fun _ => ⟨rfl, rfl⟩) (fun z => ?_)
      · rw [c1.1 46 rfl, fup_s]
      · rw [fup_n (by decide), fup_s]
      · rw [fup_s]
      · by_cases c : (Fc 6).toInt ≤ (F1 6).toInt
        · rw [c3 c]; exact z6
        · rw [c4 (by omega)]; exact y6
      · rw [hp0] at z
        exact absurd z (by decide)
      · rw [hp0] at z
        exact absurd z (by decide)
    · have r1 : r = 1 := by
        rcases hr with ⟨-, z | z⟩ | ⟨z, -⟩
        · rw [e45, hp1] at z
          exact absurd z (by decide)
        · rw [e47] at z
          exact absurd z (by decide)
        · exact z
      have g55 : F2 55 = 0 := by rw [(h.2.2.2.2.2.2.2 hp1).1]; exact t55
      rw [r1, if_neg (show ¬ fup F2 54 0 46 = 0 by rw [fup_n (by decide), e46, hp1]; decide)]
      unfold cb_X3_arraySize_48 mb_value_44
      rw [if_neg i10n, if_pos (show fup F2 54 0 55 = 0 by rw [fup_n (by decide)]; exact g55)]
      unfold cb_X3_arraySize_51 mb_value_55
      have c8 := h.cap Is.1 Is.2.2 (by omega)
      have xe : xn F1 = xn Fc := by
        unfold xn
        rw [h.1.1.1 300 rfl, kc.1 300 rfl]
      have h' := h
      rw [hp1] at h'
      have v := jk_val (fu := fu) (X := (true, X.2)) rfl h' (by rw [kc.1 6 rfl]; exact z6) (by rw [km.1 60 rfl]; exact I.2.1.2.2.2.2.1) c8 (by rw [xe]; exact hx) (KX.f rfl KX.rf : KX [46] [] F1 G1 (fup F1 46 0) G1) (KX.f rfl KX.rf : KX [54] [] F2 G2 (fup F2 54 0) G2)
      rw [kc.1 6 rfl] at v
      rw [Option.bind_assoc]
      refine JP.both (JP.wR (JP.wL v (PP.and (cw_X6_valueFrom (Fc 6) _ G1) (cx_valueFrom (Fc 6) G1 (((hx.kx kc rfl).kx h.1.1 rfl).kx (KX.f rfl KX.rf : KX [46] [] F1 G1 (fup F1 46 0) G1) rfl)))) (mw_reckon (Ft 60) _ G2)) ?_
      rintro r3 F3 G3 r4 F4 G4 ⟨⟨rfl, kv, kvx⟩, kr⟩
      dsimp only
      have lo : (Fc 6).toInt ≤ (F3 6).toInt := by
        rw [kv.1 6 rfl, f6]
        obtain ⟨mu, A, l0, -, ⟨-, -, w, -, -⟩, -⟩ := (h.2.2.2.2.2.2.2 hp1).2 (fun _ => wN Fs) (fun _ => ([], some X.2.2.1)) rfl rfl
        have w' : (Fs 6).toInt.toNat ≤ (F1 6).toInt.toNat := w
        rw [kc.1 6 rfl] at w'
        omega
      unfold mb_value_60 mb_value_66
      have k4 : fup F4 60 (Ft 60) 44 = 0 := by rw [fup_n (by decide), kr.1 44 rfl, fup_n (by decide)]; exact e44
      have k6 : ¬ fup F4 60 (Ft 60) 46 = 0 := by rw [fup_n (by decide), kr.1 46 rfl, fup_n (by decide), e46, hp1]; decide
      have k5 : fup F4 60 (Ft 60) 55 = 0 := by rw [fup_n (by decide), kr.1 55 rfl, fup_n (by decide)]; exact g55
      show JP _ ((mb_sizeHere_14 fu (Gm 6 (Fm 42).toNatClampNeg) r3 (fup F4 60 (Ft 60)) G4).bind b) _
      unfold mb_sizeHere_14
      rw [if_neg (show ¬ (0 : Int32) < fup F4 60 (Ft 60) 44 by rw [k4]; decide)]
      unfold mb_sizeHere_22
      rw [if_neg k6]
      unfold mb_sizeHere_31
      rw [if_pos k5]
      unfold cb_X3_arraySize_63 cf_X5_elements cb_X5_elements_0 mb_sizeHere_40
      have f45 : F3 45 = 1 := by rw [kv.1 45 rfl, fup_n (by decide), e45, hp1]
      -- not from 1 to 500
      have bad : JP ((cb_X5_elements_12 fu (Fc 13) F3 G3).bind (fun q => cb_X3_arraySize_67 fu (Fc 6) q.1 q.2.1 q.2.2)) ((mb_sizeHere_54 fu (Gm 6 (Fm 42).toNatClampNeg) (fup F4 60 (Ft 60)) G4).bind b) Q := by
        refine JP.pp (V := fun _ F' _ => (F' 43).toInt ≤ 4000) (V1 := fun _ F' _ => ¬ F' 47 = 0) ?_ ?_ (fun r1 F5 G5 r2 F6 G6 z1 z2 => hQ _ _ _ _ _ _ (.inl ⟨z1, z2⟩))
        · refine PP.bind (Q1 := fun _ F' _ => (F' 43).toInt ≤ 4000) ?_ (fun r F G z => PP.mono (kqj_X3_arraySize_67 _ _ F G CFS.rf) (fun _ F' _ w => w.2 z))
          unfold cb_X5_elements_12
          refine PP.bind (cp_note 7 (Fc 13) (by decide) (by decide) F3 G3) ?_
          rintro _ F5 G5 ⟨-, -, -, w⟩
          dsimp only
          unfold cb_X5_elements_19
          exact PP.ret (w (by rw [f45]; decide) pl1)
        · refine PP.bind (Q1 := fun _ F' _ => ¬ F' 47 = 0) ?_ (fun r F G z => PP.mono (hb F r F G MFS.rf) (fun _ F' _ w y => z (w.2.1 y)))
          unfold mb_sizeHere_54
          exact mp_nt (A := fun F' G' => mb_sizeHere_61 fu F' G') k6 (by decide) (fun F' G' => nqj_sizeHere_61 F' G' MFS.rf)
      by_cases c1 : r3 < 1
      · rw [if_pos c1, if_pos c1]
        exact bad
      · rw [if_neg c1, if_neg c1]
        unfold cb_X5_elements_5 mb_sizeHere_45
        have d1 := mt i_lt.mpr c1
        by_cases c2 : r3 ≤ 500
        · have d2 := i_le.mp c2
          rw [if_pos c2, if_neg (show ¬ (500 : Int32) < r3 from fun z => absurd (i_lt.mp z) (by omega))]
          unfold cb_X5_elements_21 mb_sizeHere_52
          show JP (cb_X3_arraySize_67 fu (Fc 6) r3 F3 G3) (b (r3, fup F4 60 (Ft 60), G4)) Q
          unfold cb_X3_arraySize_67 cb_X3_arraySize_71
          refine JP.L (cp_cut z6) ?_
          rintro _ F5 _ ⟨rfl, c1, c2, c3, c4⟩
          dsimp only
          have e5 := c3 lo
          refine H r3 j F5 G3 r3 _ G4 (fin F5 G3 _ G4 (KX.tr (KX.tr (KX.f rfl KX.rf) kv rfl rfl) c1 rfl rfl) (KX.f rfl (KX.tr (KX.f rfl KX.rf) kr rfl rfl)) ?_ ?_ ?_ (kvx.kx c1 rfl) ?_ c2 (fun _ => e5)) (fun z => ?_) (fun _ => ⟨rfl, by omega, by omega⟩)
          · rw [c1.1 46 rfl, kv.1 46 rfl, fup_s]
          · rw [fup_n (by decide), kr.1 54 rfl, fup_s]
          · rw [fup_s]
          · rw [e5]; exact z6
          · rw [hp1] at z
            exact absurd z (by decide)
        · have d2 := mt i_le.mpr c2
          rw [if_neg c2, if_pos (show (500 : Int32) < r3 from i_lt.mpr (by omega))]
          exact bad
  · dsimp only
    exact JP.fin (kqj_X3_arraySize_41 _ _ F1 G1 CFS.rf) (PP.bind (nqj_value_24 _ _ _ F2 G2 MFS.rf) (fun r F G y => PP.bind (nqj_sizeHere_14 _ _ F G y) (fun r F G y => hb _ r F G y))) h hQ
end JK6
