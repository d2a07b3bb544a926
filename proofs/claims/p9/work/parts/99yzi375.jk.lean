theorem JP.wL {a b : PR} {Q : Int32 → PF → PG → Int32 → PF → PG → Prop} {V : Int32 → PF → PG → Prop} (h : JP a b Q) (k : PP a V) : JP a b (fun r1 F1 G1 r2 F2 G2 => Q r1 F1 G1 r2 F2 G2 ∧ V r1 F1 G1) := fun r1 F1 G1 r2 F2 G2 e1 e2 => ⟨h r1 F1 G1 r2 F2 G2 e1 e2, k r1 F1 G1 e1⟩
abbrev jXk : List Nat := [6, 9, 10, 11, 12, 13, 14, 21, 43, 44, 46, 47, 56, 57, 300]
abbrev jYk : List Nat := [5, 20, 55]
abbrev jZk : List Nat := [42, 43, 44, 45, 47, 48, 49, 54, 55, 60, 62, 70, 72]
abbrev jWk : List Nat := [56, 57, 58, 59, 67, 68, 69, 71]
/-- behind a constant: nothing found, the code is as it was -/
def jAk (p : Int32) (N i j : Nat) (Fc : PF) (Gc : PG) (Fm : PF) (Gm : PG) (F1 : PF) (G1 : PG) (F2 : PF) (G2 : PG) : Prop :=
  (KX jXk jYk Fc Gc F1 G1 ∧ KX jZk jWk Fm Gm F2 G2) ∧ jD N j F1 G1 F2 G2 ∧ (i ≤ j ∧ (Gm 6 i).toInt ≤ (Gm 6 j).toInt) ∧ (F1 10).toInt = (Fc 10).toInt ∧ (F1 46 = 0 ∧ F2 54 = 0 ∧ F1 21 = Fc 21 ∧ F2 70 = Fm 70 ∧ F2 60 = Fm 60 ∧ jXB F1) ∧ (F1 6).toInt ≤ (Fc 6).toInt ∧ (p = 1 → F1 6 = Fc 6 ∧ F2 55 = 0 ∧ (∀ k : Nat, k < sN Fm → cEq Gm G2 k) ∧ ∀ l : Nat, l < wN Fc → G1 5 l = Gc 5 l)
section JK5
variable {fu : Nat} {X : JCX} {p : Int32} {N K n q nf t i : Nat} {Fc Fm : PF} {Gc Gm : PG}
/-- a constant: both take the same value -/
theorem jk_constant (I : jIn X p N K n q nf t i Fc Gc Fm Gm) (h54 : Fm 54 = 0) (hx : jXB Fc) : JP (cf_X3_constant fu Fc Gc) (mf_value fu Fm Gm) (fun r1 F1 G1 r2 F2 G2 => (r1 = r2 ∧ ∃ j : Nat, jAk p N i j Fc Gc Fm Gm F1 G1 F2 G2) ∨ jEnd F1 F2) := by
  have hp := I.1.2.1
  have l0 : (0 : Int32).toInt = 0 := rfl
  unfold cf_X3_constant cb_X3_constant_0 mf_value mb_value_0 mb_value_10 mb_value_15
  refine JP.L (cp_startC Fc Gc) ?_
  rintro _ _ _ ⟨rfl, rfl⟩
  dsimp only
  have kc : KX [46, 47] [] Fc Gc (fup (fup Fc 46 1) 47 1) Gc := KX.f rfl (KX.f rfl KX.rf)
  have km : KX [54, 55] [] Fm Gm (fup (fup Fm 54 1) 55 0) Gm := KX.f rfl (KX.f rfl KX.rf)
  have s46 : fup (fup Fc 46 1) 47 1 46 = 1 := by rw [fup_n (by decide), fup_s]
  have s47 : fup (fup Fc 46 1) 47 1 47 = 1 := fup_s
  have t54 : fup (fup Fm 54 1) 55 0 54 = 1 := by rw [fup_n (by decide), fup_s]
  have t55 : fup (fup Fm 54 1) 55 0 55 = 0 := fup_s
  generalize fup (fup Fc 46 1) 47 1 = Fs at kc s46 s47 ⊢
  generalize fup (fup Fm 54 1) 55 0 = Ft at km t54 t55 ⊢
  have Is : jIn (true, X.2) p N K n q nf t i Fs Gc Ft Gm := by
    obtain ⟨⟨h1, h2, h3, h4, h5, h6⟩, ⟨D1, ⟨D2, D3, D4⟩, D5, D7, D8, D9⟩, B⟩ := id I
    refine ⟨⟨h1.keep (kc.1 93 rfl) rfl rfl rfl (km.1 7 rfl) (km.1 8 rfl) rfl rfl rfl, h2, ?_, ?_, ?_, ?_⟩, ⟨?_, ⟨?_, ?_, s47⟩, ?_, ?_, ?_, ?_⟩, ?_⟩
    · rw [km.1 46 rfl, kc.1 45 rfl, kc.1 7 rfl]
      exact h3
    · rw [s46, t54]
    · exact .inr t54
    · intro hp1
      obtain ⟨-, g2⟩ := h6 hp1
      refine ⟨⟨fun _ => by rw [t54]; decide, fun _ => rfl⟩, ?_⟩
      unfold jSA jSE jSU jSL jFT at g2 ⊢
      rw [km.1 24 rfl, km.1 14 rfl, km.1 15 rfl, kc.1 41 rfl, kc.1 42 rfl, kc.1 74 rfl]
      exact g2
    · unfold CU at D1 ⊢
      rw [kc.1 9 rfl, km.1 42 rfl, kc.1 10 rfl, km.1 43 rfl, kc.1 14 rfl, km.1 44 rfl, kc.1 11 rfl, kc.1 12 rfl, kc.1 13 rfl]
      exact D1
    · rw [km.1 47 rfl]; exact D2
    · rw [kc.1 43 rfl]; exact D3
    · rw [kc.1 21 rfl]; exact D5
    · rw [kc.1 6 rfl]; exact D7
    · rw [km.1 60 rfl]; exact D8
    · rw [km.1 70 rfl]; exact D9
    · rw [kc.1 6 rfl]; exact B
  unfold cb_X3_constant_15 cf_X3_expression mf_expression
  refine JP.both (jPx_all 300 300 i [] Fs Gc Ft Gm Is) ?_
  rintro r1 F1 G1 r2 F2 G2 (⟨rfl, j, h⟩ | h)
  · dsimp only
    have fin : ∀ (F3 : PF) (G3 : PG) (F4 : PF) (G4 : PG), KX [6, 46, 56, 57, 300] [55] F1 G1 F3 G3 → KX [54, 60, 72] [71] F2 G2 F4 G4 → F3 46 = 0 → F4 54 = 0 → F4 60 = Ft 60 → jXB F3 → 0 ≤ (F3 6).toInt → (F3 6).toInt ≤ (Fc 6).toInt → (p = 1 → F3 6 = Fc 6) → jAk p N i j Fc Gc Fm Gm F3 G3 F4 G4 := by
      intro F3 G3 F4 G4 a b a46 b54 b60 axb a0 a6 a7
      obtain ⟨⟨k1, k2⟩, ⟨D1, ⟨D2, D3, D4⟩, D5, D7, D8, D9⟩, x1, x2, ⟨x3, -⟩, ⟨x4, -⟩, x5, x6⟩ := id h
      refine ⟨⟨KX.tr (KX.tr (KX.tr KX.rf kc rfl rfl) k1 rfl rfl) a rfl rfl, KX.tr (KX.tr (KX.tr KX.rf km rfl rfl) k2 rfl rfl) b rfl rfl⟩, ⟨?_, ⟨?_, ?_, ?_⟩, ?_, a0, ?_, ?_⟩, x1, ?_, ⟨a46, b54, ?_, ?_, ?_, axb⟩, a6, fun z => ⟨a7 z, ?_, ?_⟩⟩
      · unfold CU at D1 ⊢
        rw [a.1 9 rfl, b.1 42 rfl, a.1 10 rfl, b.1 43 rfl, a.1 14 rfl, b.1 44 rfl, a.1 11 rfl, a.1 12 rfl, a.1 13 rfl, a.2 90 rfl, a.2 91 rfl, a.2 92 rfl]
        exact D1
      · rw [b.1 47 rfl]; exact D2
      · rw [a.1 43 rfl]; exact D3
      · rw [a.1 47 rfl]; exact D4
      · rw [a.1 21 rfl, b.2 6 rfl]; exact D5
      · rw [b60, km.1 60 rfl]; exact I.2.1.2.2.2.2.1
      · rw [b.1 70 rfl]; exact D9
      · rw [a.1 10 rfl, x2, kc.1 10 rfl]; omega
      · rw [a.1 21 rfl, x3, kc.1 21 rfl]
      · rw [b.1 70 rfl, x4, km.1 70 rfl]
      · rw [b60, km.1 60 rfl]
      · rw [b.1 55 rfl, (x6 z).1]; exact t55
      · obtain ⟨mu, A, l0, -, -, -, -, ⟨c1, c2⟩, -⟩ := (x6 z).2 (fun _ => wN Fs) (fun _ => ([], some X.2.2.1)) rfl rfl
        have es : sN Ft = sN Fm := by show (Ft 60).toNatClampNeg = _; rw [km.1 60 rfl]
        have ew : wN Fs = wN Fc := by show (Fs 6).toNatClampNeg = _; rw [kc.1 6 rfl]
        rw [es] at c1
        rw [ew] at c2
        refine ⟨fun k hk => ?_, fun l hl => ?_⟩
        · obtain ⟨d1, d2, d3, d4⟩ := c1 k hk
          exact ⟨by rw [b.2 56 rfl]; exact d1, by rw [b.2 57 rfl]; exact d2, by rw [b.2 58 rfl]; exact d3, by rw [b.2 59 rfl]; exact d4⟩
        · rw [a.2 5 rfl]
          exact c2 l hl
    have e45 : F1 45 = p := by rw [h.1.1.1 45 rfl, kc.1 45 rfl]; exact I.1.2.2.1.2.1
    have e47 : F1 47 = 1 := h.2.1.2.1.2.2
    have e44 : F2 44 = 0 := h.2.1.1.2.2.2.2.2.2.2.1
    have e46 : F2 46 = p := by rw [h.1.2.1 46 rfl, km.1 46 rfl]; exact I.1.2.2.1.1
    have z6 : 0 ≤ (Fc 6).toInt := I.2.1.2.2.2.1
    have y6 : 0 ≤ (F1 6).toInt := h.2.1.2.2.2.1
    unfold mb_value_24
    refine JP.bzR (fun _ => ?_)
    rw [h54]
    unfold cb_X3_constant_19
    refine JP.L (cp_endsC F1 G1) ?_
    rintro r _ _ ⟨rfl, rfl, hr⟩
    dsimp only
    unfold mb_value_30
    rw [if_neg (show ¬ (0 : Int32) < fup F2 54 0 44 by rw [fup_n (by decide), e44]; decide)]
    unfold mb_value_37
    have f6 : fup F1 46 0 6 = F1 6 := fup_n (by decide)
    rcases hp with hp0 | hp1
    · have r0 : r = 0 := by
        rcases hr with ⟨z, -⟩ | ⟨-, z, -⟩
        · exact z
        · exact absurd (e45.trans hp0) z
      rw [r0, if_pos (show fup F2 54 0 46 = 0 by rw [fup_n (by decide), e46, hp0])]
      unfold cb_X3_constant_26
      rw [if_pos rfl]
      unfold cb_X3_constant_40 cb_X3_constant_41 mb_value_51 mb_value_60 mb_value_66
      refine JP.L (cp_cut z6) ?_
      rintro _ F3 _ ⟨rfl, c1, c2, c3, c4⟩
      rw [f6] at c3 c4
      dsimp only
      unfold cb_X3_constant_50
      refine JP.ret (.inl ⟨rfl, j, fin F3 G1 _ G2 (KX.tr (KX.f rfl KX.rf) c1 rfl rfl) (KX.f rfl (KX.f rfl KX.rf)) ?_ ?_ ?_ (((hx.kx kc rfl).kx h.1.1 rfl).kx (KX.tr (a := [46, 6]) (b := []) (KX.f rfl KX.rf) c1 rfl rfl) rfl) ?_ c2 (fun z => ?_)⟩)
      · rw [c1.1 46 rfl, fup_s]
      · rw [fup_n (by decide), fup_s]
      · rw [fup_s]
      · by_cases c : (Fc 6).toInt ≤ (F1 6).toInt
        · rw [c3 c]; exact z6
        · rw [c4 (by omega)]; exact y6
      · rw [hp0] at z
        exact absurd z (by decide)
    · have r1 : r = 1 := by
        rcases hr with ⟨-, z | z⟩ | ⟨z, -⟩
        · rw [e45, hp1] at z
          exact absurd z (by decide)
        · rw [e47] at z
          exact absurd z (by decide)
        · exact z
      have g55 : F2 55 = 0 := by rw [(h.2.2.2.2.2.2.2 hp1).1]; exact t55
      rw [r1, if_neg (show ¬ fup F2 54 0 46 = 0 by rw [fup_n (by decide), e46, hp1]; decide)]
      unfold cb_X3_constant_26 mb_value_44
      rw [if_neg i10n, if_pos (show fup F2 54 0 55 = 0 by rw [fup_n (by decide)]; exact g55)]
      unfold cb_X3_constant_29 mb_value_55
      have c8 := h.cap Is.1 Is.2.2 (by omega)
      have xe : xn F1 = xn Fc := by
        unfold xn
        rw [h.1.1.1 300 rfl, kc.1 300 rfl]
      have h' := h
      rw [hp1] at h'
      have v := jk_val (fu := fu) (X := (true, X.2)) rfl h' (by rw [kc.1 6 rfl]; exact z6) (by rw [km.1 60 rfl]; exact I.2.1.2.2.2.2.1) c8 (by rw [xe]; exact hx) (KX.f rfl KX.rf : KX [46] [] F1 G1 (fup F1 46 0) G1) (KX.f rfl KX.rf : KX [54] [] F2 G2 (fup F2 54 0) G2)
      rw [kc.1 6 rfl] at v
      refine JP.both (JP.wR (JP.wL v (PP.and (cw_X6_valueFrom (Fc 6) _ G1) (cx_valueFrom (Fc 6) G1 (((hx.kx kc rfl).kx h.1.1 rfl).kx (KX.f rfl KX.rf : KX [46] [] F1 G1 (fup F1 46 0) G1) rfl)))) (mw_reckon (Ft 60) _ G2)) ?_
      rintro r3 F3 G3 r4 F4 G4 ⟨⟨rfl, kv, kvx⟩, kr⟩
      dsimp only
      unfold cb_X3_constant_37 cb_X3_constant_41 mb_value_60 mb_value_66
      have lo : (Fc 6).toInt ≤ (F3 6).toInt := by
        rw [kv.1 6 rfl, f6]
        obtain ⟨mu, A, l0, -, ⟨-, -, w, -, -⟩, -⟩ := (h.2.2.2.2.2.2.2 hp1).2 (fun _ => wN Fs) (fun _ => ([], some X.2.2.1)) rfl rfl
        have w' : (Fs 6).toInt.toNat ≤ (F1 6).toInt.toNat := w
        rw [kc.1 6 rfl] at w'
        omega
      refine JP.L (cp_cut z6) ?_
      rintro _ F5 _ ⟨rfl, c1, c2, c3, c4⟩
      dsimp only
      unfold cb_X3_constant_50
      have e5 := c3 lo
      refine JP.ret (.inl ⟨rfl, j, fin F5 G3 _ G4 (KX.tr (KX.tr (KX.f rfl KX.rf) kv rfl rfl) c1 rfl rfl) (KX.f rfl (KX.tr (KX.f rfl KX.rf) kr rfl rfl)) ?_ ?_ ?_ (kvx.kx c1 rfl) ?_ c2 (fun _ => e5)⟩)
      · rw [c1.1 46 rfl, kv.1 46 rfl, fup_s]
      · rw [fup_n (by decide), kr.1 54 rfl, fup_s]
      · rw [fup_s]
      · rw [e5]; exact z6
  · dsimp only
    exact JP.fin (kqj_X3_constant_19 _ F1 G1 CFS.rf) (nqj_value_24 _ _ _ F2 G2 MFS.rf) h (fun _ _ _ _ _ _ w => .inr w)
end JK5
