section JE22
variable {fu : Nat} {X : JCX} {p : Int32} {N K n q nf t i j j0 : Nat} {s : SH} {Fc Fm F4 : PF} {Gc Gm G4 : PG} {bb : PR} {f : Int32 × PF × PG → PR} {Q : Int32 → PF → PG → Int32 → PF → PG → Prop} {x2 : Int32} {ps : List JPE}
/-- the class gives the signs ahead of an operand their words -/
theorem je_peel {v : Nat → Int32} (I : jIn X p N K n q nf t i Fc Gc Fm Gm) (hx : x2.toInt ≤ 11) (H : ∀ (m : Nat) (κ : Int) (x3 : Int32) (F1 : PF) (G1 : PG), jCh X p N i j κ s (0 :: jPs s ps) ps 0 Fc Gc Fm Gm F1 G1 F4 G4 → κ + ps.length ≤ 0 → 0 ≤ x3.toInt → x3.toInt + jCn ps ≤ 4000 → JP ((cl_X3_settle_2 fu m (Fc 21) x2 x3 F1 G1).bind f) bb Q) : ∀ (us : List (Int32 × Int32)) (m : Nat) (κ : Int) (x3 : Int32) (F1 : PF) (G1 : PG) (F2 : PF) (G2 : PG), jCh X p N i j κ s (0 :: jPs s ps) ps us.length Fc Gc Fm Gm F1 G1 F2 G2 → κ + ps.length + us.length ≤ 0 → 0 ≤ x3.toInt → x3.toInt + jCn ps + us.length ≤ 4000 → jUs ((Fc 21).toInt.toNat + jCn ps) j0 (G1 20) v us → EML us F2 G2 F4 G4 → JP ((cl_X3_settle_2 fu m (Fc 21) x2 x3 F1 G1).bind f) bb Q := by
  have z1 := I.2.1.2.2.1.1
  obtain ⟨t1, t2, t3⟩ := jSt_a
  intro us
  induction us with
  | nil =>
    rintro m κ x3 F1 G1 F2 G2 h hk h0 h3 hu ⟨rfl, rfl⟩
    have hl : ([] : List (Int32 × Int32)).length = 0 := rfl
    exact H m κ x3 F1 G1 h (by omega) h0 (by omega)
  | cons e l ih =>
    rintro m κ x3 F1 G1 F2 G2 h hk h0 h3 ⟨u0, u1, u2, u3⟩ ⟨Fx, Gx, mx, ml⟩
    have hl : (e :: l).length = l.length + 1 := rfl
    obtain ⟨h1, ⟨h2, h2'⟩, h4, h5⟩ := id h
    have S0 := I.1.keep h1.1.1 h1.1.2
    have I0 := I.next h1 (by omega)
    have rm : jRm 1 F1 := (h1.room I.1 I.2.2 (by omega)).ru
    have p21 : (F1 21 - 1).toInt = (F1 21).toInt - 1 := i_subn _ rfl (by omega) (by have := i_rng (F1 21); omega)
    have top : G1 20 (F1 21 - 1).toNatClampNeg = e.1 := by
      rw [show (F1 21 - 1).toNatClampNeg = (Fc 21).toInt.toNat + jCn ps + l.length by show (F1 21 - 1).toInt.toNat = _; omega]
      exact u1
    have st : (jSt e.1).toInt = 11 ∧ ¬ e.1 = 43 ∧ ¬ e.1 = 44 := by
      rcases u3 with ⟨-, z⟩ | ⟨-, z⟩ | ⟨-, z⟩
      · rw [z]; exact ⟨t3, by decide, by decide⟩
      · rw [z]; exact ⟨t1, by decide, by decide⟩
      · rw [z]; exact ⟨t2, by decide, by decide⟩
    have x31 : (x3 + 1).toInt = x3.toInt + 1 := i_addn _ rfl (by omega) (by omega)
    refine sl_one (by omega) (by omega) (by omega) (by rw [top]; omega) (by rw [top]; exact st.2.1) (by rw [top]; exact st.2.2) rm ?_
    intro m' F' G' em
    rw [top] at em
    have em' := em.rs (y := Fc 21)
    have mx1 : EMM 11 e.2 0 (fup F2 70 (F2 70)) G2 Fx Gx := by
      rw [fup_sm]
      exact mx
    have mx' := mx1.rs (y := Fm 70)
    have a1 : jAl X p N j j 0 1 (0 :: jPs s ps) (0 :: jPs s ps) [] (fup F1 21 (Fc 21)) G1 (fup F2 70 (Fm 70)) G2 (fup F' 21 (Fc 21)) G' (fup Fx 70 (Fm 70)) Gx := by
      refine jAl.em (ws := [e.1]) I0.h7.1 I0.h7.2 h1.2.1 em' mx' (fun hp1 => ?_)
      have W : G' 5 (wN (fup F1 21 (Fc 21)) + 0) = e.1 := (em'.2.2 (I0.h7.2 hp1)).2.2 0 e.1 rfl
      refine .inr (.inr (.inl ⟨rfl, rfl, ?_, jPs s ps, rfl, rfl⟩))
      rcases u3 with ⟨y, z⟩ | ⟨y, z⟩ | ⟨y, z⟩
      · exact .inl ⟨y, W.trans z⟩
      · exact .inr (.inl ⟨y, W.trans z⟩)
      · exact .inr (.inr ⟨y, W.trans z⟩)
    have f21 : F' 21 = F1 21 - 1 := by rw [em.1.1 21 rfl, fup_s]
    have f70 : Fx 70 = F2 70 := mx.1.1 70 rfl
    refine ih m' (κ + 1) (x3 + 1) F' G' Fx Gx ⟨(h1.tr a1).ca (by omega) (Int.le_refl _), ⟨by rw [f21]; omega, by rw [f21]; omega⟩, by rw [f70]; omega, h5.keep (fun k hk => by rw [em.1.2 20 rfl]) (fun k hk => ⟨by rw [mx.1.2 67 rfl], by rw [mx.1.2 68 rfl], by rw [mx.1.2 69 rfl]⟩)⟩ (by omega) (by omega) (by omega) (u0.keep (fun k hk => by rw [em.1.2 20 rfl])) ml
/-- a sign between operands, or none -/
theorem jIn.lv {Fc Fm : PF} {Gc Gm : PG} (I : jIn X p N K n q nf t i Fc Gc Fm Gm) : (∃ v : Nat, v < 45 ∧ ¬ lvS (nI v) = -1 ∧ Gm 4 i = 4 ∧ Gm 5 i = nI v ∧ Fc 11 = kS v ∧ lvl (Gm 4) (Gm 5) (Fm 42) = lvS (nI v)) ∨ (lvl (Gm 4) (Gm 5) (Fm 42) = -1 ∧ ¬ (43 ≤ (Fc 11).toInt ∧ (Fc 11).toInt ≤ 61)) := by
  have ix := I.2.1.1.ix I.1.1
  have tk := I.2.1.1.tk I.1.1
  unfold lvl
  rw [ix]
  have no : ¬ Gm 4 i = 4 → (Fc 11).toInt < 43 → (∃ v : Nat, v < 45 ∧ ¬ lvS (nI v) = -1 ∧ Gm 4 i = 4 ∧ Gm 5 i = nI v ∧ Fc 11 = kS v ∧ (if Gm 4 i = 4 then lvS (Gm 5 i) else -1) = lvS (nI v)) ∨ ((if Gm 4 i = 4 then lvS (Gm 5 i) else -1) = -1 ∧ ¬ (43 ≤ (Fc 11).toInt ∧ (Fc 11).toInt ≤ 61)) := fun a b => .inr ⟨if_neg a, by omega⟩
  rcases tk with ⟨-, ⟨m, c, -⟩ | ⟨m, w, w0, -, c⟩ | ⟨m, c, -⟩ | ⟨m, w, w0, w1, c⟩⟩ | ⟨c, m, -⟩
  · exact no (by rw [m]; decide) (by rw [c]; decide)
  · refine no (by rw [m]; decide) ?_
    rw [c, nI_toInt (by omega)]
    omega
  · exact no (by rw [m]; decide) (by rw [c]; decide)
  · obtain ⟨k1, k2⟩ := kS_lv w w0
    by_cases z : lvS (nI w) = -1
    · refine .inr ⟨by rw [if_pos m, w1, z], ?_⟩
      rw [c]
      exact fun y => k1.mp y z
    · exact .inl ⟨w, w0, z, m, w1, c, by rw [if_pos m, w1]⟩
  · exact no (by rw [m]; decide) (by rw [c]; decide)
end JE22
