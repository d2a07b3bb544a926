theorem jRm.ru {m : Int} {F : PF} {x : Int32} (h : jRm m (fup F 21 x)) : jRm m F := by
  unfold jRm at h ⊢
  rw [fup_n (show (7 : Nat) ≠ 21 by decide), fup_n (show (6 : Nat) ≠ 21 by decide)] at h
  exact h
theorem kS_lg : ∀ w : Nat, (w = 14 ∨ w = 15) → (kS w = 43 ∨ kS w = 44) ∧ (lvS (nI w)).toInt ≤ 1 ∧ ((w = 14 ∧ 1 - lvS (nI w) = 1) ∨ (w = 15 ∧ 1 - lvS (nI w) = 0)) := by
  rintro w (rfl | rfl)
  · decide
  · decide
section JE20
variable {fu : Nat} {X : JCX} {p : Int32} {N K n q nf t i j : Nat} {s : SH} {Fc Fm : PF} {Gc Gm : PG} {rc : RC} {ag : Int32 → Int32 → PF → PG → PR} {f : Int32 × PF × PG → PR} {Q : Int32 → PF → PG → Int32 → PF → PG → Prop} {x2 y3 : Int32}
/-- what holds stronger than the next sign comes to its end, on both sides -/
theorem je_settle (I : jIn X p N K n q nf t i Fc Gc Fm Gm) (hxy : x2.toInt = y3.toInt + 1) (H : ∀ (ps : List JPE) (κ : Int) (F1 : PF) (G1 : PG) (F2 : PF) (G2 : PG), jCh X p N i j κ s (0 :: jPs s ps) ps 0 Fc Gc Fm Gm F1 G1 F2 G2 → κ + ps.length ≤ 0 → (∀ e l, ps = e :: l → (lvS (nI e.1)).toInt < y3.toInt) → JP (f (0, F1, G1)) (mb_chain_49 fu rc ag (Fm 70) y3 F2 G2) Q) : ∀ (ps : List JPE) (m mm : Nat) (κ : Int) (x3 : Int32) (F1 : PF) (G1 : PG) (F2 : PF) (G2 : PG), jCh X p N i j κ s (0 :: jPs s ps) ps 0 Fc Gc Fm Gm F1 G1 F2 G2 → κ + ps.length ≤ 0 → 0 ≤ x3.toInt → x3.toInt + jCn ps ≤ 4000 → JP ((cl_X3_settle_2 fu m (Fc 21) x2 x3 F1 G1).bind f) (ml_chain_19 fu rc ag mm (Fm 70) y3 F2 G2) Q := by
  have z1 := I.2.1.2.2.1.1
  have z2 := I.2.1.2.2.2.2.2
  have hp := I.1.2.1
  intro ps
  induction ps with
  | nil =>
    intro m mm κ x3 F1 G1 F2 G2 h hk h0 h3
    have e21 := h.2.1.1
    have e70 := h.2.2.1
    have c0 : jCn [] = 0 := rfl
    have c1 : ([] : List JPE).length = 0 := rfl
    cases mm with
    | zero => exact JP.noR
    | succ mm =>
      refine sl_stop (by omega) ?_
      show JP _ (mb_chain_19 fu rc ag (ml_chain_19 fu rc ag mm) (Fm 70) y3 F2 G2) _
      unfold mb_chain_19
      rw [if_pos (show F2 70 ≤ Fm 70 from i_le.mpr (by omega))]
      exact H [] κ F1 G1 F2 G2 h hk (fun e l z => by cases z)
  | cons e l ih =>
    intro m mm κ x3 F1 G1 F2 G2 h hk h0 h3
    have hl : (e :: l).length = l.length + 1 := rfl
    have hc : jCn (e :: l) = jCn l + (if e.1 = 14 ∨ e.1 = 15 then 2 else 1) := rfl
    have hps : jPs s (e :: l) = if e.1 = 14 ∨ e.1 = 15 then jPs s l else 0 :: jPs s l := rfl
    have hhs : jHs (e :: l) = if e.1 = 14 ∨ e.1 = 15 then e.2 :: jHs l else jHs l := rfl
    obtain ⟨h1, ⟨h2, h2'⟩, h4, h5, ⟨e1, e2, e3, e4⟩, e5⟩ := id h
    have I0 := I.next h1 (by omega)
    have p70 : (F2 70 - 1).toInt = (Fm 70).toInt + l.length := by
      have := i_subn (F2 70) (n := 1) (m := 1) rfl (by omega) (by have := i_rng (F2 70); omega)
      omega
    have q70 : (F2 70 - 1).toNatClampNeg = (Fm 70).toInt.toNat + l.length := by
      show (F2 70 - 1).toInt.toNat = _
      omega
    have c1 : 1 ≤ jCn (e :: l) := by
      rw [hc]
      by_cases g : e.1 = 14 ∨ e.1 = 15
      · rw [if_pos g]; omega
      · rw [if_neg g]; omega
    have p21 : (F1 21 - 1).toInt = (F1 21).toInt - 1 := i_subn _ rfl (by omega) (by have := i_rng (F1 21); omega)
    obtain ⟨v1, v2, v3⟩ := (kS_lv e.1 e1).2 e2
    have top : G1 20 (F1 21 - 1).toNatClampNeg = kS e.1 := by
      rcases e5 with ⟨g1, g2⟩ | ⟨g1, g2, -⟩
      · rw [if_neg g1] at hc
        rw [show (F1 21 - 1).toNatClampNeg = (Fc 21).toInt.toNat + jCn l by show (F1 21 - 1).toInt.toNat = _; omega]
        exact g2
      · rw [if_pos g1] at hc
        rw [show (F1 21 - 1).toNatClampNeg = (Fc 21).toInt.toNat + jCn l + 1 by show (F1 21 - 1).toInt.toNat = _; omega]
        exact g2
    have rm : jRm 1 F1 := (h1.room I.1 I.2.2 (by omega)).ru
    have x31 : (x3 + 1).toInt = x3.toInt + 1 := i_addn _ rfl (by omega) (by omega)
    cases mm with
    | zero => exact JP.noR
    | succ mm =>
      show JP _ (mb_chain_19 fu rc ag (ml_chain_19 fu rc ag mm) (Fm 70) y3 F2 G2) _
      unfold mb_chain_19
      rw [if_neg (show ¬ F2 70 ≤ Fm 70 from fun z => absurd (i_le.mp z) (by omega))]
      unfold mb_chain_27
      refine JP.ixR (fun _ => ?_)
      rw [q70, e4]
      refine JP.iteR (fun c => ?_) (fun c => ?_)
      · have c' := i_lt.mp c
        refine sl_weak (by omega) (by omega) (by rw [top]; omega) ?_
        refine H (e :: l) κ F1 G1 F2 G2 h hk (fun e' l' z => ?_)
        rw [← (List.cons.inj z).1]
        exact c'
      · have c' : y3.toInt ≤ (lvS (nI e.1)).toInt := by
          have := mt i_lt.mpr c
          omega
        unfold mb_chain_42
        rcases e5 with ⟨g1, g2⟩ | ⟨g1, g2, g3, g4, g5, g6, g7, g8, g9⟩
        · rw [if_neg g1] at hc hps hhs
          rw [hps, hhs] at h1
          obtain ⟨w1, w2, w3⟩ := lv_two e.1 e1 e2 g1
          refine sl_one (by omega) (by omega) (by omega) (by rw [top]; omega) (by rw [top]; exact w2) (by rw [top]; exact w3) rm ?_
          intro m' F' G' em
          refine JP.R (mp_bind1 (by rw [q70, e4]; omega)) ?_
          intro r F'' G'' mb
          rw [q70, e3] at mb
          rw [top] at em
          dsimp only
          unfold mb_chain_46
          have em' := em.rs (y := Fc 21)
          have mb' := mb.rs (y := Fm 70)
          have a1 : jAl X p N j j 0 1 (0 :: 0 :: jPs s l) (0 :: jPs s l) [] (fup F1 21 (Fc 21)) G1 (fup F2 70 (Fm 70)) G2 (fup F' 21 (Fc 21)) G' (fup F'' 70 (Fm 70)) G'' := by
            refine jAl.em (ws := [kS e.1]) I0.h7.1 I0.h7.2 h1.2.1 em' mb' (fun hp1 => ?_)
            have W := (em'.2.2 (I0.h7.2 hp1)).2.2
            exact .inr (.inl ⟨rfl, rfl, ⟨e.1, ⟨e1, w1⟩, rfl, W 0 (kS e.1) rfl⟩, jPs s l, rfl, rfl⟩)
          have f21 : F' 21 = F1 21 - 1 := by rw [em.1.1 21 rfl, fup_s]
          have f70 : F'' 70 = F2 70 - 1 := by rw [mb.1.1 70 rfl, fup_s]
          refine ih m' mm (κ + 1) (x3 + 1) F' G' F'' G'' ⟨(h1.tr a1).ca (by omega) (Int.le_refl _), ⟨by rw [f21]; omega, by rw [f21]; omega⟩, by rw [f70]; omega, h5.keep (fun k hk => by rw [em.1.2 20 rfl]) (fun k hk => ⟨by rw [mb.1.2 67 rfl], by rw [mb.1.2 68 rfl], by rw [mb.1.2 69 rfl]⟩)⟩ (by omega) (by omega) (by omega)
        · rw [if_pos g1] at hc hps hhs
          rw [hps, hhs] at h1
          obtain ⟨w1, w2, w3⟩ := kS_lg e.1 g1
          have p22 : (F1 21 - 1 - 1).toInt = (F1 21).toInt - 2 := by
            have := i_subn (F1 21 - 1) (n := 1) (m := 1) rfl (by omega) (by have := i_rng (F1 21 - 1); omega)
            omega
          refine sl_two (by omega) (by omega) (by omega) (by rw [top]; omega) (by rw [top]; exact w1) rm ?_
          intro m' F' G' em r F'' G'' ea
          have em' := em.rs (y := Fc 21)
          have f21 : F' 21 = F1 21 - 1 - 1 := by rw [em.1.1 21 rfl, fup_s]
          have i21 : (F' 21).toNatClampNeg = (Fc 21).toInt.toNat + jCn l := by
            rw [f21]
            show (F1 21 - 1 - 1).toInt.toNat = _
            omega
          rw [i21, em.1.2 20 rfl] at ea
          have f7 : fup F1 21 (F1 21 - 1 - 1) 7 = F1 7 := fup_n (by decide)
          have k7 : fup F1 21 (Fc 21) 7 = F1 7 := fup_n (by decide)
          have k6 : fup F1 21 (Fc 21) 6 = F1 6 := fup_n (by decide)
          have kw : wN (fup F1 21 (Fc 21)) = wN F1 := by show (fup F1 21 (Fc 21) 6).toNatClampNeg = _; rw [k6]
          have l6 : fup F' 21 (Fc 21) 6 = F' 6 := fup_n (by decide)
          have ai : F' = F'' ∧ (p = 0 → G' = G'') ∧ (p = 1 → G'' = gup G' 5 e.2.2.1 (F' 6)) := by
            rcases hp with z | z
            · rw [g5 z] at ea
              obtain ⟨u1, u2⟩ := cp_aim0 (-1) (F' 6) (by decide) F' G' r F'' G'' ea
              refine ⟨u1, fun _ => u2, fun y => ?_⟩
              rw [z] at y
              exact absurd y (by decide)
            · obtain ⟨-, u1, u2⟩ := h1.hole z (List.mem_cons_self ..)
              rw [kw] at u1
              have u1' : e.2.2.1 < (F1 6).toInt.toNat := u1
              have hz : F1 7 = 1 := by rw [← k7]; exact I0.h7.2 z
              have y3' := em'.2.2 (by rw [k7]; exact hz)
              rw [l6, k6, kw] at y3'
              have y4 : (F' 6).toInt = (F1 6).toInt + ((1 : Nat) : Int) := y3'.1
              have y5 := y3'.2.1 e.2.2.1 u1
              have rm' : (F1 6).toInt + 1 ≤ 8400 := by
                rcases rm with y | ⟨-, -, y⟩
                · rw [hz] at y
                  exact absurd y (by decide)
                · exact y
              have u3 : G1 5 e.2.2.1 = -1 := by rw [u2, g9]
              obtain ⟨u4, u5⟩ := cp_aim1 e.2.2.1 _ (F' 6) F' G' (g6 z) (by omega) (by omega) (y5.trans u3) r F'' G'' ea
              refine ⟨u4, fun y => ?_, fun _ => u5⟩
              rw [z] at y
              exact absurd y (by decide)
          obtain ⟨rfl, ai0, ai1⟩ := ai
          refine JP.R (mp_bind2 (hh := e.2.1) (by rw [q70, e4]; exact w2) (by rw [q70]; exact g3) g4) ?_
          rintro r' F4 G4 ⟨b1, b2, b3⟩
          rw [q70, e4] at b3
          dsimp only
          unfold mb_chain_46
          have s2 : sN (fup F2 70 (Fm 70)) = sN F2 := by show (fup F2 70 (Fm 70) 60).toNatClampNeg = _; rw [fup_n (by decide)]
          have b1' : KX [60] [56, 57, 58, 59] (fup F2 70 (Fm 70)) G2 (fup F4 70 (Fm 70)) G4 := by
            refine ⟨fun k hk => ?_, b1.2⟩
            by_cases y : k = 70
            · rw [y, fup_s, fup_s]
            · rw [fup_n y, fup_n y, b1.1 k hk, fup_n y]
          have a1 : jAl X p N i j 0 (κ + 1) s (0 :: jPs s l) (jHs l) Fc Gc Fm Gm (fup F' 21 (Fc 21)) G'' (fup F4 70 (Fm 70)) G4 := by
            refine jAl.lg (x := e.2) (v := 1 - lvS (nI e.1)) hp I0.h7.1 I0.h7.2 h1 em' ai0 (fun z => by rw [l6]; exact ai1 z) g7 ?_ (by rw [g9]) b1' ?_ (by rw [s2]; exact b3)
            · rcases w3 with ⟨y1, y2⟩ | ⟨y1, y2⟩
              · rw [g8, if_pos y1]
                exact .inl ⟨rfl, y2⟩
              · rw [g8, if_neg (show ¬ e.1 = 14 by omega)]
                exact .inr ⟨rfl, y2⟩
            · rw [fup_n (show (60 : Nat) ≠ 70 by decide), fup_n (show (60 : Nat) ≠ 70 by decide)]
              exact b2
          have f70 : F4 70 = F2 70 - 1 := by rw [b1.1 70 rfl, fup_s]
          have g20 : G'' 20 = G1 20 := by
            rcases hp with z | z
            · rw [← ai0 z, em.1.2 20 rfl]
            · rw [ai1 z, gup_o (show (20 : Nat) ≠ 5 by decide), em.1.2 20 rfl]
          refine ih m' mm (κ + 1) (x3 + 1) F' G'' F4 G4 ⟨a1, ⟨by rw [f21]; omega, by rw [f21]; omega⟩, by rw [f70]; omega, h5.keep (fun k hk => by rw [g20]) (fun k hk => ⟨by rw [b1.2 67 rfl], by rw [b1.2 68 rfl], by rw [b1.2 69 rfl]⟩)⟩ (by omega) (by omega) (by omega)
end JE20
