section JV7
variable {fu : Nat} {X : JCX} {p : Int32} {N K n q nf t i j f n0 : Nat} {φ : Nat → Nat} {cid pl x1 x2 x3 x4 ck b r : Int32} {F Fa Fb Fc Fm F1 F2 F3 F4 F5 : PF} {G Ga Gb Gc Gm G1 G2 G3 G4 G5 : PG}
theorem mt_i276 (F : PF) (G : PG) : mb_tells_276 fu 1 F G = (mf_sign fu 29 F G).bind (fun q => mb_tells_285 fu q.1 q.2.1 q.2.2) := by
  unfold mb_tells_276 mb_tells_279
  rw [if_neg i10n]
theorem mt_i285 (F : PF) (G : PG) : mb_tells_285 fu 1 F G = some (1, F, G) := by
  unfold mb_tells_285
  rw [if_neg i10n]
  rfl
/-- the reference tells an array, and goes on -/
theorem mt_a443 {r4 : Int32} (n4 : ¬ r4 = -1) (F : PF) (G : PG) : (mb_array_443 fu x3 b r4 x4 F G).bind (fun q => mb_tells_276 fu q.1 q.2.1 q.2.2) = (mf_declare fu x3 2 b x4 r4 0 F G).bind (fun q => (mf_sign fu 29 q.2.1 q.2.2).bind (fun q => mb_tells_285 fu q.1 q.2.1 q.2.2)) := by
  unfold mb_array_443 mb_array_458 mb_array_459
  rw [if_neg n4, Option.bind_assoc]
  congr 1
/-- an array between two functions -/
theorem jt_arr (M : jNg X p N K n q nf t n0 f φ cid pl x3 Fa Ga Fb Gb) (hk : ∃ kk : Nat, (kk = 1 ∧ ck = 2 ∧ b = 0) ∨ (kk = 2 ∧ ck = 3 ∧ b = 1)) (h21 : Fa 11 = 21) : JP (cf_X4_globalArray fu cid pl ck Fa Ga) (mb_tells_269 fu b x3 Fb Gb) (fun _ F1 G1 r2 F2 G2 => jOt X p N K n q nf n0 f φ Fa Ga Fb Gb r2 F1 G1 F2 G2) := by
  have T := M.1
  have hp := T.1.1.2.1
  have C := T.1.2.1.1
  have ix := C.ix T.1.1.1
  have o0 := C.2.2.2.2.1
  have l2 : (2000 : Int32).toInt = 2000 := rfl
  obtain ⟨kk, hk⟩ := hk
  -- the class tells at the end, whatever stands there
  have c53 : ∀ (sz fst : Int32) (F3 : PF) (G3 : PG), KX jXT jYT Fa Ga F3 G3 → ∀ r : Int32, jKn K (q + t) cid pl r Fa Ga → jHre (q + t) (Fa 42) pl r Ga → PP (cb_X4_globalArray_53 fu cid pl ck sz fst F3 G3) (fun _ F' _ => (F' 43).toInt ≤ 4000) := by
    intro sz fst F3 G3 k3 r kn hh
    unfold cb_X4_globalArray_53
    refine PP.bind (cw_X2_expect 26 F3 G3) ?_
    rintro re F5 G5 ke
    dsimp only
    unfold cb_X4_globalArray_62
    have kh : KX jXT jYT Fa Ga F5 G5 := KX.tr k3 ke rfl rfl
    obtain ⟨⟨k1, k2⟩, ⟨k3, k4⟩, k5, k6, k7, k8⟩ := kn.kx kh rfl rfl
    refine PP.bind (cp_tell cid pl ck fst sz k1 (by omega) k3 k4 k5 k6 k7 k8) ?_
    rintro rt F7 G7 ⟨hi, -⟩
    refine PP.ret (hi ?_)
    obtain ⟨jj, z1, z2, z3, z4⟩ := hh
    exact ⟨jj, z1, z2, by rw [kh.2 34 rfl, kh.1 42 rfl]; exact z3, by rw [kh.2 35 rfl, kh.2 36 rfl]; exact z4⟩
  -- where it may be told
  have main : (p = 1 → ¬ jTw nf t x3 Fb Gb) → JP (cf_X4_globalArray fu cid pl ck Fa Ga) ((mb_array_5 fu x3 b Fb Gb).bind (fun q => mb_tells_276 fu q.1 q.2.1 q.2.2)) (fun _ F1 G1 r2 F2 G2 => jOt X p N K n q nf n0 f φ Fa Ga Fb Gb r2 F1 G1 F2 G2) := by
    intro nt
    unfold cf_X4_globalArray cb_X4_globalArray_0 cf_X3_arraySize cb_X3_arraySize_0 mb_array_5
    rw [Option.bind_assoc, Option.bind_assoc]
    refine JP.both (jo_open T.1.1.1 C (w := 24) (by decide) (by decide) (by decide)) ?_
    rintro r1 F1 G1 r2 F2 G2 (⟨rfl, rfl, hz, o⟩ | o)
    · dsimp only
      have li := C.ltS T.1.1.1 hz
      obtain ⟨s4, s5⟩ := of_decide_eq_true hz
      rw [ix] at s4 s5
      have s22 : ¬ Gb 5 (n0 + 1) = 22 := by rw [s5]; decide
      have e5 := jAl.on (X := X) (p := p) (s := []) T.1.1 T.1.2.1 li (T.1.1.t1 li) o
      have T1 := T.al e5 (by omega)
      unfold cb_X3_arraySize_9 mb_array_11
      rw [if_neg i10n, if_neg i10n]
      unfold mb_array_16
      rw [Option.bind_assoc]
      refine JP.abL (jk_size (b := fun q => (mb_array_20 fu x3 b q.1 q.2.1 q.2.2).bind (fun q => mb_tells_276 fu q.1 q.2.1 q.2.2)) T1.1 T1.2.1.2.2.1 T1.2.1.2.2.2 (fun r3 F3 G3 r4 F4 G4 h s E H e => .inr (h.st (kqj_X4_globalArray_7 cid pl ck r3 F3 G3 CFS.rf s E H e) MFS.rf)) (fun F0 r F G y => PP.bind (nqj_array_20 x3 b r F G y) (fun r1 F1 G1 w => nqj_tells_276 r1 F1 G1 w)) ?_)
      intro r3 j F3 G3 r4 F4 G4 ha hr0 hr1
      refine JP.unL (k := fun q => cb_X4_globalArray_7 fu cid pl ck q.1 q.2.1 q.2.2) (Q := fun _ F1 G1 r2 F2 G2 => jOt X p N K n q nf n0 f φ Fa Ga Fb Gb r2 F1 G1 F2 G2) ?_
      dsimp only
      have T2 := T1.ak ha
      unfold cb_X3_arraySize_80 mb_array_20
      rw [Option.bind_assoc, Option.bind_assoc]
      have d10 : (F3 10).toInt = (Fa 10).toInt + 1 := by
        have y1 := ha.2.2.2.1
        have y2 := e5.2.2.2.1
        omega
      refine JP.both (jo_close T2.1.1.1 T2.1.2.1.1 (by omega) (w := 25) (by decide) (by decide) (by decide)) ?_
      rintro r5 F5 G5 r6 F6 G6 (⟨rfl, hy, o2⟩ | o2)
      · dsimp only
        have lj := T2.1.2.1.1.ltS T2.1.1.1 hy
        have e6 := jAl.on (X := X) (p := p) (s := []) T2.1.1 T2.1.2.1 lj (T2.1.1.t1 lj) o2
        have T3 := T2.al e6 (by omega)
        have ij : n0 + 1 + 1 ≤ j := ha.2.2.1.1
        have d5 : (F5 10).toInt = (Fa 10).toInt := by
          have y3 := e6.2.2.2.1
          omega
        have kc5 : KX jXe [5, 20, 55] Fa Ga F5 G5 := KX.tr (KX.tr (KX.tr KX.rf e5.1.1 rfl rfl) ha.1.1 rfl rfl) e6.1.1 rfl rfl
        have km6 : KX jZe [56, 57, 58, 59, 67, 68, 69, 71] Fb Gb F6 G6 := KX.tr (KX.tr (KX.tr KX.rf e5.1.2 rfl rfl) ha.1.2 rfl rfl) e6.1.2 rfl rfl
        unfold cb_X3_arraySize_89 mb_array_27
        rw [if_neg i10n]
        show JP (cb_X4_globalArray_7 fu cid pl ck r3 F5 G5) _ _
        have n4 : ¬ r4 = -1 := by
          rcases hp with z | z
          · rw [(hr0 z).2]
            decide
          · obtain ⟨y1, y2, -⟩ := hr1 z
            intro y
            rw [← y1] at y
            rw [y] at y2
            exact absurd y2 (by decide)
        unfold mb_array_32
        rw [if_neg n4]
        -- the words
        obtain ⟨wm, hwm, hm47⟩ : ∃ wm : Int32, ((kk = 1 ∧ wm = r4) ∨ (kk = 2 ∧ wm = (r4 + 3) / 4)) ∧ mb_array_47 fu x3 b r4 (F6 37) F6 G6 = mb_array_60 fu x3 b r4 (F6 37) wm F6 G6 := by
          rcases hk with ⟨z1, -, z3⟩ | ⟨z1, -, z3⟩
          · refine ⟨r4, .inl ⟨z1, rfl⟩, ?_⟩
            unfold mb_array_47 mb_array_59
            rw [if_pos z3]
          · refine ⟨(r4 + 3) / 4, .inr ⟨z1, rfl⟩, ?_⟩
            unfold mb_array_47 mb_array_51
            rw [if_neg (show ¬ b = 0 by rw [z3]; decide)]
        rw [hm47]
        have wmI : p = 1 → wm = nI (joW (kk, r4.toInt.toNat)) := fun z => by
          obtain ⟨er, y1, y2⟩ := hr1 z
          have wI : wm.toInt = ((joW (kk, r4.toInt.toNat) : Nat) : Int) ∧ joW (kk, r4.toInt.toNat) ≤ 500 := by
            have rr : (r4.toInt.toNat : Int) = r4.toInt := by rw [← er]; omega
            rw [← er] at rr ⊢
            rcases hwm with ⟨z1, z2⟩ | ⟨z1, z2⟩
            · rw [z1, z2, ← er]
              show r3.toInt = ((r3.toInt.toNat : Nat) : Int) ∧ r3.toInt.toNat ≤ 500
              omega
            · rw [z1, z2, ← er, quart (by omega) (by omega)]
              show (r3.toInt + 3) / 4 = (((r3.toInt.toNat + 3) / 4 : Nat) : Int) ∧ (r3.toInt.toNat + 3) / 4 ≤ 500
              omega
          exact i_eq.mpr (by rw [wI.1, nI_toInt (by omega)])
        have fits : p = 1 → (Fa 75 + wm) ≤ 2000 → jsW X.2.1 + joW (kk, r4.toInt.toNat) ≤ 2000 := fun z h5 => by
          obtain ⟨er, y1, y2⟩ := hr1 z
          obtain ⟨-, w1, w2, w3, w4⟩ := M.2.2.2 z
          have wI : wm.toInt = ((joW (kk, r4.toInt.toNat) : Nat) : Int) ∧ joW (kk, r4.toInt.toNat) ≤ 500 := by
            have rr : (r4.toInt.toNat : Int) = r4.toInt := by rw [← er]; omega
            rw [← er] at rr ⊢
            rcases hwm with ⟨z1, z2⟩ | ⟨z1, z2⟩
            · rw [z1, z2, ← er]
              show r3.toInt = ((r3.toInt.toNat : Nat) : Int) ∧ r3.toInt.toNat ≤ 500
              omega
            · rw [z1, z2, ← er, quart (by omega) (by omega)]
              show (r3.toInt + 3) / 4 = (((r3.toInt.toNat + 3) / 4 : Nat) : Int) ∧ (r3.toInt.toNat + 3) / 4 ≤ 500
              omega
          have a1 : (Fa 75 + wm).toInt = (jsW X.2.1 : Int) + ((joW (kk, r4.toInt.toNat) : Nat) : Int) := by rw [i_addn _ wI.1 (by omega) (by omega), w2]
          have := i_le.mp h5
          omega
        -- the end of both
        have fin : ∀ (j' : Nat) (first : Int32) (Fx : PF) (Gx : PG) (Fy : PF) (Gy : PG), jGs X p N K n q nf t j' f φ Fx Gx Fy Gy → n0 < j' → KX jXT jYT Fa Ga Fx Gx → KX jZT jWT Fb Gb Fy Gy → (Fx 10).toInt = (Fa 10).toInt → (p = 1 → first = Fa 75 ∧ Fx 75 = Fa 75 + wm ∧ Fy 36 = Fb 36 + wm ∧ Fy 37 = Fb 37 + r4 ∧ (Fa 75 + wm) ≤ 2000 ∧ jF0 (X.2.1 ++ [(kk, r4.toInt.toNat)]) (Gx 86) (Gy 41) ∧ jL0 (X.2.1 ++ [(kk, r4.toInt.toNat)]) (Gy 38) (Gy 39) (Gy 40)) → JP (cb_X4_globalArray_53 fu cid pl ck r3 first Fx Gx) ((mb_array_443 fu x3 b r4 (F6 37) Fy Gy).bind (fun q => mb_tells_276 fu q.1 q.2.1 q.2.2)) (fun _ F1 G1 r2 F2 G2 => jOt X p N K n q nf n0 f φ Fa Ga Fb Gb r2 F1 G1 F2 G2) := by
          intro j' first Fx Gx Fy Gy Tx nj kx ky e10 hw
          rw [mt_a443 n4]
          refine jt_tail (kk := fun q => mb_tells_285 fu q.1 q.2.1 q.2.2) (m := [(kk, r4.toInt.toNat)]) M Tx nj e10 kx ky (fun _ => ⟨s4, s22⟩) (fun z => ?_) (fun z => ?_) nt (fun F G => mt_i285 F G) (fun r F G => nqj_tells_285 r F G MFS.rf)
          · obtain ⟨h1, h2, h3, h4, h5, h6⟩ := hw z
            obtain ⟨er, y1, y2⟩ := hr1 z
            obtain ⟨-, w1, w2, w3, w4⟩ := M.2.2.2 z
            have c4 := jsC_4 X.2.1
            have rr : (r4.toInt.toNat : Int) = r4.toInt := by rw [← er]; omega
            have wI : wm.toInt = ((joW (kk, r4.toInt.toNat) : Nat) : Int) ∧ joC (kk, r4.toInt.toNat) = r4.toInt.toNat ∧ joW (kk, r4.toInt.toNat) ≤ 500 := by
              rw [← er] at rr ⊢
              rcases hwm with ⟨z1, z2⟩ | ⟨z1, z2⟩
              · rw [z1, z2, ← er]
                show r3.toInt = ((r3.toInt.toNat : Nat) : Int) ∧ r3.toInt.toNat = r3.toInt.toNat ∧ r3.toInt.toNat ≤ 500
                omega
              · rw [z1, z2, ← er, quart (by omega) (by omega)]
                show (r3.toInt + 3) / 4 = (((r3.toInt.toNat + 3) / 4 : Nat) : Int) ∧ r3.toInt.toNat = r3.toInt.toNat ∧ (r3.toInt.toNat + 3) / 4 ≤ 500
                omega
            obtain ⟨wI, cI, w5⟩ := wI
            have a1 : (Fa 75 + wm).toInt = (jsW X.2.1 : Int) + ((joW (kk, r4.toInt.toNat) : Nat) : Int) := by rw [i_addn _ wI (by omega) (by omega), w2]
            have eW : jsW (X.2.1 ++ [(kk, r4.toInt.toNat)]) = jsW X.2.1 + joW (kk, r4.toInt.toNat) := by
              rw [jsW_app]
              show jsW X.2.1 + (joW (kk, r4.toInt.toNat) + 0) = _
              rw [Nat.add_zero]
            have eC : jsC (X.2.1 ++ [(kk, r4.toInt.toNat)]) = jsC X.2.1 + r4.toInt.toNat := by
              rw [jsC_app]
              show jsC X.2.1 + (joC (kk, r4.toInt.toNat) + 0) = _
              rw [Nat.add_zero, cI]
            refine ⟨?_, ?_, ?_, ?_, h6⟩
            · rw [h2, h3, w1]
            · show (Fx 75).toInt = ((jsW (X.2.1 ++ [(kk, r4.toInt.toNat)]) : Nat) : Int)
              rw [h2, a1, eW]
              omega
            · show (Fy 37).toInt = ((jsC (X.2.1 ++ [(kk, r4.toInt.toNat)]) : Nat) : Int)
              rw [h4, i_addn (m := r4.toInt) _ rfl (by rw [← er]; omega) (by rw [← er]; omega), w3, eC]
              omega
            · show jsW (X.2.1 ++ [(kk, r4.toInt.toNat)]) ≤ 2000
              have := i_le.mp h5
              rw [eW]
              omega
          · obtain ⟨h1, -⟩ := hw z
            obtain ⟨er, y1, y2⟩ := hr1 z
            obtain ⟨-, w1, w2, w3, w4⟩ := M.2.2.2 z
            have c4 := jsC_4 X.2.1
            have e4 : r4 = nI r4.toInt.toNat := (jnI (by rw [← er]; omega)).symm
            refine .inr (.inr ⟨kk, ?_, ?_, rfl, ?_, .inr ⟨r4.toInt.toNat, by rw [← er]; omega, by rw [← er]; omega, e4, by rw [er]; exact e4, .inl ⟨rfl, by decide, jsC X.2.1, jsW X.2.1, ⟨X.2.1, [], rfl, rfl, rfl⟩, ?_, ?_⟩⟩⟩)
            · rcases hk with ⟨z1, -⟩ | ⟨z1, -⟩
              · exact .inl z1
              · exact .inr z1
            · rcases hk with ⟨z1, z2, -⟩ | ⟨z1, z2, -⟩ <;> rw [z1, z2] <;> decide
            · rcases hk with ⟨z1, -, z3⟩ | ⟨z1, -, z3⟩ <;> rw [z1, z3] <;> decide
            · rw [km6.1 37 rfl]
              exact i_eq.mpr (by rw [w3, nI_toInt (show jsC X.2.1 < 2 ^ 31 by omega)])
            · rw [h1]
              exact i_eq.mpr (by rw [w2, nI_toInt (show jsW X.2.1 < 2 ^ 31 by omega)])
        -- behind the room
        have rest : ∀ (first x7 : Int32) (F7 : PF) (F8 : PF) (G8 : PG), KX [75] [] F5 G5 F7 G5 → KX [36, 37] [38, 39, 40, 41] F6 G6 F8 G8 → (p = 1 → first = Fa 75 ∧ F7 75 = Fa 75 + wm ∧ F8 36 = Fb 36 + wm ∧ F8 37 = Fb 37 + r4 ∧ (Fa 75 + wm) ≤ 2000 ∧ (jF0 (X.2.1 ++ [(kk, r4.toInt.toNat)]) (G5 86) (G8 41) ∧ jL0 (X.2.1 ++ [(kk, r4.toInt.toNat)]) (G8 38) (G8 39) (G8 40)) ∧ x7 = r4) → JP (cb_X4_globalArray_23 fu cid pl ck r3 first F7 G5) ((mb_array_261 fu x3 b r4 (F6 37) x7 F8 G8).bind (fun q => mb_tells_276 fu q.1 q.2.1 q.2.2)) (fun _ F1 G1 r2 F2 G2 => jOt X p N K n q nf n0 f φ Fa Ga Fb Gb r2 F1 G1 F2 G2) := by
          intro first x7 F7 F8 G8 k7 k8 hw
          have T4 : jGs X p N K n q nf t (j + 1) f φ F7 G5 F8 G8 := by
            have T4' := T3.rg k8
            refine T4'.mv (KX.tr KX.rf k7 rfl rfl) KX.rf ?_ T4'.2.1.2.2.1 (T4'.2.1.2.2.2.kx k7 rfl) ?_ ?_ (Nat.le_refl _) (fun _ => jCB.of rfl (k7.1 6 rfl) rfl (fun _ _ _ => rfl))
            · rw [k7.1 46 rfl]; exact T4'.x0
            · have D := T4'.1.2.1
              unfold jD CU at D ⊢
              rw [k7.1 9 rfl, k7.1 10 rfl, k7.1 11 rfl, k7.1 12 rfl, k7.1 13 rfl, k7.1 14 rfl, k7.1 43 rfl, k7.1 47 rfl, k7.1 21 rfl, k7.1 6 rfl]
              exact D
            · rw [k7.1 6 rfl]; exact T4'.1.2.2
          have d7 : (F7 10).toInt = (Fa 10).toInt := by rw [k7.1 10 rfl]; exact d5
          have kc7 : KX jXT jYT Fa Ga F7 G5 := KX.tr (KX.tr KX.rf kc5 rfl rfl) k7 rfl rfl
          have km8 : KX jZT jWT Fb Gb F8 G8 := KX.tr (KX.tr KX.rf km6 rfl rfl) k8 rfl rfl
          have sg := T4.1.sg (w := 32) (a := 29) (b := 32) (by decide) (by decide) (by decide)
          unfold cb_X4_globalArray_23 mb_array_261
          refine JP.isSS (fun hc => ?_) (fun hc => ?_)
          · rw [if_pos (sg.mpr hc)]
            have l4 := T4.1.2.1.1.ltS T4.1.1.1 hc
            unfold cb_X4_globalArray_37 mb_array_267 mb_array_270
            rw [if_neg i10n]
            refine JP.L (jo_next T4.1.1.1 T4.1.2.1.1 l4) ?_
            rintro rn F9 G9 (o3 | o3)
            · dsimp only
              have e7 := jAl.on (X := X) (p := p) (s := []) T4.1.1 T4.1.2.1 l4 (T4.1.1.t1 l4) o3
              have T5 := T4.al e7 (by omega)
              generalize fup F8 42 (F8 42 + 1) = Fe at e7 T5 ⊢
              unfold cb_X4_globalArray_44 cf_X4_elements cb_X4_elements_0 mb_array_280
              rw [Option.bind_assoc, Option.bind_assoc]
              refine JP.both (jo_open T5.1.1.1 T5.1.2.1.1 (w := 26) (by decide) (by decide) (by decide)) ?_
              rintro ra Fg Gg rb Fh Gh (⟨rfl, rfl, hb, o4⟩ | o4)
              · dsimp only
                have l5 := T5.1.2.1.1.ltS T5.1.1.1 hb
                have e8 := jAl.on (X := X) (p := p) (s := []) T5.1.1 T5.1.2.1 l5 (T5.1.1.t1 l5) o4
                have T6 := T5.al e8 (by omega)
                unfold cb_X4_elements_9 mb_array_286
                rw [if_neg i10n, if_neg i10n]
                unfold cb_X4_elements_13 mb_array_291
                have d9 : (Fg 10).toInt = (Fa 10).toInt + 1 := by
                  have y1 := e7.2.2.2.1
                  have y2 := e8.2.2.2.1
                  omega
                have m5 : p = 1 → min r4.toInt.toNat 500 = r4.toInt.toNat := fun z => by
                  obtain ⟨er, y1, y2⟩ := hr1 z
                  rw [← er]
                  omega
                have hfe : p = 1 → ((kk = 1 ∧ ck = 2 ∧ b = 0) ∨ (kk = 2 ∧ ck = 3 ∧ b = 1)) ∧ first = nI (jsW X.2.1) ∧ F6 37 = nI (jsC X.2.1) ∧ x7 = r4 ∧ jsW (X.2.1 ++ [(kk, min r4.toInt.toNat 500)]) ≤ 2000 := fun z => by
                  obtain ⟨h1, h2, h3, h4, h5, h6, h7⟩ := hw z
                  obtain ⟨er, y1, y2⟩ := hr1 z
                  obtain ⟨-, w1, w2, w3, w4⟩ := M.2.2.2 z
                  have c4 := jsC_4 X.2.1
                  refine ⟨hk, ?_, ?_, h7, ?_⟩
                  · rw [h1]
                    exact i_eq.mpr (by rw [w2, nI_toInt (by omega)])
                  · rw [km6.1 37 rfl]
                    exact i_eq.mpr (by rw [w3, nI_toInt (by omega)])
                  · rw [m5 z, jsW_1]
                    exact fits z h5
                have f0e : p = 1 → jF0 (X.2.1 ++ [(kk, min r4.toInt.toNat 500)]) (Gg 86) (Gh 41) := fun z => by
                  obtain ⟨h1, h2, h3, h4, h5, h6, h7⟩ := hw z
                  rw [m5 z, e8.1.1.2 86 rfl, e7.1.1.2 86 rfl, e8.1.2.2 41 rfl]
                  exact h6.1
                refine jt_els (kk := kk) (kc := fun q => cb_X4_globalArray_53 fu cid pl ck r3 first q.2.1 q.2.2) (sz := min r4.toInt.toNat 500) (js := j + 1 + 1 + 1) (Fs := Fg) (Gs := Gg) (Ft := Fh) (Gt := Gh) (fun _ _ _ _ _ _ w => .inr w) (fun F0 r F G w => kqj_X4_globalArray_53 cid pl ck r3 first F G w) (fun F0 r F G w => nqj_tells_276 r F G w) (fun z => ?_) (by omega) n4 hfe ?_ (by omega) fu fu 0 (j + 1 + 1 + 1) Fg Gg Fh Gh T6 (by omega) (Nat.le_refl _) KX.rf KX.rf rfl (fun _ => Nat.zero_le _) f0e
                · obtain ⟨er, y1, y2⟩ := hr1 z
                  have m5 : min r4.toInt.toNat 500 = r4.toInt.toNat := by rw [← er]; omega
                  rw [m5, er]
                  exact ⟨(jnI (by rw [← er]; omega)).symm, (jnI (by rw [← er]; omega)).symm⟩
                · intro j' Fi Gi Fj Gj Ti jj ki kj e10 f0
                  refine fin j' first Fi Gi Fj Gj Ti (by omega) (KX.tr (KX.tr (KX.tr kc7 e7.1.1 rfl rfl) e8.1.1 rfl rfl) ki rfl rfl) (KX.tr (KX.tr (KX.tr km8 e7.1.2 rfl rfl) e8.1.2 rfl rfl) kj rfl rfl) (by omega) (fun z => ?_)
                  obtain ⟨h1, h2, h3, h4, h5, h6, h7⟩ := hw z
                  refine ⟨h1, ?_, ?_, ?_, h5, by have q := f0 z; rw [m5 z] at q; exact q, by rw [kj.2 38 rfl, kj.2 39 rfl, kj.2 40 rfl, e8.1.2.2 38 rfl, e8.1.2.2 39 rfl, e8.1.2.2 40 rfl]; exact h6.2⟩
                  · rw [ki.1 75 rfl, e8.1.1.1 75 rfl, e7.1.1.1 75 rfl, h2]
                  · rw [kj.1 36 rfl, e8.1.2.1 36 rfl, e7.1.2.1 36 rfl, h3]
                  · rw [kj.1 37 rfl, e8.1.2.1 37 rfl, e7.1.2.1 37 rfl, h4]
              · dsimp only
                exact JP.fin (PP.bind (kqj_X4_elements_9 ck first r3 ra Fg Gg CFS.rf) (fun r F G w => kqj_X4_globalArray_53 cid pl ck r3 first F G w)) (PP.bind (nqj_array_286 x3 b r4 (F6 37) x7 rb Fh Gh MFS.rf) (fun r F G w => nqj_tells_276 r F G w)) (.inr o4) (fun _ _ _ _ _ _ w => .inr w)
            · dsimp only
              exact JP.fin (kqj_X4_globalArray_44 cid pl ck r3 first F9 G9 CFS.rf) (PP.bind (nqj_array_280 x3 b r4 (F6 37) x7 _ G8 MFS.rf) (fun r F G w => nqj_tells_276 r F G w)) (.inr o3) (fun _ _ _ _ _ _ w => .inr w)
          · rw [if_neg (fun z => by rw [sg.mp z] at hc; cases hc)]
            unfold mb_array_267
            rw [if_pos rfl]
            exact fin (j + 1) first F7 G5 F8 G8 T4 (by omega) kc7 km8 d7 (fun z => by obtain ⟨h1, h2, h3, h4, h5, h6, h7⟩ := hw z; exact ⟨h1, h2, h3, h4, h5, h6⟩)
        -- room
        unfold cb_X4_globalArray_7
        refine JP.L (cp_words ck r3 F5 G5) ?_
        rintro wc _ _ ⟨rfl, rfl, hwc⟩
        dsimp only
        unfold cb_X4_globalArray_19 mb_array_60
        rcases hp with z | z
        · refine JP.L (cp_groom wc pl F5 G5) ?_
          rintro rg F7 G7 ⟨-, rfl, e, -⟩
          obtain rfl := e (by rw [T3.1.1.2.2.1.2.1, z])
          dsimp only
          have go : ∀ x6 : Int32, JP (cb_X4_globalArray_23 fu cid pl ck r3 rg F5 G5) ((mb_array_99 fu x3 b r4 (F6 37) wm x6 F6 G6).bind (fun q => mb_tells_276 fu q.1 q.2.1 q.2.2)) (fun _ F1 G1 r2 F2 G2 => jOt X p N K n q nf n0 f φ Fa Ga Fb Gb r2 F1 G1 F2 G2) := fun x6 => mp_ar99 (c := 0) (s := 0) (o := 0) (w := 0) (kk := 0) n4 (fun x7 F8 G8 k8 _ _ _ => rest rg x7 F5 F8 G8 KX.rf k8 (fun y => absurd (z.symm.trans y) (by decide)))
          refine JP.iteRR (fun _ => ?_) (fun _ => ?_)
          · unfold mb_array_79 mb_array_80
            rw [if_pos rfl]
            unfold mb_array_87
            refine JP.ixRR (fun _ => ?_)
            refine JP.RR (mp_n0 (by rw [T3.1.1.2.2.1.1, z]) (by decide)) ?_
            rintro _ _ _ ⟨rfl, rfl⟩
            exact go 0
          · unfold mb_array_75 mb_array_80
            rw [if_neg i10n]
            exact go 1
        · obtain ⟨er, y1, y2⟩ := hr1 z
          obtain ⟨-, w1, w2, w3, w4⟩ := M.2.2.2 z
          have ew : wc = wm := by
            rcases hwc with ⟨z1, z2⟩ | ⟨z1, z2⟩
            · rcases hk with ⟨u1, u2, -⟩ | ⟨u1, u2, -⟩
              · rcases hwm with ⟨v1, v2⟩ | ⟨v1, v2⟩
                · rw [z2, v2, er]
                · omega
              · rw [u2] at z1
                exact absurd z1 (by decide)
            · rcases hk with ⟨u1, u2, -⟩ | ⟨u1, u2, -⟩
              · exact absurd u2 z1
              · rcases hwm with ⟨v1, v2⟩ | ⟨v1, v2⟩
                · omega
                · rw [z2, v2, er]
          rw [ew]
          have f75 : F5 75 = Fa 75 := kc5.1 75 rfl
          have f36 : F6 36 = Fa 75 := (km6.1 36 rfl).trans w1
          have p4 : pl.toInt ≤ 4000 := by
            have y0 := M.2.1
            have := (T.1.1.1.2.2.2.1 n0 y0.2.2.2).2.2
            have := T.1.1.1.1
            rw [y0.2.1]
            omega
          by_cases c : (Fa 75 + wm) ≤ 2000
          · refine JP.L (cp_groom wm pl F5 G5) ?_
            rintro rg F7 G7 ⟨rfl, rfl, -, e, -⟩
            obtain rfl := e (by rw [T3.1.1.2.2.1.2.1, z]; decide) (by rw [f75]; exact c)
            dsimp only
            rw [if_neg (show ¬ (2000 : Int32) < F6 36 + wm from fun y => by rw [f36] at y; have := i_lt.mp y; have := i_le.mp c; omega)]
            unfold mb_array_75 mb_array_80
            rw [if_neg i10n]
            refine mp_ar99 (c := jsC X.2.1) (s := r4.toInt.toNat) (o := jsW X.2.1) (w := joW (kk, r4.toInt.toNat)) (kk := kk) n4 (fun x7 F8 G8 k8 e36 e37 e38 => rest (F5 75) x7 _ F8 G8 (KX.f rfl KX.rf) k8 (fun _ => ⟨f75, ?_, ?_, ?_, c, ⟨?_, ?_⟩, (e37 i10n).2.1⟩))
            · rw [fup_s, f75]
            · rw [e36, km6.1 36 rfl]
            · rw [(e37 i10n).1, km6.1 37 rfl]
            · have c4 := jsC_4 X.2.1
              obtain ⟨q1, q2⟩ := (e37 i10n).2.2 (by rw [km6.1 37 rfl]; exact w3) (jnI (by rw [← er]; omega)).symm (by omega) (by rw [← er]; omega)
              have f0 : jF0 X.2.1 (G5 86) (G6 41) := by
                rw [kc5.2 86 rfl, km6.2 41 rfl]
                exact w4.2.1
              exact f0.arr (by rcases hk with ⟨u1, -⟩ | ⟨u1, -⟩ <;> omega) (fits z c) q1 q2
            · have c4 := jsC_4 X.2.1
              have l0 : jL0 X.2.1 (G6 38) (G6 39) (G6 40) := by
                rw [km6.2 38 rfl, km6.2 39 rfl, km6.2 40 rfl]
                exact w4.2.2
              obtain ⟨q1, q2⟩ := e38 ⟨i10n, by rw [km6.1 37 rfl]; exact w3, by rw [f36]; exact w2, wmI z, (jnI (by rw [← er]; omega)).symm, by omega, fits z c, by rw [← er]; omega, rfl, by rcases hk with ⟨u1, -, u2⟩ | ⟨u1, -, u2⟩; exact .inl ⟨u1, u2⟩; exact .inr ⟨u1, u2⟩⟩
              exact l0.add q1 q2
          · have c1 : PP ((cf_X5_globalRoom fu wm pl F5 G5).bind (fun q => cb_X4_globalArray_23 fu cid pl ck r3 q.1 q.2.1 q.2.2)) (fun _ F' _ => (F' 43).toInt ≤ 4000) := by
              refine PP.bind (cp_groom wm pl F5 G5) ?_
              rintro rg F7 G7 ⟨-, -, -, -, e, -⟩
              have h43 := e (by rw [T3.1.1.2.2.1.2.1, z]; decide) (by rw [f75]; exact c) p4
              exact PP.mono (kqj_X4_globalArray_23 cid pl ck r3 rg F7 G7 CFS.rf) (fun _ F' _ w => w.2 h43)
            have c2 : PP ((if (2000 : Int32) < F6 36 + wm then mb_array_79 fu x3 b r4 (F6 37) wm F6 G6 else mb_array_75 fu x3 b r4 (F6 37) wm F6 G6).bind (fun q => mb_tells_276 fu q.1 q.2.1 q.2.2)) (fun _ F' _ => ¬ F' 47 = 0) := by
              rw [if_pos (show (2000 : Int32) < F6 36 + wm by
                rw [f36]
                refine i_lt.mpr ?_
                have : ¬ (Fa 75 + wm).toInt ≤ (2000 : Int32).toInt := fun y => c (i_le.mpr y)
                omega)]
              unfold mb_array_79 mb_array_80
              rw [if_pos rfl]
              unfold mb_array_87
              by_cases ci : ixb x3 4002 = true
              · rw [if_pos ci, Option.bind_assoc]
                exact mp_nt (A := fun F' G' => (mb_array_99 fu x3 b r4 (F6 37) wm 0 F' G').bind (fun q => mb_tells_276 fu q.1 q.2.1 q.2.2)) (by rw [T3.1.1.2.2.1.1, z]; decide) (by decide) (fun F' G' => PP.bind (nqj_array_99 x3 b r4 (F6 37) wm 0 F' G' MFS.rf) (fun r F G w => nqj_tells_276 r F G w))
              · rw [if_neg ci]
                exact PP.no
            exact JP.pp c1 c2 (fun _ _ _ _ _ _ w1 w2 => .inr (.inl ⟨w1, w2⟩))
      · dsimp only
        exact JP.fin (PP.bind (PP.ret CFS.rf) (fun r F G w => kqj_X4_globalArray_7 cid pl ck r F G w)) (PP.bind (nqj_array_27 x3 b r4 r6 F6 G6 MFS.rf) (fun r F G w => nqj_tells_276 r F G w)) (.inr o2) (fun _ _ _ _ _ _ w => .inr w)
    · dsimp only
      exact JP.fin (PP.bind (kqj_X3_arraySize_9 r1 F1 G1 CFS.rf) (fun r F G w => kqj_X4_globalArray_7 cid pl ck r F G w)) (PP.bind (nqj_array_11 x3 b r2 F2 G2 MFS.rf) (fun r F G w => nqj_tells_276 r F G w)) (.inr o) (fun _ _ _ _ _ _ w => .inr w)
  unfold mb_tells_269 mf_array mb_array_0
  rw [Option.bind_assoc]
  rcases hp with z | z
  · refine JP.R (mp_twice0 (by rw [T.1.1.2.2.1.1, z])) ?_
    rintro _ _ _ ⟨rfl, rfl⟩
    exact main (fun y => absurd (z.symm.trans y) (by decide))
  · obtain ⟨-, SA, SE, -⟩ := T.1.1.2.2.2.2.2 z
    have FT := (T.1.1.2.2.2.2.2 z).2.2.2.2.2
    by_cases hT : jTw nf t x3 Fb Gb
    · have hz := (T.1.sg (w := 24) (a := 21) (b := 24) (by decide) (by decide) (by decide)).mp h21
      have s22 : ¬ Gb 5 (n0 + 1) = 22 := by
        have := (of_decide_eq_true hz).2
        rw [ix] at this
        rw [this]
        decide
      obtain ⟨r, kn, tw⟩ := M.kn z s22
      have c1 : PP (cf_X4_globalArray fu cid pl ck Fa Ga) (fun _ F' _ => (F' 43).toInt ≤ 4000) := by
        unfold cf_X4_globalArray cb_X4_globalArray_0
        refine PP.bind (cw_X3_arraySize Fa Ga) ?_
        rintro r1 F1 G1 k1
        dsimp only
        unfold cb_X4_globalArray_7
        refine PP.bind (cw_X4_wordsOf ck r1 F1 G1) ?_
        rintro r2 F2 G2 k2
        dsimp only
        unfold cb_X4_globalArray_19
        refine PP.bind (cp_groom r2 pl F2 G2) ?_
        rintro r3 F3 G3 ⟨-, -, -, -, -, k3⟩
        dsimp only
        have k4 : KX jXT jYT Fa Ga F3 G3 := KX.tr (KX.tr (KX.tr KX.rf k1 rfl rfl) k2 rfl rfl) k3 rfl rfl
        unfold cb_X4_globalArray_23
        refine PP.ite (fun _ => ?_) (fun _ => c53 _ _ F3 G3 k4 r kn (tw.mp hT))
        unfold cb_X4_globalArray_37
        refine PP.bind (cw_X2_next F3 G3) ?_
        rintro r5 F5 G5 k5
        dsimp only
        unfold cb_X4_globalArray_44
        refine PP.bind (cw_X4_elements ck r3 r1 F5 G5) ?_
        rintro r6 F6 G6 k6
        dsimp only
        exact c53 _ _ F6 G6 (KX.tr (KX.tr k4 k5 rfl rfl) k6 rfl rfl) r kn (tw.mp hT)
      have c2 : PP ((mf_twice fu x3 Fb Gb).bind (fun x => (mb_array_5 fu x3 b x.2.1 x.2.2).bind (fun q => mb_tells_276 fu q.1 q.2.1 q.2.2))) (fun _ F' _ => ¬ F' 47 = 0) := by
        refine PP.bind (mp_twice SE.1 (by have := SE.2.2.1; omega) SA.1 (by have := FT.2.1; omega) (by rw [T.1.1.2.2.1.1, z]; decide)) ?_
        rintro rt F6 G6 ⟨-, h6, -⟩
        exact PP.mono (PP.bind (nqj_array_5 x3 b F6 G6 MFS.rf) (fun r F G w => nqj_tells_276 r F G w)) (fun _ F' _ w y => h6 hT (w.2.1 y))
      exact JP.pp c1 c2 (fun _ _ _ _ _ _ w1 w2 => .inr (.inl ⟨w1, w2⟩))
    · refine JP.R (mp_twice SE.1 (by have := SE.2.2.1; omega) SA.1 (by have := FT.2.1; omega) (by rw [T.1.1.2.2.1.1, z]; decide)) ?_
      rintro rt F6 G6 ⟨rfl, -, h6⟩
      obtain rfl := h6 hT
      exact main (fun _ => hT)
end JV7
