section JV5
variable {fu : Nat} {X : JCX} {p : Int32} {N K n q nf t i j f n0 : Nat} {φ : Nat → Nat} {cid pl x1 x3 r : Int32} {Fa Fb Fc Fm F1 F2 F3 F4 F5 : PF} {Ga Gb Gc Gm G1 G2 G3 G4 G5 : PG}
theorem jGs.rg (T : jGs X p N K n q nf t i f φ Fc Gc Fm Gm) (km : KX [36, 37] [38, 39, 40, 41] Fm Gm F2 G2) : jGs X p N K n q nf t i f φ Fc Gc F2 G2 := by
  refine T.mv KX.rf (KX.tr KX.rf km rfl rfl) T.x0 ?_ T.2.1.2.2.2 ?_ T.1.2.2 (Nat.le_refl _) (fun _ => jCB.of (km.1 60 rfl) rfl rfl (KX.c km rfl rfl rfl rfl))
  · rw [km.1 54 rfl]; exact T.2.1.2.2.1
  · have D := T.1.2.1
    unfold jD CU at D ⊢
    rw [km.1 42 rfl, km.1 43 rfl, km.1 44 rfl, km.1 47 rfl, km.1 60 rfl, km.1 70 rfl, km.2 6 rfl]
    exact D
/-- an int between two functions, its value read -/
theorem jt_intE {kk : Int32 × PF × PG → PR} {v mc : Int32} (M : jNg X p N K n q nf t n0 f φ cid pl x3 Fa Ga Fb Gb) (T4 : jGs X p N K n q nf t j f φ F3 G3 F4 G4) (nj : n0 < j) (h10 : (F3 10).toInt = (Fa 10).toInt) (kc : KX jXT jYT Fa Ga F3 G3) (h75 : F3 75 = Fa 75) (km : KX jZT jWT Fb Gb F4 G4) (sb : p = 1 → Gb 4 (n0 + 1) = 4 ∧ ¬ Gb 5 (n0 + 1) = 22) (nt : p = 1 → ¬ jTw nf t x3 Fb Gb) (hw : p = 1 → F4 36 = Fb 36 + 1 ∧ F4 37 = Fb 37 + 1 ∧ mc = Fb 37 ∧ jsW X.2.1 < 2000 ∧ G3 86 = Ga 86 ∧ G4 41 (jsC X.2.1) = v ∧ (∀ i : Nat, i < jsC X.2.1 → G4 41 i = Gb 41 i) ∧ jI0 (jsW X.2.1) (Fb 37) Gb G4) (hk1 : ∀ (F : PF) (G : PG), kk (1, F, G) = some (1, F, G)) (hk0 : ∀ (r : Int32) (F : PF) (G : PG), PP (kk (r, F, G)) (fun _ F' _ => MFS F F')) : JP (cb_X4_globalInt_29 fu cid pl v F3 G3) ((mf_declare fu x3 1 0 mc 1 0 F4 G4).bind (fun q => (mf_sign fu 29 q.2.1 q.2.2).bind kk)) (fun _ F1 G1 r2 F2 G2 => jOt X p N K n q nf n0 f φ Fa Ga Fb Gb r2 F1 G1 F2 G2) := by
  unfold cb_X4_globalInt_29
  refine jt_tailG (kcl := fun F G => cb_X4_globalInt_38 fu cid pl v F G) (m := [(0, 1)]) (ck := 1) (cv := Fa 75) (cz := 0) M T4 nj h10 kc km sb (fun z => ?_) nt hk1 hk0 (fun F5 G5 => kqj_X4_globalInt_38 cid pl v F5 G5 CFS.rf) (fun _ F5 G5 h => ct_int0 v h) (fun z F5 G5 r kn nh h5 h86 => ?_)
  · obtain ⟨-, w1, w2, w3, w4⟩ := M.2.2.2 z
    obtain ⟨-, -, h3, -⟩ := hw z
    refine .inr (.inl ⟨rfl, rfl, by decide, .inl ⟨rfl, by decide, jsC X.2.1, jsW X.2.1, ⟨X.2.1, [], rfl, rfl, rfl⟩, ?_, ?_⟩⟩)
    · rw [h3]
      exact i_eq.mpr (by rw [w3, nI_toInt (show jsC X.2.1 < 2 ^ 31 by have := jsC_4 X.2.1; omega)])
    · exact i_eq.mpr (by rw [w2, nI_toInt (show jsW X.2.1 < 2 ^ 31 by omega)])
  · obtain ⟨-, w1, w2, w3, w4⟩ := M.2.2.2 z
    obtain ⟨h1, h2, h3, h4, h5a, h5b, h5c, h5d⟩ := hw z
    have c4 := jsC_4 X.2.1
    have e75 : F5 75 = Fa 75 := h5.trans h75
    have a1 : (Fa 75 + 1).toInt = (jsW X.2.1 : Int) + 1 := by rw [i_addn (m := 1) _ rfl (by omega) (by omega), w2]
    refine PP.mono (ct_int1 v kn nh (by rw [e75]; exact i_le.mpr (by rw [a1, show (2000 : Int32).toInt = 2000 from rfl]; omega)) (by rw [e75]; omega) (by rw [e75]; omega)) ?_
    rintro rr F' G' ⟨Fx, Gx, y1, y2, y4, y3⟩
    rw [e75] at y2 y3 y4
    refine ⟨Fx, Gx, y1, ⟨?_, ?_, ?_, ?_, ?_, ?_⟩, y3⟩
    · rw [h1, y2, w1]
    · rw [y2, a1]
      show _ = ((jsW (X.2.1 ++ [(0, 1)]) : Nat) : Int)
      rw [jsW_app]
      rfl
    · rw [h2, i_addn (m := 1) _ rfl (by omega) (by omega), w3]
      show _ = ((jsC (X.2.1 ++ [(0, 1)]) : Nat) : Int)
      rw [jsC_app]
      rfl
    · show jsW (X.2.1 ++ [(0, 1)]) ≤ 2000
      rw [jsW_app]
      show jsW X.2.1 + 1 ≤ 2000
      omega
    · refine w4.2.1.int h5c h5b ?_
      rw [y4, h86, h5a, show (Fa 75).toNatClampNeg = jsW X.2.1 by show (Fa 75).toInt.toNat = _; rw [w2]; rfl]
    · exact w4.2.2.int (i_eq.mpr (by rw [w3, nI_toInt (by omega)])) h5d
/-- the reference's ends of an int -/
theorem mt_i146 (F : PF) (G : PG) : mb_tells_146 fu 1 F G = (mf_sign fu 29 F G).bind (fun q => mb_tells_155 fu q.1 q.2.1 q.2.2) := by
  unfold mb_tells_146 mb_tells_149
  rw [if_neg i10n]
theorem mt_i155 (F : PF) (G : PG) : mb_tells_155 fu 1 F G = some (1, F, G) := by
  unfold mb_tells_155
  rw [if_neg i10n]
  rfl
theorem mt_arrB {F : PF} {G : PG} {x4 b : Int32} (h44 : F 44 = 0) (h : ¬ sgn (G 4) (G 5) (F 42) 24 = true) : PP (mb_tells_269 fu b x4 F G) (fun _ F' _ => ¬ F' 44 = 0) := by
  unfold mb_tells_269
  refine PP.bind (mr_array (K := G 4) (V := G 5) x4 b F G rfl rfl h44) ?_
  rintro r F1 G1 w
  dsimp only
  have e : rarray (G 4) (G 5) fu (F 42) (F 43) = some none := by
    unfold rarray rsize
    rw [if_neg h]
    rfl
  rcases w with ⟨-, -, -, w⟩ | ⟨-, w, -⟩
  · rw [e] at w
    cases w
  · refine PP.mono (nqj_tells_276 r F1 G1 MFS.rf) (fun _ F' _ y z => ?_)
    rw [y.1 z] at w
    exact absurd w (by decide)
/-- an int between two functions -/
theorem jt_int (M : jNg X p N K n q nf t n0 f φ cid pl x3 Fa Ga Fb Gb) (nb : ¬ Fa 11 = 21) : JP (cf_X4_globalInt fu cid pl Fa Ga) (mb_tells_131 fu 0 x3 Fb Gb) (fun _ F1 G1 r2 F2 G2 => jOt X p N K n q nf n0 f φ Fa Ga Fb Gb r2 F1 G1 F2 G2) := by
  have T := M.1
  have hp := T.1.1.2.1
  have C := T.1.2.1.1
  have ix := C.ix T.1.1.1
  have l2 : (2000 : Int32).toInt = 2000 := rfl
  have sg29 := T.1.sg (w := 29) (a := 26) (b := 29) (by decide) (by decide) (by decide)
  have sg32 := T.1.sg (w := 32) (a := 29) (b := 32) (by decide) (by decide) (by decide)
  have sg24 := T.1.sg (w := 24) (a := 21) (b := 24) (by decide) (by decide) (by decide)
  -- both note something, in the second pass
  have noted : ∀ (a : PR) (g : Int32 × PF × PG → PR), p = 1 → ¬ Gb 5 (n0 + 1) = 22 → (jTw nf t x3 Fb Gb ∨ jsW X.2.1 = 2000) → (∀ r : Int32, jKn K (q + t) cid pl r Fa Ga → (jHre (q + t) (Fa 42) pl r Ga ∨ ¬ (Fa 75 + 1) ≤ 2000) → PP a (fun _ F' _ => (F' 43).toInt ≤ 4000)) → (∀ (r : Int32) (F : PF) (G : PG), PP (g (r, F, G)) (fun _ F' _ => MFS F F')) → JP a ((mf_globalAt fu x3 Fb Gb).bind g) (fun _ F1 G1 r2 F2 G2 => jOt X p N K n q nf n0 f φ Fa Ga Fb Gb r2 F1 G1 F2 G2) := by
    intro a g z s22 hb ha hg
    obtain ⟨r, kn, tw⟩ := M.kn z s22
    obtain ⟨-, SA, SE, -⟩ := T.1.1.2.2.2.2.2 z
    have FT := (T.1.1.2.2.2.2.2 z).2.2.2.2.2
    obtain ⟨-, w1, w2, w3, w4⟩ := M.2.2.2 z
    have c1 := ha r kn (by
      rcases hb with y | y
      · exact .inl (tw.mp y)
      · refine .inr (fun w => ?_)
        have := i_le.mp w
        rw [i_addn (m := 1) _ rfl (by omega) (by omega), w2] at this
        omega)
    have c2 : PP ((mf_globalAt fu x3 Fb Gb).bind g) (fun _ F' _ => ¬ F' 47 = 0) := by
      refine PP.bind (mp_gAtB SE.1 (by have := SE.2.2.1; omega) SA.1 (by have := FT.2.1; omega) (by rw [T.1.1.2.2.1.1, z]; decide) (by rw [w1]; exact w2) hb) ?_
      rintro rr F6 G6 h6
      exact PP.mono (hg rr F6 G6) (fun _ F' _ w y => h6 (w.2.1 y))
    exact JP.pp c1 c2 (fun _ _ _ _ _ _ w1 w2 => .inr (.inl ⟨w1, w2⟩))
  -- the class's room and name, whatever stands behind
  have clsB : ∀ (v : Int32) (F3 : PF) (G3 : PG), KX jXT jYT Fa Ga F3 G3 → F3 75 = Fa 75 → ∀ r : Int32, jKn K (q + t) cid pl r Fa Ga → (jHre (q + t) (Fa 42) pl r Ga ∨ ¬ (Fa 75 + 1) ≤ 2000) → PP (cb_X4_globalInt_29 fu cid pl v F3 G3) (fun _ F' _ => (F' 43).toInt ≤ 4000) := by
    intro v F3 G3 k3 h75 r kn hb
    unfold cb_X4_globalInt_29
    refine PP.bind (cw_X2_expect 26 F3 G3) ?_
    rintro re F5 G5 ke
    dsimp only
    have kh : KX jXT jYT Fa Ga F5 G5 := KX.tr k3 ke rfl rfl
    refine ct_intB v (kn.kx kh rfl rfl) ?_
    rcases hb with ⟨jj, z1, z2, z3, z4⟩ | z
    · exact .inl ⟨jj, z1, z2, by rw [kh.2 34 rfl, kh.1 42 rfl]; exact z3, by rw [kh.2 35 rfl, kh.2 36 rfl]; exact z4⟩
    · exact .inr (by rw [ke.1 75 rfl, h75]; exact z)
  unfold cf_X4_globalInt cb_X4_globalInt_0 mb_tells_131
  refine JP.isS (fun h => ?_) (fun h => ?_)
  · -- ;
    have h26 := sg29.mpr h
    rw [if_neg (fun z => absurd (z.symm.trans h26) (by decide))]
    obtain ⟨s4, s5⟩ := of_decide_eq_true h
    rw [ix] at s4 s5
    have s22 : ¬ Gb 5 (n0 + 1) = 22 := by rw [s5]; decide
    dsimp only
    unfold mb_tells_137
    rw [if_neg i10n]
    unfold mb_tells_140 mf_globalInt mb_globalInt_0
    rw [Option.bind_assoc]
    -- clean
    have go : ∀ (r : Int32) (F2 : PF) (G2 : PG), KX [36, 37] [38, 39, 40, 41] Fb Gb F2 G2 → (p = 1 → ¬ jTw nf t x3 Fb Gb ∧ r = Fb 36 ∧ F2 36 = Fb 36 + 1 ∧ F2 37 = Fb 37 + 1 ∧ G2 39 (jsW X.2.1) = Fb 37 ∧ jsW X.2.1 < 2000 ∧ G2 41 (jsC X.2.1) = 0 ∧ (∀ i : Nat, ¬ i = jsC X.2.1 → G2 41 i = Gb 41 i) ∧ jI0 (jsW X.2.1) (Fb 37) Gb G2) → JP (cb_X4_globalInt_29 fu cid pl 0 Fa Ga) ((mb_globalInt_5 fu x3 r F2 G2).bind (fun q => mb_tells_146 fu q.1 q.2.1 q.2.2)) (fun _ F1 G1 r2 F2 G2 => jOt X p N K n q nf n0 f φ Fa Ga Fb Gb r2 F1 G1 F2 G2) := by
      intro r F2 G2 k2 hc
      unfold mb_globalInt_5 mb_globalInt_21
      refine JP.ixRR (fun _ => ?_)
      rw [Option.bind_assoc]
      have eq1 : ∀ (a : PR), a.bind (fun x => (mb_globalInt_27 fu x.2.1 x.2.2).bind (fun q => mb_tells_146 fu q.1 q.2.1 q.2.2)) = a.bind (fun q => (mf_sign fu 29 q.2.1 q.2.2).bind (fun q => mb_tells_155 fu q.1 q.2.1 q.2.2)) := by
        intro a
        congr 1
      rw [eq1]
      refine jt_intE (kk := fun q => mb_tells_155 fu q.1 q.2.1 q.2.2) M (T.rg k2) (Nat.lt_succ_self _) rfl KX.rf rfl (KX.tr KX.rf k2 rfl rfl) (fun _ => ⟨s4, s22⟩) (fun z => (hc z).1) (fun z => ?_) (fun F G => mt_i155 F G) (fun r F G => nqj_tells_155 r F G MFS.rf)
      obtain ⟨y0, y1, y2, y3, y4, y5, y6, y7, y8⟩ := hc z
      obtain ⟨-, w1, w2, w3, w4⟩ := M.2.2.2 z
      refine ⟨y2, y3, ?_, y5, rfl, y6, fun i hi => y7 i (by omega), y8⟩
      rw [if_neg (fun w => by have := i_lt.mp w; rw [y1, w1] at this; omega)]
      rw [show r.toNatClampNeg = jsW X.2.1 by show r.toInt.toNat = _; rw [y1, w1, w2]; rfl]
      exact y4
    rcases hp with z | z
    · refine JP.R (mp_gAt0 (by rw [T.1.1.2.2.1.1, z])) ?_
      rintro r F2 G2 k2
      exact go r F2 G2 k2 (fun w => absurd (z.symm.trans w) (by decide))
    · obtain ⟨-, SA, SE, -⟩ := T.1.1.2.2.2.2.2 z
      have FT := (T.1.1.2.2.2.2.2 z).2.2.2.2.2
      obtain ⟨-, w1, w2, w3, w4⟩ := M.2.2.2 z
      by_cases c : jTw nf t x3 Fb Gb ∨ jsW X.2.1 = 2000
      · exact noted _ _ z s22 c (clsB 0 Fa Ga KX.rf rfl) (fun r F G => PP.bind (nqj_globalInt_5 x3 r F G MFS.rf) (fun r1 F1 G1 h1 => nqj_tells_146 r1 F1 G1 h1))
      · have c1 : ¬ jTw nf t x3 Fb Gb := fun y => c (.inl y)
        have c2 : jsW X.2.1 < 2000 := by
          have : ¬ jsW X.2.1 = 2000 := fun y => c (.inr y)
          omega
        refine JP.R (mp_gAt SE.1 (by have := SE.2.2.1; omega) SA.1 (by have := FT.2.1; omega) (by rw [T.1.1.2.2.1.1, z]; decide) (by rw [w1]; exact w2) c2 c1) ?_
        rintro r F2 G2 ⟨e1, k2, e2, e3, e4, e5, e6, e7⟩
        rw [show (Fb 37).toNatClampNeg = jsC X.2.1 by show (Fb 37).toInt.toNat = _; rw [w3]; rfl] at e5 e6
        exact go r F2 G2 k2 (fun _ => ⟨c1, e1, e2, e3, e4, c2, e5, e6, e7⟩)
  · have n26 : ¬ Fa 11 = 26 := fun z => by rw [sg29.mp z] at h; cases h
    dsimp only
    unfold mb_tells_137
    rw [if_pos rfl]
    unfold mb_tells_164
    rw [if_pos rfl]
    unfold mb_tells_168
    refine JP.isS (fun h2 => ?_) (fun h2 => ?_)
    · -- =
      rw [if_pos (sg32.mpr h2)]
      have li := C.ltS T.1.1.1 h2
      obtain ⟨s4, s5⟩ := of_decide_eq_true h2
      rw [ix] at s4 s5
      have s22 : ¬ Gb 5 (n0 + 1) = 22 := by rw [s5]; decide
      dsimp only
      unfold mb_tells_174
      rw [if_neg i10n]
      unfold mb_tells_177
      -- clean
      have go : ∀ (r : Int32) (F2 : PF) (G2 : PG), KX [36, 37] [38, 39, 40, 41] Fb Gb F2 G2 → (p = 1 → ¬ jTw nf t x3 Fb Gb ∧ r = Fb 36 ∧ F2 36 = Fb 36 + 1 ∧ F2 37 = Fb 37 + 1 ∧ G2 39 (jsW X.2.1) = Fb 37 ∧ jsW X.2.1 < 2000 ∧ G2 41 (jsC X.2.1) = 0 ∧ (∀ i : Nat, ¬ i = jsC X.2.1 → G2 41 i = Gb 41 i) ∧ jI0 (jsW X.2.1) (Fb 37) Gb G2) → JP (cb_X4_globalInt_14 fu cid pl Fa Ga) (mb_tells_183 fu x3 r F2 G2) (fun _ F1 G1 r2 F2 G2 => jOt X p N K n q nf n0 f φ Fa Ga Fb Gb r2 F1 G1 F2 G2) := by
        intro r F2 G2 k2 hc
        have T2 := T.rg k2
        unfold cb_X4_globalInt_14 mb_tells_183
        refine JP.L (jo_next T2.1.1.1 T2.1.2.1.1 li) ?_
        rintro rn F3 G3 (o | o)
        · dsimp only
          have e0 := jAl.on (X := X) (p := p) (s := []) T2.1.1 T2.1.2.1 li (T2.1.1.t1 li) o
          have T3 := T2.al e0 (by omega)
          generalize fup F2 42 (F2 42 + 1) = F4 at e0 T3 ⊢
          unfold cb_X4_globalInt_21 mb_tells_195
          refine JP.both (jk_constant T3.1 T3.2.1.2.2.1 T3.2.1.2.2.2) ?_
          rintro r5 F5 G5 r6 F6 G6 (⟨rfl, j, a⟩ | h9)
          · dsimp only
            have T4 := T3.ak a
            have ij : n0 + 1 + 1 ≤ j := a.2.2.1.1
            have kc : KX jXT jYT Fa Ga F5 G5 := KX.tr (KX.tr KX.rf e0.1.1 rfl rfl) a.1.1 rfl rfl
            have km : KX jZT jWT Fb Gb F6 G6 := KX.tr (KX.tr (KX.tr KX.rf k2 rfl rfl) e0.1.2 rfl rfl) a.1.2 rfl rfl
            have h75 : F5 75 = Fa 75 := (a.1.1.1 75 rfl).trans (e0.1.1.1 75 rfl)
            have f36 : F6 36 = F2 36 := (a.1.2.1 36 rfl).trans (e0.1.2.1 36 rfl)
            have f37 : F6 37 = F2 37 := (a.1.2.1 37 rfl).trans (e0.1.2.1 37 rfl)
            have g41 : G6 41 = G2 41 := (a.1.2.2 41 rfl).trans (e0.1.2.2 41 rfl)
            have g86 : G5 86 = Ga 86 := (a.1.1.2 86 rfl).trans (e0.1.1.2 86 rfl)
            have g38 : G6 38 = G2 38 := (a.1.2.2 38 rfl).trans (e0.1.2.2 38 rfl)
            have g40 : G6 40 = G2 40 := (a.1.2.2 40 rfl).trans (e0.1.2.2 40 rfl)
            have g39 : G6 39 = G2 39 := (a.1.2.2 39 rfl).trans (e0.1.2.2 39 rfl)
            unfold cb_X4_globalInt_28 mb_tells_199
            rw [if_pos (show F6 44 ≤ 0 by rw [T4.1.2.1.1.2.2.2.2.2.2.2.1]; decide)]
            -- behind the value
            have fin : ∀ G7 : PG, KX [36, 37] [38, 39, 40, 41] F6 G6 F6 G7 → (G7 38 = G6 38 ∧ G7 39 = G6 39 ∧ G7 40 = G6 40) → (p = 1 → G7 41 (jsC X.2.1) = r5 ∧ ∀ i : Nat, i < jsC X.2.1 → G7 41 i = Gb 41 i) → JP (cb_X4_globalInt_29 fu cid pl r5 F5 G5) (mb_tells_239 fu x3 r F6 G7) (fun _ F1 G1 r2 F2 G2 => jOt X p N K n q nf n0 f φ Fa Ga Fb Gb r2 F1 G1 F2 G2) := by
              intro G7 k7 e37 h41
              obtain ⟨e38, e39, e40⟩ := e37
              unfold mb_tells_239 mb_tells_256
              refine JP.ixR (fun _ => ?_)
              refine jt_intE (kk := fun q => mb_tells_268 fu q.1 q.2.1 q.2.2) M (T4.rg k7) (by omega) (a.2.2.2.1.trans (e0.2.2.2.1.trans (by omega))) kc h75 (KX.tr km k7 rfl rfl) (fun _ => ⟨s4, s22⟩) (fun z => (hc z).1) (fun z => ?_) (fun F G => rfl) (fun r F G => nqj_tells_268 r F G MFS.rf)
              obtain ⟨y0, y1, y2, y3, y4, y5, y6, y7, y8⟩ := hc z
              obtain ⟨-, w1, w2, w3, w4⟩ := M.2.2.2 z
              refine ⟨f36.trans y2, f37.trans y3, ?_, y5, g86, (h41 z).1, (h41 z).2, by unfold jI0 at y8 ⊢; rw [e38, e39, e40, g38, g39, g40]; exact y8⟩
              rw [if_neg (fun w => by have := i_lt.mp w; rw [y1, w1] at this; omega)]
              rw [show r.toNatClampNeg = jsW X.2.1 by show r.toInt.toNat = _; rw [y1, w1, w2]; rfl]
              rw [e39, g39]
              exact y4
            unfold mb_tells_210
            refine JP.iteR (fun c => fin G6 KX.rf ⟨rfl, rfl, rfl⟩ (fun z => absurd c (by rw [T4.1.1.2.2.1.1, z]; decide))) (fun _ => ?_)
            unfold mb_tells_217
            refine JP.iteR (fun c => fin G6 KX.rf ⟨rfl, rfl, rfl⟩ (fun z => ?_)) (fun _ => ?_)
            · obtain ⟨y0, y1, y2, y3, y4, y5, y6, y7, y8⟩ := hc z
              obtain ⟨-, w1, w2, w3, w4⟩ := M.2.2.2 z
              have := i_le.mp c
              rw [y1, w1] at this
              omega
            unfold mb_tells_225
            refine JP.ixR (fun _ => JP.ixR (fun _ => ?_))
            refine fin _ (KX.g rfl KX.rf) ⟨gup_o (by decide), gup_o (by decide), gup_o (by decide)⟩ (fun z => ?_)
            obtain ⟨y0, y1, y2, y3, y4, y5, y6, y7, y8⟩ := hc z
            obtain ⟨-, w1, w2, w3, w4⟩ := M.2.2.2 z
            rw [show r.toNatClampNeg = jsW X.2.1 by show r.toInt.toNat = _; rw [y1, w1, w2]; rfl, g39, y4, show (Fb 37).toNatClampNeg = jsC X.2.1 by show (Fb 37).toInt.toNat = _; rw [w3]; rfl]
            exact ⟨gup_i, fun i hi => by rw [gup_x (by omega), g41]; exact y7 i (by omega)⟩
          · dsimp only
            exact JP.fin (kqj_X4_globalInt_28 cid pl r5 F5 G5 CFS.rf) (nqj_tells_199 x3 r r6 F6 G6 MFS.rf) h9 (fun _ _ _ _ _ _ w => .inr w)
        · dsimp only
          exact JP.fin (kqj_X4_globalInt_21 cid pl F3 G3 CFS.rf) (nqj_tells_195 x3 r _ G2 MFS.rf) (.inr o) (fun _ _ _ _ _ _ w => .inr w)
      rcases hp with z | z
      · refine JP.R (mp_gAt0 (by rw [T.1.1.2.2.1.1, z])) ?_
        rintro r F2 G2 k2
        exact go r F2 G2 k2 (fun w => absurd (z.symm.trans w) (by decide))
      · obtain ⟨-, SA, SE, -⟩ := T.1.1.2.2.2.2.2 z
        have FT := (T.1.1.2.2.2.2.2 z).2.2.2.2.2
        obtain ⟨-, w1, w2, w3, w4⟩ := M.2.2.2 z
        by_cases c : jTw nf t x3 Fb Gb ∨ jsW X.2.1 = 2000
        · refine noted _ _ z s22 c (fun r kn hb => ?_) (fun r F G => nqj_tells_183 x3 r F G MFS.rf)
          unfold cb_X4_globalInt_14
          refine PP.bind (cw_X2_next Fa Ga) ?_
          rintro r1 F1 G1 k1
          dsimp only
          unfold cb_X4_globalInt_21
          refine PP.bind (cw_X3_constant F1 G1) ?_
          rintro r2 F2 G2 k2
          dsimp only
          unfold cb_X4_globalInt_28
          exact clsB r2 F2 G2 (KX.tr (KX.tr KX.rf k1 rfl rfl) k2 rfl rfl) ((k2.1 75 rfl).trans (k1.1 75 rfl)) r kn hb
        · have c1 : ¬ jTw nf t x3 Fb Gb := fun y => c (.inl y)
          have c2 : jsW X.2.1 < 2000 := by
            have : ¬ jsW X.2.1 = 2000 := fun y => c (.inr y)
            omega
          refine JP.R (mp_gAt SE.1 (by have := SE.2.2.1; omega) SA.1 (by have := FT.2.1; omega) (by rw [T.1.1.2.2.1.1, z]; decide) (by rw [w1]; exact w2) c2 c1) ?_
          rintro r F2 G2 ⟨e1, k2, e2, e3, e4, e5, e6, e7⟩
          rw [show (Fb 37).toNatClampNeg = jsC X.2.1 by show (Fb 37).toInt.toNat = _; rw [w3]; rfl] at e5 e6
          exact go r F2 G2 k2 (fun _ => ⟨c1, e1, e2, e3, e4, c2, e5, e6, e7⟩)
    · -- anything else: no one goes on
      have n29 : ¬ Fa 11 = 29 := fun z => by rw [sg32.mp z] at h2; cases h2
      rw [if_neg n29]
      dsimp only
      unfold mb_tells_174
      rw [if_pos rfl]
      have s : PP (cb_X4_globalInt_29 fu cid pl 0 Fa Ga) (fun _ F' _ => ∃ F0 : PF, (¬ F0 14 = 0 ∧ F0 11 = -2) ∧ CFS F0 F') := by
        unfold cb_X4_globalInt_29
        refine PP.bind (jo_expL (a := 26) T.1.1.1 C (fun z => absurd z n26)) ?_
        rintro r F1 G1 (⟨z, -⟩ | ⟨-, q1, q2⟩)
        · exact absurd z n26
        · exact PP.mono (kqj_X4_globalInt_38 cid pl 0 F1 G1 CFS.rf) (fun _ F' _ w => ⟨F1, ⟨q1, q2⟩, w⟩)
      refine JP.pp s (mt_arrB C.2.2.2.2.2.2.2.1 (fun z => nb (sg24.mpr z))) (fun _ F1 _ _ F2 _ w1 w2 => ?_)
      obtain ⟨F0, ⟨q1, q2⟩, w⟩ := w1
      exact .inr (jEnd.st (.inr ⟨q1, q2, .inl w2⟩) w MFS.rf)
end JV5
