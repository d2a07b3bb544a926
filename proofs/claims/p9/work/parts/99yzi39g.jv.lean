abbrev jXb : List Nat := [6, 9, 10, 11, 12, 13, 14, 21, 28, 29, 30, 31, 41, 42, 43, 44, 46, 47, 50, 56, 57, 300]
abbrev jXb0 : List Nat := [6, 9, 10, 11, 12, 13, 14, 21, 28, 29, 30, 31, 42, 43, 44, 46, 47, 50, 56, 57, 300]
abbrev jYb : List Nat := [5, 20, 33, 34, 35, 36, 37, 38, 39, 40, 55, 79]
abbrev jZb : List Nat := [14, 15, 42, 43, 44, 45, 47, 48, 49, 50, 51, 52, 53, 54, 55, 60, 62, 63, 64, 65, 66, 70, 72]
abbrev jWb : List Nat := [16, 17, 18, 19, 20, 21, 22, 23, 27, 28, 29, 30, 56, 57, 58, 59, 67, 68, 69, 71]
section JVG
variable {fu : Nat} {X : JCX} {p : Int32} {N K n q nf t i j : Nat} {Fc Fm F F1 F2 F3 F4 : PF} {Gc Gm G G1 G2 G3 G4 : PG} {g kk : Int32 × PF × PG → PR} {Q : Int32 → PF → PG → Int32 → PF → PG → Prop}
theorem kq_X4_endF (F0 F : PF) (G : PG) (h : CFS F0 F) : PP (cf_X4_endFunction fu F G) (fun _ F' _ => CFS F0 F') := PP.mono (cw_X4_endFunction F G) (fun _ F' _ k => CFS.tr h ⟨fun w => by rw [k.1 14 rfl, k.1 11 rfl]; exact w, fun w => by rw [k.1 43 rfl]; exact w⟩)
theorem rl_blk {K V : Nat → Int32} {r : RR} {o : Int32} : ∀ (m : Nat) (t u : Int32), rl_block K V r o m t = some (some u) → ∃ t' : Int32, sgn K V t' 27 = true ∧ u = t' + 1 := by
  intro m
  induction m with
  | zero => intro t u h; cases h
  | succ m ih =>
    intro t u h
    have h : (if sgn K V t 27 = true then rclose K V 27 t else rb (r 6 t o) (fun t1 => rl_block K V r o m t1)) = some (some u) := h
    by_cases c : sgn K V t 27 = true
    · rw [if_pos c] at h
      unfold rclose at h
      rw [if_pos c] at h
      cases h
      exact ⟨t, c, rfl⟩
    · rw [if_neg c] at h
      unfold rb at h
      generalize r 6 t o = y at h
      rcases y with _ | _ | t1
      · cases h
      · cases h
      · exact ih t1 u h
/-- a block ends with its bracket -/
theorem jr_blk {K V : Nat → Int32} {fu : Nat} {t o u : Int32} (h : rS2 K V fu 300 0 t o = some (some u)) : ∃ t' : Int32, sgn K V t' 27 = true ∧ u = t' + 1 := by
  have h : rblock K V fu (rS2 K V fu 299) t o = some (some u) := h
  unfold rblock at h
  by_cases c : sgn K V t 26 = true
  · rw [if_pos c] at h
    by_cases c2 : o = 40
    · rw [if_pos c2] at h
      cases h
    · rw [if_neg c2] at h
      exact rl_blk _ _ _ h
  · rw [if_neg c] at h
    cases h
/-- a function behind its FORMALs -/
theorem jt_fbody {f c : Nat} {x4 : Int32} (hQ : ∀ (r1 : Int32) (F1 : PF) (G1 : PG) (r2 : Int32) (F2 : PF) (G2 : PG), jEnd F1 F2 → Q r1 F1 G1 r2 F2 G2) (hkk : ∀ (F0 : PF) (r : Int32) (F : PF) (G : PG), CFS F0 F → PP (kk (r, F, G)) (fun _ F' _ => CFS F0 F')) (hg : ∀ (F0 : PF) (r : Int32) (F : PF) (G : PG), MFS F0 F → PP (g (r, F, G)) (fun _ F' _ => MFS F0 F')) (V : jV X p N K n q nf t j F1 G1 F2 G2) (h15 : F2 15 = 1) (sl : (F1 6).toInt + 3 ≤ 2 * (G2 6 j).toInt + 100) (h28 : F1 28 = nI f) (hf : f < 450) (hnf : p = 1 → f < nf) (hx4 : p = 1 → x4.toInt = 4 + (F1 49).toInt) (h27 : p = 1 → G2 27 f = nI c) (h51 : p = 1 → F2 51 = 0)
    (H : ∀ (Y : JCX) (t1 j' : Nat) (F3 : PF) (G3 : PG) (F4 : PF) (G4 : PG), jIn (Y.1, Y.2.1, [], Y.2.2.2) p N K n q nf t1 j' F3 G3 F4 G4 → (jUq X Y ∧ Y.1 = false) → j + 1 < j' → (F3 42 = 0 ∧ F4 15 = 0 ∧ F3 28 = nI (f + 1) ∧ F3 29 = F2 51 ∧ F4 54 = 0 ∧ jXB F3 ∧ (F3 10).toInt = (F1 10).toInt) → (KX jXb jYb F1 G1 F3 G3 ∧ KX jZb jWb F2 G2 F4 G4) → (p = 0 → KX jXb0 [5, 20, 55] F1 G1 F3 G3) → (G4 27 f = nI c ∧ ∀ y : Nat, y ≠ f → G4 27 y = G2 27 y) → (p = 1 → (G3 79 f = G4 28 f ∧ ∀ y : Nat, y ≠ f → G3 79 y = G1 79 y ∧ G4 28 y = G2 28 y) ∧ jPl N q nf t1 j' (G2 4) (G2 5)) → (p = 1 → jBd X f F1 G1 F2 G2 F3 G3 F4 G4) → JP (kk (0, F3, G3)) (g (1, F4, G4)) Q) : JP ((cf_X4_block fu F1 G1).bind (fun q => (cf_X4_endFunction fu q.2.1 q.2.2).bind kk)) ((mb_function_293 fu (nI f) x4 (nI c) F2 G2).bind g) Q := by
  have hp := V.1.1.2.1
  have fI : (nI f).toNatClampNeg = f := nI_c _ (by omega)
  unfold mb_function_293
  refine JP.ixRR (fun _ => ?_)
  unfold mb_function_301
  refine JP.ixRR (fun _ => ?_)
  rw [fI]
  have ka : KX [] [27] F2 G2 F2 (gup G2 27 f (nI c)) := KX.g rfl KX.rf
  have e27 : gup G2 27 f (nI c) 27 f = nI c ∧ ∀ y : Nat, y ≠ f → gup G2 27 f (nI c) 27 y = G2 27 y := ⟨gup_i, fun y hy => gup_x hy⟩
  have Va : jV X p N K n q nf t j F1 G1 F2 (gup G2 27 f (nI c)) := by
    rcases hp with z | z
    · subst z
      exact V.g27 ka
    · rw [gup_same (h27 z)]
      exact V
  generalize gup G2 27 f (nI c) = Ga at ka e27 Va ⊢
  have kb : KX [] [30] F2 Ga F2 (gup Ga 30 f (F2 60)) := KX.g rfl KX.rf
  have Vb := Va.g30 kb
  have e27b : gup Ga 30 f (F2 60) 27 = Ga 27 := gup_o (by decide)
  have e30b : gup Ga 30 f (F2 60) 30 f = F2 60 ∧ ∀ y : Nat, y ≠ f → gup Ga 30 f (F2 60) 30 y = G2 30 y := ⟨gup_i, fun y hy => by rw [gup_x hy, ka.2 30 rfl]⟩
  generalize gup Ga 30 f (F2 60) = Gb at kb Vb e27b e30b ⊢
  have kab : KX [] [27, 30] F2 G2 F2 Gb := KX.tr (KX.tr KX.rf ka rfl rfl) kb rfl rfl
  have g6 : Gb 6 = G2 6 := kab.2 6 rfl
  have sg := Vb.1.sg (w := 26) (a := 23) (b := 26) (by decide) (by decide) (by decide)
  unfold mb_function_311
  refine JP.isSS (fun hc => ?_) (fun hc => ?_)
  · unfold mb_function_317
    rw [if_neg i10n]
    unfold mb_function_326
    rw [Option.bind_assoc]
    unfold cf_X4_block mf_block
    refine JP.both (JP.wR ((jPst_all 300).2.1 300 t j X F1 G1 F2 Gb Vb (by have := Vb.2.2.2.1.2.2; omega)) (mr_block F2 Gb rfl rfl Vb.1.2.1.1.2.2.2.2.2.2.2.1)) ?_
    rintro r3 F3 G3 r4 F4 G4 ⟨⟨rfl, Y, t1, k, LB, LC, V3, W3, ⟨b1, b2, b3⟩, -, -, bN⟩ | h, rd⟩
    · dsimp only
      have b4 : j + 1 < k := by
        have ixk := V3.1.2.1.1.ix V3.1.1.1
        have ixj := Vb.1.2.1.1.ix Vb.1.1.1
        have kN : k ≤ N := V3.1.2.1.1.1
        have n4 := V3.1.1.1.1
        rcases rd with ⟨-, -, -, rd⟩ | ⟨y, -⟩
        · obtain ⟨t', w1, w2⟩ := jr_blk rd
          rcases Nat.lt_or_ge (j + 1) k with y | y
          · exact y
          · exfalso
            have kj : k = j + 1 := by omega
            have s1 := (of_decide_eq_true hc).2
            have s2 := (of_decide_eq_true w1).2
            have e1 : (F4 42).toInt.toNat = j + 1 := ixk.trans kj
            have e2 : t' = F4 42 - 1 := by rw [w2, i_as]
            have et : t'.toNatClampNeg = j := by
              show t'.toInt.toNat = j
              rw [e2, i_subn (m := 1) _ rfl (by omega) (by omega)]
              omega
            rw [et] at s2
            rw [ixj, s2] at s1
            exact absurd s1 (by decide)
        · exact absurd y (by decide)
      unfold mb_function_330
      rw [if_neg i10n]
      have g64 : G4 6 = G2 6 := (W3.2.1.2.2 6 rfl).trans g6
      refine jt_fleave V3 (by rw [b1]; exact h15) ?_ ?_ hf hnf (fun z => ?_) (fun t2 F5 G5 F6 G6 I5 y1 y2 y3 y4 y5 => ?_)
      · have := W3.2.2.2.2.1
        rw [g64]
        rw [g6] at this
        omega
      · rw [W3.2.1.1.1 28 rfl]; exact h28
      · rw [W3.2.1.1.1 49 rfl]; exact hx4 z
      · refine H Y t2 k F5 G5 F6 G6 I5 ⟨W3.1, V3.2.1.1⟩ b4 ⟨y1.1, y1.2.1, y1.2.2, ?_, ?_, ?_, ?_⟩ ⟨?_, ?_⟩ (fun z => ?_) ⟨?_, fun y hy => ?_⟩ (fun z => ⟨⟨(y4 z).1.1, fun y hy => ⟨?_, ?_⟩⟩, ?_⟩) (fun z => ?_)
        · rw [y2.1.1 29 rfl, V3.2.2.1.1, b2]
        · rw [y2.2.1 54 rfl]; exact V3.2.1.2.1
        · exact V3.2.1.2.2.kx y2.1 rfl
        · rw [y2.1.1 10 rfl, W3.2.2.2.1]
          omega
        · exact KX.tr (KX.tr KX.rf W3.2.1.1 rfl rfl) y2.1 rfl rfl
        · exact KX.tr (KX.tr (KX.tr KX.rf kab rfl rfl) W3.2.1.2 rfl rfl) y2.2 rfl rfl
        · exact KX.tr (KX.tr KX.rf (W3.2.2.2.2.2.1 z) rfl rfl) (y3 z) rfl rfl
        · rw [y2.2.2 27 rfl, W3.2.1.2.2 27 rfl, e27b]; exact e27.1
        · rw [y2.2.2 27 rfl, W3.2.1.2.2 27 rfl, e27b]; exact e27.2 y hy
        · rw [((y4 z).1.2 y hy).1, W3.2.1.1.2 79 rfl]
        · rw [((y4 z).1.2 y hy).2, W3.2.1.2.2 28 rfl, kab.2 28 rfl]
        · have pl := ((V3.2.2.2.2.2 z).2.2).cut (y4 z).2
          rw [W3.2.1.2.2 4 rfl, W3.2.1.2.2 5 rfl, kab.2 4 rfl, kab.2 5 rfl] at pl
          exact pl
        · obtain ⟨j1, ⟨j2, j3, j4, j5⟩, j6⟩ := y5 z
          obtain ⟨n1, n2⟩ := bN z (h51 z)
          have W := W3
          rw [n1, n2] at W
          have J := (W.2.2.2.2.2.2.2 z (fun _ => wN F1) (fun _ => ([], some X.2.2.1)) rfl rfl).tr (jR3 Y) (fun mu A a b => j1 mu A a b)
          obtain ⟨mu, A, lz, -, ⟨-, a1, a2, a3, az⟩, a4, ⟨a5, a6⟩, ⟨a7, a8⟩, -, -, aZ, a11⟩ := J
          refine ⟨⟨⟨a1, a2⟩, fun q hq => ?_, a8⟩, fun y hy => ⟨?_, ?_⟩, ?_, mu, A, lz.1 ++ lz.2, ?_, az, a6, a3, ⟨(a4 _ (Nat.le_refl _)).2, by rw [a5]⟩, ⟨by rw [aZ.1.2]; exact j2, by rw [aZ.1.1]; exact j3, by rw [aZ.1.2]; exact j4⟩, fun q l q1 q2 e => (aZ.2 q l q1 q2 e).2.2, fun q q1 q2 => ?_⟩
          · have c : cEq G2 Gb q := ⟨by rw [kab.2 56 rfl], by rw [kab.2 57 rfl], by rw [kab.2 58 rfl], by rw [kab.2 59 rfl]⟩
            exact c.tr (a7 q hq)
          · rw [j6 y hy, W3.2.1.2.2 29 rfl, kab.2 29 rfl]
          · rw [y2.2.2 30 rfl, W3.2.1.2.2 30 rfl]
            exact e30b.2 y hy
          · rw [y2.2.2 30 rfl, W3.2.1.2.2 30 rfl]
            exact e30b.1
          · have := (W3.wl z).2
            omega
          · rcases a11 q q1 q2 with w | ⟨x, w, -⟩
            · exact jT.ctx (X := (Y.1, Y.2.1, lz.1 ++ lz.2, Y.2.2.2)) (Y := (false, X.2.1, lz.1 ++ lz.2, X.2.2.2)) ⟨V3.2.1.1.symm, W3.1.2.symm, W3.1.1.2.2.2.symm⟩ jLe.rf w
            · exact nomatch w
    · dsimp only
      exact JP.fin (PP.bind (kq_X4_endF F3 F3 G3 CFS.rf) (fun r F G w => hkk F3 r F G w)) (PP.bind (nqj_function_330 (nI f) x4 r4 F4 G4 MFS.rf) (fun r F G w => hg F4 r F G w)) h hQ
  · have n23 : ¬ F1 11 = 23 := fun z => by rw [sg.mp z] at hc; cases hc
    have c1 : PP ((cf_X4_block fu F1 G1).bind (fun q => (cf_X4_endFunction fu q.2.1 q.2.2).bind kk)) (fun _ F' _ => ∃ F0 : PF, (¬ F0 14 = 0 ∧ F0 11 = -2) ∧ CFS F0 F') := by
      have cb : PP (cf_X4_block fu F1 G1) (fun _ F' _ => ∃ F0 : PF, (¬ F0 14 = 0 ∧ F0 11 = -2) ∧ CFS F0 F') := by
        unfold cf_X4_block
        show PP (ch_X4_block fu (cS2 fu 299) F1 G1) _
        unfold ch_X4_block cb_X4_block_0
        refine PP.bind (ct_opens Vb.1.1.1 Vb.1.2.1.1 n23) ?_
        rintro r F G w
        exact PP.mono (kqj_X4_block_9 _ (kqS2 299) r F G CFS.rf) (fun _ F' _ y => ⟨F, w, y⟩)
      refine PP.bind cb ?_
      rintro r F G ⟨F0, w, y⟩
      exact PP.mono (PP.bind (kq_X4_endF F0 F G y) (fun r F G w => hkk F0 r F G w)) (fun _ F' _ v => ⟨F0, w, v⟩)
    have c2 : PP ((mb_function_317 fu (nI f) x4 0 F2 Gb).bind g) (fun _ F' _ => ¬ F' 44 = 0) := by
      unfold mb_function_317
      rw [if_pos rfl]
      unfold mb_function_320
      rw [Option.bind_assoc]
      refine PP.bind (mp_fails 2 (by decide) F2 Gb) ?_
      rintro r F G ⟨-, w⟩
      refine PP.mono (PP.bind (show PP (mb_function_325 fu r F G) (fun _ F' _ => MFS F F') from PP.bz (fun _ => PP.ret MFS.rf)) (fun r F' G' v => hg F r F' G' v)) (fun _ F' _ v y => ?_)
      have := w.1
      rw [v.1 y] at this
      exact absurd this (by decide)
    refine JP.pp c1 c2 (fun _ _ _ _ _ _ w1 w2 => ?_)
    obtain ⟨F0, ⟨v1, v2⟩, v3⟩ := w1
    exact hQ _ _ _ _ _ _ (jEnd.st (.inr ⟨v1, v2, .inl w2⟩) v3 MFS.rf)
end JVG
