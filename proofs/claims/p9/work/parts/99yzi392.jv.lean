abbrev jXg : List Nat := [6, 9, 10, 11, 12, 13, 14, 21, 30, 31, 41, 43, 44, 46, 47, 56, 57, 75, 300]
abbrev jYg : List Nat := [5, 20, 33, 34, 35, 36, 37, 38, 39, 40, 55, 86]
abbrev jZg : List Nat := [14, 36, 37, 42, 43, 44, 45, 47, 48, 49, 50, 51, 52, 53, 54, 55, 60, 61, 62, 63, 64, 65, 66, 70, 72]
abbrev jWg : List Nat := [16, 17, 18, 19, 20, 21, 22, 23, 38, 39, 40, 41, 56, 57, 58, 59, 67, 68, 69, 71]
/-- both stand behind a name (token n0) that is told between two functions -/
def jNg (X : JCX) (p : Int32) (N K n q nf t n0 f : Nat) (φ : Nat → Nat) (cid pl x3 : Int32) (Fa : PF) (Ga : PG) (Fb : PF) (Gb : PG) : Prop := jGs X p N K n q nf t (n0 + 1) f φ Fa Ga Fb Gb ∧ (cid = Gb 5 n0 ∧ pl = Gb 6 n0 ∧ x3 = nI n0 ∧ n0 < N) ∧ (1 ≤ n0 ∧ Gb 4 (n0 - 1) = 2 ∧ (Gb 5 (n0 - 1) = 0 ∨ Gb 5 (n0 - 1) = 1 ∨ Gb 5 (n0 - 1) = 2) ∧ Gb 4 n0 = 1) ∧ (p = 1 → jPl N q nf t n0 (Gb 4) (Gb 5) ∧ jWd X Fa Ga Fb Gb)
/-- how a TOLD that is no function may end -/
def jOt (X : JCX) (p : Int32) (N K n q nf n0 f : Nat) (φ : Nat → Nat) (Fa : PF) (Ga : PG) (Fb : PF) (Gb : PG) (r2 : Int32) (F1 : PF) (G1 : PG) (F2 : PF) (G2 : PG) : Prop := (r2 = 1 ∧ ∃ (Y : JCX) (t1 j : Nat), jGs Y p N K n q nf t1 j f φ F1 G1 F2 G2 ∧ (p = 1 → jWd Y F1 G1 F2 G2) ∧ n0 < j ∧ (KX jXg jYg Fa Ga F1 G1 ∧ KX jZg jWg Fb Gb F2 G2) ∧ (Y.2.2.2 = X.2.2.2 ∧ (F1 10).toInt = (Fa 10).toInt)) ∨ jEnd F1 F2
section JV2
variable {fu : Nat} {X : JCX} {p : Int32} {N K n q nf t i j f n0 : Nat} {φ : Nat → Nat} {cid pl x1 x3 r : Int32} {Fa Fb Fc Fm F1 F2 F3 F4 F5 : PF} {Ga Gb Gc Gm G1 G2 G3 G4 G5 : PG}
theorem jNg.x3n (M : jNg X p N K n q nf t n0 f φ cid pl x3 Fa Ga Fb Gb) : x3.toNatClampNeg = n0 := by
  obtain ⟨T, ⟨-, -, e3, e4⟩, -⟩ := M
  have := T.1.1.1.1
  rw [e3]
  exact nI_c _ (by omega)
/-- what both know of the name -/
theorem jNg.kn (M : jNg X p N K n q nf t n0 f φ cid pl x3 Fa Ga Fb Gb) (hp : p = 1) (sb : ¬ Gb 5 (n0 + 1) = 22) : ∃ r : Int32, jKn K (q + t) cid pl r Fa Ga ∧ (jTw nf t x3 Fb Gb ↔ jHre (q + t) (Fa 42) pl r Ga) := by
  have x3n := M.x3n
  obtain ⟨T, ⟨e1, e2, e3, e4⟩, ⟨g1, g2, g3, g4⟩, P⟩ := M
  have S := T.1.1
  obtain ⟨-, SA, SE, SU, SL, FT⟩ := S.2.2.2.2.2 hp
  have tn := (S.1.2.2.2.1 n0 e4).2
  have id0 := tn.1 g4
  have pl1 := tn.2.2
  have n4 := S.1.1.2.1
  have r6 := ((P hp).1.room S.1.1.2.2 (fun i hi => S.t1 hi) S.p0t (by omega) (by rw [S.1.2.2.2.2.2.1]; omega)).1
  rw [← e1] at id0
  have q2 := SL.2.1 cid.toInt.toNat (by omega)
  rw [jnI id0.1] at q2
  refine ⟨_, ⟨⟨SE.2.1, by omega⟩, id0, by rw [S.2.2.1.2.1, hp]; decide, SL, q2, by rw [e2]; omega⟩, jTH0 SA SE T.2.2.1.2.2 (by rw [x3n]; exact e2) (fun g hg z => ?_) ?_⟩
  · obtain ⟨⟨-, y1, y2⟩, ⟨-, y3⟩, -⟩ := T.2.2.2.2.1.1 g hg
    rw [y3, e2] at z
    have := S.inj (a := φ g) (b := n0) (by omega) (by omega) z
    rw [this] at y2
    exact sb y2
  · rw [x3n, ← e1]
    exact q2
theorem cp_tellO (a b c d e : Int32) {F : PF} {G : PG} (h : F 45 = 0) : PP (cf_X5_tell fu a b c d e F G) (fun _ F1 G1 => F = F1 ∧ G = G1) := by
  unfold cf_X5_tell cb_X5_tell_0
  rw [if_pos h]
  exact PP.ret ⟨rfl, rfl⟩
/-- the end of a TOLD: the class goes on and tells, the reference tells and goes on -/
theorem jt_tail {kk : Int32 × PF × PG → PR} {ck cv cz mk mc mz b3 : Int32} {m : JLY} (M : jNg X p N K n q nf t n0 f φ cid pl x3 Fa Ga Fb Gb) (T2 : jGs X p N K n q nf t j f φ F3 G3 F4 G4) (nj : n0 < j) (h10 : (F3 10).toInt = (Fa 10).toInt) (kc : KX jXT jYT Fa Ga F3 G3) (km : KX jZT jWT Fb Gb F4 G4) (sb : p = 1 → Gb 4 (n0 + 1) = 4 ∧ ¬ Gb 5 (n0 + 1) = 22) (hw : p = 1 → jWd (X.1, X.2.1 ++ m, [], X.2.2.2) F3 G3 F4 G4) (en : p = 1 → jEN (X.2.1 ++ m) [] ck cv cz 0 mk mc mz (vp_nar .boolean b3) (vp_nar .boolean 0)) (nt : p = 1 → ¬ jTw nf t x3 Fb Gb) (hk1 : ∀ (F : PF) (G : PG), kk (1, F, G) = some (1, F, G)) (hk0 : ∀ (r : Int32) (F : PF) (G : PG), PP (kk (r, F, G)) (fun _ F' _ => MFS F F')) :
    JP ((cf_X2_expect fu 26 F3 G3).bind (fun q => (cf_X5_tell fu cid pl ck cv cz q.2.1 q.2.2).bind (fun q => some (0, q.2.1, q.2.2)))) ((mf_declare fu x3 mk b3 mc mz 0 F4 G4).bind (fun q => (mf_sign fu 29 q.2.1 q.2.2).bind kk)) (fun _ F1 G1 r2 F2 G2 => jOt X p N K n q nf n0 f φ Fa Ga Fb Gb r2 F1 G1 F2 G2) := by
  have hp := T2.1.1.2.1
  have x3n := M.x3n
  have sg := T2.1.sg (w := 29) (a := 26) (b := 29) (by decide) (by decide) (by decide)
  have C := T2.1.2.1.1
  have cls : ∀ (F5 : PF) (G5 : PG), PP ((cf_X5_tell fu cid pl ck cv cz F5 G5).bind (fun q => some (0, q.2.1, q.2.2))) (fun _ F' _ => CFS F5 F') := fun F5 G5 => PP.bind (kq_X5_tell cid pl ck cv cz F5 G5) (fun r F G h => PP.ret h)
  refine JP.L (jo_expL (a := 26) T2.1.1.1 C (fun z => C.ltS T2.1.1.1 (sg.mp z))) ?_
  rintro rb F5 G5 (⟨q1, o3⟩ | ⟨q1, q2, q3⟩)
  · dsimp only
    rcases o3 with o3 | o3
    · have lj := C.ltS T2.1.1.1 (sg.mp q1)
      have e3 := jAl.on (X := X) (p := p) (s := []) T2.1.1 T2.1.2.1 lj (T2.1.1.t1 lj) o3
      have T3 := T2.al e3 (by omega)
      have kc3 : KX jXg jYg Fa Ga F5 G5 := KX.tr (KX.tr KX.rf kc rfl rfl) e3.1.1 rfl rfl
      -- the reference's end
      have fin : ∀ (a : PR) (F6 : PF) (G6 : PG), KX [14] [16, 17, 18, 19, 20, 21, 22, 23] F4 G4 F6 G6 → JP a (some (1, fup F6 42 (F4 42 + 1), G6)) (fun _ F1 G1 r2 F2 G2 => jOt X p N K n q nf n0 f φ Fa Ga Fb Gb r2 F1 G1 F2 G2) → JP a ((mf_sign fu 29 F6 G6).bind kk) (fun _ F1 G1 r2 F2 G2 => jOt X p N K n q nf n0 f φ Fa Ga Fb Gb r2 F1 G1 F2 G2) := by
        intro a F6 G6 k6 H
        refine JP.R (mp_sign 29 F6 G6) ?_
        rintro rs Fs Gs (⟨rfl, rfl, rfl, -, -⟩ | ⟨-, -, bad⟩)
        · rw [hk1, k6.1 42 rfl]
          exact H
        · exfalso
          rcases bad with z | z
          · rw [k6.1 44 rfl, C.2.2.2.2.2.2.2.1] at z
            exact absurd z (by decide)
          · rw [k6.1 42 rfl, k6.2 4 rfl, k6.2 5 rfl, sg.mp q1] at z
            cases z
      rcases hp with rfl | rfl
      · refine JP.L (cp_tellO cid pl ck cv cz (by rw [e3.1.1.1 45 rfl]; exact T2.1.1.2.2.1.2.1)) ?_
        rintro _ _ _ ⟨rfl, rfl⟩
        dsimp only
        refine JP.R (mp_decl0 x3 mk b3 mc mz 0 T2.1.1.2.2.1.1) ?_
        rintro _ _ _ ⟨rfl, rfl⟩
        dsimp only
        refine fin _ F4 G4 KX.rf (JP.ret (.inl ⟨rfl, X, t, j + 1, T3, fun z => absurd z (by decide), by omega, ⟨kc3, ?_⟩, rfl, e3.2.2.2.1.trans (by omega)⟩))
        exact KX.tr (KX.tr KX.rf km rfl rfl) e3.1.2 rfl rfl
      · obtain ⟨r, kn, tw⟩ := M.kn rfl (sb rfl).2
        have kn5 := kn.kx (KX.tr (KX.tr KX.rf kc rfl rfl) e3.1.1 rfl rfl : KX jXT jYT Fa Ga F5 G5) rfl rfl
        obtain ⟨⟨k1, k2⟩, ⟨k3, k4⟩, k5, k6, k7, k8⟩ := kn5
        have kh : KX jXT jYT Fa Ga F5 G5 := KX.tr (KX.tr KX.rf kc rfl rfl) e3.1.1 rfl rfl
        have nh : ¬ jHre (q + t) (F5 42) pl r G5 := fun z => nt rfl (tw.mpr (by
          obtain ⟨jj, z1, z2, z3, z4⟩ := z
          rw [kh.2 34 rfl, kh.1 42 rfl] at z3
          rw [kh.2 35 rfl, kh.2 36 rfl] at z4
          exact ⟨jj, z1, z2, z3, z4⟩))
        refine JP.L (cp_tell cid pl ck cv cz k1 (by omega) k3 k4 k5 k6 k7 k8) ?_
        rintro rt F7 G7 ⟨-, hi⟩
        have ins := hi nh
        dsimp only
        have SE4 := (T2.1.1.2.2.2.2.2 rfl).2.2.1
        refine JP.R (mp_decl x3 mk b3 mc mz 0 SE4.1 (by have := SE4.2.2.1; omega) (by rw [T2.1.1.2.2.1.1]; decide)) ?_
        rintro rd F6 G6 de
        dsimp only
        have kme : KX jZT jWT Fb Gb (fup F4 42 (F4 42 + 1)) G4 := KX.tr (KX.tr KX.rf km rfl rfl) e3.1.2 rfl rfl
        obtain ⟨-, ⟨y1, y2, y3, y4⟩, ⟨z1, z2, z3, z4⟩, P⟩ := M
        have T4 := T3.tell (m := m) (n0 := n0) ins (de.c42 (v := F4 42 + 1)) x3n (by omega) (by rw [kme.2 5 rfl]; exact y1) (by rw [kme.2 6 rfl]; exact y2) ⟨k3, k4⟩ (by rw [kme.2 4 rfl, kme.2 5 rfl]; exact ⟨z1, z2, z3, z4, (sb rfl).1⟩) (by rw [kme.2 5 rfl]; exact (sb rfl).2) (by rw [kme.2 4 rfl, kme.2 5 rfl]; exact (P rfl).1) (fun w => nt rfl (w.kx (kme.1 15 rfl) (km.2 19 rfl) (km.2 16 rfl) (km.2 5 rfl) (km.2 25 rfl) (km.2 26 rfl) (km.2 6 rfl))) (en rfl)
        refine fin _ F6 G6 de.1 (JP.ret (.inl ⟨rfl, _, t + 1, j + 1, T4, fun _ => ?_, by omega, ⟨KX.tr kc3 ins.1 rfl rfl, ?_⟩, rfl, ?_⟩))
        · have w := hw rfl
          unfold jWd at w ⊢
          rw [ins.1.1 75 rfl, e3.1.1.1 75 rfl, fup_n (by decide), fup_n (by decide), de.1.1 36 rfl, de.1.1 37 rfl, ins.1.2 86 rfl, e3.1.1.2 86 rfl, de.1.2 41 rfl, de.1.2 38 rfl, de.1.2 39 rfl, de.1.2 40 rfl]
          exact w
        · exact KX.tr (KX.tr KX.rf kme rfl rfl) (de.c42 (v := F4 42 + 1)).1 rfl rfl
        · rw [ins.1.1 10 rfl]
          exact e3.2.2.2.1.trans (by omega)
    · refine JP.fin (cls F5 G5) (PP.bind (mw_declare x3 mk b3 mc mz 0 F4 G4) (fun r F G h => PP.bind (nq_sign 29 F G) (fun r1 F1 G1 h1 => PP.mono (hk0 r1 F1 G1) (fun _ F' _ w => MFS.tr (MFS.tr (MFS.kx h rfl rfl rfl rfl) h1) w)))) (.inr ?_) (fun _ _ _ _ _ _ w => .inr w)
      obtain ⟨x, y, z⟩ := o3
      rw [fup_n (by decide), fup_n (by decide)] at z
      exact ⟨x, y, z⟩
  · dsimp only
    have bad : PP ((mf_declare fu x3 mk b3 mc mz 0 F4 G4).bind (fun q => (mf_sign fu 29 q.2.1 q.2.2).bind kk)) (fun _ F' _ => ¬ F' 44 = 0) := by
      refine PP.bind (mw_declare x3 mk b3 mc mz 0 F4 G4) ?_
      rintro r F G h
      refine PP.bind (mp_sign 29 F G) ?_
      rintro r3 F6 G6 (⟨-, -, -, z, -⟩ | ⟨-, z, -⟩)
      · exfalso
        rw [h.1 42 rfl, h.2 4 rfl, h.2 5 rfl] at z
        exact q1 (sg.mpr z)
      · refine PP.mono (hk0 r3 F6 G6) (fun _ F' _ w y => ?_)
        have := z.1
        rw [w.1 y] at this
        exact absurd this (by decide)
    exact JP.pp (cls F5 G5) bad (fun _ F' _ _ F'' _ w1 w2 => .inr (jEnd.st (.inr ⟨q2, q3, .inl w2⟩) w1 MFS.rf))
/-- const -/
theorem jt_const (M : jNg X p N K n q nf t n0 f φ cid pl x3 Fa Ga Fb Gb) : JP (cf_X4_constTold fu cid pl Fa Ga) (mb_constantTold_4 fu x3 Fb Gb) (fun _ F1 G1 r2 F2 G2 => jOt X p N K n q nf n0 f φ Fa Ga Fb Gb r2 F1 G1 F2 G2) := by
  have T := M.1
  have hp := T.1.1.2.1
  have ix := T.1.2.1.1.ix T.1.1.1
  unfold cf_X4_constTold cb_X4_constTold_0 mb_constantTold_4
  refine JP.both (jo_sign T.1.1.1 T.1.2.1.1 (w := 32) (by decide) (by decide) (by decide)) ?_
  rintro r1 F1 G1 r2 F2 G2 (⟨rfl, hz, o⟩ | o)
  · dsimp only
    have li := T.1.2.1.1.ltS T.1.1.1 hz
    have e0 := jAl.on (X := X) (p := p) (s := []) T.1.1 T.1.2.1 li (T.1.1.t1 li) o
    have T1 := T.al e0 (by omega)
    obtain ⟨s4, s5⟩ := of_decide_eq_true hz
    rw [ix] at s4 s5
    have s22 : ¬ Gb 5 (n0 + 1) = 22 := by rw [s5]; decide
    unfold mb_constantTold_11
    rw [if_neg i10n]
    unfold cb_X4_constTold_9 mb_constantTold_16
    refine JP.both (jk_constant T1.1 T1.2.1.2.2.1 T1.2.1.2.2.2) ?_
    rintro r3 F3 G3 r4 F4 G4 (⟨rfl, j, a⟩ | h)
    · dsimp only
      have T2 := T1.ak a
      have ij : n0 + 1 + 1 ≤ j := a.2.2.1.1
      have kc : KX jXT jYT Fa Ga F3 G3 := KX.tr (KX.tr KX.rf e0.1.1 rfl rfl) a.1.1 rfl rfl
      have km : KX jZT jWT Fb Gb F4 G4 := KX.tr (KX.tr KX.rf e0.1.2 rfl rfl) a.1.2 rfl rfl
      unfold mb_constantTold_20
      rw [if_pos (show F4 44 ≤ 0 by rw [T2.1.2.1.1.2.2.2.2.2.2.2.1]; decide)]
      have h55 : p = 1 → F4 55 = 0 := fun z => (a.2.2.2.2.2.2 z).2.1
      -- clean
      have go : ∀ (b3 mz : Int32), (p = 1 → b3 = 0 ∧ ¬ mz = -1) → (p = 1 → ¬ jTw nf t x3 Fb Gb) → JP (cb_X4_constTold_16 fu cid pl r3 F3 G3) (mb_constantTold_54 fu mz r3 b3 0 x3 F4 G4) (fun _ F1 G1 r2 F2 G2 => jOt X p N K n q nf n0 f φ Fa Ga Fb Gb r2 F1 G1 F2 G2) := by
        intro b3 mz hb nt
        refine jt_tail (kk := fun q => mb_constantTold_64 fu q.1 q.2.1 q.2.2) (m := []) M T2 (by omega) (a.2.2.2.1.trans (e0.2.2.2.1.trans (by omega))) kc km (fun _ => ⟨s4, s22⟩) (fun z => ?_) (fun z => ?_) nt (fun F G => rfl) (fun r F G => PP.bz (fun _ => PP.ret MFS.rf))
        · have w := (M.2.2.2 z).2
          unfold jWd at w ⊢
          dsimp only
          rw [List.append_nil, a.1.2.1 36 rfl, a.1.2.1 37 rfl, a.1.1.1 75 rfl, e0.1.2.1 36 rfl, e0.1.2.1 37 rfl, e0.1.1.1 75 rfl, a.1.1.2 86 rfl, a.1.2.2 41 rfl, e0.1.1.2 86 rfl, e0.1.2.2 41 rfl, a.1.2.2 38 rfl, a.1.2.2 39 rfl, a.1.2.2 40 rfl, e0.1.2.2 38 rfl, e0.1.2.2 39 rfl, e0.1.2.2 40 rfl]
          exact w
        · refine .inl ⟨rfl, rfl, rfl, (hb z).2, ?_⟩
          rw [(hb z).1]
          decide
      unfold mb_constantTold_30
      rcases hp with rfl | rfl
      · refine JP.R (mp_twice0 T2.1.1.2.2.1.1) ?_
        rintro _ _ _ ⟨rfl, rfl⟩
        dsimp only
        unfold mb_constantTold_40 mb_constantTold_53 mb_constantTold_49
        refine JP.iteR (fun _ => ?_) (fun _ => ?_)
        · exact go 0 1 (fun z => absurd z (by decide)) (fun z => absurd z (by decide))
        · exact go 0 (-1) (fun z => absurd z (by decide)) (fun z => absurd z (by decide))
      · obtain ⟨-, SA, SE, -⟩ := T2.1.1.2.2.2.2.2 rfl
        have FT := (T2.1.1.2.2.2.2.2 rfl).2.2.2.2.2
        by_cases hT : jTw nf t x3 Fb Gb
        · -- told twice: both note it
          have hT4 : jTw nf t x3 F4 G4 := hT.kx (km.1 15 rfl).symm (km.2 19 rfl).symm (km.2 16 rfl).symm (km.2 5 rfl).symm (km.2 25 rfl).symm (km.2 26 rfl).symm (km.2 6 rfl).symm
          obtain ⟨r, kn, tw⟩ := M.kn rfl s22
          have c1 : PP (cb_X4_constTold_16 fu cid pl r3 F3 G3) (fun _ F' _ => (F' 43).toInt ≤ 4000) := by
            unfold cb_X4_constTold_16
            refine PP.bind (cw_X2_expect 26 F3 G3) ?_
            rintro re F5 G5 ke
            dsimp only
            unfold cb_X4_constTold_26
            have kh : KX jXT jYT Fa Ga F5 G5 := KX.tr kc ke rfl rfl
            obtain ⟨⟨k1, k2⟩, ⟨k3, k4⟩, k5, k6, k7, k8⟩ := kn.kx kh rfl rfl
            refine PP.bind (cp_tell cid pl 0 r3 0 k1 (by omega) k3 k4 k5 k6 k7 k8) ?_
            rintro rt F7 G7 ⟨hi, -⟩
            refine PP.ret (hi ?_)
            rw [kh.1 42 rfl]
            obtain ⟨jj, z1, z2, z3, z4⟩ := tw.mp hT
            exact ⟨jj, z1, z2, by rw [kh.2 34 rfl]; exact z3, by rw [kh.2 35 rfl, kh.2 36 rfl]; exact z4⟩
          have c2 : PP ((mf_twice fu x3 F4 G4).bind (fun q => mb_constantTold_40 fu x3 r3 (F4 55) q.2.1 q.2.2)) (fun _ F' _ => ¬ F' 47 = 0) := by
            refine PP.bind (mp_twice SE.1 (by have := SE.2.2.1; omega) SA.1 (by have := FT.2.1; omega) (by rw [T2.1.1.2.2.1.1]; decide)) ?_
            rintro rt F6 G6 ⟨-, h6, -⟩
            dsimp only
            exact PP.mono (nqj_constantTold_40 x3 r3 (F4 55) F6 G6 MFS.rf) (fun _ F' _ w y => h6 hT4 (w.2.1 y))
          exact JP.pp c1 c2 (fun _ _ _ _ _ _ w1 w2 => .inr (.inl ⟨w1, w2⟩))
        · refine JP.R (mp_twice SE.1 (by have := SE.2.2.1; omega) SA.1 (by have := FT.2.1; omega) (by rw [T2.1.1.2.2.1.1]; decide)) ?_
          rintro rt F6 G6 ⟨rfl, -, h6⟩
          have e6 := h6 (fun w => hT (w.kx (km.1 15 rfl) (km.2 19 rfl) (km.2 16 rfl) (km.2 5 rfl) (km.2 25 rfl) (km.2 26 rfl) (km.2 6 rfl)))
          subst e6
          dsimp only
          unfold mb_constantTold_40
          rw [if_pos (h55 rfl)]
          exact go 0 1 (fun _ => ⟨rfl, by decide⟩) (fun _ => hT)
    · dsimp only
      exact JP.fin (kqj_X4_constTold_16 cid pl r3 F3 G3 CFS.rf) (nqj_constantTold_20 x3 r4 F4 G4 MFS.rf) h (fun _ _ _ _ _ _ w => .inr w)
  · dsimp only
    exact JP.fin (kqj_X4_constTold_9 cid pl F1 G1 CFS.rf) (nqj_constantTold_11 x3 r2 F2 G2 MFS.rf) (.inr o) (fun _ _ _ _ _ _ w => .inr w)
end JV2
