section JV4
variable {fu : Nat} {X : JCX} {p : Int32} {N K n q nf t i j f n0 : Nat} {φ : Nat → Nat} {cid pl x1 x3 r : Int32} {Fa Fb Fc Fm F1 F2 F3 F4 F5 : PF} {Ga Gb Gc Gm G1 G2 G3 G4 G5 : PG}
/-- the end of a TOLD, with room that the class takes at its end -/
theorem jt_tailG {kcl : PF → PG → PR} {kk : Int32 × PF × PG → PR} {ck cv cz mk mc mz b3 : Int32} {m : JLY} (M : jNg X p N K n q nf t n0 f φ cid pl x3 Fa Ga Fb Gb) (T2 : jGs X p N K n q nf t j f φ F3 G3 F4 G4) (nj : n0 < j) (h10 : (F3 10).toInt = (Fa 10).toInt) (kc : KX jXT jYT Fa Ga F3 G3) (km : KX jZT jWT Fb Gb F4 G4) (sb : p = 1 → Gb 4 (n0 + 1) = 4 ∧ ¬ Gb 5 (n0 + 1) = 22) (en : p = 1 → jEN (X.2.1 ++ m) [] ck cv cz 0 mk mc mz (vp_nar .boolean b3) (vp_nar .boolean 0)) (nt : p = 1 → ¬ jTw nf t x3 Fb Gb) (hk1 : ∀ (F : PF) (G : PG), kk (1, F, G) = some (1, F, G)) (hk0 : ∀ (r : Int32) (F : PF) (G : PG), PP (kk (r, F, G)) (fun _ F' _ => MFS F F'))
    (cls : ∀ (F5 : PF) (G5 : PG), PP (kcl F5 G5) (fun _ F' _ => CFS F5 F')) (c0 : p = 0 → ∀ (F5 : PF) (G5 : PG), F5 45 = 0 → PP (kcl F5 G5) (fun _ F' G' => KX [75] [86] F5 G5 F' G')) (c1 : p = 1 → ∀ (F5 : PF) (G5 : PG) (r : Int32), jKn K (q + t) cid pl r F5 G5 → ¬ jHre (q + t) (F5 42) pl r G5 → F5 75 = F3 75 → G5 86 = G3 86 → PP (kcl F5 G5) (fun _ F' G' => ∃ (Fx : PF) (Gx : PG), KX [75] [86] F5 G5 Fx Gx ∧ jWd (X.1, X.2.1 ++ m, [], X.2.2.2) Fx Gx F4 G4 ∧ jIns (q + t) cid pl ck cv cz Fx Gx F' G')) :
    JP ((cf_X2_expect fu 26 F3 G3).bind (fun q => kcl q.2.1 q.2.2)) ((mf_declare fu x3 mk b3 mc mz 0 F4 G4).bind (fun q => (mf_sign fu 29 q.2.1 q.2.2).bind kk)) (fun _ F1 G1 r2 F2 G2 => jOt X p N K n q nf n0 f φ Fa Ga Fb Gb r2 F1 G1 F2 G2) := by
  have hp := T2.1.1.2.1
  have x3n := M.x3n
  have sg := T2.1.sg (w := 29) (a := 26) (b := 29) (by decide) (by decide) (by decide)
  have C := T2.1.2.1.1
  refine JP.L (jo_expL (a := 26) T2.1.1.1 C (fun z => C.ltS T2.1.1.1 (sg.mp z))) ?_
  rintro rb F5 G5 (⟨q1, o3⟩ | ⟨q1, q2, q3⟩)
  · dsimp only
    rcases o3 with o3 | o3
    · have lj := C.ltS T2.1.1.1 (sg.mp q1)
      have e3 := jAl.on (X := X) (p := p) (s := []) T2.1.1 T2.1.2.1 lj (T2.1.1.t1 lj) o3
      have T3 := T2.al e3 (by omega)
      have kc3 : KX jXT jYT Fa Ga F5 G5 := KX.tr (KX.tr KX.rf kc rfl rfl) e3.1.1 rfl rfl
      have kme : KX jZT jWT Fb Gb (fup F4 42 (F4 42 + 1)) G4 := KX.tr (KX.tr KX.rf km rfl rfl) e3.1.2 rfl rfl
      -- the class's room taken
      have tk : ∀ (Fx : PF) (Gx : PG), KX [75] [86] F5 G5 Fx Gx → jGs X p N K n q nf t (j + 1) f φ Fx Gx (fup F4 42 (F4 42 + 1)) G4 := by
        intro Fx Gx kx
        refine T3.mv (KX.tr KX.rf kx rfl rfl) KX.rf ?_ T3.2.1.2.2.1 (T3.2.1.2.2.2.kx kx rfl) ?_ ?_ (Nat.le_refl _) (fun _ => jCB.of rfl (kx.1 6 rfl) (kx.2 5 rfl) (fun _ _ _ => rfl))
        · rw [kx.1 46 rfl]; exact T3.x0
        · have := T3.1.2.1
          refine ⟨this.1.kx kx rfl rfl, ?_, ?_, ?_, this.2.2.2.2⟩
          · rw [kx.1 43 rfl, kx.1 47 rfl]; exact this.2.1
          · rw [kx.1 21 rfl]; exact this.2.2.1
          · rw [kx.1 6 rfl]; exact this.2.2.2.1
        · rw [kx.1 6 rfl]; exact T3.1.2.2
      -- the reference's end
      have fin : ∀ (a : PR) (F6 : PF) (G6 : PG), KX [14] [16, 17, 18, 19, 20, 21, 22, 23] F4 G4 F6 G6 → JP a (some (1, fup F6 42 (F4 42 + 1), G6)) (fun _ F1 G1 r2 F2 G2 => jOt X p N K n q nf n0 f φ Fa Ga Fb Gb r2 F1 G1 F2 G2) → JP a ((mf_sign fu 29 F6 G6).bind kk) (fun _ F1 G1 r2 F2 G2 => jOt X p N K n q nf n0 f φ Fa Ga Fb Gb r2 F1 G1 F2 G2) := by
        intro a F6 G6 k6 H
        refine JP.R (mp_sign 29 F6 G6) ?_
        rintro rs Fs Gs (⟨rfl, rfl, rfl, -, -⟩ | ⟨-, -, bad⟩)
        · rw [hk1, k6.1 42 rfl]
          exact H
        · exfalso
          rcases bad with z | z
          · rw [k6.1 44 rfl, C.2.2.2.2.2.2.2.1] at z
            exact absurd z (by decide)
          · rw [k6.1 42 rfl, k6.2 4 rfl, k6.2 5 rfl, sg.mp q1] at z
            cases z
      rcases hp with rfl | rfl
      · refine JP.pL (c0 rfl F5 G5 (by rw [e3.1.1.1 45 rfl]; exact T2.1.1.2.2.1.2.1)) ?_
        rintro rt Fx Gx kx
        refine JP.R (mp_decl0 x3 mk b3 mc mz 0 T2.1.1.2.2.1.1) ?_
        rintro _ _ _ ⟨rfl, rfl⟩
        dsimp only
        exact fin _ F4 G4 KX.rf (JP.ret (.inl ⟨rfl, X, t, j + 1, tk Fx Gx kx, fun z => absurd z (by decide), by omega, ⟨KX.tr (KX.tr KX.rf kc3 rfl rfl) kx rfl rfl, KX.tr KX.rf kme rfl rfl⟩, rfl, by rw [kx.1 10 rfl]; exact e3.2.2.2.1.trans (by omega)⟩))
      · obtain ⟨r, kn, tw⟩ := M.kn rfl (sb rfl).2
        have kn5 := kn.kx kc3 rfl rfl
        have nh : ¬ jHre (q + t) (F5 42) pl r G5 := fun z => nt rfl (tw.mpr (by
          obtain ⟨jj, z1, z2, z3, z4⟩ := z
          rw [kc3.2 34 rfl, kc3.1 42 rfl] at z3
          rw [kc3.2 35 rfl, kc3.2 36 rfl] at z4
          exact ⟨jj, z1, z2, z3, z4⟩))
        refine JP.pL (c1 rfl F5 G5 r kn5 nh (e3.1.1.1 75 rfl) (e3.1.1.2 86 rfl)) ?_
        rintro rt F7 G7 ⟨Fx, Gx, kx, wd, ins⟩
        have SE4 := (T2.1.1.2.2.2.2.2 rfl).2.2.1
        refine JP.R (mp_decl x3 mk b3 mc mz 0 SE4.1 (by have := SE4.2.2.1; omega) (by rw [T2.1.1.2.2.1.1]; decide)) ?_
        rintro rd F6 G6 de
        dsimp only
        obtain ⟨-, ⟨y1, y2, y3, y4⟩, ⟨z1, z2, z3, z4⟩, P⟩ := M
        have T4 := (tk Fx Gx kx).tell (m := m) (n0 := n0) ins (de.c42 (v := F4 42 + 1)) x3n (by omega) (by rw [kme.2 5 rfl]; exact y1) (by rw [kme.2 6 rfl]; exact y2) kn5.2.1 (by rw [kme.2 4 rfl, kme.2 5 rfl]; exact ⟨z1, z2, z3, z4, (sb rfl).1⟩) (by rw [kme.2 5 rfl]; exact (sb rfl).2) (by rw [kme.2 4 rfl, kme.2 5 rfl]; exact (P rfl).1) (fun w => nt rfl (w.kx (kme.1 15 rfl) (km.2 19 rfl) (km.2 16 rfl) (km.2 5 rfl) (km.2 25 rfl) (km.2 26 rfl) (km.2 6 rfl))) (en rfl)
        refine fin _ F6 G6 de.1 (JP.ret (.inl ⟨rfl, _, t + 1, j + 1, T4, fun _ => ?_, by omega, ⟨KX.tr (KX.tr (KX.tr KX.rf kc3 rfl rfl) kx rfl rfl) ins.1 rfl rfl, ?_⟩, rfl, by rw [ins.1.1 10 rfl, kx.1 10 rfl]; exact e3.2.2.2.1.trans (by omega)⟩))
        · unfold jWd at wd ⊢
          rw [ins.1.1 75 rfl, fup_n (by decide), fup_n (by decide), de.1.1 36 rfl, de.1.1 37 rfl, ins.1.2 86 rfl, de.1.2 41 rfl, de.1.2 38 rfl, de.1.2 39 rfl, de.1.2 40 rfl]
          exact wd
        · exact KX.tr (KX.tr KX.rf kme rfl rfl) (de.c42 (v := F4 42 + 1)).1 rfl rfl
    · refine JP.fin (cls F5 G5) (PP.bind (mw_declare x3 mk b3 mc mz 0 F4 G4) (fun r F G h => PP.bind (nq_sign 29 F G) (fun r1 F1 G1 h1 => PP.mono (hk0 r1 F1 G1) (fun _ F' _ w => MFS.tr (MFS.tr (MFS.kx h rfl rfl rfl rfl) h1) w)))) (.inr ?_) (fun _ _ _ _ _ _ w => .inr w)
      obtain ⟨x, y, z⟩ := o3
      rw [fup_n (by decide), fup_n (by decide)] at z
      exact ⟨x, y, z⟩
  · dsimp only
    have bad : PP ((mf_declare fu x3 mk b3 mc mz 0 F4 G4).bind (fun q => (mf_sign fu 29 q.2.1 q.2.2).bind kk)) (fun _ F' _ => ¬ F' 44 = 0) := by
      refine PP.bind (mw_declare x3 mk b3 mc mz 0 F4 G4) ?_
      rintro r F G h
      refine PP.bind (mp_sign 29 F G) ?_
      rintro r3 F6 G6 (⟨-, -, -, z, -⟩ | ⟨-, z, -⟩)
      · exfalso
        rw [h.1 42 rfl, h.2 4 rfl, h.2 5 rfl] at z
        exact q1 (sg.mpr z)
      · refine PP.mono (hk0 r3 F6 G6) (fun _ F' _ w y => ?_)
        have := z.1
        rw [w.1 y] at this
        exact absurd this (by decide)
    exact JP.pp (cls F5 G5) bad (fun _ F' _ _ F'' _ w1 w2 => .inr (jEnd.st (.inr ⟨q2, q3, .inl w2⟩) w1 MFS.rf))
/-- what the class does behind the ; of an int -/
theorem ct_int0 (v : Int32) {F : PF} {G : PG} (h : F 45 = 0) : PP (cb_X4_globalInt_38 fu cid pl v F G) (fun _ F' G' => KX [75] [86] F G F' G') := by
  unfold cb_X4_globalInt_38
  refine PP.bind (cp_groom 1 pl F G) ?_
  rintro r F1 G1 ⟨rfl, rfl, e, -⟩
  obtain rfl := e h
  dsimp only
  unfold cb_X4_globalInt_47
  refine PP.bind (cw_X8_tellInt _ v F G) ?_
  rintro r2 F2 G2 k2
  dsimp only
  unfold cb_X4_globalInt_59
  refine PP.bind (cp_tellO cid pl 1 _ 0 (by rw [k2.1 45 rfl]; exact h)) ?_
  rintro _ _ _ ⟨rfl, rfl⟩
  exact PP.ret (KX.tr KX.rf k2 rfl rfl)
theorem ct_int1 (v : Int32) {F : PF} {G : PG} (kn : jKn K (q + t) cid pl r F G) (nh : ¬ jHre (q + t) (F 42) pl r G) (h75 : (F 75 + 1) ≤ 2000) (h0 : 0 ≤ (F 75).toInt) (h1 : (F 75).toInt < 2000) : PP (cb_X4_globalInt_38 fu cid pl v F G) (fun _ F' G' => ∃ (Fx : PF) (Gx : PG), KX [75] [86] F G Fx Gx ∧ Fx 75 = F 75 + 1 ∧ Gx 86 = upd (G 86) (F 75).toNatClampNeg v ∧ jIns (q + t) cid pl 1 (F 75) 0 Fx Gx F' G') := by
  unfold cb_X4_globalInt_38
  refine PP.bind (cp_groom 1 pl F G) ?_
  rintro _ F1 G1 ⟨rfl, rfl, -, e, -⟩
  have e := e kn.2.2.1 h75
  dsimp only
  unfold cb_X4_globalInt_47
  refine PP.bind (cp_tI (v := v) h0 h1) ?_
  rintro r2 _ G2 ⟨rfl, e2⟩
  have k2 : KX [] [86] F1 G F1 G2 := by
    rw [← e2]
    exact KX.g rfl KX.rf
  have e2 : G2 86 = upd (G 86) (F 75).toNatClampNeg v := by
    rw [← e2]
    exact gup_u
  dsimp only
  unfold cb_X4_globalInt_59
  have kx : KX [75] [86] F G F1 G2 := by
    refine KX.tr ?_ k2 rfl rfl
    rw [← e]
    exact KX.f rfl KX.rf
  obtain ⟨⟨k1, k2'⟩, ⟨k3, k4⟩, k5, k6, k7, k8⟩ := kn.kx kx rfl rfl
  refine PP.bind (cp_tell cid pl 1 (F 75) 0 k1 (by omega) k3 k4 k5 k6 k7 k8) ?_
  rintro rt F7 G7 ⟨-, hi⟩
  refine PP.ret ⟨F1, G2, kx, ?_, e2, hi (fun z => nh ?_)⟩
  · rw [← e, fup_s]
  · obtain ⟨jj, z1, z2, z3, z4⟩ := z
    rw [kx.2 34 rfl, kx.1 42 rfl] at z3
    rw [kx.2 35 rfl, kx.2 36 rfl] at z4
    exact ⟨jj, z1, z2, z3, z4⟩
theorem ct_intB (v : Int32) {F : PF} {G : PG} (kn : jKn K (q + t) cid pl r F G) (hb : jHre (q + t) (F 42) pl r G ∨ ¬ (F 75 + 1) ≤ 2000) : PP (cb_X4_globalInt_38 fu cid pl v F G) (fun _ F' _ => (F' 43).toInt ≤ 4000) := by
  unfold cb_X4_globalInt_38
  refine PP.bind (cp_groom 1 pl F G) ?_
  rintro _ F1 G1 ⟨rfl, rfl, -, -, e, kg⟩
  dsimp only
  by_cases c : (F 75 + 1) ≤ 2000
  · have hh : jHre (q + t) (F 42) pl r G := by
      rcases hb with z | z
      · exact z
      · exact absurd c z
    unfold cb_X4_globalInt_47
    refine PP.bind (cw_X8_tellInt _ v F1 G) ?_
    rintro r2 F2 G2 k2
    dsimp only
    unfold cb_X4_globalInt_59
    have kx : KX [43, 44, 47, 75] [86] F G F2 G2 := KX.tr (KX.tr KX.rf kg rfl rfl) k2 rfl rfl
    obtain ⟨⟨k1, k2'⟩, ⟨k3, k4⟩, k5, k6, k7, k8⟩ := kn.kx kx rfl rfl
    refine PP.bind (cp_tell cid pl 1 _ 0 k1 (by omega) k3 k4 k5 k6 k7 k8) ?_
    rintro rt F7 G7 ⟨hi, -⟩
    refine PP.ret (hi ?_)
    obtain ⟨jj, z1, z2, z3, z4⟩ := hh
    exact ⟨jj, z1, z2, by rw [kx.2 34 rfl, kx.1 42 rfl]; exact z3, by rw [kx.2 35 rfl, kx.2 36 rfl]; exact z4⟩
  · have h43 := e kn.2.2.1 c kn.2.2.2.2.2
    exact PP.mono (kqj_X4_globalInt_47 cid pl v (F 75) F1 G CFS.rf) (fun _ F' _ w => w.2 h43)
end JV4
