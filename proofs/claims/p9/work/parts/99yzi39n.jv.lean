/-- the class knows its main: the first function of that name -/
def jMa (f : Nat) (Fc : PF) (Gm : PG) : Prop := (Fc 76 = -1 ∧ ∀ y : Nat, y < f → ¬ Gm 25 y = Fc 27) ∨ ∃ y : Nat, y < f ∧ Fc 76 = nI y ∧ Gm 25 y = Fc 27 ∧ ∀ z : Nat, z < y → ¬ Gm 25 z = Fc 27
section JVN
variable {fu : Nat} {X : JCX} {N K n q nf t f n0 : Nat} {φ : Nat → Nat} {cid pl gv xv x1 x2 : Int32} {Fa Fb : PF} {Ga Gb : PG} {ag : Int32 → Int32 → PF → PG → PR} {g : Int32 × PF × PG → PR} {Q : Int32 → PF → PG → Int32 → PF → PG → Prop}
/-- a function, in the first pass -/
theorem jt_fun0 (hQ : ∀ (r1 : Int32) (F1 : PF) (G1 : PG) (r2 : Int32) (F2 : PF) (G2 : PG), jEnd F1 F2 → Q r1 F1 G1 r2 F2 G2) (hkk : ∀ (F0 F : PF) (G : PG), CFS F0 F → PP (cb_X4_walk_176 fu ag x1 x2 F G) (fun _ F' _ => CFS F0 F')) (hg : ∀ (F0 : PF) (r : Int32) (F : PF) (G : PG), MFS F0 F → PP (g (r, F, G)) (fun _ F' _ => MFS F0 F')) (T : jGs X 0 N K n q nf t (n0 + 1) f φ Fa Ga Fb Gb) (hc : cid = Gb 5 n0) (hpl : pl = Gb 6 n0) (dc : jDc (Gb 4) (Gb 5) n0) (n22 : Gb 5 (n0 + 1) = 22) (n0N : n0 < N) (hph : ∀ y : Nat, y < f → φ y < n0) (h9 : 9 * (f : Int) ≤ (Gb 6 (n0 - 1)).toInt) (hgv : (Gb 5 (n0 - 1) = 0 ∧ gv = 1 ∧ vp_nar .boolean xv = 0) ∨ (Gb 5 (n0 - 1) = 2 ∧ gv = 0 ∧ vp_nar .boolean xv = 1)) (ma : jMa f Fa Gb)
    (H : ∀ (Y : JCX) (q' t1 j' : Nat) (φ' : Nat → Nat) (F3 : PF) (G3 : PG) (F4 : PF) (G4 : PG), jGs Y 0 N K n q' (f + 1) t1 j' (f + 1) φ' F3 G3 F4 G4 → ((∀ y : Nat, y < f → φ' y = φ y) ∧ φ' f = n0) → n0 < j' → (F3 10).toInt = (Fa 10).toInt → jMa (f + 1) F3 G4 → F3 27 = Fa 27 → JP (cb_X4_walk_176 fu ag x1 x2 F3 G3) (g (1, F4, G4)) Q) : JP (cb_X4_walk_147 fu ag x1 x2 cid gv pl cid Fa Ga) ((mf_function fu (nI f) (nI n0) xv Fb Gb).bind g) Q := by
  have T' := T
  obtain ⟨⟨S, D, R⟩, ⟨a1, a2, a3, a4⟩, ⟨b1, b2, b3⟩, ⟨c1, c2⟩, PO, t0, -⟩ := T
  obtain ⟨enf, ⟨y1, y1'⟩, SA, SL, FT, ⟨y5, y5'⟩, ⟨y6, y6'⟩, y7⟩ := t0 rfl
  subst enf
  have n4 := S.1.1
  have f4 := FT.2.1
  have id0 := ((S.1.2.2.2.1 n0 n0N).2).1 dc.2.2.2.1
  rw [← hc] at id0
  have gv01 : gv = 0 ∨ gv = 1 := by
    rcases hgv with ⟨-, y, -⟩ | ⟨-, y, -⟩
    · exact .inr y
    · exact .inl y
  have wB : ∀ (F0 : PF) (r : Int32) (F : PF) (G : PG), CFS F0 F → PP ((cf_X4_block fu F G).bind (fun q => (cf_X4_endFunction fu q.2.1 q.2.2).bind (fun q => cb_X4_walk_176 fu ag x1 x2 q.2.1 q.2.2))) (fun _ F' _ => CFS F0 F') := fun F0 r F G h => PP.bind (kq_X4_block F G) (fun r1 F1 G1 h1 => PP.bind (kq_X4_endF F0 F1 G1 (CFS.tr h h1)) (fun r2 F2 G2 h2 => hkk F0 F2 G2 h2))
  unfold cb_X4_walk_147
  refine JP.L (cp_start0 (pl := pl) SL y1 y1' id0.1 id0.2 FT.1 (by omega) gv01 c1 b2 S.2.2.1.2.1) ?_
  rintro r F3 G3 ⟨q', hcl⟩
  dsimp only
  refine mh_fun0 (by omega) (by omega) S.2.2.1.1 (fun F4 G4 hm => ?_)
  obtain ⟨V, SA1, qq⟩ := T'.fun0 hcl hm hc hpl id0.1 id0.2 hph n0N
  obtain ⟨kc3, ⟨e74, ⟨r77, r78, r82, r83⟩, rc⟩, -, ⟨e41, SL1, -, -⟩, e76⟩ := hcl
  obtain ⟨km4, ⟨e15, e24, -, m51⟩, ⟨r25, r26, r33, r31, -, r32⟩, rr⟩ := hm
  obtain ⟨om, e150⟩ : ∃ om : Int32, cb_X4_walk_150 fu ag x1 x2 cid F3 G3 = (cf_X4_formals fu om F3 G3).bind (fun q => (cf_X4_block fu q.2.1 q.2.2).bind (fun q => (cf_X4_endFunction fu q.2.1 q.2.2).bind (fun q => cb_X4_walk_176 fu ag x1 x2 q.2.1 q.2.2))) := by
    unfold cb_X4_walk_150
    by_cases c : cid = F3 27
    · rw [if_pos c]
      exact ⟨1, rfl⟩
    · rw [if_neg c]
      exact ⟨0, rfl⟩
  rw [e150]
  have c35 : (Fb 35).toInt = ((Fb 35).toInt.toNat : Int) := by omega
  generalize (Fb 35).toInt.toNat = c0 at c35
  have q6 : G4 6 = Gb 6 := km4.2 6 rfl
  refine jt_fls0 (c0 := c0) (om := om) hQ wB hg V e74 (by omega) (by rw [kc3.1 85 rfl, y5]; exact c35) (by rw [km4.1 35 rfl]; exact c35) r78 r32 (by rw [q6]; omega) (fun Y t1 j' c x4 F5 G5 F6 G6 V5 nfm jj e10 k5 k6 ⟨⟨L, nl, fo⟩, b6⟩ ⟨e32, e32'⟩ => ?_)
  dsimp only
  have g6 : G6 6 = Gb 6 := (k6.2 6 rfl).trans q6
  have jN : j' ≤ N := V5.1.2.1.1.1
  refine jt_fbody (kk := fun q => cb_X4_walk_176 fu ag x1 x2 q.2.1 q.2.2) hQ (fun F0 r F G h => hkk F0 F G h) hg V5 ?_ ?_ ?_ (by omega) (fun z => absurd z (by decide)) (fun z => absurd z (by decide)) (fun z => absurd z (by decide)) (fun z => absurd z (by decide)) (fun Z t2 j2 F7 G7 F8 G8 I7 ⟨uz, z1⟩ jl ⟨a42, a15, a28, a29, a54, axb, a10⟩ ⟨kx, ky⟩ k0 ⟨e27, e27'⟩ _ _ => ?_)
  · rw [k6.1 15 rfl, e15, b3]
    decide
  · have y2 := S.inc (a := n0 + 1) (b := n0 + 2) (by omega) (by omega)
    have y3 := S.inc (a := n0 + 2) (b := j') (by omega) jN
    rw [k5.1 6 rfl, kc3.1 6 rfl, g6]
    omega
  · rw [k5.1 28 rfl, kc3.1 28 rfl]; exact c1
  · have kk := k0 rfl
    have jN2 : j2 ≤ N := I7.2.1.1.1
    have t4 : G8 4 = Gb 4 := (ky.2 4 rfl).trans ((k6.2 4 rfl).trans (km4.2 4 rfl))
    have t5 : G8 5 = Gb 5 := (ky.2 5 rfl).trans ((k6.2 5 rfl).trans (km4.2 5 rfl))
    have t6 : G8 6 = Gb 6 := (ky.2 6 rfl).trans g6
    have u25 : G8 25 = G4 25 := (ky.2 25 rfl).trans (k6.2 25 rfl)
    have u26 : G8 26 = G4 26 := (ky.2 26 rfl).trans (k6.2 26 rfl)
    have u31 : G8 31 = G4 31 := (ky.2 31 rfl).trans (k6.2 31 rfl)
    have u33 : G8 33 = G4 33 := (ky.2 33 rfl).trans (k6.2 33 rfl)
    have u32 : G8 32 = G6 32 := ky.2 32 rfl
    have u34 : G8 34 = G6 34 := ky.2 34 rfl
    have u27 : ∀ y : Nat, y ≠ nf → G8 27 y = Gb 27 y := fun y hy => by
      rw [e27' y hy, k6.2 27 rfl]
      exact (rr y hy).2.2.1
    have v77 : G7 77 = G3 77 := (kk.2 77 rfl).trans (k5.2 77 rfl)
    have v82 : G7 82 = G3 82 := (kk.2 82 rfl).trans (k5.2 82 rfl)
    have v83 : G7 83 = G3 83 := (kk.2 83 rfl).trans (k5.2 83 rfl)
    have v78 : G7 78 = G5 78 := kk.2 78 rfl
    have v84 : G7 84 = G5 84 := kk.2 84 rfl
    obtain ⟨⟨o85, o35⟩, ⟨o78, o78'⟩, ol, onew, oL⟩ := fo
    have f85 : (F7 85).toInt = (c0 : Int) + c := by rw [kk.1 85 rfl]; exact o85
    have f35 : (F8 35).toInt = (c0 : Int) + c := by rw [ky.1 35 rfl]; exact o35
    have pN := TPF.mono S.1.1.2.2 j2 N jN2 (Nat.le_refl _)
    rw [S.1.2.2.2.2.2.1] at pN
    have p9 : 9 * ((nf : Int) + 1) ≤ (Gb 6 j2).toInt := by
      have w0 := dc.four S.1.1.2.2 n0N
      have w1 := S.inc (a := n0) (b := n0 + 1) (by omega) (by omega)
      have w2 := S.inc (a := n0 + 1) (b := n0 + 2) (by omega) (by omega)
      have w3 := S.inc (a := n0 + 2) (b := n0 + 3) (by omega) (by omega)
      have w4 := S.inc (a := n0 + 3) (b := n0 + 4) (by omega) (by omega)
      have w5 := S.inc (a := n0 + 4) (b := j2) (by omega) jN2
      omega
    have pj : (Gb 6 j').toInt ≤ (Gb 6 j2).toInt := TPF.mono S.1.1.2.2 j' j2 (by omega) jN2
    rw [q6] at b6
    have c4 : c ≤ 4001 := by omega
    have cI : (nI c).toInt = c := nI_toInt (by omega)
    have eKf : jKf G8 nf = L := by
      unfold jKf
      rw [e27, u31, u34, r31, show (Fb 35).toInt.toNat = c0 by omega, show (nI c).toInt.toNat = c by omega]
      refine List.ext_getElem? (fun y => ?_)
      by_cases hy : y < c
      · obtain ⟨kd, k2, h34, -, hL⟩ := onew y hy
        rw [hL, List.getElem?_map, List.getElem?_range hy]
        show some (G6 34 (c0 + y)).toInt.toNat = some kd
        rw [h34, nI_toInt (by omega)]
        rfl
      · exact (List.getElem?_eq_none (by rw [List.length_map, List.length_range]; omega)).trans (List.getElem?_eq_none (by omega)).symm
    have eKo : ∀ y : Nat, y < nf → y ≠ nf → jKf G8 y = jKf Gb y := by
      intro y y1 y2
      obtain ⟨s1, s2, s3, s4, s5, s6, s7, s8, s9⟩ := FT.2.2 y y1
      obtain ⟨-, s10⟩ := y7 y y1
      unfold jKf
      rw [u27 y y2, u31, u34, (rr y y2).2.2.2.1]
      refine List.map_congr_left (fun j hj => ?_)
      have hj := List.mem_range.mp hj
      rw [(ol ((Gb 31 y).toInt.toNat + j) (by omega)).2, km4.2 34 rfl]
    obtain ⟨φ', hφ1, hφ2⟩ : ∃ φ' : Nat → Nat, φ' nf = n0 ∧ ∀ y : Nat, y ≠ nf → φ' y = φ y := ⟨fun y => if y = nf then n0 else φ y, if_pos rfl, fun y hy => if_neg hy⟩
    refine H (Z.1, Z.2.1, [], Z.2.2.2) q' t2 j2 φ' F7 G7 F8 G8 ⟨I7, ⟨z1, rfl, a54, axb⟩, ⟨?_, a42, a15⟩, ⟨a28, Nat.le_refl _⟩, ⟨fun y hy => ?_, fun x y hxy hy => ?_⟩, fun _ => ⟨rfl, ⟨?_, qq⟩, ?_, ?_, ⟨?_, by omega, fun y hy => ?_⟩, ⟨?_, ?_⟩, ⟨?_, ?_⟩, fun y hy => ⟨?_, ?_⟩⟩, fun z => absurd z (by decide)⟩ ⟨fun y hy => hφ2 y (by omega), hφ1⟩ (by omega) ?_ ?_ ?_
    · rw [a29, k6.1 51 rfl]; exact m51
    · rw [t4, t5, t6, u25, u26, u32, u33]
      by_cases e : y = nf
      · subst e
        rw [hφ1, r25, r26, r33]
        refine ⟨⟨dc, n0N, n22⟩, ⟨rfl, rfl⟩, ?_, ?_, c, e27, ?_, ?_⟩
        · rcases hgv with ⟨w1, -, w2⟩ | ⟨w1, -, w2⟩
          · exact .inl ⟨w1, w2⟩
          · exact .inr ⟨w1, w2⟩
        · rw [km4.2 4 rfl, km4.2 5 rfl] at e32
          exact e32
        · rw [km4.2 4 rfl, km4.2 5 rfl] at nfm
          exact nfm
        · rw [km4.2 4 rfl, km4.2 5 rfl] at nl
          rw [eKf]
          exact nl
      · rw [hφ2 y e, e32' y e, (rr y e).1, (rr y e).2.1, (rr y e).2.2.2.2.1, (rr y e).2.2.2.2.2, u27 y e]
        rw [eKo y (by omega) e]
        exact PO.1 y (by omega)
    · by_cases e : y = nf
      · rw [hφ2 x (by omega), e, hφ1]
        exact hph x (by omega)
      · rw [hφ2 x (by omega), hφ2 y e]
        exact PO.2 x y hxy (by omega)
    · rw [kk.1 41 rfl, k5.1 41 rfl]; exact e41
    · unfold jSA at SA1 ⊢
      rw [ky.1 24 rfl, k6.1 24 rfl, u25, u26, kk.2 33 rfl, kk.2 34 rfl, kk.2 35 rfl, kk.2 36 rfl, kk.2 37 rfl, k5.2 33 rfl, k5.2 34 rfl, k5.2 35 rfl, k5.2 36 rfl, k5.2 37 rfl]
      exact SA1
    · unfold jSL at SL1 ⊢
      rw [kk.2 33 rfl, kk.2 39 rfl, kk.2 40 rfl, k5.2 33 rfl, k5.2 39 rfl, k5.2 40 rfl]
      exact SL1
    · rw [kk.1 74 rfl, k5.1 74 rfl, e74]
      omega
    · rw [u26, u31, u33, u34, v77, v78, v82, v83, v84]
      by_cases e : y = nf
      · subst e
        rw [r26, r31, r33, r77, r82, r83, o78, e27]
        refine ⟨?_, hpl, rfl, y5, by omega, by omega, by omega, fun j hj => ?_, by unfold jKf; rw [e27, u31, u34, r31]⟩
        · rcases hgv with ⟨-, w1, w2⟩ | ⟨-, w1, w2⟩
          · exact .inl ⟨w2, w1⟩
          · refine .inr ⟨?_, w1⟩
            rw [w2]
            decide
        · rw [show (Fb 35).toInt.toNat = c0 by omega]
          obtain ⟨kd, w1, w2, w3, -⟩ := onew j (by omega)
          exact ⟨kd, w1, w2, w3⟩
      · obtain ⟨s1, s2, s3, s4, s5, s6, s7, s8, s9⟩ := FT.2.2 y (by omega)
        obtain ⟨-, s10⟩ := y7 y (by omega)
        rw [(rr y e).2.1, (rr y e).2.2.2.1, (rr y e).2.2.2.2.2, u27 y e, (rc y e).1, o78' y e, (rc y e).2.1, (rc y e).2.2.1, (rc y e).2.2.2]
        refine ⟨s1, s2, s3, s4, s5, s6, s7, fun j hj => ?_, by unfold jKf; rw [u27 y e, u31, u34, (rr y e).2.2.2.1]⟩
        obtain ⟨l1, l2⟩ := ol ((Gb 31 y).toInt.toNat + j) (by omega)
        rw [l1, l2, kc3.2 84 rfl, km4.2 34 rfl]
        exact s8 j hj
    · exact i_eq.mpr (f85.trans f35.symm)
    · rw [f35]; omega
    · rw [t6]; omega
    · rw [t6, f35]; omega
    · by_cases e : y = nf
      · rw [e, hφ1]; omega
      · rw [hφ2 y e]
        have := hph y (by omega)
        omega
    · rw [u31, f35]
      by_cases e : y = nf
      · rw [e, r31, e27]; omega
      · rw [(rr y e).2.2.2.1, u27 y e]
        have := (y7 y (by omega)).2
        omega
    · rw [a10, e10, kc3.1 10 rfl]
    · have f27 : F7 27 = Fa 27 := (kk.1 27 rfl).trans ((k5.1 27 rfl).trans (kc3.1 27 rfl))
      have f76 : F7 76 = if cid = Fa 27 ∧ Fa 76 = -1 then nI nf else Fa 76 := (kk.1 76 rfl).trans ((k5.1 76 rfl).trans e76)
      have o25 : ∀ y : Nat, y < nf → G8 25 y = Gb 25 y := fun y hy => by
        rw [u25]
        exact (rr y (by omega)).1
      unfold jMa
      rw [f27, f76]
      rcases ma with ⟨m1, m2⟩ | ⟨y, m1, m2, m3, m4⟩
      · by_cases e : cid = Fa 27
        · rw [if_pos ⟨e, m1⟩]
          refine .inr ⟨nf, by omega, rfl, ?_, fun z hz => ?_⟩
          · rw [u25, r25, ← hc]; exact e
          · rw [o25 z hz]; exact m2 z hz
        · rw [if_neg (fun w => e w.1)]
          refine .inl ⟨m1, fun z hz => ?_⟩
          by_cases ez : z = nf
          · rw [ez, u25, r25, ← hc]; exact e
          · rw [o25 z (by omega)]; exact m2 z (by omega)
      · rw [if_neg (fun w => by rw [m2] at w; exact nI_n1 (by omega) w.2)]
        refine .inr ⟨y, by omega, m2, ?_, fun z hz => ?_⟩
        · rw [o25 y m1]; exact m3
        · rw [o25 z (by omega)]; exact m4 z hz
    · exact (kk.1 27 rfl).trans ((k5.1 27 rfl).trans (kc3.1 27 rfl))
end JVN
