section JQD
variable {fu : Nat} {gl : JLY} {K : Nat → List Nat} {nf B WB : Nat} {Gc Gm : PG} {H : JHP} {F1 F2 F3 F4 : PF} {G1 G2 G3 G4 : PG} {n g a b : Nat} {mu : Nat → Nat} {A : JAN} {le : JLY} {cb wb t k : Nat} {s s0 s1 : SH} {l : JLY}
/-- arrays are passed, elements reached -/
theorem jq_d {w a1 b1 e1 : Int32} {c : Nat → Int32} {n1 : Nat} (R : jRc (jSS gl K nf B WB Gc Gm) gl H F1 G1 F2 G2 n g a b mu A le cb wb t k s l) (hx : jXn F1) (Z : jSt0 WB B Gc Gm F1 G1 G2) (h4 : t + s.length < 399000) (ec : c = fun j => Gc 5 (mu k + j)) (ew : w = Gm 56 k) (ea : a1 = Gm 57 k) (eb : b1 = Gm 58 k) (ee : e1 = Gm 59 k) (O : (w = 5 ∧ n1 = 3 ∧ ∃ κ g : Nat, (κ = 1 ∨ κ = 2) ∧ jArr (false, gl, l, K) κ a1 b1 e1 g (c 1) (c 2) ∧ c 0 = jPas g ∧ s1 = jPush κ s) ∨ (w = 6 ∧ n1 = 5 ∧ ∃ κ g pl l' : Nat, (κ = 1 ∨ κ = 2) ∧ l' ≤ 1 ∧ pl ≤ 4000 ∧ e1 = nI (2 * pl + l') ∧ jArr (false, gl, l, K) κ a1 b1 (nI l') g (c 1) (c 2) ∧ c 0 = jAtg g ∧ c 3 = (if κ = 1 then 0 else 2) ∧ c 4 = nI pl ∧ ∃ s0, s = 0 :: s0 ∧ s1 = κ :: s0)) (an : jAn A (k + 1) s1 l) (em : mu (k + 1) = mu k + n1) : JP (cf_X6_step fu F1 G1) (mf_works fu F2 G2) (fun _ F3 G3 r F4 G4 => jO1 (jSS gl K nf B WB Gc Gm) gl F1 G1 F2 G2 F3 G3 r F4 G4) := by
  have Q := R.tl
  have M := R.mp Z
  have C := R.cp (w := n1) hx Z (by omega)
  have h8 := Q.2.2.1
  have hk : a ≤ k + 1 ∧ k + 1 ≤ b := ⟨by have := R.2.2.2.1.1; omega, R.2.2.2.1.2.1⟩
  have n6 := R.2.2.2.1.2.2.2
  have v := R.2.2.2.2.2.2.2.2.2.1
  have hp := R.2.2.2.2.2.2.2.2.2.2.1
  have e86 : F2 86 = nI cb := R.2.2.2.2.2.1.2.1
  have e58 : F1 58 = nI wb := R.2.2.2.2.2.2.1.1
  have cbb := R.bd.1
  obtain ⟨⟨z5, -, -, -⟩, z56, z57, z58, z59⟩ := Z
  have c5 : ∀ j, G1 5 (mu k + j) = c j := fun j => by rw [z5, ec]
  have e56 : G2 56 k = w := by rw [z56, ew]
  have e57 : G2 57 k = a1 := by rw [z57, ea]
  have e58' : G2 58 k = b1 := by rw [z58, eb]
  have e59 : G2 59 k = e1 := by rw [z59, ee]
  have nn : ∀ m : Nat, m ≤ 500 → ¬ nI m = (-1 : Int32) := fun m hm => nI_n1 (by omega)
  rcases O with ⟨o1, rfl, κ, g1, hκ, ar, o3, rfl⟩ | ⟨o1, rfl, κ, g1, pl, l1, hκ, l11, p4, o2, ar, o3, o4, o5, s0, rfl, rfl⟩
  · rcases ar with ⟨rfl, a2, a3, p, o, a4, a5, a6⟩ | ⟨rfl, a2, p, o, N, a3, a4, a5, a6, a7, a8, a9⟩ | ⟨rfl, a2, p, o, N, a3, a4, a5, a6, a7, a8, a9⟩
    · obtain ⟨hh, u1, u2⟩ := R.ow (x := (κ + 2, 0)) (by show κ + 2 ≤ 4; omega) a4
      have u1 : cb + p + 2 ≤ 16000 := by rcases hκ with z | z <;> subst z <;> exact u1
      have u2 : wb + 4 + o + 2 ≤ 4000 := by rcases hκ with z | z <;> subst z <;> exact u2
      refine JP.pp (cq_pp (a := 4 + o) C ((c5 0).trans o3) ((c5 1).trans a6) e58 (by omega)) (mq_ba (b := cb) (p := p) M (e56.trans o1)) ?_
      rintro _ F3 G3 r F4 G4 cc ⟨rr, mm⟩
      have mm := (mm e86 (e57.trans a5) (by omega)).1 (e58'.trans a2)
      rw [← em] at cc
      rw [show wb + (4 + o) = wb + 4 + o by omega] at cc
      exact .inl ⟨rr, jRc.p2 R cc mm hκ ((hp.rf hκ (Nat.le_refl _) hh).mono (by omega) (fun _ _ _ _ _ z => z)) h8 an hk h4, cc.1, mm.1⟩
    · obtain ⟨hh, u1, u2⟩ := R.ow (x := (κ, N)) (by show κ ≤ 4; omega) a5
      have u1 : cb + p + N ≤ 16000 := by rcases hκ with z | z <;> subst z <;> exact u1
      have u2 : wb + 4 + o < 4000 := by
        rcases hκ with z | z <;> subst z
        · have u2 : wb + 4 + o + N ≤ 4000 := u2
          omega
        · have u2 : wb + 4 + o + (N + 3) / 4 ≤ 4000 := u2
          omega
      refine JP.pp (cq_plo (a := 4 + o) C ((c5 0).trans o3) ((c5 1).trans a7) e58 (by omega)) (mq_ba (b := cb) (p := p) M (e56.trans o1)) ?_
      rintro _ F3 G3 r F4 G4 cc ⟨rr, mm⟩
      have mm := (mm e86 (e57.trans a6) (by omega)).2 (by rw [e58', a8]; exact nn _ a4)
      rw [← em] at cc
      rw [show wb + (4 + o) = wb + 4 + o by omega, c5 2, a9] at cc
      rw [if_pos (e59.trans a2), e58', a8] at mm
      exact .inl ⟨rr, jRc.p2 R cc mm hκ ⟨n + 1, _, _, N, by omega, hh, rfl, rfl, rfl, rfl⟩ h8 an hk h4, cc.1, mm.1⟩
    · obtain ⟨hh, u1, u2⟩ := R.gw (x := (κ, N)) (by show κ ≤ 4; omega) a5
      have u1 : p + N ≤ 16000 := by rcases hκ with z | z <;> subst z <;> exact u1
      refine JP.pp (cq_pg C ((c5 0).trans o3)) (mq_ba (b := cb) (p := p) M (e56.trans o1)) ?_
      rintro _ F3 G3 r F4 G4 cc ⟨rr, mm⟩
      have mm := (mm e86 (e57.trans a6) (by omega)).2 (by rw [e58', a8]; exact nn _ a4)
      rw [← em] at cc
      rw [c5 1, c5 2, a7, a9] at cc
      rw [if_neg (by rw [e59, a2]; decide), e58', a8] at mm
      exact .inl ⟨rr, jRc.p2 R cc mm hκ ⟨0, _, _, N, by omega, hh, rfl, rfl, rfl, rfl⟩ h8 an hk h4, cc.1, mm.1⟩
  · have y1 : 1 ≤ t + (0 :: s0 : SH).length := by show 1 ≤ t + (s0.length + 1); omega
    obtain ⟨v1, v2, v3, -⟩ := id v
    have ie : G2 71 (t + (0 :: s0 : SH).length - 1) = G1 55 (t + (0 :: s0 : SH).length - 1) := v3 rfl
    have c35 : G1 5 (mu k + 3) = 0 ∨ G1 5 (mu k + 3) = 2 := by
      rw [c5 3, o4]
      rcases hκ with z | z <;> subst z
      · exact .inl rfl
      · exact .inr rfl
    have e59s : G2 59 k >>> ((1 : Int32) &&& 31) = nI pl := by
      rw [e59, o2, sr_1 (by omega)]
      exact congrArg nI (by omega)
    have e59a : G2 59 k &&& 1 = nI l1 := by
      rw [e59, o2, an_1]
      exact congrArg nI (by omega)
    -- both reach the element of the thing (j, cx, wx, N)
    have fin : ∀ (j cx wx N : Nat) (x3 z0 : Int32), j ≤ n + 1 → H j cx wx (κ, N) → x3 = nI N → z0 = nI cx → N ≤ 20000 → ∀ (F3 : PF) (G3 : PG) (r : Int32) (F4 : PF) (G4 : PG), jEo (mu k) (t + (0 :: s0 : SH).length) wx N F1 G1 F3 G3 → ((r = 1 ∧ 0 ≤ (G2 71 (t + (0 :: s0 : SH).length - 1)).toInt ∧ (G2 71 (t + (0 :: s0 : SH).length - 1)).toInt < x3.toInt ∧ jMe (k + 1) (t + (0 :: s0 : SH).length) 1 [z0 + G2 71 (t + (0 :: s0 : SH).length - 1)] (G2 90) F2 G2 F4 G4) ∨ (r = 0 ∧ ((G2 71 (t + (0 :: s0 : SH).length - 1)).toInt < 0 ∨ x3.toInt ≤ (G2 71 (t + (0 :: s0 : SH).length - 1)).toInt) ∧ jMx (G2 59 k >>> ((1 : Int32) &&& 31)) F2 G2 F4 G4)) → jO1 (jSS gl K nf B WB Gc Gm) gl F1 G1 F2 G2 F3 G3 r F4 G4 := by
      intro j cx wx N x3 z0 hj hh ex ez N2 F3 G3 r F4 G4 hc hm
      have eN : (nI N).toInt = N := nI_toInt (by omega)
      have rg := R.any hj hh
      have jc : joC (κ, N) = N := by rcases hκ with z | z <;> subst z <;> rfl
      rw [jc] at rg
      rw [ex, ez, eN, ie] at hm
      rcases hc with ⟨i, i1, i2, cc⟩ | ⟨i1, cc⟩
      · have eI : (nI i).toInt = i := nI_toInt (by omega)
        rcases hm with ⟨rr, m1, m2, mm⟩ | ⟨rr, m1, mm⟩
        · rw [i2, nI_ad (by omega)] at mm
          rw [← em] at cc
          refine .inl ⟨rr, jRc.p1 (κ := κ) (s0 := s0) R cc mm rfl n6.tl v2 (by omega) (fun z => by omega) (fun z => ?_) (fun z => ?_) h8 an hk h4, cc.1, mm.1⟩
          · subst z
            rw [c5 3, o4, if_pos rfl, if_pos rfl]
            exact ⟨j, cx, wx, N, i, by omega, hh, i1, rfl, rfl⟩
          · subst z
            rw [c5 3, o4, if_neg (show ¬ (2 : Nat) = 1 by decide), if_neg (by decide)]
            exact ⟨j, cx, wx, N, i, by omega, hh, i1, rfl, rfl⟩
        · rw [i2, eI] at m1
          omega
      · rcases hm with ⟨rr, m1, m2, mm⟩ | ⟨rr, m1, mm⟩
        · omega
        · rw [e59s] at mm
          rw [c5 4, o5] at cc
          exact .inr ⟨rr, _, cc, mm⟩
    have mq := fun (p : Nat) => mq_el (fu := fu) (b := cb) (p := p) M (e56.trans o1)
    rcases ar with ⟨rfl, a2, a3, p, o, a4, a5, a6⟩ | ⟨rfl, a2, p, o, N, a3, a4, a5, a6, a7, a8, a9⟩ | ⟨rfl, a2, p, o, N, a3, a4, a5, a6, a7, a8, a9⟩
    · obtain ⟨hh, u1, u2⟩ := R.ow (x := (κ + 2, 0)) (by show κ + 2 ≤ 4; omega) a4
      have u1 : cb + p + 2 ≤ 16000 := by rcases hκ with z | z <;> subst z <;> exact u1
      have u2 : wb + 4 + o + 2 ≤ 4000 := by rcases hκ with z | z <;> subst z <;> exact u2
      obtain ⟨j, cx, wx, N, j1, j2, j3, j4, j5, j6⟩ := hp.rf hκ (Nat.le_refl _) hh
      have rg := R.any (by omega) j2
      have rg1 : cx + N ≤ 16000 ∧ wx < 4001 := by
        rcases hκ with z | z <;> subst z
        · have rg : cx + N ≤ 16000 ∧ wx + N ≤ 4000 := rg
          omega
        · have rg : cx + N ≤ 16000 ∧ wx + (N + 3) / 4 ≤ 4000 := rg
          omega
      refine JP.pp (cq_ap (a := 4 + o) (b := wx) (N := N) C y1 ((c5 0).trans o3) ((c5 1).trans a6) c35 e58 (by omega) (by rw [show wb + (4 + o) = wb + 4 + o by omega]; exact j4) (by rw [show wb + (4 + o) + 1 = wb + 4 + o + 1 by omega]; exact j6) (by omega) (by omega)) (mq p) ?_
      intro _ F3 G3 r F4 G4 cc mm
      obtain ⟨x3, z0, hz, mm⟩ := mm y1 e86 (e57.trans a5) (by omega)
      rcases hz with ⟨-, y2, y3⟩ | ⟨y2, -⟩
      · exact fin j cx wx N x3 z0 (by omega) j2 (y2.trans j5) (y3.trans j3) (by omega) F3 G3 r F4 G4 cc mm
      · exact absurd (e58'.trans a2) y2
    · obtain ⟨hh, u1, u2⟩ := R.ow (x := (κ, N)) (by show κ ≤ 4; omega) a5
      have u1 : cb + p + N ≤ 16000 := by rcases hκ with z | z <;> subst z <;> exact u1
      have u2 : wb + 4 + o < 4000 := by
        rcases hκ with z | z <;> subst z
        · have u2 : wb + 4 + o + N ≤ 4000 := u2
          omega
        · have u2 : wb + 4 + o + (N + 3) / 4 ≤ 4000 := u2
          omega
      refine JP.pp (cq_al (b := 4 + o) (N := N) C y1 ((c5 0).trans o3) ((c5 1).trans a7) ((c5 2).trans a9) c35 e58 (by omega) (by omega)) (mq p) ?_
      intro _ F3 G3 r F4 G4 cc mm
      obtain ⟨x3, z0, hz, mm⟩ := mm y1 e86 (e57.trans a6) (by omega)
      rw [show wb + (4 + o) = wb + 4 + o by omega] at cc
      rcases hz with ⟨y2, -⟩ | ⟨-, y2, y3⟩
      · rw [e58', a8] at y2
        exact absurd y2 (nn _ a4)
      · rw [e59a, if_pos a2] at y3
        exact fin (n + 1) _ _ N x3 z0 (Nat.le_refl _) hh (y2.trans (e58'.trans a8)) y3 (by omega) F3 G3 r F4 G4 cc mm
    · obtain ⟨hh, u1, u2⟩ := R.gw (x := (κ, N)) (by show κ ≤ 4; omega) a5
      have u1 : p + N ≤ 16000 := by rcases hκ with z | z <;> subst z <;> exact u1
      have u2 : o < 2000 := by
        rcases hκ with z | z <;> subst z
        · have u2 : o + N ≤ 2000 := u2
          omega
        · have u2 : o + (N + 3) / 4 ≤ 2000 := u2
          omega
      refine JP.pp (cq_ag (b := o) (N := N) C y1 ((c5 0).trans o3) ((c5 1).trans a7) ((c5 2).trans a9) c35 (by omega) (by omega)) (mq p) ?_
      intro _ F3 G3 r F4 G4 cc mm
      obtain ⟨x3, z0, hz, mm⟩ := mm y1 e86 (e57.trans a6) (by omega)
      rcases hz with ⟨y2, -⟩ | ⟨-, y2, y3⟩
      · rw [e58', a8] at y2
        exact absurd y2 (nn _ a4)
      · rw [e59a, if_neg (by rw [a2]; decide)] at y3
        exact fin 0 _ _ N x3 z0 (by omega) hh (y2.trans (e58'.trans a8)) y3 (by omega) F3 G3 r F4 G4 cc mm
end JQD
