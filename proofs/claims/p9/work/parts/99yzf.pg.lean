section STAT
variable {F F1 : PF} {G G1 : PG}
/-- the program's own fields and arrays stand -/
def STT (F : PF) (G : PG) (F1 : PF) (G1 : PG) : Prop := (F1 24 = F 24 ∧ F1 36 = F 36 ∧ F1 37 = F 37 ∧ F1 60 = F 60 ∧ F1 74 = F 74) ∧ (G1 27 = G 27 ∧ G1 28 = G 28 ∧ G1 29 = G 29 ∧ G1 30 = G 30 ∧ G1 31 = G 31 ∧ G1 34 = G 34 ∧ G1 38 = G 38 ∧ G1 39 = G 39) ∧ G1 56 = G 56 ∧ G1 57 = G 57 ∧ G1 58 = G 58 ∧ G1 59 = G 59
theorem STT.of {a b : List Nat} (K : KX a b F G F1 G1) (e : (!(a.contains 24 || a.contains 36 || a.contains 37 || a.contains 60 || a.contains 74 || b.contains 27 || b.contains 28 || b.contains 29 || b.contains 30 || b.contains 31 || b.contains 34 || b.contains 38 || b.contains 39 || b.contains 56 || b.contains 57 || b.contains 58 || b.contains 59)) = true) : STT F G F1 G1 := by
  simp only [Bool.not_eq_true', Bool.or_eq_false_iff] at e
  obtain ⟨⟨⟨⟨⟨⟨⟨⟨⟨⟨⟨⟨⟨⟨⟨⟨e1, e2⟩, e3⟩, e4⟩, e5⟩, e6⟩, e7⟩, e8⟩, e9⟩, e10⟩, e11⟩, e12⟩, e13⟩, e14⟩, e15⟩, e16⟩, e17⟩ := e
  exact ⟨⟨K.1 24 e1, K.1 36 e2, K.1 37 e3, K.1 60 e4, K.1 74 e5⟩, ⟨K.2 27 e6, K.2 28 e7, K.2 29 e8, K.2 30 e9, K.2 31 e10, K.2 34 e11, K.2 38 e12, K.2 39 e13⟩, K.2 56 e14, K.2 57 e15, K.2 58 e16, K.2 59 e17⟩
theorem STT.prg (h : STT F G F1 G1) (hP : PRG F G) : PRG F1 G1 := by
  obtain ⟨⟨e24, e36, e37, e60, e74⟩, ⟨g27, g28, g29, g30, g31, g34, g38, g39⟩, g56, g57, g58, g59⟩ := h
  obtain ⟨h1, h2, h3, h4, h5, h6, h7, h8, h9, h10⟩ := hP
  have ek := kinds_eq g27 g31 g34
  refine ⟨by rw [e24]; exact h1, ⟨by rw [e36]; exact h2.1, by unfold GW; rw [e36, e37, g38, g39]; exact h2.2⟩, by rw [e37]; exact h3, by rw [e60]; exact h4, by unfold FTb; rw [e24, g27, g31, g34]; exact h5, fun g hg => ?_, by rw [e74]; exact h7, by rw [e74, e24]; exact h8, by rw [e74, ek]; exact h9, by rw [e24, g31, g27]; exact h10⟩
  rw [e24] at hg
  exact (h6 g hg).mono e24 ek (by rw [e37]; exact Int.le_refl _) (by rw [g28]) (by rw [g29]) (by rw [g30]) (fun k _ => ⟨by rw [g56], by rw [g57], by rw [g58], by rw [g59]⟩) (by show (F 60).toNatClampNeg ≤ (F1 60).toNatClampNeg; rw [e60]; exact Nat.le_refl _)
theorem STT.eqs (h : STT F G F1 G1) : SFA F1 G1 = SFA F G ∧ GEO F1 G1 = GEO F G ∧ TYP F1 G1 = TYP F G := by
  obtain ⟨⟨e24, e36, e37, e60, e74⟩, ⟨g27, g28, g29, g30, g31, g34, g38, g39⟩, g56, g57, g58, g59⟩ := h
  have ek := kinds_eq g27 g31 g34
  have es : SFA F1 G1 = SFA F G := by
    funext fn bs n a
    unfold SFA
    rw [e37, ek, g29]
  have en : sN F1 = sN F := by show (F1 60).toNatClampNeg = _; rw [e60]
  have ex : XF F1 G1 = XF F G := by
    funext g
    unfold XF
    rw [e24, ek, e37, g29]
  refine ⟨es, ?_, ?_⟩
  · funext fn bs ce n a0 a d0 d
    unfold GEO
    rw [es, e24, ek, g28, g29]
  · funext g A n
    unfold TYP TT
    rw [en, ex, g30, g56, g57, g58, g59]
theorem STT.frs (h : STT F G F1 G1) {fn bk bs op ce : Nat → Int32} : ∀ (n : Nat) (a d : Int) (t : Nat), FRS F G fn bk bs op ce n a d t → FRS F1 G1 fn bk bs op ce n a d t := by
  obtain ⟨es, eg, et⟩ := h.eqs
  have e37 := h.1.2.2.1
  have g30 := h.2.1.2.2.2.1
  intro n
  induction n with
  | zero =>
    rintro a d t ⟨h1, h2⟩
    exact ⟨by rw [e37]; exact h1, h2⟩
  | succ n ih =>
    rintro a d t ⟨a0, d0, t0, A, m, s0, dd, h1, h2, h3, h4, h5, h6, h7, h8⟩
    exact ⟨a0, d0, t0, A, m, s0, dd, ih a0 d0 t0 h1, by rw [eg]; exact h2, by rw [et]; exact h3, by rw [g30]; exact h4, h5, h6, h7, by rw [es]; exact h8⟩
theorem CUR.stt {F0 : PF} {G0 : PG} {φ : Nat} (h : CUR F0 G0 F G φ) (hs : STT F0 G0 F1 G1) (K1 : KX wkA wkB F1 G1 F G) : CUR F1 G1 F G φ := by
  obtain ⟨es, eg, et⟩ := hs.eqs
  have g30 := hs.2.1.2.2.2.1
  obtain ⟨n, a0, d0, t0, A, m, ⟨c1, c2, c3, c4, c5, c6, c7, c8⟩, p, ht, hv, e⟩ := h
  exact ⟨n, a0, d0, t0, A, m, ⟨K1, c2, hs.frs n a0 d0 t0 c3, by rw [eg]; exact c4, c5, c6, by rw [et]; exact c7, c8⟩, by rw [g30]; exact p, ht, by rw [es]; exact hv, e⟩
/-- what stands between the calls of a run -/
def RUNI (F : PF) (G : PG) : Prop := (F 73 = 0 ∧ F 75 = 0) ∨ (F 73 = 1 ∧ PRG F G ∧ (F 75 = 0 ∨ ((F 84).toInt ≤ 2000 ∧ (3 ≤ (F 75).toInt ∨ ((F 75 = 1 ∨ F 75 = 2) ∧ ((F 85 = 0 ∧ F 83 = 0 ∧ F 72 = 0) ∨ ∃ φ, CUR F G F G φ))))))
/-- the reference between calls -/
def RI (F : PF) (G : PG) : Prop := RB F G ∧ (0 ≤ (F 79).toInt ∧ 0 ≤ (F 80).toInt ∧ (F 80).toInt ≤ 500) ∧ RUNI F G
theorem OUR.ri {F0 : PF} {G0 : PG} (h : OUR F0 G0 F G) (hb : RB F0 G0) (h73 : F0 73 = 1) (hP : PRG F0 G0) (h84 : (F0 84).toInt ≤ 2000) : RI F G := by
  obtain ⟨K, cn, ho⟩ := h
  have hs : STT F0 G0 F G := STT.of K rfl
  refine ⟨?_, cn.2, Or.inr ⟨(K.1 73 rfl).trans h73, hs.prg hP, Or.inr ⟨by rw [K.1 84 rfl]; exact h84, ?_⟩⟩⟩
  · unfold RB
    rw [K.1 2 rfl, K.2 0 rfl, K.2 1 rfl]
    refine ⟨hb.1, hb.2.1, hb.2.2.1, ?_⟩
    exact hb.2.2.2.kx K rfl
  · rcases ho with q | ⟨q1, φ, q2⟩
    · exact Or.inl q
    · exact Or.inr ⟨q1, Or.inr ⟨φ, q2.stt hs KX.rf⟩⟩
end STAT
section RUNS
variable {fu : Nat} {F0 : PF} {G0 : PG} {F : PF} {G : PG}
theorem wk_77 (hfu : 300000000000 ≤ fu) (hP : PRG F0 G0) (h84 : (F0 84).toInt ≤ 2000) : ∀ (j φ : Nat) (F : PF) (G : PG), CUR F0 G0 F G φ → F 75 = 1 → φ + 1 < j → WP (ml_run_77 fu j 1 F G) (fun _ F1 G1 => OUR F0 G0 F1 G1) := by
  intro j
  induction j with
  | zero => intro φ F G _ _ h; omega
  | succ j ih =>
    intro φ F G h h75 hj
    show WP (mb_run_77 fu (ml_run_77 fu j) 1 F G) _
    unfold mb_run_77
    rw [if_neg (by decide)]
    unfold mb_run_81
    rw [if_pos h75]
    unfold mb_run_89
    refine WP.bind (wk_works (by omega) hP h84 h h75) ?_
    rintro r F1 G1 (⟨rfl, g75, ψ, hψ, hc⟩ | ⟨rfl, ho⟩)
    · dsimp only
      unfold mb_run_93
      exact ih ψ F1 G1 hc g75 (by omega)
    · dsimp only
      unfold mb_run_93
      obtain ⟨j, rfl⟩ : ∃ q, j = q + 1 := ⟨j - 1, by omega⟩
      show WP (mb_run_77 fu (ml_run_77 fu j) 0 F1 G1) _
      unfold mb_run_77
      rw [if_pos rfl]
      unfold mb_run_97
      exact WP.ret ho
theorem CUR.le (hP : PRG F0 G0) {φ : Nat} (h : CUR F0 G0 F G φ) : φ ≤ 256000000000 := by
  obtain ⟨n, a0, d0, t0, A, m, c, ⟨p0, p1, p2⟩, ht, hv, rfl⟩ := h
  have b := c.bd hP
  have ty := c.2.2.2.2.2.2.1
  have cn := c.2.2.2.2.2.2.2.1
  have ma := mA.le (A := A) (k := (F 76).toInt.toNat) (ty.m8 hP)
  unfold PHI
  by_cases e : (A (F 76).toInt.toNat).2.2 = true
  · rw [if_pos e]; omega
  · rw [if_neg e]; omega
theorem wz_run (hfu : 300000000000 ≤ fu) (x : Int32) (F : PF) (G : PG) (h : RI F G) : WP (mf_run fu x F G) (fun _ F1 G1 => RI F1 G1) := by
  have hh := h
  obtain ⟨hb, hc, hr⟩ := h
  have z0 : (0 : Int32).toInt = 0 := rfl
  have l1 : (1000 : Int32).toInt = 1000 := rfl
  have l2 : (2 : Int32).toInt = 2 := rfl
  unfold mf_run mb_run_0 mb_run_18
  refine WP.ite (fun _ => WP.ret hh) (fun c0 => ?_)
  have c0 := mt i_lt.mpr c0
  unfold mb_run_4 mb_run_18
  refine WP.ite (fun _ => WP.ret hh) (fun c1 => ?_)
  have c1 := mt i_lt.mpr c1
  unfold mb_run_11 mb_run_18
  refine WP.ite (fun _ => WP.ret hh) (fun c2 => ?_)
  unfold mb_run_20
  refine WP.ite (fun c3 => ?_) (fun _ => by unfold mb_run_28; exact WP.ret hh)
  have c3 := i_le.mp c3
  rcases hr with ⟨-, q⟩ | ⟨h73, hP, hq⟩
  · exact absurd q c2
  rcases hq with q | ⟨h84, q⟩
  · exact absurd q c2
  rcases q with q | ⟨-, q⟩
  · omega
  unfold mb_run_33 mb_run_38
  have K : KX wkA wkB F G (fup (fup F 78 x) 75 1) G := KX.f rfl (KX.f rfl KX.rf)
  have f75 : (fup (fup F 78 x) 75 1) 75 = 1 := rfl
  have f78 : (fup (fup F 78 x) 75 1) 78 = x := rfl
  have f85 : (fup (fup F 78 x) 75 1) 85 = F 85 := rfl
  have f83 : (fup (fup F 78 x) 75 1) 83 = F 83 := rfl
  have f72 : (fup (fup F 78 x) 75 1) 72 = F 72 := rfl
  have f86 : (fup (fup F 78 x) 75 1) 86 = F 86 := rfl
  have f87 : (fup (fup F 78 x) 75 1) 87 = F 87 := rfl
  have f76 : (fup (fup F 78 x) 75 1) 76 = F 76 := rfl
  have f74 : (fup (fup F 78 x) 75 1) 74 = F 74 := rfl
  have cn : CNR (fup (fup F 78 x) 75 1) := ⟨⟨by show 0 ≤ x.toInt; omega, by show x.toInt ≤ 1000; omega⟩, hc⟩
  generalize fup (fup F 78 x) 75 1 = F1 at K f75 f78 f85 f83 f72 f86 f87 f76 f74 cn
  have end_ : ∀ (F2 : PF) (G2 : PG), OUR F G F2 G2 → RI F2 G2 := fun F2 G2 o => o.ri hb h73 hP h84
  have v74 : vp_in (F 74) 500 := vp_in_iff.mpr ⟨hP.2.2.2.2.2.2.1, by have := hP.1; have := hP.2.2.2.2.2.2.2.1; omega⟩
  unfold mb_run_43
  rw [f85]
  rcases q with ⟨q85, q83, q72⟩ | ⟨φ, q⟩
  · rw [if_neg (by rw [q85]; decide)]
    unfold mb_run_50
    rw [f74]
    refine WP.ix v74 ?_
    have kn := hP.2.2.2.2.2.2.2.2.1
    have clp : CLP F G 0 (F 37).toInt 0 0 (F 74) 0 F1 G := by
      refine ⟨K, by rw [f85, q85]; rfl, ⟨hP.2.2.2.2.2.2.1, hP.2.2.2.2.2.2.2.1⟩, ⟨rfl, rfl, rfl⟩, by rw [f83, q83]; rfl, by decide, fun _ => rfl, fun n => absurd (f85.trans q85) n, ?_, fun p hp => ?_, cn⟩
      · rw [f72, q72, kn]
        rfl
      · rw [kn] at hp
        exact absurd hp id
    refine WP.bind (wk_calls (by omega) hP h84 (F 74) _ 0 clp) ?_
    rintro r F2 G2 (⟨rfl, g75, g78, g76, g72, g91, A, m, cw⟩ | ⟨rfl, g75, K2, cn2⟩)
    · dsimp only
      unfold mb_run_68
      rw [if_neg (by decide)]
      unfold mb_run_71 mb_run_76
      have ty := cw.2.2.2.2.2.2.1
      rw [g91] at ty
      obtain ⟨y1, y2, y3, -⟩ := ty
      have fnt := hP.2.2.2.2.2.1 (F 74).toNatClampNeg (by rw [nN_of hP.2.2.2.2.2.2.1]; exact hP.2.2.2.2.2.2.2.1)
      have cu : CUR F G F2 G2 (PHI A m 0 (G 30 (F 74).toNatClampNeg).toInt.toNat (F2 78).toInt) := by
        refine ⟨0, _, _, 0, A, m, cw, ?_, ?_, ?_, by rw [g76]⟩
        · rw [g76, g91]
          exact ⟨fnt.1, Nat.le_refl _, y1⟩
        · rw [g76, y3, g72]
          rfl
        · rw [g76, y3]
          exact trivial
      have cl := cu.le hP
      exact WP.mono (wk_77 hfu hP h84 fu _ F2 G2 cu (g75.trans f75) (by omega)) (fun _ F3 G3 o => end_ F3 G3 o)
    · dsimp only
      unfold mb_run_68
      rw [if_pos rfl]
      unfold mb_run_75 mb_run_76
      obtain ⟨fu, rfl⟩ : ∃ q, fu = q + 1 := ⟨fu - 1, by omega⟩
      show WP (mb_run_77 (fu + 1) (ml_run_77 (fu + 1) fu) 0 F2 G2) _
      unfold mb_run_77
      rw [if_pos rfl]
      unfold mb_run_97
      exact WP.ret (end_ F2 G2 ⟨K2, cn2, Or.inl (by rw [g75]; decide)⟩)
  · obtain ⟨n, a0, d0, t0, A, m, ⟨c1', c2', c3', c4', c5', c6', c7', c8'⟩, p, ht, hv, e⟩ := q
    rw [if_pos (show (0 : Int32) < F 85 from i_lt.mpr (by omega))]
    unfold mb_run_71 mb_run_76
    have cu : CUR F G F1 G (PHI A m n (F1 76).toInt.toNat (F1 78).toInt) := by
      refine ⟨n, a0, d0, t0, A, m, ⟨K, by rw [f85]; exact c2', c3', by rw [f87, f83]; exact c4', by rw [f83]; exact c5', f86.trans c6', c7', cn⟩, by rw [f76]; exact p, by rw [f76, f72]; exact ht, by rw [f76, f72]; exact hv, rfl⟩
    have cl := cu.le hP
    exact WP.mono (wk_77 hfu hP h84 fu _ F1 G cu f75 (by omega)) (fun _ F3 G3 o => end_ F3 G3 o)
theorem wz_begin (hfu : 8589934592 ≤ fu) (x : Int32) (F : PF) (G : PG) (h : RI F G) : WP (mf_begin fu x F G) (fun _ F1 G1 => RI F1 G1) := by
  have hh := h
  obtain ⟨hb, hc, hr⟩ := h
  have z0 : (0 : Int32).toInt = 0 := rfl
  have l2 : (2000 : Int32).toInt = 2000 := rfl
  unfold mf_begin mb_begin_0 mb_begin_19
  refine WP.ite (fun _ => WP.ret hh) (fun c0 => ?_)
  unfold mb_begin_7 mb_begin_19
  refine WP.ite (fun _ => WP.ret hh) (fun c1 => ?_)
  unfold mb_begin_12 mb_begin_19
  refine WP.ite (fun c2 => ?_) (fun _ => WP.ret hh)
  have c2 := i_le.mp c2
  rcases hr with ⟨q, -⟩ | ⟨h73, hP, -⟩
  · exact absurd q c0
  unfold mb_begin_21 mb_begin_26 mb_begin_31 mb_begin_36 mb_begin_41 mb_begin_46 mb_begin_51 mb_begin_56 mb_begin_61 mb_begin_66
  have K : KX [72, 75, 77, 79, 81, 82, 83, 84, 85] [90] F G (fup (fup (fup (fup (fup (fup (fup (fup (fup F 84 x) 75 1) 85 0) 77 0) 79 0) 81 0) 82 (-1)) 83 0) 72 0) G := KX.f rfl (KX.f rfl (KX.f rfl (KX.f rfl (KX.f rfl (KX.f rfl (KX.f rfl (KX.f rfl (KX.f rfl KX.rf))))))))
  have e84 : (fup (fup (fup (fup (fup (fup (fup (fup (fup F 84 x) 75 1) 85 0) 77 0) 79 0) 81 0) 82 (-1)) 83 0) 72 0) 84 = x := rfl
  have e75 : (fup (fup (fup (fup (fup (fup (fup (fup (fup F 84 x) 75 1) 85 0) 77 0) 79 0) 81 0) 82 (-1)) 83 0) 72 0) 75 = 1 := rfl
  have e85 : (fup (fup (fup (fup (fup (fup (fup (fup (fup F 84 x) 75 1) 85 0) 77 0) 79 0) 81 0) 82 (-1)) 83 0) 72 0) 85 = 0 := rfl
  have e79 : (fup (fup (fup (fup (fup (fup (fup (fup (fup F 84 x) 75 1) 85 0) 77 0) 79 0) 81 0) 82 (-1)) 83 0) 72 0) 79 = 0 := rfl
  have e83 : (fup (fup (fup (fup (fup (fup (fup (fup (fup F 84 x) 75 1) 85 0) 77 0) 79 0) 81 0) 82 (-1)) 83 0) 72 0) 83 = 0 := rfl
  have e72 : (fup (fup (fup (fup (fup (fup (fup (fup (fup F 84 x) 75 1) 85 0) 77 0) 79 0) 81 0) 82 (-1)) 83 0) 72 0) 72 = 0 := rfl
  generalize fup (fup (fup (fup (fup (fup (fup (fup (fup F 84 x) 75 1) 85 0) 77 0) 79 0) 81 0) 82 (-1)) 83 0) 72 0 = F1 at K e84 e75 e85 e79 e83 e72
  have h37 := hP.2.2.1
  have e37 : F1 37 = F 37 := K.1 37 rfl
  have lp : ∀ (j : Nat) (y : Int32) (G1 : PG), KX [72, 75, 77, 79, 81, 82, 83, 84, 85] [90] F G F1 G1 → 0 ≤ y.toInt → y.toInt ≤ (F 37).toInt → ((F 37).toInt - y.toInt).toNat < j → WP (ml_begin_68 fu j y F1 G1) (fun _ F1 G1 => RI F1 G1) := by
    intro j
    induction j with
    | zero => intro y G1 _ _ _ q; omega
    | succ j ih =>
      intro y G1 K1 y0 y1 hm
      show WP (mb_begin_68 fu (ml_begin_68 fu j) y F1 G1) _
      unfold mb_begin_68
      rw [e37]
      refine WP.ite (fun _ => ?_) (fun c => ?_)
      · unfold mb_begin_94
        refine WP.ret ⟨?_, ⟨by rw [e79]; decide, by rw [K1.1 80 rfl]; exact hc.2⟩, Or.inr ⟨(K1.1 73 rfl).trans h73, (STT.of K1 rfl).prg hP, Or.inr ⟨by rw [e84]; omega, Or.inr ⟨Or.inl e75, Or.inl ⟨e85, e83, e72⟩⟩⟩⟩⟩
        unfold RB
        rw [K1.1 2 rfl, K1.2 0 rfl, K1.2 1 rfl]
        exact ⟨hb.1, hb.2.1, hb.2.2.1, hb.2.2.2.kx K1 rfl⟩
      · have c := mt i_le.mpr c
        have i1 : (y + 1).toInt = y.toInt + 1 := i_addn _ rfl (by omega) (by omega)
        unfold mb_begin_76
        refine WP.ix (vp_in_iff.mpr ⟨y0, by omega⟩) (WP.ix (vp_in_iff.mpr ⟨y0, by omega⟩) ?_)
        unfold mb_begin_88
        exact ih (y + 1) _ (KX.g rfl K1) (by omega) (by omega) (by omega)
  exact lp fu 0 G K (by omega) (by omega) (by omega)
theorem i_m1 {z : Int32} (h : 0 ≤ z.toInt) : (z + (-1)).toInt = z.toInt - 1 := by
  have r := i_rng z
  have := i_addn z (n := -1) (m := -1) rfl (by omega) (by omega)
  omega
theorem wk_32 (x : Int32) (F : PF) (G : PG) (vx : vp_in x 2001) (b8 : (F 37).toInt ≤ 8000) (w1 : 0 ≤ (G 39 x.toNatClampNeg).toInt) (w2 : (G 38 x.toNatClampNeg).toInt ≤ 4) (w3 : (G 39 x.toNatClampNeg).toInt + (G 38 x.toNatClampNeg).toInt ≤ (F 37).toInt) : ∀ (j : Nat) (y z : Int32), z.toInt < (G 38 x.toNatClampNeg).toInt → (z.toInt + 1).toNat < j → WP (ml_global_32 fu j x y z F G) (fun _ F1 G1 => F = F1 ∧ G = G1) := by
  intro j
  induction j with
  | zero => intro y z _ q; omega
  | succ j ih =>
    intro y z hz hm
    show WP (mb_global_32 fu (ml_global_32 fu j) x y z F G) _
    unfold mb_global_32 mb_global_106
    refine WP.ite (fun _ => WP.ret ⟨rfl, rfl⟩) (fun c => ?_)
    have c := mt i_lt.mpr c
    have hz0 : 0 ≤ z.toInt := Int.not_lt.mp c
    have i1 := i_m1 hz0
    have i2 : (G 39 x.toNatClampNeg + z).toInt = (G 39 x.toNatClampNeg).toInt + z.toInt := i_addn _ rfl (by omega) (by omega)
    have s1 : (z + (-1)).toInt < (G 38 x.toNatClampNeg).toInt := by omega
    have s2 : ((z + (-1)).toInt + 1).toNat < j := by omega
    have nx : ∀ v : Int32, WP (mb_global_72 fu (ml_global_32 fu j) x y z v F G) (fun _ F1 G1 => F = F1 ∧ G = G1) := by
      intro v
      unfold mb_global_72
      refine WP.ix vx (WP.ite (fun _ => ?_) (fun _ => ?_))
      · unfold mb_global_97 mb_global_99
        exact ih _ _ s1 s2
      · unfold mb_global_83 mb_global_99
        exact ih _ _ s1 s2
    have v1 : vp_in (G 39 x.toNatClampNeg + z) 8008 := vp_in_iff.mpr ⟨by omega, by omega⟩
    have v2 : vp_in (G 39 x.toNatClampNeg + z) 20000 := vp_in_iff.mpr ⟨by omega, by omega⟩
    unfold mb_global_36
    refine WP.ite (fun _ => ?_) (fun _ => ?_)
    · unfold mb_global_43
      exact WP.ix vx (WP.ix v1 (nx _))
    · unfold mb_global_59
      exact WP.ix vx (WP.ix v2 (nx _))
theorem wz_global (hfu : 8589934592 ≤ fu) (x : Int32) (F : PF) (G : PG) (h : RI F G) : WP (mf_global fu x F G) (fun _ F1 G1 => F = F1 ∧ G = G1) := by
  obtain ⟨hb, hc, hr⟩ := h
  have z0 : (0 : Int32).toInt = 0 := rfl
  unfold mf_global mb_global_0 mb_global_19
  refine WP.ite (fun _ => WP.ret ⟨rfl, rfl⟩) (fun c0 => ?_)
  unfold mb_global_7 mb_global_19
  refine WP.ite (fun _ => WP.ret ⟨rfl, rfl⟩) (fun c1 => ?_)
  have c1 := mt i_lt.mpr c1
  unfold mb_global_11 mb_global_19
  refine WP.ite (fun c2 => ?_) (fun _ => WP.ret ⟨rfl, rfl⟩)
  have c2 := i_lt.mp c2
  rcases hr with ⟨q, -⟩ | ⟨h73, hP, -⟩
  · exact absurd q c0
  have h37 := hP.2.2.1
  have gw := hP.2.1.2
  have nx := nN_of (x := x) (by omega)
  obtain ⟨w1, w2, w3⟩ := gw.2 x.toNatClampNeg (by omega)
  have vx : vp_in x 2001 := vp_in_iff.mpr ⟨by omega, by have := gw.1; omega⟩
  unfold mb_global_21
  refine WP.ix vx ?_
  have i0 : (G 38 x.toNatClampNeg - 1).toInt = (G 38 x.toNatClampNeg).toInt - 1 := i_subn _ rfl (by omega) (by omega)
  have s1 : (G 38 x.toNatClampNeg - 1).toInt < (G 38 x.toNatClampNeg).toInt := by omega
  have s2 : ((G 38 x.toNatClampNeg - 1).toInt + 1).toNat ≤ 4 := by omega
  exact wk_32 x F G vx h37.2 w1 w2.2 w3 fu _ _ s1 (by omega)
end RUNS
