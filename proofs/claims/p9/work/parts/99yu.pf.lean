/-- what stands between calls: the tape and the text are bytes, no kind is below 0 -/
def RB (F : PF) (G : PG) : Prop := (0 ≤ (F 2).toInt ∧ (F 2).toInt ≤ 4000) ∧ (∀ j : Nat, 0 ≤ (G 0 j).toInt ∧ (G 0 j).toInt ≤ 255) ∧ (∀ j : Nat, 0 ≤ (G 1 j).toInt ∧ (G 1 j).toInt ≤ 255) ∧ N34 G
/-- a program that may be run -/
def PRG (F : PF) (G : PG) : Prop := (0 ≤ (F 24).toInt ∧ (F 24).toInt ≤ 500) ∧ (0 ≤ (F 36).toInt ∧ GW F G) ∧ (0 ≤ (F 37).toInt ∧ (F 37).toInt ≤ 8000) ∧ (0 ≤ (F 60).toInt ∧ (F 60).toInt ≤ 8000) ∧ FTb F G ∧ (∀ g : Nat, (g : Int) < (F 24).toInt → FNT F G g) ∧ 0 ≤ (F 74).toInt ∧ (F 74).toInt < (F 24).toInt ∧ kindsOf G (F 74).toNatClampNeg = [] ∧ ∀ g : Nat, (g : Int) < (F 24).toInt → (G 31 g).toInt + (G 27 g).toInt ≤ 900
/-- what the search of main needs -/
def MQ0 (F : PF) (G : PG) : Prop := (0 ≤ (F 24).toInt ∧ (F 24).toInt ≤ 500) ∧ F 46 = 1 ∧ 0 ≤ (F 47).toInt ∧ (F 3).toInt ≤ 4000 ∧ (∀ j : Nat, 0 ≤ (G 1 j).toInt ∧ (G 1 j).toInt ≤ 255) ∧ ∀ g : Nat, (g : Int) < (F 24).toInt → (0 ≤ (G 25 g).toInt ∧ (G 25 g).toInt < 2100) ∧ (0 ≤ (G 26 g).toInt ∧ (G 26 g).toInt ≤ 4000) ∧ (G 32 g = -1 ∨ vp_in (G 32 g) 4002)
def MQ1 (F : PF) (G : PG) (F1 : PF) : Prop := KX [47, 48, 49, 74] [] F G F1 G ∧ M7 F F1 ∧ 0 ≤ (F1 47).toInt ∧ (F1 47 = 0 → F1 74 = -1 ∨ (0 ≤ (F1 74).toInt ∧ (F1 74).toInt < (F 24).toInt ∧ G 32 (F1 74).toNatClampNeg = -1))
def MQ2 (F : PF) (G : PG) (_ : Int32) (F1 : PF) (G1 : PG) : Prop := KX [47, 48, 49, 73, 74] [] F G F1 G1 ∧ (F1 73 = F 73 ∨ (F1 73 = 1 ∧ F1 47 = 0 ∧ F 47 = 0 ∧ 0 ≤ (F1 74).toInt ∧ (F1 74).toInt < (F 24).toInt ∧ G 32 (F1 74).toNatClampNeg = -1))
theorem wr_240 {fu : Nat} {F : PF} {G : PG} (h0 : MQ0 F G) {F1 : PF} (q : MQ1 F G F1) : WP (mb_read_240 fu F1 G) (MQ2 F G) := by
  obtain ⟨K, M, p, hm⟩ := q
  have h46 : ¬ F1 46 = 0 := by rw [K.1 46 rfl, h0.2.1]; decide
  have z0 : (0 : Int32).toInt = 0 := rfl
  have fin : ∀ F2 : PF, KX [47, 48, 49, 74] [] F G F2 G → (F2 47 = 0 → F 47 = 0 ∧ 0 ≤ (F2 74).toInt ∧ (F2 74).toInt < (F 24).toInt ∧ G 32 (F2 74).toNatClampNeg = -1) → 0 ≤ (F2 47).toInt → WP (mb_read_258 fu F2 G) (MQ2 F G) := by
    intro F2 K2 h2 p2
    have K3 : KX [47, 48, 49, 73, 74] [] F G F2 G := KX.tr KX.rf K2 rfl rfl
    unfold mb_read_258
    refine WP.ite (fun c => ?_) (fun _ => ?_)
    · unfold mb_read_278 mb_read_283
      have c := i_le.mp c
      have e : F2 47 = 0 := i_eq.mpr (by omega)
      have h2 := h2 e
      exact WP.ret ⟨KX.f rfl K3, Or.inr ⟨rfl, e, h2⟩⟩
    · unfold mb_read_265
      exact WP.ret ⟨K3, Or.inl (K2.1 73 rfl)⟩
  unfold mb_read_240
  refine WP.ite (fun c => ?_) (fun c => ?_)
  · unfold mb_read_248
    refine WP.bind ((wa_note 12 _).of (mp_note 12 _ (by decide) F1 G)) ?_
    rintro r F2 G2 ⟨K2, rfl, n2, -⟩
    dsimp only
    have n2 := n2 h46
    refine fin F2 (KX.tr K K2 rfl rfl) (fun e => ?_) (by omega)
    rw [e] at n2
    exact absurd n2 (by decide)
  · refine fin F1 K (fun e => ⟨M e, ?_⟩) p
    rcases hm e with q | q
    · exact absurd q c
    · exact q
theorem wr_127 {fu : Nat} {F : PF} {G : PG} (h0 : MQ0 F G) : ∀ (m : Nat) (x1 : Int32) (F1 : PF), MQ1 F G F1 → -1 ≤ x1.toInt → x1.toInt < (F 24).toInt → (x1.toInt + 1).toNat < m → WP (ml_read_127 fu m x1 F1 G) (MQ2 F G) := by
  intro m
  induction m with
  | zero => intro x1 F1 _ _ _ h; omega
  | succ m ih =>
    intro x1 F1 q b1 b2 hm
    show WP (mb_read_127 fu (ml_read_127 fu m) x1 F1 G) _
    have z0 : (0 : Int32).toInt = 0 := rfl
    have h24 := h0.1
    unfold mb_read_127
    refine WP.ite (fun _ => wr_240 h0 q) (fun c => ?_)
    have c := mt i_lt.mpr c
    have v1 : vp_in x1 500 := vp_in_iff.mpr ⟨by omega, by omega⟩
    have nn : (x1.toNatClampNeg : Int) = x1.toInt := nN_of (by omega)
    obtain ⟨p25, p26, p32⟩ := h0.2.2.2.2.2 x1.toNatClampNeg (by omega)
    have i1 : (x1 + (-1)).toInt = x1.toInt - 1 := by
      have := i_addn x1 (n := -1) (m := -1) rfl (by omega) (by omega)
      omega
    have go : ∀ F2 : PF, MQ1 F G F2 → WP (mb_read_234 fu (ml_read_127 fu m) x1 F2 G) (MQ2 F G) := by
      intro F2 q2
      unfold mb_read_234
      exact ih _ F2 q2 (by omega) (by omega) (by omega)
    have at_ : ∀ (x : Int32), 0 ≤ x.toInt → WP (mf_at fu x F1 G) (fun r F' G' => F1 = F' ∧ G = G' ∧ (0 ≤ r.toInt ∧ r.toInt ≤ 255)) := fun x hx => ms_at x F1 G hx (by rw [q.1.1 3 rfl]; exact h0.2.2.2.1) h0.2.2.2.2.1
    have a1 : (G 26 x1.toNatClampNeg + 1).toInt = (G 26 x1.toNatClampNeg).toInt + 1 := i_addn _ rfl (by omega) (by omega)
    have a2 : (G 26 x1.toNatClampNeg + 2).toInt = (G 26 x1.toNatClampNeg).toInt + 2 := i_addn _ rfl (by omega) (by omega)
    have a3 : (G 26 x1.toNatClampNeg + 3).toInt = (G 26 x1.toNatClampNeg).toInt + 3 := i_addn _ rfl (by omega) (by omega)
    unfold mb_read_131
    refine WP.ix v1 (WP.ix v1 (WP.ix (vp_in_iff.mpr ⟨p25.1, by omega⟩) (WP.ite (fun _ => ?_) (fun _ => go F1 q))))
    unfold mb_read_153
    refine WP.bind (at_ _ p26.1) ?_
    rintro y1 _ _ ⟨rfl, rfl, -⟩
    dsimp only
    unfold mb_read_158
    refine WP.ite (fun _ => ?_) (fun _ => go F1 q)
    unfold mb_read_163
    refine WP.bind (at_ _ (by omega)) ?_
    rintro y2 _ _ ⟨rfl, rfl, -⟩
    dsimp only
    unfold mb_read_170
    refine WP.ite (fun _ => ?_) (fun _ => go F1 q)
    unfold mb_read_175
    refine WP.bind (at_ _ (by omega)) ?_
    rintro y3 _ _ ⟨rfl, rfl, -⟩
    dsimp only
    unfold mb_read_182
    refine WP.ite (fun _ => ?_) (fun _ => go F1 q)
    unfold mb_read_187
    refine WP.bind (at_ _ (by omega)) ?_
    rintro y4 _ _ ⟨rfl, rfl, -⟩
    dsimp only
    unfold mb_read_194 mb_read_199
    refine WP.ite (fun _ => ?_) (fun _ => go F1 q)
    unfold mb_read_202 mb_read_207
    obtain ⟨K, M, p, hM⟩ := q
    refine WP.ix v1 (WP.ite (fun e => ?_) (fun e => ?_))
    · exact go _ ⟨KX.f rfl K, M.f (by decide), p, fun _ => Or.inr ⟨by show 0 ≤ x1.toInt; omega, by show x1.toInt < _; omega, e⟩⟩
    · unfold mb_read_217
      refine WP.ix v1 (WP.ix (p32.resolve_left e) ?_)
      refine WP.bind (WP.pp ((wa_note 12 _).of (mp_note 12 _ (by decide) (fup F1 74 x1) G)) (mm_note 12 _ (by decide) (fup F1 74 x1) G)) ?_
      rintro r F2 G2 ⟨M2, K2, rfl, n2, -⟩
      dsimp only
      have n2 := n2 (show ¬ F1 46 = 0 by rw [K.1 46 rfl, h0.2.1]; decide)
      have KA : KX [47, 48, 49, 74] [] F G (fup F1 74 x1) G := KX.f rfl K
      refine go F2 ⟨KX.tr KA K2 rfl rfl, fun z => M (M2.1 z), by omega, fun z => ?_⟩
      rw [z] at n2
      exact absurd n2 (by decide)
/-- behind a reading -/
def RDQ (F1 : PF) (G1 : PG) : Prop := RB F1 G1 ∧ (F1 75 = 0 ∧ F1 80 = 0 ∧ F1 79 = 0 ∧ F1 2 = 0) ∧ (F1 73 = 0 ∨ (F1 73 = 1 ∧ PRG F1 G1))
theorem wr_36 {fu : Nat} (hfu : 8589934592 ≤ fu) (F : PF) (G : PG) (h : (0 ≤ (F 3).toInt ∧ (F 3).toInt ≤ 4000) ∧ (∀ j : Nat, 0 ≤ (G 0 j).toInt ∧ (G 0 j).toInt ≤ 255) ∧ (∀ j : Nat, 0 ≤ (G 1 j).toInt ∧ (G 1 j).toInt ≤ 255) ∧ N34 G) : WP (mb_read_36 fu F G) (fun _ F1 G1 => RDQ F1 G1) := by
  obtain ⟨h3, hb0, hb1, hn⟩ := h
  unfold mb_read_36 mb_read_41 mb_read_46 mb_read_51 mb_read_56 mb_read_61 mb_read_66 mb_read_71
  have e2 : (fup (fup (fup (fup (fup (fup (fup (fup F 2 0) 73 0) 75 0) 80 0) 79 0) 44 0) 47 0) 54 0) 2 = 0 := rfl
  have e73 : (fup (fup (fup (fup (fup (fup (fup (fup F 2 0) 73 0) 75 0) 80 0) 79 0) 44 0) 47 0) 54 0) 73 = 0 := rfl
  have e75 : (fup (fup (fup (fup (fup (fup (fup (fup F 2 0) 73 0) 75 0) 80 0) 79 0) 44 0) 47 0) 54 0) 75 = 0 := rfl
  have e80 : (fup (fup (fup (fup (fup (fup (fup (fup F 2 0) 73 0) 75 0) 80 0) 79 0) 44 0) 47 0) 54 0) 80 = 0 := rfl
  have e79 : (fup (fup (fup (fup (fup (fup (fup (fup F 2 0) 73 0) 75 0) 80 0) 79 0) 44 0) 47 0) 54 0) 79 = 0 := rfl
  have e44 : (fup (fup (fup (fup (fup (fup (fup (fup F 2 0) 73 0) 75 0) 80 0) 79 0) 44 0) 47 0) 54 0) 44 = 0 := rfl
  have e47 : (fup (fup (fup (fup (fup (fup (fup (fup F 2 0) 73 0) 75 0) 80 0) 79 0) 44 0) 47 0) 54 0) 47 = 0 := rfl
  have e54 : (fup (fup (fup (fup (fup (fup (fup (fup F 2 0) 73 0) 75 0) 80 0) 79 0) 44 0) 47 0) 54 0) 54 = 0 := rfl
  have e3 : (fup (fup (fup (fup (fup (fup (fup (fup F 2 0) 73 0) 75 0) 80 0) 79 0) 44 0) 47 0) 54 0) 3 = F 3 := rfl
  generalize fup (fup (fup (fup (fup (fup (fup (fup F 2 0) 73 0) 75 0) 80 0) 79 0) 44 0) 47 0) 54 0 = Fa at e2 e73 e75 e80 e79 e44 e47 e54 e3
  have z0 : (0 : Int32).toInt = 0 := rfl
  unfold mb_read_76
  refine WP.bind (mz_cut hfu Fa G ⟨by rw [e3]; exact h3.1, by rw [e3]; exact h3.2, hb1⟩) ?_
  rintro r Fb Gb ⟨Kb, T⟩
  dsimp only
  unfold mb_read_80 mb_read_85
  have K0 : KX [7, 8, 13, 46] [4, 5, 6, 9, 10, 11, 12] Fa G (fup Fb 46 0) Gb := KX.f rfl (KX.tr KX.rf Kb rfl rfl)
  have T0 : TBL (fup Fb 46 0) Gb := T
  have f46 : (fup Fb 46 0) 46 = 0 := rfl
  have f8 : (fup Fb 46 0) 8 = Fb 8 := rfl
  generalize fup Fb 46 0 = Fc at K0 T0 f46 f8
  have nb : N34 Gb := hn.kx Kb rfl
  refine WP.bind (WP.pp (WP.pp (WP.pp (WP.pp (wz_texts0N hfu Fc Gb T0 ((K0.1 44 rfl).trans e44) ((K0.1 54 rfl).trans e54) f46 nb) (mw_texts Fc Gb)) (nt_texts Fc Gb nb)) (m9_texts Fc Gb)) (mr_texts (K := Gb 4) (V := Gb 5) Fc Gb rfl rfl ((K0.1 44 rfl).trans e44))) ?_
  rintro r Fd Gd ⟨tx, p7, n4, K1, hq⟩
  dsimp only
  have rb : ∀ (F5 : PF) (G5 : PG), F5 2 = Fd 2 → G5 0 = Gd 0 → G5 1 = Gd 1 → N34 G5 → RB F5 G5 := by
    intro F5 G5 g2 g0 g1 g34
    have x2 : Fd 2 = 0 := (K1.1 2 rfl).trans ((K0.1 2 rfl).trans e2)
    have x0 : Gd 0 = G 0 := (K1.2 0 rfl).trans (K0.2 0 rfl)
    have x1 : Gd 1 = G 1 := (K1.2 1 rfl).trans (K0.2 1 rfl)
    unfold RB
    rw [g2, g0, g1, x2, x0, x1]
    exact ⟨by decide, hb0, hb1, g34⟩
  have d2 : Fd 2 = 0 := (K1.1 2 rfl).trans ((K0.1 2 rfl).trans e2)
  have d73 : Fd 73 = 0 := (K1.1 73 rfl).trans ((K0.1 73 rfl).trans e73)
  have d75 : Fd 75 = 0 := (K1.1 75 rfl).trans ((K0.1 75 rfl).trans e75)
  have d80 : Fd 80 = 0 := (K1.1 80 rfl).trans ((K0.1 80 rfl).trans e80)
  have d79 : Fd 79 = 0 := (K1.1 79 rfl).trans ((K0.1 79 rfl).trans e79)
  unfold mb_read_89
  rcases hq with ⟨rfl, np, N, p1⟩ | ⟨rfl, z⟩
  · rw [if_neg (by decide)]
    unfold mb_read_105 mb_read_110
    have K2 : KX [46] [] Fd Gd (fup Fd 46 1) Gd := KX.f rfl KX.rf
    have g46 : (fup Fd 46 1) 46 = 1 := rfl
    have P1' : P1 (Gb 4) (Gb 5) fu N (fup Fd 46 1) Gd := p1
    have np' : NP (fup Fd 46 1) Gd := np
    generalize fup Fd 46 1 = Fe at K2 g46 P1' np'
    have q44 : Fe 44 = 0 := P1'.2.2.1
    have g4 := P1'.1
    refine WP.bind (WP.pp (WP.pp (WP.pp (WP.pp (wz_texts1T hfu Fe Gd P1' g46 np') (mw_texts Fe Gd)) (nt_texts Fe Gd np'.1)) (m9_texts Fe Gd)) (mr_texts (K := Gb 4) (V := Gb 5) Fe Gd g4.1 g4.2 q44)) ?_
    rintro r Ff Gf ⟨tx1, p71, n41, K3, hq1⟩
    dsimp only
    -- pass 1 fares as pass 0
    have wt : WTX (Gb 4) (Gb 5) fu N Ff Gf := by
      rcases hq1 with ⟨-, q⟩ | ⟨rfl, -⟩
      · exact q
      · rcases tx with ⟨-, -, t1, t2, t3⟩ | ⟨e, -⟩
        · rcases tx1 with ⟨e, -⟩ | ⟨-, -, t4⟩
          · exact absurd e (by decide)
          · have x8 : Fe 8 = Fc 8 := (K2.1 8 rfl).trans (K1.1 8 rfl)
            rw [x8, t3] at t4
            rcases t4 with t4 | t4
            · exact absurd (Option.some.inj t4) (fun e => nomatch e)
            · exact absurd t1 t4
        · exact absurd e (by decide)
    unfold mb_read_114 mb_read_120
    obtain ⟨w4, ya, w46, wnp, hr, hc, wt⟩ := wt
    have K4 : KX [74] [] Ff Gf (fup Ff 74 (-1)) Gf := KX.f rfl KX.rf
    have g74 : (fup Ff 74 (-1)) 74 = -1 := rfl
    generalize fup Ff 74 (-1) = Fg at K4 g74
    have b24 := ya.2.2.2.2.2.1
    have s24 : (Fg 24 - 1).toInt = (Fg 24).toInt - 1 := by rw [K4.1 24 rfl]; exact i_subn _ rfl (by omega) (by omega)
    have e24 : Fg 24 = Ff 24 := K4.1 24 rfl
    have e24i : (Fg 24).toInt = (Ff 24).toInt := by rw [e24]
    have f7 : 0 ≤ (Fd 47).toInt := p7 (by rw [K0.1 47 rfl, e47]; decide)
    have f71 : 0 ≤ (Ff 47).toInt := p71 (by rw [K2.1 47 rfl]; exact f7)
    have m0 : MQ0 Fg Gf := by
      refine ⟨by rw [e24]; exact b24, (K4.1 46 rfl).trans w46, by rw [K4.1 47 rfl]; exact f71, ?_, ?_, fun g hg => ?_⟩
      · rw [K4.1 3 rfl, K3.1 3 rfl, K2.1 3 rfl, K1.1 3 rfl, K0.1 3 rfl, e3]
        exact h3.2
      · rw [K3.2 1 rfl, K1.2 1 rfl, K0.2 1 rfl]
        exact hb1
      · rw [e24] at hg
        obtain ⟨i, hi, t, a, b⟩ := hc g hg
        obtain ⟨-, ⟨c1, c2, c3, c4, c5⟩, -⟩ := hr i hi t g a b
        exact ⟨c4, wnp.2 g hg, c5.imp (fun z => z.1) id⟩
    refine WP.mono (wr_127 m0 fu _ Fg ⟨KX.rf, M7.rf, m0.2.2.1, fun _ => Or.inl g74⟩ (by omega) (by omega) (by omega)) ?_
    rintro r Fh Gh ⟨K5, hm⟩
    have eGh : Gh = Gf := funext (fun k => K5.2 k rfl)
    have c73 : Fg 73 = 0 := (K4.1 73 rfl).trans ((K3.1 73 rfl).trans ((K2.1 73 rfl).trans d73))
    refine ⟨rb Fh Gh ?_ ?_ ?_ (by rw [eGh]; exact n41), ⟨?_, ?_, ?_, ?_⟩, ?_⟩
    · rw [K5.1 2 rfl, K4.1 2 rfl, K3.1 2 rfl, K2.1 2 rfl]
    · rw [eGh, K3.2 0 rfl]
    · rw [eGh, K3.2 1 rfl]
    · rw [K5.1 75 rfl, K4.1 75 rfl, K3.1 75 rfl, K2.1 75 rfl]
      exact d75
    · rw [K5.1 80 rfl, K4.1 80 rfl, K3.1 80 rfl, K2.1 80 rfl]
      exact d80
    · rw [K5.1 79 rfl, K4.1 79 rfl, K3.1 79 rfl, K2.1 79 rfl]
      exact d79
    · rw [K5.1 2 rfl, K4.1 2 rfl, K3.1 2 rfl, K2.1 2 rfl]
      exact d2
    · rcases hm with e | ⟨e, q47, q47', q1, q2, q3⟩
      · exact Or.inl (e.trans c73)
      · refine Or.inr ⟨e, ?_⟩
        have f47 : Ff 47 = 0 := (K4.1 47 rfl).symm.trans q47'
        obtain ⟨gi, ftb, fnt⟩ := wt f47
        obtain ⟨-, -, gw1, gw2⟩ := gi w46 f47
        have K6 : KX [47, 48, 49, 73, 74] [] Ff Gf Fh Gh := KX.tr (KX.tr KX.rf K4 rfl rfl) K5 rfl rfl
        rw [eGh] at K6 ⊢
        have y60 := ya.2.2.2.1
        have y8 := ya.2.2.2.2.2.2.2
        have tT4 := (ya.1.rng ya.2.2.1.1 ya.2.2.1.2)
        have tTe : tT Ff Gf = (Gf 6 (Ff 42).toNatClampNeg).toInt := rfl
        have h74 : ((Fh 74).toNatClampNeg : Int) = (Fh 74).toInt := nN_of q1
        rw [e24] at q2
        refine ⟨by rw [K6.1 24 rfl]; exact b24, ⟨by rw [K6.1 36 rfl]; exact y8.1, ?_⟩, by rw [K6.1 37 rfl]; omega, by rw [K6.1 60 rfl]; omega, ?_, fun g hg => ?_, q1, by rw [K6.1 24 rfl]; exact q2, ?_, fun g hg => ?_⟩
        · unfold GW
          rw [K6.1 36 rfl, K6.1 37 rfl]
          exact ⟨gw1, gw2⟩
        · unfold FTb
          rw [K6.1 24 rfl]
          exact ftb
        · rw [K6.1 24 rfl] at hg
          exact (fnt g hg).mono (K6.1 24 rfl) rfl (by rw [K6.1 37 rfl]; exact Int.le_refl _) rfl rfl rfl CB.rf (by show (Ff 60).toNatClampNeg ≤ (Fh 60).toNatClampNeg; rw [K6.1 60 rfl]; exact Nat.le_refl _)
        · obtain ⟨i, hi, t, a, b⟩ := hc (Fh 74).toNatClampNeg (by omega)
          obtain ⟨-, rc, -⟩ := hr i hi t _ a b
          have rk := rc.kinds
          rcases rc.2.2.2.2 with c5 | c5
          · rw [rk]
            exact c5.2
          · rw [q3] at c5
            have := vp_in_iff.mp c5
            exact absurd this.1 (by decide)
        · rw [K6.1 24 rfl] at hg
          rcases ya.2.2.2.2.2.2.1 with y7 | y7
          · rw [w46] at y7
            exact absurd y7 (by decide)
          · exact (y7 g hg).2.2
  · rw [if_pos rfl]
    unfold mb_read_92
    exact WP.ret ⟨rb Fd Gd rfl rfl rfl n4, ⟨d75, d80, d79, d2⟩, Or.inl d73⟩
theorem wz_read {fu : Nat} (hfu : 8589934592 ≤ fu) (F : PF) (G : PG) (h : RB F G) : WP (mf_read fu F G) (fun _ F1 G1 => RDQ F1 G1) := by
  obtain ⟨h2, hb0, hb1, hn⟩ := h
  unfold mf_read mb_read_0 mb_read_8
  have e3 : (fup F 3 (F 2)) 3 = F 2 := rfl
  generalize fup F 3 (F 2) = F1 at e3
  have lp : ∀ (m : Nat) (x : Int32) (G1 : PG), G1 0 = G 0 → (∀ j : Nat, 0 ≤ (G1 1 j).toInt ∧ (G1 1 j).toInt ≤ 255) → N34 G1 → 0 ≤ x.toInt → x.toInt ≤ (F 2).toInt → ((F 2).toInt - x.toInt).toNat < m → WP (ml_read_10 fu m x F1 G1) (fun _ F1 G1 => RDQ F1 G1) := by
    intro m
    induction m with
    | zero => intro x G1 _ _ _ _ _ q; omega
    | succ m ih =>
      intro x G1 g0 g1 g34 x0 x1 hm
      show WP (mb_read_10 fu (ml_read_10 fu m) x F1 G1) _
      unfold mb_read_10
      refine WP.ite (fun _ => wr_36 hfu F1 G1 ⟨by rw [e3]; exact h2, by rw [g0]; exact hb0, g1, g34⟩) (fun c => ?_)
      rw [e3] at c
      have c := mt i_le.mpr c
      have v : vp_in x 4000 := vp_in_iff.mpr ⟨x0, by omega⟩
      have i1 : (x + 1).toInt = x.toInt + 1 := i_addn _ rfl (by omega) (by omega)
      unfold mb_read_18
      refine WP.ix v (WP.ix v ?_)
      unfold mb_read_30
      refine ih (x + 1) _ ?_ (fun j => ?_) (N34.g (by decide) g34) (by omega) (by omega) (by omega)
      · rw [gup_o (by decide)]
        exact g0
      · by_cases e : j = x.toNatClampNeg
        · rw [e, gup_i, g0]
          exact hb0 _
        · rw [gup_x e]
          exact g1 j
  have z0 : (0 : Int32).toInt = 0 := rfl
  exact lp fu 0 G rfl hb1 hn (by omega) (by omega) (by omega)
