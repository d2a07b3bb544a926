/-- what both know of a text that was read -/
def jTz (gl : JLY) (K : Nat → List Nat) (nf : Nat) (F1 : PF) (G1 : PG) (F2 : PF) (G2 : PG) : Prop := ((F1 74).toInt = nf ∧ (F2 24).toInt = nf ∧ nf ≤ 449) ∧ ((F2 37).toInt = jsC gl ∧ jsW gl ≤ 2000) ∧ jTb K nf G1 G2 ∧ (∀ g : Nat, g < nf → jFC gl K g (sN F2) (wN F1) G1 G2) ∧ ∃ y : Nat, y < nf ∧ F1 76 = nI y ∧ F2 74 = nI y
/-- a run that has begun, between calls -/
def jBr (S : JST) (gl : JLY) (F1 : PF) (G1 : PG) (F2 : PF) (G2 : PG) : Prop := (F1 64 = F2 77 ∧ F1 67 = F2 84) ∧ jOu F1 G1 F2 G2 ∧ F1 59 = F2 83 + 2000 ∧ jGm gl G1 G2 ∧ jPv F1 F2 ∧ ((F2 75 = 1 ∨ F2 75 = 2) → (F1 60 = 0 ∧ F2 85 = 0 ∧ F2 83 = 0 ∧ F2 72 = 0 ∧ F1 56 = 0) ∨ (F1 60 = 1 ∧ jRg S gl F1 G1 F2 G2))
/-- both between calls: no run, or one that is alike -/
def jBt (gl : JLY) (K : Nat → List Nat) (nf : Nat) (F1 : PF) (G1 : PG) (F2 : PF) (G2 : PG) : Prop := F1 63 = F2 75 ∧ jIp F1 G1 F2 G2 ∧ ((F2 75 = 0 ∧ F1 72 = 0 ∧ F2 79 = 0) ∨ jBr (jSS gl K nf (sN F2) (wN F1) G1 G2) gl F1 G1 F2 G2)
section JQN
variable {fu : Nat} {gl : JLY} {K : Nat → List Nat} {nf : Nat} {Fc Fm F1 F2 F3 F4 : PF} {Gc Gm G1 G2 G3 G4 : PG}
theorem CI.jx (h : CI Fc Gc) : jXn Fc := by
  obtain ⟨h1, ⟨h2, i, h3, h4⟩, -⟩ := h
  have q := h1 56 0 524288 rfl
  have : xn Fc ≤ 524288 ∧ 0 < xn Fc := by
    rw [h4]
    rcases (show i = 0 ∨ i = 1 ∨ i = 2 ∨ i = 3 ∨ i = 4 ∨ i = 5 ∨ i = 6 ∨ i = 7 ∨ i = 8 ∨ i = 9 by omega) with z | z | z | z | z | z | z | z | z | z <;> rw [z] <;> decide
  exact ⟨q.1, h2, this.2, by omega⟩
/-- run -/
theorem same_run (hfu : 8589934592 ≤ fu) (x : Int32) (ci : CI Fc Gc) (ri : RI Fm Gm) (tz : Fm 73 = 1 → jTz gl K nf Fc Gc Fm Gm) (bt : jBt gl K nf Fc Gc Fm Gm) : JP (cf_X11_run fu x Fc Gc) (mf_run fu x Fm Gm) (fun r1 F1 G1 r2 F2 G2 => r1 = r2 ∧ (KX jcA jcB Fc Gc F1 G1 ∧ KX wkA wkB Fm Gm F2 G2) ∧ jBt gl K nf F1 G1 F2 G2) := by
  have l0 : (0 : Int32).toInt = 0 := rfl
  have l1 : (1000 : Int32).toInt = 1000 := rfl
  have l2 : (2 : Int32).toInt = 2 := rfl
  obtain ⟨b63, ip, br⟩ := id bt
  have same : ∀ r : Int32, JP (some (r, Fc, Gc)) (some (r, Fm, Gm)) (fun r1 F1 G1 r2 F2 G2 => r1 = r2 ∧ (KX jcA jcB Fc Gc F1 G1 ∧ KX wkA wkB Fm Gm F2 G2) ∧ jBt gl K nf F1 G1 F2 G2) := fun r => JP.ret ⟨rfl, ⟨KX.rf, KX.rf⟩, bt⟩
  unfold cf_X11_run cb_X11_run_0 cb_X11_run_21 mf_run mb_run_0 mb_run_18
  by_cases c0 : x < 0
  · rw [if_pos c0, if_pos c0]; exact same _
  rw [if_neg c0, if_neg c0]
  have c0 := mt i_lt.mpr c0
  unfold cb_X11_run_4 cb_X11_run_21 mb_run_4 mb_run_18
  by_cases c1 : (1000 : Int32) < x
  · rw [if_pos c1, if_pos c1]; exact same _
  rw [if_neg c1, if_neg c1]
  have c1 := mt i_lt.mpr c1
  unfold cb_X11_run_11 cb_X11_run_21 mb_run_11 mb_run_18
  rw [b63]
  by_cases c2 : Fm 75 = 0
  · rw [if_pos c2, if_pos c2]; exact same _
  rw [if_neg c2, if_neg c2]
  rcases br with br | br
  · exact absurd br.1 c2
  obtain ⟨⟨b64, b67⟩, ou, b59, gm, pv, go⟩ := id br
  obtain ⟨rb, rc, ru⟩ := ri
  rcases ru with ⟨-, q⟩ | ⟨h73, hP, q⟩
  · exact absurd q c2
  rcases q with q | ⟨h84, q⟩
  · exact absurd q c2
  obtain ⟨⟨t1, t2, t3⟩, ⟨t4, t5⟩, tb, tc, y, hy, y1, y2⟩ := tz h73
  unfold cb_X11_run_23 cf_X6_goOn cb_X6_goOn_0 mb_run_20
  rw [b63]
  have c6 := ci.1 6 0 8400 rfl
  have wI : (Fc 6).toInt = wN Fc := (nN_of c6.1).symm
  have h60 := hP.2.2.2.1
  have sI : (Fm 60).toInt = sN Fm := (nN_of h60.1).symm
  have X : jFx gl K nf (sN Fm) (wN Fc) Fc Gc Fm Gm := ⟨⟨wI, by omega, by omega, t3, t1, t2⟩, tb, fun f hf => (tc f hf).fw, hP, h84⟩
  by_cases c3 : Fm 75 ≤ 2
  · rw [if_pos c3]
    have c3 := i_le.mp c3
    rcases q with q | ⟨q75, q⟩
    · omega
    -- both begin to go on
    have E1k : KX [61, 62, 63] [] Fc Gc (fup (fup (fup Fc 63 1) 62 x) 61 1) Gc := KX.f rfl (KX.f rfl (KX.f rfl KX.rf))
    have E2k : KX [75, 78] [] Fm Gm (fup (fup Fm 78 x) 75 1) Gm := KX.f rfl (KX.f rfl KX.rf)
    have e61 : fup (fup (fup Fc 63 1) 62 x) 61 1 61 = 1 := fup_s
    have e62 : fup (fup (fup Fc 63 1) 62 x) 61 1 62 = x := by rw [fup_n (by decide), fup_s]
    have e63 : fup (fup (fup Fc 63 1) 62 x) 61 1 63 = 1 := by rw [fup_n (by decide), fup_n (by decide), fup_s]
    have f75 : fup (fup Fm 78 x) 75 1 75 = 1 := fup_s
    have f78 : fup (fup Fm 78 x) 75 1 78 = x := by rw [fup_n (by decide), fup_s]
    have eqC : (if Fm 75 = 1 then cb_X6_goOn_17 fu x Fc Gc else cb_X6_goOn_8 fu x Fc Gc) = cb_X6_goOn_32 fu (fup (fup (fup Fc 63 1) 62 x) 61 1) Gc := by
      rcases q75 with z | z
      · rw [if_pos z]; rfl
      · rw [if_neg (by rw [z]; decide)]
        unfold cb_X6_goOn_8
        rw [b63, if_pos z]
        rfl
    rw [eqC]
    unfold mb_run_33 mb_run_38
    generalize fup (fup (fup Fc 63 1) 62 x) 61 1 = E1 at E1k e61 e62 e63
    generalize fup (fup Fm 78 x) 75 1 = E2 at E2k f75 f78
    have cn : CNR E2 := by
      refine ⟨⟨by rw [f78]; omega, by rw [f78]; omega⟩, ?_, ?_, ?_⟩
      · rw [E2k.1 79 rfl]; exact rc.1
      · rw [E2k.1 80 rfl]; exact rc.2.1
      · rw [E2k.1 80 rfl]; exact rc.2.2
    have kc : KX jcA jcB Fc Gc E1 Gc := E1k.sub rfl rfl
    have km : KX wkA wkB Fm Gm E2 Gm := E2k.sub rfl rfl
    have ik : jK E1 Gc E2 Gm := by
      refine ⟨⟨by rw [e62, f78], by rw [E1k.1 64 rfl, E2k.1 77 rfl]; exact b64, by rw [E1k.1 67 rfl, E2k.1 84 rfl]; exact b67⟩, ?_, ?_⟩
      · unfold jOu
        rw [E1k.1 72 rfl, E2k.1 79 rfl]; exact ou
      · unfold jIp
        rw [E1k.1 69 rfl, E1k.1 70 rfl, E2k.1 80 rfl]; exact ip
    have n56 : ¬ (Fm 75 = 5 ∨ Fm 75 = 6) := by
      rcases q75 with z | z <;> rw [z] <;> decide
    have n34 : ¬ (Fm 75 = 3 ∨ Fm 75 = 4) := by
      rcases q75 with z | z <;> rw [z] <;> decide
    have e66 : E1 66 = -1 := by rw [E1k.1 66 rfl]; exact pv.2.1 n56
    have e65 : E1 65 = 0 := by rw [E1k.1 65 rfl]; exact pv.2.2.2 n34
    have x56 := ci.jx
    have hx1 : jXn E1 := by
      unfold jXn xn at x56 ⊢
      rw [E1k.1 56 rfl, E1k.1 300 rfl]; exact x56
    -- what comes behind it
    have fin : ∀ (b : PR), JP (cb_X6_goOn_32 fu E1 Gc) b (fun _ F3 G3 r F4 G4 => r = F4 75 ∧ jStx (jSS gl K nf (sN Fm) (wN Fc) Gc Gm) gl Fc Gc Fm Gm F3 G3 F4 G4 ∧ (F4 75 = 1 ∨ F4 75 = 2 → F3 60 = 1)) → JP ((cb_X6_goOn_32 fu E1 Gc).bind (fun q => cb_X11_run_31 fu q.2.1 q.2.2)) b (fun r1 F1 G1 r2 F2 G2 => r1 = r2 ∧ (KX jcA jcB Fc Gc F1 G1 ∧ KX wkA wkB Fm Gm F2 G2) ∧ jBt gl K nf F1 G1 F2 G2) := by
      intro b h
      refine JP.bL h ?_
      rintro _ F3 G3 r F4 G4 ⟨w1, ⟨⟨k1, k2⟩, -, k3, k4, k5, k6, k7, k8⟩, w3⟩
      dsimp only
      unfold cb_X11_run_31
      refine PP.ret ⟨k4.trans w1.symm, ⟨k1, k2⟩, k4, k3.2.2, .inr ⟨⟨k3.1.2.1, k3.1.2.2⟩, k3.2.1, k5, k6, k7, fun z => .inr ⟨w3 z, ?_⟩⟩⟩
      have eS : sN F4 = sN Fm := by show (F4 60).toNatClampNeg = _; rw [k2.1 60 rfl]
      have eW : wN F3 = wN Fc := by show (F3 6).toNatClampNeg = _; rw [k1.1 6 rfl]
      rw [eS, eW]
      exact (k8 z).rb k1 k2
    refine fin _ ?_
    unfold cb_X6_goOn_32 mb_run_43
    rcases go q75 with ⟨g60, g85, g83, g72, g56⟩ | ⟨g60, rg⟩
    · rw [if_pos (by rw [E1k.1 60 rfl]; exact g60), if_neg (fun z => by have := i_lt.mp z; rw [E2k.1 85 rfl, g85] at this; omega)]
      have g59 : Fc 59 = 2000 := by rw [b59, g83]; rfl
      exact jq_main hfu X kc km ik gm ⟨t4, t5⟩ hy y1 y2 hx1 (by rw [E1k.1 56 rfl]; exact g56) (by rw [E1k.1 59 rfl]; exact g59) e61 e63 e66 e65 f75 (by rw [E2k.1 85 rfl]; exact g85) (by rw [E2k.1 83 rfl]; exact g83) (by rw [E2k.1 72 rfl]; exact g72) cn
    · have p85 : 0 < (Fm 85).toInt := by
        obtain ⟨-, H, n, g, a, b, mu, A, le, cb, wb, t, k, s, l, R⟩ := rg
        have b2 := R.bd.1
        have b3 := R.2.2.2.2.2.2.2.2.2.2.2.2.2.1
        rw [R.2.2.2.2.2.1.1, nI_toInt (by omega)]
        omega
      rw [if_neg (by rw [E1k.1 60 rfl, g60]; decide), if_pos (i_lt.mpr (by rw [E2k.1 85 rfl]; omega))]
      unfold cb_X6_goOn_43 mb_run_71 mb_run_76
      rcases q with ⟨z, -⟩ | ⟨φ, cu⟩
      · rw [z] at p85
        omega
      obtain ⟨n, a0, d0, t0, A, m, ⟨c1', c2', c3', c4', c5', c6', c7', c8'⟩, p, ht, hv, e⟩ := cu
      have cu : CUR Fm Gm E2 Gm (PHI A m n (E2 76).toInt.toNat (E2 78).toInt) := by
        refine ⟨n, a0, d0, t0, A, m, ⟨km, by rw [E2k.1 85 rfl]; exact c2', c3', by rw [E2k.1 87 rfl, E2k.1 83 rfl]; exact c4', by rw [E2k.1 83 rfl]; exact c5', (E2k.1 86 rfl).trans c6', c7', cn⟩, by rw [E2k.1 76 rfl]; exact p, by rw [E2k.1 76 rfl, E2k.1 72 rfl]; exact ht, by rw [E2k.1 76 rfl, E2k.1 72 rfl]; exact hv, rfl⟩
      have I : jInv (jSS gl K nf (sN Fm) (wN Fc) Gc Gm) gl Fc Gc Fm Gm E1 Gc E2 Gm := ⟨⟨kc, km⟩, rg.fr (E1k.1 300 rfl) ⟨E1k.1 56 rfl, E1k.1 57 rfl, E1k.1 58 rfl, E1k.1 59 rfl, rfl, rfl⟩ ⟨E2k.1 72 rfl, E2k.1 76 rfl, E2k.1 83 rfl, E2k.1 85 rfl, E2k.1 86 rfl, E2k.1 87 rfl⟩ ⟨rfl, rfl, rfl, rfl, rfl⟩, ik, e61, e63, f75, e66, e65⟩
      have le := cu.le2 hP
      refine JP.mono (JP.wL (jq_loop hfu X fu fu _ 0 E1 Gc E2 Gm I cu (by omega) (by omega)) (cq_60 fu 0 E1 Gc)) ?_
      rintro _ F5 G5 r6 F6 G6 ⟨⟨w1, w2⟩, w3⟩
      exact ⟨w1, w2, fun _ => w3.trans ((E1k.1 60 rfl).trans g60)⟩
  · rw [if_neg c3]
    have c3 := mt i_le.mpr c3
    have n1 : ¬ Fm 75 = 1 := fun z => c3 (by rw [z]; decide)
    have n2 : ¬ Fm 75 = 2 := fun z => c3 (by rw [z]; decide)
    rw [if_neg n1]
    unfold cb_X6_goOn_8
    rw [b63, if_neg n2]
    show JP (some (Fc 63, Fc, Gc)) (some (Fm 75, Fm, Gm)) _
    rw [b63]
    exact same _
end JQN
