/-- things of a function that begins: its FORMALs -/
def jHx (H : JHP) (n cb W : Nat) (Ks : List Nat) : JHP := fun i => if i = n + 1 then (fun c w x => ∃ p o : Nat, x.1 ≤ 4 ∧ jAt (jFl Ks) p o x ∧ c = cb + p ∧ w = W + 4 + o) else H i
theorem jHx.lo {H : JHP} {n cb W : Nat} {Ks : List Nat} {i c w : Nat} {x : Nat × Nat} (h : i ≤ n) : jHx H n cb W Ks i c w x ↔ H i c w x := by
  unfold jHx
  rw [if_neg (by omega)]
theorem jHx.hi {H : JHP} {n cb W : Nat} {Ks : List Nat} {c w : Nat} {x : Nat × Nat} : jHx H n cb W Ks (n + 1) c w x ↔ ∃ p o : Nat, x.1 ≤ 4 ∧ jAt (jFl Ks) p o x ∧ c = cb + p ∧ w = W + 4 + o := by
  unfold jHx
  rw [if_pos rfl]
/-- the memories when a function begins -/
theorem jHp.ent {H : JHP} {n cb W t w C y : Nat} {ce wd op st : Nat → Int32} {Ks : List Nat} {s0 : SH} {v u : Int32} (h : jHp H n ce wd) (hb : ∀ i c w x, i ≤ n → H i c w x → c + joC x ≤ cb ∧ w + joW x ≤ W) (hK : ∀ x ∈ Ks, x ≤ 2) (V : jVs H (n + 1) op st (jArg Ks s0) y) (ew : w = jsC (jFl Ks)) (ey : y = t + w) (hC : w ≤ C) : jHp (jHx H n cb W Ks) (n + 1) (jNc ce op cb t w C) (jAr (upd (upd wd W v) (W + 1) u) st (W + 4) y w w) := by
  obtain ⟨⟨a1, a2, a3⟩, a4, a5⟩ := jVs.arg Ks s0 y hK V
  rw [← ew] at a1 a2 a5
  have et : y - w = t := by omega
  rw [et] at a5
  have cn : ∀ i : Nat, i < w → jNc ce op cb t w C (cb + i) = op (t + i) := fun i hi => by
    unfold jNc
    rw [if_pos ⟨by omega, by omega⟩, show cb + i - cb = i by omega, if_pos hi]
  have wn : ∀ i : Nat, i < w → jAr (upd (upd wd W v) (W + 1) u) st (W + 4) y w w (W + 4 + i) = st (t + i) := fun i hi => by
    unfold jAr
    rw [if_pos ⟨by omega, by omega⟩, show y - w + (W + 4 + i - (W + 4)) = t + i by omega]
  refine jHp.lev (cb := cb) (wb := W) h hb (fun c w1 x q => ?_) (fun c w1 d v1 x z q qq => ?_) (fun i hi => ?_) (fun i hi => ?_) (fun c w1 x q => ?_)
  · obtain ⟨p, o, q1, q2, q3, q4⟩ := q
    exact ⟨q1, by omega, by omega⟩
  · obtain ⟨p, o, q1, q2, q3, q4⟩ := q
    obtain ⟨p1, o1, r1, r2, r3, r4⟩ := qq
    rcases jAt.one q2 r2 with ⟨u1, u2, u3⟩ | ⟨u1, u2⟩
    · exact .inl ⟨by omega, by omega, u3⟩
    · exact .inr ⟨by omega, by omega⟩
  · exact if_neg (by omega)
  · unfold jAr
    rw [if_neg (by omega), upd_n (by omega), upd_n (by omega)]
  · obtain ⟨p, o, q1, q2, q3, q4⟩ := q
    obtain ⟨b1, b2, b3, b4, b5, b6, b7⟩ := a5 p o x q2
    have bd := q2.le
    rw [← ew] at bd
    subst b2
    rw [q3, q4]
    refine ⟨fun z => ?_, fun z => absurd z b4, fun z => absurd z b5, fun z => ?_, fun z => ?_, fun z => absurd z b5⟩
    · have : p < w := by
        have e : joC x = 1 := by unfold joC; rw [if_pos z]
        omega
      rw [cn p this, wn p this]
      exact b3 z
    · have : p + 1 < w := by
        have e : joC x = 2 := by unfold joC; rw [if_neg (by omega), if_neg (by omega), if_neg (by omega), if_neg (by omega)]
        omega
      rw [show cb + p + 1 = cb + (p + 1) by omega, show W + 4 + p + 1 = W + 4 + (p + 1) by omega, cn p (by omega), wn p (by omega), cn (p + 1) this, wn (p + 1) this]
      exact b6 z
    · have : p + 1 < w := by
        have e : joC x = 2 := by unfold joC; rw [if_neg (by omega), if_neg (by omega), if_neg (by omega), if_neg (by omega)]
        omega
      rw [show cb + p + 1 = cb + (p + 1) by omega, show W + 4 + p + 1 = W + 4 + (p + 1) by omega, cn p (by omega), wn p (by omega), cn (p + 1) this, wn (p + 1) this]
      exact b7 z
/-- what both know of functions -/
def jTb (K : Nat → List Nat) (nf : Nat) (Gc Gm : PG) : Prop := ∀ f : Nat, f < nf → Gc 79 f = Gm 28 f ∧ Gc 77 f = Gm 26 f ∧ Gc 81 f = nI (jsW (jFl (K f))) ∧ (∀ x ∈ K f, x ≤ 2) ∧ ∃ s c : Nat, Gm 31 f = nI s ∧ Gm 27 f = nI c ∧ s + c < 100000 ∧ jN1 Gm s c = jsC (jFl (K f))
theorem jN1.fl {G : PG} {s : Nat} : ∀ c : Nat, (∀ j : Nat, j < c → ∃ k : Nat, k ≤ 2 ∧ G 34 (s + j) = nI k) → jN1 G s c = jsC (jFl ((List.range c).map (fun j => (G 34 (s + j)).toInt.toNat))) ∧ ∀ x ∈ (List.range c).map (fun j => (G 34 (s + j)).toInt.toNat), x ≤ 2 := by
  intro c
  induction c with
  | zero => intro _; exact ⟨rfl, fun x hx => nomatch hx⟩
  | succ c ih =>
    intro h
    obtain ⟨i1, i2⟩ := ih (fun j hj => h j (by omega))
    obtain ⟨k, k1, k2⟩ := h c (by omega)
    have kI : (nI k).toInt.toNat = k := by rw [nI_toInt (by omega)]; omega
    rw [List.range_succ, List.map_append, jFl_app, jsC_app]
    refine ⟨?_, fun x hx => ?_⟩
    · unfold jN1
      rw [i1]
      show _ = _ + jsC (jFl [(G 34 (s + c)).toInt.toNat])
      rw [k2, kI]
      rcases (show k = 0 ∨ k = 1 ∨ k = 2 by omega) with e | e | e <;> subst e
      · rw [if_pos (show nI 0 = 0 from rfl)]; rfl
      · rw [if_neg (show ¬ nI 1 = 0 by decide)]; rfl
      · rw [if_neg (show ¬ nI 2 = 0 by decide)]; rfl
    · rcases List.mem_append.mp hx with q | q
      · exact i2 x q
      · have q : x = (G 34 (s + c)).toInt.toNat := List.mem_singleton.mp q
        rw [q, k2, kI]
        exact k1
section JQI
variable {fu : Nat} {S : JST} {gl : JLY} {K : Nat → List Nat} {nf B WB : Nat} {Gc Gm : PG} {H : JHP} {F1 F2 F3 F4 F5 : PF} {G1 G2 G3 G4 G5 : PG} {n g a b : Nat} {mu : Nat → Nat} {A : JAN} {le : JLY} {cb wb t k : Nat} {s s0 s1 : SH} {l : JLY}
/-- a function begins in both -/
theorem jRg.ent {f w C W y : Nat} {v u : Int32} {ce wd op st : Nat → Int32} (hS : S f a b mu A le) (hW : jFw gl K f B WB Gc Gm a b mu A le) (hK : ∀ x ∈ K f, x ≤ 2) (hx : jXn F3) (h : jHp H n ce wd) (hb : ∀ i c w x, i ≤ n → H i c w x → c + joC x ≤ cb ∧ w + joW x ≤ W) (V : jVs H (n + 1) op st (jArg (K f) s0) y) (ew : w = jsC (jFl (K f))) (ey : y = t + w) (h0 : ∀ c w x, H 0 c w x ↔ (x.1 ≤ 4 ∧ jAt gl c w x)) (hg : jsW gl ≤ 2000) (fs : jFS S (jsC gl) (jHx H n cb W (K f)) (G4 71) (G3 55) (G3 54) (G4 91) (G4 92) (G4 93) n cb W t) (e91 : G4 91 n = nI f) (e93 : G4 93 n = nI cb) (e85 : F4 85 = nI (n + 1)) (e86 : F4 86 = nI cb) (e87 : F4 87 = nI (cb + jsC le)) (e83 : F4 83 = nI (W + 4 + jsW le - 2000)) (c58 : F3 58 = nI W) (c59 : F3 59 = nI (W + 4 + jsW le)) (e76 : F4 76 = nI a) (c57 : F3 57 = nI (mu a)) (e72 : F4 72 = nI t) (c56 : F3 56 = nI t) (e90 : G4 90 = jNc ce op cb t w (jsC le)) (e54 : G3 54 = jAr (upd (upd wd W v) (W + 1) u) st (W + 4) y w w) (hWb : W + 4 + jsW le ≤ 4000) (t4 : t < 400000) : jRg S gl F3 G3 F4 G4 := by
  obtain ⟨⟨-, f2, -⟩, -, ⟨f6, -⟩, ⟨-, -, f10⟩, f11, -⟩ := hW
  have le0 : jLe (jFl (K f)) le := f11 a _ (Nat.le_refl _) (Nat.le_of_lt f2) (by rw [f6])
  have lek : w ≤ jsC le := by
    rw [ew]
    obtain ⟨⟨a1, a2, a3⟩, a4, a5⟩ := jVs.arg (K f) s0 y hK V
    rcases List.eq_nil_or_concat (jFl (K f)) with z | ⟨l1, x, z⟩
    · rw [z]; exact Nat.zero_le _
    · have at1 : jAt (jFl (K f)) (jsC l1) (jsW l1) x := ⟨l1, [], by rw [z, List.concat_eq_append], rfl, rfl⟩
      have x4 := (a5 _ _ x at1).1
      have := (le0 _ _ x x4 at1).le
      rw [z, List.concat_eq_append, jsC_app]
      show jsC l1 + (joC x + 0) ≤ _
      omega
  have hp := jHp.ent (v := v) (u := u) (C := jsC le) h hb hK V ew ey lek
  refine ⟨hx, jHx H n cb W (K f), n, f, a, b, mu, A, le, cb, W, t, a, [], jFl (K f), fs, hS, ⟨e91, e93⟩, ⟨Nat.le_refl _, f2, f6, jN6.nil⟩, ⟨fun p o x hx q => jHx.hi.mpr ⟨p, o, hx, q, rfl, rfl⟩, fun c w x q => ?_⟩, ⟨e85, e86, e87, e83⟩, ⟨c58, c59⟩, ⟨e76, c57⟩, ⟨e72, c56⟩, trivial, by rw [e90, e54]; exact hp, fun c w x => (jHx.lo (Nat.zero_le _)).trans (h0 c w x), hg, hWb, t4, f10⟩
  obtain ⟨p, o, q1, q2, q3, q4⟩ := jHx.hi.mp q
  exact ⟨p, o, q1, le0 p o x q1 q2, q3, q4⟩
/-- CALL -/
def jCl2 (fu : Nat) (S : JST) (gl : JLY) (F1 : PF) (G1 : PG) (F2 : PF) (G2 : PG) (F3 : PF) (G3 : PG) (r : Int32) (F4 : PF) (G4 : PG) : Prop := r = 1 ∧ KX [76, 77, 78] [] F2 G2 F4 G4 ∧ F4 78 = F2 78 - 1 ∧ F4 77 = F2 77 + 1 ∧ F3 62 = F1 62 - 1 ∧ F3 64 = F1 64 + 1 ∧ PP (mf_works fu F4 G4) (fun r F5 G5 => (r = 0 ∧ KX [75, 82] [] F4 G4 F5 G5 ∧ F5 75 = 6 ∧ KX [57, 61, 62, 63, 64, 66] [] F1 G1 F3 G3 ∧ F3 61 = 0 ∧ F3 63 = 6 ∧ F3 66 = F5 82) ∨ (r = 1 ∧ jRg S gl F3 G3 F5 G5 ∧ KX [56, 57, 58, 59, 62, 64, 300] [54, 55] F1 G1 F3 G3 ∧ KX [72, 76, 83, 85, 86, 87] [90, 91, 92, 93] F4 G4 F5 G5))
theorem jq_ca {f : Nat} (R : jRc (jSS gl K nf B WB Gc Gm) gl H F1 G1 F2 G2 n g a b mu A le cb wb t k s l) (hx : jXn F1) (Z : jSt0 WB B Gc Gm F1 G1 G2) (T : jTb K nf Gc Gm) (hC : ∀ f : Nat, f < nf → ∃ (a b : Nat) (mu : Nat → Nat) (A : JAN) (le : JLY), jFw gl K f B WB Gc Gm a b mu A le) (kc : G1 79 = Gc 79 ∧ G1 80 = Gc 80 ∧ G1 81 = Gc 81) (km : G2 27 = Gm 27 ∧ G2 28 = Gm 28 ∧ G2 29 = Gm 29 ∧ G2 30 = Gm 30 ∧ G2 31 = Gm 31 ∧ G2 34 = Gm 34) (e62 : F1 62 = F2 78) (e78 : 0 ≤ (F2 78).toInt) (e67 : F1 67 = F2 84) (l84 : (F2 84).toInt ≤ 2000) (nf4 : nf ≤ 449) (e74 : (F1 74).toInt = nf) (q1 : Gm 56 k = 15) (q2 : k + 2 ≤ b) (q3 : Gm 56 (k + 1) = 16) (q4 : Gc 5 (mu k) = 90) (q5 : mu (k + 1) = mu k + 3) (q6 : mu (k + 2) = mu k + 3) (q7 : Gm 57 (k + 1) = nI f) (q8 : Gc 5 (mu k + 1) = nI f) (q9 : Gc 5 (mu k + 2) = Gm 58 (k + 1)) (q10 : s = jArg (K f) s0) (an : jAn A (k + 2) (0 :: s0) l) (hf : f < nf) : JP (cf_X6_step fu F1 G1) (mf_works fu F2 G2) (fun _ F3 G3 r F4 G4 => jTu (mu k) F1 G1 F2 G2 F3 G3 r F4 G4 ∨ jCl2 fu (jSS gl K nf B WB Gc Gm) gl F1 G1 F2 G2 F3 G3 r F4 G4) := by
  have Q := R.tl
  have M := R.mp Z
  have C := R.cp (w := 3) hx Z (by omega)
  have bd := R.bd
  have l0 : (0 : Int32).toInt = 0 := rfl
  have g0 := jFS.geo (jH0 R.2.2.2.2.2.2.2.2.2.2.2.1 R.2.2.2.2.2.2.2.2.2.2.2.2.1) n cb wb t R.1
  have RH0 := jH0 R.2.2.2.2.2.2.2.2.2.2.2.1 R.2.2.2.2.2.2.2.2.2.2.2.2.1
  obtain ⟨r1, r2, ⟨r3, r4⟩, ⟨r5, r6, r7, r8⟩, r9, ⟨r10, r11, r12, r13⟩, ⟨r14, r15⟩, ⟨r16, r17⟩, ⟨r18, r19⟩, r20, r21, r22, r23, r24, r25, r26⟩ := R
  obtain ⟨⟨z5, -, -, z8⟩, z56, z57, z58, z59⟩ := Z
  subst q10
  obtain ⟨t79, -, t81, tK, s1, c1, t31, t27, tsc, tN⟩ := T f hf
  obtain ⟨a', b', mu', A', le', fw⟩ := hC f hf
  obtain ⟨⟨v1, v2, v3⟩, v4, v5⟩ := jVs.arg (K f) s0 (t + (jArg (K f) s0).length) tK r20
  obtain ⟨⟨f30, -, -⟩, ⟨f80, -, -⟩, -, ⟨f28, f29, f208⟩, -⟩ := id fw
  generalize hw : jsC (jFl (K f)) = w at v1 v2 v3 v4 v5 tN
  rw [← v1] at t81
  have yt : t + (jArg (K f) s0).length = t + s0.length + w := by omega
  have y8 : t + s0.length + w < 400000 := by omega
  rw [yt] at M C r18 r19 r20 r25 v2 v4
  have et : t + s0.length + w - w = t + s0.length := by omega
  rw [et] at v4
  -- how deep
  have d1 : F1 59 - 2000 + G1 79 f = F2 83 + G2 28 f := by
    rw [kc.1, km.2.1, t79, r15, r13]
    have : nI (wb + 4 + jsW le) - 2000 = nI (wb + 4 + jsW le - 2000) := nI_su (b := 2000) (by omega) (by omega)
    rw [this]
  have d2 : (F2 83 + G2 28 f).toInt = ((wb + 4 + jsW le - 2000 + (4 + jsW le') : Nat) : Int) := by
    rw [r13, km.2.1, f28, nI_ad (by omega), nI_toInt (by omega)]
  have lew : w ≤ jsW le' := by
    obtain ⟨⟨-, p2, -⟩, -, ⟨p6, -⟩, -, p11, -⟩ := id fw
    have le0 : jLe (jFl (K f)) le' := p11 a' _ (Nat.le_refl _) (Nat.le_of_lt p2) (by rw [p6])
    rcases List.eq_nil_or_concat (jFl (K f)) with z | ⟨l1, x, z⟩
    · rw [z] at hw
      rw [← hw]
      exact Nat.zero_le _
    · have at1 : jAt (jFl (K f)) (jsC l1) (jsW l1) x := ⟨l1, [], by rw [z, List.concat_eq_append], rfl, rfl⟩
      have x4 := (v5 _ _ x at1).1
      have := (le0 _ _ x x4 at1).le
      rw [z, List.concat_eq_append, jsW_app] at v1
      have v1 : w = jsW l1 + (joW x + 0) := v1
      omega
  refine JP.pp (cq_call (W := wb + 4 + jsW le) (w := w) (g := f) C (by rw [z5]; exact q4) (by rw [z5]; exact q8) (by omega) r15 (fun d => ?_) (by omega) (by rw [e74]; omega) (by rw [kc.2.2]; exact t81)) (mq_tu M (by rw [z56]; exact q1)) ?_
  · rw [d1, d2, e67] at d
    omega
  intro _ F3 G3 r F4 G4 cc mm
  rw [e62] at cc
  rcases cc with ⟨c1', cc⟩ | ⟨c1', cc⟩
  · rcases mm with ⟨m1, m2, m3, m4⟩ | ⟨m1, -⟩
    · exact .inl ⟨m2, cc, m3, m4⟩
    · exact absurd (i_eq2 (by omega)) m1
  rcases mm with ⟨m1, -⟩ | ⟨m1, m2, m3, m4, m5, m6⟩
  · rw [m1] at c1'
    omega
  refine .inr ⟨m2, m3, m5, m6, ?_, ?_, ?_⟩
  · rcases cc with ⟨-, -, -, -, -, w1, -⟩ | ⟨-, -, w1, -⟩
    · rw [e62]; exact w1
    · exact w1
  · rcases cc with ⟨-, -, -, -, -, -, w1⟩ | ⟨-, -, -, w1, -⟩ <;> exact w1
  have M4 : jMp (k + 1) (t + s0.length + w) F4 := ⟨m4, (m3.1 72 rfl).trans r18, by omega, y8⟩
  have j1 : jN1 G4 s1 c1 = w := by
    rw [← tN]
    have e34 : G4 34 = Gm 34 := (m3.2 34 rfl).trans km.2.2.2.2.2
    have : ∀ c : Nat, jN1 G4 s1 c = jN1 Gm s1 c := by
      intro c
      induction c with
      | zero => rfl
      | succ c ih => unfold jN1; rw [ih, e34]
    exact this c1
  have hb : (if F4 85 = 0 then F4 37 else F4 87) = nI (cb + jsC le) := by
    rw [m3.1 85 rfl, r10, if_neg (show ¬ nI (n + 1) = 0 from fun q => by have := nI_ij (b := 0) q (by omega) (by decide); omega), m3.1 87 rfl]
    exact r12
  have e83 : F4 83 + G4 28 f = F2 83 + G2 28 f := by rw [m3.1 83 rfl, m3.2 28 rfl]
  have me := mq_cw (fu := fu) (F := F4) (G := G4) (b := cb + jsC le) (C := jsC le') (g := f) (s := s1) (c := c1) (by omega) (by rw [m3.2 57 rfl, z57]; exact q7) hb (by rw [m3.2 31 rfl, km.2.2.2.2.1]; exact t31) (by rw [m3.2 27 rfl, km.1]; exact t27) tsc (by rw [m3.2 29 rfl, km.2.2.1]; exact f29) (by have := jsC4 le'; omega) (by rw [j1]; omega) M4 (by rw [m3.2 56 rfl, z56]; exact q3)
  refine PP.mono me ?_
  intro r5 F5 G5 mm
  rw [j1, e83, m3.1 84 rfl] at mm
  rcases cc with ⟨cd, cc⟩ | ⟨cd, cc⟩
  · rw [d1, e67] at cd
    rcases mm with ⟨n1, n2, n3, n4, n5⟩ | ⟨n1, n2, -⟩
    · obtain ⟨w1, w2, w3, w4, -⟩ := cc
      refine .inl ⟨n1, n3, n4, w1, w2, w3, ?_⟩
      rw [w4, n5, z5, q9, m3.2 58 rfl, z58]
    · omega
  · rw [d1, e67] at cd
    rcases mm with ⟨n1, n2, -⟩ | ⟨n1, -, mc⟩
    · omega
    · refine .inr ⟨n1, ?_, ?_, mc.1⟩
      · obtain ⟨x1, x2, x3, x4, x5, x6, x7, x8, x9⟩ := cc
        obtain ⟨y1, y2, y3, y4, y5, y6, y7, y9, y10, y11, y12⟩ := mc
        have n85 : (F4 85).toNatClampNeg = n + 1 := by rw [m3.1 85 rfl, r10]; exact nI_c _ (by omega)
        rw [n85] at y10 y11 y12
        have wb4 : wb + 4 + jsW le + 4 + jsW le' ≤ 4000 := by omega
        have hd0 : G3 54 (wb + 4 + jsW le) = nI (mu k + 3) := by
          rw [x9]
          unfold jAr
          rw [if_neg (by omega), upd_n (by omega), upd_s]
        have hd1 : G3 54 (wb + 4 + jsW le + 1) = nI wb := by
          rw [x9]
          unfold jAr
          rw [if_neg (by omega), upd_s]
          exact r14
        have low : ∀ i, (i < wb + 4 + jsW le ∨ wb + 4 + jsW le + 4000 ≤ i) → G3 54 i = G1 54 i := by
          intro i hi
          rw [x9]
          unfold jAr
          rw [if_neg (by omega), upd_n (by omega), upd_n (by omega)]
        obtain ⟨l2, an1, an2⟩ := an
        have kb : k + 2 < b := by
          rcases Nat.lt_or_ge (k + 2) b with z | z
          · exact z
          · have e : k + 2 = b := by omega
            have h8 := Q.2.2.1
            rw [← e, an1] at h8
            exact absurd (List.cons.inj h8).1 (by decide)
        have op : ∀ j, j < t + s0.length → G5 71 j = G2 71 j ∧ G3 55 j = G1 55 j := fun j hj => ⟨by rw [y1.2 71 rfl, m3.2 71 rfl], x8.2.1 j (by omega)⟩
        have fs : jFS (jSS gl K nf B WB Gc Gm) (jsC gl) (jHx H (n + 1) (cb + jsC le) (wb + 4 + jsW le) (K f)) (G5 71) (G3 55) (G3 54) (G5 91) (G5 92) (G5 93) (n + 1) (cb + jsC le) (wb + 4 + jsW le) (t + s0.length) := by
          refine ⟨g, a, b, mu, A, le, cb, wb, t, k + 2, s0, l2, ?_, r2, ⟨?_, ?_, ?_⟩, ⟨by omega, kb, an1, jN6.arg _ _ r8⟩, (r9.le an2).cg (fun d v y => jHx.lo (Nat.le_refl _)), ⟨rfl, rfl, rfl⟩, ?_, ?_, hd1⟩
          · refine jFS.cg (fun _ _ _ _ _ _ z => z) RH0 low n cb wb t r1 (fun i d v y hi => jHx.lo (by omega)) (fun j hj => op j (by omega)) (fun j hj => ?_) (fun j hj => ?_) (.inl (by omega))
            · rw [y10, y12, upd_n (by omega), upd_n (by omega), m3.2 91 rfl, m3.2 93 rfl]
              exact ⟨rfl, rfl⟩
            · rw [y11, upd_n (by omega), m3.2 92 rfl]
          · rw [y10, upd_n (by omega), m3.2 91 rfl]; exact r3
          · rw [y12, upd_n (by omega), m3.2 93 rfl]; exact r4
          · rw [y11, upd_s]
          · exact v4.cg (Nat.le_refl _) (fun i c w x hi q => (jHx.lo (by omega)).mpr q) s0 _ op
          · rw [hd0, q6]
        refine jRg.ent (f := f) (w := w) (W := wb + 4 + jsW le) (y := t + s0.length + w) (C := 0) (st := G1 55) (op := G4 71) (ce := G4 90) (wd := G1 54) (v := nI (mu k + 3)) (u := F1 58) (s0 := s0) ⟨hf, fw⟩ fw tK x7 (by rw [m3.2 90 rfl]; exact r21) bd.2 (by rw [m3.2 71 rfl]; exact r20) hw.symm rfl r22 r23 fs ?_ ?_ ?_ y6 ?_ ?_ x5 ?_ ?_ ?_ ?_ ?_ ?_ x9 wb4 (by omega)
        · rw [y10, upd_s]
        · rw [y12, upd_s]
        · rw [y5, m3.1 85 rfl, r10]; exact nI_t _ (by omega)
        · rw [y7]; exact nI_ad (by have := jsC4 le'; omega)
        · rw [y4, e83, r13, km.2.1, f28, nI_ad (by omega)]
          exact congrArg nI (by omega)
        · rw [x6, kc.1, t79, f28, nI_ad (by omega)]
          exact congrArg nI (by omega)
        · rw [y3, m3.2 30 rfl, km.2.2.2.1]; exact f30
        · rw [x4, kc.2.1]; exact f80
        · rw [y2]; exact congrArg nI (by omega)
        · rw [x8.1]; exact congrArg nI (by show t + s0.length + w - w + 0 = _; omega)
        · rw [y9]
          exact congrArg (fun z => jNc (G4 90) (G4 71) (cb + jsC le) z w (jsC le')) et
      · exact cc.1
end JQI
