abbrev jXc : List Nat := [6, 9, 10, 11, 12, 13, 14, 21, 43, 44, 47]
abbrev jYc : List Nat := [5, 20]
abbrev jXm : List Nat := [42, 43, 44, 45, 47, 48, 49, 55, 60, 62, 70]
abbrev jYm : List Nat := [56, 57, 58, 59, 67, 68, 69]
/-- the functions' tables -/
def jFT (nf : Nat) (kf : Nat → List Nat) (Fc : PF) (Gc : PG) (Gm : PG) : Prop := (Fc 74).toInt = nf ∧ nf ≤ 449 ∧ ∀ f : Nat, f < nf → ((Gm 33 f = 0 ∧ Gc 82 f = 1) ∨ (¬ Gm 33 f = 0 ∧ Gc 82 f = 0)) ∧ Gc 77 f = Gm 26 f ∧ Gc 78 f = Gm 27 f ∧ Gc 83 f = Gm 31 f ∧ 0 ≤ (Gm 27 f).toInt ∧ 0 ≤ (Gm 31 f).toInt ∧ (Gm 31 f).toInt + (Gm 27 f).toInt ≤ 690 ∧ (∀ j : Nat, (j : Int) < (Gm 27 f).toInt → ∃ k : Nat, k ≤ 2 ∧ Gm 34 ((Gm 31 f).toInt.toNat + j) = nI k ∧ Gc 84 ((Gm 31 f).toInt.toNat + j) = nI (k + 1)) ∧ kf f = (List.range (Gm 27 f).toInt.toNat).map (fun j => (Gm 34 ((Gm 31 f).toInt.toNat + j)).toInt.toNat)
/-- what expressions read and leave: tokens, pass, what is told -/
def jS (X : JCX) (p : Int32) (N K n q nf t : Nat) (Fc : PF) (Gc : PG) (Fm : PF) (Gm : PG) : Prop :=
  TKE N K n Fc Gc Fm Gm ∧ (p = 0 ∨ p = 1) ∧ (Fm 46 = p ∧ Fc 45 = p ∧ Fc 7 = p) ∧ Fc 46 = Fm 54 ∧ (Fm 54 = 0 ∨ Fm 54 = 1) ∧ (p = 1 → (X.1 = true ↔ ¬ Fm 54 = 0) ∧ jSA K q nf Fc Gc Fm Gm ∧ jSE X.2.1 X.2.2.1 K q t Fc Gc Fm Gm ∧ jSU nf t Gm ∧ jSL K (q + t) Gc ∧ jFT nf X.2.2.2 Fc Gc Gm)
theorem jS.keep {X : JCX} {p : Int32} {N K n q nf t : Nat} {Fc Fm F1 F2 : PF} {Gc Gm G1 G2 : PG} (h : jS X p N K n q nf t Fc Gc Fm Gm) (kc : KX jXc jYc Fc Gc F1 G1) (km : KX jXm jYm Fm Gm F2 G2) : jS X p N K n q nf t F1 G1 F2 G2 := by
  obtain ⟨h1, h2, h3, h4, h5, h6⟩ := h
  refine ⟨h1.keep (kc.1 93 rfl) (kc.2 90 rfl) (kc.2 91 rfl) (kc.2 92 rfl) (km.1 7 rfl) (km.1 8 rfl) (km.2 4 rfl) (km.2 5 rfl) (km.2 6 rfl), h2, ?_, ?_, ?_, ?_⟩
  · rw [km.1 46 rfl, kc.1 45 rfl, kc.1 7 rfl]
    exact h3
  · rw [km.1 54 rfl, kc.1 46 rfl]
    exact h4
  · rw [km.1 54 rfl]
    exact h5
  · unfold jSA jSE jSU jSL jFT
    rw [km.1 54 rfl, km.1 24 rfl, km.1 14 rfl, km.1 15 rfl, kc.1 41 rfl, kc.1 42 rfl, kc.1 74 rfl, km.2 25 rfl, km.2 26 rfl, kc.2 35 rfl, kc.2 34 rfl, kc.2 37 rfl, kc.2 33 rfl, kc.2 36 rfl, km.2 16 rfl, km.2 19 rfl, km.2 18 rfl, kc.2 38 rfl, km.2 17 rfl, km.2 20 rfl, km.2 21 rfl, km.2 22 rfl, km.2 23 rfl, kc.2 40 rfl, kc.2 39 rfl, km.2 33 rfl, kc.2 82 rfl, kc.2 77 rfl, kc.2 78 rfl, km.2 27 rfl, kc.2 83 rfl, km.2 31 rfl, km.2 34 rfl, kc.2 84 rfl]
    exact h6
/-- what waits below stands -/
def jPK (F : PF) (G G1 : PG) : Prop := ∀ i : Nat, (i : Int) < (F 70).toInt → G1 67 i = G 67 i ∧ G1 68 i = G 68 i ∧ G1 69 i = G 69 i
/-- where both stand, nothing found -/
def jD (N i : Nat) (Fc : PF) (Gc : PG) (Fm : PF) (Gm : PG) : Prop := CU N i Fc Gc Fm Gm ∧ (Fm 47 = 0 ∧ Fc 43 = 4001 ∧ Fc 47 = 1) ∧ (0 ≤ (Fc 21).toInt ∧ (Fc 21).toInt ≤ (Gm 6 i).toInt) ∧ 0 ≤ (Fc 6).toInt ∧ 0 ≤ (Fm 60).toInt ∧ 0 ≤ (Fm 70).toInt
/-- both have found a fault, or both have failed -/
def jEnd (Fc Fm : PF) : Prop := ((Fc 43).toInt ≤ 4000 ∧ ¬ Fm 47 = 0) ∨ DEAD Fc Fm
theorem jEnd.st {Fc Fm F1 F2 : PF} (h : jEnd Fc Fm) (c : CFS Fc F1) (m : MFS Fm F2) : jEnd F1 F2 := by
  rcases h with ⟨h1, h2⟩ | ⟨h1, h2, h3⟩
  · exact .inl ⟨c.2 h1, fun q => h2 (m.2.1 q)⟩
  · refine .inr ⟨(c.1 ⟨h1, h2⟩).1, (c.1 ⟨h1, h2⟩).2, ?_⟩
    rcases h3 with h3 | h3
    · exact .inl (fun q => h3 (m.1 q))
    · exact .inr (by rw [m.2.2.1]; exact h3)
theorem JP.fin {a b : PR} {Q : Int32 → PF → PG → Int32 → PF → PG → Prop} {Fc Fm : PF} (hc : PP a (fun _ F' _ => CFS Fc F')) (hm : PP b (fun _ F' _ => MFS Fm F')) (h : jEnd Fc Fm) (k : ∀ (r1 : Int32) (F1 : PF) (G1 : PG) (r2 : Int32) (F2 : PF) (G2 : PG), jEnd F1 F2 → Q r1 F1 G1 r2 F2 G2) : JP a b Q := JP.pp hc hm (fun r1 F1 G1 r2 F2 G2 q1 q2 => k r1 F1 G1 r2 F2 G2 (h.st q1 q2))
/-- from one state to another, nothing found: d brackets more are open, what is made costs κ beyond two words a byte, the shape goes from s to s1, hs waits -/
def jAl (X : JCX) (p : Int32) (N i j : Nat) (d κ : Int) (s s1 : SH) (hs : List JHO) (Fc : PF) (Gc : PG) (Fm : PF) (Gm : PG) (F1 : PF) (G1 : PG) (F2 : PF) (G2 : PG) : Prop :=
  (KX jXc jYc Fc Gc F1 G1 ∧ KX jXm jYm Fm Gm F2 G2) ∧ jD N j F1 G1 F2 G2 ∧ (i ≤ j ∧ (Gm 6 i).toInt ≤ (Gm 6 j).toInt) ∧ (F1 10).toInt = (Fc 10).toInt + d ∧ (F1 21 = Fc 21 ∧ ∀ k : Nat, (k : Int) < (Fc 21).toInt → G1 20 k = Gc 20 k) ∧ (F2 70 = Fm 70 ∧ jPK Fm Gm G2) ∧ (F1 6).toInt + 2 * (Gm 6 i).toInt ≤ (Fc 6).toInt + 2 * (Gm 6 j).toInt + κ ∧ (p = 1 → F2 55 = Fm 55 ∧ ∀ (mu : Nat → Nat) (A : JAN), A (sN Fm) = (s, some X.2.2.1) → mu (sN Fm) = wN Fc → JX X Fc Gc Fm Gm mu A F1 G1 F2 G2 s1 hs [])
section JE1
variable {X : JCX} {p : Int32} {N K n q nf t i j l : Nat} {d d1 κ κ1 : Int} {s s1 s2 : SH} {hs hs1 : List JHO} {Fc Fm F1 F2 F3 F4 : PF} {Gc Gm G1 G2 G3 G4 : PG}
theorem jAl.rf (D : jD N i Fc Gc Fm Gm) : jAl X p N i i 0 0 s s [] Fc Gc Fm Gm Fc Gc Fm Gm := ⟨⟨KX.rf, KX.rf⟩, D, ⟨Nat.le_refl _, Int.le_refl _⟩, by omega, ⟨rfl, fun _ _ => rfl⟩, ⟨rfl, fun _ _ => ⟨rfl, rfl, rfl⟩⟩, by omega, fun _ => ⟨rfl, fun mu A h1 h2 => JX.rf h1 h2⟩⟩
theorem jAl.tr (h : jAl X p N i j d κ s s1 hs Fc Gc Fm Gm F1 G1 F2 G2) (k : jAl X p N j l d1 κ1 s1 s2 hs1 F1 G1 F2 G2 F3 G3 F4 G4) : jAl X p N i l (d + d1) (κ + κ1) s s2 (hs1 ++ hs) Fc Gc Fm Gm F3 G3 F4 G4 := by
  obtain ⟨⟨a1, a2⟩, a3, ⟨a4, a4'⟩, a5, ⟨a6, a6'⟩, ⟨a7, a7'⟩, a8, a9⟩ := h
  obtain ⟨⟨b1, b2⟩, b3, ⟨b4, b4'⟩, b5, ⟨b6, b6'⟩, ⟨b7, b7'⟩, b8, b9⟩ := k
  have e6 : G2 6 = Gm 6 := a2.2 6 rfl
  rw [e6] at b4' b8
  refine ⟨⟨KX.tr a1 b1 rfl rfl, KX.tr a2 b2 rfl rfl⟩, b3, ⟨by omega, by omega⟩, by omega, ⟨b6.trans a6, fun k hk => ?_⟩, ⟨b7.trans a7, fun k hk => ?_⟩, by omega, fun q => ?_⟩
  · rw [b6' k (by rw [a6]; exact hk)]
    exact a6' k hk
  · obtain ⟨c1, c2, c3⟩ := a7' k hk
    obtain ⟨d1, d2, d3⟩ := b7' k (by rw [a7]; exact hk)
    exact ⟨d1.trans c1, d2.trans c2, d3.trans c3⟩
  · obtain ⟨c1, c2⟩ := a9 q
    obtain ⟨d1, d2⟩ := b9 q
    exact ⟨d1.trans c1, fun mu A h1 h2 => (c2 mu A h1 h2).tr (jR3 X) (fun mu1 A1 k1 k2 => d2 mu1 A1 k1 k2)⟩
theorem jAl.le (h : jAl X p N i j d κ s s1 hs Fc Gc Fm Gm F1 G1 F2 G2) (k : κ ≤ κ1) : jAl X p N i j d κ1 s s1 hs Fc Gc Fm Gm F1 G1 F2 G2 := by
  obtain ⟨a1, a3, a4, a5, a6, a7, a8, a9⟩ := h
  exact ⟨a1, a3, a4, a5, a6, a7, by omega, a9⟩
/-- a step of the cursors -/
theorem jAl.on {w : Nat} (S : jS X p N K n q nf t Fc Gc Fm Gm) (D : jD N i Fc Gc Fm Gm) (hi : i < N) (hw : w ≤ tlen (Gm 4 i) (Gm 5 i)) (o : jOn N (i + 1) d Fc Gc Fm Gm F1 G1 F2 G2) : jAl X p N i (i + 1) d (-2 * (w : Int)) s s [] Fc Gc Fm Gm F1 G1 F2 G2 := by
  obtain ⟨⟨rfl, c1⟩, ⟨rfl, c2⟩, c3, c4⟩ := o
  obtain ⟨D1, ⟨D2, D3, D4⟩, ⟨D5, D6⟩, D7, D8, D9⟩ := D
  have tp := (S.1.1.2.2 i hi).1
  refine ⟨⟨KX.tr KX.rf c1 rfl rfl, KX.tr KX.rf c2 rfl rfl⟩, ⟨c3, ⟨?_, ?_, ?_⟩, ⟨?_, ?_⟩, ?_, ?_, ?_⟩, ⟨by omega, by omega⟩, c4, ⟨c1.1 21 rfl, fun _ _ => rfl⟩, ⟨c2.1 70 rfl, fun _ _ => ⟨rfl, rfl, rfl⟩⟩, ?_, fun _ => ⟨c2.1 55 rfl, fun mu A h1 h2 => (JX.rf h1 h2).st (c2.1 60 rfl) (fun _ _ _ => rfl) (c1.1 6 rfl) rfl⟩⟩
  · rw [c2.1 47 rfl]; exact D2
  · rw [c1.1 43 rfl]; exact D3
  · rw [c1.1 47 rfl]; exact D4
  · rw [c1.1 21 rfl]; exact D5
  · rw [c1.1 21 rfl]; omega
  · rw [c1.1 6 rfl]; exact D7
  · rw [c2.1 60 rfl]; exact D8
  · rw [c2.1 70 rfl]; exact D9
  · rw [c1.1 6 rfl]; omega
/-- a closing that is no token -/
theorem jAl.cl (D : jD N i Fc Gc Fm Gm) (o : jOn N i d Fc Gc Fm Gm F1 G1 F2 G2) : jAl X p N i i d 0 s s [] Fc Gc Fm Gm F1 G1 F2 G2 := by
  obtain ⟨⟨rfl, c1⟩, ⟨rfl, c2⟩, c3, c4⟩ := o
  obtain ⟨D1, ⟨D2, D3, D4⟩, ⟨D5, D6⟩, D7, D8, D9⟩ := D
  refine ⟨⟨KX.tr KX.rf c1 rfl rfl, KX.tr KX.rf c2 rfl rfl⟩, ⟨c3, ⟨?_, ?_, ?_⟩, ⟨?_, ?_⟩, ?_, ?_, ?_⟩, ⟨Nat.le_refl _, Int.le_refl _⟩, c4, ⟨c1.1 21 rfl, fun _ _ => rfl⟩, ⟨c2.1 70 rfl, fun _ _ => ⟨rfl, rfl, rfl⟩⟩, ?_, fun _ => ⟨c2.1 55 rfl, fun mu A h1 h2 => (JX.rf h1 h2).st (c2.1 60 rfl) (fun _ _ _ => rfl) (c1.1 6 rfl) rfl⟩⟩
  · rw [c2.1 47 rfl]; exact D2
  · rw [c1.1 43 rfl]; exact D3
  · rw [c1.1 47 rfl]; exact D4
  · rw [c1.1 21 rfl]; exact D5
  · rw [c1.1 21 rfl]; exact D6
  · rw [c1.1 6 rfl]; exact D7
  · rw [c2.1 60 rfl]; exact D8
  · rw [c2.1 70 rfl]; exact D9
  · rw [c1.1 6 rfl]; omega
/-- the reference makes a step -/
def EMM (w a b : Int32) (F : PF) (G : PG) (F1 : PF) (G1 : PG) : Prop := KX [60] [56, 57, 58, 59] F G F1 G1 ∧ (F1 60).toInt = (F 60).toInt + 1 ∧ (∀ k : Nat, k ≠ sN F → cEq G G1 k) ∧ G1 56 (sN F) = w ∧ G1 57 (sN F) = a ∧ G1 58 (sN F) = b
theorem mp_em {fu : Nat} (w a b : Int32) (F : PF) (G : PG) : PP (mf_step fu w a b F G) (fun r F1 G1 => r = F 60 ∧ (sN F < 9000 ∧ 0 ≤ (F 60).toInt) ∧ EMM w a b F G F1 G1 ∧ G1 59 = G 59) := by
  intro r F1 G1 e
  obtain ⟨e1, rfl, rfl, e4⟩ := mp_step w a b F G r F1 G1 e
  obtain ⟨v0, v1⟩ := vp_in_iff.mp e4
  refine ⟨e1.trans (i_as _), ⟨?_, v0⟩, ⟨KX.f rfl (KX.g rfl (KX.g rfl (KX.g rfl KX.rf))), ?_, fun k hk => g3s_c k hk, g3s_i.1, g3s_i.2.1, g3s_i.2.2.1⟩, rfl⟩
  · show (F 60).toInt.toNat < 9000
    omega
  · rw [fup_s]
    exact i_addn _ rfl (by omega) (by omega)
theorem EMM.sn {w a b : Int32} (h : EMM w a b Fm Gm F2 G2) (h0 : 0 ≤ (Fm 60).toInt) : sN F2 = sN Fm + 1 := by
  have := h.2.1
  show (F2 60).toInt.toNat = (Fm 60).toInt.toNat + 1
  omega
theorem EMC.wn {ws : List Int32} (h : EMC ws Fc Gc F1 G1) (h7 : Fc 7 = 1) (h0 : 0 ≤ (Fc 6).toInt) : wN F1 = wN Fc + ws.length := by
  have := (h.2.2 h7).1
  show (F1 6).toInt.toNat = (Fc 6).toInt.toNat + ws.length
  omega
/-- both write: one step, some words -/
theorem jAl.em {w a b : Int32} {ws : List Int32} (h7 : Fc 7 = 0 ∨ Fc 7 = 1) (hp : p = 1 → Fc 7 = 1) (D : jD N i Fc Gc Fm Gm) (c : EMC ws Fc Gc F1 G1) (m : EMM w a b Fm Gm F2 G2) (ho : p = 1 → jO X w a b (G2 59 (sN Fm)) (fun j => G1 5 (wN Fc + j)) s s1 ws.length) : jAl X p N i i 0 (ws.length : Int) s s1 [] Fc Gc Fm Gm F1 G1 F2 G2 := by
  obtain ⟨D1, ⟨D2, D3, D4⟩, ⟨D5, D6⟩, D7, D8, D9⟩ := D
  obtain ⟨x1, x2, x3⟩ := id c
  obtain ⟨y1, y2, y3, y4, y5, y6⟩ := id m
  have c6 : 0 ≤ (F1 6).toInt ∧ (F1 6).toInt ≤ (Fc 6).toInt + ws.length := by
    rcases h7 with z | z
    · rw [(x2 z).1]
      omega
    · have := (x3 z).1
      omega
  refine ⟨⟨KX.tr KX.rf x1 rfl rfl, KX.tr KX.rf y1 rfl rfl⟩, ⟨?_, ⟨?_, ?_, ?_⟩, ⟨?_, ?_⟩, c6.1, by omega, ?_⟩, ⟨Nat.le_refl _, Int.le_refl _⟩, ?_, ⟨x1.1 21 rfl, fun _ _ => by rw [x1.2 20 rfl]⟩, ⟨y1.1 70 rfl, fun _ _ => ⟨by rw [y1.2 67 rfl], by rw [y1.2 68 rfl], by rw [y1.2 69 rfl]⟩⟩, by omega, fun q => ⟨y1.1 55 rfl, fun mu A h1 h2 => ?_⟩⟩
  · unfold CU at D1 ⊢
    rw [x1.1 9 rfl, y1.1 42 rfl, x1.1 10 rfl, y1.1 43 rfl, x1.1 14 rfl, y1.1 44 rfl, x1.1 11 rfl, x1.1 12 rfl, x1.1 13 rfl, x1.2 90 rfl, x1.2 91 rfl, x1.2 92 rfl]
    exact D1
  · rw [y1.1 47 rfl]; exact D2
  · rw [x1.1 43 rfl]; exact D3
  · rw [x1.1 47 rfl]; exact D4
  · rw [x1.1 21 rfl]; exact D5
  · rw [x1.1 21 rfl, y1.2 6 rfl]; exact D6
  · rw [y1.1 70 rfl]; exact D9
  · rw [x1.1 10 rfl]; omega
  · have z := hp q
    refine (JX.rf h1 h2).op (n := ws.length) (m.sn D8) (c.wn z D7) (fun k hk => y3 k (Nat.ne_of_lt hk)) (x3 z).2.1 ?_
    rw [y4, y5, y6]
    exact ho q
/-- room for words that come now -/
theorem jAl.room {m : Int} (S : jS X p N K n q nf t Fc Gc Fm Gm) (h : jAl X p N i j d κ s s1 hs Fc Gc Fm Gm F1 G1 F2 G2) (hB : (Fc 6).toInt ≤ 2 * (Gm 6 i).toInt + 100) (hm : κ + m ≤ 290) : jRm m F1 := by
  obtain ⟨a1, a3, a4, a5, a6, a7, a8, a9⟩ := h
  have e7 : F1 7 = Fc 7 := a1.1.1 7 rfl
  have pl := (a3.1.place (S.keep a1.1 a1.2).1).2.1
  have pq := (a3.1.place (S.keep a1.1 a1.2).1).2.2
  have e6 : G2 6 = Gm 6 := a1.2.2 6 rfl
  rw [pq, e6] at pl
  rcases S.2.1 with z | z
  · exact .inl (by rw [e7, S.2.2.1.2.2, z])
  · exact .inr ⟨by rw [e7, S.2.2.1.2.2, z], a3.2.2.2.1, by omega⟩
theorem jAl.cap (S : jS X p N K n q nf t Fc Gc Fm Gm) (h : jAl X p N i j d κ s s1 hs Fc Gc Fm Gm F1 G1 F2 G2) (hB : (Fc 6).toInt ≤ 2 * (Gm 6 i).toInt + 100) (hm : κ ≤ 290) : (F1 6).toInt ≤ 8400 := by
  obtain ⟨a1, a3, a4, a5, a6, a7, a8, a9⟩ := h
  have pl := (a3.1.place (S.keep a1.1 a1.2).1).2.1
  have pq := (a3.1.place (S.keep a1.1 a1.2).1).2.2
  have e6 : G2 6 = Gm 6 := a1.2.2 6 rfl
  rw [pq, e6] at pl
  omega
theorem jAl.ca (h : jAl X p N i j d κ s s1 hs Fc Gc Fm Gm F1 G1 F2 G2) (e : d = d1) (k : κ ≤ κ1) : jAl X p N i j d1 κ1 s s1 hs Fc Gc Fm Gm F1 G1 F2 G2 := by
  rw [← e]
  exact h.le k
end JE1
