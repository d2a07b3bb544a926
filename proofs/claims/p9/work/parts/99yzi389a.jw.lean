/-- how a told name of a function may end -/
def jOd (X : JCX) (p : Int32) (N K n q nf i : Nat) (Fc : PF) (Gc : PG) (Fm : PF) (Gm : PG) (r2 : Int32) (F1 : PF) (G1 : PG) (F2 : PF) (G2 : PG) : Prop :=
  (r2 = 1 ∧ ∃ (Y : JCX) (t1 j : Nat), jV Y p N K n q nf t1 j F1 G1 F2 G2 ∧ jW X Y p N i j 0 0 [] [] [] [] Fc Gc Fm Gm F1 G1 F2 G2 ∧ i + 2 ≤ j ∧ (F2 15 = Fm 15 ∧ F2 51 = Fm 51) ∧ (F2 63 = Fm 63 ∧ F1 30 = Fc 30) ∧ F2 64 = Fm 64 ∧ F1 31 = Fc 31) ∨ jEnd F1 F2
theorem JP.pL {a b : PR} {V : Int32 → PF → PG → Prop} {Q : Int32 → PF → PG → Int32 → PF → PG → Prop} (h : PP a V) (k : ∀ (r : Int32) (F : PF) (G : PG), V r F G → JP (some (r, F, G)) b Q) : JP a b Q := fun r1 F1 G1 r2 F2 G2 e1 e2 => k r1 F1 G1 (h r1 F1 G1 e1) r1 F1 G1 r2 F2 G2 rfl e2
section JW9A
variable {fu : Nat} {X Y : JCX} {p : Int32} {N K n q nf t i j i0 : Nat} {d κ : Int} {s s0 s1 : SH} {hs : List JHO} {ls : List (Nat × Nat × SH)} {cid pl x1 x3 x4 r : Int32} {Fa Fb Fc Fm F1 F2 F3 F4 F5 F6 F7 F8 F2' : PF} {Ga Gb Gc Gm G1 G2 G3 G4 G5 G6 G7 G8 : PG}
/-- told in this scope already, for both -/
theorem jTH (a : jSA K q nf Fc Gc Fm Gm) (e : jSE X.2.1 X.2.2.1 K q t Fc Gc Fm Gm) (su : jSU nf t Gm) (h1 : 1 ≤ (Fm 15).toInt) (hr : jLa (Gc 33) (q + t) (Gm 5 x1.toNatClampNeg) r) : jTw nf t x1 Fm Gm ↔ jHre (q + t) (Fc 42) pl r Gc := by
  obtain ⟨a1, a2, a3, a4, a5⟩ := a
  obtain ⟨e1, e2, e3, e4, e5, e6⟩ := e
  refine ⟨fun h => ?_, fun h => ?_⟩
  · rcases h with ⟨k, k1, k2, k3⟩ | ⟨z, -⟩
    · have ik := (e6 k k1).1.trans k3
      rcases hr with ⟨r1, r2⟩ | ⟨j, r1, r2, r3, r4⟩
      · exact absurd ik (r2 (q + k) (by omega))
      · have jk : q + k ≤ j := by
          rcases Nat.lt_or_ge j (q + k) with z | z
          · exact absurd ik (r4 (q + k) z (by omega))
          · exact z
        obtain ⟨w1, w2, w3, w4, w5, w6⟩ := e6 (j - q) (by omega)
        rw [show q + (j - q) = j by omega] at w1 w2 w3 w6
        have s1 := su.1 k (j - q) (by omega) (by omega)
        refine ⟨j, r1, r2, ?_, fun z => w6.no4 z.1⟩
        rw [w2, e4]
        refine i_eq.mpr ?_
        rw [k2] at s1
        have := w5.2
        omega
    · rw [z] at h1
      exact absurd h1 (by decide)
  · obtain ⟨j, j1, j2, j3, -⟩ := h
    have jq : q ≤ j := by
      rcases Nat.lt_or_ge j q with z | z
      · have := (a4 j z).2.1
        rw [this, e4] at j3
        rw [← j3] at h1
        exact absurd h1 (by decide)
      · exact z
    obtain ⟨w1, w2, -⟩ := e6 (j - q) (by omega)
    rw [show q + (j - q) = j by omega] at w1 w2
    refine .inl ⟨j - q, by omega, ?_, ?_⟩
    · rw [← w2, j3, e4]
    · rcases hr with ⟨r1, r2⟩ | ⟨j', r1, r2, r3, r4⟩
      · rw [r1] at j2
        exact absurd j2.symm (nI_n1 (by omega))
      · have : j' = j := nI_ij (r2.symm.trans j2) (by omega) (by omega)
        rw [this] at r3
        rw [← w1]
        exact r3
theorem jTw.kx (h : jTw nf t x1 F2 G2) (e15 : F2 15 = F1 15) (e19 : G2 19 = G1 19) (e16 : G2 16 = G1 16) (e5 : G2 5 = G1 5) (e25 : G2 25 = G1 25) (e26 : G2 26 = G1 26) (e6 : G2 6 = G1 6) : jTw nf t x1 F1 G1 := by
  unfold jTw at h ⊢
  rw [e15, e19, e16, e5, e25, e26, e6] at h
  exact h
theorem jW.st2 (h : jW X Y p N i j d κ s s1 hs ls Fc Gc Fm Gm F1 G1 F2 G2) (kc : KX jXs jYs F1 G1 F3 G3) (kc0 : p = 0 → KX jX0 jYk F1 G1 F3 G3) (km : KX jZs jWs F2 G2 F4 G4) (e10 : F3 10 = F1 10) (e6 : F3 6 = F1 6) (e5 : G3 5 = G1 5) (e60 : F4 60 = F2 60) (e56 : ∀ k : Nat, 56 ≤ k → k ≤ 59 → G4 k = G2 k) (pe1 : p = 1 → jPe F1 G1 F2 G2 F3 G3 F4 G4) : jW X Y p N i j d κ s s1 hs ls Fc Gc Fm Gm F3 G3 F4 G4 := by
  obtain ⟨a0, ⟨a1, a2⟩, a4, a5, a6, a7, pe, a8⟩ := h
  exact ⟨a0, ⟨KX.tr a1 kc rfl rfl, KX.tr a2 km rfl rfl⟩, a4, by rw [e10]; exact a5, by rw [e6]; exact a6, fun z => KX.tr (a7 z) (kc0 z) rfl rfl, fun z => (pe z).tr (pe1 z), fun z mu A h1 h2 => (a8 z mu A h1 h2).st e60 e56 e6 e5⟩
/-- a step that tells: what both write for it -/
def jDO (X : JCX) (x : Nat × Nat) (w a b : Int32) (c : Nat → Int32) (s0 : SH) (n : Nat) : Prop := a = nI (jsC X.2.2.1) ∧ c 1 = nI (4 + jsW X.2.2.1) ∧ ((x = (0, 1) ∧ w = 2 ∧ c 0 = 72 ∧ n = 2 ∧ s0 = [0]) ∨ ((x.1 = 1 ∨ x.1 = 2) ∧ w = 22 ∧ b = nI x.2 ∧ c 0 = 73 ∧ c 2 = nI (joW x) ∧ n = 3 ∧ s0 = []))
/-- one more is told: what was told stands -/
theorem jPe.new {c t : Nat} {y1 y2 y3 y4 y5 x1 x2 x3 x4 x5 x6 : Int32} {F2' : PF} (ins : jIns c y1 y2 y3 y4 y5 F7 G7 F1 G1) (de : jDe t x1 x2 x3 x4 x5 x6 F8 G8 F2' G2) (k53 : KX [53] [] F2' G2 F2 G2) (h41 : (F7 41).toInt = c) (h14 : (F8 14).toInt = t) : jPe F7 G7 F8 G8 F1 G1 F2 G2 := by
  obtain ⟨k1, k2, k3, -⟩ := ins
  obtain ⟨l1, l2, l3, -, -, -, d4, -⟩ := de
  have e14 : F2 14 = F2' 14 := k53.1 14 rfl
  have e15 : F2 15 = F8 15 := (k53.1 15 rfl).trans (l1.1 15 rfl)
  refine ⟨⟨by rw [e14]; omega, fun k a hk l u => ?_⟩, ⟨by omega, fun k a hk l u => ?_⟩, by rw [e15]; exact Int.le_refl _, fun k h1 h2 => ?_⟩
  · obtain ⟨y1, y2, y3, y4, y5, y6, y7, y8⟩ := l3 k (by omega)
    rcases (show a = 16 ∨ a = 17 ∨ a = 18 ∨ a = 19 ∨ a = 20 ∨ a = 21 ∨ a = 22 ∨ a = 23 by omega) with z | z | z | z | z | z | z | z <;> rw [z] <;> assumption
  · obtain ⟨y1, y2, y3, y4, y5, y6, -⟩ := k3 k (by omega)
    rcases (show a = 33 ∨ a = 34 ∨ a = 35 ∨ a = 36 ∨ a = 37 ∨ a = 38 by omega) with z | z | z | z | z | z <;> rw [z] <;> assumption
  · rw [e14] at h2
    rw [show k = t by omega, d4]
    exact Int.le_refl _
/-- a name of a function is told: code, symbols, room -/
theorem jd_asm {x : Nat × Nat} {ws : List Int32} {sw sa sb w ck cv cz mk b3 mc mz b6 : Int32} (V : jV X p N K n q nf t i Fc Gc Fm Gm) (VA : jV X p N K n q nf t i0 Fa Ga Fb Gb) (hW : jW X X p N i j 0 κ [] s0 [] [] Fc Gc Fm Gm F5 G5 F6 G6) (S5 : jS X p N K n q nf t F5 G5 F6 G6) (D5 : jD N j F5 G5 F6 G6) (kc5 : KX jXd jYk Fa Ga F5 G5) (km5 : KX jZt jWk Fb Gb F6 G6) (e46 : F5 46 = 0) (e54 : F6 54 = 0) (xb : jXB F5) (hκ : κ + ws.length ≤ 0) (hij : i0 ≤ j) (ij : i + 2 ≤ j)
    (ch : F6 63 = Fm 63 ∧ F5 30 = Fc 30 ∧ F6 64 = Fm 64 ∧ F5 31 = Fc 31 ∧ F6 15 = Fm 15 ∧ F6 51 = Fm 51)
    (c7 : EMC ws (fup F5 50 (F5 50 + w)) G5 F7 G7) (m8 : EMM sw sa sb F6 G6 F8 G8) (ho : p = 1 → jDO X x sw sa sb (fun k => G7 5 (wN (fup F5 50 (F5 50 + w)) + k)) s0 ws.length)
    (ins : p = 1 → jIns (q + t) cid pl ck cv cz F7 G7 F1 G1) (ins0 : p = 0 → F1 = F7 ∧ G1 = G7) (de : p = 1 → jDe t x1 mk b3 mc mz b6 F8 G8 F2' G2) (de0 : p = 0 → F2' = F8 ∧ G2 = G8) (k53 : KX [53] [] F2' G2 F2 G2)
    (tok : p = 1 → i0 = i + 2 ∧ cid = Gm 5 x1.toNatClampNeg ∧ pl = Gm 6 x1.toNatClampNeg ∧ 0 ≤ cid.toInt ∧ cid.toInt < K ∧ jDc (Gm 4) (Gm 5) (i + 1) ∧ ¬ Gm 5 (i + 2) = 22) (nt : p = 1 → ¬ jTw nf t x1 Fb Gb) (en : p = 1 → jEN X.2.1 (X.2.2.1 ++ [x]) ck cv cz (Fb 15) mk mc mz (vp_nar .boolean b3) (vp_nar .boolean b6))
    (own : p = 1 → (F2 53).toInt = jsC (X.2.2.1 ++ [x]) ∧ F1 50 = F2 52 ∧ (F1 49).toInt + (F1 50).toInt = jsW (X.2.2.1 ++ [x]) ∧ 0 ≤ (F2 52).toInt ∧ (F2 52).toInt ≤ 200) : jOd X p N K n q nf i Fc Gc Fm Gm 1 F1 G1 F2 G2 := by
  have u : jUp X (X.1, X.2.1, X.2.2.1 ++ [x], X.2.2.2) := ⟨rfl, ⟨[], (List.append_nil _).symm⟩, ⟨[x], rfl⟩, rfl⟩
  have kf : KX [50] [] F5 G5 (fup F5 50 (F5 50 + w)) G5 := KX.f rfl KX.rf
  generalize eF : fup F5 50 (F5 50 + w) = Fe at c7 ho kf
  have D5' : jD N j Fe G5 F6 G6 := D5.mv (KX.tr KX.rf kf rfl rfl) KX.rf
  have S5' : jS X p N K n q nf t Fe G5 F6 G6 := S5.keepV (KX.tr KX.rf kf rfl rfl) KX.rf (kf.1 46 rfl) rfl
  have h7 : (Fe 7 = 0 ∨ Fe 7 = 1) ∧ (p = 1 → Fe 7 = 1) := by
    rw [S5'.2.2.1.2.2]
    exact ⟨S5'.2.1, id⟩
  have hp := S5.2.1
  have w4 := hW.st (KX.tr KX.rf kf rfl rfl) KX.rf (kf.1 10 rfl) (kf.1 6 rfl) rfl rfl (fun _ _ _ => rfl) (fun _ => jPe.of (z := []) (w := []) kf KX.rf rfl rfl)
  have hX := V.2.1.1
  have w5D : jW X (X.1, X.2.1, X.2.2.1 ++ [x], X.2.2.2) p N i j 0 (κ + ws.length) [] [] [] [] Fc Gc Fm Gm F7 G7 F8 G8 ∧ jD N j F7 G7 F8 G8 := by
    refine jW.emD (Y := X) ⟨u, rfl⟩ S5' w4 D5' c7 m8 (fun z z7 mu A J => ?_)
    have en := m8.sn D5'.2.2.2.2.1
    have ew := c7.wn z7 D5'.2.2.2.1
    obtain ⟨q1, q2, ⟨q3, q4, q5, q6, q7⟩ | ⟨q3, q4, q5, q6, q7, q8, q9⟩⟩ := ho z
    · rw [q7] at J
      rw [q6] at ew
      refine JX.decl (X := X) hX ?_ J en ew (fun k hk => m8.2.2.1 k (Nat.ne_of_lt hk)) (c7.2.2 z7).2.1 (m8.2.2.2.1.trans q4) (m8.2.2.2.2.1.trans q1) q5 q2
      rw [q3]
    · rw [q9] at J
      rw [q8] at ew
      have hjw : joW x ≤ 200 := by
        obtain ⟨-, ⟨v1, v2, v3, v4, v5, v6, v7⟩, -⟩ := VA.2.2.2.2.2 z
        obtain ⟨o1, o2, o3, o4, o5⟩ := own z
        have e49 : F1 49 = Fa 49 := ((ins z).1.1 49 rfl).trans ((c7.1.1 49 rfl).trans ((kf.1 49 rfl).trans (kc5.1 49 rfl)))
        have jw : jsW (X.2.2.1 ++ [x]) = jsW X.2.2.1 + joW x := by rw [jsW_app]; rfl
        rw [e49, o2, jw] at o3
        rw [v2] at v3
        omega
      exact JX.declA (X := X) (κ := x.1) (m := x.2) hX q3 hjw rfl J en ew (fun k hk => m8.2.2.1 k (Nat.ne_of_lt hk)) (c7.2.2 z7).2.1 (m8.2.2.2.1.trans q4) (m8.2.2.2.2.1.trans q1) (m8.2.2.2.2.2.trans q5) q6 q2 q7
  obtain ⟨w5, D7⟩ := w5D
  have kc1 : KX [41] [33, 34, 35, 36, 37, 38, 39, 40] F7 G7 F1 G1 := by
    rcases hp with z | z
    · obtain ⟨y1, y2⟩ := ins0 z
      rw [y1, y2]
      exact KX.rf
    · exact (ins z).1
  have kc10 : p = 0 → KX [] [] F7 G7 F1 G1 := by
    intro z
    obtain ⟨y1, y2⟩ := ins0 z
    rw [y1, y2]
    exact KX.rf
  have km1 : KX [14, 53] [16, 17, 18, 19, 20, 21, 22, 23] F8 G8 F2 G2 := by
    rcases hp with z | z
    · obtain ⟨y1, y2⟩ := de0 z
      rw [y1, y2] at k53
      rw [y2]
      exact KX.tr KX.rf k53 rfl rfl
    · exact KX.tr (KX.tr KX.rf (de z).1 rfl rfl) k53 rfl rfl
  have kc7 : KX jXd jYk Fe G5 F7 G7 := KX.tr KX.rf c7.1 rfl rfl
  have km8 : KX jZd jWk F6 G6 F8 G8 := KX.tr KX.rf m8.1 rfl rfl
  have S7 : jS X p N K n q nf t F7 G7 F8 G8 := S5'.keepV (KX.tr KX.rf kc7 rfl rfl) (KX.tr KX.rf km8 rfl rfl) (c7.1.1 46 rfl) (m8.1.1 54 rfl)
  have w6 := w5.st2 (KX.tr KX.rf kc1 rfl rfl) (fun z => KX.tr KX.rf (kc10 z) rfl rfl) (KX.tr KX.rf km1 rfl rfl) (kc1.1 10 rfl) (kc1.1 6 rfl) (kc1.2 5 rfl) (km1.1 60 rfl) (KX.c km1 rfl rfl rfl rfl) (fun z => jPe.new (ins z) (de z) k53 (by have := (S7.2.2.2.2.2 z).2.2.1.2.1; omega) (S7.2.2.2.2.2 z).2.2.1.1)
  have kcA : KX jXt jYs Fa Ga F1 G1 := KX.tr (KX.tr (KX.tr (KX.tr KX.rf kc5 rfl rfl) kf rfl rfl) c7.1 rfl rfl) kc1 rfl rfl
  have kcA0 : p = 0 → KX jXu jYk Fa Ga F1 G1 := fun z => KX.tr (KX.tr (KX.tr (KX.tr KX.rf kc5 rfl rfl) kf rfl rfl) c7.1 rfl rfl) (kc10 z) rfl rfl
  have kmA : KX jZt jWs Fb Gb F2 G2 := KX.tr (KX.tr (KX.tr KX.rf km5 rfl rfl) m8.1 rfl rfl) km1 rfl rfl
  have g4 : G8 4 = Gm 4 := (m8.1.2 4 rfl).trans (hW.2.1.2.2 4 rfl)
  have g5 : G8 5 = Gm 5 := (m8.1.2 5 rfl).trans (hW.2.1.2.2 5 rfl)
  have g6 : G8 6 = Gm 6 := (m8.1.2 6 rfl).trans (hW.2.1.2.2 6 rfl)
  have b8 : F8 15 = Fb 15 := (m8.1.1 15 rfl).trans (km5.1 15 rfl)
  refine .inl ⟨rfl, _, t + 1, j, jV.dcl (x := x) (n0 := i + 1) VA S7 D7 ?_ ins ins0 de de0 k53 kcA kcA0 kmA ?_ ?_ ?_ hij (fun z => ?_) (fun z => ?_) (fun z => ?_) own, w6.ca (by omega) (by omega), ij, ⟨?_, ?_⟩, ⟨?_, ?_⟩, ?_, ?_⟩
  · have := w5.2.2.2.2.1
    have := V.1.2.2
    rw [g6]
    omega
  · rw [kc1.1 46 rfl, c7.1.1 46 rfl, kf.1 46 rfl]
    exact e46
  · rw [km1.1 54 rfl, m8.1.1 54 rfl]
    exact e54
  · exact ((xb.kx kf rfl).kx c7.1 rfl).kx kc1 rfl
  · obtain ⟨t0, t1, t2, t3, t4, t5, t6⟩ := tok z
    rw [g4, g5, g6]
    exact ⟨by omega, by omega, t1, t2, t3, t4, t5, t6, (V.2.2.2.2.2 z).2.2.le (Nat.le_succ _)⟩
  · exact fun y => nt z (y.kx b8 ((m8.1.2 19 rfl).trans (km5.2 19 rfl)) ((m8.1.2 16 rfl).trans (km5.2 16 rfl)) ((m8.1.2 5 rfl).trans (km5.2 5 rfl)) ((m8.1.2 25 rfl).trans (km5.2 25 rfl)) ((m8.1.2 26 rfl).trans (km5.2 26 rfl)) ((m8.1.2 6 rfl).trans (km5.2 6 rfl)))
  · rw [b8]
    exact en z
  · rw [km1.1 15 rfl, m8.1.1 15 rfl]; exact ch.2.2.2.2.1
  · rw [km1.1 51 rfl, m8.1.1 51 rfl]; exact ch.2.2.2.2.2
  · rw [km1.1 63 rfl, m8.1.1 63 rfl]; exact ch.1
  · rw [kc1.1 30 rfl, c7.1.1 30 rfl, kf.1 30 rfl]; exact ch.2.1
  · rw [km1.1 64 rfl, m8.1.1 64 rfl]; exact ch.2.2.1
  · rw [kc1.1 31 rfl, c7.1.1 31 rfl, kf.1 31 rfl]; exact ch.2.2.2.1
/-- both stand behind the name that is told -/
def jNm (X : JCX) (p : Int32) (N K n q nf t i : Nat) (cid pl x3 : Int32) (Fc : PF) (Gc : PG) (Fm : PF) (Gm : PG) (Fa : PF) (Ga : PG) (Fb : PF) (Gb : PG) : Prop := jV X p N K n q nf t i Fc Gc Fm Gm ∧ jAl X p N i (i + 2) 0 (-4) [] [] [] Fc Gc Fm Gm Fa Ga Fb Gb ∧ (cid = Gm 5 (i + 1) ∧ pl = Gm 6 (i + 1) ∧ x3 = nI (i + 1) ∧ i + 1 < N) ∧ (Gm 4 i = 2 ∧ (Gm 5 i = 0 ∨ Gm 5 i = 1) ∧ Gm 4 (i + 1) = 1)
theorem jNm.va (M : jNm X p N K n q nf t i cid pl x3 Fc Gc Fm Gm Fa Ga Fb Gb) : jV X p N K n q nf t (i + 2) Fa Ga Fb Gb := M.1.al M.2.1 (by omega)
theorem jNm.x3n (M : jNm X p N K n q nf t i cid pl x3 Fc Gc Fm Gm Fa Ga Fb Gb) : x3.toNatClampNeg = i + 1 := by
  obtain ⟨V, a, ⟨e1, e2, e3, e4⟩, -⟩ := M
  have := V.1.1.1.1
  rw [e3]
  exact nI_c _ (by omega)
/-- what the class knows of the name -/
theorem jNm.kn (M : jNm X p N K n q nf t i cid pl x3 Fc Gc Fm Gm Fa Ga Fb Gb) (hp : p = 1) : ∃ r : Int32, jKn K (q + t) cid pl r Fa Ga ∧ (jTw nf t x3 Fb Gb ↔ jHre (q + t) (Fa 42) pl r Ga) := by
  have VA := M.va
  have x3n := M.x3n
  obtain ⟨V, a, ⟨e1, e2, e3, e4⟩, g1, g2, g3⟩ := M
  obtain ⟨-, SA, SE, SU, SL, FT⟩ := VA.1.1.2.2.2.2.2 hp
  obtain ⟨-, y2, y3⟩ := VA.2.2.2.2.2 hp
  have tn := (V.1.1.1.2.2.2.1 (i + 1) e4).2
  have id0 := tn.1 g3
  have pl1 := tn.2.2
  have n4 := V.1.1.1.1.2.1
  have S := VA.1.1
  have tp := S.1.1.2.2
  have r6 := (y3.room tp (fun i hi => S.t1 hi) S.p0t (by have := VA.1.2.1.1.1; omega) (by rw [S.1.2.2.2.2.2.1]; have := S.1.1.2.1; omega)).1
  rw [← e1] at id0
  have q2 := SL.2.1 cid.toInt.toNat (by omega)
  rw [jnI id0.1] at q2
  have g5 : Gb 5 = Gm 5 := a.1.2.2 5 rfl
  refine ⟨_, ⟨⟨SE.2.1, by omega⟩, id0, by rw [S.2.2.1.2.1, hp]; decide, SL, q2, by rw [e2]; omega⟩, jTH SA SE SU VA.2.2.2.1.2.1 ?_⟩
  rw [x3n, g5, ← e1]
  exact q2
/-- an int: its value is there -/
theorem jd_fin {Fb' : PF} (M : jNm X p N K n q nf t i cid pl x3 Fc Gc Fm Gm Fa Ga Fb Gb) (kb : KX [52, 53] [] Fb Gb Fb' Gb) (h : jAl X p N (i + 2) j 0 κ [] [0] [] Fa Ga Fb' Gb F5 G5 F6 G6) (hκ : κ ≤ 2) (hx4 : p = 1 → x4 = Fb 53) (h52 : p = 1 → Fb' 52 = Fb 52 + 1 ∧ Fb' 53 = Fb 53 + 1 ∧ (Fb 52 + 1) ≤ 200) (nt : p = 1 → ¬ jTw nf t x3 Fb Gb) (sb : p = 1 → Gm 4 (i + 2) = 4 ∧ ¬ Gm 5 (i + 2) = 22) : JP (cf_X4_localInt fu cid pl F5 G5) (mb_tellHere_326 fu x3 x4 F6 G6) (fun _ F1 G1 r2 F2 G2 => jOd X p N K n q nf i Fc Gc Fm Gm r2 F1 G1 F2 G2) := by
  have VA := M.va
  have x3n := M.x3n
  have KN := M.kn
  obtain ⟨V, a, ⟨e1, e2, e3, e4⟩, g1, g2, g3⟩ := M
  have hX := V.2.1.1
  have hp := V.1.1.2.1
  have SB : jS X p N K n q nf t Fa Ga Fb' Gb := VA.1.1.keepV KX.rf (KX.tr KX.rf kb rfl rfl) rfl (kb.1 54 rfl)
  have S5 := SB.keep h.1.1 h.1.2
  have D5 := h.2.1
  have rm : jRm 2 F5 := h.room (m := 2) SB VA.1.2.2 (by omega)
  have w1 := jW.al a
  have w2 := w1.st KX.rf (KX.tr KX.rf kb rfl rfl) rfl rfl rfl (kb.1 60 rfl) (fun _ _ _ => rfl) (fun _ => jPe.of (x := []) (y := []) KX.rf kb rfl rfl)
  have w3 := w2.tr (jW.al h)
  have kc5 : KX jXd jYk Fa Ga F5 G5 := KX.tr KX.rf h.1.1 rfl rfl
  have km5 : KX jZt jWk Fb Gb F6 G6 := KX.tr (KX.tr KX.rf kb rfl rfl) h.1.2 rfl rfl
  have e46 : F5 46 = 0 := by rw [h.1.1.1 46 rfl]; exact VA.x0
  have e54 : F6 54 = 0 := by rw [h.1.2.1 54 rfl, kb.1 54 rfl]; exact VA.2.1.2.1
  have xb : jXB F5 := VA.2.1.2.2.kx h.1.1 rfl
  have ch : F6 63 = Fm 63 ∧ F5 30 = Fc 30 ∧ F6 64 = Fm 64 ∧ F5 31 = Fc 31 ∧ F6 15 = Fm 15 ∧ F6 51 = Fm 51 := by
    refine ⟨?_, ?_, ?_, ?_, ?_, ?_⟩
    · rw [h.1.2.1 63 rfl, kb.1 63 rfl]; exact a.1.2.1 63 rfl
    · rw [h.1.1.1 30 rfl]; exact a.1.1.1 30 rfl
    · rw [h.1.2.1 64 rfl, kb.1 64 rfl]; exact a.1.2.1 64 rfl
    · rw [h.1.1.1 31 rfl]; exact a.1.1.1 31 rfl
    · rw [h.1.2.1 15 rfl, kb.1 15 rfl]; exact a.1.2.1 15 rfl
    · rw [h.1.2.1 51 rfl, kb.1 51 rfl]; exact a.1.2.1 51 rfl
  have j2 := h.2.2.1.1
  unfold mb_tellHere_326
  rcases hp with hp0 | hp1
  · refine JP.pL (cp_lint0 (by rw [S5.2.2.1.2.1, hp0]) rm) ?_
    rintro r1 F1 G1 c7
    refine JP.R (mp_em 2 x4 0 F6 G6) ?_
    rintro r8 F8 G8 ⟨-, -, m8, -⟩
    dsimp only
    unfold mb_tellHere_334
    refine JP.R (mp_decl0 x3 1 0 x4 1 1 (by rw [m8.1.1 46 rfl, S5.2.2.1.1, hp0])) ?_
    rintro _ _ _ ⟨rfl, rfl⟩
    dsimp only
    unfold mb_tellHere_346
    have no : p = 1 → False := fun z => by rw [hp0] at z; exact absurd z (by decide)
    exact JP.ret (jd_asm (x := (0, 1)) (ws := [72, 4 + F5 49 + F5 50]) (sw := 2) (sa := x4) (sb := 0) (w := 1) (ck := 1) (cv := 0) (cz := 0) (mk := 1) (b3 := 0) (mc := 0) (mz := 1) (b6 := 1) (cid := cid) (pl := pl) (x1 := x3) (F2' := F8) V VA w3 S5 D5 kc5 km5 e46 e54 xb (by show -4 + κ + ((2 : Nat) : Int) ≤ 0; omega) j2 j2 ch c7 m8 (fun z => (no z).elim) (fun z => (no z).elim) (fun _ => ⟨rfl, rfl⟩) (fun z => (no z).elim) (fun _ => ⟨rfl, rfl⟩) KX.rf (fun z => (no z).elim) (fun z => (no z).elim) (fun z => (no z).elim) (fun z => (no z).elim))
  · obtain ⟨r, kn, th⟩ := KN hp1
    obtain ⟨b52, b53, b200⟩ := h52 hp1
    obtain ⟨-, ⟨o1, o2, o3, o4, o5, o6, o7⟩, -⟩ := VA.2.2.2.2.2 hp1
    obtain ⟨-, SA, SE, SU, SL, FT⟩ := S5.2.2.2.2.2 hp1
    have hx := hx4 hp1
    have f50 : F5 50 = Fa 50 := h.1.1.1 50 rfl
    have f49 : F5 49 = Fa 49 := h.1.1.1 49 rfl
    have f42 : F5 42 = Fa 42 := h.1.1.1 42 rfl
    have nh : ¬ jHre (q + t) (F5 42) pl r G5 := fun y => by
      refine nt hp1 (th.mpr ?_)
      unfold jHre at y ⊢
      rw [f42, h.1.1.2 34 rfl, h.1.1.2 35 rfl, h.1.1.2 36 rfl] at y
      exact y
    refine JP.pL (cp_lintG (kn.kx h.1.1 rfl rfl) nh (by rw [f50, o2]; exact b200) rm) ?_
    rintro r1 F1 G1 ⟨F7, G7, c7, ins⟩
    refine JP.R (mp_em 2 x4 0 F6 G6) ?_
    rintro r8 F8 G8 ⟨-, -, m8, -⟩
    dsimp only
    unfold mb_tellHere_334
    have t9 := SE.2.2.1
    refine JP.R (mp_decl (t := t) x3 1 0 x4 1 1 (by rw [m8.1.1 14 rfl]; exact SE.1) (by omega) (by rw [m8.1.1 46 rfl, S5.2.2.1.1, hp1]; decide)) ?_
    rintro _ F2 G2 de
    dsimp only
    unfold mb_tellHere_346
    have c4 := jsC_4 X.2.2.1
    have o2' : (Fa 50).toInt = (Fb 52).toInt := by rw [o2]
    have l4 : (4 : Int32).toInt = 4 := rfl
    have v1 : (4 + F5 49).toInt = 4 + (Fa 49).toInt := by
      rw [f49]
      have := i_addn (4 : Int32) (n := Fa 49) (m := (Fa 49).toInt) rfl (by omega) (by omega)
      omega
    have v2 : (4 + F5 49 + F5 50).toInt = 4 + (jsW X.2.2.1 : Int) := by
      have := i_addn (4 + F5 49) (n := F5 50) (m := (F5 50).toInt) rfl (by rw [f50]; omega) (by rw [f50]; omega)
      rw [this, v1, f50]
      omega
    have ev : 4 + F5 49 + F5 50 = nI (4 + jsW X.2.2.1) := i_eq.mpr (by rw [v2, nI_toInt (by omega)]; omega)
    have ex : x4 = nI (jsC X.2.2.1) := i_eq.mpr (by rw [hx, nI_toInt (by omega)]; exact o1)
    have n15 : ¬ Fb 15 = 0 := fun y => by
      have := VA.2.2.2.1.2.1
      rw [y] at this
      exact absurd this (by decide)
    have jc : jsC (X.2.2.1 ++ [(0, 1)]) = jsC X.2.2.1 + 1 := jsC_app _ _
    have jw : jsW (X.2.2.1 ++ [(0, 1)]) = jsW X.2.2.1 + 1 := jsW_app _ _
    have q52 : (Fb 52 + 1).toInt = (Fb 52).toInt + 1 := i_addn _ rfl (by omega) (by omega)
    have q53 : (Fb 53 + 1).toInt = (Fb 53).toInt + 1 := i_addn _ rfl (by omega) (by omega)
    have l200 : (200 : Int32).toInt = 200 := rfl
    have b2 := i_le.mp b200
    have g4 : Gb 4 = Gm 4 := a.1.2.2 4 rfl
    have id0 := kn.2.1
    have f1 : F1 50 = Fa 50 + 1 := by
      rw [ins.1.1 50 rfl, c7.1.1 50 rfl, fup_s, f50]
    have f2 : F1 49 = Fa 49 := by
      rw [ins.1.1 49 rfl, c7.1.1 49 rfl, fup_n (by decide), f49]
    have f3 : F2 52 = Fb 52 + 1 := by
      rw [de.1.1 52 rfl, m8.1.1 52 rfl, h.1.2.1 52 rfl, b52]
    have f4 : F2 53 = Fb 53 + 1 := by
      rw [de.1.1 53 rfl, m8.1.1 53 rfl, h.1.2.1 53 rfl, b53]
    have z7 : fup F5 50 (F5 50 + 1) 7 = 1 := by rw [fup_n (by decide), S5.2.2.1.2.2, hp1]
    refine JP.ret (jd_asm (x := (0, 1)) (ws := [72, 4 + F5 49 + F5 50]) (sw := 2) (sa := x4) (sb := 0) (w := 1) (F2' := F2) V VA w3 S5 D5 kc5 km5 e46 e54 xb (by show -4 + κ + ((2 : Nat) : Int) ≤ 0; omega) j2 j2 ch c7 m8 (fun _ => ?_) (fun _ => ins) (fun z => ?_) (fun _ => de) (fun z => ?_) KX.rf (fun _ => ?_) nt (fun _ => ?_) (fun _ => ?_))
    · exact ⟨ex, ((c7.2.2 z7).2.2 1 _ rfl).trans ev, .inl ⟨rfl, rfl, (c7.2.2 z7).2.2 0 72 rfl, rfl, rfl⟩⟩
    · rw [hp1] at z
      exact absurd z (by decide)
    · rw [hp1] at z
      exact absurd z (by decide)
    · rw [x3n]
      exact ⟨rfl, e1, e2, id0.1, id0.2, ⟨by omega, g1, g2.elim .inl (fun y => .inr (.inl y)), g3, (sb hp1).1⟩, (sb hp1).2⟩
    · exact .inr (.inl ⟨rfl, rfl, by decide, .inr ⟨n15, by decide, jsC X.2.2.1, jsW X.2.2.1, jAt.new _ _, ex, ev⟩⟩)
    · rw [f1, f2, f3, f4, jc, jw, o2]
      exact ⟨by omega, rfl, by rw [q52]; omega, by omega, by omega⟩
end JW9A
