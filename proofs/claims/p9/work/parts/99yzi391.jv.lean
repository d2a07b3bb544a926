abbrev jXT : List Nat := [6, 9, 10, 11, 12, 13, 14, 21, 30, 31, 43, 44, 46, 47, 56, 57, 75, 300]
abbrev jYT : List Nat := [5, 20, 55, 86]
abbrev jZT : List Nat := [36, 37, 42, 43, 44, 45, 47, 48, 49, 50, 51, 52, 53, 54, 55, 60, 61, 62, 63, 64, 65, 66, 70, 72]
abbrev jWT : List Nat := [38, 39, 40, 41, 56, 57, 58, 59, 67, 68, 69, 71]
/-- how many commas stand among the m tokens from z on -/
def jCm (k v : Nat → Int32) (z : Nat) : Nat → Nat
  | 0 => 0
  | m + 1 => jCm k v z m + (if k (z + m) = 4 ∧ v (z + m) = 28 then 1 else 0)
/-- c FORMALs stand from z on -/
def jNF (k v : Nat → Int32) (z c : Nat) : Prop := ∃ m : Nat, (∀ y : Nat, y < m → ¬ (k (z + y) = 4 ∧ v (z + y) = 23)) ∧ (k (z + m) = 4 ∧ v (z + m) = 23) ∧ ((m = 0 ∧ c = 0) ∨ (0 < m ∧ c = jCm k v z m + 1))
theorem jNF.one {k v : Nat → Int32} {z c d : Nat} (h : jNF k v z c) (h1 : jNF k v z d) : c = d := by
  obtain ⟨m, a1, a2, a3⟩ := h
  obtain ⟨l, b1, b2, b3⟩ := h1
  have e : m = l := by
    rcases Nat.lt_trichotomy m l with w | w | w
    · exact absurd a2 (b1 m w)
    · exact w
    · exact absurd b2 (a1 l w)
  subst e
  rcases a3 with ⟨x1, x2⟩ | ⟨x1, x2⟩ <;> rcases b3 with ⟨y1, y2⟩ | ⟨y1, y2⟩ <;> omega
def jKf (G : PG) (f : Nat) : List Nat := (List.range (G 27 f).toInt.toNat).map (fun j => (G 34 ((G 31 f).toInt.toNat + j)).toInt.toNat)
/-- the functions, and where their names stand -/
def jPO (N nf : Nat) (φ : Nat → Nat) (G : PG) : Prop := (∀ g : Nat, g < nf → (jDc (G 4) (G 5) (φ g) ∧ φ g < N ∧ G 5 (φ g + 1) = 22) ∧ (G 25 g = G 5 (φ g) ∧ G 26 g = G 6 (φ g)) ∧ ((G 5 (φ g - 1) = 0 ∧ G 33 g = 0) ∨ (G 5 (φ g - 1) = 2 ∧ G 33 g = 1)) ∧ (G 32 g = -1 ↔ (G 4 (φ g + 2) = 4 ∧ G 5 (φ g + 2) = 23)) ∧ ∃ c : Nat, G 27 g = nI c ∧ jNF (G 4) (G 5) (φ g + 2) c ∧ jNL (G 4) (G 5) (φ g + 2) (jKf G g)) ∧ ∀ a b : Nat, a < b → b < nf → φ a < φ b
/-- the first pass, f functions behind it -/
def jT0 (K q f i : Nat) (φ : Nat → Nat) (Fc : PF) (Gc : PG) (Fm : PF) (Gm : PG) : Prop := ((Fc 41).toInt = q ∧ q ≤ f) ∧ jSA K q f Fc Gc Fm Gm ∧ jSL K q Gc ∧ jFT f (jKf Gm) Fc Gc Gm ∧ (Fc 85 = Fm 35 ∧ 0 ≤ (Fm 35).toInt) ∧ (9 * (f : Int) ≤ (Gm 6 i).toInt ∧ 6 * (Fm 35).toInt ≤ (Gm 6 i).toInt) ∧ ∀ g : Nat, g < f → φ g < i ∧ (Gm 31 g).toInt + (Gm 27 g).toInt ≤ (Fm 35).toInt
/-- the second pass -/
def jT1 (X : JCX) (N q nf t i f : Nat) (Fc : PF) (Gc : PG) (Fm : PF) (Gm : PG) : Prop := jPl N q nf t i (Gm 4) (Gm 5) ∧ (∀ g : Nat, g < f → Gc 79 g = Gm 28 g) ∧ ∀ g : Nat, g < f → jFC X.2.1 X.2.2.2 g (sN Fm) (wN Fc) Gc Gm
/-- between two TOLDs -/
def jGs (X : JCX) (p : Int32) (N K n q nf t i f : Nat) (φ : Nat → Nat) (Fc : PF) (Gc : PG) (Fm : PF) (Gm : PG) : Prop :=
  jIn X p N K n q nf t i Fc Gc Fm Gm ∧ (X.1 = false ∧ X.2.2.1 = [] ∧ Fm 54 = 0 ∧ jXB Fc) ∧ (Fc 29 = 0 ∧ Fc 42 = 0 ∧ Fm 15 = 0) ∧ (Fc 28 = nI f ∧ f ≤ nf) ∧ jPO N nf φ Gm ∧ (p = 0 → nf = f ∧ jT0 K q f i φ Fc Gc Fm Gm) ∧ (p = 1 → jT1 X N q nf t i f Fc Gc Fm Gm)
/-- WORDs told so far -/
def jWd (X : JCX) (Fc : PF) (Gc : PG) (Fm : PF) (Gm : PG) : Prop := Fm 36 = Fc 75 ∧ (Fc 75).toInt = jsW X.2.1 ∧ (Fm 37).toInt = jsC X.2.1 ∧ jsW X.2.1 ≤ 2000 ∧ jF0 X.2.1 (Gc 86) (Gm 41) ∧ jL0 X.2.1 (Gm 38) (Gm 39) (Gm 40)
section JV1
variable {fu : Nat} {X Y : JCX} {p : Int32} {N K n q nf t i j f n0 : Nat} {φ : Nat → Nat} {d κ : Int} {s s1 : SH} {hs : List JHO} {cid pl x1 x3 r : Int32} {Fa Fb Fc Fm F1 F2 F3 F4 F5 : PF} {Ga Gb Gc Gm G1 G2 G3 G4 G5 : PG}
theorem jS.keepT (h : jS X p N K n q nf t Fc Gc Fm Gm) (kc : KX jXT jYT Fc Gc F1 G1) (km : KX jZT jWT Fm Gm F2 G2) (e46 : F1 46 = Fc 46) (e54 : F2 54 = Fm 54) : jS X p N K n q nf t F1 G1 F2 G2 := by
  obtain ⟨h1, h2, h3, h4, h5, h6⟩ := h
  refine ⟨h1.keep (kc.1 93 rfl) (kc.2 90 rfl) (kc.2 91 rfl) (kc.2 92 rfl) (km.1 7 rfl) (km.1 8 rfl) (km.2 4 rfl) (km.2 5 rfl) (km.2 6 rfl), h2, ?_, ?_, ?_, ?_⟩
  · rw [km.1 46 rfl, kc.1 45 rfl, kc.1 7 rfl]
    exact h3
  · rw [e54, e46]
    exact h4
  · rw [e54]
    exact h5
  · unfold jSA jSE jSU jSL jFT
    rw [e54, km.1 24 rfl, km.1 14 rfl, km.1 15 rfl, kc.1 41 rfl, kc.1 42 rfl, kc.1 74 rfl, km.2 25 rfl, km.2 26 rfl, kc.2 35 rfl, kc.2 34 rfl, kc.2 37 rfl, kc.2 33 rfl, kc.2 36 rfl, km.2 16 rfl, km.2 19 rfl, km.2 18 rfl, kc.2 38 rfl, km.2 17 rfl, km.2 20 rfl, km.2 21 rfl, km.2 22 rfl, km.2 23 rfl, kc.2 40 rfl, kc.2 39 rfl, km.2 33 rfl, kc.2 82 rfl, kc.2 77 rfl, kc.2 78 rfl, km.2 27 rfl, kc.2 83 rfl, km.2 31 rfl, km.2 34 rfl, kc.2 84 rfl]
    exact h6
theorem jGs.mv (T : jGs X p N K n q nf t i f φ Fc Gc Fm Gm) (kc : KX jXT jYT Fc Gc F1 G1) (km : KX jZT jWT Fm Gm F2 G2) (e46 : F1 46 = 0) (e54 : F2 54 = 0) (xb : jXB F1) (D : jD N j F1 G1 F2 G2) (rm : (F1 6).toInt ≤ 2 * (Gm 6 j).toInt + 100) (hij : i ≤ j) (cb : p = 1 → jCB Fc Gc Fm Gm F1 G1 F2 G2) : jGs X p N K n q nf t j f φ F1 G1 F2 G2 := by
  obtain ⟨⟨S, D0, R⟩, ⟨a1, a2, a3, a4⟩, ⟨b1, b2, b3⟩, ⟨c1, c2⟩, PO, t0, t1⟩ := T
  have mo := TPF.mono S.1.1.2.2 i j hij D.1.1
  refine ⟨⟨S.keepT kc km ?_ ?_, D, ?_⟩, ⟨a1, a2, e54, xb⟩, ⟨?_, ?_, ?_⟩, ⟨?_, c2⟩, ?_, fun z => ?_, fun z => ?_⟩
  · rw [e46, S.2.2.2.1, a3]
  · rw [e54, a3]
  · rw [km.2 6 rfl]
    exact rm
  · rw [kc.1 29 rfl]; exact b1
  · rw [kc.1 42 rfl]; exact b2
  · rw [km.1 15 rfl]; exact b3
  · rw [kc.1 28 rfl]; exact c1
  · unfold jPO jKf
    unfold jPO jKf at PO
    rw [km.2 31 rfl, km.2 34 rfl, km.2 4 rfl, km.2 5 rfl, km.2 6 rfl, km.2 25 rfl, km.2 26 rfl, km.2 27 rfl, km.2 32 rfl, km.2 33 rfl]
    exact PO
  · obtain ⟨e, y1, y2, y3, y4, y5, y6, y7⟩ := t0 z
    refine ⟨e, ?_⟩
    unfold jT0 jSA jSL jFT jKf
    unfold jSA at y2
    unfold jSL at y3
    unfold jFT jKf at y4
    rw [km.1 24 rfl, km.1 35 rfl, kc.1 85 rfl, kc.1 41 rfl, kc.1 74 rfl, km.2 25 rfl, km.2 26 rfl, kc.2 35 rfl, kc.2 34 rfl, kc.2 37 rfl, kc.2 33 rfl, kc.2 36 rfl, kc.2 40 rfl, kc.2 39 rfl, km.2 33 rfl, kc.2 82 rfl, kc.2 77 rfl, kc.2 78 rfl, km.2 27 rfl, kc.2 83 rfl, km.2 31 rfl, km.2 34 rfl, kc.2 84 rfl, km.2 6 rfl]
    exact ⟨y1, y2, y3, y4, y5, ⟨by omega, by omega⟩, fun g hg => ⟨by have := (y7 g hg).1; omega, (y7 g hg).2⟩⟩
  · obtain ⟨y1, y2, y3⟩ := t1 z
    refine ⟨by rw [km.2 4 rfl, km.2 5 rfl]; exact y1.le hij, by rw [kc.2 79 rfl, km.2 28 rfl]; exact y2, fun g hg => ?_⟩
    have w := (y3 g hg).ext (ml := []) (cb z) (by rw [km.2 28 rfl]) (by rw [km.2 29 rfl]) (by rw [km.2 30 rfl]) (by rw [kc.2 80 rfl])
    rw [List.append_nil] at w
    exact w
theorem jGs.x0 (T : jGs X p N K n q nf t i f φ Fc Gc Fm Gm) : Fc 46 = 0 := by
  rw [T.1.1.2.2.2.1, T.2.1.2.2.1]
theorem jGs.al (T : jGs X p N K n q nf t i f φ Fc Gc Fm Gm) (h : jAl X p N i j d κ s s1 hs Fc Gc Fm Gm F1 G1 F2 G2) (hk : κ ≤ 0) : jGs X p N K n q nf t j f φ F1 G1 F2 G2 := by
  have I1 := T.1.next h hk
  refine T.mv (KX.tr KX.rf h.1.1 rfl rfl) (KX.tr KX.rf h.1.2 rfl rfl) ?_ ?_ (T.2.1.2.2.2.kx h.1.1 rfl) h.2.1 ?_ h.2.2.1.1 (fun z => h.cb z)
  · rw [h.1.1.1 46 rfl]; exact T.x0
  · rw [h.1.2.1 54 rfl]; exact T.2.1.2.2.1
  · have := I1.2.2
    rw [h.1.2.2 6 rfl] at this
    exact this
theorem jGs.ak (T : jGs X p N K n q nf t i f φ Fc Gc Fm Gm) (h : jAk p N i j Fc Gc Fm Gm F1 G1 F2 G2) : jGs X p N K n q nf t j f φ F1 G1 F2 G2 := by
  have cbh : p = 1 → jCB Fc Gc Fm Gm F1 G1 F2 G2 := fun z => h.cb z
  obtain ⟨⟨k1, k2⟩, D, ⟨ij, m⟩, e10, ⟨e46, e54, -, -, -, xb⟩, e6, -⟩ := h
  refine T.mv (KX.tr KX.rf k1 rfl rfl) (KX.tr KX.rf k2 rfl rfl) e46 e54 xb D ?_ ij cbh
  have := T.1.2.2
  omega
/-- places grow -/
theorem jS.inc (S : jS X p N K n q nf t Fc Gc Fm Gm) {a b : Nat} (h : a < b) (hb : b ≤ N) : (Gm 6 a).toInt < (Gm 6 b).toInt := by
  have y1 := (S.1.1.2.2 a (by omega)).1
  have y2 := S.t1 (i := a) (by omega)
  have y3 := TPF.mono S.1.1.2.2 (a + 1) b (by omega) hb
  omega
theorem jS.inj (S : jS X p N K n q nf t Fc Gc Fm Gm) {a b : Nat} (ha : a ≤ N) (hb : b ≤ N) (h : Gm 6 a = Gm 6 b) : a = b := by
  rcases Nat.lt_trichotomy a b with w | w | w
  · have := S.inc w hb
    rw [h] at this
    omega
  · exact w
  · have := S.inc w ha
    rw [h] at this
    omega
/-- what both know of a name that is told between two functions -/
theorem jTH0 (a : jSA K q nf Fc Gc Fm Gm) (e : jSE X.2.1 X.2.2.1 K q t Fc Gc Fm Gm) (h0 : Fm 15 = 0) (hpl : pl = Gm 6 x1.toNatClampNeg) (f0 : ∀ g : Nat, g < nf → ¬ Gm 26 g = pl) (hr : jLa (Gc 33) (q + t) (Gm 5 x1.toNatClampNeg) r) : jTw nf t x1 Fm Gm ↔ jHre (q + t) (Fc 42) pl r Gc := by
  obtain ⟨a1, a2, a3, a4, a5⟩ := a
  obtain ⟨e1, e2, e3, e4, e5, e6⟩ := e
  have z0 : (0 : Int32).toInt = 0 := rfl
  -- a symbol that is told
  have tld : ∀ jj : Nat, q ≤ jj → jj < q + t → Gc 34 jj = Fc 42 ∧ ¬ Gc 35 jj = 4 ∧ Gc 33 jj = Gm 16 (jj - q) ∧ Gm 19 (jj - q) = Fm 15 := by
    intro jj h1 h2
    obtain ⟨w1, w2, w3, w4, w5, w6⟩ := e6 (jj - q) (by omega)
    rw [show q + (jj - q) = jj by omega] at w1 w2 w3 w6
    have : Gm 19 (jj - q) = Fm 15 := by
      refine i_eq.mpr ?_
      have := w5.1
      have := w5.2
      rw [h0, z0] at *
      omega
    exact ⟨by rw [w2, this, e4], w6.no4, w1, this⟩
  refine ⟨fun h => ?_, fun h => ?_⟩
  · have key : ∃ jj : Nat, jj < q + t ∧ Gc 33 jj = Gm 5 x1.toNatClampNeg := by
      rcases h with ⟨k, k1, k2, k3⟩ | ⟨-, g, g1, g2, g3⟩
      · exact ⟨q + k, by omega, (e6 k k1).1.trans k3⟩
      · obtain ⟨jj, j1, j2⟩ := a5 g g1
        exact ⟨jj, by omega, j2.trans g2⟩
    rcases hr with ⟨r1, r2⟩ | ⟨jj, r1, r2, r3, r4⟩
    · obtain ⟨jj, j1, j2⟩ := key
      exact absurd j2 (r2 jj j1)
    · rcases Nat.lt_or_ge jj q with w | w
      · obtain ⟨b1, b2, f1, f2, f3, f4, f5, f6⟩ := a4 jj w
        refine ⟨jj, r1, r2, by rw [b2, e4, h0], fun z => ?_⟩
        rcases h with ⟨k, k1, k2, k3⟩ | ⟨-, g, g1, g2, g3⟩
        · exact r4 (q + k) (by omega) (by omega) ((e6 k k1).1.trans k3)
        · have fg : f1 ≤ g := by
            rcases Nat.lt_or_ge g f1 with y | y
            · exact absurd (g2.trans (r3.symm.trans f4)) (f6 g y)
            · exact y
          have : (Gm 26 f1).toInt ≤ (Gm 26 g).toInt := by
            rcases Nat.lt_or_ge f1 g with y | y
            · have := a3 f1 g y g1
              omega
            · rw [show f1 = g by omega]
              exact Int.le_refl _
          rw [f5] at z
          rw [← hpl] at g3
          omega
      · obtain ⟨b1, b2, -⟩ := tld jj w r1
        exact ⟨jj, r1, r2, b1, fun z => b2 z.1⟩
  · obtain ⟨jj, j1, j2, j3, j4⟩ := h
    have nm : Gc 33 jj = Gm 5 x1.toNatClampNeg := by
      rcases hr with ⟨r1, r2⟩ | ⟨j', r1, r2, r3, r4⟩
      · rw [r1] at j2
        exact absurd j2.symm (nI_n1 (by omega))
      · have : j' = jj := nI_ij (r2.symm.trans j2) (by omega) (by omega)
        rw [this] at r3
        exact r3
    rcases Nat.lt_or_ge jj q with w | w
    · obtain ⟨b1, b2, f1, f2, f3, f4, f5, f6⟩ := a4 jj w
      refine .inr ⟨h0, f1, f2, f4.symm.trans nm, ?_⟩
      have y1 : ¬ pl.toInt < (Gc 36 jj).toInt := fun z => j4 ⟨b1, z⟩
      have y2 : ¬ (Gm 26 f1).toInt = pl.toInt := fun z => f0 f1 f2 (i_eq.mpr z)
      rw [f5] at y1
      rw [← hpl]
      omega
    · obtain ⟨-, -, b3, b4⟩ := tld jj w j1
      exact .inl ⟨jj - q, by omega, b4, b3.symm.trans nm⟩
/-- one more is told between two functions -/
theorem jGs.tell {m : JLY} {ck cv cz mk b3 mc mz b6 : Int32} (T : jGs X 1 N K n q nf t j f φ Fc Gc Fm Gm) (ins : jIns (q + t) cid pl ck cv cz Fc Gc F1 G1) (de : jDe t x1 mk b3 mc mz b6 Fm Gm F2 G2) (hn : x1.toNatClampNeg = n0) (nj : n0 < j) (hc : cid = Gm 5 n0) (hpl : pl = Gm 6 n0) (id0 : 0 ≤ cid.toInt ∧ cid.toInt < K) (dc : jDc (Gm 4) (Gm 5) n0) (n22 : ¬ Gm 5 (n0 + 1) = 22) (P : jPl N q nf t n0 (Gm 4) (Gm 5)) (nt : ¬ jTw nf t x1 Fm Gm) (en : jEN (X.2.1 ++ m) [] ck cv cz 0 mk mc mz (vp_nar .boolean b3) (vp_nar .boolean b6)) : jGs (X.1, X.2.1 ++ m, [], X.2.2.2) 1 N K n q nf (t + 1) j f φ F1 G1 F2 G2 := by
  obtain ⟨⟨S, D, R⟩, ⟨a1, a2, a3, a4⟩, ⟨b1, b2, b3'⟩, ⟨c1, c2⟩, PO, t0, t1⟩ := T
  have S' := S
  obtain ⟨h1, h2, h3, h4, h5, h6⟩ := S
  obtain ⟨g1, SA, SE, SU, SL, FT⟩ := h6 rfl
  have jN : j ≤ N := D.1.1
  have r6 := (P.room h1.1.2.2 (fun i hi => S'.t1 hi) S'.p0t (by omega) (by rw [h1.2.2.2.2.2.1]; have := h1.1.2.1; omega)).1
  have u : jUp X (X.1, X.2.1 ++ m, [], X.2.2.2) := ⟨rfl, ⟨m, rfl⟩, ⟨[], by rw [a2]; rfl⟩, rfl⟩
  have f0 : ∀ g : Nat, g < nf → ¬ Gm 26 g = pl := fun g hg z => by
    obtain ⟨⟨-, y1, y2⟩, ⟨-, y3⟩, -⟩ := PO.1 g hg
    rw [y3, hpl] at z
    have := S'.inj (a := φ g) (b := n0) (by omega) (by omega) z
    rw [this] at y2
    exact n22 y2
  obtain ⟨SA1, SE1, SU1, SL1⟩ := jNew u SA SE SU SL ins de (by rw [hn]; exact hc) (by rw [hn]; exact hpl) id0.1 id0.2 (by omega) nt (fun _ g hg _ => f0 g hg) (by rw [b3']; exact en)
  have kc := ins.1
  have km := de.1
  have D1 : jD N j F1 G1 F2 G2 := D.mv (KX.tr KX.rf kc rfl rfl) (KX.tr KX.rf km rfl rfl)
  refine ⟨⟨⟨h1.keep (kc.1 93 rfl) (kc.2 90 rfl) (kc.2 91 rfl) (kc.2 92 rfl) (km.1 7 rfl) (km.1 8 rfl) (km.2 4 rfl) (km.2 5 rfl) (km.2 6 rfl), h2, ?_, ?_, ?_, fun _ => ⟨?_, SA1, SE1, SU1, SL1, ?_⟩⟩, D1, ?_⟩, ⟨a1, rfl, ?_, a4.kx kc rfl⟩, ⟨?_, ?_, ?_⟩, ⟨?_, c2⟩, ?_, fun z => absurd z (by decide), fun _ => ?_⟩
  · rw [km.1 46 rfl, kc.1 45 rfl, kc.1 7 rfl]
    exact h3
  · rw [kc.1 46 rfl, km.1 54 rfl]
    exact h4
  · rw [km.1 54 rfl]
    exact h5
  · rw [km.1 54 rfl]
    exact g1
  · unfold jFT
    rw [kc.1 74 rfl, km.2 33 rfl, kc.2 82 rfl, kc.2 77 rfl, km.2 26 rfl, kc.2 78 rfl, km.2 27 rfl, kc.2 83 rfl, km.2 31 rfl, km.2 34 rfl, kc.2 84 rfl]
    exact FT
  · rw [kc.1 6 rfl, km.2 6 rfl]
    exact R
  · rw [km.1 54 rfl]; exact a3
  · rw [kc.1 29 rfl]; exact b1
  · rw [kc.1 42 rfl]; exact b2
  · rw [km.1 15 rfl]; exact b3'
  · rw [kc.1 28 rfl]; exact c1
  · unfold jPO jKf
    unfold jPO jKf at PO
    rw [km.2 31 rfl, km.2 34 rfl, km.2 4 rfl, km.2 5 rfl, km.2 6 rfl, km.2 25 rfl, km.2 26 rfl, km.2 27 rfl, km.2 32 rfl, km.2 33 rfl]
    exact PO
  · obtain ⟨-, y2, y3⟩ := t1 rfl
    refine ⟨by rw [km.2 4 rfl, km.2 5 rfl]; exact P.new (Nat.le_refl _) nj dc n22, by rw [kc.2 79 rfl, km.2 28 rfl]; exact y2, fun g hg => ?_⟩
    exact (y3 g hg).ext (jCB.of (km.1 60 rfl) (kc.1 6 rfl) (kc.2 5 rfl) (KX.c km rfl rfl rfl rfl)) (by rw [km.2 28 rfl]) (by rw [km.2 29 rfl]) (by rw [km.2 30 rfl]) (by rw [kc.2 80 rfl])
theorem jDe.c42 {v x2 b3 x4 x5 b6 : Int32} (h : jDe t x1 x2 b3 x4 x5 b6 Fm Gm F2 G2) : jDe t x1 x2 b3 x4 x5 b6 (fup Fm 42 v) Gm (fup F2 42 v) G2 := by
  obtain ⟨⟨a1, a2⟩, a3, a4, a5⟩ := h
  refine ⟨⟨fun z hz => ?_, a2⟩, ?_, a4, ?_⟩
  · by_cases e : z = 42
    · rw [e, fup_s, fup_s]
    · rw [fup_n e, fup_n e]
      exact a1 z hz
  · rw [fup_n (by decide)]
    exact a3
  · rw [fup_n (by decide)]
    exact a5
end JV1
