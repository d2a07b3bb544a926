abbrev JPE : Type := Nat × JHO
/-- what the class's waiting operators take -/
def jCn : List JPE → Nat
  | [] => 0
  | e :: l => jCn l + (if e.1 = 14 ∨ e.1 = 15 then 2 else 1)
/-- the shape below the operand -/
def jPs (s : SH) : List JPE → SH
  | [] => s
  | e :: l => if e.1 = 14 ∨ e.1 = 15 then jPs s l else 0 :: jPs s l
/-- the jumps that wait -/
def jHs : List JPE → List JHO
  | [] => []
  | e :: l => if e.1 = 14 ∨ e.1 = 15 then e.2 :: jHs l else jHs l
/-- the operators that wait, on both sides -/
def jEs (p : Int32) (s : SH) (b m : Nat) (G1 G2 : PG) : List JPE → Prop
  | [] => True
  | e :: l => jEs p s b m G1 G2 l ∧ (e.1 < 45 ∧ ¬ lvS (nI e.1) = -1 ∧ G2 67 (m + l.length) = nI e.1 ∧ G2 68 (m + l.length) = lvS (nI e.1)) ∧ ((¬ (e.1 = 14 ∨ e.1 = 15) ∧ G1 20 (b + jCn l) = kS e.1) ∨ ((e.1 = 14 ∨ e.1 = 15) ∧ G1 20 (b + jCn l + 1) = kS e.1 ∧ G2 69 (m + l.length) = nI e.2.1 ∧ e.2.1 < 9000 ∧ (p = 0 → G1 20 (b + jCn l) = -1) ∧ (p = 1 → G1 20 (b + jCn l) = nI e.2.2.1) ∧ e.2.2.2.1 = 0 :: jPs s l ∧ e.2.2.2.2.1 = (if e.1 = 14 then 2 else 3) ∧ e.2.2.2.2.2 = ((0 : Int32), (-1 : Int32))))
theorem jEs.keep {p : Int32} {s : SH} {b m : Nat} {G1 G2 G3 G4 : PG} : ∀ {l : List JPE}, jEs p s b m G1 G2 l → (∀ k : Nat, k < b + jCn l → G3 20 k = G1 20 k) → (∀ k : Nat, k < m + l.length → G4 67 k = G2 67 k ∧ G4 68 k = G2 68 k ∧ G4 69 k = G2 69 k) → jEs p s b m G3 G4 l := by
  intro l
  induction l with
  | nil => exact fun _ _ _ => trivial
  | cons e l ih =>
    rintro ⟨h0, ⟨h1, h2, h3, h4⟩, h5⟩ c d
    have hc : jCn (e :: l) = jCn l + (if e.1 = 14 ∨ e.1 = 15 then 2 else 1) := rfl
    have hl : (e :: l).length = l.length + 1 := rfl
    obtain ⟨d1, d2, d3⟩ := d (m + l.length) (by omega)
    have h1' : jCn l + 1 ≤ jCn (e :: l) := by
      rw [hc]
      by_cases g : e.1 = 14 ∨ e.1 = 15
      · rw [if_pos g]; omega
      · rw [if_neg g]; omega
    refine ⟨ih h0 (fun k hk => c k (by omega)) (fun k hk => d k (by omega)), ⟨h1, h2, d1.trans h3, d2.trans h4⟩, ?_⟩
    rcases h5 with ⟨a1, a2⟩ | ⟨a1, a2, a3, a4, a5, a6, a7⟩
    · exact .inl ⟨a1, (c _ (by omega)).trans a2⟩
    · rw [if_pos a1] at hc
      have e0 := c (b + jCn l) (by omega)
      exact .inr ⟨a1, (c _ (by omega)).trans a2, d3.trans a3, a4, fun z => e0.trans (a5 z), fun z => e0.trans (a6 z), a7⟩
/-- from the chain's beginning on: ps waits, and u signs ahead of an operand -/
def jCh (X : JCX) (p : Int32) (N i j : Nat) (κ : Int) (s s1 : SH) (ps : List JPE) (u : Nat) (Fc : PF) (Gc : PG) (Fm : PF) (Gm : PG) (F1 : PF) (G1 : PG) (F2 : PF) (G2 : PG) : Prop :=
  jAl X p N i j 0 κ s s1 (jHs ps) Fc Gc Fm Gm (fup F1 21 (Fc 21)) G1 (fup F2 70 (Fm 70)) G2 ∧ ((F1 21).toInt = (Fc 21).toInt + jCn ps + u ∧ (F1 21).toInt ≤ (Gm 6 j).toInt) ∧ (F2 70).toInt = (Fm 70).toInt + ps.length ∧ jEs p s (Fc 21).toInt.toNat (Fm 70).toInt.toNat G1 G2 ps
theorem fup_sm {F : PF} {k : Nat} : fup F k (F k) = F := by
  funext j
  by_cases c : j = k
  · rw [c, fup_s]
  · exact fup_n c
section JE17
variable {X : JCX} {p : Int32} {N K n q nf t i j l u : Nat} {d κ κ1 : Int} {s s1 s2 : SH} {hs : List JHO} {ps : List JPE} {Fc Fm F1 F2 F3 F4 F5 F6 : PF} {Gc Gm G1 G2 G3 G4 G5 G6 : PG}
theorem jCh.rf (I : jIn X p N K n q nf t i Fc Gc Fm Gm) : jCh X p N i i 0 s s [] 0 Fc Gc Fm Gm Fc Gc Fm Gm := by
  refine ⟨?_, ⟨?_, I.2.1.2.2.1.2⟩, ?_, trivial⟩
  · rw [fup_sm, fup_sm]
    exact jAl.rf I.2.1
  · show _ = _ + ((0 : Nat) : Int) + ((0 : Nat) : Int)
    omega
  · show _ = _ + ((0 : Nat) : Int)
    omega
theorem jCh.inn (I : jIn X p N K n q nf t i Fc Gc Fm Gm) (h : jCh X p N i j κ s s1 ps u Fc Gc Fm Gm F1 G1 F2 G2) (hk : κ ≤ 0) : jIn X p N K n q nf t j F1 G1 F2 G2 := by
  have I' := I.next h.1 hk
  obtain ⟨h1, ⟨h2, h3⟩, h4, h5⟩ := h
  have e6 : G2 6 = Gm 6 := h1.1.2.2 6 rfl
  have z1 := I.2.1.2.2.1.1
  have z2 := I.2.1.2.2.2.2.2
  exact I'.un (by omega) (by rw [e6]; exact h3) (by omega)
theorem jCh.op (I : jIn X p N K n q nf t i Fc Gc Fm Gm) (h : jCh X p N i j κ s s1 ps u Fc Gc Fm Gm F1 G1 F2 G2) (k : jAl X p N j l 0 κ1 s1 s2 [] F1 G1 F2 G2 F3 G3 F4 G4) : jCh X p N i l (κ + κ1) s s2 ps u Fc Gc Fm Gm F3 G3 F4 G4 := by
  obtain ⟨h1, ⟨h2, h3⟩, h4, h5⟩ := h
  have z1 := I.2.1.2.2.1.1
  have z2 := I.2.1.2.2.2.2.2
  have kr := k.rs (a := Fc 21) (b := Fm 70) z1 (by omega) z2 (by omega)
  have e6 : G2 6 = Gm 6 := h1.1.2.2 6 rfl
  have le := k.2.2.1.2
  rw [e6] at le
  have a := k.2.2.2.2.1
  have b := k.2.2.2.2.2.1
  refine ⟨(h1.tr kr).ca (by omega) (Int.le_refl _), ⟨by rw [a.1]; exact h2, by rw [a.1]; omega⟩, by rw [b.1]; exact h4, h5.keep (fun m hm => a.2 m (by omega)) (fun m hm => b.2 m (by omega))⟩
/-- signs go to what waits, and both go on -/
theorem jAl.push {w : Nat} (I : jIn X p N K n q nf t i Fc Gc Fm Gm) (h1 : jAl X p N i j 0 κ s s1 hs Fc Gc Fm Gm (fup F1 21 (Fc 21)) G1 (fup F2 70 (Fm 70)) G2) (h2 : (Fc 21).toInt ≤ (F1 21).toInt) (h3 : (F1 21).toInt ≤ (Gm 6 j).toInt) (h4 : (Fm 70).toInt ≤ (F2 70).toInt) (lj : j < N) (hw : w ≤ tlen (Gm 4 j) (Gm 5 j)) (kc : KX [21] [20] F1 G1 F3 G3) (km : KX [70] [67, 68, 69] F2 G2 F4 G4) (c21 : (F3 21).toInt = (F1 21).toInt + w) (c20 : ∀ k : Nat, (k : Int) < (F1 21).toInt → G3 20 k = G1 20 k) (m67 : ∀ k : Nat, (k : Int) < (F2 70).toInt → G4 67 k = G2 67 k ∧ G4 68 k = G2 68 k ∧ G4 69 k = G2 69 k) (o : jOn N (j + 1) 0 F3 G3 F4 G4 F5 G5 F6 G6) : jAl X p N i (j + 1) 0 (κ + -2 * (w : Int)) s s1 hs Fc Gc Fm Gm (fup F5 21 (Fc 21)) G3 (fup F6 70 (Fm 70)) G4 ∧ (F5 21 = F3 21 ∧ G3 = G5 ∧ F6 70 = F4 70 ∧ G4 = G6) ∧ (F5 21).toInt ≤ (Gm 6 (j + 1)).toInt := by
  have S0 := I.1.keep h1.1.1 h1.1.2
  have D0 := h1.2.1
  have g4 : G2 4 = Gm 4 := h1.1.2.2 4 rfl
  have g5 : G2 5 = Gm 5 := h1.1.2.2 5 rfl
  obtain ⟨⟨x1, c1⟩, ⟨x2, c2⟩, c3, c4⟩ := o
  have tp := (I.1.1.1.2.2 j lj).1
  have e21 : F5 21 = F3 21 := c1.1 21 rfl
  have o' : jOn N (j + 1) 0 (fup F1 21 (Fc 21)) G1 (fup F2 70 (Fm 70)) G2 (fup F5 21 (Fc 21)) G1 (fup F6 70 (Fm 70)) G2 := by
    refine ⟨⟨rfl, fun k hk => ?_, fun _ _ => rfl⟩, ⟨rfl, fun k hk => ?_, fun _ _ => rfl⟩, ?_, ?_⟩
    · by_cases c : k = 21
      · rw [c, fup_s, fup_s]
      · rw [fup_n c, fup_n c, c1.1 k hk]
        exact kc.1 k (by rw [List.contains_cons, beq_false_of_ne c]; rfl)
    · by_cases c : k = 70
      · rw [c, fup_s, fup_s]
      · rw [fup_n c, fup_n c, c2.1 k hk]
        exact km.1 k (by rw [List.contains_cons, beq_false_of_ne c]; rfl)
    · have c3' : CU N (j + 1) F5 G1 F6 G2 := by
        unfold CU at c3 ⊢
        rw [← x1, kc.2 90 rfl, kc.2 91 rfl, kc.2 92 rfl] at c3
        exact c3
      exact CU.eq c3' (KX.f rfl KX.rf) (KX.f rfl KX.rf)
    · rw [fup_n (show (10 : Nat) ≠ 21 by decide), fup_n (show (10 : Nat) ≠ 21 by decide), ← kc.1 10 rfl]
      exact c4
  have e1 := jAl.on (X := X) (p := p) (s := s1) S0 D0 lj (by rw [g4, g5]; exact hw) o'
  refine ⟨?_, ⟨e21, x1, c2.1 70 rfl, x2⟩, by rw [e21]; omega⟩
  exact (((h1.tr e1).gg (G3 := G3) (G4 := G4) ⟨fun _ _ => rfl, kc.2⟩ ⟨fun _ _ => rfl, km.2⟩ (fun k hk => c20 k (by omega)) (fun k hk => m67 k (by omega))).ca (by omega) (Int.le_refl _))
end JE17
