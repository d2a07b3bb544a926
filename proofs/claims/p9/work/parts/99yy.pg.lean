/-- how many places of smaller depth -/
def cntA (A : AN) (d : Nat) : Nat → Nat
  | 0 => 0
  | i + 1 => cntA A d i + (if (A i).2.1 < d then 1 else 0)
theorem cntA.le {A : AN} {d : Nat} : ∀ N, cntA A d N ≤ N := by
  intro N
  induction N with
  | zero => exact Nat.le_refl _
  | succ N ih =>
    unfold cntA
    by_cases e : (A N).2.1 < d
    · rw [if_pos e]; omega
    · rw [if_neg e]; omega
theorem cntA.mono {A : AN} {d e : Nat} (h : d ≤ e) : ∀ N, cntA A d N ≤ cntA A e N := by
  intro N
  induction N with
  | zero => exact Nat.le_refl _
  | succ N ih =>
    unfold cntA
    by_cases c : (A N).2.1 < d
    · rw [if_pos c, if_pos (by omega)]; omega
    · rw [if_neg c]; omega
theorem cntA.lt {A : AN} {q e : Nat} (h : (A q).2.1 < e) : ∀ N, q < N → cntA A (A q).2.1 N < cntA A e N := by
  intro N
  induction N with
  | zero => intro hq; exact absurd hq (Nat.not_lt_zero _)
  | succ N ih =>
    intro hq
    unfold cntA
    by_cases c : q = N
    · subst c
      rw [if_neg (Nat.lt_irrefl _), if_pos h]
      have := cntA.mono (A := A) (Nat.le_of_lt h) q
      omega
    · have := ih (by omega)
      by_cases c1 : (A N).2.1 < (A q).2.1
      · rw [if_pos c1, if_pos (by omega)]; omega
      · rw [if_neg c1]; omega
def mB (A : AN) (m k : Nat) : Nat := cntA A (A k).2.1 (m + 1) * 9001 + (9000 - k)
/-- how many places have a smaller number -/
def cntB (h : Nat → Nat) (v : Nat) : Nat → Nat
  | 0 => 0
  | i + 1 => cntB h v i + (if h i < v then 1 else 0)
theorem cntB.le {h : Nat → Nat} {v : Nat} : ∀ N, cntB h v N ≤ N := by
  intro N
  induction N with
  | zero => exact Nat.le_refl _
  | succ N ih =>
    unfold cntB
    by_cases e : h N < v
    · rw [if_pos e]; omega
    · rw [if_neg e]; omega
theorem cntB.mono {h : Nat → Nat} {u v : Nat} (e : u ≤ v) : ∀ N, cntB h u N ≤ cntB h v N := by
  intro N
  induction N with
  | zero => exact Nat.le_refl _
  | succ N ih =>
    unfold cntB
    by_cases c : h N < u
    · rw [if_pos c, if_pos (by omega)]; omega
    · rw [if_neg c]; omega
theorem cntB.lt {h : Nat → Nat} {q v : Nat} (e : h q < v) : ∀ N, q < N → cntB h (h q) N < cntB h v N := by
  intro N
  induction N with
  | zero => intro hq; exact absurd hq (Nat.not_lt_zero _)
  | succ N ih =>
    intro hq
    unfold cntB
    by_cases c : q = N
    · subst c
      rw [if_neg (Nat.lt_irrefl _), if_pos e]
      have := cntB.mono (h := h) (Nat.le_of_lt e) q
      omega
    · have := ih (by omega)
      by_cases c1 : h N < h q
      · rw [if_pos c1, if_pos (by omega)]; omega
      · rw [if_neg c1]; omega
def mA (A : AN) (m k : Nat) : Nat := cntB (mB A m) (mB A m k) (m + 1)
theorem mA.le {A : AN} {m k : Nat} (h : m ≤ 8000) : mA A m k ≤ 8001 := by
  have := cntB.le (h := mB A m) (v := mB A m k) (m + 1)
  unfold mA
  omega
theorem mA.jp {X : TX} {A : AN} {m k q : Nat} {s : SH} (h : jp X A m k q s) (hm : m ≤ 8000) : mA A m q < mA A m k := by
  obtain ⟨h1, -, -, h4⟩ := h
  unfold mA
  refine cntB.lt ?_ (m + 1) (by omega)
  unfold mB
  rcases h4 with ⟨h4, -⟩ | ⟨h4, h5⟩
  · have := cntA.lt h4 (m + 1) (by omega)
    omega
  · rw [h4]
    omega
def PHI (A : AN) (m n k : Nat) (l : Int) : Nat := mA A m k + 8002 * n + (if (A k).2.2 = true then 16005 else 0) + l.toNat * 24007
abbrev wkA : List Nat := [72, 75, 76, 77, 78, 79, 80, 81, 82, 83, 85, 86, 87]
abbrev wkB : List Nat := [71, 88, 89, 90, 91, 92, 93]
/-- the counters of a run -/
def CNR (F : PF) : Prop := (0 ≤ (F 78).toInt ∧ (F 78).toInt ≤ 1000) ∧ 0 ≤ (F 79).toInt ∧ 0 ≤ (F 80).toInt ∧ (F 80).toInt ≤ 500
/-- the frames of a run, n of them waiting -/
def CWR (F0 : PF) (G0 : PG) (n : Nat) (a0 d0 : Int) (t0 : Nat) (A : AN) (m : Nat) (F : PF) (G : PG) : Prop := KX wkA wkB F0 G0 F G ∧ (F 85).toInt = n + 1 ∧ FRS F0 G0 (G 91) (G 92) (G 93) (G 71) (G 90) n a0 d0 t0 ∧ GEO F0 G0 (G 91) (G 93) (G 90) n a0 (F 87).toInt d0 (F 83).toInt ∧ (F 83).toInt ≤ 2000 ∧ F 86 = G 93 n ∧ TYP F0 G0 (G 91 n).toNatClampNeg A m ∧ CNR F
/-- at a step of it -/
def CUR (F0 : PF) (G0 : PG) (F : PF) (G : PG) (φ : Nat) : Prop := ∃ (n : Nat) (a0 d0 : Int) (t0 : Nat) (A : AN) (m : Nat), CWR F0 G0 n a0 d0 t0 A m F G ∧ (0 ≤ (F 76).toInt ∧ (G0 30 (G 91 n).toNatClampNeg).toInt.toNat ≤ (F 76).toInt.toNat ∧ (F 76).toInt.toNat < m) ∧ (F 72).toInt = t0 + (A (F 76).toInt.toNat).1.length ∧ VOK (SFA F0 G0 (G 91) (G 93) (n + 1)) (G 71) (A (F 76).toInt.toNat).1 (F 72).toInt.toNat ∧ φ = PHI A m n (F 76).toInt.toNat (F 78).toInt
/-- behind a step -/
def OUR (F0 : PF) (G0 : PG) (F1 : PF) (G1 : PG) : Prop := KX wkA wkB F0 G0 F1 G1 ∧ CNR F1 ∧ (3 ≤ (F1 75).toInt ∨ ((F1 75 = 1 ∨ F1 75 = 2) ∧ ∃ φ, CUR F0 G0 F1 G1 φ))
def WQR (F0 : PF) (G0 : PG) (φ : Nat) (r : Int32) (F1 : PF) (G1 : PG) : Prop := (r = 1 ∧ F1 75 = 1 ∧ ∃ ψ, ψ < φ ∧ CUR F0 G0 F1 G1 ψ) ∨ (r = 0 ∧ OUR F0 G0 F1 G1)
theorem upd_s {f : Nat → Int32} {i : Nat} {v : Int32} : upd f i v i = v := if_pos rfl
theorem upd_n {f : Nat → Int32} {i j : Nat} {v : Int32} (h : j ≠ i) : upd f i v j = f j := if_neg h
theorem gup_u {G : PG} {k i : Nat} {v : Int32} : gup G k i v k = upd (G k) i v := if_pos rfl
theorem VOK.push {S : Int → Prop} {op : Nat → Int32} {s : SH} {t k : Nat} {v : Int32} (h : VOK S op s t) (h1 : k = 1 → S v.toInt) (h3 : ¬ k = 3) : VOK S (upd op t v) (k :: s) (t + 1) := by
  refine ⟨by omega, VOK.cg (fun _ z => z) s t (fun j hj => upd_n (by omega)) h, fun e => ?_, fun e => absurd e h3⟩
  show S (upd op t v t).toInt
  rw [upd_s]
  exact h1 e
theorem VOK.pair {S : Int → Prop} {op : Nat → Int32} {s : SH} {t : Nat} {v w : Int32} (h : VOK S op s t) (h1 : ∀ i : Int, 0 ≤ i → i < w.toInt → S (v.toInt + i)) : VOK S (upd (upd op t v) (t + 1) w) (3 :: 2 :: s) (t + 2) := by
  refine ⟨by omega, VOK.cg (fun _ z => z) (2 :: s) (t + 1) (fun j hj => upd_n (by omega)) (h.push (k := 2) (v := v) (fun e => absurd e (by decide)) (by decide)), fun e => absurd e (by decide), fun _ i i0 i1 => ?_⟩
  have e1 : upd (upd op t v) (t + 1) w (t + 2 - 1) = w := upd_s
  have e2 : upd (upd op t v) (t + 1) w (t + 2 - 2) = v := by
    show upd (upd op t v) (t + 1) w t = v
    rw [upd_n (by omega), upd_s]
  rw [e1] at i1
  rw [e2]
  exact h1 i i0 i1
section WORK
variable {F0 : PF} {G0 : PG} {n : Nat} {a0 d0 : Int} {t0 : Nat} {A : AN} {m : Nat} {F F1 : PF} {G G1 : PG}
/-- the operands and small counters may change above t0 -/
theorem CWR.set {a b : List Nat} (h : CWR F0 G0 n a0 d0 t0 A m F G) (K : KX a b F G F1 G1) (ea : a.all wkA.contains = true) (eb : b.all wkB.contains = true) (e85 : F1 85 = F 85) (e87 : F1 87 = F 87) (e83 : F1 83 = F 83) (e86 : F1 86 = F 86) (g90 : b.contains 90 = false) (g91 : b.contains 91 = false) (g92 : b.contains 92 = false) (g93 : b.contains 93 = false) (ho : ∀ j, j < t0 → G1 71 j = G 71 j) (hc : CNR F1) : CWR F0 G0 n a0 d0 t0 A m F1 G1 := by
  obtain ⟨h1, h2, h3, h4, h5, h6, h7, -⟩ := h
  refine ⟨KX.tr h1 K ea eb, by rw [e85]; exact h2, ?_, ?_, by rw [e83]; exact h5, by rw [e86, K.2 93 g93]; exact h6, by rw [K.2 91 g91]; exact h7, hc⟩
  · rw [K.2 91 g91, K.2 92 g92, K.2 93 g93, K.2 90 g90]
    exact FRS.cg n a0 d0 t0 h3 (fun _ _ => ⟨rfl, rfl⟩) (fun _ _ => rfl) ho (fun _ _ _ _ => ⟨rfl, rfl⟩)
  · rw [K.2 91 g91, K.2 93 g93, K.2 90 g90, e87, e83]
    exact h4
/-- a cell may change where no pair lies -/
theorem CWR.cell {x : Nat} {v : Int32} (h : CWR F0 G0 n a0 d0 t0 A m F G) (hp : ∀ j, j < n + 1 → PCS G0 (G 91) (G 93) (G 90) (upd (G 90) x v) j) : CWR F0 G0 n a0 d0 t0 A m F (gup G 90 x v) := by
  obtain ⟨h1, h2, h3, h4, h5, h6, h7, h8⟩ := h
  refine ⟨KX.g rfl h1, h2, ?_, ?_, h5, h6, h7, h8⟩
  · show FRS F0 G0 (G 91) (G 92) (G 93) (G 71) (gup G 90 x v 90) n a0 d0 t0
    rw [gup_u]
    exact FRS.cg n a0 d0 t0 h3 (fun _ _ => ⟨rfl, rfl⟩) (fun _ _ => rfl) (fun _ _ => rfl) (fun j hj => hp j (by omega))
  · show GEO F0 G0 (G 91) (G 93) (gup G 90 x v 90) n a0 (F 87).toInt d0 (F 83).toInt
    rw [gup_u]
    exact h4.cg (fun _ _ => ⟨rfl, rfl⟩) (hp n (Nat.lt_succ_self n))
/-- on to another step -/
theorem CWR.mv (hP : PRG F0 G0) {k : Nat} {l : Int} {s1 : SH} (h : CWR F0 G0 n a0 d0 t0 A m F1 G1) (hk : k < m) (hj : jp (XF F0 G0 (G1 91 n).toNatClampNeg) A m k (F1 76).toInt.toNat s1) (h0 : 0 ≤ (F1 76).toInt) (hl : s1.length ≤ 602) (ht : (F1 72).toInt = t0 + s1.length) (hv : VOK (SFA F0 G0 (G1 91) (G1 93) (n + 1)) (G1 71) s1 (F1 72).toInt.toNat) (hl1 : (F1 78).toInt = l) : ∃ ψ, ψ < PHI A m n k l ∧ CUR F0 G0 F1 G1 ψ := by
  have ty := h.2.2.2.2.2.2.1
  have m8 : m ≤ 8000 := by
    have := ty.2.1
    have := hP.2.2.2.1
    have : (sN F0 : Int) = (F0 60).toInt := nN_of this.1
    omega
  have es := hj.2.1
  refine ⟨_, ?_, n, a0, d0, t0, A, m, h, ⟨h0, ?_, ?_⟩, by rw [es]; exact ht, by rw [es]; exact hv, rfl⟩
  · have := mA.jp hj m8
    unfold PHI
    rw [if_neg (by rw [hj.2.2.1]; decide), hl1]
    by_cases c : (A k).2.2 = true
    · rw [if_pos c]; omega
    · rw [if_neg c]; omega
  · rcases Nat.lt_or_ge (F1 76).toInt.toNat (G0 30 (G1 91 n).toNatClampNeg).toInt.toNat with q | q
    · have := ty.2.2.2.2.2 _ q
      rw [es] at this
      omega
    · exact q
  · rcases Nat.lt_or_ge (F1 76).toInt.toNat m with q | q
    · exact q
    · have e : (F1 76).toInt.toNat = m := by have := hj.1; omega
      have := ty.2.2.2.2.1
      rw [← e, es] at this
      omega
/-- all that is known at a step -/
theorem CWR.bd (hP : PRG F0 G0) (h : CWR F0 G0 n a0 d0 t0 A m F G) : FPL F0 G0 (G 91) (G 93) (n + 1) (F 87).toInt ∧ (F0 37).toInt ≤ a0 ∧ (F 86).toInt = a0 ∧ a0 ≤ (F 87).toInt ∧ (F 87).toInt ≤ 16000 ∧ t0 ≤ 270458 ∧ n ≤ 499 ∧ (F 87).toInt = a0 + (G0 29 (G 91 n).toNatClampNeg).toInt ∧ (0 ≤ (F0 37).toInt ∧ (F0 37).toInt ≤ 8000) := by
  obtain ⟨h1, h2, h3, h4, h5, h6, h7, -⟩ := h
  obtain ⟨b1, b2, b3, b4, b5⟩ := FRS.bd hP n a0 d0 t0 h3
  obtain ⟨c1, c2, c3, c4⟩ := b1.st hP h4 b2
  have c := hP.2.2.1
  refine ⟨c1, b2, by rw [h6]; exact h4.2.1, c2, by omega, by omega, by omega, h4.2.2.1, c⟩
theorem SFA.rng {fn bs : Nat → Int32} {N : Nat} {a x : Int} (hp : FPL F0 G0 fn bs N a) (h0 : 0 ≤ (F0 37).toInt) (ha : (F0 37).toInt ≤ a) (hx : SFA F0 G0 fn bs N x) : 0 ≤ x ∧ x < a ∨ 0 ≤ x ∧ x < (F0 37).toInt := by
  rcases hx with q | ⟨j, h1, h2, h3⟩
  · exact Or.inr q
  · have := hp.1 j h1
    exact Or.inl (by omega)
end WORK
