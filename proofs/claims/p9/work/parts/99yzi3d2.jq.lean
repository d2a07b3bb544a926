/-- what a function's code is: number, first and last step, words of its steps, what stands there, all its things -/
abbrev JST : Type := Nat → Nat → Nat → (Nat → Nat) → JAN → JLY → Prop
/-- a shape that a run may have -/
def jN6 (s : SH) : Prop := ∀ x ∈ s, x ≤ 6
theorem jN6.nil : jN6 [] := fun _ h => nomatch h
theorem jN6.cons {k : Nat} {s : SH} (hk : k ≤ 6) (h : jN6 s) : jN6 (k :: s) := by
  intro x hx
  rcases List.mem_cons.mp hx with e | e
  · rw [e]; exact hk
  · exact h x e
theorem jN6.tl {k : Nat} {s : SH} (h : jN6 (k :: s)) : jN6 s := fun x hx => h x (List.mem_cons_of_mem _ hx)
theorem jN6.pu {κ : Nat} {s : SH} (h : jN6 s) : jN6 (jPush κ s) := by
  unfold jPush
  split
  · exact h.cons (by omega)
  · split
    · exact (h.cons (by omega)).cons (by omega)
    · exact (h.cons (by omega)).cons (by omega)
theorem jN6.arg : ∀ (L : List Nat) (s : SH), jN6 (jArg L s) → jN6 s := by
  intro L
  induction L with
  | nil => intro s h; exact h
  | cons k L ih =>
    intro s h
    have h := ih _ h
    unfold jPush at h
    split at h
    · exact h.tl
    · split at h
      · exact h.tl.tl
      · exact h.tl.tl
/-- the things of a frame whose cells begin at cb and whose words begin at wb -/
def jLw (H : JHP) (j cb wb : Nat) (l le : JLY) : Prop := (∀ p o x, x.1 ≤ 4 → jAt l p o x → H j (cb + p) (wb + 4 + o) x) ∧ ∀ c w x, H j c w x → ∃ p o : Nat, x.1 ≤ 4 ∧ jAt le p o x ∧ c = cb + p ∧ w = wb + 4 + o
theorem jLw.le {H : JHP} {j cb wb : Nat} {l l1 le : JLY} (h : jLw H j cb wb l le) (e : jLe l1 l) : jLw H j cb wb l1 le := ⟨fun p o x hx q => h.1 p o x hx (e p o x hx q), h.2⟩
theorem jLw.cg {H H1 : JHP} {j cb wb : Nat} {l le : JLY} (h : jLw H j cb wb l le) (e : ∀ d v y, H1 j d v y ↔ H j d v y) : jLw H1 j cb wb l le := ⟨fun p o x hx q => (e _ _ _).mpr (h.1 p o x hx q), fun c w x q => h.2 c w x ((e _ _ _).mp q)⟩
theorem jLw.bd {H : JHP} {j cb wb : Nat} {l le : JLY} (h : jLw H j cb wb l le) {c w : Nat} {x : Nat × Nat} (q : H j c w x) : (cb ≤ c ∧ c + joC x ≤ cb + jsC le) ∧ wb + 4 ≤ w ∧ w + joW x ≤ wb + 4 + jsW le := by
  obtain ⟨p, o, -, h1, h2, h3⟩ := h.2 c w x q
  have := h1.le
  omega
/-- the frames that wait: n of them; where the next begins in cells and in words, and the operands below it -/
def jFS (S : JST) (cg : Nat) (H : JHP) (op st wd fn bk bs : Nat → Int32) : Nat → Nat → Nat → Nat → Prop
  | 0, cb, wb, t => cb = cg ∧ wb = 2000 ∧ t = 0
  | n + 1, cb, wb, t => ∃ (g a b : Nat) (mu : Nat → Nat) (A : JAN) (le : JLY) (cb0 wb0 t0 k : Nat) (s : SH) (l : JLY), jFS S cg H op st wd fn bk bs n cb0 wb0 t0 ∧ S g a b mu A le ∧ (fn n = nI g ∧ bs n = nI cb0 ∧ bk (n + 1) = nI k) ∧ (a ≤ k ∧ k < b ∧ A k = (0 :: s, some l) ∧ jN6 s) ∧ jLw H (n + 1) cb0 wb0 l le ∧ (cb = cb0 + jsC le ∧ wb = wb0 + 4 + jsW le ∧ t = t0 + s.length) ∧ jVs H (n + 2) op st s t ∧ wd wb = nI (mu k) ∧ wd (wb + 1) = nI wb0
/-- where the things of waiting frames lie -/
theorem jFS.geo {S : JST} {cg : Nat} {H : JHP} {op st wd fn bk bs : Nat → Int32} (h0 : ∀ c w x, H 0 c w x → c + joC x ≤ cg ∧ w + joW x ≤ 2000) : ∀ n cb wb t : Nat, jFS S cg H op st wd fn bk bs n cb wb t → (cg ≤ cb ∧ 2000 + 4 * n ≤ wb ∧ cb + 8000 ≤ cg + 4 * wb) ∧ ∀ i c w x, i ≤ n → H i c w x → c + joC x ≤ cb ∧ w + joW x ≤ wb := by
  intro n
  induction n with
  | zero =>
    rintro cb wb t ⟨e1, e2, e3⟩
    refine ⟨by omega, fun i c w x hi q => ?_⟩
    have ei : i = 0 := by omega
    rw [ei] at q
    have := h0 c w x q
    omega
  | succ n ih =>
    rintro cb wb t ⟨g, a, b, mu, A, le, cb0, wb0, t0, k, s, l, h1, -, -, -, h5, ⟨e1, e2, e3⟩, -, -⟩
    obtain ⟨⟨p1, p2, p3⟩, p4⟩ := ih cb0 wb0 t0 h1
    have q4 := jsC4 le
    refine ⟨by omega, fun i c w x hi q => ?_⟩
    by_cases c1 : i = n + 1
    · rw [c1] at q
      have := h5.bd q
      omega
    · have := p4 i c w x (by omega) q
      omega
/-- what the waiting frames read -/
theorem jFS.cg {S S1 : JST} {cg : Nat} {H H1 : JHP} {op st wd fn bk bs op1 st1 wd1 fn1 bk1 bs1 : Nat → Int32} {w0 v0 : Nat} (hS : ∀ g a b mu A le, S g a b mu A le → S1 g a b mu A le) (h0 : ∀ c w x, H 0 c w x → c + joC x ≤ cg ∧ w + joW x ≤ 2000) (hw : ∀ a, (a < w0 ∨ w0 + v0 ≤ a) → wd1 a = wd a) : ∀ n cb wb t : Nat, jFS S cg H op st wd fn bk bs n cb wb t → (∀ i d v y, i ≤ n → (H1 i d v y ↔ H i d v y)) → (∀ j, j < t → op1 j = op j ∧ st1 j = st j) → (∀ j, j < n → fn1 j = fn j ∧ bs1 j = bs j) → (∀ j, j ≤ n → bk1 j = bk j) → (wb + 2 ≤ w0 ∨ ∃ (j c : Nat) (x : Nat × Nat), j ≤ n ∧ H j c w0 x ∧ v0 = joW x) → jFS S1 cg H1 op1 st1 wd1 fn1 bk1 bs1 n cb wb t := by
  intro n
  induction n with
  | zero => intro cb wb t h _ _ _ _ _; exact h
  | succ n ih =>
    intro cb wb t h hH ho hf hb hr
    have hh := jFS.geo h0 (n + 1) cb wb t h
    obtain ⟨g, a, b, mu, A, le, cb0, wb0, t0, k, s, l, h1, h2, ⟨h3, h3', h3''⟩, h4, h5, ⟨e1, e2, e3⟩, h7, h8, h9⟩ := h
    have hr0 : wb + 2 ≤ w0 ∨ w0 + v0 ≤ wb := by
      rcases hr with q | ⟨j, c, x, q1, q2, q3⟩
      · exact .inl q
      · right
        have := (hh.2 j c w0 x q1 q2).2
        omega
    refine ⟨g, a, b, mu, A, le, cb0, wb0, t0, k, s, l, ih cb0 wb0 t0 h1 (fun i d v y hi => hH i d v y (by omega)) (fun j hj => ho j (by omega)) (fun j hj => hf j (by omega)) (fun j hj => hb j (by omega)) ?_, hS _ _ _ _ _ _ h2, ⟨?_, ?_, ?_⟩, h4, h5.cg (fun d v y => hH _ d v y (Nat.le_refl _)), ⟨e1, e2, e3⟩, jVs.cg (Nat.le_refl _) (fun i c w x hi q => (hH i c w x (by omega)).mpr q) s t ho h7, ?_, ?_⟩
    · rcases hr with q | ⟨j, c, x, q1, q2, q3⟩
      · left; omega
      · by_cases cj : j = n + 1
        · left
          rw [cj] at q2
          have := h5.bd q2
          omega
        · exact .inr ⟨j, c, x, by omega, q2, q3⟩
    · rw [(hf n (by omega)).1]; exact h3
    · rw [(hf n (by omega)).2]; exact h3'
    · rw [hb (n + 1) (Nat.le_refl _)]; exact h3''
    · rw [hw wb (by omega)]; exact h8
    · rw [hw (wb + 1) (by omega)]; exact h9
/-- a run of both at step k of function g -/
def jRc (S : JST) (gl : JLY) (H : JHP) (F1 : PF) (G1 : PG) (F2 : PF) (G2 : PG) (n g a b : Nat) (mu : Nat → Nat) (A : JAN) (le : JLY) (cb wb t k : Nat) (s : SH) (l : JLY) : Prop :=
  jFS S (jsC gl) H (G2 71) (G1 55) (G1 54) (G2 91) (G2 92) (G2 93) n cb wb t ∧ S g a b mu A le ∧ (G2 91 n = nI g ∧ G2 93 n = nI cb) ∧ (a ≤ k ∧ k < b ∧ A k = (s, some l) ∧ jN6 s) ∧ jLw H (n + 1) cb wb l le ∧
  (F2 85 = nI (n + 1) ∧ F2 86 = nI cb ∧ F2 87 = nI (cb + jsC le) ∧ F2 83 = nI (wb + 4 + jsW le - 2000)) ∧ (F1 58 = nI wb ∧ F1 59 = nI (wb + 4 + jsW le)) ∧ (F2 76 = nI k ∧ F1 57 = nI (mu k)) ∧ (F2 72 = nI (t + s.length) ∧ F1 56 = nI (t + s.length)) ∧
  jVs H (n + 2) (G2 71) (G1 55) s (t + s.length) ∧ jHp H (n + 1) (G2 90) (G1 54) ∧ (∀ c w x, H 0 c w x ↔ (x.1 ≤ 4 ∧ jAt gl c w x)) ∧ (jsW gl ≤ 2000 ∧ wb + 4 + jsW le ≤ 4000 ∧ t + s.length < 400000 ∧ jsW le ≤ 208)
theorem jH0 {H : JHP} {gl : JLY} (h : ∀ c w x, H 0 c w x ↔ (x.1 ≤ 4 ∧ jAt gl c w x)) (hg : jsW gl ≤ 2000) : ∀ c w x, H 0 c w x → c + joC x ≤ jsC gl ∧ w + joW x ≤ 2000 := by
  intro c w x q
  have := ((h c w x).mp q).2.le
  omega
/-- where all things of a run lie -/
theorem jRc.bd {S : JST} {gl : JLY} {H : JHP} {F1 F2 : PF} {G1 G2 : PG} {n g a b : Nat} {mu : Nat → Nat} {A : JAN} {le : JLY} {cb wb t k : Nat} {s : SH} {l : JLY} (h : jRc S gl H F1 G1 F2 G2 n g a b mu A le cb wb t k s l) : (jsC gl ≤ cb ∧ cb + jsC le ≤ 16000 ∧ 2000 + 4 * n ≤ wb) ∧ ∀ i c w x, i ≤ n + 1 → H i c w x → c + joC x ≤ cb + jsC le ∧ w + joW x ≤ wb + 4 + jsW le := by
  obtain ⟨h1, h2, h3, h4, h5, h6, h7, h8, h9, h10, h11, h12, h13, h14, h15, h16⟩ := h
  obtain ⟨⟨p1, p2, p3⟩, p4⟩ := jFS.geo (jH0 h12 h13) n cb wb t h1
  have q4 := jsC4 le
  have q5 := jsC4 gl
  refine ⟨by omega, fun i c w x hi q => ?_⟩
  by_cases e : i = n + 1
  · rw [e] at q
    have := h5.bd q
    omega
  · have := p4 i c w x (by omega) q
    omega
