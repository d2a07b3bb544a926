theorem bq_255 (i : Nat) (hi : i < 32) : (255#32).getLsbD i = decide (i < 8) := by
  revert i
  decide
/-- byte q of a word -/
def jBy (v : Int32) (q : Nat) : Int32 := (v.toUInt32 >>> ((nI (8 * q)).toUInt32 &&& Int32.toUInt32 31)).toInt32 &&& 255
/-- a word with another byte q -/
def jSb (z v : Int32) (q : Nat) : Int32 := (z &&& (((255 : Int32) <<< (nI (8 * q) &&& 31)) ^^^ (-1 : Int32))) ||| ((v &&& 255) <<< (nI (8 * q) &&& 31))
theorem bq_eq (z v : BitVec 32) (s : Nat) (hs : s ≤ 24) : (((z &&& ((255#32 <<< s) ^^^ 4294967295#32)) ||| ((v &&& 255#32) <<< s)) >>> s) &&& 255#32 = v &&& 255#32 := by
  apply BitVec.eq_of_getLsbD_eq
  intro i hi
  have o : (4294967295#32).getLsbD (s + i) = decide (s + i < 32) := by
    have : ∀ j : Nat, j < 56 → (4294967295#32).getLsbD j = decide (j < 32) := by decide
    exact this _ (by omega)
  rw [BitVec.getLsbD_and, BitVec.getLsbD_and, BitVec.getLsbD_ushiftRight, BitVec.getLsbD_or, BitVec.getLsbD_and, BitVec.getLsbD_xor, BitVec.getLsbD_shiftLeft, BitVec.getLsbD_shiftLeft, BitVec.getLsbD_and, o, bq_255 i hi]
  by_cases h : i < 8
  · rw [show s + i - s = i by omega, bq_255 i hi]
    simp [h, show s + i < 32 by omega, show ¬ s + i < s by omega]
  · simp [h]
theorem bq_ne (z v : BitVec 32) (s t : Nat) (hs : s ≤ 24) (ht : t ≤ 24) (h : s + 8 ≤ t ∨ t + 8 ≤ s) : (((z &&& ((255#32 <<< s) ^^^ 4294967295#32)) ||| ((v &&& 255#32) <<< s)) >>> t) &&& 255#32 = (z >>> t) &&& 255#32 := by
  apply BitVec.eq_of_getLsbD_eq
  intro i hi
  have o : (4294967295#32).getLsbD (t + i) = decide (t + i < 32) := by
    have : ∀ j : Nat, j < 56 → (4294967295#32).getLsbD j = decide (j < 32) := by decide
    exact this _ (by omega)
  rw [BitVec.getLsbD_and, BitVec.getLsbD_and, BitVec.getLsbD_ushiftRight, BitVec.getLsbD_ushiftRight, BitVec.getLsbD_or, BitVec.getLsbD_and, BitVec.getLsbD_xor, BitVec.getLsbD_shiftLeft, BitVec.getLsbD_shiftLeft, BitVec.getLsbD_and, o, bq_255 i hi]
  by_cases c : i < 8
  · by_cases d : t + i < s
    · simp [c, d, show t + i < 32 by omega]
    · rw [bq_255 (t + i - s) (by omega)]
      simp [c, d, show t + i < 32 by omega, show ¬ t + i - s < 8 by omega]
  · simp [c]
theorem jSb_eq (z v : Int32) : ∀ q : Nat, q < 4 → jBy (jSb z v q) q = v &&& 255 := by
  intro q hq
  rcases (show q = 0 ∨ q = 1 ∨ q = 2 ∨ q = 3 by omega) with e | e | e | e <;> subst e
  · exact Int32.toBitVec.inj (bq_eq z.toBitVec v.toBitVec 0 (by decide))
  · exact Int32.toBitVec.inj (bq_eq z.toBitVec v.toBitVec 8 (by decide))
  · exact Int32.toBitVec.inj (bq_eq z.toBitVec v.toBitVec 16 (by decide))
  · exact Int32.toBitVec.inj (bq_eq z.toBitVec v.toBitVec 24 (by decide))
theorem jSb_ne (z v : Int32) : ∀ q r : Nat, q < 4 → r < 4 → r ≠ q → jBy (jSb z v q) r = jBy z r := by
  intro q r hq hr ne
  rcases (show q = 0 ∨ q = 1 ∨ q = 2 ∨ q = 3 by omega) with e | e | e | e <;> subst e <;> rcases (show r = 0 ∨ r = 1 ∨ r = 2 ∨ r = 3 by omega) with f | f | f | f <;> subst f
  · exact absurd rfl ne
  · exact Int32.toBitVec.inj (bq_ne z.toBitVec v.toBitVec 0 8 (by decide) (by decide) (by decide))
  · exact Int32.toBitVec.inj (bq_ne z.toBitVec v.toBitVec 0 16 (by decide) (by decide) (by decide))
  · exact Int32.toBitVec.inj (bq_ne z.toBitVec v.toBitVec 0 24 (by decide) (by decide) (by decide))
  · exact Int32.toBitVec.inj (bq_ne z.toBitVec v.toBitVec 8 0 (by decide) (by decide) (by decide))
  · exact absurd rfl ne
  · exact Int32.toBitVec.inj (bq_ne z.toBitVec v.toBitVec 8 16 (by decide) (by decide) (by decide))
  · exact Int32.toBitVec.inj (bq_ne z.toBitVec v.toBitVec 8 24 (by decide) (by decide) (by decide))
  · exact Int32.toBitVec.inj (bq_ne z.toBitVec v.toBitVec 16 0 (by decide) (by decide) (by decide))
  · exact Int32.toBitVec.inj (bq_ne z.toBitVec v.toBitVec 16 8 (by decide) (by decide) (by decide))
  · exact absurd rfl ne
  · exact Int32.toBitVec.inj (bq_ne z.toBitVec v.toBitVec 16 24 (by decide) (by decide) (by decide))
  · exact Int32.toBitVec.inj (bq_ne z.toBitVec v.toBitVec 24 0 (by decide) (by decide) (by decide))
  · exact Int32.toBitVec.inj (bq_ne z.toBitVec v.toBitVec 24 8 (by decide) (by decide) (by decide))
  · exact Int32.toBitVec.inj (bq_ne z.toBitVec v.toBitVec 24 16 (by decide) (by decide) (by decide))
  · exact absurd rfl ne
theorem jBy_0 : ∀ q : Nat, q < 4 → jBy 0 q = 0 := by decide
/-- the things that both memories have: of all (level 0), of frame j (level j + 1): first cell, first word, what it is -/
abbrev JHP : Type := Nat → Nat → Nat → (Nat × Nat) → Prop
/-- an array below level L: its base and size in both -/
def jRf (H : JHP) (L κ : Nat) (a n b m : Int32) : Prop := ∃ i c w N : Nat, i < L ∧ H i c w (κ, N) ∧ a = nI c ∧ b = nI w ∧ n = nI N ∧ m = nI N
/-- an element of an array below level L -/
def jAdr (H : JHP) (L κ : Nat) (a b : Int32) : Prop := ∃ i c w N y : Nat, i < L ∧ H i c w (κ, N) ∧ y < N ∧ a = nI (c + y) ∧ b = nI (if κ = 1 then w + y else 4 * w + y)
theorem jRf.mono {H H1 : JHP} {L L1 κ : Nat} {a n b m : Int32} (h : jRf H L κ a n b m) (e : L ≤ L1) (hh : ∀ i c w x, i < L → H i c w x → H1 i c w x) : jRf H1 L1 κ a n b m := by
  obtain ⟨i, c, w, N, h1, h2, h3⟩ := h
  exact ⟨i, c, w, N, by omega, hh _ _ _ _ h1 h2, h3⟩
theorem jAdr.mono {H H1 : JHP} {L L1 κ : Nat} {a b : Int32} (h : jAdr H L κ a b) (e : L ≤ L1) (hh : ∀ i c w x, i < L → H i c w x → H1 i c w x) : jAdr H1 L1 κ a b := by
  obtain ⟨i, c, w, N, y, h1, h2, h3⟩ := h
  exact ⟨i, c, w, N, y, by omega, hh _ _ _ _ h1 h2, h3⟩
/-- both have the same there -/
def jCt (H : JHP) (ce wd : Nat → Int32) (j c w : Nat) (x : Nat × Nat) : Prop :=
  (x.1 = 0 → ce c = wd w) ∧ (x.1 = 1 → ∀ i : Nat, i < x.2 → ce (c + i) = wd (w + i)) ∧ (x.1 = 2 → ∀ i : Nat, i < x.2 → ce (c + i) = jBy (wd (w + i / 4)) (i % 4)) ∧
  (x.1 = 3 → jRf H j 1 (ce c) (ce (c + 1)) (wd w) (wd (w + 1))) ∧ (x.1 = 4 → jRf H j 2 (ce c) (ce (c + 1)) (wd w) (wd (w + 1))) ∧ (x.1 = 2 → ∀ i : Nat, x.2 ≤ i → i < 4 * joW x → jBy (wd (w + i / 4)) (i % 4) = 0)
def jSp (c w : Nat) (x : Nat × Nat) (d v : Nat) (y : Nat × Nat) : Prop := (c + joC x ≤ d ∨ d + joC y ≤ c) ∧ (w + joW x ≤ v ∨ v + joW y ≤ w)
theorem jAt.one {l : JLY} {p o p1 o1 : Nat} {x y : Nat × Nat} (h : jAt l p o x) (h1 : jAt l p1 o1 y) : (p = p1 ∧ o = o1 ∧ x = y) ∨ ((p + joC x ≤ p1 ∨ p1 + joC y ≤ p) ∧ (o + joW x ≤ o1 ∨ o1 + joW y ≤ o)) := by
  obtain ⟨l1, l2, e, f, g⟩ := h
  obtain ⟨m1, m2, e1, f1, g1⟩ := h1
  rw [e] at e1
  rcases List.append_eq_append_iff.mp e1 with ⟨c, w1, w2⟩ | ⟨c, w1, w2⟩
  · cases c with
    | nil =>
      rw [List.append_nil] at w1
      have w2 := List.cons.inj w2
      exact .inl ⟨by rw [f, f1, w1], by rw [g, g1, w1], w2.1⟩
    | cons z c =>
      have w2 := List.cons.inj w2
      rw [w1, jsC_app] at f1
      rw [w1, jsW_app] at g1
      have u1 : jsC (z :: c) = joC z + jsC c := rfl
      have u2 : jsW (z :: c) = joW z + jsW c := rfl
      rw [← w2.1] at u1 u2
      rw [← w2.1] at f1 g1
      exact .inr ⟨.inl (by omega), .inl (by omega)⟩
  · cases c with
    | nil =>
      rw [List.append_nil] at w1
      have w2 := List.cons.inj w2
      exact .inl ⟨by rw [f, f1, w1], by rw [g, g1, w1], w2.1.symm⟩
    | cons z c =>
      have w2 := List.cons.inj w2
      rw [w1, jsC_app] at f
      rw [w1, jsW_app] at g
      have u1 : jsC (z :: c) = joC z + jsC c := rfl
      have u2 : jsW (z :: c) = joW z + jsW c := rfl
      rw [← w2.1] at u1 u2
      rw [← w2.1] at f g
      exact .inr ⟨.inr (by omega), .inr (by omega)⟩
theorem jSp.sy {c w d v : Nat} {x y : Nat × Nat} (h : jSp c w x d v y) : jSp d v y c w x := ⟨h.1.symm, h.2.symm⟩
/-- both memories, up to level n -/
def jHp (H : JHP) (n : Nat) (ce wd : Nat → Int32) : Prop :=
  (∀ i j c w d v x y, i ≤ n → j ≤ n → H i c w x → H j d v y → (i = j ∧ c = d ∧ w = v ∧ x = y) ∨ jSp c w x d v y) ∧
  ∀ j c w x, j ≤ n → H j c w x → x.1 ≤ 4 ∧ jCt H ce wd j c w x
theorem jCt.cg {H H1 : JHP} {ce wd ce1 wd1 : Nat → Int32} {j c w : Nat} {x : Nat × Nat} (h : jCt H ce wd j c w x) (hx : x.1 ≤ 4) (hc : ∀ a, c ≤ a → a < c + joC x → ce1 a = ce a) (hw : ∀ a, w ≤ a → a < w + joW x → wd1 a = wd a) (hh : ∀ i c w x, i < j → H i c w x → H1 i c w x) : jCt H1 ce1 wd1 j c w x := by
  obtain ⟨h0, h1, h2, h3, h4, h5⟩ := h
  have hw' := hw
  unfold joC at hc
  unfold joW at hw
  refine ⟨fun e => ?_, fun e i hi => ?_, fun e i hi => ?_, fun e => ?_, fun e => ?_, fun e i hi hj => by rw [hw' _ (by omega) (by omega)]; exact h5 e i hi hj⟩
  · rw [if_pos e] at hc hw
    rw [hc c (by omega) (by omega), hw w (by omega) (by omega)]
    exact h0 e
  · rw [if_neg (by omega), if_pos e] at hc hw
    rw [hc _ (by omega) (by omega), hw _ (by omega) (by omega)]
    exact h1 e i hi
  · rw [if_neg (by omega), if_neg (by omega), if_pos e] at hc hw
    rw [hc _ (by omega) (by omega), hw _ (by omega) (by omega)]
    exact h2 e i hi
  · rw [if_neg (by omega), if_neg (by omega), if_neg (by omega), if_neg (by omega)] at hc hw
    rw [hc _ (by omega) (by omega), hw _ (by omega) (by omega), hc _ (by omega) (by omega), hw _ (by omega) (by omega)]
    exact (h3 e).mono (Nat.le_refl _) hh
  · rw [if_neg (by omega), if_neg (by omega), if_neg (by omega), if_neg (by omega)] at hc hw
    rw [hc _ (by omega) (by omega), hw _ (by omega) (by omega), hc _ (by omega) (by omega), hw _ (by omega) (by omega)]
    exact (h4 e).mono (Nat.le_refl _) hh
/-- only one thing changes -/
theorem jHp.put {H : JHP} {n j c w : Nat} {x : Nat × Nat} {ce wd ce1 wd1 : Nat → Int32} (h : jHp H n ce wd) (hj : j ≤ n) (hx : H j c w x) (hc : ∀ a, (a < c ∨ c + joC x ≤ a) → ce1 a = ce a) (hw : ∀ a, (a < w ∨ w + joW x ≤ a) → wd1 a = wd a) (ht : jCt H ce1 wd1 j c w x) : jHp H n ce1 wd1 := by
  refine ⟨h.1, fun i d v y hi hy => ?_⟩
  have q := h.2 i d v y hi hy
  refine ⟨q.1, ?_⟩
  rcases h.1 i j d v c w y x hi hj hy hx with ⟨e1, e2, e3, e4⟩ | ⟨s1, s2⟩
  · rw [e1, e2, e3, e4]
    exact ht
  · exact q.2.cg q.1 (fun a a1 a2 => hc a (by omega)) (fun a a1 a2 => hw a (by omega)) (fun _ _ _ _ _ z => z)
/-- a thing of level j comes to it, or comes again -/
theorem jHp.new {H : JHP} {n j c w : Nat} {x : Nat × Nat} {ce wd ce1 wd1 : Nat → Int32} (h : jHp H n ce wd) (hj : j ≤ n) (hx : x.1 ≤ 2) (hs : ∀ i d v y, i ≤ n → H i d v y → (i = j ∧ d = c ∧ v = w ∧ y = x) ∨ jSp c w x d v y) (hc : ∀ a, (a < c ∨ c + joC x ≤ a) → ce1 a = ce a) (hw : ∀ a, (a < w ∨ w + joW x ≤ a) → wd1 a = wd a) (ht : jCt H ce1 wd1 j c w x) : jHp (fun i d v y => H i d v y ∨ (i = j ∧ d = c ∧ v = w ∧ y = x)) n ce1 wd1 := by
  refine ⟨fun i k d v d1 v1 y z hi hk hy hz => ?_, fun i d v y hi hy => ?_⟩
  · rcases hy with hy | ⟨a1, a2, a3, a4⟩
    · rcases hz with hz | ⟨b1, b2, b3, b4⟩
      · exact h.1 i k d v d1 v1 y z hi hk hy hz
      · rw [b1, b2, b3, b4]
        rcases hs i d v y hi hy with q | q
        · exact .inl q
        · exact .inr q.sy
    · rw [a1, a2, a3, a4]
      rcases hz with hz | ⟨b1, b2, b3, b4⟩
      · rcases hs k d1 v1 z hk hz with ⟨q1, q2, q3, q4⟩ | q
        · exact .inl ⟨q1.symm, q2.symm, q3.symm, q4.symm⟩
        · exact .inr q
      · exact .inl ⟨b1.symm, b2.symm, b3.symm, b4.symm⟩
  · have new : x.1 ≤ 4 ∧ jCt (fun i d v y => H i d v y ∨ (i = j ∧ d = c ∧ v = w ∧ y = x)) ce1 wd1 j c w x := ⟨by omega, ht.cg (by omega) (fun _ _ _ => rfl) (fun _ _ _ => rfl) (fun _ _ _ _ _ z => .inl z)⟩
    rcases hy with hy | ⟨a1, a2, a3, a4⟩
    · rcases hs i d v y hi hy with ⟨e1, e2, e3, e4⟩ | ⟨s1, s2⟩
      · rw [e1, e2, e3, e4]
        exact new
      · have q := h.2 i d v y hi hy
        exact ⟨q.1, q.2.cg q.1 (fun a a1 a2 => hc a (by omega)) (fun a a1 a2 => hw a (by omega)) (fun _ _ _ _ _ z => .inl z)⟩
    · rw [a1, a2, a3, a4]
      exact new
theorem jHp.le {H : JHP} {n m : Nat} {ce wd : Nat → Int32} (h : jHp H n ce wd) (hm : m ≤ n) : jHp H m ce wd := ⟨fun i j c w d v x y hi hj => h.1 i j c w d v x y (by omega) (by omega), fun j c w x hj => h.2 j c w x (by omega)⟩
/-- one level more -/
theorem jHp.lev {H : JHP} {n cb wb : Nat} {ce wd ce1 wd1 : Nat → Int32} {M : Nat → Nat → (Nat × Nat) → Prop} (h : jHp H n ce wd) (hb : ∀ i c w x, i ≤ n → H i c w x → c + joC x ≤ cb ∧ w + joW x ≤ wb) (hM : ∀ c w x, M c w x → x.1 ≤ 4 ∧ cb ≤ c ∧ wb ≤ w) (hd : ∀ c w d v x y, M c w x → M d v y → (c = d ∧ w = v ∧ x = y) ∨ jSp c w x d v y) (hc : ∀ a, a < cb → ce1 a = ce a) (hw : ∀ a, a < wb → wd1 a = wd a) (ht : ∀ c w x, M c w x → jCt H ce1 wd1 (n + 1) c w x) : jHp (fun i => if i = n + 1 then M else H i) (n + 1) ce1 wd1 := by
  have lo : ∀ i c w x, i ≤ n → ((if i = n + 1 then M else H i) c w x ↔ H i c w x) := fun i c w x hi => by rw [if_neg (by omega)]
  have hi : ∀ c w x, ((if n + 1 = n + 1 then M else H (n + 1)) c w x ↔ M c w x) := fun c w x => by rw [if_pos rfl]
  have up : ∀ i c w x, i < n + 1 → H i c w x → (if i = n + 1 then M else H i) c w x := fun i c w x q z => (lo i c w x (by omega)).mpr z
  refine ⟨fun i j c w d v x y i1 j1 hx hy => ?_, fun j c w x j1 hx => ?_⟩
  · dsimp only at hx hy
    by_cases ei : i = n + 1
    · subst ei
      have hx := (hi c w x).mp hx
      by_cases ej : j = n + 1
      · subst ej
        have hy := (hi d v y).mp hy
        rcases hd c w d v x y hx hy with q | q
        · exact .inl ⟨rfl, q⟩
        · exact .inr q
      · have hy := (lo j d v y (by omega)).mp hy
        have b := hb j d v y (by omega) hy
        have m := hM c w x hx
        exact .inr ⟨.inr (by omega), .inr (by omega)⟩
    · have hx := (lo i c w x (by omega)).mp hx
      by_cases ej : j = n + 1
      · subst ej
        have hy := (hi d v y).mp hy
        have b := hb i c w x (by omega) hx
        have m := hM d v y hy
        exact .inr ⟨.inl (by omega), .inl (by omega)⟩
      · have hy := (lo j d v y (by omega)).mp hy
        exact h.1 i j c w d v x y (by omega) (by omega) hx hy
  · dsimp only at hx
    by_cases ej : j = n + 1
    · subst ej
      have hx := (hi c w x).mp hx
      exact ⟨(hM c w x hx).1, (ht c w x hx).cg (hM c w x hx).1 (fun _ _ _ => rfl) (fun _ _ _ => rfl) up⟩
    · have hx := (lo j c w x (by omega)).mp hx
      have q := h.2 j c w x (by omega) hx
      have b := hb j c w x (by omega) hx
      exact ⟨q.1, q.2.cg q.1 (fun a a1 a2 => hc a (by omega)) (fun a a1 a2 => hw a (by omega)) (fun i c w x i1 z => up i c w x (by omega) z)⟩
/-- the operands of a shape, the topmost at t - 1 -/
def jVs (H : JHP) (L : Nat) (op st : Nat → Int32) : SH → Nat → Prop
  | [], _ => True
  | k :: s, t => 1 ≤ t ∧ jVs H L op st s (t - 1) ∧ (k = 0 → op (t - 1) = st (t - 1)) ∧ (k = 1 → jAdr H L 1 (op (t - 1)) (st (t - 1))) ∧ (k = 2 → jAdr H L 2 (op (t - 1)) (st (t - 1))) ∧ (k = 4 → jRf H L 1 (op (t - 2)) (op (t - 1)) (st (t - 2)) (st (t - 1))) ∧ (k = 6 → jRf H L 2 (op (t - 2)) (op (t - 1)) (st (t - 2)) (st (t - 1)))
theorem jVs.cg {H H1 : JHP} {L L1 : Nat} {op st op1 st1 : Nat → Int32} (e : L ≤ L1) (hh : ∀ i c w x, i < L → H i c w x → H1 i c w x) : ∀ (s : SH) (t : Nat), (∀ j, j < t → op1 j = op j ∧ st1 j = st j) → jVs H L op st s t → jVs H1 L1 op1 st1 s t := by
  intro s
  induction s with
  | nil => intro t _ _; exact trivial
  | cons k s ih =>
    rintro t ho ⟨h1, h2, h3, h4, h5, h6, h7⟩
    have q := ho (t - 1) (by omega)
    refine ⟨h1, ih (t - 1) (fun j hj => ho j (by omega)) h2, fun z => ?_, fun z => ?_, fun z => ?_, fun z => ?_, fun z => ?_⟩
    · rw [q.1, q.2]; exact h3 z
    · rw [q.1, q.2]; exact (h4 z).mono e hh
    · rw [q.1, q.2]; exact (h5 z).mono e hh
    · by_cases c : 2 ≤ t
      · have r := ho (t - 2) (by omega)
        rw [q.1, q.2, r.1, r.2]; exact (h6 z).mono e hh
      · have r := ho (t - 2) (by omega)
        rw [q.1, q.2, r.1, r.2]; exact (h6 z).mono e hh
    · have r := ho (t - 2) (by omega)
      rw [q.1, q.2, r.1, r.2]; exact (h7 z).mono e hh
theorem jVs.le {H : JHP} {L : Nat} {op st : Nat → Int32} : ∀ (s : SH) (t : Nat), jVs H L op st s t → s.length ≤ t := by
  intro s
  induction s with
  | nil => intro t _; exact Nat.zero_le _
  | cons k s ih =>
    intro t h
    have := ih _ h.2.1
    have := h.1
    rw [List.length_cons]
    omega
/-- one operand more -/
theorem jVs.pu {H : JHP} {L : Nat} {op st op1 st1 : Nat → Int32} {s : SH} {t : Nat} {k : Nat} (h : jVs H L op st s t) (ho : ∀ j, j < t → op1 j = op j ∧ st1 j = st j) (h0 : k = 0 → op1 t = st1 t) (h1 : k = 1 → jAdr H L 1 (op1 t) (st1 t)) (h2 : k = 2 → jAdr H L 2 (op1 t) (st1 t)) (h4 : ¬ k = 4) (h6 : ¬ k = 6) : jVs H L op1 st1 (k :: s) (t + 1) :=
  ⟨by omega, h.cg (Nat.le_refl _) (fun _ _ _ _ _ z => z) s t ho, h0, h1, h2, fun z => absurd z h4, fun z => absurd z h6⟩
/-- an array is passed -/
theorem jVs.pa {H : JHP} {L κ : Nat} {op st op1 st1 : Nat → Int32} {s : SH} {t : Nat} (hκ : κ = 1 ∨ κ = 2) (h : jVs H L op st s t) (ho : ∀ j, j < t → op1 j = op j ∧ st1 j = st j) (hr : jRf H L κ (op1 t) (op1 (t + 1)) (st1 t) (st1 (t + 1))) : jVs H L op1 st1 (jPush κ s) (t + 2) := by
  have b := h.cg (op1 := op1) (st1 := st1) (Nat.le_refl _) (fun _ _ _ _ _ z => z) s t ho
  rcases hκ with e | e <;> subst e
  · exact ⟨by omega, ⟨by omega, b, fun z => absurd z (by decide), fun z => absurd z (by decide), fun z => absurd z (by decide), fun z => absurd z (by decide), fun z => absurd z (by decide)⟩, fun z => absurd z (by decide), fun z => absurd z (by decide), fun z => absurd z (by decide), fun _ => hr, fun z => absurd z (by decide)⟩
  · exact ⟨by omega, ⟨by omega, b, fun z => absurd z (by decide), fun z => absurd z (by decide), fun z => absurd z (by decide), fun z => absurd z (by decide), fun z => absurd z (by decide)⟩, fun z => absurd z (by decide), fun z => absurd z (by decide), fun z => absurd z (by decide), fun z => absurd z (by decide), fun _ => hr⟩
