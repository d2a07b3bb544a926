/-- the code of function g, in both, with what it is made of -/
def jFw (gl : JLY) (K : Nat → List Nat) (g B WB : Nat) (Gc Gm : PG) (a b : Nat) (mu : Nat → Nat) (A : JAN) (le : JLY) : Prop := (Gm 30 g = nI a ∧ a < b ∧ b ≤ B) ∧ (Gc 80 g = nI (mu a) ∧ mu b ≤ WB ∧ jMo mu a b) ∧ (A a = ([], some (jFl (K g))) ∧ (A b).1 = [8]) ∧ (Gm 28 g = nI (4 + jsW le) ∧ Gm 29 g = nI (jsC le) ∧ jsW le ≤ 208) ∧ (∀ (k : Nat) (l : JLY), a ≤ k → k ≤ b → (A k).2 = some l → jLe l le) ∧ ∀ k : Nat, a ≤ k → k < b → jT (false, gl, le, K) Gm Gc mu A b k
theorem jFC.fw {gl : JLY} {K : Nat → List Nat} {g B WB : Nat} {Gc Gm : PG} (h : jFC gl K g B WB Gc Gm) : ∃ (a b : Nat) (mu : Nat → Nat) (A : JAN) (le : JLY), jFw gl K g B WB Gc Gm a b mu A le := h
def jSS (gl : JLY) (K : Nat → List Nat) (nf B WB : Nat) (Gc Gm : PG) : JST := fun g a b mu A le => g < nf ∧ jFw gl K g B WB Gc Gm a b mu A le
/-- a run of both, somewhere -/
def jRg (S : JST) (gl : JLY) (F1 : PF) (G1 : PG) (F2 : PF) (G2 : PG) : Prop := jXn F1 ∧ ∃ (H : JHP) (n g a b : Nat) (mu : Nat → Nat) (A : JAN) (le : JLY) (cb wb t k : Nat) (s : SH) (l : JLY), jRc S gl H F1 G1 F2 G2 n g a b mu A le cb wb t k s l
section JQA
variable {S : JST} {gl : JLY} {H H1 : JHP} {F1 F2 F3 F4 : PF} {G1 G2 G3 G4 : PG} {n g a b : Nat} {mu : Nat → Nat} {A : JAN} {le : JLY} {cb wb t k k1 q q1 : Nat} {s s0 s1 : SH} {l lx : JLY} {xs ys : List Int32} {wd ce : Nat → Int32}
/-- a step inside of a function -/
theorem jRc.go (R : jRc S gl H F1 G1 F2 G2 n g a b mu A le cb wb t k s l) (c : jCe (mu k1) (t + s.length) q xs wd F1 G1 F3 G3) (m : jMe k1 (t + s.length) q1 ys ce F2 G2 F4 G4) (hq : q ≤ s.length ∧ q1 ≤ s.length) (h8 : (A b).1 = [8]) (an : jAn A k1 s1 lx) (hk : a ≤ k1 ∧ k1 ≤ b) (n6 : jN6 s1) (hl : s1.length + q = s.length + xs.length) (hl1 : s1.length + q1 = s.length + ys.length) (lv : jLw H1 (n + 1) cb wb lx le) (hv : jVs H1 (n + 2) (G4 71) (G3 55) s1 (t + s1.length)) (hp : jHp H1 (n + 1) ce wd) (hH : ∀ i d v y, i ≤ n → (H1 i d v y ↔ H i d v y)) (hw : ∃ w0 v0 : Nat, (∀ a, (a < w0 ∨ w0 + v0 ≤ a) → wd a = G1 54 a) ∧ (wb + 2 ≤ w0 ∨ ∃ (j c : Nat) (x : Nat × Nat), j ≤ n ∧ H j c w0 x ∧ v0 = joW x)) (h4 : t + s1.length < 400000) : jRg S gl F3 G3 F4 G4 := by
  obtain ⟨r1, r2, ⟨r3, r4⟩, ⟨r5, r6, r7, r8⟩, r9, ⟨r10, r11, r12, r13⟩, ⟨r14, r15⟩, ⟨r16, r17⟩, ⟨r18, r19⟩, r20, r21, r22, r23, r24, r25, r26⟩ := R
  obtain ⟨ck, c57, cx, ⟨cs1, cs2, cs3⟩, c54⟩ := c
  obtain ⟨mk, m76, ⟨ms1, ms2, ms3⟩, m90⟩ := m
  obtain ⟨l1, an1, an2⟩ := an
  obtain ⟨w0, v0, hw1, hw2⟩ := hw
  have kb : k1 < b := by
    rcases Nat.lt_or_ge k1 b with z | z
    · exact z
    · have e : k1 = b := by omega
      rw [← e, an1] at h8
      have h8 : s1 = [8] := h8
      have := n6 8 (by rw [h8]; exact List.mem_cons_self ..)
      omega
  refine ⟨cx, H1, n, g, a, b, mu, A, le, cb, wb, t, k1, s1, l1, ?_, r2, ⟨?_, ?_⟩, ⟨hk.1, kb, an1, n6⟩, lv.le an2, ⟨?_, ?_, ?_, ?_⟩, ⟨?_, ?_⟩, ⟨m76, c57⟩, ⟨?_, ?_⟩, hv, ?_, fun c w x => (hH 0 c w x (Nat.zero_le _)).trans (r22 c w x), r23, r24, h4, r26⟩
  · rw [c54, mk.2 91 rfl, mk.2 92 rfl, mk.2 93 rfl]
    exact jFS.cg (fun _ _ _ _ _ _ z => z) (jH0 r22 r23) hw1 n cb wb t r1 hH (fun j hj => ⟨ms2 j (by omega), cs2 j (by omega)⟩) (fun _ _ => ⟨rfl, rfl⟩) (fun _ _ => rfl) hw2
  · rw [mk.2 91 rfl]; exact r3
  · rw [mk.2 93 rfl]; exact r4
  · rw [mk.1 85 rfl]; exact r10
  · rw [mk.1 86 rfl]; exact r11
  · rw [mk.1 87 rfl]; exact r12
  · rw [mk.1 83 rfl]; exact r13
  · rw [ck.1 58 rfl]; exact r14
  · rw [ck.1 59 rfl]; exact r15
  · rw [ms1]; exact congrArg nI (by omega)
  · rw [cs1]; exact congrArg nI (by omega)
  · rw [c54, m90]; exact hp
/-- nothing of the memory changes -/
theorem jRc.op (R : jRc S gl H F1 G1 F2 G2 n g a b mu A le cb wb t k s l) (c : jCe (mu k1) (t + s.length) q xs (G1 54) F1 G1 F3 G3) (m : jMe k1 (t + s.length) q1 ys (G2 90) F2 G2 F4 G4) (hq : q ≤ s.length ∧ q1 ≤ s.length) (h8 : (A b).1 = [8]) (an : jAn A k1 s1 l) (hk : a ≤ k1 ∧ k1 ≤ b) (n6 : jN6 s1) (hl : s1.length + q = s.length + xs.length) (hl1 : s1.length + q1 = s.length + ys.length) (hv : jVs H (n + 2) (G4 71) (G3 55) s1 (t + s1.length)) (h4 : t + s1.length < 400000) : jRg S gl F3 G3 F4 G4 :=
  jRc.go R c m hq h8 an hk n6 hl hl1 R.2.2.2.2.1 hv R.2.2.2.2.2.2.2.2.2.2.1 (fun _ _ _ _ _ => Iff.rfl) ⟨wb + 4, 0, fun _ _ => rfl, .inl (by omega)⟩ h4
/-- q operands go, nothing comes -/
theorem jRc.p0 (R : jRc S gl H F1 G1 F2 G2 n g a b mu A le cb wb t k s l) (c : jCe (mu k1) (t + s.length) q [] (G1 54) F1 G1 F3 G3) (m : jMe k1 (t + s.length) q [] (G2 90) F2 G2 F4 G4) (hs : s.length = s0.length + q) (n6 : jN6 s0) (v : jVs H (n + 2) (G2 71) (G1 55) s0 (t + s0.length)) (h8 : (A b).1 = [8]) (an : jAn A k1 s0 l) (hk : a ≤ k1 ∧ k1 ≤ b) : jRg S gl F3 G3 F4 G4 := by
  have z := R.2.2.2.2.2.2.2.2.2.2.2.2.2.2.1
  refine jRc.op R c m ⟨by omega, by omega⟩ h8 an hk n6 (by show s0.length + q = s.length + 0; omega) (by show s0.length + q = s.length + 0; omega) ?_ (by omega)
  exact v.cg (Nat.le_refl _) (fun _ _ _ _ _ z => z) s0 _ (fun j hj => ⟨m.2.2.1.2.1 j (by omega), c.2.2.2.1.2.1 j (by omega)⟩)
/-- q operands go, one comes -/
theorem jRc.p1 {κ : Nat} {x x1 : Int32} (R : jRc S gl H F1 G1 F2 G2 n g a b mu A le cb wb t k s l) (c : jCe (mu k1) (t + s.length) q [x] (G1 54) F1 G1 F3 G3) (m : jMe k1 (t + s.length) q [x1] (G2 90) F2 G2 F4 G4) (hs : s.length = s0.length + q) (n6 : jN6 s0) (v : jVs H (n + 2) (G2 71) (G1 55) s0 (t + s0.length)) (hκ : κ ≤ 2) (e0 : κ = 0 → x1 = x) (e1 : κ = 1 → jAdr H (n + 2) 1 x1 x) (e2 : κ = 2 → jAdr H (n + 2) 2 x1 x) (h8 : (A b).1 = [8]) (an : jAn A k1 (κ :: s0) l) (hk : a ≤ k1 ∧ k1 ≤ b) (h4 : t + s.length < 399000) : jRg S gl F3 G3 F4 G4 := by
  have ec : G3 55 (t + s0.length) = x := by
    have := c.2.2.2.1.2.2 0 x rfl
    rw [show t + s.length - q + 0 = t + s0.length by omega] at this
    exact this
  have em : G4 71 (t + s0.length) = x1 := by
    have := m.2.2.1.2.2 0 x1 rfl
    rw [show t + s.length - q + 0 = t + s0.length by omega] at this
    exact this
  refine jRc.op R c m ⟨by omega, by omega⟩ h8 an hk (n6.cons (by omega)) (by show s0.length + 1 + q = s.length + 1; omega) (by show s0.length + 1 + q = s.length + 1; omega) ?_ (by show t + (s0.length + 1) < 400000; omega)
  refine v.pu (fun j hj => ⟨m.2.2.1.2.1 j (by omega), c.2.2.2.1.2.1 j (by omega)⟩) (fun z => ?_) (fun z => ?_) (fun z => ?_) (by omega) (by omega)
  · rw [em, ec]; exact e0 z
  · rw [em, ec]; exact e1 z
  · rw [em, ec]; exact e2 z
/-- an array is passed -/
theorem jRc.p2 {κ : Nat} {x z x1 z1 : Int32} (R : jRc S gl H F1 G1 F2 G2 n g a b mu A le cb wb t k s l) (c : jCe (mu k1) (t + s.length) 0 [x, z] (G1 54) F1 G1 F3 G3) (m : jMe k1 (t + s.length) 0 [x1, z1] (G2 90) F2 G2 F4 G4) (hκ : κ = 1 ∨ κ = 2) (e0 : jRf H (n + 2) κ x1 z1 x z) (h8 : (A b).1 = [8]) (an : jAn A k1 (jPush κ s) l) (hk : a ≤ k1 ∧ k1 ≤ b) (h4 : t + s.length < 399000) : jRg S gl F3 G3 F4 G4 := by
  have ln : (jPush κ s).length = s.length + 2 := by rcases hκ with w | w <;> rw [w] <;> rfl
  have n6 := R.2.2.2.1.2.2.2
  have v := R.2.2.2.2.2.2.2.2.2.1
  have ec : G3 55 (t + s.length) = x := c.2.2.2.1.2.2 0 x rfl
  have em : G4 71 (t + s.length) = x1 := m.2.2.1.2.2 0 x1 rfl
  have ec1 : G3 55 (t + s.length + 1) = z := c.2.2.2.1.2.2 1 z rfl
  have em1 : G4 71 (t + s.length + 1) = z1 := m.2.2.1.2.2 1 z1 rfl
  refine jRc.op R c m ⟨by omega, by omega⟩ h8 an hk n6.pu (by rw [ln]; show s.length + 2 + 0 = s.length + 2; omega) (by rw [ln]; show s.length + 2 + 0 = s.length + 2; omega) ?_ (by rw [ln]; omega)
  rw [ln]
  refine jVs.pa (t := t + s.length) hκ v (fun j hj => ⟨m.2.2.1.2.1 j (by omega), c.2.2.2.1.2.1 j (by omega)⟩) ?_
  rw [ec, em, ec1, em1]
  exact e0
/-- q operands go, and a thing that is there gets another content -/
theorem jRc.ps {j cx wx : Nat} {x : Nat × Nat} (R : jRc S gl H F1 G1 F2 G2 n g a b mu A le cb wb t k s l) (c : jCe (mu k1) (t + s.length) q [] wd F1 G1 F3 G3) (m : jMe k1 (t + s.length) q [] ce F2 G2 F4 G4) (hs : s.length = s0.length + q) (n6 : jN6 s0) (v : jVs H (n + 2) (G2 71) (G1 55) s0 (t + s0.length)) (h8 : (A b).1 = [8]) (an : jAn A k1 s0 l) (hk : a ≤ k1 ∧ k1 ≤ b) (hj : j ≤ n + 1) (hx : H j cx wx x) (hc : ∀ a, (a < cx ∨ cx + joC x ≤ a) → ce a = G2 90 a) (hw : ∀ a, (a < wx ∨ wx + joW x ≤ a) → wd a = G1 54 a) (ht : jCt H ce wd j cx wx x) : jRg S gl F3 G3 F4 G4 := by
  have z := R.2.2.2.2.2.2.2.2.2.2.2.2.2.2.1
  have lv := R.2.2.2.2.1
  refine jRc.go R c m ⟨by omega, by omega⟩ h8 an hk n6 (by show s0.length + q = s.length + 0; omega) (by show s0.length + q = s.length + 0; omega) lv ?_ (jHp.put R.2.2.2.2.2.2.2.2.2.2.1 hj hx hc hw ht) (fun _ _ _ _ _ => Iff.rfl) ⟨wx, joW x, hw, ?_⟩ (by omega)
  · exact v.cg (Nat.le_refl _) (fun _ _ _ _ _ z => z) s0 _ (fun j hj => ⟨m.2.2.1.2.1 j (by omega), c.2.2.2.1.2.1 j (by omega)⟩)
  · by_cases e : j = n + 1
    · rw [e] at hx
      have := lv.bd hx
      exact .inl (by omega)
    · exact .inr ⟨j, cx, x, by omega, hx, rfl⟩
/-- q operands go, and a thing of the frame comes -/
theorem jRc.pn {p o : Nat} {x : Nat × Nat} (R : jRc S gl H F1 G1 F2 G2 n g a b mu A le cb wb t k s l) (c : jCe (mu k1) (t + s.length) q [] wd F1 G1 F3 G3) (m : jMe k1 (t + s.length) q [] ce F2 G2 F4 G4) (hs : s.length = s0.length + q) (n6 : jN6 s0) (v : jVs H (n + 2) (G2 71) (G1 55) s0 (t + s0.length)) (h8 : (A b).1 = [8]) (an : jAn A k1 s0 (l ++ [x])) (hk : a ≤ k1 ∧ k1 ≤ b) (hx : x.1 ≤ 2) (ep : p = jsC l) (eo : o = jsW l) (hle : jLe (l ++ [x]) le) (hc : ∀ a, (a < cb + p ∨ cb + p + joC x ≤ a) → ce a = G2 90 a) (hw : ∀ a, (a < wb + 4 + o ∨ wb + 4 + o + joW x ≤ a) → wd a = G1 54 a) (ht : jCt H ce wd (n + 1) (cb + p) (wb + 4 + o) x) : jRg S gl F3 G3 F4 G4 := by
  have z := R.2.2.2.2.2.2.2.2.2.2.2.2.2.2.1
  have lv := R.2.2.2.2.1
  have hp := R.2.2.2.2.2.2.2.2.2.2.1
  have bd := jFS.geo (jH0 R.2.2.2.2.2.2.2.2.2.2.2.1 R.2.2.2.2.2.2.2.2.2.2.2.2.1) n cb wb t R.1
  have nw : jAt le p o x := by
    rw [ep, eo]
    exact hle _ _ x (by omega) (jAt.new l x)
  have sep : ∀ i d v y, i ≤ n + 1 → H i d v y → (i = n + 1 ∧ d = cb + p ∧ v = wb + 4 + o ∧ y = x) ∨ jSp (cb + p) (wb + 4 + o) x d v y := by
    intro i d v y hi hy
    by_cases e : i = n + 1
    · rw [e] at hy
      obtain ⟨p1, o1, -, y2, y3, y4⟩ := lv.2 d v y hy
      rcases jAt.one nw y2 with ⟨u1, u2, u3⟩ | u
      · exact .inl ⟨e, by omega, by omega, u3.symm⟩
      · exact .inr ⟨by omega, by omega⟩
    · have := bd.2 i d v y (by omega) hy
      exact .inr ⟨.inr (by omega), .inr (by omega)⟩
  refine jRc.go (H1 := fun i d v y => H i d v y ∨ (i = n + 1 ∧ d = cb + p ∧ v = wb + 4 + o ∧ y = x)) R c m ⟨by omega, by omega⟩ h8 an hk n6 (by show s0.length + q = s.length + 0; omega) (by show s0.length + q = s.length + 0; omega) ⟨fun p1 o1 y hy q1 => ?_, fun c1 w1 y hy => ?_⟩ ?_ (jHp.new hp (Nat.le_refl _) hx sep hc hw ht) (fun i d v y hi => ⟨fun q1 => ?_, fun q1 => .inl q1⟩) ⟨wb + 4 + o, joW x, hw, .inl (by omega)⟩ (by omega)
  · rcases q1.spl with q1 | ⟨p2, o2, ⟨l1, l2, u1, u2, u3⟩, u4, u5⟩
    · exact .inl (lv.1 p1 o1 y hy q1)
    · right
      cases l1 with
      | nil =>
        have u1 : x = y := (List.cons.inj u1).1
        have u2 : p2 = 0 := u2
        have u3 : o2 = 0 := u3
        exact ⟨rfl, by omega, by omega, u1.symm⟩
      | cons z l1 =>
        have := (List.cons.inj u1).2
        simp at this
  · rcases hy with hy | ⟨-, y1, y2, y3⟩
    · exact lv.2 c1 w1 y hy
    · exact ⟨p, o, by rw [y3]; omega, by rw [y3]; exact nw, y1, y2⟩
  · exact v.cg (Nat.le_refl _) (fun _ _ _ _ _ z => .inl z) s0 _ (fun j hj => ⟨m.2.2.1.2.1 j (by omega), c.2.2.2.1.2.1 j (by omega)⟩)
  · rcases q1 with q1 | ⟨q1, -⟩
    · exact q1
    · omega
end JQA
