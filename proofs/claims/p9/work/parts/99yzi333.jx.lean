def jup {α : Type} (f : Nat → α) (n : Nat) (v : α) : Nat → α := fun k => if k = n then v else f k
theorem jup_s {α : Type} {f : Nat → α} {n : Nat} {v : α} : jup f n v n = v := if_pos rfl
theorem jup_n {α : Type} {f : Nat → α} {n k : Nat} {v : α} (h : k ≠ n) : jup f n v k = f k := if_neg h
/-- both make one step -/
theorem JX.one {X Y : JCX} {Fc Fm F1 F2 : PF} {Gc Gm G1 G2 : PG} {mu : Nat → Nat} {A : JAN} {s s1 : SH} {n : Nat} {hn : List JHO} (u : Y.1 = X.1 ∧ Y.2.1 = X.2.1 ∧ Y.2.2.2 = X.2.2.2) (hz : ∃ mz : JLY, Y.2.2.1 = X.2.2.1 ++ mz) (hA : A (sN Fm) = (s, some X.2.2.1)) (hM : mu (sN Fm) = wN Fc) (en : sN F2 = sN Fm + 1) (ew : wN F1 = wN Fc + n) (ec : ∀ k, k < sN Fm → cEq Gm G2 k) (ed : ∀ j, j < wN Fc → G1 5 j = Gc 5 j)
    (t : ∀ (mu1 : Nat → Nat) (A1 : JAN), (∀ k, k ≤ sN Fm → mu1 k = mu k ∧ A1 k = A k) → A1 (sN Fm) = (s, some X.2.2.1) → mu1 (sN Fm) = wN Fc → A1 (sN Fm + 1) = (s1, some Y.2.2.1) → mu1 (sN Fm + 1) = wN Fc + n → (hn = [] ∧ jTl Y G2 G1 mu1 A1 (sN Fm + 1) (sN Fm) X.2.2.1) ∨ ∃ x : JHO, hn = [x] ∧ x.1 = sN Fm ∧ jH G2 G1 mu1 A1 x) : JX Y Fc Gc Fm Gm mu A F1 G1 F2 G2 s1 hn [] := by
  obtain ⟨mz, ez⟩ := hz
  have hm : ∀ k, k ≤ sN Fm → jup mu (sN Fm + 1) (wN Fc + n) k = mu k := fun k hk => jup_n (by omega)
  have ha : ∀ k, k ≤ sN Fm → jup A (sN Fm + 1) (s1, some Y.2.2.1) k = A k := fun k hk => jup_n (by omega)
  have a0 := (ha _ (Nat.le_refl _)).trans hA
  have t := t (jup mu (sN Fm + 1) (wN Fc + n)) (jup A (sN Fm + 1) (s1, some Y.2.2.1)) (fun k hk => ⟨hm k hk, ha k hk⟩) a0 ((hm _ (Nat.le_refl _)).trans hM) jup_s jup_s
  unfold JX
  rw [en, ew]
  refine ⟨jup mu (sN Fm + 1) (wN Fc + n), jup A (sN Fm + 1) (s1, some Y.2.2.1), (X.2.2.1, mz), by rw [a0], ⟨?_, by omega, by omega, ?_, (hm _ (Nat.le_refl _)).trans hM⟩, fun k hk => ⟨hm k hk, ha k hk⟩, ⟨jup_s, jup_s⟩, ⟨ec, ed⟩, ?_, (fun y hy => nomatch hy), ?_, ?_⟩
  · rcases t with ⟨q, -⟩ | ⟨x, q, -⟩
    · rw [q]
      exact List.nodup_nil
    · rw [q]
      exact jND.cons (x := x) (hs := []) List.nodup_nil (fun y hy => nomatch hy)
  · intro i j p q r
    rcases Nat.lt_or_ge j (sN Fm + 1) with c | c
    · have e : i = j := by omega
      rw [e]
      exact Nat.le_refl _
    · have e : j = sN Fm + 1 := by omega
      rw [e, jup_s]
      rcases Nat.lt_or_ge i (sN Fm + 1) with d | d
      · rw [show i = sN Fm by omega, hm _ (Nat.le_refl _), hM]
        omega
      · rw [show i = sN Fm + 1 by omega, jup_s]
        exact Nat.le_refl _
  · intro x hx
    rcases t with ⟨q, -⟩ | ⟨y, q, q1, q2⟩
    · rw [q] at hx
      exact nomatch hx
    · rw [q] at hx
      rcases List.mem_cons.mp hx with e | e
      · rw [e]
        exact ⟨by omega, by omega, q2⟩
      · exact nomatch e
  · unfold jZ
    dsimp only
    rw [ez]
    refine ⟨⟨rfl, rfl⟩, fun k l k1 k2 ek => ?_⟩
    by_cases c : k = sN Fm
    · rw [c, jup_n (by omega), hA] at ek
      rw [← Option.some.inj ek]
      exact ⟨jLe.rf, jSz.app _ _, jLe.app _ _⟩
    · rw [show k = sN Fm + 1 by omega, jup_s] at ek
      rw [← Option.some.inj ek]
      exact ⟨jLe.app _ _, jSz.rf, jLe.rf⟩
  · intro k k1 k2
    have e : k = sN Fm := by omega
    rw [e]
    rcases t with ⟨-, q⟩ | ⟨x, q, q1, -⟩
    · exact .inl (jT.ctx (X := Y) (Y := (Y.1, Y.2.1, X.2.2.1 ++ mz, Y.2.2.2)) ⟨rfl, rfl, rfl⟩ (by dsimp only; rw [ez]; exact jLe.rf) (.inr ⟨X.2.2.1, by rw [a0], q⟩))
    · exact .inr ⟨x, by rw [q]; exact List.mem_cons_self .., q1⟩
theorem jR3 (X : JCX) : X.1 = X.1 ∧ X.2.1 = X.2.1 ∧ X.2.2.2 = X.2.2.2 := ⟨rfl, rfl, rfl⟩
/-- a step that only goes on -/
theorem JX.op {X : JCX} {Fc0 Fm0 Fc Fm F1 F2 : PF} {Gc0 Gm0 Gc Gm G1 G2 : PG} {mu0 : Nat → Nat} {A0 : JAN} {s s1 : SH} {hs : List JHO} {ls : List (Nat × Nat × SH)} {n : Nat} (h : JX X Fc0 Gc0 Fm0 Gm0 mu0 A0 Fc Gc Fm Gm s hs ls) (en : sN F2 = sN Fm + 1) (ew : wN F1 = wN Fc + n) (ec : ∀ k, k < sN Fm → cEq Gm G2 k) (ed : ∀ j, j < wN Fc → G1 5 j = Gc 5 j) (ho : jO X (G2 56 (sN Fm)) (G2 57 (sN Fm)) (G2 58 (sN Fm)) (G2 59 (sN Fm)) (fun j => G1 5 (wN Fc + j)) s s1 n) : JX X Fc0 Gc0 Fm0 Gm0 mu0 A0 F1 G1 F2 G2 s1 hs ls := by
  refine JX.tr (jR3 X) (hs1 := []) (ls1 := []) h (fun mu A hA hM => JX.one (jR3 X) ⟨[], (List.append_nil _).symm⟩ hA hM en ew ec ed (fun mu1 A1 _ a1 m1 a2 m2 => .inl ⟨rfl, ?_⟩))
  refine .inl ⟨s1, n, ?_, jAn.mk a2 jLe.rf, by rw [m1]; exact m2⟩
  rw [a1, m1]
  exact ho
/-- a jump whose aim waits -/
theorem JX.jmp {X : JCX} {Fc0 Fm0 Fc Fm F1 F2 : PF} {Gc0 Gm0 Gc Gm G1 G2 : PG} {mu0 : Nat → Nat} {A0 : JAN} {s s1 sx : SH} {hs : List JHO} {ls : List (Nat × Nat × SH)} {ty : Nat} {ym yc : Int32} (h : JX X Fc0 Gc0 Fm0 Gm0 mu0 A0 Fc Gc Fm Gm s hs ls) (en : sN F2 = sN Fm + 1) (ew : wN F1 = wN Fc + 2) (ec : ∀ k, k < sN Fm → cEq Gm G2 k) (ed : ∀ j, j < wN Fc → G1 5 j = Gc 5 j) (em : G2 57 (sN Fm) = ym) (eh : G1 5 (wN Fc + 1) = yc)
    (ho : (ty = 0 ∧ G2 56 (sN Fm) = 12 ∧ G1 5 (wN Fc) = 84 ∧ s = sx) ∨ (s = 0 :: s1 ∧ ((ty = 1 ∧ G2 56 (sN Fm) = 13 ∧ G1 5 (wN Fc) = 86 ∧ sx = s1) ∨ (ty = 2 ∧ G2 56 (sN Fm) = 14 ∧ G1 5 (wN Fc) = 87 ∧ sx = 0 :: s1) ∨ (ty = 3 ∧ G2 56 (sN Fm) = 13 ∧ G1 5 (wN Fc) = 88 ∧ sx = 0 :: s1)))) : JX X Fc0 Gc0 Fm0 Gm0 mu0 A0 F1 G1 F2 G2 s1 ((sN Fm, wN Fc + 1, sx, ty, ym, yc) :: hs) ls := by
  refine JX.tr (jR3 X) (hs1 := [(sN Fm, wN Fc + 1, sx, ty, ym, yc)]) (ls1 := []) h (fun mu A hA hM => JX.one (jR3 X) ⟨[], (List.append_nil _).symm⟩ hA hM en ew ec ed (fun mu1 A1 _ a1 m1 a2 m2 => .inr ⟨_, rfl, rfl, ?_⟩))
  unfold jH
  dsimp only
  rw [m1, m2, a1]
  refine ⟨rfl, Nat.le_refl _, em, eh, X.2.2.1, rfl, ?_⟩
  rcases ho with ⟨q1, q2, q3, q4⟩ | ⟨q0, q⟩
  · exact .inl ⟨q1, q2, q3, q4⟩
  · exact .inr ⟨s1, q0, jAn.mk a2 jLe.rf, rfl, q⟩
/-- a jump to a known place; behind it stands what one likes -/
theorem JX.goL {X : JCX} {Fc0 Fm0 Fc Fm F1 F2 : PF} {Gc0 Gm0 Gc Gm G1 G2 : PG} {mu0 : Nat → Nat} {A0 : JAN} {s s1 : SH} {hs : List JHO} {ls : List (Nat × Nat × SH)} {t w : Nat} (hX : X.1 = false) (h : JX X Fc0 Gc0 Fm0 Gm0 mu0 A0 Fc Gc Fm Gm s hs ls) (hl : (t, w, s) ∈ ls) (en : sN F2 = sN Fm + 1) (ew : wN F1 = wN Fc + 2) (ec : ∀ k, k < sN Fm → cEq Gm G2 k) (ed : ∀ j, j < wN Fc → G1 5 j = Gc 5 j) (e1 : G2 56 (sN Fm) = 12) (e2 : G2 57 (sN Fm) = nI t) (e3 : G1 5 (wN Fc) = 84) (e4 : G1 5 (wN Fc + 1) = nI w) : JX X Fc0 Gc0 Fm0 Gm0 mu0 A0 F1 G1 F2 G2 s1 hs ls := by
  refine JX.trl (jR3 X) (hs1 := []) (ls1 := []) h (fun mu A hA hM hL => JX.one (jR3 X) ⟨[], (List.append_nil _).symm⟩ hA hM en ew ec ed (fun mu1 A1 k1 a1 m1 a2 m2 => .inl ⟨rfl, ?_⟩))
  obtain ⟨l1, l2, l3⟩ := hL _ hl
  obtain ⟨k2, k3⟩ := k1 t l1
  refine .inr (.inl ⟨e1, t, by omega, fun q => absurd (hX.symm.trans q) (by decide), e2, ?_, .inr ⟨?_, ?_, ?_⟩⟩)
  · rw [a1]
    exact l2.ext k3
  · rw [m1]
    exact e3
  · rw [m1, k2, show mu t = w from l3]
    exact e4
  · rw [m1, m2]
    exact Nat.le_refl _
/-- a jump on a truth to a known place -/
theorem JX.ifL {X : JCX} {Fc0 Fm0 Fc Fm F1 F2 : PF} {Gc0 Gm0 Gc Gm G1 G2 : PG} {mu0 : Nat → Nat} {A0 : JAN} {s : SH} {hs : List JHO} {ls : List (Nat × Nat × SH)} {t w : Nat} (hX : X.1 = false) (h : JX X Fc0 Gc0 Fm0 Gm0 mu0 A0 Fc Gc Fm Gm (0 :: s) hs ls) (hl : (t, w, s) ∈ ls) (en : sN F2 = sN Fm + 1) (ew : wN F1 = wN Fc + 2) (ec : ∀ k, k < sN Fm → cEq Gm G2 k) (ed : ∀ j, j < wN Fc → G1 5 j = Gc 5 j) (e1 : G2 56 (sN Fm) = 14) (e2 : G2 57 (sN Fm) = nI t) (e3 : G1 5 (wN Fc) = 85) (e4 : G1 5 (wN Fc + 1) = nI w) : JX X Fc0 Gc0 Fm0 Gm0 mu0 A0 F1 G1 F2 G2 s hs ls := by
  refine JX.trl (jR3 X) (hs1 := []) (ls1 := []) h (fun mu A hA hM hL => JX.one (jR3 X) ⟨[], (List.append_nil _).symm⟩ hA hM en ew ec ed (fun mu1 A1 k1 a1 m1 a2 m2 => .inl ⟨rfl, ?_⟩))
  obtain ⟨l1, l2, l3⟩ := hL _ hl
  obtain ⟨k2, k3⟩ := k1 t l1
  refine .inr (.inr (.inl ⟨s, t, by rw [a1], jAn.mk a2 jLe.rf, by rw [m1]; exact m2, e2, .inl ⟨by omega, fun q => absurd (hX.symm.trans q) (by decide), l2.ext k3, ?_, .inr ⟨e1, ?_⟩⟩⟩))
  · rw [m1, k2, show mu t = w from l3]
    exact e4
  · rw [m1]
    exact e3
theorem JX.turn {X : JCX} {Fc0 Fm0 Fc Fm F1 F2 : PF} {Gc0 Gm0 Gc Gm G1 G2 : PG} {mu0 : Nat → Nat} {A0 : JAN} {s : SH} {hs : List JHO} {ls : List (Nat × Nat × SH)} (hX : X.1 = false) (h : JX X Fc0 Gc0 Fm0 Gm0 mu0 A0 Fc Gc Fm Gm s hs ls) (en : sN F2 = sN Fm + 1) (ew : wN F1 = wN Fc + 1) (ec : ∀ k, k < sN Fm → cEq Gm G2 k) (ed : ∀ j, j < wN Fc → G1 5 j = Gc 5 j) (e1 : G2 56 (sN Fm) = 15) (e3 : G1 5 (wN Fc) = 89) : JX X Fc0 Gc0 Fm0 Gm0 mu0 A0 F1 G1 F2 G2 s hs ls := by
  refine JX.tr (jR3 X) (hs1 := []) (ls1 := []) h (fun mu A hA hM => JX.one (jR3 X) ⟨[], (List.append_nil _).symm⟩ hA hM en ew ec ed (fun mu1 A1 k1 a1 m1 a2 m2 => .inl ⟨rfl, .inr (.inr (.inr ⟨hX, .inl ⟨e1, ?_, ?_, ?_⟩⟩))⟩))
  · rw [m1]
    exact e3
  · rw [a1]
    exact jAn.mk a2 jLe.rf
  · rw [m1]
    exact m2
theorem JX.ret {X : JCX} {Fc0 Fm0 Fc Fm F1 F2 : PF} {Gc0 Gm0 Gc Gm G1 G2 : PG} {mu0 : Nat → Nat} {A0 : JAN} {s1 : SH} {hs : List JHO} {ls : List (Nat × Nat × SH)} (hX : X.1 = false) (h : JX X Fc0 Gc0 Fm0 Gm0 mu0 A0 Fc Gc Fm Gm [0] hs ls) (en : sN F2 = sN Fm + 1) (ew : wN F1 = wN Fc + 1) (ec : ∀ k, k < sN Fm → cEq Gm G2 k) (ed : ∀ j, j < wN Fc → G1 5 j = Gc 5 j) (e1 : G2 56 (sN Fm) = 17) (e3 : G1 5 (wN Fc) = 15) : JX X Fc0 Gc0 Fm0 Gm0 mu0 A0 F1 G1 F2 G2 s1 hs ls := by
  refine JX.tr (jR3 X) (hs1 := []) (ls1 := []) h (fun mu A hA hM => JX.one (jR3 X) ⟨[], (List.append_nil _).symm⟩ hA hM en ew ec ed (fun mu1 A1 k1 a1 m1 a2 m2 => .inl ⟨rfl, .inr (.inr (.inr ⟨hX, .inr (.inr (.inl ⟨e1, ?_, ?_, ?_⟩))⟩))⟩))
  · rw [m1]
    exact e3
  · rw [a1]
  · rw [m1, m2]
    exact Nat.le_refl _
theorem JX.hlt {X : JCX} {Fc0 Fm0 Fc Fm F1 F2 : PF} {Gc0 Gm0 Gc Gm G1 G2 : PG} {mu0 : Nat → Nat} {A0 : JAN} {s s1 : SH} {hs : List JHO} {ls : List (Nat × Nat × SH)} (hX : X.1 = false) (h : JX X Fc0 Gc0 Fm0 Gm0 mu0 A0 Fc Gc Fm Gm (0 :: s) hs ls) (en : sN F2 = sN Fm + 1) (ew : wN F1 = wN Fc + 1) (ec : ∀ k, k < sN Fm → cEq Gm G2 k) (ed : ∀ j, j < wN Fc → G1 5 j = Gc 5 j) (e1 : G2 56 (sN Fm) = 20) (e3 : G1 5 (wN Fc) = 18) : JX X Fc0 Gc0 Fm0 Gm0 mu0 A0 F1 G1 F2 G2 s1 hs ls := by
  refine JX.tr (jR3 X) (hs1 := []) (ls1 := []) h (fun mu A hA hM => JX.one (jR3 X) ⟨[], (List.append_nil _).symm⟩ hA hM en ew ec ed (fun mu1 A1 k1 a1 m1 a2 m2 => .inl ⟨rfl, .inr (.inr (.inr ⟨hX, .inr (.inr (.inr (.inl ⟨e1, ?_, ⟨s, ?_⟩, ?_⟩)))⟩))⟩))
  · rw [m1]
    exact e3
  · rw [a1]
  · rw [m1, m2]
    exact Nat.le_refl _
/-- a call: a turn and the call itself; one word with two behind it -/
theorem JX.call {X : JCX} {Fc0 Fm0 Fc Fm F1 F2 : PF} {Gc0 Gm0 Gc Gm G1 G2 : PG} {mu0 : Nat → Nat} {A0 : JAN} {s0 : SH} {f : Nat} {hs : List JHO} {ls : List (Nat × Nat × SH)} (hX : X.1 = false) (hf : f < 1000) (h : JX X Fc0 Gc0 Fm0 Gm0 mu0 A0 Fc Gc Fm Gm (jArg (X.2.2.2 f) s0) hs ls) (en : sN F2 = sN Fm + 2) (ew : wN F1 = wN Fc + 3) (ec : ∀ k, k < sN Fm → cEq Gm G2 k) (ed : ∀ j, j < wN Fc → G1 5 j = Gc 5 j) (e1 : G2 56 (sN Fm) = 15) (e2 : G2 56 (sN Fm + 1) = 16) (e3 : G2 57 (sN Fm + 1) = nI f) (e4 : G1 5 (wN Fc) = 90) (e5 : G1 5 (wN Fc + 1) = nI f) (e6 : G1 5 (wN Fc + 2) = G2 58 (sN Fm + 1)) : JX X Fc0 Gc0 Fm0 Gm0 mu0 A0 F1 G1 F2 G2 (0 :: s0) hs ls := by
  refine JX.tr (jR3 X) (hs1 := []) (ls1 := []) h (fun mu A hA hM => ?_)
  have hm : ∀ k, k ≤ sN Fm → jup (jup mu (sN Fm + 1) (wN Fc + 3)) (sN Fm + 2) (wN Fc + 3) k = mu k := fun k hk => (jup_n (by omega)).trans (jup_n (by omega))
  have ha : ∀ k, k ≤ sN Fm → jup (jup A (sN Fm + 1) ([], none)) (sN Fm + 2) (0 :: s0, some X.2.2.1) k = A k := fun k hk => (jup_n (by omega)).trans (jup_n (by omega))
  have m1 : jup (jup mu (sN Fm + 1) (wN Fc + 3)) (sN Fm + 2) (wN Fc + 3) (sN Fm + 1) = wN Fc + 3 := (jup_n (by omega)).trans jup_s
  have a1 : jup (jup A (sN Fm + 1) ([], none)) (sN Fm + 2) (0 :: s0, some X.2.2.1) (sN Fm + 1) = ([], none) := (jup_n (by omega)).trans jup_s
  have m0 := (hm _ (Nat.le_refl _)).trans hM
  have a0 := (ha _ (Nat.le_refl _)).trans hA
  unfold JX
  rw [en, ew]
  refine ⟨_, _, (X.2.2.1, []), by rw [a0], ⟨List.nodup_nil, by omega, by omega, ?_, m0⟩, fun k hk => ⟨hm k hk, ha k hk⟩, ⟨jup_s, jup_s⟩, ⟨ec, ed⟩, (fun x hx => nomatch hx), (fun y hy => nomatch hy), jZ.nil (fun k l k1 k2 ek => by
    rcases (show k = sN Fm ∨ k = sN Fm + 1 ∨ k = sN Fm + 2 by omega) with z | z | z
    · rw [z, a0] at ek
      exact (Option.some.inj ek).symm
    · rw [z, a1] at ek
      cases ek
    · rw [z, jup_s] at ek
      exact (Option.some.inj ek).symm), ?_⟩
  · intro i j p q r
    have e : ∀ z, sN Fm ≤ z → z ≤ sN Fm + 2 → jup (jup mu (sN Fm + 1) (wN Fc + 3)) (sN Fm + 2) (wN Fc + 3) z = if z = sN Fm then wN Fc else wN Fc + 3 := by
      intro z z1 z2
      by_cases c : z = sN Fm
      · rw [if_pos c, c]
        exact m0
      · rw [if_neg c]
        by_cases c1 : z = sN Fm + 1
        · rw [c1]
          exact m1
        · rw [show z = sN Fm + 2 by omega]
          exact jup_s
    rw [e i p (by omega), e j (by omega) r]
    split <;> split <;> omega
  · intro k k1 k2
    by_cases c : k = sN Fm
    · rw [c]
      refine .inl (.inr ⟨X.2.2.1, by rw [a0], .inr (.inr (.inr ⟨hX, .inr (.inl ⟨e1, Nat.le_refl _, e2, ?_, ?_, ?_, f, s0, ⟨hf, e3⟩, ?_, ?_, ?_, jAn.mk jup_s jLe.rf⟩)⟩))⟩)
      · rw [m0]
        exact e4
      · rw [m0]
        exact m1
      · rw [m0]
        exact jup_s
      · rw [m0]
        exact e5
      · rw [m0]
        exact e6
      · rw [a0]
    · rw [show k = sN Fm + 1 by omega]
      exact .inl (.inl (by rw [a1]))
/-- the end of an or, an and: the truth, a jump, the number -/
theorem JX.tru {X : JCX} {Fc0 Fm0 Fc Fm F1 F2 : PF} {Gc0 Gm0 Gc Gm G1 G2 : PG} {mu0 : Nat → Nat} {A0 : JAN} {s0 : SH} {hs : List JHO} {ls : List (Nat × Nat × SH)} (h : JX X Fc0 Gc0 Fm0 Gm0 mu0 A0 Fc Gc Fm Gm (0 :: s0) hs ls) (en : sN F2 = sN Fm + 3) (ew : wN F1 = wN Fc + 1) (ec : ∀ k, k < sN Fm → cEq Gm G2 k) (ed : ∀ j, j < wN Fc → G1 5 j = Gc 5 j) (e1 : G2 56 (sN Fm) = 23) (e2 : G2 56 (sN Fm + 1) = 12) (e3 : G2 57 (sN Fm + 1) = nI (sN Fm + 3)) (e4 : G1 5 (wN Fc) = 65) : JX X Fc0 Gc0 Fm0 Gm0 mu0 A0 F1 G1 F2 G2 (0 :: s0) hs ls := by
  refine JX.tr (jR3 X) (hs1 := []) (ls1 := []) h (fun mu A hA hM => ?_)
  have hm : ∀ k, k ≤ sN Fm → jup (jup (jup mu (sN Fm + 1) (wN Fc + 1)) (sN Fm + 2) (wN Fc + 1)) (sN Fm + 3) (wN Fc + 1) k = mu k := fun k hk => (jup_n (by omega)).trans ((jup_n (by omega)).trans (jup_n (by omega)))
  have ha : ∀ k, k ≤ sN Fm → jup (jup (jup A (sN Fm + 1) (0 :: s0, some X.2.2.1)) (sN Fm + 2) ([], none)) (sN Fm + 3) (0 :: s0, some X.2.2.1) k = A k := fun k hk => (jup_n (by omega)).trans ((jup_n (by omega)).trans (jup_n (by omega)))
  have m1 : jup (jup (jup mu (sN Fm + 1) (wN Fc + 1)) (sN Fm + 2) (wN Fc + 1)) (sN Fm + 3) (wN Fc + 1) (sN Fm + 1) = wN Fc + 1 := (jup_n (by omega)).trans ((jup_n (by omega)).trans jup_s)
  have m2 : jup (jup (jup mu (sN Fm + 1) (wN Fc + 1)) (sN Fm + 2) (wN Fc + 1)) (sN Fm + 3) (wN Fc + 1) (sN Fm + 2) = wN Fc + 1 := (jup_n (by omega)).trans jup_s
  have a1 : jup (jup (jup A (sN Fm + 1) (0 :: s0, some X.2.2.1)) (sN Fm + 2) ([], none)) (sN Fm + 3) (0 :: s0, some X.2.2.1) (sN Fm + 1) = (0 :: s0, some X.2.2.1) := (jup_n (by omega)).trans ((jup_n (by omega)).trans jup_s)
  have a2 : jup (jup (jup A (sN Fm + 1) (0 :: s0, some X.2.2.1)) (sN Fm + 2) ([], none)) (sN Fm + 3) (0 :: s0, some X.2.2.1) (sN Fm + 2) = ([], none) := (jup_n (by omega)).trans jup_s
  have m0 := (hm _ (Nat.le_refl _)).trans hM
  have a0 := (ha _ (Nat.le_refl _)).trans hA
  unfold JX
  rw [en, ew]
  refine ⟨_, _, (X.2.2.1, []), by rw [a0], ⟨List.nodup_nil, by omega, by omega, ?_, m0⟩, fun k hk => ⟨hm k hk, ha k hk⟩, ⟨jup_s, jup_s⟩, ⟨ec, ed⟩, (fun x hx => nomatch hx), (fun y hy => nomatch hy), jZ.nil (fun k l k1 k2 ek => by
    rcases (show k = sN Fm ∨ k = sN Fm + 1 ∨ k = sN Fm + 2 ∨ k = sN Fm + 3 by omega) with z | z | z | z
    · rw [z, a0] at ek
      exact (Option.some.inj ek).symm
    · rw [z, a1] at ek
      exact (Option.some.inj ek).symm
    · rw [z, a2] at ek
      cases ek
    · rw [z, jup_s] at ek
      exact (Option.some.inj ek).symm), ?_⟩
  · intro i j p q r
    have e : ∀ z, sN Fm ≤ z → z ≤ sN Fm + 3 → jup (jup (jup mu (sN Fm + 1) (wN Fc + 1)) (sN Fm + 2) (wN Fc + 1)) (sN Fm + 3) (wN Fc + 1) z = if z = sN Fm then wN Fc else wN Fc + 1 := by
      intro z z1 z2
      by_cases c : z = sN Fm
      · rw [if_pos c, c]
        exact m0
      · rw [if_neg c]
        by_cases c1 : z = sN Fm + 1
        · rw [c1]
          exact m1
        · by_cases c2 : z = sN Fm + 2
          · rw [c2]
            exact m2
          · rw [show z = sN Fm + 3 by omega]
            exact jup_s
    rw [e i p (by omega), e j (by omega) r]
    split <;> split <;> omega
  · intro k k1 k2
    by_cases c : k = sN Fm
    · rw [c]
      refine .inl (.inr ⟨X.2.2.1, by rw [a0], .inl ⟨0 :: s0, 1, ?_, jAn.mk a1 jLe.rf, by rw [m0]; exact m1⟩⟩)
      refine .inr (.inr (.inr (.inl ⟨e1, rfl, ?_, s0, by rw [a0], rfl⟩)))
      show G1 5 (jup (jup (jup mu (sN Fm + 1) (wN Fc + 1)) (sN Fm + 2) (wN Fc + 1)) (sN Fm + 3) (wN Fc + 1) (sN Fm) + 0) = 65
      rw [m0]
      exact e4
    · by_cases c1 : k = sN Fm + 1
      · rw [c1]
        exact .inl (.inr ⟨X.2.2.1, by rw [a1], .inr (.inl ⟨e2, sN Fm + 3, Nat.le_refl _, fun _ => by omega, e3, by rw [a1]; exact jAn.mk jup_s jLe.rf, .inl (by rw [m1]; exact jup_s)⟩)⟩)
      · rw [show k = sN Fm + 2 by omega]
        exact .inl (.inl (by rw [a2]))
/-- a jump that waited gets its aim -/
theorem JX.patch {X : JCX} {Fc0 Fm0 Fc Fm F1 F2 : PF} {Gc0 Gm0 Gc Gm G1 G2 : PG} {mu0 : Nat → Nat} {A0 : JAN} {s : SH} {l1 l2 : List JHO} {x : JHO} {ls : List (Nat × Nat × SH)} {t w : Nat} (h : JX X Fc0 Gc0 Fm0 Gm0 mu0 A0 Fc Gc Fm Gm s (l1 ++ x :: l2) ls)
    (ht : (x.2.2.2.1 ≤ 1 ∧ (((t, w, x.2.2.1) = (sN Fm, wN Fc, s) ∧ jBg A0 (sN Fm0) X.2.2.1) ∨ ((t, w, x.2.2.1) ∈ ls ∧ t ≤ x.1)) ∧ (X.1 = true → x.1 < t)) ∨ (jBg A0 (sN Fm0) X.2.2.1 ∧ sN Fm = t + 1 ∧ x.1 < t ∧ w = wN Fc ∧ x.2.2.1 = s ∧ Gm 56 t = 0 ∧ ((x.2.2.2.1 = 2 ∧ Gm 57 t = 1) ∨ (x.2.2.2.1 = 3 ∧ Gm 57 t = 0))))
    (e60 : F2 60 = Fm 60) (e6 : F1 6 = Fc 6) (c1 : ∀ k, k ≠ x.1 → cEq Gm G2 k) (c2 : G2 56 x.1 = Gm 56 x.1) (c3 : G2 57 x.1 = nI t) (d1 : ∀ j, j ≠ x.2.1 → G1 5 j = Gc 5 j) (d2 : G1 5 x.2.1 = nI w) : JX X Fc0 Gc0 Fm0 Gm0 mu0 A0 F1 G1 F2 G2 s (l1 ++ l2) ls := by
  have en : sN F2 = sN Fm := by show (F2 60).toNatClampNeg = _; rw [e60]
  have ew : wN F1 = wN Fc := by show (F1 6).toNatClampNeg = _; rw [e6]
  obtain ⟨mu, A, l0, e0, ⟨a0, a1, a2, a3, az⟩, a4, ⟨a5, a6⟩, ⟨a7, a8⟩, a9, a10, aZ, a11⟩ := h
  have bg : jBg A0 (sN Fm0) X.2.2.1 → jLe X.2.2.1 l0.1 := fun hb => hb l0.1 (by rw [← (a4 _ (Nat.le_refl _)).2]; exact e0)
  have hm : x ∈ l1 ++ x :: l2 := List.mem_append_right _ (List.mem_cons_self ..)
  obtain ⟨p1, p2, p3, p4, p5, p6, lx, plx, p7⟩ := a9 x hm
  have hx0 : jLe l0.1 lx := (aZ.q x.1 lx p1 (by omega) plx).1
  obtain ⟨n1, n2⟩ := jND.cut a0
  have up : ∀ y ∈ l1 ++ l2, y ∈ l1 ++ x :: l2 := by
    intro y hy
    rcases List.mem_append.mp hy with q | q
    · exact List.mem_append_left _ q
    · exact List.mem_append_right _ (List.mem_cons_of_mem _ q)
  have jm : jJm (Gm 56 x.1) := by
    rcases p7 with ⟨-, q, -⟩ | ⟨s0, -, -, -, ⟨-, q, -⟩ | ⟨-, q, -⟩ | ⟨-, q, -⟩⟩
    · exact .inl q
    · exact .inr (.inl q)
    · exact .inr (.inr q)
    · exact .inr (.inl q)
  have d0 : ∀ j, j ≠ mu x.1 + 1 → G1 5 j = Gc 5 j := fun j hj => d1 j (by rw [p3]; exact hj)
  have lo : wN Fc0 ≤ mu x.1 + 1 := by
    have := a3 (sN Fm0) x.1 (Nat.le_refl _) p1 (by omega)
    omega
  unfold JX
  rw [en, ew]
  refine ⟨mu, A, l0, e0, ⟨n1, a1, a2, a3, az⟩, a4, ⟨a5, a6⟩, ⟨fun k hk => (a7 k hk).tr (c1 k (by omega)), fun j hj => ?_⟩, ?_, a10, aZ, ?_⟩
  · rw [d0 j (by omega)]
    exact a8 j hj
  · intro y hy
    obtain ⟨q1, q2, q3⟩ := a9 y (up y hy)
    exact ⟨q1, q2, q3.pat ⟨q1, q2⟩ ⟨p1, p2⟩ (n2 y hy) a3 p4 c1 d0⟩
  · intro k k1 k2
    by_cases c : k = x.1
    · subst c
      refine .inl (.inr ⟨lx, plx, ?_⟩)
      rcases ht with ⟨h1, h2, h3⟩ | ⟨t0, t1, t2, t3, t4, t5, t6⟩
      · have tt : t ≤ sN Fm ∧ jAn A t x.2.2.1 lx ∧ mu t = w := by
          rcases h2 with ⟨e, hb⟩ | ⟨e, et⟩
          · have i1 : t = sN Fm := congrArg (fun z : Nat × Nat × SH => z.1) e
            have i2 : w = wN Fc := congrArg (fun z : Nat × Nat × SH => z.2.1) e
            have i3 : x.2.2.1 = s := congrArg (fun z : Nat × Nat × SH => z.2.2) e
            rw [i1, i2, i3]
            exact ⟨Nat.le_refl _, jAn.mk a5 ((bg hb).tr hx0), a6⟩
          · obtain ⟨-, f1, f2, f3⟩ := a10 _ e
            exact ⟨f1, f3 x.1 lx et (by omega) plx, f2⟩
        rcases p7 with ⟨q1, q2, q3, q4⟩ | ⟨s0, r1, r2, r3, ⟨q1, q2, q3, q4⟩ | ⟨q1, q2⟩ | ⟨q1, q2⟩⟩
        · exact .inr (.inl ⟨by rw [c2]; exact q2, t, tt.1, h3, c3, by rw [q4]; exact tt.2.1, .inr ⟨by rw [d0 (mu x.1) (by omega)]; exact q3, by rw [← p3, d2, tt.2.2], p4⟩⟩)
        · exact .inr (.inr (.inl ⟨s0, t, r1, r2, r3, c3, .inl ⟨tt.1, h3, by rw [← q4]; exact tt.2.1, by rw [← p3, d2, tt.2.2], .inl ⟨by rw [c2]; exact q2, by rw [d0 (mu x.1) (by omega)]; exact q3⟩⟩⟩))
        · omega
        · omega
      · have ct := c1 t (by omega)
        have ex : jAn A (t + 1) x.2.2.1 lx := jAn.mk (l1 := X.2.2.1) (by rw [← t1, a5, t4]) ((bg t0).tr hx0)
        have em : G1 5 (mu x.1 + 1) = nI (mu (t + 1)) := by rw [← p3, d2, ← t1, a6, t3]
        rcases p7 with ⟨q1, q2⟩ | ⟨s0, r1, r2, r3, ⟨q1, q2⟩ | ⟨q1, q2, q3, q4⟩ | ⟨q1, q2, q3, q4⟩⟩
        · omega
        · omega
        · have v : Gm 57 t = 1 := by
            rcases t6 with ⟨_, v⟩ | ⟨z, _⟩
            · exact v
            · omega
          exact .inr (.inr (.inl ⟨s0, t, r1, r2, r3, c3, .inr ⟨by omega, t2, by rw [← q4]; exact ex, em, ct.1.trans t5, .inr ⟨c2.trans q2, by rw [d0 (mu x.1) (by omega)]; exact q3, ct.2.1.trans v⟩⟩⟩))
        · have v : Gm 57 t = 0 := by
            rcases t6 with ⟨z, _⟩ | ⟨_, v⟩
            · omega
            · exact v
          exact .inr (.inr (.inl ⟨s0, t, r1, r2, r3, c3, .inr ⟨by omega, t2, by rw [← q4]; exact ex, em, ct.1.trans t5, .inl ⟨c2.trans q2, by rw [d0 (mu x.1) (by omega)]; exact q3, ct.2.1.trans v⟩⟩⟩))
    · rcases a11 k k1 k2 with q | ⟨y, q, q1⟩
      · exact .inl (q.pat ⟨k1, k2⟩ ⟨p1, p2⟩ c a3 jm p4 c1 d0)
      · rcases List.mem_append.mp q with e | e
        · exact .inr ⟨y, List.mem_append_left _ e, q1⟩
        · rcases List.mem_cons.mp e with e | e
          · rw [e] at q1
            exact absurd q1.symm c
          · exact .inr ⟨y, List.mem_append_right _ e, q1⟩
/-- an int is told: its first value is stored -/
theorem JX.decl {X Y : JCX} {Fc0 Fm0 Fc Fm F1 F2 : PF} {Gc0 Gm0 Gc Gm G1 G2 : PG} {mu0 : Nat → Nat} {A0 : JAN} {s1 : SH} {hs : List JHO} {ls : List (Nat × Nat × SH)} (hX : X.1 = false) (eY : Y = (X.1, X.2.1, X.2.2.1 ++ [(0, 1)], X.2.2.2)) (h : JX X Fc0 Gc0 Fm0 Gm0 mu0 A0 Fc Gc Fm Gm (0 :: s1) hs ls) (en : sN F2 = sN Fm + 1) (ew : wN F1 = wN Fc + 2) (ec : ∀ k, k < sN Fm → cEq Gm G2 k) (ed : ∀ j, j < wN Fc → G1 5 j = Gc 5 j) (e1 : G2 56 (sN Fm) = 2) (e2 : G2 57 (sN Fm) = nI (jsC X.2.2.1)) (e3 : G1 5 (wN Fc) = 72) (e4 : G1 5 (wN Fc + 1) = nI (4 + jsW X.2.2.1)) : JX Y Fc0 Gc0 Fm0 Gm0 mu0 A0 F1 G1 F2 G2 s1 hs ls := by
  subst eY
  refine JX.tr (X := X) ⟨rfl, rfl, rfl⟩ (hs1 := []) (ls1 := []) h (fun mu A hA hM => JX.one (X := X) ⟨rfl, rfl, rfl⟩ ⟨_, rfl⟩ hA hM en ew ec ed (fun mu1 A1 _ a1 m1 a2 m2 => .inl ⟨rfl, .inr (.inr (.inr ⟨hX, .inr (.inr (.inr (.inr (.inl ⟨e1, ?_, e2, ?_, ?_, s1, ?_, jAn.mk a2 jLe.rf, jLe.rf⟩))))⟩))⟩))
  · rw [m1]; exact e3
  · rw [m1]; exact e4
  · rw [m1]; exact m2
  · rw [a1]
/-- an array is told: it is cleared -/
theorem JX.declA {X Y : JCX} {Fc0 Fm0 Fc Fm F1 F2 : PF} {Gc0 Gm0 Gc Gm G1 G2 : PG} {mu0 : Nat → Nat} {A0 : JAN} {s1 : SH} {hs : List JHO} {ls : List (Nat × Nat × SH)} {κ m : Nat} (hX : X.1 = false) (hκ : κ = 1 ∨ κ = 2) (hj : joW (κ, m) ≤ 200) (eY : Y = (X.1, X.2.1, X.2.2.1 ++ [(κ, m)], X.2.2.2)) (h : JX X Fc0 Gc0 Fm0 Gm0 mu0 A0 Fc Gc Fm Gm s1 hs ls) (en : sN F2 = sN Fm + 1) (ew : wN F1 = wN Fc + 3) (ec : ∀ k, k < sN Fm → cEq Gm G2 k) (ed : ∀ j, j < wN Fc → G1 5 j = Gc 5 j) (e1 : G2 56 (sN Fm) = 22) (e2 : G2 57 (sN Fm) = nI (jsC X.2.2.1)) (e2' : G2 58 (sN Fm) = nI m) (e3 : G1 5 (wN Fc) = 73) (e4 : G1 5 (wN Fc + 1) = nI (4 + jsW X.2.2.1)) (e5 : G1 5 (wN Fc + 2) = nI (joW (κ, m))) : JX Y Fc0 Gc0 Fm0 Gm0 mu0 A0 F1 G1 F2 G2 s1 hs ls := by
  subst eY
  refine JX.tr (X := X) ⟨rfl, rfl, rfl⟩ (hs1 := []) (ls1 := []) h (fun mu A hA hM => JX.one (X := X) ⟨rfl, rfl, rfl⟩ ⟨_, rfl⟩ hA hM en ew ec ed (fun mu1 A1 _ a1 m1 a2 m2 => .inl ⟨rfl, .inr (.inr (.inr ⟨hX, .inr (.inr (.inr (.inr (.inr ⟨e1, ?_, e2, ?_, ?_, κ, m, ⟨hκ, hj⟩, e2', ?_, ?_, jLe.rf⟩))))⟩))⟩))
  · rw [m1]; exact e3
  · rw [m1]; exact e4
  · rw [m1]; exact m2
  · rw [m1]; exact e5
  · rw [a1]; exact jAn.mk a2 jLe.rf
