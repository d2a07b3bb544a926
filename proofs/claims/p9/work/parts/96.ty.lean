/-- this run of the parse still counts: nothing found (or, in a constant, nothing missing) -/
def LV (F : PF) : Prop := ¬ F 46 = 0 ∧ (F 54 = 0 → F 47 = 0) ∧ (¬ F 54 = 0 → F 55 = 0)
def MO (F F1 : PF) : Prop := (F1 47 = 0 → F 47 = 0) ∧ (F1 55 = 0 → F 55 = 0)
theorem MO.rf {F : PF} : MO F F := ⟨id, id⟩
theorem MO.tr {F F1 F2 : PF} (h : MO F F1) (h1 : MO F1 F2) : MO F F2 := ⟨fun q => h.1 (h1.1 q), fun q => h.2 (h1.2 q)⟩
theorem MO.f {F F1 : PF} {k : Nat} {x : Int32} (e : 47 ≠ k) (e1 : 55 ≠ k) (h : MO F F1) : MO F (fup F1 k x) := ⟨fun q => h.1 ((fup_n e).symm.trans q), fun q => h.2 ((fup_n e1).symm.trans q)⟩
theorem MO.f55 {F F1 : PF} (h : MO F F1) : MO F (fup F1 55 1) := ⟨fun q => h.1 q, fun q => absurd (show (1 : Int32) = 0 from q) (by decide)⟩
theorem MO.kx {a b : List Nat} {F F1 : PF} {G G1 : PG} (h : KX a b F G F1 G1) (e : a.contains 47 = false) (e1 : a.contains 55 = false) : MO F F1 := ⟨fun q => (h.1 47 e).symm.trans q, fun q => (h.1 55 e1).symm.trans q⟩
theorem mm_noteAs {fu : Nat} (k p o : Int32) (hk : 0 < k.toInt) (F : PF) (G : PG) : PP (mf_noteAs fu k p o F G) (fun _ F' _ => MO F F') := by
  refine PP.mono (mp_noteAs k p o hk F G) ?_
  rintro r F1 G1 ⟨hK, -, h1, h2⟩
  refine ⟨fun q => ?_, fun q => (hK.1 55 rfl).symm.trans q⟩
  by_cases c : F 46 = 0
  · rw [h2 c]; exact q
  · have := h1 c
    rw [q] at this
    exact absurd this (by decide)
theorem mm_note {fu : Nat} (k p : Int32) (hk : 0 < k.toInt) (F : PF) (G : PG) : PP (mf_note fu k p F G) (fun _ F' _ => MO F F') := by
  refine PP.mono (mp_note k p hk F G) ?_
  rintro r F1 G1 ⟨hK, -, h1, h2⟩
  refine ⟨fun q => ?_, fun q => (hK.1 55 rfl).symm.trans q⟩
  by_cases c : F 46 = 0
  · rw [h2 c]; exact q
  · have := h1 c
    rw [q] at this
    exact absurd this (by decide)
theorem LV.mo {a b : List Nat} {F F1 : PF} {G G1 : PG} (h : KX a b F G F1 G1) (hM : MO F F1) (e : a.contains 46 = false) (e1 : a.contains 54 = false) (hl : LV F1) : LV F := by
  have h46 := h.1 46 e
  have h54 := h.1 54 e1
  refine ⟨fun q => hl.1 (h46.trans q), fun q => hM.1 (hl.2.1 (h54.trans q)), fun q => hM.2 (hl.2.2 (fun q1 => q (h54.symm.trans q1)))⟩
theorem LV.kx {a b : List Nat} {F F1 : PF} {G G1 : PG} (h : KX a b F G F1 G1) (e : a.contains 46 = false) (e1 : a.contains 54 = false) (e2 : a.contains 47 = false) (e3 : a.contains 55 = false) (hl : LV F1) : LV F := LV.mo h (MO.kx h e2 e3) e e1 hl
theorem LV.f55 {F : PF} (hl : LV (fup F 55 1)) : LV F := ⟨hl.1, hl.2.1, fun q => absurd (show (1 : Int32) = 0 from hl.2.2 q) (by decide)⟩
theorem KX.c {a b : List Nat} {F F1 : PF} {G G1 : PG} (h : KX a b F G F1 G1) (e : b.contains 56 = false) (e1 : b.contains 57 = false) (e2 : b.contains 58 = false) (e3 : b.contains 59 = false) : ∀ k, 56 ≤ k → k ≤ 59 → G1 k = G k := by
  intro k h1 h2
  have : k = 56 ∨ k = 57 ∨ k = 58 ∨ k = 59 := by omega
  rcases this with rfl | rfl | rfl | rfl
  · exact h.2 _ e
  · exact h.2 _ e1
  · exact h.2 _ e2
  · exact h.2 _ e3
/-- the kinds of the formals of a function -/
def kindsOf (G : PG) (f : Nat) : List Nat := (List.range (G 27 f).toInt.toNat).map (fun j => (G 34 ((G 31 f).toInt.toNat + j)).toInt.toNat)
def XS (L : List Nat) (F : PF) (G : PG) : TX := (decide (¬ F 54 = 0), (F 24).toInt.toNat, kindsOf G, (F 37).toInt.toNat, (F 53).toInt.toNat, L)
/-- what was told is where it should be -/
def DI (X : TX) (F : PF) (G : PG) : Prop := ∀ k : Nat, (k : Int) < (F 14).toInt → (G 17 k = 0 ∧ ¬ G 21 k = -1) ∨ (G 17 k = 1 ∧ (¬ G 23 k = 0 → 0 ≤ (G 20 k).toInt ∧ (G 20 k).toInt < (X.2.2.2.2.1 : Int) ∧ icell X.2.2.2.2.2 (G 20 k).toInt.toNat) ∧ (G 23 k = 0 → 0 ≤ (G 20 k).toInt ∧ (G 20 k).toInt < (X.2.2.2.1 : Int))) ∨ (G 17 k = 2 ∧ (¬ G 23 k = 0 → arr X (G 20 k) (G 21 k) 1) ∧ (G 23 k = 0 → arr X (G 20 k) (G 21 k) 0))
def FTb (F : PF) (G : PG) : Prop := ∀ f : Nat, (f : Int) < (F 24).toInt → 0 ≤ (G 27 f).toInt ∧ (G 27 f).toInt ≤ 4 ∧ 0 ≤ (G 31 f).toInt ∧ (G 31 f).toInt ≤ 900 ∧ ∀ j : Nat, 0 ≤ (G 34 j).toInt
def TP (X : TX) (L : List Nat) (F : PF) (G : PG) : Prop := XS L F G = X ∧ (F 54 = 0 → F 47 = 0 → DI X F G) ∧ (F 54 = 0 → FTb F G) ∧ (0 ≤ (F 14).toInt ∧ 0 ≤ (F 24).toInt ∧ 0 ≤ (F 43).toInt ∧ (F 43).toInt ≤ 40 ∧ 0 ≤ (F 70).toInt ∧ 0 ≤ (F 60).toInt)
/-- fields and arrays that the typing reads -/
def tpo (a b : List Nat) : Bool := !(a.contains 14 || a.contains 24 || a.contains 37 || a.contains 53 || a.contains 54 || b.contains 17 || b.contains 20 || b.contains 21 || b.contains 23 || b.contains 27 || b.contains 31 || b.contains 34)
theorem tpo.e {a b : List Nat} (h : tpo a b = true) : a.contains 14 = false ∧ a.contains 24 = false ∧ a.contains 37 = false ∧ a.contains 53 = false ∧ a.contains 54 = false ∧ b.contains 17 = false ∧ b.contains 20 = false ∧ b.contains 21 = false ∧ b.contains 23 = false ∧ b.contains 27 = false ∧ b.contains 31 = false ∧ b.contains 34 = false := by
  unfold tpo at h
  simp only [Bool.not_eq_true', Bool.or_eq_false_iff] at h
  exact ⟨h.1.1.1.1.1.1.1.1.1.1.1, h.1.1.1.1.1.1.1.1.1.1.2, h.1.1.1.1.1.1.1.1.1.2, h.1.1.1.1.1.1.1.1.2, h.1.1.1.1.1.1.1.2, h.1.1.1.1.1.1.2, h.1.1.1.1.1.2, h.1.1.1.1.2, h.1.1.1.2, h.1.1.2, h.1.2, h.2⟩
theorem TP.kx {X : TX} {L : List Nat} {a b : List Nat} {F F1 : PF} {G G1 : PG} (h : TP X L F G) (hK : KX a b F G F1 G1) (hM : F1 47 = 0 → F 47 = 0) (e : tpo a b = true) (h43 : 0 ≤ (F1 43).toInt ∧ (F1 43).toInt ≤ 40) (h70 : 0 ≤ (F1 70).toInt) (h60 : 0 ≤ (F1 60).toInt) : TP X L F1 G1 := by
  obtain ⟨e14, e24, e37, e53, e54, g17, g20, g21, g23, g27, g31, g34⟩ := tpo.e e
  obtain ⟨h1, h2, h3, h4⟩ := h
  have f14 := hK.1 14 e14
  have f24 := hK.1 24 e24
  have f37 := hK.1 37 e37
  have f53 := hK.1 53 e53
  have f54 := hK.1 54 e54
  have k17 := hK.2 17 g17
  have k20 := hK.2 20 g20
  have k21 := hK.2 21 g21
  have k23 := hK.2 23 g23
  have k27 := hK.2 27 g27
  have k31 := hK.2 31 g31
  have k34 := hK.2 34 g34
  have hk : kindsOf G1 = kindsOf G := by
    funext f
    unfold kindsOf
    rw [k27, k31, k34]
  refine ⟨?_, ?_, ?_, ?_⟩
  · unfold XS
    rw [f24, f37, f53, f54, hk]
    exact h1
  · intro q4 q
    have := h2 (f54.symm.trans q4) (hM q)
    unfold DI at this ⊢
    rw [f14, k17, k20, k21, k23]
    exact this
  · intro q4
    have h3 := h3 (f54.symm.trans q4)
    unfold FTb at h3 ⊢
    rw [f24, k27, k31, k34]
    exact h3
  · rw [f14, f24]
    exact ⟨h4.1, h4.2.1, h43.1, h43.2, h70, h60⟩
/-- how high the stack may stand -/
def bd (k : Int) (F : PF) (s : SH) : Prop := (s.length : Int) + (if F 54 = 0 then 12 else 0) ≤ 14 * (F 43).toInt + k
def PKp (F : PF) (G G1 : PG) : Prop := ∀ i : Nat, (i : Int) < (F 70).toInt → G1 68 i = G 68 i ∧ G1 69 i = G 69 i
/-- code that leaves s1 where it found s -/
def TE (X : TX) (F : PF) (G : PG) (F1 : PF) (G1 : PG) (k : Int) (f : SH → SH) : Prop := ∀ (A : AN) (s : SH) (d : Nat), A (sN F) = (s, d, false) → bd k F s → EX X F G A F1 G1 (f s) d []
def EOK (F : PF) (G : PG) (m : Int32) : Prop := 0 ≤ m.toInt ∧ m.toInt < (F 14).toInt ∧ G 17 m.toNatClampNeg = 2
def FOK (F : PF) (f : Int32) : Prop := 0 ≤ f.toInt ∧ f.toInt < (F 24).toInt
def TS (X : TX) (i : Nat) (x y : Int32) (F : PF) (G : PG) (F1 : PF) (G1 : PG) : Prop :=
  if i = 0 then (F 54 = 0 → FOK F x → 0 ≤ y.toInt → y.toInt < (G 27 x.toNatClampNeg).toInt ∧ TE X F G F1 G1 0 (pushK (G 34 (G 31 x.toNatClampNeg + y).toNatClampNeg).toInt.toNat))
  else if i = 1 then (F 54 = 0 → TE X F G F1 G1 8 (fun s => 0 :: s))
  else if i = 3 then (F 54 = 0 → EOK F G x → TE X F G F1 G1 8 (fun s => 1 :: s))
  else if i = 5 then (¬ F 54 = 0 → TE X F G F1 G1 8 (fun s => 0 :: s))
  else if i = 6 then (F 54 = 0 → TE X F G F1 G1 8 (fun s => 0 :: s))
  else if i = 7 then TE X F G F1 G1 8 (fun s => 0 :: s)
  else if i = 8 then TE X F G F1 G1 8 (fun s => 0 :: s)
  else TE X F G F1 G1 0 (fun s => 0 :: s)
def TQ (X : TX) (i : Nat) (x y : Int32) (F : PF) (G : PG) (r : Int32) (F1 : PF) (G1 : PG) : Prop := (r = 0 ∨ r = 1) ∧ (r = 1 → F1 43 = F 43 ∧ F1 70 = F 70 ∧ 0 ≤ (F1 60).toInt ∧ PKp F G G1 ∧ (LV F1 → TS X i x y F G F1 G1))
def mTI (X : TX) (L : List Nat) (rc : RC) : Prop := ∀ (i : Nat) (x y : Int32) (F : PF) (G : PG), TP X L F G → PP (rc i x y F G) (fun r F1 G1 => TQ X i x y F G r F1 G1)
def mMOI (rc : RC) : Prop := ∀ (i : Nat) (x y : Int32) (F : PF) (G : PG), PP (rc i x y F G) (fun _ F1 _ => MO F F1)
theorem mq_step {fu : Nat} (w a b : Int32) (F : PF) (G : PG) : PP (mf_step fu w a b F G) (fun r F1 G1 => KX [60] [56, 57, 58] F G F1 G1 ∧ r = F 60 ∧ F1 60 = F 60 + 1 ∧ G1 = g3s G (sN F) w a b ∧ vp_in (F 60) 9000) := by
  refine PP.mono (PP.and (mw_step w a b F G) (mp_step w a b F G)) ?_
  rintro r F1 G1 ⟨hK, h1, h2, h3, h4⟩
  refine ⟨hK, h1.trans (i_as _), ?_, h3, h4⟩
  rw [h2]
  rfl
theorem EX.stp {X : TX} {F0 F F1 : PF} {G0 G G1 : PG} {A0 : AN} {s s1 : SH} {d : Nat} {hs : List (Nat × SH × Nat)} {w a b : Int32} (h : EX X F0 G0 A0 F G s d hs) (hn : vp_in (F 60) 9000) (e : F1 60 = F 60 + 1) (eg : G1 = g3s G (sN F) w a b) (hl : s.length ≤ 600) (ho : ∀ z, opI X w a b z s s1) : EX X F0 G0 A0 F1 G1 s1 d hs := by
  subst eg
  exact EX.st (EX.step h hn hl ho) e (fun _ _ _ => rfl)
theorem EX.stp4 {X : TX} {F0 F F1 : PF} {G0 G G1 : PG} {A0 : AN} {s s1 : SH} {d : Nat} {hs : List (Nat × SH × Nat)} {w a b z : Int32} (h : EX X F0 G0 A0 F G s d hs) (hn : vp_in (F 60) 9000) (e : F1 60 = F 60 + 1) (eg : G1 = g3s G (sN F) w a b) (hl : s.length ≤ 600) (ho : opI X w a b z s s1) : EX X F0 G0 A0 F1 (gup G1 59 (sN F) z) s1 d hs := by
  subst eg
  exact EX.st (EX.step4 h hn hl ho) e (fun _ _ _ => rfl)
theorem EX.cnd {X : TX} {F0 F F1 : PF} {G0 G G1 : PG} {A0 : AN} {s : SH} {d : Nat} {hs : List (Nat × SH × Nat)} {w a b : Int32} (h : EX X F0 G0 A0 F G (0 :: s) d hs) (hn : vp_in (F 60) 9000) (e : F1 60 = F 60 + 1) (eg : G1 = g3s G (sN F) w a b) (hl : s.length ≤ 599) (hw : w = 13 ∨ w = 14) (d1 : Nat) (hd : d1 < d ∧ X.1 = false ∨ d1 = d) : EX X F0 G0 A0 F1 G1 s d ((sN F, s, d1) :: hs) := by
  subst eg
  exact EX.st (EX.cond h hn hl hw hd) e (fun _ _ _ => rfl)
theorem EX.gos {X : TX} {F0 F F1 : PF} {G0 G G1 : PG} {A0 : AN} {s : SH} {d : Nat} {hs : List (Nat × SH × Nat)} {a b : Int32} (h : EX X F0 G0 A0 F G s d hs) (hn : vp_in (F 60) 9000) (e : F1 60 = F 60 + 1) (eg : G1 = g3s G (sN F) 12 a b) (hl : s.length ≤ 600) (s1 : SH) (d1 d2 : Nat) (hd : d2 < d ∧ X.1 = false ∨ d2 = d) (hd1 : d ≤ d1 ∨ (A0 (sN F0)).2.1 ≤ d1 := by exact Or.inl (Nat.le_refl _)) : EX X F0 G0 A0 F1 G1 s1 d1 ((sN F, s, d2) :: hs) := by
  subst eg
  exact EX.st (EX.go h hn hl hd hd1) e (fun _ _ _ => rfl)
/-- a call: its turn and the call -/
theorem EX.call {X : TX} {F0 F F1 F2 : PF} {G0 G G1 G2 : PG} {A0 : AN} {s s0 : SH} {d : Nat} {hs : List (Nat × SH × Nat)} {a b a1 b1 : Int32} (h : EX X F0 G0 A0 F G s d hs) (hn : vp_in (F 60) 9000) (e : F1 60 = F 60 + 1) (eg : G1 = g3s G (sN F) 15 a b) (hn1 : vp_in (F1 60) 9000) (e1 : F2 60 = F1 60 + 1) (eg1 : G2 = g3s G1 (sN F1) 16 a1 b1) (hl : s.length ≤ 600) (hm : X.1 = false) (ha : 0 ≤ a1.toInt) (hb : a1.toInt < (X.2.1 : Int)) (hs0 : s = argS (X.2.2.1 a1.toInt.toNat) s0) (hl0 : s0.length ≤ 542) : EX X F0 G0 A0 F2 G2 (0 :: s0) d hs := by
  obtain ⟨A, a0, a1', a2, a3, a4, a5, a7, a6⟩ := h
  have en : sN F1 = sN F + 1 := by show (F1 60).toNatClampNeg = _; rw [e]; exact nI_inc hn
  have en2 : sN F2 = sN F + 2 := by
    show (F2 60).toNatClampNeg = _
    rw [e1, nI_inc hn1]
    show sN F1 + 1 = _
    omega
  subst eg
  subst eg1
  have ec : ∀ k, k ≠ sN F → k ≠ sN F1 → cEq G (g3s (g3s G (sN F) 15 a b) (sN F1) 16 a1 b1) k := fun k h1 h2 => (g3s_c k h1).tr (g3s_c k h2)
  let A1 : AN := aup (aup A (sN F + 1) (s, d, true)) (sN F + 2) (0 :: s0, d, false)
  have hA : ∀ j, j ≤ sN F → A1 j = A j := fun j hj => (aup_n (by omega)).trans (aup_n (by omega))
  have hA1 : A1 (sN F + 1) = (s, d, true) := (aup_n (by omega)).trans aup_s
  have hA2 : A1 (sN F + 2) = (0 :: s0, d, false) := aup_s
  have h0 : A1 (sN F) = (s, d, false) := (hA _ (Nat.le_refl _)).trans a3
  refine ⟨A1, a0, by omega, fun k hk => (hA k (Nat.le_trans hk a1')).trans (a2 k hk), by rw [en2]; exact hA2, fun k hk => (a4 k hk).tr (ec k (by omega) (by omega)), ?_, ?_, ?_⟩
  · intro x hx
    obtain ⟨c1, c2, c3⟩ := a5 x hx
    rw [en2]
    exact ⟨c1, by omega, c3.ext (Nat.le_of_lt c2) hA (by omega) (ec _ (by omega) (by omega))⟩
  · intro k k1 k2
    rw [en2] at k2
    have bb := a7 _ a1' (Nat.le_refl _)
    rw [a3] at bb
    by_cases c : k ≤ sN F
    · rw [hA k c]
      exact a7 k k1 c
    · by_cases c1 : k = sN F + 1
      · rw [c1, hA1]; exact bb
      · rw [show k = sN F + 2 by omega, hA2]; exact bb
  · intro k k1 k2
    rw [en2] at k2 ⊢
    by_cases c : k = sN F
    · subst c
      refine Or.inl ?_
      unfold TT TT1
      rw [h0, hA1]
      have i1 : g3s (g3s G (sN F) 15 a b) (sN F1) 16 a1 b1 56 (sN F) = 15 := (g3s_c (G := g3s G (sN F) 15 a b) (sN F) (by omega)).1.trans g3s_i.1
      rw [i1]
      exact ⟨hl, Or.inr (Or.inr (Or.inr ⟨hm, Or.inl ⟨rfl, by omega, rfl⟩⟩))⟩
    · by_cases c1 : k = sN F + 1
      · subst c1
        refine Or.inl ?_
        unfold TT TT1
        rw [hA1, ← en]
        have i1 := @g3s_i (g3s G (sN F) 15 a b) (sN F1) 16 a1 b1
        rw [i1.1, i1.2.1]
        refine ⟨hl, Or.inr (Or.inr (Or.inr ⟨hm, Or.inr (Or.inl ⟨rfl, rfl, ha, hb, s0, hs0, hl0, ?_⟩)⟩))⟩
        unfold jp
        rw [en, hA2, hA1]
        exact ⟨by omega, rfl, rfl, Or.inr ⟨rfl, by omega⟩⟩
      · rcases a6 k k1 (by omega) with q | q
        · exact Or.inl (q.ext (by omega) hA (by omega) (ec _ c (by omega)))
        · exact Or.inr q
theorem bd.len {k : Int} {F : PF} {s : SH} (h : bd k F s) (h1 : (F 43).toInt ≤ 40) : (s.length : Int) ≤ 560 + k := by
  unfold bd at h
  split at h <;> omega
theorem inc60 {F F1 : PF} (hn : vp_in (F 60) 9000) (e : F1 60 = F 60 + 1) : 0 ≤ (F1 60).toInt := by
  obtain ⟨h0, h1⟩ := vp_in_iff.mp hn
  have := i_addn (F 60) (n := 1) (m := 1) rfl (by omega) (by omega)
  rw [e]
  omega
theorem o_inc {x : Int32} (h : 0 ≤ x.toInt ∧ x.toInt ≤ 40) (hne : ¬ x = 40) : (x + 1).toInt = x.toInt + 1 ∧ 0 ≤ (x + 1).toInt ∧ (x + 1).toInt ≤ 40 := by
  have e : (x + 1).toInt = x.toInt + 1 := i_addn x rfl (by omega) (by omega)
  have : ¬ x.toInt = 40 := fun q => hne (i_eq.mpr q)
  omega
theorem PKp.tr {F0 F : PF} {G0 G G1 : PG} (h : PKp F0 G0 G) (h1 : PKp F G G1) (e : F 70 = F0 70) : PKp F0 G0 G1 := by
  intro i hi
  have a := h i hi
  have b := h1 i (by rw [e]; exact hi)
  exact ⟨b.1.trans a.1, b.2.trans a.2⟩
theorem PKp.kx {a b : List Nat} {F0 F F1 : PF} {G0 G G1 : PG} (h : PKp F0 G0 G) (hK : KX a b F G F1 G1) (e : b.contains 68 = false) (e1 : b.contains 69 = false) : PKp F0 G0 G1 := by
  intro i hi
  rw [hK.2 68 e, hK.2 69 e1]
  exact h i hi
theorem TP.m {X : TX} {L : List Nat} {F : PF} {G : PG} (h : TP X L F G) : (F 54 = 0 → X.1 = false) ∧ (¬ F 54 = 0 → X.1 = true) := by
  rw [← h.1]
  exact ⟨fun q => decide_eq_false (fun q1 => q1 q), fun q => decide_eq_true q⟩
theorem mnR.e {F F1 : PF} {r : Int32} (h : mnR F1 r) (e : F1 14 = F 14) : mnR F r := by
  unfold mnR at h ⊢
  rw [← e]; exact h
theorem mnF.e {F F1 F2 : PF} (h : mnF F1 F2) (e : F1 24 = F 24) : mnF F F2 := by
  unfold mnF at h ⊢
  rw [← e]; exact h
theorem bd.mv {k k1 e : Int} {c : Nat} {F F1 : PF} {s s1 : SH} (h : bd k F s) (e54 : F1 54 = F 54) (e43 : (F1 43).toInt = (F 43).toInt + e) (hl : s1.length ≤ s.length + c) (hk : k + c ≤ 14 * e + k1) : bd k1 F1 s1 := by
  unfold bd at h ⊢
  rw [e54]
  split at h
  · rw [if_pos (by assumption)]; omega
  · rw [if_neg (by assumption)]; omega
theorem DI.at {X : TX} {L : List Nat} {a b : List Nat} {F0 F : PF} {G0 G : PG} {m : Int32} (hT : TP X L F0 G0) (h54 : F0 54 = 0) (h47 : F0 47 = 0) (K : KX a b F0 G0 F G) (e : tpo a b = true) (hm : mnR F0 m) (hne : ¬ m = -1) : 0 ≤ m.toInt ∧ m.toInt < (F0 14).toInt ∧ ((G 17 m.toNatClampNeg = 0 ∧ ¬ G 21 m.toNatClampNeg = -1) ∨ (G 17 m.toNatClampNeg = 1 ∧ (¬ G 23 m.toNatClampNeg = 0 → 0 ≤ (G 20 m.toNatClampNeg).toInt ∧ (G 20 m.toNatClampNeg).toInt < (X.2.2.2.2.1 : Int) ∧ icell X.2.2.2.2.2 (G 20 m.toNatClampNeg).toInt.toNat) ∧ (G 23 m.toNatClampNeg = 0 → 0 ≤ (G 20 m.toNatClampNeg).toInt ∧ (G 20 m.toNatClampNeg).toInt < (X.2.2.2.1 : Int))) ∨ (G 17 m.toNatClampNeg = 2 ∧ (¬ G 23 m.toNatClampNeg = 0 → arr X (G 20 m.toNatClampNeg) (G 21 m.toNatClampNeg) 1) ∧ (G 23 m.toNatClampNeg = 0 → arr X (G 20 m.toNatClampNeg) (G 21 m.toNatClampNeg) 0))) := by
  obtain ⟨e14, e24, e37, e53, e54, g17, g20, g21, g23, g27, g31, g34⟩ := tpo.e e
  rw [K.2 17 g17, K.2 20 g20, K.2 21 g21, K.2 23 g23]
  rcases hm with q | ⟨q1, q2⟩
  · exact absurd q hne
  · refine ⟨q1, q2, hT.2.1 h54 h47 m.toNatClampNeg ?_⟩
    show (m.toInt.toNat : Int) < _
    omega
def fnR (F : PF) (f : Int32) : Prop := f = -1 ∨ FOK F f
theorem b_and1 (p : Int32) : ((2 * p + 1 : Int32)) &&& 1 = 1 ∧ ((2 * p + 0 : Int32)) &&& 1 = 0 := by
  constructor
  · refine Int32.toBitVec.inj (BitVec.eq_of_toNat_eq ?_)
    rw [Int32.toBitVec_and, BitVec.toNat_and, Int32.toBitVec_add, BitVec.toNat_add, Int32.toBitVec_mul, BitVec.toNat_mul, show (1 : Int32).toBitVec.toNat = 1 from rfl, show (2 : Int32).toBitVec.toNat = 2 from rfl, Nat.and_one_is_mod]
    omega
  · refine Int32.toBitVec.inj (BitVec.eq_of_toNat_eq ?_)
    rw [Int32.toBitVec_and, BitVec.toNat_and, Int32.toBitVec_add, BitVec.toNat_add, Int32.toBitVec_mul, BitVec.toNat_mul, show (1 : Int32).toBitVec.toNat = 1 from rfl, show (2 : Int32).toBitVec.toNat = 2 from rfl, show (0 : Int32).toBitVec.toNat = 0 from rfl, Nat.and_one_is_mod]
    omega
theorem argS_app (L M : List Nat) : ∀ s : SH, argS (L ++ M) s = argS M (argS L s) := by
  induction L with
  | nil => intro s; rfl
  | cons k L ih => intro s; exact ih (pushK k s)
theorem argS_len (L : List Nat) : ∀ s : SH, (argS L s).length ≤ s.length + 2 * L.length := by
  induction L with
  | nil => intro s; exact Nat.le_refl _
  | cons k L ih =>
    intro s
    have h := ih (pushK k s)
    have : (pushK k s).length ≤ s.length + 2 := by
      unfold pushK
      split
      · show s.length + 1 ≤ _; omega
      · show s.length + 2 ≤ _; omega
    show (argS L (pushK k s)).length ≤ s.length + 2 * (L.length + 1)
    omega
theorem TP.dc {X : TX} {L : List Nat} {F : PF} {G : PG} (h : TP X L F G) (h54 : F 54 = 0) (h46 : 0 < (F 46).toInt) : (0 ≤ (F 14).toInt ∧ 0 ≤ (F 24).toInt ∧ 0 < (F 46).toInt) ∧ (F 47 = 0 → ∀ k : Nat, (k : Int) < (F 14).toInt → G 17 k = 0 → ¬ G 21 k = -1) := by
  refine ⟨⟨h.2.2.2.1, h.2.2.2.2.1, h46⟩, fun q k hk h17 => ?_⟩
  rcases h.2.1 h54 q k hk with ⟨-, r⟩ | ⟨r, -⟩ | ⟨r, -⟩
  · exact r
  · rw [h17] at r; exact absurd r (by decide)
  · rw [h17] at r; exact absurd r (by decide)
/-- only the code below counts -/
theorem EX.lo {X : TX} {F0 F F1 : PF} {G0 G G1 : PG} {A0 : AN} {s : SH} {d : Nat} {hs : List (Nat × SH × Nat)} (h : EX X F0 G0 A0 F G s d hs) (e : F1 60 = F 60) (e1 : ∀ k, k < sN F → cEq G G1 k) : EX X F0 G0 A0 F1 G1 s d hs := by
  obtain ⟨A, a0, a1, a2, a3, a4, a5, a7, a6⟩ := h
  have en : sN F1 = sN F := by show (F1 60).toNatClampNeg = _; rw [e]
  refine ⟨A, a0, by rw [en]; exact a1, a2, by rw [en]; exact a3, fun k hk => (a4 k hk).tr (e1 k (by omega)), ?_, by rw [en]; exact a7, ?_⟩
  · intro x hx
    obtain ⟨c1, c2, c3⟩ := a5 x hx
    rw [en]
    exact ⟨c1, c2, c3.ext (Nat.le_of_lt c2) (fun _ _ => rfl) (Nat.le_refl _) (e1 _ c2)⟩
  · intro k k1 k2
    rw [en] at k2 ⊢
    rcases a6 k k1 k2 with q | q
    · exact Or.inl (q.ext (Nat.le_of_lt k2) (fun _ _ => rfl) (Nat.le_refl _) (e1 _ k2))
    · exact Or.inr q
theorem S_eq {F0 F F1 : PF} (S : sN F0 ≤ sN F) (e : F1 60 = F 60) : sN F0 ≤ sN F1 := by
  show _ ≤ (F1 60).toNatClampNeg
  rw [e]
  exact S
theorem S_st {F0 F F1 : PF} (S : sN F0 ≤ sN F) (hn : vp_in (F 60) 9000) (e : F1 60 = F 60 + 1) : sN F0 ≤ sN F1 := by
  show _ ≤ (F1 60).toNatClampNeg
  rw [e, nI_inc hn]
  exact Nat.le_succ_of_le S
/-- the code below stands -/
def CB (F0 : PF) (G0 G : PG) : Prop := ∀ k, k < sN F0 → cEq G0 G k
theorem CB.kx {a b : List Nat} {F0 F F1 : PF} {G0 G G1 : PG} (C : CB F0 G0 G) (hK : KX a b F G F1 G1) (e : b.contains 56 = false) (e1 : b.contains 57 = false) (e2 : b.contains 58 = false) (e3 : b.contains 59 = false) : CB F0 G0 G1 := by
  intro k hk
  refine (C k hk).tr ⟨?_, ?_, ?_, ?_⟩
  · rw [hK.2 56 e]
  · rw [hK.2 57 e1]
  · rw [hK.2 58 e2]
  · rw [hK.2 59 e3]
theorem CB.stp {F0 F : PF} {G0 G G1 : PG} {w a b : Int32} (C : CB F0 G0 G) (S : sN F0 ≤ sN F) (eg : G1 = g3s G (sN F) w a b) : CB F0 G0 G1 := by
  intro k hk
  rw [eg]
  exact (C k hk).tr (g3s_c k (by omega))
theorem CB.g57 {F0 : PF} {G0 G : PG} {p : Nat} {v : Int32} (C : CB F0 G0 G) (S : sN F0 ≤ p) : CB F0 G0 (gup G 57 p v) := by
  intro k hk
  exact (C k hk).tr ⟨rfl, gup_x (by omega), rfl, rfl⟩
theorem CB.g59 {F0 : PF} {G0 G : PG} {p : Nat} {v : Int32} (C : CB F0 G0 G) (S : sN F0 ≤ p) : CB F0 G0 (gup G 59 p v) := by
  intro k hk
  exact (C k hk).tr ⟨rfl, rfl, rfl, gup_x (by omega)⟩
theorem CB.tr {F0 F : PF} {G0 G G1 : PG} (C : CB F0 G0 G) (S : sN F0 ≤ sN F) (C1 : CB F G G1) : CB F0 G0 G1 := by
  intro k hk
  exact (C k hk).tr (C1 k (by omega))
theorem FTb.kx {a b : List Nat} {F F1 : PF} {G G1 : PG} (h : FTb F G) (K : KX a b F G F1 G1) (e : tpo a b = true) : FTb F1 G1 := by
  obtain ⟨e14, e24, e37, e53, e54, g17, g20, g21, g23, g27, g31, g34⟩ := tpo.e e
  unfold FTb at h ⊢
  rw [K.1 24 e24, K.2 27 g27, K.2 31 g31, K.2 34 g34]
  exact h
