abbrev HLs : Type := List (Nat × SH × Nat)
theorem ST.m {L : List Nat} {F : PF} {G : PG} (h : ST L F G) : (XS L F G).1 = false := decide_eq_false (fun q => q h.2.1)
theorem EY.pm {X : TX} {F0 F : PF} {G0 G : PG} {A0 : AN} {s : SH} {d : Nat} {hs hs1 ls : HLs} (h : EY X F0 G0 A0 F G s d hs ls) (p : List.Perm hs1 hs) : EY X F0 G0 A0 F G s d hs1 ls := by
  obtain ⟨A, ⟨a0, a1, a2, a3, a4, a5, a7, a6⟩, hl⟩ := h
  refine ⟨A, ⟨?_, a1, a2, a3, a4, fun x hx => a5 x (p.mem_iff.mp hx), a7, fun k k1 k2 => ?_⟩, hl⟩
  · unfold ND
    exact (List.Perm.nodup_iff (List.Perm.map (fun x : Nat × SH × Nat => x.1) p)).mpr a0
  · rcases a6 k k1 k2 with q | ⟨x, q, q1⟩
    · exact Or.inl q
    · exact Or.inr ⟨x, p.mem_iff.mpr q, q1⟩
/-- the aim of a jump that waits does not matter -/
theorem EY.h57 {X : TX} {F0 F : PF} {G0 G : PG} {A0 : AN} {s : SH} {d p : Nat} {v : Int32} {hs ls : HLs} (h : EY X F0 G0 A0 F G s d hs ls) (hp : ∃ x ∈ hs, x.1 = p) : EY X F0 G0 A0 F (gup G 57 p v) s d hs ls := by
  obtain ⟨A, ⟨a0, a1, a2, a3, a4, a5, a7, a6⟩, hl⟩ := h
  have hc : ∀ k, k ≠ p → cEq G (gup G 57 p v) k := fun k hk => ⟨rfl, gup_x hk, rfl, rfl⟩
  obtain ⟨y, y1, y2⟩ := hp
  have hy := (a5 y y1).1
  refine ⟨A, ⟨a0, a1, a2, a3, fun k hk => (a4 k hk).tr (hc k (by omega)), fun x hx => ?_, a7, fun k k1 k2 => ?_⟩, hl⟩
  · obtain ⟨c1, c2, c3⟩ := a5 x hx
    exact ⟨c1, c2, c3⟩
  · by_cases c : k = p
    · exact Or.inr ⟨y, y1, y2.trans c.symm⟩
    · rcases a6 k k1 k2 with q | q
      · exact Or.inl (q.ext (Nat.le_of_lt k2) (fun _ _ => rfl) (Nat.le_refl _) (hc _ c))
      · exact Or.inr q
theorem EY.labq {X : TX} {F0 F : PF} {G0 G : PG} {A0 : AN} {s s0 : SH} {d d0 q : Nat} {hs ls : HLs} (h : EY X F0 G0 A0 F G s d hs ls) (hq : q ≤ sN F0) (h0 : A0 q = (s0, d0, false)) : EY X F0 G0 A0 F G s d hs ((q, s0, d0) :: ls) := by
  obtain ⟨A, ⟨a0, a1, a2, a3, a4, a5, a7, a6⟩, hl⟩ := h
  refine ⟨A, ⟨a0, a1, a2, a3, a4, a5, a7, a6⟩, fun l hl1 => ?_⟩
  rcases List.mem_cons.mp hl1 with rfl | hl1
  · exact ⟨Nat.le_trans hq a1, (a2 q hq).trans h0⟩
  · exact hl l hl1
theorem lpH_app {s : SH} {d : Nat} {a b : List Nat} : lpH s d (a ++ b) = lpH s d a ++ lpH s d b := List.map_append
theorem pm4 {α : Type} (a b c e : List α) : List.Perm ((a ++ b) ++ (c ++ e)) ((a ++ c) ++ (b ++ e)) := by
  rw [List.append_assoc, List.append_assoc]
  refine List.Perm.append_left a ?_
  rw [← List.append_assoc, ← List.append_assoc]
  exact List.Perm.append_right e List.perm_append_comm
/-- breaks and continues that wait since F0 -/
def CK (F0 F : PF) (G : PG) (LB LC : List Nat) : Prop := chn (G 57) LB (F 63) (F0 63) ∧ chn (G 57) LC (F 64) (F0 64) ∧ (∀ p ∈ LB ++ LC, sN F0 ≤ p ∧ p < sN F) ∧ (LB ++ LC).Nodup ∧ (F0 51 = 0 → LB = [] ∧ LC = [])
theorem CK.rf {F : PF} {G : PG} : CK F F G [] [] := ⟨rfl, rfl, (fun p hp => nomatch hp), List.nodup_nil, fun _ => ⟨rfl, rfl⟩⟩
theorem CK.lo {F0 F F1 : PF} {G G1 : PG} {LB LC : List Nat} (h : CK F0 F G LB LC) (e63 : F1 63 = F 63) (e64 : F1 64 = F 64) (S : sN F ≤ sN F1) (e : ∀ p ∈ LB ++ LC, G1 57 p = G 57 p) : CK F0 F1 G1 LB LC := by
  obtain ⟨h1, h2, h3, h4, h5⟩ := h
  refine ⟨?_, ?_, fun p hp => ⟨(h3 p hp).1, Nat.lt_of_lt_of_le (h3 p hp).2 S⟩, h4, h5⟩
  · rw [e63]
    exact chn.ext LB _ _ (fun p hp => e p (List.mem_append_left _ hp)) h1
  · rw [e64]
    exact chn.ext LC _ _ (fun p hp => e p (List.mem_append_right _ hp)) h2
theorem CK.tr {F0 F F1 : PF} {G G1 : PG} {LB LC LB1 LC1 : List Nat} (h : CK F0 F G LB LC) (h1 : CK F F1 G1 LB1 LC1) (C : CB F G G1) (S : sN F0 ≤ sN F) (S1 : sN F ≤ sN F1) (e51 : F 51 = F0 51) : CK F0 F1 G1 (LB1 ++ LB) (LC1 ++ LC) := by
  obtain ⟨a1, a2, a3, a4, a5⟩ := h
  obtain ⟨b1, b2, b3, b4, b5⟩ := h1
  refine ⟨?_, ?_, ?_, ?_, ?_⟩
  · exact chn.app _ _ _ _ _ b1 (chn.ext LB _ _ (fun p hp => (C p (a3 p (List.mem_append_left _ hp)).2).2.1) a1)
  · exact chn.app _ _ _ _ _ b2 (chn.ext LC _ _ (fun p hp => (C p (a3 p (List.mem_append_right _ hp)).2).2.1) a2)
  · intro p hp
    rcases List.mem_append.mp ((pm4 LB1 LB LC1 LC).mem_iff.mp hp) with q | q
    · exact ⟨Nat.le_trans S (b3 p q).1, (b3 p q).2⟩
    · exact ⟨(a3 p q).1, Nat.lt_of_lt_of_le (a3 p q).2 S1⟩
  · refine ((pm4 LB1 LB LC1 LC).nodup_iff).mpr ?_
    rw [List.nodup_append]
    refine ⟨b4, a4, fun p hp q hq => ?_⟩
    have := (b3 p hp).1
    have := (a3 q hq).2
    omega
  · intro q
    obtain ⟨q1, q2⟩ := a5 q
    obtain ⟨q3, q4⟩ := b5 (by rw [e51]; exact q)
    rw [q1, q2, q3, q4]
    exact ⟨rfl, rfl⟩
/-- what was made since F0, typed, if the text was typed -/
def TY (L : List Nat) (F0 : PF) (G0 : PG) (F : PF) (G : PG) (s : SH) (e : Nat) (hs : Nat → Nat → Nat → HLs) (ls : Nat → HLs) : Prop := ST L F0 G0 → F 47 = 0 → ST L F G ∧ XL (XS L F0 G0) (XS L F G) ∧ ∀ (A : AN) (d dB dC : Nat), dB ≤ d → dC ≤ d → A (sN F0) = ([], d, false) → EY (XS L F G) F0 G0 A F G s (d + e) (hs d dB dC) (ls d)
theorem TY.seq {L : List Nat} {F0 F F1 : PF} {G0 G G1 : PG} {s s1 : SH} {e e1 : Nat} {hs hs1 : Nat → Nat → Nat → HLs} {ls : Nat → HLs} (h : TY L F0 G0 F G s e hs ls) (hM : M7 F F1) (t : ST L F0 G0 → ST L F G → F1 47 = 0 → ST L F1 G1 ∧ XL (XS L F G) (XS L F1 G1) ∧ ∀ (A : AN) (d dB dC : Nat), dB ≤ d → dC ≤ d → A (sN F) = (s, d + e, false) → (∀ l ∈ ls d, l.1 ≤ sN F ∧ A l.1 = (l.2.1, l.2.2, false)) → EX (XS L F1 G1) F G A F1 G1 s1 (d + e1) (hs1 d dB dC)) : TY L F0 G0 F1 G1 s1 e1 (fun d dB dC => hs1 d dB dC ++ hs d dB dC) ls := by
  intro hS h47
  obtain ⟨S1, X1, E⟩ := h hS (hM h47)
  obtain ⟨S2, X2, E2⟩ := t hS S1 h47
  exact ⟨S2, X1.tr X2, fun A d dB dC hB hC hA => EY.tr (EY.mono X2 (E A d dB dC hB hC hA)) (fun A1 a1 a2 => E2 A1 d dB dC hB hC a1 a2)⟩
/-- nothing made -/
def qpo (a b : List Nat) : Bool := tpo a b && !(a.contains 46 || a.contains 52 || a.contains 60 || a.contains 63 || a.contains 64 || a.contains 51 || b.contains 56 || b.contains 57 || b.contains 58 || b.contains 59)
theorem qpo.e {a b : List Nat} (h : qpo a b = true) : tpo a b = true ∧ a.contains 46 = false ∧ a.contains 52 = false ∧ a.contains 60 = false ∧ a.contains 63 = false ∧ a.contains 64 = false ∧ a.contains 51 = false ∧ b.contains 56 = false ∧ b.contains 57 = false ∧ b.contains 58 = false ∧ b.contains 59 = false := by
  unfold qpo at h
  simp only [Bool.and_eq_true, Bool.not_eq_true', Bool.or_eq_false_iff] at h
  exact ⟨h.1, h.2.1.1.1.1.1.1.1.1.1, h.2.1.1.1.1.1.1.1.1.2, h.2.1.1.1.1.1.1.1.2, h.2.1.1.1.1.1.1.2, h.2.1.1.1.1.1.2, h.2.1.1.1.1.2, h.2.1.1.1.2, h.2.1.1.2, h.2.1.2, h.2.2⟩
theorem XL.of {X X1 : TX} (h : X1 = X) : XL X X1 := by rw [h]; exact XL.rf
theorem TY.kx {L : List Nat} {a b : List Nat} {F0 F F1 : PF} {G0 G G1 : PG} {s : SH} {e : Nat} {hs : Nat → Nat → Nat → HLs} {ls : Nat → HLs} (h : TY L F0 G0 F G s e hs ls) (K : KX a b F G F1 G1) (hM : M7 F F1) (eq : qpo a b = true) : TY L F0 G0 F1 G1 s e hs ls := by
  obtain ⟨q0, q1, q2, q3, -, -, -, q4, q5, q6, q7⟩ := qpo.e eq
  intro hS h47
  obtain ⟨S1, X1, E⟩ := h hS (hM h47)
  have hX := XS.kx (L := L) K q0
  refine ⟨S1.kx K hM q0 q1 q2, X1.tr (XL.of hX), fun A d dB dC hB hC hA => ?_⟩
  rw [hX]
  exact EY.st (E A d dB dC hB hC hA) (K.1 60 q3) (KX.c K q4 q5 q6 q7)
/-- along a method's text: what is sure, and what is typed -/
def PQ (L : List Nat) (F0 : PF) (G0 : PG) (j : Int) (F : PF) (G : PG) (s : SH) (e : Nat) (hs : Nat → Nat → Nat → HLs) (ls : Nat → HLs) (LB LC : List Nat) : Prop := GP F ∧ sN F0 ≤ sN F ∧ CB F0 G0 G ∧ M7 F0 F ∧ (F 43).toInt = (F0 43).toInt + j ∧ F 51 = F0 51 ∧ CK F0 F G LB LC ∧ TY L F0 G0 F G s e hs ls
theorem PQ.rf {L : List Nat} {F : PF} {G : PG} (h : GP F) : PQ L F G 0 F G [] 0 (fun _ _ _ => []) (fun _ => []) [] [] := ⟨h, Nat.le_refl _, fun _ _ => cEq.rf, M7.rf, by omega, rfl, CK.rf, fun hS _ => ⟨hS, XL.rf, fun A d _ _ _ _ hA => EX.ey (EX.rf hA)⟩⟩
section PQS
variable {L : List Nat} {F0 F F1 : PF} {G0 G G1 : PG} {j : Int} {s s1 : SH} {e e1 : Nat} {hs hs1 : Nat → Nat → Nat → HLs} {ls : Nat → HLs} {LB LC : List Nat}
theorem PQ.kx {a b : List Nat} (h : PQ L F0 G0 j F G s e hs ls LB LC) (K : KX a b F G F1 G1) (hM : M7 F F1) (eq : qpo a b = true) (e44 : a.contains 44 = false) (e70 : a.contains 70 = false) (e43 : a.contains 43 = false) : PQ L F0 G0 j F1 G1 s e hs ls LB LC := by
  obtain ⟨h1, h2, h3, h4, h5, h6, h7, h8⟩ := h
  obtain ⟨q0, q1, q2, q3, q63, q64, q51, q4, q5, q6, q7⟩ := qpo.e eq
  refine ⟨h1.kx K q3 e44 e70 (tpo.e q0).2.2.2.2.1 e43 q51, S_eq h2 (K.1 60 q3), CB.kx h3 K q4 q5 q6 q7, M7.tr h4 hM, by rw [K.1 43 e43]; exact h5, (K.1 51 q51).trans h6, CK.lo h7 (K.1 63 q63) (K.1 64 q64) (Nat.le_of_eq ?_) (fun p _ => by rw [K.2 57 q5]), h8.kx K hM eq⟩
  show (F 60).toNatClampNeg = (F1 60).toNatClampNeg
  rw [K.1 60 q3]
theorem PQ.f {k : Nat} {v : Int32} (h : PQ L F0 G0 j F G s e hs ls LB LC) (eq : qpo [k] [] = true := by rfl) (e44 : [k].contains 44 = false := by rfl) (e70 : [k].contains 70 = false := by rfl) (e43 : [k].contains 43 = false := by rfl) (e47 : [k].contains 47 = false := by rfl) : PQ L F0 G0 j (fup F k v) G s e hs ls LB LC := h.kx (KX.f (a := [k]) (b := []) (List.contains_iff_mem.mpr (List.mem_singleton.mpr rfl)) KX.rf) (M7.kx (KX.f (a := [k]) (b := []) (G := G) (G1 := G) (List.contains_iff_mem.mpr (List.mem_singleton.mpr rfl)) KX.rf) e47) eq e44 e70 e43
/-- a write to 43 -/
theorem PQ.m43 {v : Int32} {i : Int} (h : PQ L F0 G0 j F G s e hs ls LB LC) (hv : v.toInt = (F0 43).toInt + i) (h1 : 1 ≤ v.toInt) (h2 : v.toInt ≤ 40) (h3 : (F 51).toInt ≤ v.toInt) : PQ L F0 G0 i (fup F 43 v) G s e hs ls LB LC := by
  obtain ⟨a1, a2, a3, a4, a5, a6, a7, a8⟩ := h
  have K : KX [43] [] F G (fup F 43 v) G := KX.f rfl KX.rf
  refine ⟨?_, a2, a3, a4, hv, a6, CK.lo a7 rfl rfl (Nat.le_refl _) (fun _ _ => rfl), a8.kx K (M7.kx K rfl) rfl⟩
  obtain ⟨b1, b2, b3, b4, b5, b6, b7, b8⟩ := a1
  exact ⟨b1, b2, b3, b4, h1, h2, b7, h3⟩
theorem PQ.op {v : Int32} (h : PQ L F0 G0 j F G s e hs ls LB LC) (hne : ¬ F 43 = 40) : PQ L F0 G0 (j + 1) (fup (fup F 43 (F 43 + 1)) 42 v) G s e hs ls LB LC := by
  have g := h.1
  obtain ⟨b1, b2, b3, b4, b5, b6, b7, b8⟩ := g
  obtain ⟨o1, o2, o3⟩ := o_inc ⟨by omega, b6⟩ hne
  have h5 := h.2.2.2.2.1
  exact (h.m43 (v := F 43 + 1) (i := j + 1) (by omega) (by omega) o3 (by omega)).f
theorem dec43 {x : Int32} (h : 1 ≤ x.toInt) : (x - 1).toInt = x.toInt - 1 := by
  have := i_rng x
  exact i_subn x rfl (by omega) (by omega)
theorem PQ.dn (h : PQ L F0 G0 (j + 1) F G s e hs ls LB LC) (hg : GP F0) (hj : 0 ≤ j) : PQ L F0 G0 j (fup F 43 (F 43 - 1)) G s e hs ls LB LC := by
  have g := h.1
  obtain ⟨b1, b2, b3, b4, b5, b6, b7, b8⟩ := g
  obtain ⟨c1, c2, c3, c4, c5, c6, c7, c8⟩ := hg
  have h5 := h.2.2.2.2.1
  have h6 := h.2.2.2.2.2.1
  have hd := dec43 b5
  exact h.m43 (by omega) (by omega) (by omega) (by rw [h6]; omega)
theorem PQ.cl {v : Int32} (h : PQ L F0 G0 (j + 1) F G s e hs ls LB LC) (hg : GP F0) (hj : 0 ≤ j) : PQ L F0 G0 j (fup (fup F 42 v) 43 (F 43 - 1)) G s e hs ls LB LC := PQ.dn (F := fup F 42 v) h.f hg hj
/-- a step is made -/
theorem PQ.stp {fu : Nat} (h : PQ L F0 G0 j F G s e hs ls LB LC) (w a b : Int32) (t : ∀ (F1 : PF) (G1 : PG), F1 60 = F 60 + 1 → G1 = g3s G (sN F) w a b → vp_in (F 60) 9000 → ST L F0 G0 → ST L F G → F 47 = 0 → ∀ (A : AN) (d dB dC : Nat), dB ≤ d → dC ≤ d → A (sN F) = (s, d + e, false) → (∀ l ∈ ls d, l.1 ≤ sN F ∧ A l.1 = (l.2.1, l.2.2, false)) → EX (XS L F G) F G A F1 G1 s1 (d + e1) (hs1 d dB dC)) : PP (mf_step fu w a b F G) (fun r F1 G1 => r = F 60 ∧ KX [60] [56, 57, 58] F G F1 G1 ∧ sN F1 = sN F + 1 ∧ CB F G G1 ∧ PQ L F0 G0 j F1 G1 s1 e1 (fun d dB dC => hs1 d dB dC ++ hs d dB dC) ls LB LC) := by
  refine PP.mono (mq_step w a b F G) ?_
  rintro r F1 G1 ⟨K, rfl, e60, eg, hn⟩
  obtain ⟨h1, h2, h3, h4, h5, h6, h7, h8⟩ := h
  have S1 : sN F ≤ sN F1 := S_st (Nat.le_refl _) hn e60
  refine ⟨rfl, K, ?_, ?_, ⟨?_, S_st h2 hn e60, CB.stp h3 h2 eg, M7.tr h4 (M7.kx K rfl), by rw [K.1 43 rfl]; exact h5, (K.1 51 rfl).trans h6, CK.lo h7 (K.1 63 rfl) (K.1 64 rfl) S1 (fun p hp => ?_), ?_⟩⟩
  · show (F1 60).toNatClampNeg = _
    rw [e60]
    exact nI_inc hn
  · exact CB.stp (fun _ _ => cEq.rf) (Nat.le_refl _) eg
  · obtain ⟨b1, b2, b3, b4, b5, b6, b7, b8⟩ := h1
    unfold GP
    rw [K.1 44 rfl, K.1 70 rfl, K.1 54 rfl, K.1 43 rfl, K.1 51 rfl]
    exact ⟨inc60 hn e60, b2, b3, b4, b5, b6, b7, b8⟩
  · rw [eg]
    exact (g3s_c p (by have := (h7.2.2.1 p hp).2; omega)).2.1
  · refine h8.seq (M7.kx K rfl) (fun hS0 hS h47 => ?_)
    have hX := XS.kx (L := L) K rfl
    have h47a : F 47 = 0 := (K.1 47 rfl).symm.trans h47
    refine ⟨hS.kx K (M7.kx K rfl) rfl rfl rfl, XL.of hX, fun A d dB dC hB hC hA hl => ?_⟩
    rw [hX]
    exact t F1 G1 e60 eg hn hS0 hS h47a A d dB dC hB hC hA hl
theorem PQ.step {fu : Nat} (h : PQ L F0 G0 j F G s e hs ls LB LC) (w a b : Int32) (s1 : SH) (hl : s.length ≤ 600) (ho : ST L F G → F 47 = 0 → ∀ z, opI (XS L F G) w a b z s s1) : PP (mf_step fu w a b F G) (fun r F1 G1 => r = F 60 ∧ KX [60] [56, 57, 58] F G F1 G1 ∧ sN F1 = sN F + 1 ∧ CB F G G1 ∧ PQ L F0 G0 j F1 G1 s1 e hs ls LB LC) :=
  PQ.stp (hs1 := fun _ _ _ => []) h w a b (fun _ _ e60 eg hn _ hS h47 _ _ _ _ _ _ hA _ => EX.stp (EX.rf hA) hn e60 eg hl (ho hS h47))
theorem PQ.cnd {fu : Nat} (h : PQ L F0 G0 j F G (0 :: s) e hs ls LB LC) (w : Int32) (hl : s.length ≤ 599) (hw : w = 13 ∨ w = 14) : PP (mf_step fu w 0 0 F G) (fun r F1 G1 => r = F 60 ∧ KX [60] [56, 57, 58] F G F1 G1 ∧ sN F1 = sN F + 1 ∧ CB F G G1 ∧ PQ L F0 G0 j F1 G1 s e (fun d dB dC => (sN F, s, d + e) :: hs d dB dC) ls LB LC) :=
  PQ.stp (hs1 := fun d _ _ => [(sN F, s, d + e)]) h w 0 0 (fun _ _ e60 eg hn _ _ _ _ _ _ _ _ _ hA _ => EX.cnd (EX.rf hA) hn e60 eg hl hw _ (Or.inr rfl))
theorem PQ.go {fu : Nat} (h : PQ L F0 G0 j F G s e hs ls LB LC) (hl : s.length ≤ 600) (s1 : SH) (e1 : Nat) (he : e ≤ e1) : PP (mf_step fu 12 0 0 F G) (fun r F1 G1 => r = F 60 ∧ KX [60] [56, 57, 58] F G F1 G1 ∧ sN F1 = sN F + 1 ∧ CB F G G1 ∧ PQ L F0 G0 j F1 G1 s1 e1 (fun d dB dC => (sN F, s, d + e) :: hs d dB dC) ls LB LC) :=
  PQ.stp (hs1 := fun d _ _ => [(sN F, s, d + e)]) h 12 0 0 (fun _ _ e60 eg hn _ _ _ _ d _ _ _ _ hA _ => EX.gos (EX.rf hA) hn e60 eg hl s1 (d + e1) (d + e) (Or.inr rfl) (Or.inl (by omega)))
theorem PQ.ret {fu : Nat} (h : PQ L F0 G0 j F G [0] e hs ls LB LC) (s1 : SH) : PP (mf_step fu 17 0 0 F G) (fun r F1 G1 => r = F 60 ∧ KX [60] [56, 57, 58] F G F1 G1 ∧ sN F1 = sN F + 1 ∧ CB F G G1 ∧ PQ L F0 G0 j F1 G1 s1 e hs ls LB LC) :=
  PQ.stp (hs1 := fun _ _ _ => []) h 17 0 0 (fun _ _ e60 eg hn _ hS _ _ _ _ _ _ _ hA _ => EX.ret (EX.rf hA) hS.m hn e60 eg s1)
theorem PQ.hlt {fu : Nat} (h : PQ L F0 G0 j F G (0 :: s) e hs ls LB LC) (hl : s.length ≤ 599) (s1 : SH) : PP (mf_step fu 20 0 0 F G) (fun r F1 G1 => r = F 60 ∧ KX [60] [56, 57, 58] F G F1 G1 ∧ sN F1 = sN F + 1 ∧ CB F G G1 ∧ PQ L F0 G0 j F1 G1 s1 e hs ls LB LC) :=
  PQ.stp (hs1 := fun _ _ _ => []) h 20 0 0 (fun _ _ e60 eg hn _ hS _ _ _ _ _ _ _ hA _ => EX.hlt (EX.rf hA) hS.m hn e60 eg hl s1)
theorem PQ.turn {fu : Nat} (h : PQ L F0 G0 j F G s e hs ls LB LC) (hl : s.length ≤ 600) (e1 : Nat) (he : e ≤ e1) : PP (mf_step fu 15 0 0 F G) (fun r F1 G1 => r = F 60 ∧ KX [60] [56, 57, 58] F G F1 G1 ∧ sN F1 = sN F + 1 ∧ CB F G G1 ∧ PQ L F0 G0 j F1 G1 s e1 hs ls LB LC) :=
  PQ.stp (hs1 := fun _ _ _ => []) h 15 0 0 (fun _ _ e60 eg hn _ hS _ _ d _ _ _ _ hA _ => EX.turn (EX.rf hA) hS.m hn e60 eg hl (d + e1) (by omega))
/-- a step that goes back -/
theorem PQ.back {fu : Nat} (h : PQ L F0 G0 j F G s e hs ls LB LC) (w a b : Int32) (t : ∀ (F1 : PF) (G1 : PG), F1 60 = F 60 + 1 → G1 = g3s G (sN F) w a b → vp_in (F 60) 9000 → ST L F G → ∀ (A : AN) (d dB dC : Nat), A (sN F0) = ([], d, false) → EY (XS L F G) F0 G0 A F G s (d + e) (hs d dB dC) (ls d) → EY (XS L F G) F0 G0 A F1 G1 s1 (d + e1) (hs d dB dC) (ls d)) : PP (mf_step fu w a b F G) (fun r F1 G1 => r = F 60 ∧ KX [60] [56, 57, 58] F G F1 G1 ∧ sN F1 = sN F + 1 ∧ CB F G G1 ∧ PQ L F0 G0 j F1 G1 s1 e1 hs ls LB LC) := by
  refine PP.mono (mq_step w a b F G) ?_
  rintro r F1 G1 ⟨K, rfl, e60, eg, hn⟩
  obtain ⟨h1, h2, h3, h4, h5, h6, h7, h8⟩ := h
  have S1 : sN F ≤ sN F1 := S_st (Nat.le_refl _) hn e60
  refine ⟨rfl, K, ?_, CB.stp (fun _ _ => cEq.rf) (Nat.le_refl _) eg, ⟨?_, S_st h2 hn e60, CB.stp h3 h2 eg, M7.tr h4 (M7.kx K rfl), by rw [K.1 43 rfl]; exact h5, (K.1 51 rfl).trans h6, CK.lo h7 (K.1 63 rfl) (K.1 64 rfl) S1 (fun p hp => ?_), ?_⟩⟩
  · show (F1 60).toNatClampNeg = _
    rw [e60]
    exact nI_inc hn
  · obtain ⟨b1, b2, b3, b4, b5, b6, b7, b8⟩ := h1
    unfold GP
    rw [K.1 44 rfl, K.1 70 rfl, K.1 54 rfl, K.1 43 rfl, K.1 51 rfl]
    exact ⟨inc60 hn e60, b2, b3, b4, b5, b6, b7, b8⟩
  · rw [eg]
    exact (g3s_c p (by have := (h7.2.2.1 p hp).2; omega)).2.1
  · intro hS h47
    have hX := XS.kx (L := L) K rfl
    obtain ⟨S2, X2, E⟩ := h8 hS ((K.1 47 rfl).symm.trans h47)
    refine ⟨S2.kx K (M7.kx K rfl) rfl rfl rfl, X2.tr (XL.of hX), fun A d dB dC hB hC hA => ?_⟩
    rw [hX]
    exact t F1 G1 e60 eg hn S2 A d dB dC hA (E A d dB dC hB hC hA)
theorem PQ.goL {fu : Nat} (h : PQ L F0 G0 j F G s e hs ls LB LC) (v : Int32) {q eq : Nat} (hl : ∀ d, (q, s, d + eq) ∈ ls d) (hv : 0 ≤ v.toInt) (hq : v.toInt.toNat = q) (he : eq < e) (hlen : s.length ≤ 600) (s1 : SH) (e1 : Nat) : PP (mf_step fu 12 v 0 F G) (fun r F1 G1 => r = F 60 ∧ KX [60] [56, 57, 58] F G F1 G1 ∧ sN F1 = sN F + 1 ∧ CB F G G1 ∧ PQ L F0 G0 j F1 G1 s1 e1 hs ls LB LC) :=
  PQ.back h 12 v 0 (fun _ _ e60 eg hn hS A d _ _ hA E => EY.goL E (hl d) hv hq (by omega) hS.m hn e60 eg hlen s1 (d + e1) (by rw [hA]; show d ≤ _; omega))
theorem PQ.ifL {fu : Nat} (h : PQ L F0 G0 j F G (0 :: s) e hs ls LB LC) (v : Int32) {q eq : Nat} (hl : ∀ d, (q, s, d + eq) ∈ ls d) (hv : 0 ≤ v.toInt) (hq : v.toInt.toNat = q) (he : eq < e) (hlen : s.length ≤ 599) (e1 : Nat) (he1 : e1 ≤ e) : PP (mf_step fu 14 v 0 F G) (fun r F1 G1 => r = F 60 ∧ KX [60] [56, 57, 58] F G F1 G1 ∧ sN F1 = sN F + 1 ∧ CB F G G1 ∧ PQ L F0 G0 j F1 G1 s e1 hs ls LB LC) :=
  PQ.back h 14 v 0 (fun _ _ e60 eg hn hS A d _ _ hA E => EY.ifL E (hl d) hv hq (by omega) hS.m (Or.inr rfl) hn e60 eg hlen (d + e1) (by omega) (by rw [hA]; show d ≤ _; omega))
theorem PQ.lab (h : PQ L F0 G0 j F G s e hs ls LB LC) : PQ L F0 G0 j F G s e hs (fun d => (sN F, s, d + e) :: ls d) LB LC :=
  ⟨h.1, h.2.1, h.2.2.1, h.2.2.2.1, h.2.2.2.2.1, h.2.2.2.2.2.1, h.2.2.2.2.2.2.1, fun hS h47 => ⟨(h.2.2.2.2.2.2.2 hS h47).1, (h.2.2.2.2.2.2.2 hS h47).2.1, fun A d dB dC hB hC hA => EY.lab ((h.2.2.2.2.2.2.2 hS h47).2.2 A d dB dC hB hC hA)⟩⟩
/-- a waiting jump gets its aim: here -/
theorem PQ.patch {p : Nat} {l1 l2 : Nat → Nat → Nat → HLs} (h : PQ L F0 G0 j F G s e hs ls LB LC) (hh : ∀ d dB dC, hs d dB dC = l1 d dB dC ++ (p, s, d + e) :: l2 d dB dC) (hp : sN F0 ≤ p) (hn : p ∉ LB ++ LC) : PQ L F0 G0 j F (gup G 57 p (F 60)) s e (fun d dB dC => l1 d dB dC ++ l2 d dB dC) ls LB LC := by
  obtain ⟨h1, h2, h3, h4, h5, h6, h7, h8⟩ := h
  refine ⟨h1, h2, CB.g57 h3 hp, h4, h5, h6, CK.lo h7 rfl rfl (Nat.le_refl _) (fun q hq => gup_x (fun z => hn (by rw [← z]; exact hq))), fun hS h47 => ?_⟩
  obtain ⟨S2, X2, E⟩ := h8 hS h47
  have K : KX [] [57] F G F (gup G 57 p (F 60)) := KX.g rfl KX.rf
  have hX := XS.kx (L := L) K rfl
  refine ⟨S2.kx K M7.rf rfl rfl rfl, X2.tr (XL.of hX), fun A d dB dC hB hC hA => ?_⟩
  rw [hX]
  have E1 := E A d dB dC hB hC hA
  rw [hh] at E1
  exact EY.patch E1 h1.1
/-- holes in another order -/
theorem PQ.pm (h : PQ L F0 G0 j F G s e hs ls LB LC) (p : ∀ d dB dC, List.Perm (hs1 d dB dC) (hs d dB dC)) : PQ L F0 G0 j F G s e hs1 ls LB LC :=
  ⟨h.1, h.2.1, h.2.2.1, h.2.2.2.1, h.2.2.2.2.1, h.2.2.2.2.2.1, h.2.2.2.2.2.2.1, fun hS h47 => ⟨(h.2.2.2.2.2.2.2 hS h47).1, (h.2.2.2.2.2.2.2 hS h47).2.1, fun A d dB dC hB hC hA => EY.pm ((h.2.2.2.2.2.2.2 hS h47).2.2 A d dB dC hB hC hA) (p d dB dC)⟩⟩
theorem PQ.nol (h : PQ L F0 G0 j F G s e hs ls LB LC) : PQ L F0 G0 j F G s e hs (fun _ => []) LB LC :=
  ⟨h.1, h.2.1, h.2.2.1, h.2.2.2.1, h.2.2.2.2.1, h.2.2.2.2.2.1, h.2.2.2.2.2.2.1, fun hS h47 => ⟨(h.2.2.2.2.2.2.2 hS h47).1, (h.2.2.2.2.2.2.2 hS h47).2.1, fun A d dB dC hB hC hA => EX.ey (EY.ex ((h.2.2.2.2.2.2.2 hS h47).2.2 A d dB dC hB hC hA))⟩⟩
/-- nothing is typed behind a fault that was found -/
theorem PQ.dead (h : PQ L F0 G0 j F G s e hs ls LB LC) (hd : ¬ F0 46 = 0 → ¬ F 47 = 0) (s1 : SH) (e1 : Nat) (hs1 : Nat → Nat → Nat → HLs) (ls1 : Nat → HLs) : PQ L F0 G0 j F G s1 e1 hs1 ls1 LB LC :=
  ⟨h.1, h.2.1, h.2.2.1, h.2.2.2.1, h.2.2.2.2.1, h.2.2.2.2.2.1, h.2.2.2.2.2.2.1, fun hS h47 => absurd h47 (hd hS.n0)⟩
end PQS
/-- behind a statement -/
def SQ (L : List Nat) (F : PF) (G : PG) (r : Int32) (F1 : PF) (G1 : PG) : Prop := GS F G r F1 G1 ∧ ∃ LB LC, CK F F1 G1 LB LC ∧ (r = 1 → TY L F G F1 G1 [] 0 (fun _ dB dC => lpH [] dB LB ++ lpH [] dC LC) (fun _ => []))
/-- behind the body of a loop -/
def BQ (L : List Nat) (x : Int32) (F : PF) (G : PG) (r : Int32) (F1 : PF) (G1 : PG) : Prop := GS F G r F1 G1 ∧ F1 63 = F 63 ∧ F1 64 = F 64 ∧ ∃ KB KC, chn (G1 57) KB (F1 65) (-1) ∧ (x = -1 → chn (G1 57) KC (F1 66) (-1)) ∧ (¬ x = -1 → KC = []) ∧ (∀ p ∈ KB ++ KC, sN F ≤ p ∧ p < sN F1) ∧ (KB ++ KC).Nodup ∧ (r = 1 → ST L F G → F1 47 = 0 → ST L F1 G1 ∧ XL (XS L F G) (XS L F1 G1) ∧ ∀ (A : AN) (d d1 dB dC : Nat), d ≤ d1 → dB ≤ d1 → dC ≤ d1 → A (sN F) = ([], d, false) → (¬ x = -1 → 0 ≤ x.toInt ∧ x.toInt.toNat ≤ sN F ∧ A x.toInt.toNat = ([], dC, false) ∧ dC < d1) → EX (XS L F1 G1) F G A F1 G1 [] d1 (lpH [] dB KB ++ lpH [] dC KC))
def mGI (L : List Nat) (rc : RC) : Prop := ∀ (i : Nat) (x y : Int32) (F : PF) (G : PG), GP F → (i = 1 → (F 51).toInt < (F 43).toInt) → PP (rc i x y F G) (fun r F1 G1 => if i = 1 then BQ L x F G r F1 G1 else SQ L F G r F1 G1)
/-- as SQ, but for what the readers and the frames say -/
def GS0 (F : PF) (G : PG) (r : Int32) (F1 : PF) (G1 : PG) : Prop := (r = 0 ∨ r = 1) ∧ 0 ≤ (F1 60).toInt ∧ sN F ≤ sN F1 ∧ CB F G G1 ∧ (r = 1 → F1 70 = F 70 ∧ F1 51 = F 51 ∧ F1 54 = F 54)
def SQ0 (L : List Nat) (F : PF) (G : PG) (r : Int32) (F1 : PF) (G1 : PG) : Prop := GS0 F G r F1 G1 ∧ ∃ LB LC, CK F F1 G1 LB LC ∧ (r = 1 → TY L F G F1 G1 [] 0 (fun _ dB dC => lpH [] dB LB ++ lpH [] dC LC) (fun _ => []))
theorem GS0.gs {x : OR} {F F1 : PF} {G G1 : PG} {r : Int32} (h : GS0 F G r F1 G1) (hR : ROK x F r F1) (hN : M7 F F1) : GS F G r F1 G1 := by
  obtain ⟨h1, h2, h3, h4, h5⟩ := h
  refine ⟨h1, h2, h3, h4, hN, fun q => ?_, fun q => ?_⟩
  · rcases hR with ⟨q1, -⟩ | ⟨-, q1, -⟩
    · rw [q] at q1
      exact absurd q1 (by decide)
    · exact q1
  · rcases hR with ⟨-, q1, q2, -⟩ | ⟨q1, -, -⟩
    · exact ⟨q1, q2, h5 q⟩
    · rw [q] at q1
      exact absurd q1 (by decide)
section PQF
variable {L : List Nat} {F0 F F1 : PF} {G0 G G1 : PG} {j : Int} {s : SH} {e : Nat} {hs : Nat → Nat → Nat → HLs} {ls : Nat → HLs} {LB LC : List Nat}
/-- a good end -/
theorem PQ.good (h : PQ L F0 G0 j F G [] 0 hs ls LB LC) (hg : GP F0) (p : ∀ d dB dC, List.Perm (lpH [] dB LB ++ lpH [] dC LC) (hs d dB dC)) : SQ0 L F0 G0 1 F G := by
  have hq := (h.pm p).nol
  obtain ⟨h1, h2, h3, h4, h5, h6, h7, h8⟩ := hq
  refine ⟨⟨Or.inr rfl, h1.1, h2, h3, fun _ => ⟨h1.2.2.1.trans hg.2.2.1.symm, h6, h1.2.2.2.1.trans hg.2.2.2.1.symm⟩⟩, LB, LC, h7, fun _ => h8⟩
/-- a bad end -/
theorem PQ.bad {a b : List Nat} (h : PQ L F0 G0 j F G s e hs ls LB LC) (K : KX a b F G F1 G1) (e60 : a.contains 60 = false) (e63 : a.contains 63 = false) (e64 : a.contains 64 = false) (q4 : b.contains 56 = false) (q5 : b.contains 57 = false) (q6 : b.contains 58 = false) (q7 : b.contains 59 = false) : SQ0 L F0 G0 0 F1 G1 := by
  obtain ⟨h1, h2, h3, h4, h5, h6, h7, h8⟩ := h
  refine ⟨⟨Or.inl rfl, by rw [K.1 60 e60]; exact h1.1, S_eq h2 (K.1 60 e60), CB.kx h3 K q4 q5 q6 q7, fun q => absurd q (by decide)⟩, LB, LC, CK.lo h7 (K.1 63 e63) (K.1 64 e64) (Nat.le_of_eq ?_) (fun p _ => by rw [K.2 57 q5]), fun q => absurd q (by decide)⟩
  show (F 60).toNatClampNeg = (F1 60).toNatClampNeg
  rw [K.1 60 e60]
theorem PQ.flt (h : PQ L F0 G0 j F G s e hs ls LB LC) (hf : FLT F F1 G G1) : SQ0 L F0 G0 0 F1 G1 := by
  obtain ⟨-, rfl, K⟩ := hf
  exact h.bad K rfl rfl rfl rfl rfl rfl rfl
/-- an expression within: how it ends -/
theorem PQ.exB {r : Int32} {a b : List Nat} (h : PQ L F0 G0 j F G s e hs ls LB LC) (K : KX a b F G F1 G1) (e63 : a.contains 63 = false) (e64 : a.contains 64 = false) (q : GS F G r F1 G1) : SQ0 L F0 G0 0 F1 G1 := by
  obtain ⟨h1, h2, h3, h4, h5, h6, h7, h8⟩ := h
  obtain ⟨q1, q2, q3, q4, q5, q6, q7⟩ := q
  exact ⟨⟨Or.inl rfl, q2, Nat.le_trans h2 q3, CB.tr h3 h2 q4, fun z => absurd z (by decide)⟩, LB, LC, CK.lo h7 (K.1 63 e63) (K.1 64 e64) q3 (fun p hp => (q4 p (h7.2.2.1 p hp).2).2.1), fun z => absurd z (by decide)⟩
theorem PQ.ex {s1 : SH} {a b : List Nat} (h : PQ L F0 G0 j F G s e hs ls LB LC) (K : KX a b F G F1 G1) (e63 : a.contains 63 = false) (e64 : a.contains 64 = false) (q : GS F G 1 F1 G1) (t : ST L F G → F1 47 = 0 → ST L F1 G1 ∧ XS L F1 G1 = XS L F G ∧ ∀ (A : AN) (d : Nat), A (sN F) = (s, d, false) → EX (XS L F G) F G A F1 G1 s1 d []) : PQ L F0 G0 j F1 G1 s1 e hs ls LB LC := by
  obtain ⟨h1, h2, h3, h4, h5, h6, h7, h8⟩ := h
  have g1 := h1.gs q
  obtain ⟨q1, q2, q3, q4, q5, q6, q7⟩ := q
  obtain ⟨q8, q9, q10, q11, q12⟩ := q7 rfl
  refine ⟨g1, Nat.le_trans h2 q3, CB.tr h3 h2 q4, M7.tr h4 q5, by rw [q9]; exact h5, q11.trans h6, CK.lo h7 (K.1 63 e63) (K.1 64 e64) q3 (fun p hp => (q4 p (h7.2.2.1 p hp).2).2.1), ?_⟩
  refine TY.seq (hs1 := fun _ _ _ => []) h8 q5 (fun _ hS h47 => ?_)
  obtain ⟨t1, t2, t3⟩ := t hS h47
  refine ⟨t1, XL.of t2, fun A d dB dC _ _ hA _ => ?_⟩
  rw [t2]
  exact t3 A (d + e) hA
/-- a statement within -/
theorem PQ.sub {LB1 LC1 : List Nat} (h : PQ L F0 G0 j F G [] e hs ls LB LC) (q : GS F G 1 F1 G1) (c : CK F F1 G1 LB1 LC1) (t : TY L F G F1 G1 [] 0 (fun _ dB dC => lpH [] dB LB1 ++ lpH [] dC LC1) (fun _ => [])) : PQ L F0 G0 j F1 G1 [] e (fun d dB dC => (lpH [] dB LB1 ++ lpH [] dC LC1) ++ hs d dB dC) ls (LB1 ++ LB) (LC1 ++ LC) := by
  obtain ⟨h1, h2, h3, h4, h5, h6, h7, h8⟩ := h
  have g1 := h1.gs q
  obtain ⟨q1, q2, q3, q4, q5, q6, q7⟩ := q
  obtain ⟨q8, q9, q10, q11, q12⟩ := q7 rfl
  refine ⟨g1, Nat.le_trans h2 q3, CB.tr h3 h2 q4, M7.tr h4 q5, by rw [q9]; exact h5, q11.trans h6, CK.tr h7 c q4 h2 q3 h6, ?_⟩
  refine TY.seq (hs1 := fun _ dB dC => lpH [] dB LB1 ++ lpH [] dC LC1) h8 q5 (fun _ hS h47 => ?_)
  obtain ⟨t1, t2, t3⟩ := t hS h47
  exact ⟨t1, t2, fun A d dB dC hB hC hA _ => EY.ex (t3 A (d + e) dB dC (by omega) (by omega) hA)⟩
theorem PQ.subB {r : Int32} {LB1 LC1 : List Nat} (h : PQ L F0 G0 j F G s e hs ls LB LC) (q : GS F G r F1 G1) (c : CK F F1 G1 LB1 LC1) : SQ0 L F0 G0 0 F1 G1 := by
  obtain ⟨h1, h2, h3, h4, h5, h6, h7, h8⟩ := h
  obtain ⟨q1, q2, q3, q4, q5, q6, q7⟩ := q
  exact ⟨⟨Or.inl rfl, q2, Nat.le_trans h2 q3, CB.tr h3 h2 q4, fun z => absurd z (by decide)⟩, LB1 ++ LB, LC1 ++ LC, CK.tr h7 c q4 h2 q3 h6, fun z => absurd z (by decide)⟩
end PQF
