def kI (c : Int32) : Nat := ([99, 99, 99, 99, 99, 99, 99, 99, 99, 99, 99, 99, 99, 99, 99, 99, 99, 99, 99, 22, 23, 24, 25, 26, 27, 28, 29, 30, 31, 32, 4, 5, 6, 7, 8, 9, 10, 11, 2, 3, 0, 12, 13, 14, 15, 33, 34, 35, 16, 17, 36, 18, 37, 19, 20, 21, 1, 38, 39, 40, 41, 42, 43, 44] : List Nat).getD c.toNatClampNeg 99
theorem kS_all : ∀ w : Nat, w < 45 → kI (kS w) = w ∧ 19 ≤ (kS w).toInt ∧ (kS w).toInt ≤ 63 := by decide
theorem TK1.sign {ck cv cp mk mv mp : Int32} (t : TK1 ck cv cp mk mv mp) {w : Nat} (hw : w < 45) : ck = kS w ↔ (mk = 4 ∧ mv = nI w) := by
  obtain ⟨a1, a2, a3⟩ := kS_all w hw
  have l1 : (1 : Int32).toInt = 1 := rfl
  have l2 : (2 : Int32).toInt = 2 := rfl
  have l3 : (3 : Int32).toInt = 3 := rfl
  have l4 : (4 : Int32).toInt = 4 := rfl
  constructor
  · intro e
    rcases t.2 with ⟨m, c, -⟩ | ⟨m, v, v0, v1, c⟩ | ⟨m, c, -⟩ | ⟨m, v, v0, v1, c⟩
    · have := congrArg Int32.toInt (c.symm.trans e)
      omega
    · have := congrArg Int32.toInt (c.symm.trans e)
      rw [nI_toInt (by omega)] at this
      omega
    · have := congrArg Int32.toInt (c.symm.trans e)
      omega
    · have vw : v = w := by
        have := congrArg kI (c.symm.trans e)
        rw [(kS_all v v0).1, a1] at this
        exact this
      exact ⟨m, by rw [v1, vw]⟩
  · rintro ⟨e, f⟩
    have e4 := congrArg Int32.toInt e
    rcases t.2 with ⟨m, c, -⟩ | ⟨m, v, v0, v1, c⟩ | ⟨m, c, -⟩ | ⟨m, v, v0, v1, c⟩
    · rw [m] at e4
      omega
    · rw [m] at e4
      omega
    · rw [m] at e4
      omega
    · have vw : v = w := by
        have := congrArg Int32.toInt (v1.symm.trans f)
        rw [nI_toInt (by omega), nI_toInt (by omega)] at this
        omega
      rw [c, vw]
theorem TK1.word {ck cv cp mk mv mp : Int32} (t : TK1 ck cv cp mk mv mp) {w : Nat} (hw : w < 15) : ck = nI (4 + w) ↔ (mk = 2 ∧ mv = nI w) := by
  have l1 : (1 : Int32).toInt = 1 := rfl
  have l2 : (2 : Int32).toInt = 2 := rfl
  have l3 : (3 : Int32).toInt = 3 := rfl
  have l4 : (4 : Int32).toInt = 4 := rfl
  have l5 : (nI (4 + w)).toInt = ((4 + w : Nat) : Int) := nI_toInt (by omega)
  constructor
  · intro e
    rcases t.2 with ⟨m, c, -⟩ | ⟨m, v, v0, v1, c⟩ | ⟨m, c, -⟩ | ⟨m, v, v0, v1, c⟩
    · have := congrArg Int32.toInt (c.symm.trans e)
      omega
    · have := congrArg Int32.toInt (c.symm.trans e)
      rw [nI_toInt (by omega)] at this
      exact ⟨m, by rw [v1, show v = w by omega]⟩
    · have := congrArg Int32.toInt (c.symm.trans e)
      omega
    · have := congrArg Int32.toInt (c.symm.trans e)
      have := (kS_all v v0).2.1
      omega
  · rintro ⟨e, f⟩
    have e4 := congrArg Int32.toInt e
    rcases t.2 with ⟨m, c, -⟩ | ⟨m, v, v0, v1, c⟩ | ⟨m, c, -⟩ | ⟨m, v, v0, v1, c⟩
    · rw [m] at e4
      omega
    · have vw : v = w := by
        have := congrArg Int32.toInt (v1.symm.trans f)
        rw [nI_toInt (by omega), nI_toInt (by omega)] at this
        omega
      rw [c, vw]
    · rw [m] at e4
      omega
    · rw [m] at e4
      omega
theorem TK1.nam {ck cv cp mk mv mp : Int32} (t : TK1 ck cv cp mk mv mp) : ck = 2 ↔ mk = 1 := by
  have l1 : (1 : Int32).toInt = 1 := rfl
  have l2 : (2 : Int32).toInt = 2 := rfl
  have l3 : (3 : Int32).toInt = 3 := rfl
  have l4 : (4 : Int32).toInt = 4 := rfl
  rw [i_eq, i_eq]
  rcases t.2 with ⟨m, c, -⟩ | ⟨m, v, v0, v1, c⟩ | ⟨m, c, -⟩ | ⟨m, v, v0, v1, c⟩
  · rw [m, c]
    omega
  · rw [m, c, nI_toInt (by omega)]
    omega
  · rw [m, c]
    omega
  · have := (kS_all v v0).2.1
    rw [m, c]
    omega
theorem TK1.num {ck cv cp mk mv mp : Int32} (t : TK1 ck cv cp mk mv mp) : ck = 3 ↔ mk = 3 := by
  have l1 : (1 : Int32).toInt = 1 := rfl
  have l2 : (2 : Int32).toInt = 2 := rfl
  have l3 : (3 : Int32).toInt = 3 := rfl
  have l4 : (4 : Int32).toInt = 4 := rfl
  rw [i_eq, i_eq]
  rcases t.2 with ⟨m, c, -⟩ | ⟨m, v, v0, v1, c⟩ | ⟨m, c, -⟩ | ⟨m, v, v0, v1, c⟩
  · rw [m, c]
    omega
  · rw [m, c, nI_toInt (by omega)]
    omega
  · rw [m, c]
    try omega
  · have := (kS_all v v0).2.1
    rw [m, c]
    omega
theorem TK1.pos {ck cv cp mk mv mp : Int32} (t : TK1 ck cv cp mk mv mp) : 2 ≤ ck.toInt ∧ ck.toInt ≤ 63 ∧ 1 ≤ mk.toInt ∧ mk.toInt ≤ 4 := by
  have l1 : (1 : Int32).toInt = 1 := rfl
  have l2 : (2 : Int32).toInt = 2 := rfl
  have l3 : (3 : Int32).toInt = 3 := rfl
  have l4 : (4 : Int32).toInt = 4 := rfl
  rcases t.2 with ⟨m, c, -⟩ | ⟨m, v, v0, v1, c⟩ | ⟨m, c, -⟩ | ⟨m, v, v0, v1, c⟩
  · rw [m, c]
    omega
  · rw [m, c, nI_toInt (by omega)]
    omega
  · rw [m, c]
    omega
  · have := (kS_all v v0).2
    rw [m, c]
    omega
/-- a token that both sides see: one of the text, or its end -/
def TK0 (ck cv cp mk mv mp : Int32) : Prop := TK1 ck cv cp mk mv mp ∨ (ck = 0 ∧ mk = 0 ∧ cp = mp)
theorem TK0.sign {ck cv cp mk mv mp : Int32} (t : TK0 ck cv cp mk mv mp) {w : Nat} (hw : w < 45) : ck = kS w ↔ (mk = 4 ∧ mv = nI w) := by
  rcases t with t | ⟨a, d, -⟩
  · exact t.sign hw
  · have := (kS_all w hw).2.1
    have l0 : (0 : Int32).toInt = 0 := rfl
    refine ⟨fun e => ?_, fun e => ?_⟩
    · have := congrArg Int32.toInt (a.symm.trans e)
      omega
    · exact absurd (d.symm.trans e.1) (by decide)
theorem TK0.word {ck cv cp mk mv mp : Int32} (t : TK0 ck cv cp mk mv mp) {w : Nat} (hw : w < 15) : ck = nI (4 + w) ↔ (mk = 2 ∧ mv = nI w) := by
  rcases t with t | ⟨a, d, -⟩
  · exact t.word hw
  · have l0 : (0 : Int32).toInt = 0 := rfl
    refine ⟨fun e => ?_, fun e => ?_⟩
    · have := congrArg Int32.toInt (a.symm.trans e)
      rw [nI_toInt (by omega)] at this
      omega
    · exact absurd (d.symm.trans e.1) (by decide)
theorem TK0.nam {ck cv cp mk mv mp : Int32} (t : TK0 ck cv cp mk mv mp) : ck = 2 ↔ mk = 1 := by
  rcases t with t | ⟨a, d, -⟩
  · exact t.nam
  · rw [a, d]
    decide
theorem TK0.num {ck cv cp mk mv mp : Int32} (t : TK0 ck cv cp mk mv mp) : ck = 3 ↔ mk = 3 := by
  rcases t with t | ⟨a, d, -⟩
  · exact t.num
  · rw [a, d]
    try decide
theorem TK0.end {ck cv cp mk mv mp : Int32} (t : TK0 ck cv cp mk mv mp) : ck = 0 ↔ mk = 0 := by
  rcases t with t | ⟨a, d, -⟩
  · have := t.pos
    have l0 : (0 : Int32).toInt = 0 := rfl
    rw [i_eq, i_eq]
    omega
  · rw [a, d]
theorem TKE.keep {N K n : Nat} {Fc Fm F1 F2 : PF} {Gc Gm G1 G2 : PG} (h : TKE N K n Fc Gc Fm Gm) (a1 : F1 93 = Fc 93) (a2 : G1 90 = Gc 90) (a3 : G1 91 = Gc 91) (a4 : G1 92 = Gc 92) (b1 : F2 7 = Fm 7) (b2 : F2 8 = Fm 8) (b3 : G2 4 = Gm 4) (b4 : G2 5 = Gm 5) (b5 : G2 6 = Gm 6) : TKE N K n F1 G1 F2 G2 := by
  unfold TKE
  rw [a1, a2, a3, a4, b1, b2, b3, b4, b5]
  exact h
/-- both cursors stand at token i, and nothing has failed -/
def CU (N i : Nat) (Fc : PF) (Gc : PG) (Fm : PF) (Gm : PG) : Prop := i ≤ N ∧ Fc 9 = nI i ∧ Fm 42 = nI i ∧ Fc 10 = Fm 43 ∧ 0 ≤ (Fc 10).toInt ∧ (Fc 10).toInt ≤ 40 ∧ Fc 14 = 0 ∧ Fm 44 = 0 ∧ Fc 11 = Gc 90 i ∧ Fc 12 = Gc 91 i ∧ Fc 13 = Gc 92 i ∧ (i = N → Gc 90 N = 0)
/-- the class has failed; the reference has, or will -/
def DEAD (Fc Fm : PF) : Prop := ¬ Fc 14 = 0 ∧ Fc 11 = -2 ∧ (¬ Fm 44 = 0 ∨ ¬ Fm 8 = -1)
theorem CU.tk {N K n i : Nat} {Fc Fm : PF} {Gc Gm : PG} (T : TKE N K n Fc Gc Fm Gm) (c : CU N i Fc Gc Fm Gm) : TK0 (Fc 11) (Fc 12) (Fc 13) (Gm 4 i) (Gm 5 i) (Gm 6 i) := by
  obtain ⟨c0, c1, c2, c3, c4, c5, c6, c7, c8, c9, c10, c11⟩ := c
  rw [c8, c9, c10]
  rcases Nat.lt_or_ge i N with q | q
  · exact .inl (T.2.2.2.1 i q).1
  · have e : i = N := by omega
    have z := c11 e
    rw [e]
    obtain ⟨-, t1, t2, t3, t4, t5, t6⟩ := T
    rcases t6 with ⟨-, t6, -⟩ | ⟨t6, -⟩
    · exact .inr ⟨z, t4, i_eq.mpr (by omega)⟩
    · rw [z] at t6
      exact absurd t6 (by decide)
theorem CU.ix {N K n i : Nat} {Fc Fm : PF} {Gc Gm : PG} (T : TKE N K n Fc Gc Fm Gm) (c : CU N i Fc Gc Fm Gm) : (Fm 42).toNatClampNeg = i := by
  have h0 := c.1
  have h1 := T.1
  show (Fm 42).toInt.toNat = i
  rw [c.2.2.1, nI_toInt (by omega)]
  omega
