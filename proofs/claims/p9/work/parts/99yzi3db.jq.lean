theorem kS_bin : ∀ v : Nat, v < 45 → 2 ≤ (lvS (nI v)).toInt → 45 ≤ (kS v).toInt ∧ (kS v).toInt ≤ 61 := by decide +kernel
theorem an_1 (a : Nat) : nI a &&& 1 = nI (a % 2) := by
  have e : (BitVec.ofNat 32 a) &&& 1#32 = BitVec.ofNat 32 (a % 2) := by
    refine BitVec.eq_of_toNat_eq ?_
    rw [BitVec.toNat_and, BitVec.toNat_ofNat, BitVec.toNat_ofNat, BitVec.toNat_ofNat]
    have := Nat.and_two_pow_sub_one_eq_mod (a % 2 ^ 32) 1
    show a % 2 ^ 32 &&& 1 = a % 2 % 2 ^ 32
    rw [show (1 : Nat) = 2 ^ 1 - 1 from rfl, this]
    omega
  exact Int32.toBitVec.inj e
theorem sr_1 {a : Nat} (h : a < 2147483648) : nI a >>> ((1 : Int32) &&& 31) = nI (a / 2) := by
  refine i_eq2 ?_
  rw [i_shr 1 (by decide), nI_toInt h, nI_toInt (by omega)]
  show (a : Int) / 2 = ((a / 2 : Nat) : Int)
  omega
/-- a step of both went well, or stopped at a wrong index -/
def jO1 (S : JST) (gl : JLY) (F1 : PF) (G1 : PG) (F2 : PF) (G2 : PG) (F3 : PF) (G3 : PG) (r : Int32) (F4 : PF) (G4 : PG) : Prop := (r = 1 ∧ jRg S gl F3 G3 F4 G4 ∧ KX [56, 57, 300] [54, 55] F1 G1 F3 G3 ∧ KX [72, 76] [71, 90] F2 G2 F4 G4) ∨ (r = 0 ∧ ∃ pl : Int32, jCx pl F1 G1 F3 G3 ∧ jMx pl F2 G2 F4 G4)
/-- what stays all the while: the code, and what both know of functions -/
def jSt0 (WB B : Nat) (Gc Gm : PG) (F1 : PF) (G1 : PG) (G2 : PG) : Prop := (G1 5 = Gc 5 ∧ (F1 6).toInt = WB ∧ WB ≤ 8400 ∧ B ≤ 8000) ∧ G2 56 = Gm 56 ∧ G2 57 = Gm 57 ∧ G2 58 = Gm 58 ∧ G2 59 = Gm 59
section JQB
variable {fu : Nat} {gl : JLY} {K : Nat → List Nat} {nf B WB : Nat} {Gc Gm : PG} {H : JHP} {F1 F2 F3 F4 : PF} {G1 G2 G3 G4 : PG} {n g a b : Nat} {mu : Nat → Nat} {A : JAN} {le : JLY} {cb wb t k : Nat} {s s0 s1 : SH} {l : JLY}
/-- what is known at a step -/
theorem jRc.tl (R : jRc (jSS gl K nf B WB Gc Gm) gl H F1 G1 F2 G2 n g a b mu A le cb wb t k s l) : (g < nf ∧ jFw gl K g B WB Gc Gm a b mu A le) ∧ jTl (false, gl, le, K) Gm Gc mu A b k l ∧ (A b).1 = [8] ∧ A k = (s, some l) ∧ mu (k + 1) ≤ WB ∧ k < B := by
  obtain ⟨-, ⟨r2, f⟩, -, ⟨r5, r6, r7, -⟩, -⟩ := R
  have f0 := f
  obtain ⟨⟨-, -, f1⟩, ⟨-, f2, f3⟩, ⟨-, f4⟩, -, -, f5⟩ := f
  have m := f3 (k + 1) b (by omega) (by omega) (Nat.le_refl _)
  refine ⟨⟨r2, f0⟩, ?_, f4, r7, by omega, by omega⟩
  rcases f5 k r5 r6 with z | ⟨ll, z1, z2⟩
  · rw [r7] at z
    cases z
  · rw [r7] at z1
    rw [Option.some.inj z1]
    exact z2
theorem jRc.mp (R : jRc (jSS gl K nf B WB Gc Gm) gl H F1 G1 F2 G2 n g a b mu A le cb wb t k s l) (Z : jSt0 WB B Gc Gm F1 G1 G2) : jMp k (t + s.length) F2 := by
  have q := R.tl.2.2.2.2.2
  have b8 := Z.1.2.2.2
  obtain ⟨-, -, -, -, -, -, -, ⟨r16, -⟩, ⟨r18, -⟩, -, -, -, -, -, r25, -⟩ := R
  exact ⟨r16, r18, by omega, r25⟩
theorem jRc.cp {w : Nat} (R : jRc (jSS gl K nf B WB Gc Gm) gl H F1 G1 F2 G2 n g a b mu A le cb wb t k s l) (hx : jXn F1) (Z : jSt0 WB B Gc Gm F1 G1 G2) (hw : mu k + w ≤ mu (k + 1)) : jCp (mu k) (t + s.length) w F1 := by
  have q := R.tl.2.2.2.2.1
  obtain ⟨⟨-, z1, z2, -⟩, -⟩ := Z
  obtain ⟨-, -, -, -, -, -, -, ⟨-, r17⟩, ⟨-, r19⟩, -, -, -, -, -, r25, -⟩ := R
  exact ⟨r17, r19, hx, by omega, by omega, r25⟩
/-- both have the same at a word, at an element, in a pair -/
theorem jHp.i0 {ce wd : Nat → Int32} {N j c w : Nat} (h : jHp H N ce wd) (hj : j ≤ N) (q : H j c w (0, 1)) : ce c = wd w := (h.2 j c w (0, 1) hj q).2.1 rfl
theorem jHp.rf {ce wd : Nat → Int32} {N j c w κ : Nat} (hκ : κ = 1 ∨ κ = 2) (h : jHp H N ce wd) (hj : j ≤ N) (q : H j c w (κ + 2, 0)) : jRf H j κ (ce c) (ce (c + 1)) (wd w) (wd (w + 1)) := by
  have := (h.2 j c w (κ + 2, 0) hj q).2.2.2.2
  rcases hκ with e | e <;> subst e
  · exact this.1 rfl
  · exact this.2.1 rfl
theorem jHp.el {ce wd : Nat → Int32} {N j c w κ M i : Nat} (hκ : κ = 1 ∨ κ = 2) (h : jHp H N ce wd) (hj : j ≤ N) (q : H j c w (κ, M)) (hi : i < M) : ce (c + i) = if κ = 1 then wd (w + i) else jBy (wd (w + i / 4)) (i % 4) := by
  have := (h.2 j c w (κ, M) hj q).2.2
  rcases hκ with e | e <;> subst e
  · rw [if_pos rfl]; exact this.1 rfl i hi
  · rw [if_neg (by decide)]; exact this.2.1 rfl i hi
/-- a thing of the frame, of all -/
theorem jRc.ow {p o : Nat} {x : Nat × Nat} (R : jRc (jSS gl K nf B WB Gc Gm) gl H F1 G1 F2 G2 n g a b mu A le cb wb t k s l) (hx : x.1 ≤ 4) (h : jAt l p o x) : H (n + 1) (cb + p) (wb + 4 + o) x ∧ cb + p + joC x ≤ 16000 ∧ wb + 4 + o + joW x ≤ 4000 := by
  have q := R.2.2.2.2.1.1 p o x hx h
  have b1 := R.bd.1
  have b2 := R.2.2.2.2.1.bd q
  have b3 := R.2.2.2.2.2.2.2.2.2.2.2.2.2.1
  exact ⟨q, by omega, by omega⟩
theorem jRc.gw {p o : Nat} {x : Nat × Nat} (R : jRc (jSS gl K nf B WB Gc Gm) gl H F1 G1 F2 G2 n g a b mu A le cb wb t k s l) (hx : x.1 ≤ 4) (h : jAt gl p o x) : H 0 p o x ∧ p + joC x ≤ 16000 ∧ o + joW x ≤ 2000 := by
  have q := (R.2.2.2.2.2.2.2.2.2.2.2.1 p o x).mpr ⟨hx, h⟩
  have b1 := R.bd.1
  have b3 := R.2.2.2.2.2.2.2.2.2.2.2.2.1
  have := h.le
  exact ⟨q, by omega, by omega⟩
theorem jRc.any {i c w : Nat} {x : Nat × Nat} (R : jRc (jSS gl K nf B WB Gc Gm) gl H F1 G1 F2 G2 n g a b mu A le cb wb t k s l) (hi : i ≤ n + 1) (q : H i c w x) : c + joC x ≤ 16000 ∧ w + joW x ≤ 4000 := by
  have b1 := R.bd
  have b2 := b1.2 i c w x hi q
  have b3 := R.2.2.2.2.2.2.2.2.2.2.2.2.2.1
  omega
/-- steps that constants have -/
theorem jq_a {w a1 b1 e1 : Int32} {c : Nat → Int32} {n1 : Nat} (R : jRc (jSS gl K nf B WB Gc Gm) gl H F1 G1 F2 G2 n g a b mu A le cb wb t k s l) (hx : jXn F1) (Z : jSt0 WB B Gc Gm F1 G1 G2) (h4 : t + s.length < 399000) (ec : c = fun j => Gc 5 (mu k + j)) (ew : w = Gm 56 k) (ea : a1 = Gm 57 k) (O : (w = 0 ∧ n1 = 2 ∧ c 0 = 66 ∧ c 1 = a1 ∧ s1 = 0 :: s) ∨ (w = 10 ∧ n1 = 1 ∧ (∃ v : Nat, jBin v ∧ a1 = nI v ∧ c 0 = kS v) ∧ ∃ s0, s = 0 :: 0 :: s0 ∧ s1 = 0 :: s0) ∨ (w = 11 ∧ n1 = 1 ∧ ((a1 = 39 ∧ c 0 = 64) ∨ (a1 = 43 ∧ c 0 = 62) ∨ (a1 = 44 ∧ c 0 = 63)) ∧ ∃ s0, s = 0 :: s0 ∧ s1 = 0 :: s0) ∨ (w = 23 ∧ n1 = 1 ∧ c 0 = 65 ∧ ∃ s0, s = 0 :: s0 ∧ s1 = 0 :: s0)) (an : jAn A (k + 1) s1 l) (em : mu (k + 1) = mu k + n1) : JP (cf_X6_step fu F1 G1) (mf_works fu F2 G2) (fun _ F3 G3 r F4 G4 => jO1 (jSS gl K nf B WB Gc Gm) gl F1 G1 F2 G2 F3 G3 r F4 G4) := by
  have Q := R.tl
  have M := R.mp Z
  have C := R.cp (w := n1) hx Z (by omega)
  have h8 := Q.2.2.1
  have hk : a ≤ k + 1 ∧ k + 1 ≤ b := ⟨by have := R.2.2.2.1.1; omega, R.2.2.2.1.2.1⟩
  have n6 := R.2.2.2.1.2.2.2
  have v := R.2.2.2.2.2.2.2.2.2.1
  obtain ⟨⟨z5, -, -, -⟩, z56, z57, -, -⟩ := Z
  have c5 : ∀ j, G1 5 (mu k + j) = c j := fun j => by rw [z5, ec]
  have e56 : G2 56 k = w := by rw [z56, ew]
  have e57 : G2 57 k = a1 := by rw [z57, ea]
  rcases O with ⟨o1, rfl, o3, o4, rfl⟩ | ⟨o1, rfl, ⟨vv, o3, o4, o5⟩, s0, rfl, rfl⟩ | ⟨o1, rfl, o3, s0, rfl, rfl⟩ | ⟨o1, rfl, o3, s0, rfl, rfl⟩
  · refine JP.pp (cq_push C ((c5 0).trans o3)) (mq_nu M (e56.trans o1)) ?_
    rintro _ F3 G3 r F4 G4 cc ⟨rr, mm⟩
    rw [← em] at cc
    exact .inl ⟨rr, jRc.p1 (κ := 0) R cc mm rfl n6 v (by omega) (fun _ => by rw [e57, c5 1, o4]) (fun z => absurd z (by decide)) (fun z => absurd z (by decide)) h8 an hk h4, cc.1, mm.1⟩
  · have k45 := kS_bin vv o3.1 o3.2
    have y2 : 2 ≤ t + (0 :: 0 :: s0 : SH).length := by show 2 ≤ t + (s0.length + 1 + 1); omega
    refine JP.pp (cq_jo C y2 ((c5 0).trans o5) (by omega) (by omega)) (mq_bi M (e56.trans o1)) ?_
    rintro _ F3 G3 r F4 G4 ⟨r1, Fx, ev, cc⟩ ⟨rr, mm⟩
    obtain ⟨r2, Fy, ev2, mm⟩ := mm y2
    rw [← em] at cc
    obtain ⟨v1, v2, v3, -⟩ := v
    obtain ⟨v4, v5, v6, -⟩ := v2
    have a1e : G2 71 (t + (0 :: 0 :: s0 : SH).length - 1) = G1 55 (t + (0 :: 0 :: s0 : SH).length - 1) := v3 rfl
    have a2e : G2 71 (t + (0 :: 0 :: s0 : SH).length - 2) = G1 55 (t + (0 :: 0 :: s0 : SH).length - 2) := v6 rfl
    rw [e57, o4, a1e, a2e] at ev2
    have eq := (jk_do (fu := fu) _ _ o3 _ _ _ _ _ _ ev ev2).1
    exact .inl ⟨rr, jRc.p1 (κ := 0) (s0 := s0) R cc mm (by show s0.length + 1 + 1 = s0.length + 2; omega) n6.tl.tl v5 (by omega) (fun _ => eq.symm) (fun z => absurd z (by decide)) (fun z => absurd z (by decide)) h8 an hk h4, cc.1, mm.1⟩
  · have y1 : 1 ≤ t + (0 :: s0 : SH).length := by show 1 ≤ t + (s0.length + 1); omega
    have cr : 62 ≤ (c 0).toInt ∧ (c 0).toInt ≤ 65 := by rcases o3 with ⟨-, z⟩ | ⟨-, z⟩ | ⟨-, z⟩ <;> rw [z] <;> decide
    refine JP.pp (cq_ch C y1 (c5 0) cr.1 cr.2) (mq_al M (e56.trans o1)) ?_
    rintro _ F3 G3 r F4 G4 ⟨r1, Fx, ev, cc⟩ ⟨rr, mm⟩
    obtain ⟨r2, Fy, ev2, mm⟩ := mm y1
    rw [← em] at cc
    obtain ⟨v1, v2, v3, -⟩ := v
    have a1e : G2 71 (t + (0 :: s0 : SH).length - 1) = G1 55 (t + (0 :: s0 : SH).length - 1) := v3 rfl
    rw [e57, a1e] at ev2
    have eq := (jk_alone (fu := fu) _ o3 _ _ _ _ _ _ ev ev2).1
    exact .inl ⟨rr, jRc.p1 (κ := 0) (s0 := s0) R cc mm rfl n6.tl v2 (by omega) (fun _ => eq.symm) (fun z => absurd z (by decide)) (fun z => absurd z (by decide)) h8 an hk h4, cc.1, mm.1⟩
  · have y1 : 1 ≤ t + (0 :: s0 : SH).length := by show 1 ≤ t + (s0.length + 1); omega
    refine JP.pp (cq_ch C y1 ((c5 0).trans o3) (by decide) (by decide)) (mq_tr M (e56.trans o1)) ?_
    rintro _ F3 G3 r F4 G4 ⟨r1, Fx, ev, cc⟩ ⟨rr, mm⟩
    have mm := mm y1
    rw [← em] at cc
    obtain ⟨v1, v2, v3, -⟩ := v
    have a1e : G2 71 (t + (0 :: s0 : SH).length - 1) = G1 55 (t + (0 :: s0 : SH).length - 1) := v3 rfl
    have eq := (cp_tr65 _ _ _ _ _ _ ev).2.2
    rw [a1e] at mm
    exact .inl ⟨rr, jRc.p1 (κ := 0) (s0 := s0) R cc mm rfl n6.tl v2 (by omega) (fun _ => eq) (fun z => absurd z (by decide)) (fun z => absurd z (by decide)) h8 an hk h4, cc.1, mm.1⟩
end JQB
