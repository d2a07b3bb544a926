theorem sh_0 (x : Int32) : x <<< ((0 : Int32) &&& 31) = x := by
  have e : x.toBitVec <<< 0 = x.toBitVec := BitVec.shiftLeft_zero x.toBitVec
  exact Int32.toBitVec.inj e
theorem sh_2 (b : Nat) : nI b <<< ((2 : Int32) &&& 31) = nI (4 * b) := by
  have e : (BitVec.ofNat 32 b) <<< 2 = BitVec.ofNat 32 (4 * b) := by
    refine BitVec.eq_of_toNat_eq ?_
    rw [BitVec.toNat_shiftLeft, BitVec.toNat_ofNat, BitVec.toNat_ofNat, Nat.shiftLeft_eq]
    omega
  exact Int32.toBitVec.inj e
theorem an_3 (a : Nat) : nI a &&& 3 = nI (a % 4) := by
  have e : (BitVec.ofNat 32 a) &&& 3#32 = BitVec.ofNat 32 (a % 4) := by
    refine BitVec.eq_of_toNat_eq ?_
    rw [BitVec.toNat_and, BitVec.toNat_ofNat, BitVec.toNat_ofNat, BitVec.toNat_ofNat]
    have := Nat.and_two_pow_sub_one_eq_mod (a % 2 ^ 32) 2
    show a % 2 ^ 32 &&& 3 = a % 4 % 2 ^ 32
    rw [show (3 : Nat) = 2 ^ 2 - 1 from rfl, this]
    omega
  exact Int32.toBitVec.inj e
theorem an_38 (a : Nat) : (nI a &&& 3) * 8 = nI (8 * (a % 4)) := by
  rw [an_3]
  have := Nat.mod_lt a (show 0 < 4 by decide)
  rcases (show a % 4 = 0 ∨ a % 4 = 1 ∨ a % 4 = 2 ∨ a % 4 = 3 by omega) with e | e | e | e <;> rw [e] <;> rfl
theorem sr_2 {a : Nat} (h : a < 2147483648) : nI a >>> ((2 : Int32) &&& 31) = nI (a / 4) := by
  refine i_eq.mpr ?_
  rw [i_shr 2 (by decide), nI_toInt h, nI_toInt (by omega)]
  show (a : Int) / 4 = ((a / 4 : Nat) : Int)
  omega
theorem jBy_z (q : Nat) (h : q < 4) : jBy 0 q = 0 := jBy_0 q h
/-- both have the same first words there -/
def jC0 (wd ce : Nat → Int32) (p o : Nat) (x : Nat × Nat) : Prop := x.1 ≤ 2 ∧ (x.1 = 0 → ce p = wd o) ∧ (x.1 = 1 → ∀ i : Nat, i < x.2 → ce (p + i) = wd (o + i)) ∧ (x.1 = 2 → (∀ i : Nat, i < x.2 → ce (p + i) = jBy (wd (o + i / 4)) (i % 4)) ∧ ∀ i : Nat, x.2 ≤ i → i < 4 * joW x → jBy (wd (o + i / 4)) (i % 4) = 0)
def jF1 (gl : JLY) (wd ce : Nat → Int32) : Prop := ∀ (p o : Nat) (x : Nat × Nat), jAt gl p o x → jC0 wd ce p o x
/-- the first words of what is told between functions -/
def jF0 (gl : JLY) (wd ce : Nat → Int32) : Prop := jF1 gl wd ce ∧ ∀ i : Nat, jsW gl ≤ i → i < 2000 → wd i = 0
section JF0
variable {fu : Nat} {gl : JLY} {wd ce wd1 ce1 : Nat → Int32} {p o k sz kk : Nat} {x : Nat × Nat} {v : Int32} {F : PF} {G : PG}
theorem jC0.cg (h : jC0 wd ce p o x) (hc : ∀ a : Nat, a < p + joC x → ce1 a = ce a) (hw : ∀ a : Nat, a < o + joW x → wd1 a = wd a) : jC0 wd1 ce1 p o x := by
  obtain ⟨h0, h1, h2, h3⟩ := h
  unfold joC at hc
  refine ⟨h0, fun e => ?_, fun e i hi => ?_, fun e => ⟨fun i hi => ?_, fun i hi hj => ?_⟩⟩
  · rw [if_pos e] at hc
    unfold joW at hw
    rw [if_pos e] at hw
    rw [hc p (by omega), hw o (by omega)]
    exact h1 e
  · rw [if_neg (by omega), if_pos e] at hc
    unfold joW at hw
    rw [if_neg (by omega), if_pos e] at hw
    rw [hc _ (by omega), hw _ (by omega)]
    exact h2 e i hi
  · rw [if_neg (by omega), if_neg (by omega), if_pos e] at hc
    unfold joW at hw
    rw [if_neg (by omega), if_neg (by omega), if_pos e] at hw
    rw [hc _ (by omega), hw _ (by omega)]
    exact (h3 e).1 i hi
  · rw [hw _ (by omega)]
    exact (h3 e).2 i hi hj
theorem jAt.sgl {y : Nat × Nat} (h : jAt [x] p o y) : p = 0 ∧ o = 0 ∧ y = x := by
  obtain ⟨l1, l2, e, f, g⟩ := h
  cases l1 with
  | nil =>
    have e := List.cons.inj e
    exact ⟨f, g, e.1.symm⟩
  | cons z l1 =>
    have e := (List.cons.inj e).2
    cases l1 <;> cases e
theorem jF1.add (h : jF1 gl wd ce) (hc : ∀ a : Nat, a < jsC gl → ce1 a = ce a) (hw : ∀ a : Nat, a < jsW gl → wd1 a = wd a) (hx : jC0 wd1 ce1 (jsC gl) (jsW gl) x) : jF1 (gl ++ [x]) wd1 ce1 := by
  intro p o y hy
  rcases hy.spl with z | ⟨p1, o1, z, e1, e2⟩
  · have := z.le
    exact (h p o y z).cg (fun a ha => hc a (by omega)) (fun a ha => hw a (by omega))
  · obtain ⟨z1, z2, z3⟩ := z.sgl
    rw [e1, e2, z1, z2, z3]
    exact hx
theorem jF1.up (h : jF1 (gl ++ [x]) wd ce) : jF1 gl wd ce := fun p o y hy => h p o y (hy.up [x])
theorem jF0.nil (h : ∀ i : Nat, i < 2000 → wd i = 0) : jF0 [] wd ce := by
  refine ⟨fun p o x hx => ?_, fun i _ hi => h i hi⟩
  obtain ⟨l1, l2, e, -⟩ := hx
  cases l1 <;> cases e
theorem jsW_1 (gl : JLY) (x : Nat × Nat) : jsW (gl ++ [x]) = jsW gl + joW x := by
  rw [jsW_app]
  show jsW gl + (joW x + 0) = _
  rw [Nat.add_zero]
/-- an int comes -/
theorem jF0.int (h : jF0 gl wd ce) (hc : ∀ a : Nat, a < jsC gl → ce1 a = ce a) (hv : ce1 (jsC gl) = v) (hw : wd1 = upd wd (jsW gl) v) : jF0 (gl ++ [(0, 1)]) wd1 ce1 := by
  subst hw
  refine ⟨h.1.add hc (fun a ha => upd_n (by omega)) ⟨Nat.zero_le _, fun _ => by rw [upd_s]; exact hv, fun e => absurd e (by decide), fun e => absurd e (by decide)⟩, fun i hi h2 => ?_⟩
  rw [jsW_1] at hi
  have : joW (0, 1) = 1 := rfl
  rw [upd_n (by omega)]
  exact h.2 i (by omega) h2
/-- an array comes, all 0 -/
theorem jF0.arr (h : jF0 gl wd ce) (hk : kk = 1 ∨ kk = 2) (hb : jsW gl + joW (kk, sz) ≤ 2000) (hc : ∀ a : Nat, a < jsC gl → ce1 a = ce a) (hv : ∀ i : Nat, i < sz → ce1 (jsC gl + i) = 0) : jF0 (gl ++ [(kk, sz)]) wd ce1 := by
  refine ⟨h.1.add hc (fun _ _ => rfl) ⟨by show kk ≤ 2; omega, fun e => ?_, fun e i hi => ?_, fun e => ⟨fun i hi => ?_, fun i hi hj => ?_⟩⟩, fun i hi h2 => ?_⟩
  · have e : kk = 0 := e
    omega
  · have e : kk = 1 := e
    have hi : i < sz := hi
    have w : joW (kk, sz) = sz := by rw [e]; rfl
    rw [hv i hi, h.2 _ (by omega) (by omega)]
  · have e : kk = 2 := e
    have hi : i < sz := hi
    have w : joW (kk, sz) = (sz + 3) / 4 := by rw [e]; rfl
    rw [hv i hi, h.2 _ (by omega) (by omega), jBy_z _ (by omega)]
  · rw [h.2 _ (by omega) (by omega), jBy_z _ (by omega)]
  · rw [jsW_1] at hi
    exact h.2 i (by omega) h2
/-- an element gets its value -/
theorem jF0.put1 (h : jF0 (gl ++ [(1, sz)]) wd ce) (hk : k < sz) (hw : wd1 = upd wd (jsW gl + k) v) (hc : ce1 = upd ce (jsC gl + k) v) : jF0 (gl ++ [(1, sz)]) wd1 ce1 := by
  subst hw
  subst hc
  obtain ⟨-, -, h2, -⟩ := h.1 _ _ _ (jAt.new gl (1, sz))
  refine ⟨h.1.up.add (fun a ha => upd_n (by omega)) (fun a ha => upd_n (by omega)) ⟨(by decide : 1 ≤ 2), fun (e : 1 = 0) => absurd e (by decide), fun _ i hi => ?_, fun (e : 1 = 2) => absurd e (by decide)⟩, fun i hi h2' => ?_⟩
  · by_cases c : i = k
    · rw [c, upd_s, upd_s]
    · rw [upd_n (by omega), upd_n (by omega)]
      exact h2 rfl i hi
  · have e := jsW_1 gl (1, sz)
    have : joW (1, sz) = sz := rfl
    rw [upd_n (by omega)]
    exact h.2 i hi h2'
theorem jF0.put2 (h : jF0 (gl ++ [(2, sz)]) wd ce) (hk : k < sz) (hw : wd1 = upd wd (jsW gl + k / 4) (jSb (wd (jsW gl + k / 4)) v (k % 4))) (hc : ce1 = upd ce (jsC gl + k) (v &&& 255)) : jF0 (gl ++ [(2, sz)]) wd1 ce1 := by
  subst hw
  subst hc
  obtain ⟨-, -, -, h3⟩ := h.1 _ _ _ (jAt.new gl (2, sz))
  obtain ⟨h3, h4⟩ := h3 rfl
  have m4 := Nat.mod_lt k (show 0 < 4 by decide)
  -- other bytes stay
  have oth : ∀ i : Nat, ¬ i = k → jBy (upd wd (jsW gl + k / 4) (jSb (wd (jsW gl + k / 4)) v (k % 4)) (jsW gl + i / 4)) (i % 4) = jBy (wd (jsW gl + i / 4)) (i % 4) := by
    intro i ne
    by_cases c : i / 4 = k / 4
    · rw [c, upd_s]
      exact jSb_ne _ _ _ _ m4 (Nat.mod_lt i (by decide)) (by omega)
    · rw [upd_n (by omega)]
  refine ⟨h.1.up.add (fun a ha => upd_n (by omega)) (fun a ha => upd_n (by omega)) ⟨(by decide : 2 ≤ 2), fun (e : 2 = 0) => absurd e (by decide), fun (e : 2 = 1) => absurd e (by decide), fun _ => ⟨fun i hi => ?_, fun i hi hj => ?_⟩⟩, fun i hi h2' => ?_⟩
  · by_cases c : i = k
    · rw [c, upd_s, upd_s, jSb_eq _ _ _ m4]
    · rw [upd_n (by omega), oth i c]
      exact h3 i hi
  · have hi : sz ≤ i := hi
    rw [oth i (by omega)]
    exact h4 i hi hj
  · have e := jsW_1 gl (2, sz)
    have : joW (2, sz) = (sz + 3) / 4 := rfl
    rw [upd_n (by omega)]
    exact h.2 i hi h2'
theorem cp_tI {a : Int32} (h0 : 0 ≤ a.toInt) (h1 : a.toInt < 2000) : PP (cf_X8_tellInt fu a v F G) (fun _ F1 G1 => F = F1 ∧ gup G 86 a.toNatClampNeg v = G1) := by
  have l0 : (0 : Int32).toInt = 0 := rfl
  have l2 : (2000 : Int32).toInt = 2000 := rfl
  unfold cf_X8_tellInt cb_X8_tellInt_0
  rw [if_neg (fun z => by have := i_lt.mp z; omega)]
  unfold cb_X8_tellInt_4
  rw [if_neg (fun z => by have := i_le.mp z; omega)]
  unfold cb_X8_tellInt_11 cb_X8_tellInt_18
  exact PP.ix (fun _ => PP.ret ⟨rfl, rfl⟩)
theorem cp_fW {a : Int32} (h0 : 0 ≤ a.toInt) (h1 : a.toInt < 2000) : PP (cf_X8_firstWord fu a F G) (fun r F1 G1 => G 86 a.toNatClampNeg = r ∧ F = F1 ∧ G = G1) := by
  have l0 : (0 : Int32).toInt = 0 := rfl
  have l2 : (2000 : Int32).toInt = 2000 := rfl
  unfold cf_X8_firstWord cb_X8_firstWord_0
  rw [if_neg (fun z => by have := i_lt.mp z; omega)]
  unfold cb_X8_firstWord_4
  rw [if_pos (i_lt.mpr (by omega))]
  unfold cb_X8_firstWord_15 cb_X8_firstWord_21
  exact PP.ix (fun _ => PP.ret ⟨rfl, rfl, rfl⟩)
theorem cp_tB {w : Nat} (h : w + k / 4 < 2000) : PP (cf_X8_tellByte fu (nI w) (nI k) v F G) (fun _ F1 G1 => F = F1 ∧ gup G 86 (w + k / 4) (jSb (G 86 (w + k / 4)) v (k % 4)) = G1) := by
  have l0 : (0 : Int32).toInt = 0 := rfl
  have l2 : (2000 : Int32).toInt = 2000 := rfl
  have ea : nI w + nI k >>> ((2 : Int32) &&& 31) = nI (w + k / 4) := by
    rw [sr_2 (by omega)]
    refine i_eq.mpr ?_
    rw [i_addn (m := ((k / 4 : Nat) : Int)) _ (nI_toInt (by omega)) (by rw [nI_toInt (by omega)]; omega) (by rw [nI_toInt (by omega)]; omega), nI_toInt (by omega), nI_toInt (by omega)]
    omega
  have eI : (nI (w + k / 4)).toInt = ((w + k / 4 : Nat) : Int) := nI_toInt (by omega)
  have eN : (nI (w + k / 4)).toNatClampNeg = w + k / 4 := nI_c _ (by omega)
  unfold cf_X8_tellByte cb_X8_tellByte_0
  rw [ea, an_38]
  refine PP.bind (cp_fW (a := nI (w + k / 4)) (by omega) (by omega)) ?_
  rintro _ _ _ ⟨rfl, rfl, rfl⟩
  dsimp only
  unfold cb_X8_tellByte_24
  refine PP.bind (cp_tI (by omega) (by omega)) ?_
  rintro _ _ _ ⟨rfl, rfl⟩
  unfold cb_X8_tellByte_45
  refine PP.ret ⟨rfl, ?_⟩
  rw [eN]
  rfl
end JF0
/-- where the words of a thing lie, as the reference notes it -/
def jL1 (g38 g39 g40 : Nat → Int32) (p o : Nat) (x : Nat × Nat) : Prop := ∀ i : Nat, i < joW x → g39 (o + i) = nI (if x.1 = 2 then p + 4 * i else p + i) ∧ g38 (o + i) = nI (if x.1 = 2 then min 4 (x.2 - 4 * i) else 1) ∧ (g40 (o + i) = 0 ↔ ¬ x.1 = 2)
def jL0 (gl : JLY) (g38 g39 g40 : Nat → Int32) : Prop := ∀ (p o : Nat) (x : Nat × Nat), jAt gl p o x → jL1 g38 g39 g40 p o x
/-- the reference notes one word -/
def jI0 (o : Nat) (v : Int32) (G G1 : PG) : Prop := (G1 38 o = 1 ∧ G1 39 o = v ∧ G1 40 o = 0) ∧ ∀ i : Nat, ¬ i = o → G1 38 i = G 38 i ∧ G1 39 i = G 39 i ∧ G1 40 i = G 40 i
theorem jL0.nil {g38 g39 g40 : Nat → Int32} : jL0 [] g38 g39 g40 := by
  intro p o x hx
  obtain ⟨l1, l2, e, -⟩ := hx
  cases l1 <;> cases e
theorem jL0.add {gl : JLY} {x : Nat × Nat} {g38 g39 g40 f38 f39 f40 : Nat → Int32} (h : jL0 gl g38 g39 g40) (hb : ∀ a : Nat, a < jsW gl → f38 a = g38 a ∧ f39 a = g39 a ∧ f40 a = g40 a) (hx : jL1 f38 f39 f40 (jsC gl) (jsW gl) x) : jL0 (gl ++ [x]) f38 f39 f40 := by
  intro p o y hy
  rcases hy.spl with z | ⟨p1, o1, z, e1, e2⟩
  · have le := z.le
    intro i hi
    obtain ⟨q1, q2, q3⟩ := hb (o + i) (by omega)
    rw [q1, q2, q3]
    exact h p o y z i hi
  · obtain ⟨z1, z2, z3⟩ := z.sgl
    rw [e1, e2, z1, z2, z3]
    exact hx
theorem jL0.int {gl : JLY} {G G1 : PG} {v : Int32} (h : jL0 gl (G 38) (G 39) (G 40)) (hv : v = nI (jsC gl)) (hi : jI0 (jsW gl) v G G1) : jL0 (gl ++ [(0, 1)]) (G1 38) (G1 39) (G1 40) := by
  refine h.add (fun a ha => hi.2 a (by omega)) (fun i h1 => ?_)
  have h1 : i < 1 := h1
  obtain ⟨⟨a, b, c⟩, -⟩ := hi
  rw [show i = 0 by omega, Nat.add_zero, a, b, c, hv]
  exact ⟨rfl, rfl, fun _ => (by decide : ¬ (0 : Nat) = 2), fun _ => rfl⟩
def jAq (c o w s kk : Nat) (x2 x3 x5 x6 : Int32) (F : PF) : Prop := ¬ x6 = 0 ∧ (F 37).toInt = c ∧ (F 36).toInt = o ∧ x5 = nI w ∧ x3 = nI s ∧ c ≤ 8008 ∧ o + w ≤ 2000 ∧ s ≤ 2000 ∧ w = joW (kk, s) ∧ ((kk = 1 ∧ x2 = 0) ∨ (kk = 2 ∧ x2 = 1))
theorem nI_m4 (y : Nat) : (4 : Int32) * nI y = nI (4 * y) := by
  have e : (4#32) * (BitVec.ofNat 32 y) = BitVec.ofNat 32 (4 * y) := by
    refine BitVec.eq_of_toNat_eq ?_
    rw [BitVec.toNat_mul, BitVec.toNat_ofNat, BitVec.toNat_ofNat, BitVec.toNat_ofNat]
    omega
  exact Int32.toBitVec.inj e
