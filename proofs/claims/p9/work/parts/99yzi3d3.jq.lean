/-- of y operands n go, and xs come -/
def jSk (y n : Nat) (xs : List Int32) (st st1 : Nat → Int32) (top : Int32) : Prop := top = nI (y - n + xs.length) ∧ (∀ i : Nat, i < y - n → st1 i = st i) ∧ ∀ (i : Nat) (x : Int32), xs[i]? = some x → st1 (y - n + i) = x
/-- what a step of the class has done -/
def jCe (m y n : Nat) (xs : List Int32) (wd : Nat → Int32) (F : PF) (G : PG) (F1 : PF) (G1 : PG) : Prop := KX [56, 57, 300] [54, 55] F G F1 G1 ∧ F1 57 = nI m ∧ jXn F1 ∧ jSk y n xs (G 55) (G1 55) (F1 56) ∧ G1 54 = wd
/-- the same, wherever pc stands -/
def jCv (v0 : Int32) (y n : Nat) (xs : List Int32) (wd : Nat → Int32) (F : PF) (G : PG) (F1 : PF) (G1 : PG) : Prop := KX [56, 57, 300] [54, 55] F G F1 G1 ∧ F1 57 = v0 ∧ jXn F1 ∧ jSk y n xs (G 55) (G1 55) (F1 56) ∧ G1 54 = wd
theorem jSk.rf {y : Nat} {st : Nat → Int32} {top : Int32} (h : top = nI y) : jSk y 0 [] st st top := ⟨h, fun _ _ => rfl, fun i x e => by simp at e⟩
theorem i_eq2 {a b : Int32} (h : a.toInt = b.toInt) : a = b := i_eq.mpr h
section JQ3
variable {fu m y n : Nat} {v0 : Int32} {xs : List Int32} {wd : Nat → Int32} {F F1 Fa : PF} {G G1 Ga : PG} {Q : Int32 → PF → PG → Prop} {f : Int32 × PF × PG → PR}
theorem jCe.rf (h57 : F 57 = nI m) (h56 : F 56 = nI y) (hx : jXn F) : jCe m y 0 [] (G 54) F G F G := ⟨KX.rf, h57, hx, jSk.rf h56, rfl⟩
theorem jCe.nx (h : jCe m y n xs wd F G Fa Ga) (hm : (m : Int) < (F 6).toInt) (m8 : m < 100000) (k : ∀ Fb : PF, jCe (m + 1) y n xs wd F G Fb Ga → PP (f (G 5 m, Fb, Ga)) Q) : PP ((cf_X6_next fu Fa Ga).bind f) Q := by
  obtain ⟨k1, e57, hx, sk, e54⟩ := h
  have f6 : Fa 6 = F 6 := k1.1 6 rfl
  have e : (Fa 57).toInt = m := by rw [e57, nI_toInt (by omega)]
  refine PP.bind (cp_nxt (by omega) (by rw [f6]; omega)) ?_
  rintro r _ _ ⟨rfl, rfl, rfl⟩
  rw [e57, nI_c m (by omega), nI_t m (by omega), k1.2 5 rfl]
  exact k _ ⟨KX.f rfl k1, fup_s, hx.f (by decide) (by decide), ⟨by rw [fup_n (by decide)]; exact sk.1, sk.2⟩, e54⟩
theorem jCe.po (h : jCe m y n [] wd F G Fa Ga) (hn : n < y) (y8 : y < 500000) (k : ∀ Fb : PF, jCe m y (n + 1) [] wd F G Fb Ga → PP (f (G 55 (y - (n + 1)), Fb, Ga)) Q) : PP ((cf_X6_pop fu Fa Ga).bind f) Q := by
  obtain ⟨k1, e57, hx, ⟨s1, s2, s3⟩, e54⟩ := h
  have e : (Fa 56).toInt = (y - n : Nat) := by rw [s1, nI_toInt (by show y - n + 0 < 2 ^ 31; omega)]; rfl
  refine PP.bind (cp_pop (by omega)) ?_
  rintro r _ _ ⟨rfl, rfl, rfl⟩
  obtain ⟨p1, p2⟩ := hx.pop (by omega)
  rw [show (Fa 56).toInt.toNat - 1 = y - (n + 1) by omega, s2 _ (by omega)]
  refine k _ ⟨KX.f rfl k1, by rw [fup_n (by decide)]; exact e57, p1, ⟨?_, fun i hi => s2 i (by omega), fun i x q => by simp at q⟩, e54⟩
  refine i_eq2 ?_
  rw [p2]
  show (Fa 56).toInt - 1 = (nI (y - (n + 1) + 0)).toInt
  rw [nI_toInt (by omega)]
  omega
theorem jCe.pu (x : Int32) (h : jCe m y n xs wd F G Fa Ga) (hn : n ≤ y) (y8 : y + xs.length < 500000) (k : ∀ (r : Int32) (Fb : PF) (Gb : PG), jCe m y n (xs ++ [x]) wd F G Fb Gb → PP (f (r, Fb, Gb)) Q) : PP ((cf_X6_push fu x Fa Ga).bind f) Q := by
  obtain ⟨k1, e57, hx, ⟨s1, s2, s3⟩, e54⟩ := h
  have e : (Fa 56).toInt = (y - n + xs.length : Nat) := by rw [s1, nI_toInt (by omega)]
  refine PP.bind (cp_push x hx (by omega)) ?_
  rintro r Fb Gb ⟨u1, u2, u3, u4, u5⟩
  refine k r Fb Gb ⟨KX.tr k1 u1 rfl rfl, by rw [u1.1 57 rfl]; exact e57, u3, ⟨?_, fun i hi => ?_, fun i z q => ?_⟩, by rw [u1.2 54 rfl]; exact e54⟩
  · refine i_eq2 ?_
    rw [u2, List.length_append, nI_toInt (by show y - n + (xs.length + 1) < 2 ^ 31; omega)]
    show (Fa 56).toInt + 1 = ((y - n + (xs.length + 1) : Nat) : Int)
    omega
  · rw [u4 i (by omega)]
    exact s2 i hi
  · by_cases c : i < xs.length
    · rw [List.getElem?_append_left c] at q
      rw [u4 _ (by omega)]
      exact s3 i z q
    · rw [List.getElem?_append_right (by omega)] at q
      have ei : i - xs.length = 0 := by
        rcases Nat.eq_zero_or_pos (i - xs.length) with w | w
        · exact w
        · rw [List.getElem?_eq_none (by show 1 ≤ i - xs.length; omega)] at q
          cases q
      rw [ei] at q
      have q : x = z := Option.some.inj q
      rw [show y - n + i = (Fa 56).toInt.toNat by omega, u5]
      exact q
theorem jCe.he {a : Nat} (h : jCe m y n xs wd F G Fa Ga) (ha : a < 4000) (k : PP (f (wd a, Fa, Ga)) Q) : PP ((cf_X6_held fu (nI a) Fa Ga).bind f) Q := by
  have e : (nI a).toInt = a := nI_toInt (by omega)
  unfold cf_X6_held cb_X6_held_0
  rw [if_neg (fun z => by have := i_lt.mp z; rw [e] at this; have l0 : (0 : Int32).toInt = 0 := rfl; omega)]
  unfold cb_X6_held_4
  rw [if_pos (i_lt.mpr (by rw [e]; show (a : Int) < 4000; omega))]
  unfold cb_X6_held_15 cb_X6_held_21
  by_cases c : ixb (nI a) 4000 = true
  · rw [if_pos c, nI_c a (by omega), h.2.2.2.2]
    exact k
  · rw [if_neg c]
    exact PP.no
theorem jCe.ho {a : Nat} {v : Int32} (h : jCe m y n xs wd F G Fa Ga) (ha : a < 4000) (k : ∀ Gb : PG, jCe m y n xs (upd wd a v) F G Fa Gb → PP (f (0, Fa, Gb)) Q) : PP ((cf_X6_hold fu (nI a) v Fa Ga).bind f) Q := by
  obtain ⟨k1, e57, hx, ⟨s1, s2, s3⟩, e54⟩ := h
  have e : (nI a).toInt = a := nI_toInt (by omega)
  unfold cf_X6_hold cb_X6_hold_0
  rw [if_neg (fun z => by have := i_lt.mp z; rw [e] at this; have l0 : (0 : Int32).toInt = 0 := rfl; omega)]
  unfold cb_X6_hold_4
  rw [if_neg (fun z => by have := i_le.mp z; rw [e] at this; have : (4000 : Int32).toInt = 4000 := rfl; omega)]
  unfold cb_X6_hold_11 cb_X6_hold_18
  by_cases c : ixb (nI a) 4000 = true
  · rw [if_pos c, nI_c a (by omega)]
    refine k _ ⟨KX.g rfl k1, e57, hx, ⟨s1, fun i hi => ?_, fun i x q => ?_⟩, ?_⟩
    · rw [gup_o (by decide)]; exact s2 i hi
    · rw [gup_o (by decide)]; exact s3 i x q
    · rw [gup_u, e54]
  · rw [if_neg c]
    exact PP.no
theorem jCv.po (h : jCv v0 y n [] wd F G Fa Ga) (hn : n < y) (y8 : y < 500000) (k : ∀ Fb : PF, jCv v0 y (n + 1) [] wd F G Fb Ga → PP (f (G 55 (y - (n + 1)), Fb, Ga)) Q) : PP ((cf_X6_pop fu Fa Ga).bind f) Q := by
  obtain ⟨k1, e57, hx, ⟨s1, s2, s3⟩, e54⟩ := h
  have e : (Fa 56).toInt = (y - n : Nat) := by rw [s1, nI_toInt (by show y - n + 0 < 2 ^ 31; omega)]; rfl
  refine PP.bind (cp_pop (by omega)) ?_
  rintro r _ _ ⟨rfl, rfl, rfl⟩
  obtain ⟨p1, p2⟩ := hx.pop (by omega)
  rw [show (Fa 56).toInt.toNat - 1 = y - (n + 1) by omega, s2 _ (by omega)]
  refine k _ ⟨KX.f rfl k1, by rw [fup_n (by decide)]; exact e57, p1, ⟨?_, fun i hi => s2 i (by omega), fun i x q => by simp at q⟩, e54⟩
  refine i_eq2 ?_
  rw [p2]
  show (Fa 56).toInt - 1 = (nI (y - (n + 1) + 0)).toInt
  rw [nI_toInt (by omega)]
  omega
theorem jCv.ho {a : Nat} {v : Int32} (h : jCv v0 y n xs wd F G Fa Ga) (ha : a < 4000) (k : ∀ Gb : PG, jCv v0 y n xs (upd wd a v) F G Fa Gb → PP (f (0, Fa, Gb)) Q) : PP ((cf_X6_hold fu (nI a) v Fa Ga).bind f) Q := by
  obtain ⟨k1, e57, hx, ⟨s1, s2, s3⟩, e54⟩ := h
  have e : (nI a).toInt = a := nI_toInt (by omega)
  unfold cf_X6_hold cb_X6_hold_0
  rw [if_neg (fun z => by have := i_lt.mp z; rw [e] at this; have l0 : (0 : Int32).toInt = 0 := rfl; omega)]
  unfold cb_X6_hold_4
  rw [if_neg (fun z => by have := i_le.mp z; rw [e] at this; have : (4000 : Int32).toInt = 4000 := rfl; omega)]
  unfold cb_X6_hold_11 cb_X6_hold_18
  by_cases c : ixb (nI a) 4000 = true
  · rw [if_pos c, nI_c a (by omega)]
    refine k _ ⟨KX.g rfl k1, e57, hx, ⟨s1, fun i hi => ?_, fun i x q => ?_⟩, ?_⟩
    · rw [gup_o (by decide)]; exact s2 i hi
    · rw [gup_o (by decide)]; exact s3 i x q
    · rw [gup_u, e54]
  · rw [if_neg c]
    exact PP.no
/-- a step of the class begins -/
theorem jCe.st (h57 : F 57 = nI m) (h56 : F 56 = nI y) (hx : jXn F) (hm : (m : Int) < (F 6).toInt) (m8 : m < 100000) (k : ∀ Fb : PF, jCe (m + 1) y 0 [] (G 54) F G Fb G → PP (cb_X6_step_9 fu (nI m) (G 5 m) Fb G) Q) : PP (cf_X6_step fu F G) Q := by
  unfold cf_X6_step cb_X6_step_0
  refine (jCe.rf h57 h56 hx).nx hm m8 (fun Fb hb => ?_)
  dsimp only
  rw [h57]
  exact k Fb hb
theorem cs_9j {at0 v : Int32} (h1 : 45 ≤ v.toInt) (h2 : v.toInt ≤ 61) : cb_X6_step_9 fu at0 v F G = cb_X6_step_22 fu v F G := by
  unfold cb_X6_step_9
  rw [if_neg (fun z => by have := i_lt.mp z; have : (45 : Int32).toInt = 45 := rfl; omega)]
  unfold cb_X6_step_16
  rw [if_neg (fun z => by have := i_lt.mp z; have : (61 : Int32).toInt = 61 := rfl; omega)]
theorem cs_9x {at0 v : Int32} (h : v.toInt < 45 ∨ 61 < v.toInt) : cb_X6_step_9 fu at0 v F G = cb_X6_step_43 fu at0 v F G := by
  have l1 : (45 : Int32).toInt = 45 := rfl
  have l2 : (61 : Int32).toInt = 61 := rfl
  unfold cb_X6_step_9
  by_cases c : v < 45
  · rw [if_pos c]
  · rw [if_neg c]
    unfold cb_X6_step_16
    have c := mt i_lt.mpr c
    rw [if_pos (i_lt.mpr (by omega))]
theorem cs_9c {at0 v : Int32} (h1 : 62 ≤ v.toInt) (h2 : v.toInt ≤ 65) : cb_X6_step_9 fu at0 v F G = cb_X6_step_55 fu v F G := by
  rw [cs_9x (by omega)]
  unfold cb_X6_step_43
  rw [if_neg (fun z => by have := i_lt.mp z; have : (62 : Int32).toInt = 62 := rfl; omega)]
  unfold cb_X6_step_49
  rw [if_neg (fun z => by have := i_lt.mp z; have : (65 : Int32).toInt = 65 := rfl; omega)]
theorem cs_9y {at0 v : Int32} (h : v.toInt < 45 ∨ 65 < v.toInt) : cb_X6_step_9 fu at0 v F G = cb_X6_step_70 fu at0 v F G := by
  have l1 : (62 : Int32).toInt = 62 := rfl
  have l2 : (65 : Int32).toInt = 65 := rfl
  rw [cs_9x (by omega)]
  unfold cb_X6_step_43
  by_cases c : v < 62
  · rw [if_pos c]
  · rw [if_neg c]
    unfold cb_X6_step_49
    have c := mt i_lt.mpr c
    rw [if_pos (i_lt.mpr (by omega))]
theorem cs_9m {at0 v : Int32} (h1 : 66 ≤ v.toInt) (h2 : v.toInt ≤ 73) : cb_X6_step_9 fu at0 v F G = cb_X6_step_82 fu v F G := by
  rw [cs_9y (by omega)]
  unfold cb_X6_step_70
  rw [if_neg (fun z => by have := i_lt.mp z; have : (66 : Int32).toInt = 66 := rfl; omega)]
  unfold cb_X6_step_76
  rw [if_neg (fun z => by have := i_lt.mp z; have : (73 : Int32).toInt = 73 := rfl; omega)]
theorem cs_9z {at0 v : Int32} (h : v.toInt < 45 ∨ 73 < v.toInt) : cb_X6_step_9 fu at0 v F G = cb_X6_step_90 fu at0 v F G := by
  have l1 : (66 : Int32).toInt = 66 := rfl
  have l2 : (73 : Int32).toInt = 73 := rfl
  rw [cs_9y (by omega)]
  unfold cb_X6_step_70
  by_cases c : v < 66
  · rw [if_pos c]
  · rw [if_neg c]
    unfold cb_X6_step_76
    have c := mt i_lt.mpr c
    rw [if_pos (i_lt.mpr (by omega))]
theorem cs_9r {at0 v : Int32} (h1 : 74 ≤ v.toInt) (h2 : v.toInt ≤ 83) : cb_X6_step_9 fu at0 v F G = cb_X6_step_102 fu v F G := by
  rw [cs_9z (by omega)]
  unfold cb_X6_step_90
  rw [if_neg (fun z => by have := i_lt.mp z; have : (74 : Int32).toInt = 74 := rfl; omega)]
  unfold cb_X6_step_96
  rw [if_neg (fun z => by have := i_lt.mp z; have : (83 : Int32).toInt = 83 := rfl; omega)]
theorem cs_9w {at0 v : Int32} (h : v.toInt < 45 ∨ 83 < v.toInt) : cb_X6_step_9 fu at0 v F G = cb_X6_step_110 fu at0 v F G := by
  have l1 : (74 : Int32).toInt = 74 := rfl
  have l2 : (83 : Int32).toInt = 83 := rfl
  rw [cs_9z (by omega)]
  unfold cb_X6_step_90
  by_cases c : v < 74
  · rw [if_pos c]
  · rw [if_neg c]
    unfold cb_X6_step_96
    have c := mt i_lt.mpr c
    rw [if_pos (i_lt.mpr (by omega))]
theorem cs_9u {at0 v : Int32} (h1 : 84 ≤ v.toInt) (h2 : v.toInt ≤ 88) : cb_X6_step_9 fu at0 v F G = cb_X6_step_122 fu v F G := by
  rw [cs_9w (by omega)]
  unfold cb_X6_step_110
  rw [if_neg (fun z => by have := i_lt.mp z; have : (84 : Int32).toInt = 84 := rfl; omega)]
  unfold cb_X6_step_116
  rw [if_neg (fun z => by have := i_lt.mp z; have : (88 : Int32).toInt = 88 := rfl; omega)]
theorem cs_9a {at0 v : Int32} (h : v.toInt < 45 ∨ 88 < v.toInt) : cb_X6_step_9 fu at0 v F G = cb_X6_step_134 fu at0 v F G := by
  have l1 : (84 : Int32).toInt = 84 := rfl
  have l2 : (88 : Int32).toInt = 88 := rfl
  rw [cs_9w (by omega)]
  unfold cb_X6_step_110
  by_cases c : v < 84
  · rw [if_pos c]
  · rw [if_neg c]
    unfold cb_X6_step_116
    have c := mt i_lt.mpr c
    rw [if_pos (i_lt.mpr (by omega))]
end JQ3
