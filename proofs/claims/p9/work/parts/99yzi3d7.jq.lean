section JQ7
variable {fu m y n : Nat} {F F1 Fa : PF} {G G1 Ga : PG} {Q : Int32 → PF → PG → Prop} {f : Int32 × PF × PG → PR} {wd : Nat → Int32}
/-- the class stops at word m and may go on -/
def jTs (m : Nat) (st : Int32) (F : PF) (G : PG) (F1 : PF) (G1 : PG) : Prop := KX [57, 61, 63] [] F G F1 G1 ∧ F1 57 = nI m ∧ F1 61 = 0 ∧ F1 63 = st
theorem KX.sub {a b a1 b1 : List Nat} {F F1 : PF} {G G1 : PG} (h : KX a b F G F1 G1) (e : a.all a1.contains = true) (e1 : b.all b1.contains = true) : KX a1 b1 F G F1 G1 := KX.tr KX.rf h e e1
theorem jCe.k0 (h : jCe m y 0 [] (G 54) F G Fa G) (h57 : KX [57] [] F G Fa G) : KX [57] [] F G Fa G := h57
/-- a step of the class begins: the word is read, no more -/
theorem cq_st (P : jCp m y n F) (hn : 1 ≤ n) (k : PP (cb_X6_step_9 fu (nI m) (G 5 m) (fup F 57 (nI (m + 1))) G) Q) : PP (cf_X6_step fu F G) Q := by
  obtain ⟨h57, h56, hx, hm, m8, y8⟩ := P
  have e : (F 57).toInt = m := by rw [h57, nI_toInt (by omega)]
  unfold cf_X6_step cb_X6_step_0
  refine PP.bind (cp_nxt (by omega) (by omega)) ?_
  rintro r _ _ ⟨rfl, rfl, rfl⟩
  dsimp only
  rw [h57, nI_c m (by omega), nI_t m (by omega)]
  exact k
theorem cp_he {a : Nat} (ha : a < 4000) (k : PP (f (G 54 a, F, G)) Q) : PP ((cf_X6_held fu (nI a) F G).bind f) Q := by
  have e : (nI a).toInt = a := nI_toInt (by omega)
  unfold cf_X6_held cb_X6_held_0
  rw [if_neg (fun z => by have := i_lt.mp z; rw [e] at this; have l0 : (0 : Int32).toInt = 0 := rfl; omega)]
  unfold cb_X6_held_4
  rw [if_pos (i_lt.mpr (by rw [e]; show (a : Int) < 4000; omega))]
  unfold cb_X6_held_15 cb_X6_held_21
  by_cases c : ixb (nI a) 4000 = true
  · rw [if_pos c, nI_c a (by omega)]
    exact k
  · rw [if_neg c]
    exact PP.no
theorem cp_ho {a : Nat} {v : Int32} (ha : a < 4000) (k : PP (f (0, F, gup G 54 a v)) Q) : PP ((cf_X6_hold fu (nI a) v F G).bind f) Q := by
  have e : (nI a).toInt = a := nI_toInt (by omega)
  unfold cf_X6_hold cb_X6_hold_0
  rw [if_neg (fun z => by have := i_lt.mp z; rw [e] at this; have l0 : (0 : Int32).toInt = 0 := rfl; omega)]
  unfold cb_X6_hold_4
  rw [if_neg (fun z => by have := i_le.mp z; rw [e] at this; have : (4000 : Int32).toInt = 4000 := rfl; omega)]
  unfold cb_X6_hold_11 cb_X6_hold_18
  by_cases c : ixb (nI a) 4000 = true
  · rw [if_pos c, nI_c a (by omega)]
    exact k
  · rw [if_neg c]
    exact PP.no
/-- a turn -/
theorem cq_turn (P : jCp m y 1 F) (c0 : G 5 m = 89) : PP (cf_X6_step fu F G) (fun _ F1 G1 => ((F 62).toInt ≤ 0 ∧ jTs m 1 F G F1 G1) ∨ (0 < (F 62).toInt ∧ KX [57, 62, 64] [] F G F1 G1 ∧ F1 57 = nI (m + 1) ∧ F1 62 = F 62 - 1 ∧ F1 64 = F 64 + 1)) := by
  refine cq_st P (by omega) ?_
  rw [c0, cs_9a (by decide)]
  unfold cb_X6_step_134 cf_X6_act cb_X6_act_0
  rw [if_neg (by decide), if_neg (by decide), if_neg (by decide), if_pos rfl]
  unfold cb_X6_act_52 cf_X6_takesTurn cb_X6_takesTurn_0
  rw [fup_n (by decide)]
  by_cases c : (0 : Int32) < F 62
  · rw [if_pos c]
    show PP (some (0, fup (fup (fup F 57 (nI (m + 1))) 62 (fup F 57 (nI (m + 1)) 62 - 1)) 64 (fup (fup F 57 (nI (m + 1))) 62 (fup F 57 (nI (m + 1)) 62 - 1) 64 + 1), G)) _
    refine PP.ret (.inr ⟨i_lt.mp c, KX.f rfl (KX.f rfl (KX.f rfl KX.rf)), ?_, ?_, ?_⟩)
    · rw [fup_n (by decide), fup_n (by decide), fup_s]
    · rw [fup_n (by decide), fup_s, fup_n (by decide)]
    · rw [fup_s, fup_n (by decide), fup_n (by decide)]
  · rw [if_neg c]
    show PP (some (0, fup (fup (fup (fup F 57 (nI (m + 1))) 57 (nI m)) 63 1) 61 0, G)) _
    refine PP.ret (.inl ⟨?_, KX.f rfl (KX.f rfl (KX.f rfl (KX.f rfl KX.rf))), ?_, fup_s, ?_⟩)
    · have := mt i_lt.mpr c
      have l0 : (0 : Int32).toInt = 0 := rfl
      omega
    · rw [fup_n (by decide), fup_n (by decide), fup_s]
    · rw [fup_n (by decide), fup_s]
theorem cq_halt (P : jCp m y 1 F) (hy : 1 ≤ y) (c0 : G 5 m = 18) : PP (cf_X6_step fu F G) (fun _ F1 G1 => KX [56, 57, 61, 63, 65, 300] [54, 55] F G F1 G1 ∧ G1 54 = G 54 ∧ F1 61 = 0 ∧ F1 63 = 4 ∧ F1 65 = G 55 (y - 1)) := by
  obtain ⟨h57, h56, hx, hm, m8, y8⟩ := P
  refine jCe.st h57 h56 hx (by omega) (by omega) (fun Fb hb => ?_)
  rw [c0, cs_9a (by decide)]
  unfold cb_X6_step_134 cf_X6_act cb_X6_act_0
  rw [if_neg (by decide), if_neg (by decide), if_neg (by decide), if_neg (by decide), if_neg (by decide)]
  unfold cb_X6_act_130
  rw [Option.bind_assoc]
  refine hb.po (by omega) (by omega) (fun Fc hc => ?_)
  show PP (some (0, fup (fup (fup Fc 65 (G 55 (y - 1))) 63 4) 61 0, G)) _
  refine PP.ret ⟨KX.f rfl (KX.f rfl (KX.f rfl (hc.1.sub rfl rfl))), rfl, fup_s, ?_, ?_⟩
  · rw [fup_n (by decide), fup_s]
  · rw [fup_n (by decide), fup_n (by decide), fup_s]
/-- OUTPUT -/
theorem cq_put (P : jCp m y 1 F) (hy : 1 ≤ y) (c0 : G 5 m = 16) : PP (cf_X6_step fu F G) (fun _ F1 G1 => ∃ Fb : PF, jCe (m + 1) y 1 [] (G 54) F G Fb G ∧ (((2000 : Int) ≤ (F 72).toInt ∧ G1 = G) ∨ ((F 72).toInt < 2000 ∧ vp_in (F 72) 2000 ∧ G1 = gup G 71 (F 72).toNatClampNeg (G 55 (y - 1)))) ∧ ((F 72 = 2147483647 ∧ F1 = Fb) ∨ (¬ F 72 = 2147483647 ∧ F1 = fup Fb 72 (F 72 + 1)))) := by
  obtain ⟨h57, h56, hx, hm, m8, y8⟩ := P
  refine jCe.st h57 h56 hx (by omega) (by omega) (fun Fb hb => ?_)
  rw [c0, cs_9a (by decide)]
  unfold cb_X6_step_134 cf_X6_act cb_X6_act_0
  rw [if_neg (by decide), if_pos rfl]
  unfold cb_X6_act_83
  rw [Option.bind_assoc]
  refine hb.po (by omega) (by omega) (fun Fc hc => ?_)
  dsimp only
  unfold cb_X6_act_91 cf_X7_show cb_X7_show_0
  have e72 : Fc 72 = F 72 := hc.1.1 72 rfl
  rw [e72]
  have l1 : (2000 : Int32).toInt = 2000 := rfl
  have l2 : (2147483647 : Int32).toInt = 2147483647 := rfl
  have fin : ∀ G' : PG, (((2000 : Int) ≤ (F 72).toInt ∧ G' = G) ∨ ((F 72).toInt < 2000 ∧ vp_in (F 72) 2000 ∧ G' = gup G 71 (F 72).toNatClampNeg (G 55 (y - 1)))) → PP (((cb_X7_show_20 fu Fc G').bind (fun q => cb_X6_act_94 fu q.2.1 q.2.2)).bind (fun q => cb_X6_step_140 fu q.2.1 q.2.2)) (fun _ F1 G1 => ∃ Fb : PF, jCe (m + 1) y 1 [] (G 54) F G Fb G ∧ (((2000 : Int) ≤ (F 72).toInt ∧ G1 = G) ∨ ((F 72).toInt < 2000 ∧ vp_in (F 72) 2000 ∧ G1 = gup G 71 (F 72).toNatClampNeg (G 55 (y - 1)))) ∧ ((F 72 = 2147483647 ∧ F1 = Fb) ∨ (¬ F 72 = 2147483647 ∧ F1 = fup Fb 72 (F 72 + 1)))) := by
    intro G' hg
    unfold cb_X7_show_20
    rw [e72]
    have := i_rng (F 72)
    by_cases c : (2147483647 : Int32) ≤ F 72
    · rw [if_pos c]
      have c := i_le.mp c
      show PP (some (0, Fc, G')) _
      exact PP.ret ⟨Fc, hc, hg, .inl ⟨i_eq2 (by omega), rfl⟩⟩
    · rw [if_neg c]
      show PP (some (0, fup Fc 72 (Fc 72 + 1), G')) _
      rw [e72]
      exact PP.ret ⟨Fc, hc, hg, .inr ⟨fun z => c (by rw [z]; exact i_le.mpr (Int.le_refl _)), rfl⟩⟩
  by_cases c : (2000 : Int32) ≤ F 72
  · rw [if_pos c]
    have c := i_le.mp c
    exact fin G (.inl ⟨by omega, rfl⟩)
  · rw [if_neg c]
    have c := mt i_le.mpr c
    unfold cb_X7_show_10
    rw [e72]
    by_cases d : ixb (F 72) 2000 = true
    · rw [if_pos d]
      exact fin _ (.inr ⟨by omega, of_decide_eq_true (p := ¬ (F 72 < 0 ∨ 2000 ≤ (F 72).toNatClampNeg)) d, rfl⟩)
    · rw [if_neg d]
      exact PP.no
/-- INPUT -/
theorem cq_get (P : jCp m y 1 F) (c0 : G 5 m = 17) : PP (cf_X6_step fu F G) (fun _ F1 G1 => ((F 70).toInt ≤ 0 ∧ jTs m 2 F G F1 G1) ∨ (0 < (F 70).toInt ∧ vp_in (F 69) 500 ∧ jCe (m + 1) y 0 [G 68 (F 69).toNatClampNeg] (G 54) (fup (fup F 69 (F 69 + 1 - (F 69 + 1) / 500 * 500)) 70 (F 70 - 1)) G F1 G1)) := by
  have l0 : (0 : Int32).toInt = 0 := rfl
  refine cq_st P (by omega) ?_
  obtain ⟨h57, h56, hx, hm, m8, y8⟩ := P
  rw [c0, cs_9a (by decide)]
  unfold cb_X6_step_134 cf_X6_act cb_X6_act_0
  rw [if_neg (by decide), if_neg (by decide), if_pos rfl]
  unfold cb_X6_act_97
  rw [fup_n (by decide)]
  by_cases c : F 70 ≤ (0 : Int32)
  · rw [if_pos c]
    have c := i_le.mp c
    show PP (some (0, fup (fup (fup (fup F 57 (nI (m + 1))) 57 (nI m)) 63 2) 61 0, G)) _
    refine PP.ret (.inl ⟨by omega, KX.f rfl (KX.f rfl (KX.f rfl (KX.f rfl KX.rf))), ?_, fup_s, ?_⟩)
    · rw [fup_n (by decide), fup_n (by decide), fup_s]
    · rw [fup_n (by decide), fup_s]
  · rw [if_neg c]
    have c := mt i_le.mpr c
    unfold cb_X6_act_107 cf_X7_handIn cb_X7_handIn_0
    rw [fup_n (by decide), if_pos (i_lt.mpr (by omega))]
    unfold cb_X7_handIn_9
    rw [fup_n (by decide)]
    by_cases d : ixb (F 69) 500 = true
    · rw [if_pos d]
      have e70 : fup (fup F 57 (nI (m + 1))) 69 (F 69 + 1 - (F 69 + 1) / 500 * 500) 70 = F 70 := by rw [fup_n (by decide), fup_n (by decide)]
      show PP (((cf_X6_push fu (G 68 (F 69).toNatClampNeg) (fup (fup (fup F 57 (nI (m + 1))) 69 (F 69 + 1 - (F 69 + 1) / 500 * 500)) 70 (fup (fup F 57 (nI (m + 1))) 69 (F 69 + 1 - (F 69 + 1) / 500 * 500) 70 - 1)) G).bind (fun q => cb_X6_act_118 fu q.2.1 q.2.2)).bind (fun q => cb_X6_step_140 fu q.2.1 q.2.2)) _
      rw [e70, Option.bind_assoc]
      have hb : jCe (m + 1) y 0 [] (G 54) (fup (fup F 69 (F 69 + 1 - (F 69 + 1) / 500 * 500)) 70 (F 70 - 1)) G (fup (fup (fup F 57 (nI (m + 1))) 69 (F 69 + 1 - (F 69 + 1) / 500 * 500)) 70 (F 70 - 1)) G := by
        refine ⟨⟨fun q hq => ?_, fun _ _ => rfl⟩, ?_, ?_, jSk.rf ?_, rfl⟩
        · unfold fup
          by_cases c70 : q = 70
          · rw [if_pos c70, if_pos c70]
          · rw [if_neg c70, if_neg c70]
            by_cases c69 : q = 69
            · rw [if_pos c69, if_pos c69]
            · rw [if_neg c69, if_neg c69, if_neg (fun z => by rw [z] at hq; exact absurd hq (by decide))]
        · rw [fup_n (by decide), fup_n (by decide), fup_s]
        · exact ((hx.f (by decide) (by decide)).f (by decide) (by decide)).f (by decide) (by decide)
        · rw [fup_n (by decide), fup_n (by decide), fup_n (by decide)]
          exact h56
      refine hb.pu _ (by omega) (by show y + 0 < 500000; omega) (fun r Fg Gg hg => ?_)
      show PP (some (0, Fg, Gg)) _
      exact PP.ret (.inr ⟨by omega, of_decide_eq_true (p := ¬ (F 69 < 0 ∨ 500 ≤ (F 69).toNatClampNeg)) d, hg⟩)
    · rw [if_neg d]
      exact PP.no
/-- RETURN -/
theorem cq_ret {b : Nat} (P : jCp m y 1 F) (hy : 1 ≤ y) (c0 : G 5 m = 15) (e58 : F 58 = nI b) (hb : b + 1 < 4000) : PP (cf_X6_step fu F G) (fun _ F1 G1 => (b = 2000 ∧ KX [56, 57, 59, 61, 63, 65, 300] [54, 55] F G F1 G1 ∧ G1 54 = G 54 ∧ F1 59 = 2000 ∧ F1 61 = 0 ∧ F1 63 = 3 ∧ F1 65 = G 55 (y - 1)) ∨ (b ≠ 2000 ∧ KX [57, 58, 59] [] F G F1 G1 ∧ F1 57 = G 54 b ∧ F1 58 = G 54 (b + 1) ∧ F1 59 = nI b)) := by
  obtain ⟨h57, h56, hx, hm, m8, y8⟩ := P
  by_cases c : b = 2000
  · refine jCe.st h57 h56 hx (by omega) (by omega) (fun Fb hb => ?_)
    rw [c0, cs_9a (by decide)]
    unfold cb_X6_step_134 cf_X6_act cb_X6_act_0
    rw [if_pos rfl]
    unfold cb_X6_act_76 cf_X6_leave cb_X6_leave_0 cb_X6_leave_8
    rw [hb.1.1 58 rfl, e58, fup_n (by decide), hb.1.1 58 rfl, e58, if_pos (by rw [c]; rfl)]
    have hb1 : jCe (m + 1) y 0 [] (G 54) (fup F 59 (nI b)) G (fup Fb 59 (nI b)) G := by
      obtain ⟨q1, q2, q3, q4, q5⟩ := hb
      refine ⟨⟨fun q hq => ?_, fun _ _ => rfl⟩, by rw [fup_n (by decide)]; exact q2, q3.f (by decide) (by decide), ⟨by rw [fup_n (by decide)]; exact q4.1, q4.2⟩, q5⟩
      unfold fup
      by_cases cq : q = 59
      · rw [if_pos cq, if_pos cq]
      · rw [if_neg cq, if_neg cq]
        exact q1.1 q hq
    unfold cb_X6_leave_18
    rw [Option.bind_assoc, Option.bind_assoc]
    refine hb1.po (by omega) (by omega) (fun Fc hc => ?_)
    show PP (some (0, fup (fup (fup Fc 65 (G 55 (y - 1))) 63 3) 61 0, G)) _
    refine PP.ret (.inl ⟨c, KX.f rfl (KX.f rfl (KX.f rfl ((KX.f rfl KX.rf : KX [56, 57, 59, 61, 63, 65, 300] [54, 55] F G (fup F 59 (nI b)) G).tr hc.1 rfl rfl))), rfl, ?_, fup_s, ?_, ?_⟩)
    · rw [fup_n (by decide), fup_n (by decide), fup_n (by decide), hc.1.1 59 rfl, fup_s, c]
      rfl
    · rw [fup_n (by decide), fup_s]
    · rw [fup_n (by decide), fup_n (by decide), fup_s]
  · refine cq_st ⟨h57, h56, hx, hm, m8, y8⟩ (by omega) ?_
    rw [c0, cs_9a (by decide)]
    unfold cb_X6_step_134 cf_X6_act cb_X6_act_0
    rw [if_pos rfl]
    unfold cb_X6_act_76 cf_X6_leave cb_X6_leave_0 cb_X6_leave_8
    have e58' : fup F 57 (nI (m + 1)) 58 = nI b := by rw [fup_n (by decide)]; exact e58
    rw [fup_n (by decide), e58', if_neg (show ¬ nI b = 2000 from fun z => c (nI_ij (b := 2000) z (by omega) (by decide)))]
    unfold cb_X6_leave_32
    rw [fup_n (by decide), e58', Option.bind_assoc, Option.bind_assoc]
    refine cp_he (by omega) ?_
    dsimp only
    unfold cb_X6_leave_41 cb_X6_leave_44
    rw [fup_n (by decide), fup_n (by decide), e58', nI_t _ (by omega), Option.bind_assoc]
    refine cp_he (by omega) ?_
    show PP (some (0, fup (fup (fup (fup F 57 (nI (m + 1))) 59 (nI b)) 57 (G 54 b)) 58 (G 54 (b + 1)), G)) _
    refine PP.ret (.inr ⟨c, KX.f rfl (KX.f rfl (KX.f rfl (KX.f rfl KX.rf))), ?_, fup_s, ?_⟩)
    · rw [fup_n (by decide), fup_s]
    · rw [fup_n (by decide), fup_n (by decide), fup_s]
/-- the words of E's: of w, i have come to their places behind W -/
def jAr (wd st : Nat → Int32) (W y w i : Nat) : Nat → Int32 := fun a => if W + (w - i) ≤ a ∧ a < W + w then st (y - w + (a - W)) else wd a
theorem jAr_0 (wd st : Nat → Int32) (W y w : Nat) : jAr wd st W y w 0 = wd := by
  funext a
  exact if_neg (by omega)
theorem jAr_s (wd st : Nat → Int32) {W y w i : Nat} (hi : i < w) (hw : w ≤ y) : upd (jAr wd st W y w i) (W + (w - (i + 1))) (st (y - (i + 1))) = jAr wd st W y w (i + 1) := by
  funext a
  unfold upd jAr
  by_cases c : a = W + (w - (i + 1))
  · rw [if_pos c, if_pos (by omega)]
    exact congrArg st (by omega)
  · rw [if_neg c]
    by_cases d : W + (w - i) ≤ a ∧ a < W + w
    · rw [if_pos d, if_pos (by omega)]
    · rw [if_neg d, if_neg (by omega)]
theorem cq_lo {W w : Nat} {v0 x1 x3 : Int32} (hw : w ≤ y) (y8 : y < 400000) (hW : W + 4 + w ≤ 4000) (e59 : F 59 = nI W) (k : ∀ (Fb : PF) (Gb : PG), jCv v0 y w [] (jAr wd (G 55) (W + 4) y w w) F G Fb Gb → PP ((cb_X6_enters_103 fu x1 x3 Fb Gb).bind f) Q) : ∀ (d i : Nat) (x4 : Int32) (Fb : PF) (Gb : PG), i ≤ w → x4.toInt = (w : Int) - i - 1 → jCv v0 y i [] (jAr wd (G 55) (W + 4) y w i) F G Fb Gb → PP ((cl_X6_enters_75 fu d x1 x3 x4 Fb Gb).bind f) Q := by
  intro d
  induction d with
  | zero => intro i x4 Fb Gb _ _ _; exact PP.no
  | succ d ih =>
    intro i x4 Fb Gb hi hx h
    have l0 : (0 : Int32).toInt = 0 := rfl
    show PP ((cb_X6_enters_75 fu (cl_X6_enters_75 fu d) x1 x3 x4 Fb Gb).bind f) Q
    unfold cb_X6_enters_75
    by_cases c : i = w
    · rw [if_pos (i_lt.mpr (by omega))]
      rw [c] at h
      exact k Fb Gb h
    · rw [if_neg (fun z => by have := i_lt.mp z; omega)]
      have ex : x4 = nI (w - (i + 1)) := i_eq2 (by rw [nI_toInt (by omega)]; omega)
      unfold cb_X6_enters_80
      rw [h.1.1 59 rfl, e59, show (4 : Int32) = nI 4 from rfl, nI_ad (by omega), ex, nI_ad (by omega), Option.bind_assoc]
      refine h.po (by omega) (by omega) (fun Fc hc => ?_)
      dsimp only
      unfold cb_X6_enters_94
      rw [Option.bind_assoc]
      refine hc.ho (by omega) (fun Gd hd => ?_)
      dsimp only
      unfold cb_X6_enters_97
      rw [jAr_s wd (G 55) (by omega) hw] at hd
      have e1 : (nI (w - (i + 1)) + (-1)).toInt = (w : Int) - (i + 1) - 1 := by
        rw [i_addn (nI (w - (i + 1))) (n := -1) (m := -1) rfl (by rw [nI_toInt (by omega)]; omega) (by rw [nI_toInt (by omega)]; omega), nI_toInt (by omega)]
        omega
      exact ih (i + 1) _ Fc Gd (by omega) (by rw [e1]; omega) hd
/-- what a call of function g does in the class: W is where its frame begins, w the words of its E's -/
def jCc (m y W w : Nat) (g : Nat) (F : PF) (G : PG) (F1 : PF) (G1 : PG) : Prop := KX [56, 57, 58, 59, 62, 64, 300] [54, 55] F G F1 G1 ∧ F1 62 = F 62 - 1 ∧ F1 64 = F 64 + 1 ∧ F1 57 = G 80 g ∧ F1 58 = nI W ∧ F1 59 = nI W + G 79 g ∧ jXn F1 ∧ jSk y w [] (G 55) (G1 55) (F1 56) ∧ G1 54 = jAr (upd (upd (G 54) W (nI m)) (W + 1) (F 58)) (G 55) (W + 4) y w w
/-- a function begins -/
theorem cq_en {W w g : Nat} {pl : Int32} (h56 : F 56 = nI y) (hx : jXn F) (y8 : y < 400000) (hw : w ≤ y) (e59 : F 59 = nI W) (hW : (F 59 - 2000 + G 79 g).toInt ≤ (F 67).toInt → W + 4 + w ≤ 4000) (g4 : g < 450) (e81 : G 81 g = nI w) (hd : ((F 59 - 2000 + G 79 g).toInt ≤ (F 67).toInt → ∀ (F1 : PF) (G1 : PG), KX [56, 57, 58, 59, 300] [54, 55] F G F1 G1 → F1 57 = G 80 g → F1 58 = nI W → F1 59 = nI W + G 79 g → jXn F1 → jSk y w [] (G 55) (G1 55) (F1 56) → G1 54 = jAr (upd (upd (G 54) W (F 57)) (W + 1) (F 58)) (G 55) (W + 4) y w w → PP (f (1, F1, G1)) Q)) (hn : (F 67).toInt < (F 59 - 2000 + G 79 g).toInt → PP (f (0, fup (fup (fup F 66 pl) 63 6) 61 0, G)) Q) : PP ((cf_X6_enters fu (nI g) pl F G).bind f) Q := by
  unfold cf_X6_enters cb_X6_enters_0
  by_cases c : ixb (nI g) 450 = true
  · rw [if_pos c, nI_c g (by omega)]
    show PP ((cb_X6_enters_14 fu (nI g) pl (G 79 g) (F 59 - 2000) F G).bind f) Q
    unfold cb_X6_enters_14
    by_cases d : F 59 - 2000 + G 79 g ≤ F 67
    · rw [if_pos d]
      have d := i_le.mp d
      have hW := hW d
      unfold cb_X6_enters_36
      rw [e59, Option.bind_assoc]
      have h : jCv (F 57) y 0 [] (G 54) F G F G := ⟨KX.rf, rfl, hx, jSk.rf h56, rfl⟩
      refine h.ho (by omega) (fun Gb hb => ?_)
      dsimp only
      unfold cb_X6_enters_48
      rw [e59, nI_t W (by omega), Option.bind_assoc]
      refine hb.ho (by omega) (fun Gc hc => ?_)
      dsimp only
      unfold cb_X6_enters_62
      rw [if_pos c, nI_c g (by omega), hc.1.2 81 rfl, e81]
      refine cq_lo (W := W) (w := w) hw y8 hW e59 (fun Fd Gd hd1 => ?_) fu 0 _ F Gc (Nat.zero_le _) ?_ (by rw [jAr_0]; exact hc)
      · unfold cb_X6_enters_103 cb_X6_enters_111 cb_X6_enters_121
        rw [if_pos c, nI_c g (by omega)]
        show PP (f (1, fup (fup (fup Fd 58 (Fd 59)) 59 (fup Fd 58 (Fd 59) 59 + G 79 g)) 57 (Gd 80 g), Gd)) Q
        obtain ⟨k1, k2, k3, k4, k5⟩ := hd1
        have q59 : Fd 59 = nI W := (k1.1 59 rfl).trans e59
        refine hd d _ Gd (KX.f rfl (KX.f rfl (KX.f rfl (k1.sub rfl rfl)))) ?_ ?_ ?_ ?_ ?_ k5
        · rw [fup_s, k1.2 80 rfl]
        · rw [fup_n (by decide), fup_n (by decide), fup_s, q59]
        · rw [fup_n (by decide), fup_s, fup_n (by decide), q59]
        · exact ((k3.f (by decide) (by decide)).f (by decide) (by decide)).f (by decide) (by decide)
        · rw [fup_n (by decide), fup_n (by decide), fup_n (by decide)]
          exact k4
      · rw [i_subn (nI w) (n := 1) (m := 1) rfl (by rw [nI_toInt (by omega)]; omega) (by rw [nI_toInt (by omega)]; omega), nI_toInt (by omega)]
        omega
    · rw [if_neg d]
      have d := mt i_le.mpr d
      exact hn (by omega)
  · rw [if_neg c]
    exact PP.no
/-- CALL -/
theorem cq_call {W w g : Nat} (P : jCp m y 3 F) (c0 : G 5 m = 90) (c1 : G 5 (m + 1) = nI g) (hw : w ≤ y) (e59 : F 59 = nI W) (hW : (F 59 - 2000 + G 79 g).toInt ≤ (F 67).toInt → W + 4 + w ≤ 4000) (g4 : g < 450) (hg : (g : Int) < (F 74).toInt) (e81 : G 81 g = nI w) : PP (cf_X6_step fu F G) (fun _ F1 G1 => ((F 62).toInt ≤ 0 ∧ jTs m 1 F G F1 G1) ∨ (0 < (F 62).toInt ∧ (((F 67).toInt < (F 59 - 2000 + G 79 g).toInt ∧ KX [57, 61, 62, 63, 64, 66] [] F G F1 G1 ∧ F1 61 = 0 ∧ F1 63 = 6 ∧ F1 66 = G 5 (m + 2) ∧ F1 62 = F 62 - 1 ∧ F1 64 = F 64 + 1) ∨ ((F 59 - 2000 + G 79 g).toInt ≤ (F 67).toInt ∧ jCc (m + 3) y W w g F G F1 G1)))) := by
  have l0 : (0 : Int32).toInt = 0 := rfl
  have gI : (nI g).toInt = g := nI_toInt (by omega)
  refine cq_st P (by omega) ?_
  obtain ⟨h57, h56, hx, hm, m8, y8⟩ := P
  rw [c0, cs_9a (by decide)]
  unfold cb_X6_step_134 cf_X6_act cb_X6_act_0
  rw [if_neg (by decide), if_neg (by decide), if_neg (by decide), if_neg (by decide), if_pos rfl]
  unfold cb_X6_act_68 cf_X6_call cb_X6_call_0
  have b1 : jCe (m + 1) y 0 [] (G 54) F G (fup F 57 (nI (m + 1))) G := ⟨KX.f rfl KX.rf, fup_s, hx.f (by decide) (by decide), jSk.rf (by rw [fup_n (by decide)]; exact h56), rfl⟩
  have n57 : ∀ a : Nat, a < 90010 → (fup F 57 (nI a) 57).toInt = a := fun a ha => by rw [fup_s, nI_toInt (by omega)]
  have ff : ∀ a b : Int32, fup (fup F 57 a) 57 b = fup F 57 b := fun a b => by
    funext q
    unfold fup
    by_cases c : q = 57
    · rw [if_pos c, if_pos c]
    · rw [if_neg c, if_neg c, if_neg c]
  rw [Option.bind_assoc, Option.bind_assoc]
  refine PP.bind (cp_nxt (by rw [n57 _ (by omega)]; omega) (by rw [n57 _ (by omega), fup_n (by decide)]; omega)) ?_
  rintro r _ _ ⟨rfl, rfl, rfl⟩
  dsimp only
  rw [fup_s, nI_c _ (by omega), nI_t _ (by omega), ff, c1]
  unfold cb_X6_call_4
  rw [Option.bind_assoc]
  refine PP.bind (cp_nxt (by rw [n57 _ (by omega)]; omega) (by rw [n57 _ (by omega), fup_n (by decide)]; omega)) ?_
  rintro r _ _ ⟨rfl, rfl, rfl⟩
  dsimp only
  rw [fup_s, nI_c _ (by omega), nI_t _ (by omega), ff]
  unfold cb_X6_call_9 cf_X6_takesTurn cb_X6_takesTurn_0
  rw [fup_n (by decide)]
  by_cases c : (0 : Int32) < F 62
  · rw [if_pos c]
    have c := i_lt.mp c
    show PP ((cb_X6_call_26 fu (nI g) (G 5 (m + 1 + 1)) (fup (fup (fup F 57 (nI (m + 1 + 1 + 1))) 62 (fup F 57 (nI (m + 1 + 1 + 1)) 62 - 1)) 64 (fup (fup F 57 (nI (m + 1 + 1 + 1))) 62 (fup F 57 (nI (m + 1 + 1 + 1)) 62 - 1) 64 + 1)) G).bind (fun q => (cb_X6_act_73 fu q.2.1 q.2.2).bind (fun q => cb_X6_step_140 fu q.2.1 q.2.2))) _
    have e62 : fup F 57 (nI (m + 1 + 1 + 1)) 62 = F 62 := fup_n (by decide)
    have e64 : fup (fup F 57 (nI (m + 1 + 1 + 1))) 62 (F 62 - 1) 64 = F 64 := by rw [fup_n (by decide), fup_n (by decide)]
    rw [e62, e64]
    have kE : KX [57, 62, 64] [] F G (fup (fup (fup F 57 (nI (m + 1 + 1 + 1))) 62 (F 62 - 1)) 64 (F 64 + 1)) G := KX.f rfl (KX.f rfl (KX.f rfl KX.rf))
    have w57 : fup (fup (fup F 57 (nI (m + 1 + 1 + 1))) 62 (F 62 - 1)) 64 (F 64 + 1) 57 = nI (m + 3) := by rw [fup_n (by decide), fup_n (by decide), fup_s]
    have w62 : fup (fup (fup F 57 (nI (m + 1 + 1 + 1))) 62 (F 62 - 1)) 64 (F 64 + 1) 62 = F 62 - 1 := by rw [fup_n (by decide), fup_s]
    have w64 : fup (fup (fup F 57 (nI (m + 1 + 1 + 1))) 62 (F 62 - 1)) 64 (F 64 + 1) 64 = F 64 + 1 := fup_s
    have wx : jXn (fup (fup (fup F 57 (nI (m + 1 + 1 + 1))) 62 (F 62 - 1)) 64 (F 64 + 1)) := ((hx.f (by decide) (by decide)).f (by decide) (by decide)).f (by decide) (by decide)
    generalize fup (fup (fup F 57 (nI (m + 1 + 1 + 1))) 62 (F 62 - 1)) 64 (F 64 + 1) = E at kE w57 w62 w64 wx
    unfold cb_X6_call_26 cf_X8_has cb_X8_has_0
    rw [if_neg (fun z => by have := i_lt.mp z; omega)]
    unfold cb_X8_has_4
    rw [if_neg (fun z => by have := i_le.mp z; rw [kE.1 74 rfl] at this; omega)]
    show PP ((cb_X6_call_37 fu (nI g) (G 5 (m + 1 + 1)) E G).bind (fun q => (cb_X6_act_73 fu q.2.1 q.2.2).bind (fun q => cb_X6_step_140 fu q.2.1 q.2.2))) _
    unfold cb_X6_call_37
    rw [Option.bind_assoc]
    refine cq_en (W := W) (w := w) ((kE.1 56 rfl).trans h56) wx y8 hw ((kE.1 59 rfl).trans e59) (fun d => hW (by rw [kE.1 59 rfl, kE.1 67 rfl] at d; exact d)) g4 e81 (fun d F1 G1 k1 k2 k3 k4 k5 k6 k7 => ?_) (fun d => ?_)
    · show PP (some (0, F1, G1)) _
      rw [kE.1 59 rfl, kE.1 67 rfl] at d
      rw [kE.1 58 rfl, w57] at k7
      refine PP.ret (.inr ⟨by omega, .inr ⟨d, KX.tr (kE.sub rfl rfl) k1 rfl rfl, ?_, ?_, k2, k3, k4, k5, k6, k7⟩⟩)
      · rw [k1.1 62 rfl]; exact w62
      · rw [k1.1 64 rfl]; exact w64
    · show PP (some (0, fup (fup (fup E 66 (G 5 (m + 2))) 63 6) 61 0, G)) _
      rw [kE.1 59 rfl, kE.1 67 rfl] at d
      refine PP.ret (.inr ⟨by omega, .inl ⟨d, KX.f rfl (KX.f rfl (KX.f rfl (kE.sub rfl rfl))), fup_s, ?_, ?_, ?_, ?_⟩⟩)
      · rw [fup_n (by decide), fup_s]
      · rw [fup_n (by decide), fup_n (by decide), fup_s]
      · rw [fup_n (by decide), fup_n (by decide), fup_n (by decide)]; exact w62
      · rw [fup_n (by decide), fup_n (by decide), fup_n (by decide)]; exact w64
  · rw [if_neg c]
    have c := mt i_lt.mpr c
    show PP (some (0, fup (fup (fup (fup F 57 (nI (m + 1 + 1 + 1))) 57 (nI m)) 63 1) 61 0, G)) _
    refine PP.ret (.inl ⟨by omega, KX.f rfl (KX.f rfl (KX.f rfl (KX.f rfl KX.rf))), ?_, fup_s, ?_⟩)
    · rw [fup_n (by decide), fup_n (by decide), fup_s]
    · rw [fup_n (by decide), fup_s]
end JQ7
