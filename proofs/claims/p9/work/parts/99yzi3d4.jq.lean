/-- the class stands at word m with y operands, and w words are there -/
def jCp (m y w : Nat) (F : PF) : Prop := F 57 = nI m ∧ F 56 = nI y ∧ jXn F ∧ ((m + w : Nat) : Int) ≤ (F 6).toInt ∧ m < 90000 ∧ y < 400000
section JQ4
variable {fu m y n : Nat} {F F1 Fa : PF} {G G1 Ga : PG} {Q : Int32 → PF → PG → Prop}
theorem cq_push (P : jCp m y 2 F) (c0 : G 5 m = 66) : PP (cf_X6_step fu F G) (fun _ F1 G1 => jCe (m + 2) y 0 [G 5 (m + 1)] (G 54) F G F1 G1) := by
  obtain ⟨h57, h56, hx, hm, m8, y8⟩ := P
  refine jCe.st h57 h56 hx (by omega) (by omega) (fun Fb hb => ?_)
  rw [c0, cs_9m (by decide) (by decide)]
  unfold cb_X6_step_82 cf_X6_move cb_X6_move_0
  rw [if_neg (by decide), if_pos rfl]
  unfold cb_X6_move_44
  rw [Option.bind_assoc]
  refine hb.nx (by omega) (by omega) (fun Fc hc => ?_)
  dsimp only
  unfold cb_X6_move_49
  rw [Option.bind_assoc]
  refine hc.pu _ (by omega) (by show y + 0 < 500000; omega) (fun r Fd Gd hd => ?_)
  show PP (some (0, Fd, Gd)) _
  exact PP.ret hd
theorem cq_copy (P : jCp m y 1 F) (hy : 1 ≤ y) (c0 : G 5 m = 67) : PP (cf_X6_step fu F G) (fun _ F1 G1 => jCe (m + 1) y 1 [G 55 (y - 1), G 55 (y - 1)] (G 54) F G F1 G1) := by
  obtain ⟨h57, h56, hx, hm, m8, y8⟩ := P
  refine jCe.st h57 h56 hx (by omega) (by omega) (fun Fb hb => ?_)
  rw [c0, cs_9m (by decide) (by decide)]
  unfold cb_X6_step_82 cf_X6_move cb_X6_move_0
  rw [if_neg (by decide), if_neg (by decide), if_pos rfl]
  unfold cb_X6_move_55
  rw [Option.bind_assoc]
  refine hb.po (by omega) (by omega) (fun Fc hc => ?_)
  dsimp only
  unfold cb_X6_move_59
  rw [Option.bind_assoc]
  refine hc.pu _ (by omega) (by show y + 0 < 500000; omega) (fun r Fd Gd hd => ?_)
  dsimp only
  unfold cb_X6_move_65
  rw [Option.bind_assoc]
  refine hd.pu _ (by omega) (by show y + 1 < 500000; omega) (fun r Fe Ge he => ?_)
  show PP (some (0, Fe, Ge)) _
  exact PP.ret he
theorem cq_drop (P : jCp m y 1 F) (hy : 1 ≤ y) (c0 : G 5 m = 68) : PP (cf_X6_step fu F G) (fun _ F1 G1 => jCe (m + 1) y 1 [] (G 54) F G F1 G1) := by
  obtain ⟨h57, h56, hx, hm, m8, y8⟩ := P
  refine jCe.st h57 h56 hx (by omega) (by omega) (fun Fb hb => ?_)
  rw [c0, cs_9m (by decide) (by decide)]
  unfold cb_X6_step_82 cf_X6_move cb_X6_move_0
  rw [if_neg (by decide), if_neg (by decide), if_neg (by decide), if_pos rfl]
  unfold cb_X6_move_73
  rw [Option.bind_assoc]
  refine hb.po (by omega) (by omega) (fun Fc hc => ?_)
  show PP (some (0, Fc, G)) _
  exact PP.ret hc
theorem cq_ldg {a : Nat} (P : jCp m y 2 F) (c0 : G 5 m = 69) (c1 : G 5 (m + 1) = nI a) (ha : a < 4000) : PP (cf_X6_step fu F G) (fun _ F1 G1 => jCe (m + 2) y 0 [G 54 a] (G 54) F G F1 G1) := by
  obtain ⟨h57, h56, hx, hm, m8, y8⟩ := P
  refine jCe.st h57 h56 hx (by omega) (by omega) (fun Fb hb => ?_)
  rw [c0, cs_9m (by decide) (by decide)]
  unfold cb_X6_step_82 cf_X6_move cb_X6_move_0
  rw [if_neg (by decide), if_neg (by decide), if_neg (by decide), if_neg (by decide), if_pos rfl]
  unfold cb_X6_move_81
  rw [Option.bind_assoc]
  refine hb.nx (by omega) (by omega) (fun Fc hc => ?_)
  dsimp only
  unfold cb_X6_move_87
  rw [c1, Option.bind_assoc]
  refine hc.he ha ?_
  dsimp only
  unfold cb_X6_move_90
  rw [Option.bind_assoc]
  refine hc.pu _ (by omega) (by show y + 0 < 500000; omega) (fun r Fd Gd hd => ?_)
  show PP (some (0, Fd, Gd)) _
  exact PP.ret hd
theorem nI_ad {a b : Nat} (h : a + b < 2147483648) : nI a + nI b = nI (a + b) := by
  refine i_eq2 ?_
  rw [i_addn (nI a) (n := nI b) (m := b) (nI_toInt (by omega)) (by rw [nI_toInt (by omega)]; omega) (by rw [nI_toInt (by omega)]; omega), nI_toInt (by omega), nI_toInt (by omega)]
  omega
theorem cq_ldl {b a : Nat} (P : jCp m y 2 F) (c0 : G 5 m = 70) (c1 : G 5 (m + 1) = nI a) (e58 : F 58 = nI b) (ha : b + a < 4000) : PP (cf_X6_step fu F G) (fun _ F1 G1 => jCe (m + 2) y 0 [G 54 (b + a)] (G 54) F G F1 G1) := by
  obtain ⟨h57, h56, hx, hm, m8, y8⟩ := P
  refine jCe.st h57 h56 hx (by omega) (by omega) (fun Fb hb => ?_)
  rw [c0, cs_9m (by decide) (by decide)]
  unfold cb_X6_step_82 cf_X6_move cb_X6_move_0
  rw [if_neg (by decide), if_neg (by decide), if_neg (by decide), if_neg (by decide), if_neg (by decide), if_pos rfl]
  unfold cb_X6_move_96
  rw [Option.bind_assoc, hb.1.1 58 rfl, e58]
  refine hb.nx (by omega) (by omega) (fun Fc hc => ?_)
  dsimp only
  unfold cb_X6_move_106
  rw [c1, nI_ad (by omega), Option.bind_assoc]
  refine hc.he ha ?_
  dsimp only
  unfold cb_X6_move_110
  rw [Option.bind_assoc]
  refine hc.pu _ (by omega) (by show y + 0 < 500000; omega) (fun r Fd Gd hd => ?_)
  show PP (some (0, Fd, Gd)) _
  exact PP.ret hd
theorem cq_stg {a : Nat} (P : jCp m y 2 F) (hy : 1 ≤ y) (c0 : G 5 m = 71) (c1 : G 5 (m + 1) = nI a) (ha : a < 4000) : PP (cf_X6_step fu F G) (fun _ F1 G1 => jCe (m + 2) y 1 [] (upd (G 54) a (G 55 (y - 1))) F G F1 G1) := by
  obtain ⟨h57, h56, hx, hm, m8, y8⟩ := P
  refine jCe.st h57 h56 hx (by omega) (by omega) (fun Fb hb => ?_)
  rw [c0, cs_9m (by decide) (by decide)]
  unfold cb_X6_step_82 cf_X6_move cb_X6_move_0
  rw [if_neg (by decide), if_neg (by decide), if_neg (by decide), if_neg (by decide), if_neg (by decide), if_neg (by decide), if_pos rfl]
  unfold cb_X6_move_116
  rw [Option.bind_assoc]
  refine hb.nx (by omega) (by omega) (fun Fc hc => ?_)
  dsimp only
  unfold cb_X6_move_121
  rw [c1, Option.bind_assoc]
  refine hc.po (by omega) (by omega) (fun Fd hd => ?_)
  dsimp only
  unfold cb_X6_move_125
  rw [Option.bind_assoc]
  refine hd.ho ha (fun Ge he => ?_)
  show PP (some (0, Fd, Ge)) _
  exact PP.ret he
theorem cq_stl {b a : Nat} (P : jCp m y 2 F) (hy : 1 ≤ y) (c0 : G 5 m = 72) (c1 : G 5 (m + 1) = nI a) (e58 : F 58 = nI b) (ha : b + a < 4000) : PP (cf_X6_step fu F G) (fun _ F1 G1 => jCe (m + 2) y 1 [] (upd (G 54) (b + a) (G 55 (y - 1))) F G F1 G1) := by
  obtain ⟨h57, h56, hx, hm, m8, y8⟩ := P
  refine jCe.st h57 h56 hx (by omega) (by omega) (fun Fb hb => ?_)
  rw [c0, cs_9m (by decide) (by decide)]
  unfold cb_X6_step_82 cf_X6_move cb_X6_move_0
  rw [if_neg (by decide), if_neg (by decide), if_neg (by decide), if_neg (by decide), if_neg (by decide), if_neg (by decide), if_neg (by decide)]
  unfold cb_X6_move_131
  rw [Option.bind_assoc, hb.1.1 58 rfl, e58]
  refine hb.nx (by omega) (by omega) (fun Fc hc => ?_)
  dsimp only
  unfold cb_X6_move_140
  rw [c1, nI_ad (by omega), Option.bind_assoc]
  refine hc.po (by omega) (by omega) (fun Fd hd => ?_)
  dsimp only
  unfold cb_X6_move_145
  rw [Option.bind_assoc]
  refine hd.ho ha (fun Ge he => ?_)
  show PP (some (0, Fd, Ge)) _
  exact PP.ret he
/-- words a .. a + w - 1 become 0 -/
def jCl (wd : Nat → Int32) (a w : Nat) : Nat → Int32 := fun i => if a ≤ i ∧ i < a + w then 0 else wd i
theorem jCl_0 (wd : Nat → Int32) (a : Nat) : jCl wd a 0 = wd := by
  funext i
  exact if_neg (by omega)
theorem jCl_s (wd : Nat → Int32) (a w : Nat) : upd (jCl wd a w) (a + w) 0 = jCl wd a (w + 1) := by
  funext i
  unfold upd jCl
  by_cases c : i = a + w
  · rw [if_pos c, if_pos (by omega)]
  · rw [if_neg c]
    by_cases d : a ≤ i ∧ i < a + w
    · rw [if_pos d, if_pos (by omega)]
    · rw [if_neg d, if_neg (by omega)]
theorem cq_cl {a w : Nat} {xs : List Int32} {wd : Nat → Int32} (hw : w ≤ 200) (ha : a + w ≤ 4000) {f : Int32 × PF × PG → PR} (k : ∀ Gb : PG, jCe m y n xs (jCl wd a w) F G Fa Gb → PP (f (0, Fa, Gb)) Q) : ∀ (d i : Nat) (Gb : PG), i ≤ w → jCe m y n xs (jCl wd a i) F G Fa Gb → PP ((cl_X6_clear_2 fu d (nI a) (nI w) (nI i) Fa Gb).bind f) Q := by
  intro d
  induction d with
  | zero => intro i Gb _ _; exact PP.no
  | succ d ih =>
    intro i Gb hi h
    have ei : (nI i).toInt = i := nI_toInt (by omega)
    have ew : (nI w).toInt = w := nI_toInt (by omega)
    show PP ((cb_X6_clear_2 fu (cl_X6_clear_2 fu d) (nI a) (nI w) (nI i) Fa Gb).bind f) Q
    unfold cb_X6_clear_2
    by_cases c : i = w
    · rw [if_pos (i_le.mpr (by rw [ei, ew]; omega))]
      rw [c] at h
      exact k Gb h
    · rw [if_neg (fun z => by have := i_le.mp z; rw [ei, ew] at this; omega)]
      unfold cb_X6_clear_7
      rw [if_neg (fun z => by have := i_le.mp z; rw [ei] at this; have : (200 : Int32).toInt = 200 := rfl; omega)]
      unfold cb_X6_clear_14
      rw [nI_ad (by omega), Option.bind_assoc]
      refine h.ho (by omega) (fun Gc hc => ?_)
      dsimp only
      unfold cb_X6_clear_22
      rw [nI_t i (by omega)]
      rw [jCl_s] at hc
      exact ih (i + 1) Gc (by omega) hc
theorem cq_clr {b a w : Nat} (P : jCp m y 3 F) (c0 : G 5 m = 73) (c1 : G 5 (m + 1) = nI a) (c2 : G 5 (m + 2) = nI w) (e58 : F 58 = nI b) (hw : w ≤ 200) (ha : b + a + w ≤ 4000) : PP (cf_X6_step fu F G) (fun _ F1 G1 => jCe (m + 3) y 0 [] (jCl (G 54) (b + a) w) F G F1 G1) := by
  obtain ⟨h57, h56, hx, hm, m8, y8⟩ := P
  refine jCe.st h57 h56 hx (by omega) (by omega) (fun Fb hb => ?_)
  rw [c0, cs_9m (by decide) (by decide)]
  unfold cb_X6_step_82 cf_X6_move cb_X6_move_0
  rw [if_pos (by decide)]
  unfold cb_X6_move_151
  rw [Option.bind_assoc, hb.1.1 58 rfl, e58]
  refine hb.nx (by omega) (by omega) (fun Fc hc => ?_)
  dsimp only
  unfold cb_X6_move_160
  rw [c1, nI_ad (by omega), Option.bind_assoc]
  refine hc.nx (by omega) (by omega) (fun Fd hd => ?_)
  dsimp only
  unfold cb_X6_move_165 cf_X6_clear cb_X6_clear_0
  rw [c2, Option.bind_assoc]
  refine cq_cl hw (by omega) (fun Ge he => ?_) fu 0 G (Nat.zero_le _) (by rw [jCl_0]; exact hd)
  show PP (some (0, Fd, Ge)) _
  exact PP.ret he
end JQ4
