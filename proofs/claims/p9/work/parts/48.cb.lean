section MB
variable {p : Program} {l : Launch} {e : Env} {R : Room} {s : State} {m : MethodId} {args : Array Value} {below : List Frame} {meth : Method} {c : Code} {H : Heap} {locs : List Loc} {Q : State → Prop} {A : Nat → Prop} {v : EV} {a : Nat → Nat} {b ce : Nat} {own : String} {cc : ByteArray} {nL fr lo : Nat} {K0 : PF}
def cS1 (fu : Nat) : Nat → RC
  | 0 => fun _ _ _ _ _ => none
  | n + 1 => fun i x y F G => if i = 0 then ch_X3_call fu (cS1 fu n) x y F G else if i = 1 then ch_X3_expression fu (cS1 fu n) F G else if i = 2 then ch_X3_index fu (cS1 fu n) x F G else if i = 3 then ch_X3_joinedOperands fu (cS1 fu n) F G else if i = 4 then ch_X3_named fu (cS1 fu n) F G else if i = 5 then ch_X3_operand fu (cS1 fu n) F G else none
theorem cS1_mono (fu : Nat) : ∀ (d i : Nat) (x y : Int32) (F : PF) (G : PG) (q : Int32 × PF × PG), cS1 fu d i x y F G = some q → xn F ≤ xn q.2.1 := by
  intro d
  induction d with
  | zero => exact fun i x y F G q h => no_elim h
  | succ n ih =>
    intro i x y F G q h
    have h : (if i = 0 then ch_X3_call fu (cS1 fu n) x y F G else if i = 1 then ch_X3_expression fu (cS1 fu n) F G else if i = 2 then ch_X3_index fu (cS1 fu n) x F G else if i = 3 then ch_X3_joinedOperands fu (cS1 fu n) F G else if i = 4 then ch_X3_named fu (cS1 fu n) F G else if i = 5 then ch_X3_operand fu (cS1 fu n) F G else none : PR) = some q := h
    by_cases c_0 : i = 0
    · have h := (if_pos c_0).symm.trans h
      exact cm_X3_call fu (cS1 fu n) ih x y F G q h
    have h := (if_neg c_0).symm.trans h
    by_cases c_1 : i = 1
    · have h := (if_pos c_1).symm.trans h
      exact cm_X3_expression fu (cS1 fu n) ih F G q h
    have h := (if_neg c_1).symm.trans h
    by_cases c_2 : i = 2
    · have h := (if_pos c_2).symm.trans h
      exact cm_X3_index fu (cS1 fu n) ih x F G q h
    have h := (if_neg c_2).symm.trans h
    by_cases c_3 : i = 3
    · have h := (if_pos c_3).symm.trans h
      exact cm_X3_joinedOperands fu (cS1 fu n) ih F G q h
    have h := (if_neg c_3).symm.trans h
    by_cases c_4 : i = 4
    · have h := (if_pos c_4).symm.trans h
      exact cm_X3_named fu (cS1 fu n) ih F G q h
    have h := (if_neg c_4).symm.trans h
    by_cases c_5 : i = 5
    · have h := (if_pos c_5).symm.trans h
      exact cm_X3_operand fu (cS1 fu n) ih F G q h
    have h := (if_neg c_5).symm.trans h
    exact no_elim h
theorem cS1_all (l : Launch) (v : EV) (a : Nat → Nat) (fu : Nat) : ∀ dd : Nat, cH1 l v a (cS1 fu dd) dd := by
  intro dd
  induction dd with
  | zero =>
    refine ⟨fun b sz x y F G r F1 G1 h => no_elim h, fun b sz F G r F1 G1 h => no_elim h, fun b sz x F G r F1 G1 h => no_elim h, fun b sz F G r F1 G1 h => no_elim h, fun b sz F G r F1 G1 h => no_elim h, fun b sz F G r F1 G1 h => no_elim h⟩
  | succ dd ih =>
    exact ⟨fun b sz x y F G r F1 G1 h => cq_X3_call l v a b sz fu (cS1 fu dd) ih (cS1_mono fu dd) x y F G r F1 G1 h, fun b sz F G r F1 G1 h => cq_X3_expression l v a b sz fu (cS1 fu dd) ih (cS1_mono fu dd) F G r F1 G1 h, fun b sz x F G r F1 G1 h => cq_X3_index l v a b sz fu (cS1 fu dd) ih (cS1_mono fu dd) x F G r F1 G1 h, fun b sz F G r F1 G1 h => cq_X3_joinedOperands l v a b sz fu (cS1 fu dd) ih (cS1_mono fu dd) F G r F1 G1 h, fun b sz F G r F1 G1 h => cq_X3_named l v a b sz fu (cS1 fu dd) ih (cS1_mono fu dd) F G r F1 G1 h, fun b sz F G r F1 G1 h => cq_X3_operand l v a b sz fu (cS1 fu dd) ih (cS1_mono fu dd) F G r F1 G1 h⟩
def cf_X3_call (fu : Nat) (x : Int32) (y : Int32) (F : PF) (G : PG) : PR := cS1 fu 300 0 x y F G
theorem ck_X3_call (l : Launch) (v : EV) (a : Nat → Nat) (b sz : Nat) (fu : Nat) (x : Int32) (y : Int32) (F : PF) (G : PG) (r : Int32) (F1 : PF) (G1 : PG) (hm : cf_X3_call fu x y F G = some (r, F1, G1)) : cMV l yX3_call cX3_call 10 302 18049 v a b sz [.ref (a 203), .int x, .int y] F G F1 G1 := (cS1_all l v a fu 300).1 b sz x y F G r F1 G1 hm
theorem cn_X3_call (fu : Nat) (x : Int32) (y : Int32) (F : PF) (G : PG) (q : Int32 × PF × PG) (hm : cf_X3_call fu x y F G = some q) : xn F ≤ xn q.2.1 := cS1_mono fu 300 _ _ _ F G q hm
def cf_X3_expression (fu : Nat) (F : PF) (G : PG) : PR := cS1 fu 300 1 0 0 F G
theorem ck_X3_expression (l : Launch) (v : EV) (a : Nat → Nat) (b sz : Nat) (fu : Nat) (F : PF) (G : PG) (r : Int32) (F1 : PF) (G1 : PG) (hm : cf_X3_expression fu F G = some (r, F1, G1)) : cMV l yX3_expression cX3_expression 3 302 18049 v a b sz [.ref (a 203)] F G F1 G1 := (cS1_all l v a fu 300).2.1 b sz F G r F1 G1 hm
theorem cn_X3_expression (fu : Nat) (F : PF) (G : PG) (q : Int32 × PF × PG) (hm : cf_X3_expression fu F G = some q) : xn F ≤ xn q.2.1 := cS1_mono fu 300 _ _ _ F G q hm
def cf_X3_index (fu : Nat) (x : Int32) (F : PF) (G : PG) : PR := cS1 fu 300 2 x 0 F G
theorem ck_X3_index (l : Launch) (v : EV) (a : Nat → Nat) (b sz : Nat) (fu : Nat) (x : Int32) (F : PF) (G : PG) (r : Int32) (F1 : PF) (G1 : PG) (hm : cf_X3_index fu x F G = some (r, F1, G1)) : cMV l yX3_index cX3_index 4 302 18049 v a b sz [.ref (a 203), .int x] F G F1 G1 := (cS1_all l v a fu 300).2.2.1 b sz x F G r F1 G1 hm
theorem cn_X3_index (fu : Nat) (x : Int32) (F : PF) (G : PG) (q : Int32 × PF × PG) (hm : cf_X3_index fu x F G = some q) : xn F ≤ xn q.2.1 := cS1_mono fu 300 _ _ _ F G q hm
def cf_X3_joinedOperands (fu : Nat) (F : PF) (G : PG) : PR := cS1 fu 300 3 0 0 F G
theorem ck_X3_joinedOperands (l : Launch) (v : EV) (a : Nat → Nat) (b sz : Nat) (fu : Nat) (F : PF) (G : PG) (r : Int32) (F1 : PF) (G1 : PG) (hm : cf_X3_joinedOperands fu F G = some (r, F1, G1)) : cMV l yX3_joinedOperands cX3_joinedOperands 5 302 18049 v a b sz [.ref (a 203)] F G F1 G1 := (cS1_all l v a fu 300).2.2.2.1 b sz F G r F1 G1 hm
theorem cn_X3_joinedOperands (fu : Nat) (F : PF) (G : PG) (q : Int32 × PF × PG) (hm : cf_X3_joinedOperands fu F G = some q) : xn F ≤ xn q.2.1 := cS1_mono fu 300 _ _ _ F G q hm
def cf_X3_named (fu : Nat) (F : PF) (G : PG) : PR := cS1 fu 300 4 0 0 F G
theorem ck_X3_named (l : Launch) (v : EV) (a : Nat → Nat) (b sz : Nat) (fu : Nat) (F : PF) (G : PG) (r : Int32) (F1 : PF) (G1 : PG) (hm : cf_X3_named fu F G = some (r, F1, G1)) : cMV l yX3_named cX3_named 3 302 18049 v a b sz [.ref (a 203)] F G F1 G1 := (cS1_all l v a fu 300).2.2.2.2.1 b sz F G r F1 G1 hm
theorem cn_X3_named (fu : Nat) (F : PF) (G : PG) (q : Int32 × PF × PG) (hm : cf_X3_named fu F G = some q) : xn F ≤ xn q.2.1 := cS1_mono fu 300 _ _ _ F G q hm
def cf_X3_operand (fu : Nat) (F : PF) (G : PG) : PR := cS1 fu 300 5 0 0 F G
theorem ck_X3_operand (l : Launch) (v : EV) (a : Nat → Nat) (b sz : Nat) (fu : Nat) (F : PF) (G : PG) (r : Int32) (F1 : PF) (G1 : PG) (hm : cf_X3_operand fu F G = some (r, F1, G1)) : cMV l yX3_operand cX3_operand 1 302 18049 v a b sz [.ref (a 203)] F G F1 G1 := (cS1_all l v a fu 300).2.2.2.2.2 b sz F G r F1 G1 hm
theorem cn_X3_operand (fu : Nat) (F : PF) (G : PG) (q : Int32 × PF × PG) (hm : cf_X3_operand fu F G = some q) : xn F ≤ xn q.2.1 := cS1_mono fu 300 _ _ _ F G q hm
def cb_X6_changed_28 (fu : Nat) (x1 : Int32) (F : PF) (G : PG) : PR := some ((x1 ^^^ (-1 : Int32)), F, G)
def cb_X6_changed_44 (fu : Nat) (z0 : Int32) (F : PF) (G : PG) : PR := some (z0, F, G)
def cb_X6_changed_41 (fu : Nat) (z0 : Int32) (F : PF) (G : PG) : PR := (cf_X11_truth fu z0 F G).bind (fun q => cb_X6_changed_44 fu q.1 q.2.1 q.2.2)
def cb_X6_changed_40 (fu : Nat) (F : PF) (G : PG) : PR := cb_X6_changed_41 fu 0 F G
def cb_X6_changed_36 (fu : Nat) (F : PF) (G : PG) : PR := cb_X6_changed_41 fu 1 F G
def cb_X6_changed_32 (fu : Nat) (x1 : Int32) (F : PF) (G : PG) : PR := if x1 = (0 : Int32) then cb_X6_changed_36 fu F G else cb_X6_changed_40 fu F G
def cb_X6_changed_45 (fu : Nat) (x1 : Int32) (F : PF) (G : PG) : PR := some ((-x1), F, G)
def cb_X6_changed_60 (fu : Nat) (z0 : Int32) (F : PF) (G : PG) : PR := some (z0, F, G)
def cb_X6_changed_57 (fu : Nat) (z0 : Int32) (F : PF) (G : PG) : PR := (cf_X11_truth fu z0 F G).bind (fun q => cb_X6_changed_60 fu q.1 q.2.1 q.2.2)
def cb_X6_changed_56 (fu : Nat) (F : PF) (G : PG) : PR := cb_X6_changed_57 fu 0 F G
def cb_X6_changed_52 (fu : Nat) (F : PF) (G : PG) : PR := cb_X6_changed_57 fu 1 F G
def cb_X6_changed_48 (fu : Nat) (x1 : Int32) (F : PF) (G : PG) : PR := if x1 = (0 : Int32) then cb_X6_changed_56 fu F G else cb_X6_changed_52 fu F G
def cb_X6_changed_0 (fu : Nat) (x0 : Int32) (x1 : Int32) (F : PF) (G : PG) : PR := if x0.toInt < 62 ∨ 64 < x0.toInt then cb_X6_changed_48 fu x1 F G else if x0 = 62 then cb_X6_changed_28 fu x1 F G else if x0 = 63 then cb_X6_changed_32 fu x1 F G else cb_X6_changed_45 fu x1 F G
def cf_X6_changed (fu : Nat) (x0 : Int32) (x1 : Int32) (F : PF) (G : PG) : PR := cb_X6_changed_0 fu x0 x1 F G
theorem cn_X6_changed_28 (fu : Nat) {res : Int32 × PF × PG} (x1 : Int32) (F : PF) (G : PG) (hm : cb_X6_changed_28 fu x1 F G = some res) : xn F ≤ xn res.2.1 := by
  unfold cb_X6_changed_28 at hm
  obtain rfl := Option.some.inj hm
  exact Nat.le_refl _
theorem cw_X6_changed_28 (fu : Nat) {res : Int32 × PF × PG} (C : cMC p R s m args c A v RX6 cX6_changed 2 1 20 (xn res.2.1 - xn K0)) (hret : ∀ (b1 : Nat) (H1 : Heap) (locs1 : List Loc) (ls1 : Array Slot) (pc : Nat), cMW s A v a b1 K0 res.2.1 res.2.2 H1 locs1 → narrow .int (.int res.1) = .int res.1 → decode cX6_changed pc = .ok (.ireturn, 1) → W p l e R s m args below meth c H1 locs1 (xn res.2.1 - xn K0) (2 * (xn res.2.1 - xn K0)) Q (F0 m pc ls1 [.int res.1])) (x1 : Int32) (F : PF) (G : PG) (hm : cb_X6_changed_28 fu x1 F G = some res) {b : Nat} {H : Heap} {locs : List Loc} (hw : cMW s A v a b K0 F G H locs) {ls : Array Slot} (hl : lv_has ls 2 [(1, .int x1)]) : W p l e R s m args below meth c H locs (xn F - xn K0) (2 * (xn F - xn K0)) Q (F0 m 28 ls []) := by
  have hx := C.1
  have hb := C.2.1
  unfold cb_X6_changed_28 at hm
  refine lv_iload_n hx hb dX6_changed_28 rfl (lv_at hl 0 rfl) ?_
  refine lv_iconst (v := (-1)) hx hb dX6_changed_29 (by decide) ?_
  refine lv_ixor hx hb dX6_changed_30 ?_
  obtain rfl := Option.some.inj hm
  exact hret _ _ _ _ _ hw rfl dX6_changed_31
theorem cn_X6_changed_44 (fu : Nat) {res : Int32 × PF × PG} (z0 : Int32) (F : PF) (G : PG) (hm : cb_X6_changed_44 fu z0 F G = some res) : xn F ≤ xn res.2.1 := by
  unfold cb_X6_changed_44 at hm
  obtain rfl := Option.some.inj hm
  exact Nat.le_refl _
theorem cw_X6_changed_44 (fu : Nat) {res : Int32 × PF × PG} (C : cMC p R s m args c A v RX6 cX6_changed 2 1 20 (xn res.2.1 - xn K0)) (hret : ∀ (b1 : Nat) (H1 : Heap) (locs1 : List Loc) (ls1 : Array Slot) (pc : Nat), cMW s A v a b1 K0 res.2.1 res.2.2 H1 locs1 → narrow .int (.int res.1) = .int res.1 → decode cX6_changed pc = .ok (.ireturn, 1) → W p l e R s m args below meth c H1 locs1 (xn res.2.1 - xn K0) (2 * (xn res.2.1 - xn K0)) Q (F0 m pc ls1 [.int res.1])) (z0 : Int32) (F : PF) (G : PG) (hm : cb_X6_changed_44 fu z0 F G = some res) {b : Nat} {H : Heap} {locs : List Loc} (hw : cMW s A v a b K0 F G H locs) {ls : Array Slot} (hl : lv_has ls 2 []) : W p l e R s m args below meth c H locs (xn F - xn K0) (2 * (xn F - xn K0)) Q (F0 m 44 ls [.int z0]) := by
  have hx := C.1
  have hb := C.2.1
  unfold cb_X6_changed_44 at hm
  obtain rfl := Option.some.inj hm
  exact hret _ _ _ _ _ hw rfl dX6_changed_44
theorem cn_X6_changed_41 (fu : Nat) {res : Int32 × PF × PG} (z0 : Int32) (F : PF) (G : PG) (hm : cb_X6_changed_41 fu z0 F G = some res) : xn F ≤ xn res.2.1 := by
  unfold cb_X6_changed_41 at hm
  obtain ⟨⟨r1, F1, G1⟩, hc, hm⟩ := bind_elim hm
  exact Nat.le_trans (cn_X11_truth fu z0 F G _ hc) (cn_X6_changed_44 fu r1 F1 G1 hm)
theorem cw_X6_changed_41 (fu : Nat) {res : Int32 × PF × PG} (C : cMC p R s m args c A v RX6 cX6_changed 2 1 20 (xn res.2.1 - xn K0)) (hret : ∀ (b1 : Nat) (H1 : Heap) (locs1 : List Loc) (ls1 : Array Slot) (pc : Nat), cMW s A v a b1 K0 res.2.1 res.2.2 H1 locs1 → narrow .int (.int res.1) = .int res.1 → decode cX6_changed pc = .ok (.ireturn, 1) → W p l e R s m args below meth c H1 locs1 (xn res.2.1 - xn K0) (2 * (xn res.2.1 - xn K0)) Q (F0 m pc ls1 [.int res.1])) (z0 : Int32) (F : PF) (G : PG) (hm : cb_X6_changed_41 fu z0 F G = some res) {b : Nat} {H : Heap} {locs : List Loc} (hw : cMW s A v a b K0 F G H locs) {ls : Array Slot} (hl : lv_has ls 2 []) : W p l e R s m args below meth c H locs (xn F - xn K0) (2 * (xn F - xn K0)) Q (F0 m 41 ls [.int z0]) := by
  have hx := C.1
  have hb := C.2.1
  unfold cb_X6_changed_41 at hm
  obtain ⟨⟨r1, F1, G1⟩, hc, hm⟩ := bind_elim hm
  refine ccallIN (n := 1) (As := [.int z0]) (rest := []) C hw (ck_X11_truth l v a _ _ fu z0 F G r1 F1 G1 hc) (cn_X11_truth fu z0 F G _ hc) (Nat.sub_le_sub_right (cn_X6_changed_44 fu r1 F1 G1 hm) _) C.2.2.2.2.2.2.2.2.2.1.2.2.2.2.2.2.2.2.2.2.2.2.2.2.2.2.2.2.2.2.2.2.2.1 cm_562 cm_563 cm_564 (by decide +kernel) rfl (by omega) (by omega) hl.1 rfl (Nat.le_of_ble_eq_true rfl) dX6_changed_41 (fun b H locs hw => ?_)
  exact cw_X6_changed_44 fu C hret r1 F1 G1 hm hw (lv_sub hl [] rfl)
theorem cn_X6_changed_40 (fu : Nat) {res : Int32 × PF × PG} (F : PF) (G : PG) (hm : cb_X6_changed_40 fu F G = some res) : xn F ≤ xn res.2.1 := by
  unfold cb_X6_changed_40 at hm
  exact (cn_X6_changed_41 fu 0 F G hm)
theorem cw_X6_changed_40 (fu : Nat) {res : Int32 × PF × PG} (C : cMC p R s m args c A v RX6 cX6_changed 2 1 20 (xn res.2.1 - xn K0)) (hret : ∀ (b1 : Nat) (H1 : Heap) (locs1 : List Loc) (ls1 : Array Slot) (pc : Nat), cMW s A v a b1 K0 res.2.1 res.2.2 H1 locs1 → narrow .int (.int res.1) = .int res.1 → decode cX6_changed pc = .ok (.ireturn, 1) → W p l e R s m args below meth c H1 locs1 (xn res.2.1 - xn K0) (2 * (xn res.2.1 - xn K0)) Q (F0 m pc ls1 [.int res.1])) (F : PF) (G : PG) (hm : cb_X6_changed_40 fu F G = some res) {b : Nat} {H : Heap} {locs : List Loc} (hw : cMW s A v a b K0 F G H locs) {ls : Array Slot} (hl : lv_has ls 2 []) : W p l e R s m args below meth c H locs (xn F - xn K0) (2 * (xn F - xn K0)) Q (F0 m 40 ls []) := by
  have hx := C.1
  have hb := C.2.1
  unfold cb_X6_changed_40 at hm
  refine lv_iconst (v := 0) hx hb dX6_changed_40 (by decide) ?_
  exact cw_X6_changed_41 fu C hret 0 F G hm hw (lv_sub hl [] rfl)
theorem cn_X6_changed_36 (fu : Nat) {res : Int32 × PF × PG} (F : PF) (G : PG) (hm : cb_X6_changed_36 fu F G = some res) : xn F ≤ xn res.2.1 := by
  unfold cb_X6_changed_36 at hm
  exact (cn_X6_changed_41 fu 1 F G hm)
theorem cw_X6_changed_36 (fu : Nat) {res : Int32 × PF × PG} (C : cMC p R s m args c A v RX6 cX6_changed 2 1 20 (xn res.2.1 - xn K0)) (hret : ∀ (b1 : Nat) (H1 : Heap) (locs1 : List Loc) (ls1 : Array Slot) (pc : Nat), cMW s A v a b1 K0 res.2.1 res.2.2 H1 locs1 → narrow .int (.int res.1) = .int res.1 → decode cX6_changed pc = .ok (.ireturn, 1) → W p l e R s m args below meth c H1 locs1 (xn res.2.1 - xn K0) (2 * (xn res.2.1 - xn K0)) Q (F0 m pc ls1 [.int res.1])) (F : PF) (G : PG) (hm : cb_X6_changed_36 fu F G = some res) {b : Nat} {H : Heap} {locs : List Loc} (hw : cMW s A v a b K0 F G H locs) {ls : Array Slot} (hl : lv_has ls 2 []) : W p l e R s m args below meth c H locs (xn F - xn K0) (2 * (xn F - xn K0)) Q (F0 m 36 ls []) := by
  have hx := C.1
  have hb := C.2.1
  unfold cb_X6_changed_36 at hm
  refine lv_iconst (v := 1) hx hb dX6_changed_36 (by decide) ?_
  refine lv_goto (tgt := 41) hx hb dX6_changed_37 (by decide) ?_
  exact cw_X6_changed_41 fu C hret 1 F G hm hw (lv_sub hl [] rfl)
theorem cn_X6_changed_32 (fu : Nat) {res : Int32 × PF × PG} (x1 : Int32) (F : PF) (G : PG) (hm : cb_X6_changed_32 fu x1 F G = some res) : xn F ≤ xn res.2.1 := by
  unfold cb_X6_changed_32 at hm
  by_cases c_1 : x1 = (0 : Int32)
  · have hm := (if_pos c_1).symm.trans hm
    exact (cn_X6_changed_36 fu F G hm)
  · have hm := (if_neg c_1).symm.trans hm
    exact (cn_X6_changed_40 fu F G hm)
theorem cw_X6_changed_32 (fu : Nat) {res : Int32 × PF × PG} (C : cMC p R s m args c A v RX6 cX6_changed 2 1 20 (xn res.2.1 - xn K0)) (hret : ∀ (b1 : Nat) (H1 : Heap) (locs1 : List Loc) (ls1 : Array Slot) (pc : Nat), cMW s A v a b1 K0 res.2.1 res.2.2 H1 locs1 → narrow .int (.int res.1) = .int res.1 → decode cX6_changed pc = .ok (.ireturn, 1) → W p l e R s m args below meth c H1 locs1 (xn res.2.1 - xn K0) (2 * (xn res.2.1 - xn K0)) Q (F0 m pc ls1 [.int res.1])) (x1 : Int32) (F : PF) (G : PG) (hm : cb_X6_changed_32 fu x1 F G = some res) {b : Nat} {H : Heap} {locs : List Loc} (hw : cMW s A v a b K0 F G H locs) {ls : Array Slot} (hl : lv_has ls 2 [(1, .int x1)]) : W p l e R s m args below meth c H locs (xn F - xn K0) (2 * (xn F - xn K0)) Q (F0 m 32 ls []) := by
  have hx := C.1
  have hb := C.2.1
  unfold cb_X6_changed_32 at hm
  refine lv_iload_n hx hb dX6_changed_32 rfl (lv_at hl 0 rfl) ?_
  refine lv_if_ne (tgt := 40) hx hb dX6_changed_33 (by decide) (fun c_1 => ?_) (fun c_1 => ?_)
  · have hm := (if_neg c_1).symm.trans hm
    exact cw_X6_changed_40 fu C hret F G hm hw (lv_sub hl [] rfl)
  · have hm := (if_pos c_1).symm.trans hm
    exact cw_X6_changed_36 fu C hret F G hm hw (lv_sub hl [] rfl)
theorem cn_X6_changed_45 (fu : Nat) {res : Int32 × PF × PG} (x1 : Int32) (F : PF) (G : PG) (hm : cb_X6_changed_45 fu x1 F G = some res) : xn F ≤ xn res.2.1 := by
  unfold cb_X6_changed_45 at hm
  obtain rfl := Option.some.inj hm
  exact Nat.le_refl _
theorem cw_X6_changed_45 (fu : Nat) {res : Int32 × PF × PG} (C : cMC p R s m args c A v RX6 cX6_changed 2 1 20 (xn res.2.1 - xn K0)) (hret : ∀ (b1 : Nat) (H1 : Heap) (locs1 : List Loc) (ls1 : Array Slot) (pc : Nat), cMW s A v a b1 K0 res.2.1 res.2.2 H1 locs1 → narrow .int (.int res.1) = .int res.1 → decode cX6_changed pc = .ok (.ireturn, 1) → W p l e R s m args below meth c H1 locs1 (xn res.2.1 - xn K0) (2 * (xn res.2.1 - xn K0)) Q (F0 m pc ls1 [.int res.1])) (x1 : Int32) (F : PF) (G : PG) (hm : cb_X6_changed_45 fu x1 F G = some res) {b : Nat} {H : Heap} {locs : List Loc} (hw : cMW s A v a b K0 F G H locs) {ls : Array Slot} (hl : lv_has ls 2 [(1, .int x1)]) : W p l e R s m args below meth c H locs (xn F - xn K0) (2 * (xn F - xn K0)) Q (F0 m 45 ls []) := by
  have hx := C.1
  have hb := C.2.1
  unfold cb_X6_changed_45 at hm
  refine lv_iload_n hx hb dX6_changed_45 rfl (lv_at hl 0 rfl) ?_
  refine lv_ineg hx hb dX6_changed_46 ?_
  obtain rfl := Option.some.inj hm
  exact hret _ _ _ _ _ hw rfl dX6_changed_47
theorem cn_X6_changed_60 (fu : Nat) {res : Int32 × PF × PG} (z0 : Int32) (F : PF) (G : PG) (hm : cb_X6_changed_60 fu z0 F G = some res) : xn F ≤ xn res.2.1 := by
  unfold cb_X6_changed_60 at hm
  obtain rfl := Option.some.inj hm
  exact Nat.le_refl _
theorem cw_X6_changed_60 (fu : Nat) {res : Int32 × PF × PG} (C : cMC p R s m args c A v RX6 cX6_changed 2 1 20 (xn res.2.1 - xn K0)) (hret : ∀ (b1 : Nat) (H1 : Heap) (locs1 : List Loc) (ls1 : Array Slot) (pc : Nat), cMW s A v a b1 K0 res.2.1 res.2.2 H1 locs1 → narrow .int (.int res.1) = .int res.1 → decode cX6_changed pc = .ok (.ireturn, 1) → W p l e R s m args below meth c H1 locs1 (xn res.2.1 - xn K0) (2 * (xn res.2.1 - xn K0)) Q (F0 m pc ls1 [.int res.1])) (z0 : Int32) (F : PF) (G : PG) (hm : cb_X6_changed_60 fu z0 F G = some res) {b : Nat} {H : Heap} {locs : List Loc} (hw : cMW s A v a b K0 F G H locs) {ls : Array Slot} (hl : lv_has ls 2 []) : W p l e R s m args below meth c H locs (xn F - xn K0) (2 * (xn F - xn K0)) Q (F0 m 60 ls [.int z0]) := by
  have hx := C.1
  have hb := C.2.1
  unfold cb_X6_changed_60 at hm
  obtain rfl := Option.some.inj hm
  exact hret _ _ _ _ _ hw rfl dX6_changed_60
theorem cn_X6_changed_57 (fu : Nat) {res : Int32 × PF × PG} (z0 : Int32) (F : PF) (G : PG) (hm : cb_X6_changed_57 fu z0 F G = some res) : xn F ≤ xn res.2.1 := by
  unfold cb_X6_changed_57 at hm
  obtain ⟨⟨r1, F1, G1⟩, hc, hm⟩ := bind_elim hm
  exact Nat.le_trans (cn_X11_truth fu z0 F G _ hc) (cn_X6_changed_60 fu r1 F1 G1 hm)
theorem cw_X6_changed_57 (fu : Nat) {res : Int32 × PF × PG} (C : cMC p R s m args c A v RX6 cX6_changed 2 1 20 (xn res.2.1 - xn K0)) (hret : ∀ (b1 : Nat) (H1 : Heap) (locs1 : List Loc) (ls1 : Array Slot) (pc : Nat), cMW s A v a b1 K0 res.2.1 res.2.2 H1 locs1 → narrow .int (.int res.1) = .int res.1 → decode cX6_changed pc = .ok (.ireturn, 1) → W p l e R s m args below meth c H1 locs1 (xn res.2.1 - xn K0) (2 * (xn res.2.1 - xn K0)) Q (F0 m pc ls1 [.int res.1])) (z0 : Int32) (F : PF) (G : PG) (hm : cb_X6_changed_57 fu z0 F G = some res) {b : Nat} {H : Heap} {locs : List Loc} (hw : cMW s A v a b K0 F G H locs) {ls : Array Slot} (hl : lv_has ls 2 []) : W p l e R s m args below meth c H locs (xn F - xn K0) (2 * (xn F - xn K0)) Q (F0 m 57 ls [.int z0]) := by
  have hx := C.1
  have hb := C.2.1
  unfold cb_X6_changed_57 at hm
  obtain ⟨⟨r1, F1, G1⟩, hc, hm⟩ := bind_elim hm
  refine ccallIN (n := 1) (As := [.int z0]) (rest := []) C hw (ck_X11_truth l v a _ _ fu z0 F G r1 F1 G1 hc) (cn_X11_truth fu z0 F G _ hc) (Nat.sub_le_sub_right (cn_X6_changed_60 fu r1 F1 G1 hm) _) C.2.2.2.2.2.2.2.2.2.1.2.2.2.2.2.2.2.2.2.2.2.2.2.2.2.2.2.2.2.2.2.2.2.1 cm_562 cm_563 cm_564 (by decide +kernel) rfl (by omega) (by omega) hl.1 rfl (Nat.le_of_ble_eq_true rfl) dX6_changed_57 (fun b H locs hw => ?_)
  exact cw_X6_changed_60 fu C hret r1 F1 G1 hm hw (lv_sub hl [] rfl)
theorem cn_X6_changed_56 (fu : Nat) {res : Int32 × PF × PG} (F : PF) (G : PG) (hm : cb_X6_changed_56 fu F G = some res) : xn F ≤ xn res.2.1 := by
  unfold cb_X6_changed_56 at hm
  exact (cn_X6_changed_57 fu 0 F G hm)
theorem cw_X6_changed_56 (fu : Nat) {res : Int32 × PF × PG} (C : cMC p R s m args c A v RX6 cX6_changed 2 1 20 (xn res.2.1 - xn K0)) (hret : ∀ (b1 : Nat) (H1 : Heap) (locs1 : List Loc) (ls1 : Array Slot) (pc : Nat), cMW s A v a b1 K0 res.2.1 res.2.2 H1 locs1 → narrow .int (.int res.1) = .int res.1 → decode cX6_changed pc = .ok (.ireturn, 1) → W p l e R s m args below meth c H1 locs1 (xn res.2.1 - xn K0) (2 * (xn res.2.1 - xn K0)) Q (F0 m pc ls1 [.int res.1])) (F : PF) (G : PG) (hm : cb_X6_changed_56 fu F G = some res) {b : Nat} {H : Heap} {locs : List Loc} (hw : cMW s A v a b K0 F G H locs) {ls : Array Slot} (hl : lv_has ls 2 []) : W p l e R s m args below meth c H locs (xn F - xn K0) (2 * (xn F - xn K0)) Q (F0 m 56 ls []) := by
  have hx := C.1
  have hb := C.2.1
  unfold cb_X6_changed_56 at hm
  refine lv_iconst (v := 0) hx hb dX6_changed_56 (by decide) ?_
  exact cw_X6_changed_57 fu C hret 0 F G hm hw (lv_sub hl [] rfl)
theorem cn_X6_changed_52 (fu : Nat) {res : Int32 × PF × PG} (F : PF) (G : PG) (hm : cb_X6_changed_52 fu F G = some res) : xn F ≤ xn res.2.1 := by
  unfold cb_X6_changed_52 at hm
  exact (cn_X6_changed_57 fu 1 F G hm)
theorem cw_X6_changed_52 (fu : Nat) {res : Int32 × PF × PG} (C : cMC p R s m args c A v RX6 cX6_changed 2 1 20 (xn res.2.1 - xn K0)) (hret : ∀ (b1 : Nat) (H1 : Heap) (locs1 : List Loc) (ls1 : Array Slot) (pc : Nat), cMW s A v a b1 K0 res.2.1 res.2.2 H1 locs1 → narrow .int (.int res.1) = .int res.1 → decode cX6_changed pc = .ok (.ireturn, 1) → W p l e R s m args below meth c H1 locs1 (xn res.2.1 - xn K0) (2 * (xn res.2.1 - xn K0)) Q (F0 m pc ls1 [.int res.1])) (F : PF) (G : PG) (hm : cb_X6_changed_52 fu F G = some res) {b : Nat} {H : Heap} {locs : List Loc} (hw : cMW s A v a b K0 F G H locs) {ls : Array Slot} (hl : lv_has ls 2 []) : W p l e R s m args below meth c H locs (xn F - xn K0) (2 * (xn F - xn K0)) Q (F0 m 52 ls []) := by
  have hx := C.1
  have hb := C.2.1
  unfold cb_X6_changed_52 at hm
  refine lv_iconst (v := 1) hx hb dX6_changed_52 (by decide) ?_
  refine lv_goto (tgt := 57) hx hb dX6_changed_53 (by decide) ?_
  exact cw_X6_changed_57 fu C hret 1 F G hm hw (lv_sub hl [] rfl)
theorem cn_X6_changed_48 (fu : Nat) {res : Int32 × PF × PG} (x1 : Int32) (F : PF) (G : PG) (hm : cb_X6_changed_48 fu x1 F G = some res) : xn F ≤ xn res.2.1 := by
  unfold cb_X6_changed_48 at hm
  by_cases c_1 : x1 = (0 : Int32)
  · have hm := (if_pos c_1).symm.trans hm
    exact (cn_X6_changed_56 fu F G hm)
  · have hm := (if_neg c_1).symm.trans hm
    exact (cn_X6_changed_52 fu F G hm)
theorem cw_X6_changed_48 (fu : Nat) {res : Int32 × PF × PG} (C : cMC p R s m args c A v RX6 cX6_changed 2 1 20 (xn res.2.1 - xn K0)) (hret : ∀ (b1 : Nat) (H1 : Heap) (locs1 : List Loc) (ls1 : Array Slot) (pc : Nat), cMW s A v a b1 K0 res.2.1 res.2.2 H1 locs1 → narrow .int (.int res.1) = .int res.1 → decode cX6_changed pc = .ok (.ireturn, 1) → W p l e R s m args below meth c H1 locs1 (xn res.2.1 - xn K0) (2 * (xn res.2.1 - xn K0)) Q (F0 m pc ls1 [.int res.1])) (x1 : Int32) (F : PF) (G : PG) (hm : cb_X6_changed_48 fu x1 F G = some res) {b : Nat} {H : Heap} {locs : List Loc} (hw : cMW s A v a b K0 F G H locs) {ls : Array Slot} (hl : lv_has ls 2 [(1, .int x1)]) : W p l e R s m args below meth c H locs (xn F - xn K0) (2 * (xn F - xn K0)) Q (F0 m 48 ls []) := by
  have hx := C.1
  have hb := C.2.1
  unfold cb_X6_changed_48 at hm
  refine lv_iload_n hx hb dX6_changed_48 rfl (lv_at hl 0 rfl) ?_
  refine lv_if_eq (tgt := 56) hx hb dX6_changed_49 (by decide) (fun c_1 => ?_) (fun c_1 => ?_)
  · have hm := (if_pos c_1).symm.trans hm
    exact cw_X6_changed_56 fu C hret F G hm hw (lv_sub hl [] rfl)
  · have hm := (if_neg c_1).symm.trans hm
    exact cw_X6_changed_52 fu C hret F G hm hw (lv_sub hl [] rfl)
theorem cn_X6_changed_0 (fu : Nat) {res : Int32 × PF × PG} (x0 : Int32) (x1 : Int32) (F : PF) (G : PG) (hm : cb_X6_changed_0 fu x0 x1 F G = some res) : xn F ≤ xn res.2.1 := by
  unfold cb_X6_changed_0 at hm
  by_cases c_0 : x0.toInt < 62 ∨ 64 < x0.toInt
  · have hm := (if_pos c_0).symm.trans hm
    exact (cn_X6_changed_48 fu x1 F G hm)
  have hm := (if_neg c_0).symm.trans hm
  by_cases c_1 : x0 = 62
  · have hm := (if_pos c_1).symm.trans hm
    exact (cn_X6_changed_28 fu x1 F G hm)
  have hm := (if_neg c_1).symm.trans hm
  clear c_1
  by_cases c_1 : x0 = 63
  · have hm := (if_pos c_1).symm.trans hm
    exact (cn_X6_changed_32 fu x1 F G hm)
  have hm := (if_neg c_1).symm.trans hm
  clear c_1
  exact (cn_X6_changed_45 fu x1 F G hm)
theorem cw_X6_changed_0 (fu : Nat) {res : Int32 × PF × PG} (C : cMC p R s m args c A v RX6 cX6_changed 2 1 20 (xn res.2.1 - xn K0)) (hret : ∀ (b1 : Nat) (H1 : Heap) (locs1 : List Loc) (ls1 : Array Slot) (pc : Nat), cMW s A v a b1 K0 res.2.1 res.2.2 H1 locs1 → narrow .int (.int res.1) = .int res.1 → decode cX6_changed pc = .ok (.ireturn, 1) → W p l e R s m args below meth c H1 locs1 (xn res.2.1 - xn K0) (2 * (xn res.2.1 - xn K0)) Q (F0 m pc ls1 [.int res.1])) (x0 : Int32) (x1 : Int32) (F : PF) (G : PG) (hm : cb_X6_changed_0 fu x0 x1 F G = some res) {b : Nat} {H : Heap} {locs : List Loc} (hw : cMW s A v a b K0 F G H locs) {ls : Array Slot} (hl : lv_has ls 2 [(0, .int x0), (1, .int x1)]) : W p l e R s m args below meth c H locs (xn F - xn K0) (2 * (xn F - xn K0)) Q (F0 m 0 ls []) := by
  have hx := C.1
  have hb := C.2.1
  unfold cb_X6_changed_0 at hm
  refine lv_iload_n hx hb dX6_changed_0 rfl (lv_at hl 0 rfl) ?_
  by_cases c_0 : x0.toInt < 62 ∨ 64 < x0.toInt
  · have hm := (if_pos c_0).symm.trans hm
    refine lv_tableOut (tgt := 48) hx hb dX6_changed_1 c_0 (by decide) ?_
    exact cw_X6_changed_48 fu C hret x1 F G hm hw (lv_sub hl [1] rfl)
  have hm := (if_neg c_0).symm.trans hm
  by_cases c_1 : x0 = 62
  · have hm := (if_pos c_1).symm.trans hm
    refine my_top 62 c_1 ?_
    refine lv_tableIn (off := 27) (tgt := 28) hx hb dX6_changed_1 (by decide) (by decide) (by decide) (by decide) ?_
    exact cw_X6_changed_28 fu C hret x1 F G hm hw (lv_sub hl [1] rfl)
  have hm := (if_neg c_1).symm.trans hm
  have n_0 := c_1
  clear c_1
  by_cases c_1 : x0 = 63
  · have hm := (if_pos c_1).symm.trans hm
    refine my_top 63 c_1 ?_
    refine lv_tableIn (off := 31) (tgt := 32) hx hb dX6_changed_1 (by decide) (by decide) (by decide) (by decide) ?_
    exact cw_X6_changed_32 fu C hret x1 F G hm hw (lv_sub hl [1] rfl)
  have hm := (if_neg c_1).symm.trans hm
  have n_1 := c_1
  clear c_1
  have c_1 : x0 = 64 := my_last (l := 62) (k := 2) c_0 (by decide) (fun j hj => match j, hj with | 0, _ => fun h9 => n_0 (Int32.toInt_inj.mp (h9.trans (by decide))) | 1, _ => fun h9 => n_1 (Int32.toInt_inj.mp (h9.trans (by decide))) | q + 2, h => absurd h (by omega)) (by decide)
  refine my_top 64 c_1 ?_
  refine lv_tableIn (off := 44) (tgt := 45) hx hb dX6_changed_1 (by decide) (by decide) (by decide) (by decide) ?_
  exact cw_X6_changed_45 fu C hret x1 F G hm hw (lv_sub hl [1] rfl)
theorem cn_X6_changed (fu : Nat) (x0 : Int32) (x1 : Int32) (F : PF) (G : PG) (q : Int32 × PF × PG) (hm : cf_X6_changed fu x0 x1 F G = some q) : xn F ≤ xn q.2.1 := cn_X6_changed_0 fu x0 x1 F G hm
theorem ck_X6_changed (l : Launch) (v : EV) (a : Nat → Nat) (b sz : Nat) (fu : Nat) (x0 : Int32) (x1 : Int32) (F : PF) (G : PG) (r : Int32) (F1 : PF) (G1 : PG) (hm : cf_X6_changed fu x0 x1 F G = some (r, F1, G1)) : cMI l yX6_changed cX6_changed 2 (some .int) 1 20 v a b sz [.int x0, .int x1] F G r F1 G1 := cMI.of (ty := .int) (by decide) rfl (Nat.le_of_ble_eq_true rfl) (fun p e R s m args below meth c Q A H locs ls C hw hl hret => cw_X6_changed_0 fu (res := (r, F1, G1)) C hret x0 x1 F G hm hw hl)
def cb_X6_next_49 (fu : Nat) (x1 : Int32) (F : PF) (G : PG) : PR := some (x1, F, G)
def cb_X6_next_38 (fu : Nat) (z0 : Int32) (F : PF) (G : PG) : PR := cb_X6_next_49 fu z0 (fup F 57 ((F 57) + (1 : Int32))) G
def cb_X6_next_21 (fu : Nat) (F : PF) (G : PG) : PR := cb_X6_next_38 fu 18 F G
def cb_X6_next_26 (fu : Nat) (F : PF) (G : PG) : PR := if ixb (F 57) 8400 = true then (cb_X6_next_38 fu (G 5 (F 57).toNatClampNeg) F G) else none
def cb_X6_next_7 (fu : Nat) (F : PF) (G : PG) : PR := if (F 57) < (F 6) then cb_X6_next_26 fu F G else cb_X6_next_21 fu F G
def cb_X6_next_0 (fu : Nat) (F : PF) (G : PG) : PR := if (F 57) < (0 : Int32) then cb_X6_next_21 fu F G else cb_X6_next_7 fu F G
def cf_X6_next (fu : Nat) (F : PF) (G : PG) : PR := cb_X6_next_0 fu F G
theorem cn_X6_next_49 (fu : Nat) {res : Int32 × PF × PG} (x1 : Int32) (F : PF) (G : PG) (hm : cb_X6_next_49 fu x1 F G = some res) : xn F ≤ xn res.2.1 := by
  unfold cb_X6_next_49 at hm
  obtain rfl := Option.some.inj hm
  exact Nat.le_refl _
theorem cw_X6_next_49 (fu : Nat) {res : Int32 × PF × PG} (C : cMC p R s m args c A v RX6 cX6_next 2 0 0 (xn res.2.1 - xn K0)) (hret : ∀ (b1 : Nat) (H1 : Heap) (locs1 : List Loc) (ls1 : Array Slot) (pc : Nat), cMW s A v a b1 K0 res.2.1 res.2.2 H1 locs1 → narrow .int (.int res.1) = .int res.1 → decode cX6_next pc = .ok (.ireturn, 1) → W p l e R s m args below meth c H1 locs1 (xn res.2.1 - xn K0) (2 * (xn res.2.1 - xn K0)) Q (F0 m pc ls1 [.int res.1])) (x1 : Int32) (F : PF) (G : PG) (hm : cb_X6_next_49 fu x1 F G = some res) {b : Nat} {H : Heap} {locs : List Loc} (hw : cMW s A v a b K0 F G H locs) {ls : Array Slot} (hl : lv_has ls 2 [(1, .int x1)]) : W p l e R s m args below meth c H locs (xn F - xn K0) (2 * (xn F - xn K0)) Q (F0 m 49 ls []) := by
  have hx := C.1
  have hb := C.2.1
  unfold cb_X6_next_49 at hm
  refine lv_iload_n hx hb dX6_next_49 rfl (lv_at hl 0 rfl) ?_
  obtain rfl := Option.some.inj hm
  exact hret _ _ _ _ _ hw rfl dX6_next_50
theorem cn_X6_next_38 (fu : Nat) {res : Int32 × PF × PG} (z0 : Int32) (F : PF) (G : PG) (hm : cb_X6_next_38 fu z0 F G = some res) : xn F ≤ xn res.2.1 := by
  unfold cb_X6_next_38 at hm
  exact Nat.le_trans (Nat.le_of_eq (xn_fup (by decide)).symm) (cn_X6_next_49 fu z0 (fup F 57 ((F 57) + (1 : Int32))) G hm)
theorem cw_X6_next_38 (fu : Nat) {res : Int32 × PF × PG} (C : cMC p R s m args c A v RX6 cX6_next 2 0 0 (xn res.2.1 - xn K0)) (hret : ∀ (b1 : Nat) (H1 : Heap) (locs1 : List Loc) (ls1 : Array Slot) (pc : Nat), cMW s A v a b1 K0 res.2.1 res.2.2 H1 locs1 → narrow .int (.int res.1) = .int res.1 → decode cX6_next pc = .ok (.ireturn, 1) → W p l e R s m args below meth c H1 locs1 (xn res.2.1 - xn K0) (2 * (xn res.2.1 - xn K0)) Q (F0 m pc ls1 [.int res.1])) (z0 : Int32) (F : PF) (G : PG) (hm : cb_X6_next_38 fu z0 F G = some res) {b : Nat} {H : Heap} {locs : List Loc} (hw : cMW s A v a b K0 F G H locs) {ls : Array Slot} (hl : lv_has ls 2 [(0, .ref (a 206))]) : W p l e R s m args below meth c H locs (xn F - xn K0) (2 * (xn F - xn K0)) Q (F0 m 38 ls [.int z0]) := by
  have hx := C.1
  have hb := C.2.1
  unfold cb_X6_next_38 at hm
  refine lv_istore_n (lv' := [(1, .int z0), (0, .ref (a 206))]) hx hb dX6_next_38 rfl hl (by decide) rfl (fun ls hl => ?_)
  refine lv_aload_n hx hb dX6_next_39 rfl (lv_at hl 1 rfl) ?_
  refine lv_dup hx hb dX6_next_40 rfl ?_
  refine cg_X6_70 C hw dX6_next_41 ?_
  refine lv_iconst (v := 1) hx hb dX6_next_44 (by decide) ?_
  refine lv_iadd hx hb dX6_next_45 ?_
  refine cp_X6_70 C hw dX6_next_46 (fun H locs hw => ?_)
  exact cw_X6_next_49 fu C hret z0 (fup F 57 ((F 57) + (1 : Int32))) G hm hw (lv_sub hl [0] rfl)
theorem cn_X6_next_21 (fu : Nat) {res : Int32 × PF × PG} (F : PF) (G : PG) (hm : cb_X6_next_21 fu F G = some res) : xn F ≤ xn res.2.1 := by
  unfold cb_X6_next_21 at hm
  exact (cn_X6_next_38 fu 18 F G hm)
theorem cw_X6_next_21 (fu : Nat) {res : Int32 × PF × PG} (C : cMC p R s m args c A v RX6 cX6_next 2 0 0 (xn res.2.1 - xn K0)) (hret : ∀ (b1 : Nat) (H1 : Heap) (locs1 : List Loc) (ls1 : Array Slot) (pc : Nat), cMW s A v a b1 K0 res.2.1 res.2.2 H1 locs1 → narrow .int (.int res.1) = .int res.1 → decode cX6_next pc = .ok (.ireturn, 1) → W p l e R s m args below meth c H1 locs1 (xn res.2.1 - xn K0) (2 * (xn res.2.1 - xn K0)) Q (F0 m pc ls1 [.int res.1])) (F : PF) (G : PG) (hm : cb_X6_next_21 fu F G = some res) {b : Nat} {H : Heap} {locs : List Loc} (hw : cMW s A v a b K0 F G H locs) {ls : Array Slot} (hl : lv_has ls 2 [(0, .ref (a 206))]) : W p l e R s m args below meth c H locs (xn F - xn K0) (2 * (xn F - xn K0)) Q (F0 m 21 ls []) := by
  have hx := C.1
  have hb := C.2.1
  unfold cb_X6_next_21 at hm
  refine lv_bipush (v := 18) hx hb dX6_next_21 (by decide) ?_
  refine lv_goto (tgt := 38) hx hb dX6_next_23 (by decide) ?_
  exact cw_X6_next_38 fu C hret 18 F G hm hw (lv_sub hl [0] rfl)
theorem cn_X6_next_26 (fu : Nat) {res : Int32 × PF × PG} (F : PF) (G : PG) (hm : cb_X6_next_26 fu F G = some res) : xn F ≤ xn res.2.1 := by
  unfold cb_X6_next_26 at hm
  have hm := (ix_elim hm).2
  exact (cn_X6_next_38 fu (G 5 (F 57).toNatClampNeg) F G hm)
theorem cw_X6_next_26 (fu : Nat) {res : Int32 × PF × PG} (C : cMC p R s m args c A v RX6 cX6_next 2 0 0 (xn res.2.1 - xn K0)) (hret : ∀ (b1 : Nat) (H1 : Heap) (locs1 : List Loc) (ls1 : Array Slot) (pc : Nat), cMW s A v a b1 K0 res.2.1 res.2.2 H1 locs1 → narrow .int (.int res.1) = .int res.1 → decode cX6_next pc = .ok (.ireturn, 1) → W p l e R s m args below meth c H1 locs1 (xn res.2.1 - xn K0) (2 * (xn res.2.1 - xn K0)) Q (F0 m pc ls1 [.int res.1])) (F : PF) (G : PG) (hm : cb_X6_next_26 fu F G = some res) {b : Nat} {H : Heap} {locs : List Loc} (hw : cMW s A v a b K0 F G H locs) {ls : Array Slot} (hl : lv_has ls 2 [(0, .ref (a 206))]) : W p l e R s m args below meth c H locs (xn F - xn K0) (2 * (xn F - xn K0)) Q (F0 m 26 ls []) := by
  have hx := C.1
  have hb := C.2.1
  unfold cb_X6_next_26 at hm
  refine lv_aload_n hx hb dX6_next_26 rfl (lv_at hl 0 rfl) ?_
  refine cg_X6_18 C hw dX6_next_27 ?_
  refine cg_X6_156 C hw dX6_next_30 ?_
  refine lv_aload_n hx hb dX6_next_33 rfl (lv_at hl 0 rfl) ?_
  refine cg_X6_70 C hw dX6_next_34 ?_
  obtain ⟨hi, hm⟩ := ix_elim hm
  refine cal_5 C hw hi dX6_next_37 ?_
  exact cw_X6_next_38 fu C hret (G 5 (F 57).toNatClampNeg) F G hm hw (lv_sub hl [0] rfl)
theorem cn_X6_next_7 (fu : Nat) {res : Int32 × PF × PG} (F : PF) (G : PG) (hm : cb_X6_next_7 fu F G = some res) : xn F ≤ xn res.2.1 := by
  unfold cb_X6_next_7 at hm
  by_cases c_1 : (F 57) < (F 6)
  · have hm := (if_pos c_1).symm.trans hm
    exact (cn_X6_next_26 fu F G hm)
  · have hm := (if_neg c_1).symm.trans hm
    exact (cn_X6_next_21 fu F G hm)
theorem cw_X6_next_7 (fu : Nat) {res : Int32 × PF × PG} (C : cMC p R s m args c A v RX6 cX6_next 2 0 0 (xn res.2.1 - xn K0)) (hret : ∀ (b1 : Nat) (H1 : Heap) (locs1 : List Loc) (ls1 : Array Slot) (pc : Nat), cMW s A v a b1 K0 res.2.1 res.2.2 H1 locs1 → narrow .int (.int res.1) = .int res.1 → decode cX6_next pc = .ok (.ireturn, 1) → W p l e R s m args below meth c H1 locs1 (xn res.2.1 - xn K0) (2 * (xn res.2.1 - xn K0)) Q (F0 m pc ls1 [.int res.1])) (F : PF) (G : PG) (hm : cb_X6_next_7 fu F G = some res) {b : Nat} {H : Heap} {locs : List Loc} (hw : cMW s A v a b K0 F G H locs) {ls : Array Slot} (hl : lv_has ls 2 [(0, .ref (a 206))]) : W p l e R s m args below meth c H locs (xn F - xn K0) (2 * (xn F - xn K0)) Q (F0 m 7 ls []) := by
  have hx := C.1
  have hb := C.2.1
  unfold cb_X6_next_7 at hm
  refine lv_aload_n hx hb dX6_next_7 rfl (lv_at hl 0 rfl) ?_
  refine cg_X6_70 C hw dX6_next_8 ?_
  refine lv_aload_n hx hb dX6_next_11 rfl (lv_at hl 0 rfl) ?_
  refine cg_X6_18 C hw dX6_next_12 ?_
  refine cg_X6_74 C hw dX6_next_15 ?_
  refine lv_icmp_lt (tgt := 26) hx hb dX6_next_18 (by decide) (fun c_1 => ?_) (fun c_1 => ?_)
  · have hm := (if_pos c_1).symm.trans hm
    exact cw_X6_next_26 fu C hret F G hm hw (lv_sub hl [0] rfl)
  · have hm := (if_neg c_1).symm.trans hm
    exact cw_X6_next_21 fu C hret F G hm hw (lv_sub hl [0] rfl)
theorem cn_X6_next_0 (fu : Nat) {res : Int32 × PF × PG} (F : PF) (G : PG) (hm : cb_X6_next_0 fu F G = some res) : xn F ≤ xn res.2.1 := by
  unfold cb_X6_next_0 at hm
  by_cases c_1 : (F 57) < (0 : Int32)
  · have hm := (if_pos c_1).symm.trans hm
    exact (cn_X6_next_21 fu F G hm)
  · have hm := (if_neg c_1).symm.trans hm
    exact (cn_X6_next_7 fu F G hm)
theorem cw_X6_next_0 (fu : Nat) {res : Int32 × PF × PG} (C : cMC p R s m args c A v RX6 cX6_next 2 0 0 (xn res.2.1 - xn K0)) (hret : ∀ (b1 : Nat) (H1 : Heap) (locs1 : List Loc) (ls1 : Array Slot) (pc : Nat), cMW s A v a b1 K0 res.2.1 res.2.2 H1 locs1 → narrow .int (.int res.1) = .int res.1 → decode cX6_next pc = .ok (.ireturn, 1) → W p l e R s m args below meth c H1 locs1 (xn res.2.1 - xn K0) (2 * (xn res.2.1 - xn K0)) Q (F0 m pc ls1 [.int res.1])) (F : PF) (G : PG) (hm : cb_X6_next_0 fu F G = some res) {b : Nat} {H : Heap} {locs : List Loc} (hw : cMW s A v a b K0 F G H locs) {ls : Array Slot} (hl : lv_has ls 2 [(0, .ref (a 206))]) : W p l e R s m args below meth c H locs (xn F - xn K0) (2 * (xn F - xn K0)) Q (F0 m 0 ls []) := by
  have hx := C.1
  have hb := C.2.1
  unfold cb_X6_next_0 at hm
  refine lv_aload_n hx hb dX6_next_0 rfl (lv_at hl 0 rfl) ?_
  refine cg_X6_70 C hw dX6_next_1 ?_
  refine lv_if_lt (tgt := 21) hx hb dX6_next_4 (by decide) (fun c_1 => ?_) (fun c_1 => ?_)
  · have hm := (if_pos c_1).symm.trans hm
    exact cw_X6_next_21 fu C hret F G hm hw (lv_sub hl [0] rfl)
  · have hm := (if_neg c_1).symm.trans hm
    exact cw_X6_next_7 fu C hret F G hm hw (lv_sub hl [0] rfl)
theorem cn_X6_next (fu : Nat) (F : PF) (G : PG) (q : Int32 × PF × PG) (hm : cf_X6_next fu F G = some q) : xn F ≤ xn q.2.1 := cn_X6_next_0 fu F G hm
theorem ck_X6_next (l : Launch) (v : EV) (a : Nat → Nat) (b sz : Nat) (fu : Nat) (F : PF) (G : PG) (r : Int32) (F1 : PF) (G1 : PG) (hm : cf_X6_next fu F G = some (r, F1, G1)) : cMI l yX6_next cX6_next 2 (some .int) 0 0 v a b sz [.ref (a 206)] F G r F1 G1 := cMI.of (ty := .int) (by decide) rfl (Nat.le_of_ble_eq_true rfl) (fun p e R s m args below meth c Q A H locs ls C hw hl hret => cw_X6_next_0 fu (res := (r, F1, G1)) C hret F G hm hw hl)
def cb_X6_push_72 (fu : Nat) (F : PF) (G : PG) : PR := some (0, F, G)
def cb_X6_push_62 (fu : Nat) (F : PF) (G : PG) : PR := cb_X6_push_72 fu (fup F 56 ((F 56) + (1 : Int32))) G
def cb_X6_push_52 (fu : Nat) (x1 : Int32) (F : PF) (G : PG) : PR := if ixb (F 56) (xn F) = true then (cb_X6_push_62 fu F (gup G 55 (F 56).toNatClampNeg x1)) else none
def cb_X6_push_40 (fu : Nat) (x1 : Int32) (F : PF) (G : PG) : PR := if (nI (xn F)) ≤ (F 56) then cb_X6_push_72 fu F G else cb_X6_push_52 fu x1 F G
def cb_X6_push_22 (fu : Nat) (x1 : Int32) (F : PF) (G : PG) : PR := if gok F = true then (cb_X6_push_40 fu x1 (fup F 300 (nI (xn F) * 2)) (gext G F)) else none
def cb_X6_push_12 (fu : Nat) (x1 : Int32) (F : PF) (G : PG) : PR := if (524288 : Int32) ≤ (nI (xn F)) then cb_X6_push_40 fu x1 F G else cb_X6_push_22 fu x1 F G
def cb_X6_push_0 (fu : Nat) (x1 : Int32) (F : PF) (G : PG) : PR := if (F 56) < (nI (xn F)) then cb_X6_push_40 fu x1 F G else cb_X6_push_12 fu x1 F G
def cf_X6_push (fu : Nat) (x1 : Int32) (F : PF) (G : PG) : PR := cb_X6_push_0 fu x1 F G
theorem cn_X6_push_72 (fu : Nat) {res : Int32 × PF × PG} (F : PF) (G : PG) (hm : cb_X6_push_72 fu F G = some res) : xn F ≤ xn res.2.1 := by
  unfold cb_X6_push_72 at hm
  obtain rfl := Option.some.inj hm
  exact Nat.le_refl _
theorem cw_X6_push_72 (fu : Nat) {res : Int32 × PF × PG} (C : cMC p R s m args c A v RX6 cX6_push 2 2 90 (xn res.2.1 - xn K0)) (hret : ∀ (b1 : Nat) (H1 : Heap) (locs1 : List Loc) (ls1 : Array Slot) (pc : Nat), cMW s A v a b1 K0 res.2.1 res.2.2 H1 locs1 → decode cX6_push pc = .ok (.return_, 1) → W p l e R s m args below meth c H1 locs1 (xn res.2.1 - xn K0) (2 * (xn res.2.1 - xn K0)) Q (F0 m pc ls1 [])) (F : PF) (G : PG) (hm : cb_X6_push_72 fu F G = some res) {b : Nat} {H : Heap} {locs : List Loc} (hw : cMW s A v a b K0 F G H locs) {ls : Array Slot} (hl : lv_has ls 2 []) : W p l e R s m args below meth c H locs (xn F - xn K0) (2 * (xn F - xn K0)) Q (F0 m 72 ls []) := by
  have hx := C.1
  have hb := C.2.1
  unfold cb_X6_push_72 at hm
  obtain rfl := Option.some.inj hm
  exact hret _ _ _ _ _ hw dX6_push_72
theorem cn_X6_push_62 (fu : Nat) {res : Int32 × PF × PG} (F : PF) (G : PG) (hm : cb_X6_push_62 fu F G = some res) : xn F ≤ xn res.2.1 := by
  unfold cb_X6_push_62 at hm
  exact Nat.le_trans (Nat.le_of_eq (xn_fup (by decide)).symm) (cn_X6_push_72 fu (fup F 56 ((F 56) + (1 : Int32))) G hm)
theorem cw_X6_push_62 (fu : Nat) {res : Int32 × PF × PG} (C : cMC p R s m args c A v RX6 cX6_push 2 2 90 (xn res.2.1 - xn K0)) (hret : ∀ (b1 : Nat) (H1 : Heap) (locs1 : List Loc) (ls1 : Array Slot) (pc : Nat), cMW s A v a b1 K0 res.2.1 res.2.2 H1 locs1 → decode cX6_push pc = .ok (.return_, 1) → W p l e R s m args below meth c H1 locs1 (xn res.2.1 - xn K0) (2 * (xn res.2.1 - xn K0)) Q (F0 m pc ls1 [])) (F : PF) (G : PG) (hm : cb_X6_push_62 fu F G = some res) {b : Nat} {H : Heap} {locs : List Loc} (hw : cMW s A v a b K0 F G H locs) {ls : Array Slot} (hl : lv_has ls 2 [(0, .ref (a 206))]) : W p l e R s m args below meth c H locs (xn F - xn K0) (2 * (xn F - xn K0)) Q (F0 m 62 ls []) := by
  have hx := C.1
  have hb := C.2.1
  unfold cb_X6_push_62 at hm
  refine lv_aload_n hx hb dX6_push_62 rfl (lv_at hl 0 rfl) ?_
  refine lv_dup hx hb dX6_push_63 rfl ?_
  refine cg_X6_49 C hw dX6_push_64 ?_
  refine lv_iconst (v := 1) hx hb dX6_push_67 (by decide) ?_
  refine lv_iadd hx hb dX6_push_68 ?_
  refine cp_X6_49 C hw dX6_push_69 (fun H locs hw => ?_)
  exact cw_X6_push_72 fu C hret (fup F 56 ((F 56) + (1 : Int32))) G hm hw (lv_sub hl [] rfl)
theorem cn_X6_push_52 (fu : Nat) {res : Int32 × PF × PG} (x1 : Int32) (F : PF) (G : PG) (hm : cb_X6_push_52 fu x1 F G = some res) : xn F ≤ xn res.2.1 := by
  unfold cb_X6_push_52 at hm
  have hm := (ix_elim hm).2
  exact (cn_X6_push_62 fu F (gup G 55 (F 56).toNatClampNeg x1) hm)
theorem cw_X6_push_52 (fu : Nat) {res : Int32 × PF × PG} (C : cMC p R s m args c A v RX6 cX6_push 2 2 90 (xn res.2.1 - xn K0)) (hret : ∀ (b1 : Nat) (H1 : Heap) (locs1 : List Loc) (ls1 : Array Slot) (pc : Nat), cMW s A v a b1 K0 res.2.1 res.2.2 H1 locs1 → decode cX6_push pc = .ok (.return_, 1) → W p l e R s m args below meth c H1 locs1 (xn res.2.1 - xn K0) (2 * (xn res.2.1 - xn K0)) Q (F0 m pc ls1 [])) (x1 : Int32) (F : PF) (G : PG) (hm : cb_X6_push_52 fu x1 F G = some res) {b : Nat} {H : Heap} {locs : List Loc} (hw : cMW s A v a b K0 F G H locs) {ls : Array Slot} (hl : lv_has ls 2 [(0, .ref (a 206)), (1, .int x1)]) : W p l e R s m args below meth c H locs (xn F - xn K0) (2 * (xn F - xn K0)) Q (F0 m 52 ls []) := by
  have hx := C.1
  have hb := C.2.1
  unfold cb_X6_push_52 at hm
  refine lv_aload_n hx hb dX6_push_52 rfl (lv_at hl 0 rfl) ?_
  refine cg_X6_15 C hw dX6_push_53 ?_
  refine lv_aload_n hx hb dX6_push_56 rfl (lv_at hl 0 rfl) ?_
  refine cg_X6_49 C hw dX6_push_57 ?_
  refine lv_iload_n hx hb dX6_push_60 rfl (lv_at hl 1 rfl) ?_
  obtain ⟨hi, hm⟩ := ix_elim hm
  refine cas_55 C hw hi dX6_push_61 (fun H locs hw => ?_)
  exact cw_X6_push_62 fu C hret F (gup G 55 (F 56).toNatClampNeg x1) hm hw (lv_sub hl [0] rfl)
theorem cn_X6_push_40 (fu : Nat) {res : Int32 × PF × PG} (x1 : Int32) (F : PF) (G : PG) (hm : cb_X6_push_40 fu x1 F G = some res) : xn F ≤ xn res.2.1 := by
  unfold cb_X6_push_40 at hm
  by_cases c_1 : (nI (xn F)) ≤ (F 56)
  · have hm := (if_pos c_1).symm.trans hm
    exact (cn_X6_push_72 fu F G hm)
  · have hm := (if_neg c_1).symm.trans hm
    exact (cn_X6_push_52 fu x1 F G hm)
theorem cw_X6_push_40 (fu : Nat) {res : Int32 × PF × PG} (C : cMC p R s m args c A v RX6 cX6_push 2 2 90 (xn res.2.1 - xn K0)) (hret : ∀ (b1 : Nat) (H1 : Heap) (locs1 : List Loc) (ls1 : Array Slot) (pc : Nat), cMW s A v a b1 K0 res.2.1 res.2.2 H1 locs1 → decode cX6_push pc = .ok (.return_, 1) → W p l e R s m args below meth c H1 locs1 (xn res.2.1 - xn K0) (2 * (xn res.2.1 - xn K0)) Q (F0 m pc ls1 [])) (x1 : Int32) (F : PF) (G : PG) (hm : cb_X6_push_40 fu x1 F G = some res) {b : Nat} {H : Heap} {locs : List Loc} (hw : cMW s A v a b K0 F G H locs) {ls : Array Slot} (hl : lv_has ls 2 [(0, .ref (a 206)), (1, .int x1)]) : W p l e R s m args below meth c H locs (xn F - xn K0) (2 * (xn F - xn K0)) Q (F0 m 40 ls []) := by
  have hx := C.1
  have hb := C.2.1
  unfold cb_X6_push_40 at hm
  refine lv_aload_n hx hb dX6_push_40 rfl (lv_at hl 0 rfl) ?_
  refine cg_X6_49 C hw dX6_push_41 ?_
  refine lv_aload_n hx hb dX6_push_44 rfl (lv_at hl 0 rfl) ?_
  refine cg_X6_15 C hw dX6_push_45 ?_
  refine clenB C hw dX6_push_48 ?_
  refine lv_icmp_ge (tgt := 72) hx hb dX6_push_49 (by decide) (fun c_1 => ?_) (fun c_1 => ?_)
  · have hm := (if_pos c_1).symm.trans hm
    exact cw_X6_push_72 fu C hret F G hm hw (lv_sub hl [] rfl)
  · have hm := (if_neg c_1).symm.trans hm
    exact cw_X6_push_52 fu C hret x1 F G hm hw (lv_sub hl [0, 1] rfl)
theorem cn_X6_push_22 (fu : Nat) {res : Int32 × PF × PG} (x1 : Int32) (F : PF) (G : PG) (hm : cb_X6_push_22 fu x1 F G = some res) : xn F ≤ xn res.2.1 := by
  unfold cb_X6_push_22 at hm
  obtain ⟨hi, hm⟩ := gok_elim hm
  exact Nat.le_trans (gok_le hi) (cn_X6_push_40 fu x1 (fup F 300 (nI (xn F) * 2)) (gext G F) hm)
theorem cw_X6_push_22 (fu : Nat) {res : Int32 × PF × PG} (C : cMC p R s m args c A v RX6 cX6_push 2 2 90 (xn res.2.1 - xn K0)) (hret : ∀ (b1 : Nat) (H1 : Heap) (locs1 : List Loc) (ls1 : Array Slot) (pc : Nat), cMW s A v a b1 K0 res.2.1 res.2.2 H1 locs1 → decode cX6_push pc = .ok (.return_, 1) → W p l e R s m args below meth c H1 locs1 (xn res.2.1 - xn K0) (2 * (xn res.2.1 - xn K0)) Q (F0 m pc ls1 [])) (x1 : Int32) (F : PF) (G : PG) (hm : cb_X6_push_22 fu x1 F G = some res) {b : Nat} {H : Heap} {locs : List Loc} (hw : cMW s A v a b K0 F G H locs) {ls : Array Slot} (hl : lv_has ls 2 [(0, .ref (a 206)), (1, .int x1)]) : W p l e R s m args below meth c H locs (xn F - xn K0) (2 * (xn F - xn K0)) Q (F0 m 22 ls []) := by
  have hx := C.1
  have hb := C.2.1
  unfold cb_X6_push_22 at hm
  refine lv_aload_n hx hb dX6_push_22 rfl (lv_at hl 0 rfl) ?_
  refine lv_aload_n hx hb dX6_push_23 rfl (lv_at hl 0 rfl) ?_
  refine cg_X6_15 C hw dX6_push_24 ?_
  refine lv_aload_n hx hb dX6_push_27 rfl (lv_at hl 0 rfl) ?_
  refine cg_X6_15 C hw dX6_push_28 ?_
  refine clenB C hw dX6_push_31 ?_
  refine lv_iconst (v := 2) hx hb dX6_push_32 (by decide) ?_
  refine lv_imul hx hb dX6_push_33 ?_
  obtain ⟨hi, hm⟩ := gok_elim hm
  refine cgrow C hw hi (by omega) (by omega) (Nat.sub_le_sub_right (cn_X6_push_40 fu x1 (fup F 300 (nI (xn F) * 2)) (gext G F) hm) _) hl.1 dX6_push_34 dX6_push_37 (fun b H locs hw => ?_)
  exact cw_X6_push_40 fu C hret x1 (fup F 300 (nI (xn F) * 2)) (gext G F) hm hw (lv_sub hl [0, 1] rfl)
theorem cn_X6_push_12 (fu : Nat) {res : Int32 × PF × PG} (x1 : Int32) (F : PF) (G : PG) (hm : cb_X6_push_12 fu x1 F G = some res) : xn F ≤ xn res.2.1 := by
  unfold cb_X6_push_12 at hm
  by_cases c_1 : (524288 : Int32) ≤ (nI (xn F))
  · have hm := (if_pos c_1).symm.trans hm
    exact (cn_X6_push_40 fu x1 F G hm)
  · have hm := (if_neg c_1).symm.trans hm
    exact (cn_X6_push_22 fu x1 F G hm)
theorem cw_X6_push_12 (fu : Nat) {res : Int32 × PF × PG} (C : cMC p R s m args c A v RX6 cX6_push 2 2 90 (xn res.2.1 - xn K0)) (hret : ∀ (b1 : Nat) (H1 : Heap) (locs1 : List Loc) (ls1 : Array Slot) (pc : Nat), cMW s A v a b1 K0 res.2.1 res.2.2 H1 locs1 → decode cX6_push pc = .ok (.return_, 1) → W p l e R s m args below meth c H1 locs1 (xn res.2.1 - xn K0) (2 * (xn res.2.1 - xn K0)) Q (F0 m pc ls1 [])) (x1 : Int32) (F : PF) (G : PG) (hm : cb_X6_push_12 fu x1 F G = some res) {b : Nat} {H : Heap} {locs : List Loc} (hw : cMW s A v a b K0 F G H locs) {ls : Array Slot} (hl : lv_has ls 2 [(0, .ref (a 206)), (1, .int x1)]) : W p l e R s m args below meth c H locs (xn F - xn K0) (2 * (xn F - xn K0)) Q (F0 m 12 ls []) := by
  have hx := C.1
  have hb := C.2.1
  unfold cb_X6_push_12 at hm
  refine lv_aload_n hx hb dX6_push_12 rfl (lv_at hl 0 rfl) ?_
  refine cg_X6_15 C hw dX6_push_13 ?_
  refine clenB C hw dX6_push_16 ?_
  refine lv_ldc (v := 524288) hx hb C.2.2.2.1 (C.2.2.2.2.1 _ cm_538) dX6_push_17 ?_
  refine lv_icmp_ge (tgt := 40) hx hb dX6_push_19 (by decide) (fun c_1 => ?_) (fun c_1 => ?_)
  · have hm := (if_pos c_1).symm.trans hm
    exact cw_X6_push_40 fu C hret x1 F G hm hw (lv_sub hl [0, 1] rfl)
  · have hm := (if_neg c_1).symm.trans hm
    exact cw_X6_push_22 fu C hret x1 F G hm hw (lv_sub hl [0, 1] rfl)
theorem cn_X6_push_0 (fu : Nat) {res : Int32 × PF × PG} (x1 : Int32) (F : PF) (G : PG) (hm : cb_X6_push_0 fu x1 F G = some res) : xn F ≤ xn res.2.1 := by
  unfold cb_X6_push_0 at hm
  by_cases c_1 : (F 56) < (nI (xn F))
  · have hm := (if_pos c_1).symm.trans hm
    exact (cn_X6_push_40 fu x1 F G hm)
  · have hm := (if_neg c_1).symm.trans hm
    exact (cn_X6_push_12 fu x1 F G hm)
theorem cw_X6_push_0 (fu : Nat) {res : Int32 × PF × PG} (C : cMC p R s m args c A v RX6 cX6_push 2 2 90 (xn res.2.1 - xn K0)) (hret : ∀ (b1 : Nat) (H1 : Heap) (locs1 : List Loc) (ls1 : Array Slot) (pc : Nat), cMW s A v a b1 K0 res.2.1 res.2.2 H1 locs1 → decode cX6_push pc = .ok (.return_, 1) → W p l e R s m args below meth c H1 locs1 (xn res.2.1 - xn K0) (2 * (xn res.2.1 - xn K0)) Q (F0 m pc ls1 [])) (x1 : Int32) (F : PF) (G : PG) (hm : cb_X6_push_0 fu x1 F G = some res) {b : Nat} {H : Heap} {locs : List Loc} (hw : cMW s A v a b K0 F G H locs) {ls : Array Slot} (hl : lv_has ls 2 [(0, .ref (a 206)), (1, .int x1)]) : W p l e R s m args below meth c H locs (xn F - xn K0) (2 * (xn F - xn K0)) Q (F0 m 0 ls []) := by
  have hx := C.1
  have hb := C.2.1
  unfold cb_X6_push_0 at hm
  refine lv_aload_n hx hb dX6_push_0 rfl (lv_at hl 0 rfl) ?_
  refine cg_X6_49 C hw dX6_push_1 ?_
  refine lv_aload_n hx hb dX6_push_4 rfl (lv_at hl 0 rfl) ?_
  refine cg_X6_15 C hw dX6_push_5 ?_
  refine clenB C hw dX6_push_8 ?_
  refine lv_icmp_lt (tgt := 40) hx hb dX6_push_9 (by decide) (fun c_1 => ?_) (fun c_1 => ?_)
  · have hm := (if_pos c_1).symm.trans hm
    exact cw_X6_push_40 fu C hret x1 F G hm hw (lv_sub hl [0, 1] rfl)
  · have hm := (if_neg c_1).symm.trans hm
    exact cw_X6_push_12 fu C hret x1 F G hm hw (lv_sub hl [0, 1] rfl)
theorem cn_X6_push (fu : Nat) (x1 : Int32) (F : PF) (G : PG) (q : Int32 × PF × PG) (hm : cf_X6_push fu x1 F G = some q) : xn F ≤ xn q.2.1 := cn_X6_push_0 fu x1 F G hm
theorem ck_X6_push (l : Launch) (v : EV) (a : Nat → Nat) (b sz : Nat) (fu : Nat) (x1 : Int32) (F : PF) (G : PG) (r : Int32) (F1 : PF) (G1 : PG) (hm : cf_X6_push fu x1 F G = some (r, F1, G1)) : cMV l yX6_push cX6_push 2 2 90 v a b sz [.ref (a 206), .int x1] F G F1 G1 := cMV.of (by decide) (Nat.le_of_ble_eq_true rfl) (fun p e R s m args below meth c Q A H locs ls C hw hl hret => cw_X6_push_0 fu (res := (r, F1, G1)) C hret x1 F G hm hw hl)
def cb_X6_pop_19 (fu : Nat) (F : PF) (G : PG) : PR := if ixb (F 56) (xn F) = true then (some ((G 55 (F 56).toNatClampNeg), F, G)) else none
def cb_X6_pop_9 (fu : Nat) (F : PF) (G : PG) : PR := cb_X6_pop_19 fu (fup F 56 ((F 56) - (1 : Int32))) G
def cb_X6_pop_7 (fu : Nat) (F : PF) (G : PG) : PR := some (0, F, G)
def cb_X6_pop_0 (fu : Nat) (F : PF) (G : PG) : PR := if (0 : Int32) < (F 56) then cb_X6_pop_9 fu F G else cb_X6_pop_7 fu F G
def cf_X6_pop (fu : Nat) (F : PF) (G : PG) : PR := cb_X6_pop_0 fu F G
theorem cn_X6_pop_19 (fu : Nat) {res : Int32 × PF × PG} (F : PF) (G : PG) (hm : cb_X6_pop_19 fu F G = some res) : xn F ≤ xn res.2.1 := by
  unfold cb_X6_pop_19 at hm
  have hm := (ix_elim hm).2
  obtain rfl := Option.some.inj hm
  exact Nat.le_refl _
theorem cw_X6_pop_19 (fu : Nat) {res : Int32 × PF × PG} (C : cMC p R s m args c A v RX6 cX6_pop 1 0 0 (xn res.2.1 - xn K0)) (hret : ∀ (b1 : Nat) (H1 : Heap) (locs1 : List Loc) (ls1 : Array Slot) (pc : Nat), cMW s A v a b1 K0 res.2.1 res.2.2 H1 locs1 → narrow .int (.int res.1) = .int res.1 → decode cX6_pop pc = .ok (.ireturn, 1) → W p l e R s m args below meth c H1 locs1 (xn res.2.1 - xn K0) (2 * (xn res.2.1 - xn K0)) Q (F0 m pc ls1 [.int res.1])) (F : PF) (G : PG) (hm : cb_X6_pop_19 fu F G = some res) {b : Nat} {H : Heap} {locs : List Loc} (hw : cMW s A v a b K0 F G H locs) {ls : Array Slot} (hl : lv_has ls 1 [(0, .ref (a 206))]) : W p l e R s m args below meth c H locs (xn F - xn K0) (2 * (xn F - xn K0)) Q (F0 m 19 ls []) := by
  have hx := C.1
  have hb := C.2.1
  unfold cb_X6_pop_19 at hm
  refine lv_aload_n hx hb dX6_pop_19 rfl (lv_at hl 0 rfl) ?_
  refine cg_X6_15 C hw dX6_pop_20 ?_
  refine lv_aload_n hx hb dX6_pop_23 rfl (lv_at hl 0 rfl) ?_
  refine cg_X6_49 C hw dX6_pop_24 ?_
  obtain ⟨hi, hm⟩ := ix_elim hm
  refine cal_55 C hw hi dX6_pop_27 ?_
  obtain rfl := Option.some.inj hm
  exact hret _ _ _ _ _ hw rfl dX6_pop_28
theorem cn_X6_pop_9 (fu : Nat) {res : Int32 × PF × PG} (F : PF) (G : PG) (hm : cb_X6_pop_9 fu F G = some res) : xn F ≤ xn res.2.1 := by
  unfold cb_X6_pop_9 at hm
  exact Nat.le_trans (Nat.le_of_eq (xn_fup (by decide)).symm) (cn_X6_pop_19 fu (fup F 56 ((F 56) - (1 : Int32))) G hm)
theorem cw_X6_pop_9 (fu : Nat) {res : Int32 × PF × PG} (C : cMC p R s m args c A v RX6 cX6_pop 1 0 0 (xn res.2.1 - xn K0)) (hret : ∀ (b1 : Nat) (H1 : Heap) (locs1 : List Loc) (ls1 : Array Slot) (pc : Nat), cMW s A v a b1 K0 res.2.1 res.2.2 H1 locs1 → narrow .int (.int res.1) = .int res.1 → decode cX6_pop pc = .ok (.ireturn, 1) → W p l e R s m args below meth c H1 locs1 (xn res.2.1 - xn K0) (2 * (xn res.2.1 - xn K0)) Q (F0 m pc ls1 [.int res.1])) (F : PF) (G : PG) (hm : cb_X6_pop_9 fu F G = some res) {b : Nat} {H : Heap} {locs : List Loc} (hw : cMW s A v a b K0 F G H locs) {ls : Array Slot} (hl : lv_has ls 1 [(0, .ref (a 206))]) : W p l e R s m args below meth c H locs (xn F - xn K0) (2 * (xn F - xn K0)) Q (F0 m 9 ls []) := by
  have hx := C.1
  have hb := C.2.1
  unfold cb_X6_pop_9 at hm
  refine lv_aload_n hx hb dX6_pop_9 rfl (lv_at hl 0 rfl) ?_
  refine lv_dup hx hb dX6_pop_10 rfl ?_
  refine cg_X6_49 C hw dX6_pop_11 ?_
  refine lv_iconst (v := 1) hx hb dX6_pop_14 (by decide) ?_
  refine lv_isub hx hb dX6_pop_15 ?_
  refine cp_X6_49 C hw dX6_pop_16 (fun H locs hw => ?_)
  exact cw_X6_pop_19 fu C hret (fup F 56 ((F 56) - (1 : Int32))) G hm hw (lv_sub hl [0] rfl)
theorem cn_X6_pop_7 (fu : Nat) {res : Int32 × PF × PG} (F : PF) (G : PG) (hm : cb_X6_pop_7 fu F G = some res) : xn F ≤ xn res.2.1 := by
  unfold cb_X6_pop_7 at hm
  obtain rfl := Option.some.inj hm
  exact Nat.le_refl _
theorem cw_X6_pop_7 (fu : Nat) {res : Int32 × PF × PG} (C : cMC p R s m args c A v RX6 cX6_pop 1 0 0 (xn res.2.1 - xn K0)) (hret : ∀ (b1 : Nat) (H1 : Heap) (locs1 : List Loc) (ls1 : Array Slot) (pc : Nat), cMW s A v a b1 K0 res.2.1 res.2.2 H1 locs1 → narrow .int (.int res.1) = .int res.1 → decode cX6_pop pc = .ok (.ireturn, 1) → W p l e R s m args below meth c H1 locs1 (xn res.2.1 - xn K0) (2 * (xn res.2.1 - xn K0)) Q (F0 m pc ls1 [.int res.1])) (F : PF) (G : PG) (hm : cb_X6_pop_7 fu F G = some res) {b : Nat} {H : Heap} {locs : List Loc} (hw : cMW s A v a b K0 F G H locs) {ls : Array Slot} (hl : lv_has ls 1 []) : W p l e R s m args below meth c H locs (xn F - xn K0) (2 * (xn F - xn K0)) Q (F0 m 7 ls []) := by
  have hx := C.1
  have hb := C.2.1
  unfold cb_X6_pop_7 at hm
  refine lv_iconst (v := 0) hx hb dX6_pop_7 (by decide) ?_
  obtain rfl := Option.some.inj hm
  exact hret _ _ _ _ _ hw rfl dX6_pop_8
theorem cn_X6_pop_0 (fu : Nat) {res : Int32 × PF × PG} (F : PF) (G : PG) (hm : cb_X6_pop_0 fu F G = some res) : xn F ≤ xn res.2.1 := by
  unfold cb_X6_pop_0 at hm
  by_cases c_1 : (0 : Int32) < (F 56)
  · have hm := (if_pos c_1).symm.trans hm
    exact (cn_X6_pop_9 fu F G hm)
  · have hm := (if_neg c_1).symm.trans hm
    exact (cn_X6_pop_7 fu F G hm)
theorem cw_X6_pop_0 (fu : Nat) {res : Int32 × PF × PG} (C : cMC p R s m args c A v RX6 cX6_pop 1 0 0 (xn res.2.1 - xn K0)) (hret : ∀ (b1 : Nat) (H1 : Heap) (locs1 : List Loc) (ls1 : Array Slot) (pc : Nat), cMW s A v a b1 K0 res.2.1 res.2.2 H1 locs1 → narrow .int (.int res.1) = .int res.1 → decode cX6_pop pc = .ok (.ireturn, 1) → W p l e R s m args below meth c H1 locs1 (xn res.2.1 - xn K0) (2 * (xn res.2.1 - xn K0)) Q (F0 m pc ls1 [.int res.1])) (F : PF) (G : PG) (hm : cb_X6_pop_0 fu F G = some res) {b : Nat} {H : Heap} {locs : List Loc} (hw : cMW s A v a b K0 F G H locs) {ls : Array Slot} (hl : lv_has ls 1 [(0, .ref (a 206))]) : W p l e R s m args below meth c H locs (xn F - xn K0) (2 * (xn F - xn K0)) Q (F0 m 0 ls []) := by
  have hx := C.1
  have hb := C.2.1
  unfold cb_X6_pop_0 at hm
  refine lv_aload_n hx hb dX6_pop_0 rfl (lv_at hl 0 rfl) ?_
  refine cg_X6_49 C hw dX6_pop_1 ?_
  refine lv_if_gt (tgt := 9) hx hb dX6_pop_4 (by decide) (fun c_1 => ?_) (fun c_1 => ?_)
  · have hm := (if_pos c_1).symm.trans hm
    exact cw_X6_pop_9 fu C hret F G hm hw (lv_sub hl [0] rfl)
  · have hm := (if_neg c_1).symm.trans hm
    exact cw_X6_pop_7 fu C hret F G hm hw (lv_sub hl [] rfl)
theorem cn_X6_pop (fu : Nat) (F : PF) (G : PG) (q : Int32 × PF × PG) (hm : cf_X6_pop fu F G = some q) : xn F ≤ xn q.2.1 := cn_X6_pop_0 fu F G hm
theorem ck_X6_pop (l : Launch) (v : EV) (a : Nat → Nat) (b sz : Nat) (fu : Nat) (F : PF) (G : PG) (r : Int32) (F1 : PF) (G1 : PG) (hm : cf_X6_pop fu F G = some (r, F1, G1)) : cMI l yX6_pop cX6_pop 1 (some .int) 0 0 v a b sz [.ref (a 206)] F G r F1 G1 := cMI.of (ty := .int) (by decide) rfl (Nat.le_of_ble_eq_true rfl) (fun p e R s m args below meth c Q A H locs ls C hw hl hret => cw_X6_pop_0 fu (res := (r, F1, G1)) C hret F G hm hw hl)
def cb_X6_jump_78 (fu : Nat) (F : PF) (G : PG) : PR := some (0, F, G)
def cb_X6_jump_73 (fu : Nat) (x2 : Int32) (F : PF) (G : PG) : PR := cb_X6_jump_78 fu (fup F 57 x2) G
def cb_X6_jump_69 (fu : Nat) (x2 : Int32) (x3 : Int32) (F : PF) (G : PG) : PR := if x3 = (0 : Int32) then cb_X6_jump_78 fu F G else cb_X6_jump_73 fu x2 F G
def cb_X6_jump_66 (fu : Nat) (x2 : Int32) (x3 : Int32) (z0 : Int32) (F : PF) (G : PG) : PR := (cf_X6_push fu z0 F G).bind (fun q => cb_X6_jump_69 fu x2 x3 q.2.1 q.2.2)
def cb_X6_jump_60 (fu : Nat) (x2 : Int32) (x3 : Int32) (x4 : Int32) (F : PF) (G : PG) : PR := (cf_X11_truth fu x4 F G).bind (fun q => cb_X6_jump_66 fu x2 x3 q.1 q.2.1 q.2.2)
def cb_X6_jump_54 (fu : Nat) (x1 : Int32) (x2 : Int32) (x3 : Int32) (x4 : Int32) (F : PF) (G : PG) : PR := if x1 < (87 : Int32) then cb_X6_jump_69 fu x2 x3 F G else cb_X6_jump_60 fu x2 x3 x4 F G
def cb_X6_jump_49 (fu : Nat) (x1 : Int32) (x2 : Int32) (x4 : Int32) (z0 : Int32) (F : PF) (G : PG) : PR := if z0 = (0 : Int32) then cb_X6_jump_69 fu x2 z0 F G else cb_X6_jump_54 fu x1 x2 z0 x4 F G
def cb_X6_jump_48 (fu : Nat) (x1 : Int32) (x2 : Int32) (x4 : Int32) (F : PF) (G : PG) : PR := cb_X6_jump_49 fu x1 x2 x4 0 F G
def cb_X6_jump_44 (fu : Nat) (x1 : Int32) (x2 : Int32) (x4 : Int32) (F : PF) (G : PG) : PR := cb_X6_jump_49 fu x1 x2 x4 1 F G
def cb_X6_jump_41 (fu : Nat) (x1 : Int32) (x2 : Int32) (x4 : Int32) (z0 : Int32) (z1 : Int32) (F : PF) (G : PG) : PR := if z1 = z0 then cb_X6_jump_44 fu x1 x2 x4 F G else cb_X6_jump_48 fu x1 x2 x4 F G
def cb_X6_jump_36 (fu : Nat) (x1 : Int32) (x2 : Int32) (x4 : Int32) (z0 : Int32) (F : PF) (G : PG) : PR := cb_X6_jump_41 fu x1 x2 x4 1 z0 F G
def cb_X6_jump_40 (fu : Nat) (x1 : Int32) (x2 : Int32) (x4 : Int32) (z0 : Int32) (F : PF) (G : PG) : PR := cb_X6_jump_41 fu x1 x2 x4 0 z0 F G
def cb_X6_jump_30 (fu : Nat) (x1 : Int32) (x2 : Int32) (x4 : Int32) (z0 : Int32) (F : PF) (G : PG) : PR := if x1 = (87 : Int32) then cb_X6_jump_36 fu x1 x2 x4 z0 F G else cb_X6_jump_40 fu x1 x2 x4 z0 F G
def cb_X6_jump_20 (fu : Nat) (x1 : Int32) (x2 : Int32) (z0 : Int32) (F : PF) (G : PG) : PR := if x1 = (85 : Int32) then cb_X6_jump_36 fu x1 x2 z0 z0 F G else cb_X6_jump_30 fu x1 x2 z0 z0 F G
def cb_X6_jump_19 (fu : Nat) (x1 : Int32) (x2 : Int32) (F : PF) (G : PG) : PR := cb_X6_jump_20 fu x1 x2 0 F G
def cb_X6_jump_15 (fu : Nat) (x1 : Int32) (x2 : Int32) (F : PF) (G : PG) : PR := cb_X6_jump_20 fu x1 x2 1 F G
def cb_X6_jump_12 (fu : Nat) (x1 : Int32) (x2 : Int32) (z0 : Int32) (F : PF) (G : PG) : PR := if z0 = (0 : Int32) then cb_X6_jump_19 fu x1 x2 F G else cb_X6_jump_15 fu x1 x2 F G
def cb_X6_jump_8 (fu : Nat) (x1 : Int32) (x2 : Int32) (F : PF) (G : PG) : PR := (cf_X6_pop fu F G).bind (fun q => cb_X6_jump_12 fu x1 x2 q.1 q.2.1 q.2.2)
def cb_X6_jump_0 (fu : Nat) (x1 : Int32) (x2 : Int32) (F : PF) (G : PG) : PR := if x1 = (84 : Int32) then cb_X6_jump_69 fu x2 1 F G else cb_X6_jump_8 fu x1 x2 F G
def cf_X6_jump (fu : Nat) (x1 : Int32) (x2 : Int32) (F : PF) (G : PG) : PR := cb_X6_jump_0 fu x1 x2 F G
theorem cn_X6_jump_78 (fu : Nat) {res : Int32 × PF × PG} (F : PF) (G : PG) (hm : cb_X6_jump_78 fu F G = some res) : xn F ≤ xn res.2.1 := by
  unfold cb_X6_jump_78 at hm
  obtain rfl := Option.some.inj hm
  exact Nat.le_refl _
theorem cw_X6_jump_78 (fu : Nat) {res : Int32 × PF × PG} (C : cMC p R s m args c A v RX6 cX6_jump 5 3 111 (xn res.2.1 - xn K0)) (hret : ∀ (b1 : Nat) (H1 : Heap) (locs1 : List Loc) (ls1 : Array Slot) (pc : Nat), cMW s A v a b1 K0 res.2.1 res.2.2 H1 locs1 → decode cX6_jump pc = .ok (.return_, 1) → W p l e R s m args below meth c H1 locs1 (xn res.2.1 - xn K0) (2 * (xn res.2.1 - xn K0)) Q (F0 m pc ls1 [])) (F : PF) (G : PG) (hm : cb_X6_jump_78 fu F G = some res) {b : Nat} {H : Heap} {locs : List Loc} (hw : cMW s A v a b K0 F G H locs) {ls : Array Slot} (hl : lv_has ls 5 []) : W p l e R s m args below meth c H locs (xn F - xn K0) (2 * (xn F - xn K0)) Q (F0 m 78 ls []) := by
  have hx := C.1
  have hb := C.2.1
  unfold cb_X6_jump_78 at hm
  obtain rfl := Option.some.inj hm
  exact hret _ _ _ _ _ hw dX6_jump_78
theorem cn_X6_jump_73 (fu : Nat) {res : Int32 × PF × PG} (x2 : Int32) (F : PF) (G : PG) (hm : cb_X6_jump_73 fu x2 F G = some res) : xn F ≤ xn res.2.1 := by
  unfold cb_X6_jump_73 at hm
  exact Nat.le_trans (Nat.le_of_eq (xn_fup (by decide)).symm) (cn_X6_jump_78 fu (fup F 57 x2) G hm)
theorem cw_X6_jump_73 (fu : Nat) {res : Int32 × PF × PG} (C : cMC p R s m args c A v RX6 cX6_jump 5 3 111 (xn res.2.1 - xn K0)) (hret : ∀ (b1 : Nat) (H1 : Heap) (locs1 : List Loc) (ls1 : Array Slot) (pc : Nat), cMW s A v a b1 K0 res.2.1 res.2.2 H1 locs1 → decode cX6_jump pc = .ok (.return_, 1) → W p l e R s m args below meth c H1 locs1 (xn res.2.1 - xn K0) (2 * (xn res.2.1 - xn K0)) Q (F0 m pc ls1 [])) (x2 : Int32) (F : PF) (G : PG) (hm : cb_X6_jump_73 fu x2 F G = some res) {b : Nat} {H : Heap} {locs : List Loc} (hw : cMW s A v a b K0 F G H locs) {ls : Array Slot} (hl : lv_has ls 5 [(0, .ref (a 206)), (2, .int x2)]) : W p l e R s m args below meth c H locs (xn F - xn K0) (2 * (xn F - xn K0)) Q (F0 m 73 ls []) := by
  have hx := C.1
  have hb := C.2.1
  unfold cb_X6_jump_73 at hm
  refine lv_aload_n hx hb dX6_jump_73 rfl (lv_at hl 0 rfl) ?_
  refine lv_iload_n hx hb dX6_jump_74 rfl (lv_at hl 1 rfl) ?_
  refine cp_X6_70 C hw dX6_jump_75 (fun H locs hw => ?_)
  exact cw_X6_jump_78 fu C hret (fup F 57 x2) G hm hw (lv_sub hl [] rfl)
theorem cn_X6_jump_69 (fu : Nat) {res : Int32 × PF × PG} (x2 : Int32) (x3 : Int32) (F : PF) (G : PG) (hm : cb_X6_jump_69 fu x2 x3 F G = some res) : xn F ≤ xn res.2.1 := by
  unfold cb_X6_jump_69 at hm
  by_cases c_1 : x3 = (0 : Int32)
  · have hm := (if_pos c_1).symm.trans hm
    exact (cn_X6_jump_78 fu F G hm)
  · have hm := (if_neg c_1).symm.trans hm
    exact (cn_X6_jump_73 fu x2 F G hm)
theorem cw_X6_jump_69 (fu : Nat) {res : Int32 × PF × PG} (C : cMC p R s m args c A v RX6 cX6_jump 5 3 111 (xn res.2.1 - xn K0)) (hret : ∀ (b1 : Nat) (H1 : Heap) (locs1 : List Loc) (ls1 : Array Slot) (pc : Nat), cMW s A v a b1 K0 res.2.1 res.2.2 H1 locs1 → decode cX6_jump pc = .ok (.return_, 1) → W p l e R s m args below meth c H1 locs1 (xn res.2.1 - xn K0) (2 * (xn res.2.1 - xn K0)) Q (F0 m pc ls1 [])) (x2 : Int32) (x3 : Int32) (F : PF) (G : PG) (hm : cb_X6_jump_69 fu x2 x3 F G = some res) {b : Nat} {H : Heap} {locs : List Loc} (hw : cMW s A v a b K0 F G H locs) {ls : Array Slot} (hl : lv_has ls 5 [(0, .ref (a 206)), (2, .int x2), (3, .int x3)]) : W p l e R s m args below meth c H locs (xn F - xn K0) (2 * (xn F - xn K0)) Q (F0 m 69 ls []) := by
  have hx := C.1
  have hb := C.2.1
  unfold cb_X6_jump_69 at hm
  refine lv_iload_n hx hb dX6_jump_69 rfl (lv_at hl 2 rfl) ?_
  refine lv_if_eq (tgt := 78) hx hb dX6_jump_70 (by decide) (fun c_1 => ?_) (fun c_1 => ?_)
  · have hm := (if_pos c_1).symm.trans hm
    exact cw_X6_jump_78 fu C hret F G hm hw (lv_sub hl [] rfl)
  · have hm := (if_neg c_1).symm.trans hm
    exact cw_X6_jump_73 fu C hret x2 F G hm hw (lv_sub hl [0, 1] rfl)
theorem cn_X6_jump_66 (fu : Nat) {res : Int32 × PF × PG} (x2 : Int32) (x3 : Int32) (z0 : Int32) (F : PF) (G : PG) (hm : cb_X6_jump_66 fu x2 x3 z0 F G = some res) : xn F ≤ xn res.2.1 := by
  unfold cb_X6_jump_66 at hm
  obtain ⟨⟨r1, F1, G1⟩, hc, hm⟩ := bind_elim hm
  exact Nat.le_trans (cn_X6_push fu z0 F G _ hc) (cn_X6_jump_69 fu x2 x3 F1 G1 hm)
theorem cw_X6_jump_66 (fu : Nat) {res : Int32 × PF × PG} (C : cMC p R s m args c A v RX6 cX6_jump 5 3 111 (xn res.2.1 - xn K0)) (hret : ∀ (b1 : Nat) (H1 : Heap) (locs1 : List Loc) (ls1 : Array Slot) (pc : Nat), cMW s A v a b1 K0 res.2.1 res.2.2 H1 locs1 → decode cX6_jump pc = .ok (.return_, 1) → W p l e R s m args below meth c H1 locs1 (xn res.2.1 - xn K0) (2 * (xn res.2.1 - xn K0)) Q (F0 m pc ls1 [])) (x2 : Int32) (x3 : Int32) (z0 : Int32) (F : PF) (G : PG) (hm : cb_X6_jump_66 fu x2 x3 z0 F G = some res) {b : Nat} {H : Heap} {locs : List Loc} (hw : cMW s A v a b K0 F G H locs) {ls : Array Slot} (hl : lv_has ls 5 [(0, .ref (a 206)), (2, .int x2), (3, .int x3)]) : W p l e R s m args below meth c H locs (xn F - xn K0) (2 * (xn F - xn K0)) Q (F0 m 66 ls [.int z0, .ref (a 206)]) := by
  have hx := C.1
  have hb := C.2.1
  unfold cb_X6_jump_66 at hm
  obtain ⟨⟨r1, F1, G1⟩, hc, hm⟩ := bind_elim hm
  refine ccallV (n := 1) (As := [.int z0]) (rest := []) C hw (ck_X6_push l v a _ _ fu z0 F G r1 F1 G1 hc) (cn_X6_push fu z0 F G _ hc) (Nat.sub_le_sub_right (cn_X6_jump_69 fu x2 x3 F1 G1 hm) _) (crecv_X6 C hw) cm_533 cm_534 cm_535 cm_21 cm_536 (by decide +kernel) rfl (by omega) (by omega) hl.1 rfl (Nat.le_of_ble_eq_true rfl) dX6_jump_66 (fun b H locs hw => ?_)
  exact cw_X6_jump_69 fu C hret x2 x3 F1 G1 hm hw (lv_sub hl [0, 1, 2] rfl)
theorem cn_X6_jump_60 (fu : Nat) {res : Int32 × PF × PG} (x2 : Int32) (x3 : Int32) (x4 : Int32) (F : PF) (G : PG) (hm : cb_X6_jump_60 fu x2 x3 x4 F G = some res) : xn F ≤ xn res.2.1 := by
  unfold cb_X6_jump_60 at hm
  obtain ⟨⟨r1, F1, G1⟩, hc, hm⟩ := bind_elim hm
  exact Nat.le_trans (cn_X11_truth fu x4 F G _ hc) (cn_X6_jump_66 fu x2 x3 r1 F1 G1 hm)
theorem cw_X6_jump_60 (fu : Nat) {res : Int32 × PF × PG} (C : cMC p R s m args c A v RX6 cX6_jump 5 3 111 (xn res.2.1 - xn K0)) (hret : ∀ (b1 : Nat) (H1 : Heap) (locs1 : List Loc) (ls1 : Array Slot) (pc : Nat), cMW s A v a b1 K0 res.2.1 res.2.2 H1 locs1 → decode cX6_jump pc = .ok (.return_, 1) → W p l e R s m args below meth c H1 locs1 (xn res.2.1 - xn K0) (2 * (xn res.2.1 - xn K0)) Q (F0 m pc ls1 [])) (x2 : Int32) (x3 : Int32) (x4 : Int32) (F : PF) (G : PG) (hm : cb_X6_jump_60 fu x2 x3 x4 F G = some res) {b : Nat} {H : Heap} {locs : List Loc} (hw : cMW s A v a b K0 F G H locs) {ls : Array Slot} (hl : lv_has ls 5 [(0, .ref (a 206)), (2, .int x2), (3, .int x3), (4, .int x4)]) : W p l e R s m args below meth c H locs (xn F - xn K0) (2 * (xn F - xn K0)) Q (F0 m 60 ls []) := by
  have hx := C.1
  have hb := C.2.1
  unfold cb_X6_jump_60 at hm
  refine lv_aload_n hx hb dX6_jump_60 rfl (lv_at hl 0 rfl) ?_
  refine lv_iload hx hb dX6_jump_61 (lv_at hl 3 rfl) ?_
  obtain ⟨⟨r1, F1, G1⟩, hc, hm⟩ := bind_elim hm
  refine ccallIN (n := 1) (As := [.int x4]) (rest := [.ref (a 206)]) C hw (ck_X11_truth l v a _ _ fu x4 F G r1 F1 G1 hc) (cn_X11_truth fu x4 F G _ hc) (Nat.sub_le_sub_right (cn_X6_jump_66 fu x2 x3 r1 F1 G1 hm) _) C.2.2.2.2.2.2.2.2.2.1.2.2.2.2.2.2.2.2.2.2.2.2.2.2.2.2.2.2.2.2.2.2.2.1 cm_562 cm_563 cm_564 (by decide +kernel) rfl (by omega) (by omega) hl.1 rfl (Nat.le_of_ble_eq_true rfl) dX6_jump_63 (fun b H locs hw => ?_)
  exact cw_X6_jump_66 fu C hret x2 x3 r1 F1 G1 hm hw (lv_sub hl [0, 1, 2] rfl)
theorem cn_X6_jump_54 (fu : Nat) {res : Int32 × PF × PG} (x1 : Int32) (x2 : Int32) (x3 : Int32) (x4 : Int32) (F : PF) (G : PG) (hm : cb_X6_jump_54 fu x1 x2 x3 x4 F G = some res) : xn F ≤ xn res.2.1 := by
  unfold cb_X6_jump_54 at hm
  by_cases c_1 : x1 < (87 : Int32)
  · have hm := (if_pos c_1).symm.trans hm
    exact (cn_X6_jump_69 fu x2 x3 F G hm)
  · have hm := (if_neg c_1).symm.trans hm
    exact (cn_X6_jump_60 fu x2 x3 x4 F G hm)
theorem cw_X6_jump_54 (fu : Nat) {res : Int32 × PF × PG} (C : cMC p R s m args c A v RX6 cX6_jump 5 3 111 (xn res.2.1 - xn K0)) (hret : ∀ (b1 : Nat) (H1 : Heap) (locs1 : List Loc) (ls1 : Array Slot) (pc : Nat), cMW s A v a b1 K0 res.2.1 res.2.2 H1 locs1 → decode cX6_jump pc = .ok (.return_, 1) → W p l e R s m args below meth c H1 locs1 (xn res.2.1 - xn K0) (2 * (xn res.2.1 - xn K0)) Q (F0 m pc ls1 [])) (x1 : Int32) (x2 : Int32) (x3 : Int32) (x4 : Int32) (F : PF) (G : PG) (hm : cb_X6_jump_54 fu x1 x2 x3 x4 F G = some res) {b : Nat} {H : Heap} {locs : List Loc} (hw : cMW s A v a b K0 F G H locs) {ls : Array Slot} (hl : lv_has ls 5 [(0, .ref (a 206)), (1, .int x1), (2, .int x2), (3, .int x3), (4, .int x4)]) : W p l e R s m args below meth c H locs (xn F - xn K0) (2 * (xn F - xn K0)) Q (F0 m 54 ls []) := by
  have hx := C.1
  have hb := C.2.1
  unfold cb_X6_jump_54 at hm
  refine lv_iload_n hx hb dX6_jump_54 rfl (lv_at hl 1 rfl) ?_
  refine lv_bipush (v := 87) hx hb dX6_jump_55 (by decide) ?_
  refine lv_icmp_lt (tgt := 69) hx hb dX6_jump_57 (by decide) (fun c_1 => ?_) (fun c_1 => ?_)
  · have hm := (if_pos c_1).symm.trans hm
    exact cw_X6_jump_69 fu C hret x2 x3 F G hm hw (lv_sub hl [0, 2, 3] rfl)
  · have hm := (if_neg c_1).symm.trans hm
    exact cw_X6_jump_60 fu C hret x2 x3 x4 F G hm hw (lv_sub hl [0, 2, 3, 4] rfl)
theorem cn_X6_jump_49 (fu : Nat) {res : Int32 × PF × PG} (x1 : Int32) (x2 : Int32) (x4 : Int32) (z0 : Int32) (F : PF) (G : PG) (hm : cb_X6_jump_49 fu x1 x2 x4 z0 F G = some res) : xn F ≤ xn res.2.1 := by
  unfold cb_X6_jump_49 at hm
  by_cases c_1 : z0 = (0 : Int32)
  · have hm := (if_pos c_1).symm.trans hm
    exact (cn_X6_jump_69 fu x2 z0 F G hm)
  · have hm := (if_neg c_1).symm.trans hm
    exact (cn_X6_jump_54 fu x1 x2 z0 x4 F G hm)
theorem cw_X6_jump_49 (fu : Nat) {res : Int32 × PF × PG} (C : cMC p R s m args c A v RX6 cX6_jump 5 3 111 (xn res.2.1 - xn K0)) (hret : ∀ (b1 : Nat) (H1 : Heap) (locs1 : List Loc) (ls1 : Array Slot) (pc : Nat), cMW s A v a b1 K0 res.2.1 res.2.2 H1 locs1 → decode cX6_jump pc = .ok (.return_, 1) → W p l e R s m args below meth c H1 locs1 (xn res.2.1 - xn K0) (2 * (xn res.2.1 - xn K0)) Q (F0 m pc ls1 [])) (x1 : Int32) (x2 : Int32) (x4 : Int32) (z0 : Int32) (F : PF) (G : PG) (hm : cb_X6_jump_49 fu x1 x2 x4 z0 F G = some res) {b : Nat} {H : Heap} {locs : List Loc} (hw : cMW s A v a b K0 F G H locs) {ls : Array Slot} (hl : lv_has ls 5 [(0, .ref (a 206)), (1, .int x1), (2, .int x2), (4, .int x4)]) : W p l e R s m args below meth c H locs (xn F - xn K0) (2 * (xn F - xn K0)) Q (F0 m 49 ls [.int z0]) := by
  have hx := C.1
  have hb := C.2.1
  unfold cb_X6_jump_49 at hm
  refine lv_istore_n (lv' := [(3, .int z0), (0, .ref (a 206)), (1, .int x1), (2, .int x2), (4, .int x4)]) hx hb dX6_jump_49 rfl hl (by decide) rfl (fun ls hl => ?_)
  refine lv_iload_n hx hb dX6_jump_50 rfl (lv_at hl 0 rfl) ?_
  refine lv_if_eq (tgt := 69) hx hb dX6_jump_51 (by decide) (fun c_1 => ?_) (fun c_1 => ?_)
  · have hm := (if_pos c_1).symm.trans hm
    exact cw_X6_jump_69 fu C hret x2 z0 F G hm hw (lv_sub hl [1, 3, 0] rfl)
  · have hm := (if_neg c_1).symm.trans hm
    exact cw_X6_jump_54 fu C hret x1 x2 z0 x4 F G hm hw (lv_sub hl [1, 2, 3, 0, 4] rfl)
theorem cn_X6_jump_48 (fu : Nat) {res : Int32 × PF × PG} (x1 : Int32) (x2 : Int32) (x4 : Int32) (F : PF) (G : PG) (hm : cb_X6_jump_48 fu x1 x2 x4 F G = some res) : xn F ≤ xn res.2.1 := by
  unfold cb_X6_jump_48 at hm
  exact (cn_X6_jump_49 fu x1 x2 x4 0 F G hm)
theorem cw_X6_jump_48 (fu : Nat) {res : Int32 × PF × PG} (C : cMC p R s m args c A v RX6 cX6_jump 5 3 111 (xn res.2.1 - xn K0)) (hret : ∀ (b1 : Nat) (H1 : Heap) (locs1 : List Loc) (ls1 : Array Slot) (pc : Nat), cMW s A v a b1 K0 res.2.1 res.2.2 H1 locs1 → decode cX6_jump pc = .ok (.return_, 1) → W p l e R s m args below meth c H1 locs1 (xn res.2.1 - xn K0) (2 * (xn res.2.1 - xn K0)) Q (F0 m pc ls1 [])) (x1 : Int32) (x2 : Int32) (x4 : Int32) (F : PF) (G : PG) (hm : cb_X6_jump_48 fu x1 x2 x4 F G = some res) {b : Nat} {H : Heap} {locs : List Loc} (hw : cMW s A v a b K0 F G H locs) {ls : Array Slot} (hl : lv_has ls 5 [(0, .ref (a 206)), (1, .int x1), (2, .int x2), (4, .int x4)]) : W p l e R s m args below meth c H locs (xn F - xn K0) (2 * (xn F - xn K0)) Q (F0 m 48 ls []) := by
  have hx := C.1
  have hb := C.2.1
  unfold cb_X6_jump_48 at hm
  refine lv_iconst (v := 0) hx hb dX6_jump_48 (by decide) ?_
  exact cw_X6_jump_49 fu C hret x1 x2 x4 0 F G hm hw (lv_sub hl [0, 1, 2, 3] rfl)
theorem cn_X6_jump_44 (fu : Nat) {res : Int32 × PF × PG} (x1 : Int32) (x2 : Int32) (x4 : Int32) (F : PF) (G : PG) (hm : cb_X6_jump_44 fu x1 x2 x4 F G = some res) : xn F ≤ xn res.2.1 := by
  unfold cb_X6_jump_44 at hm
  exact (cn_X6_jump_49 fu x1 x2 x4 1 F G hm)
theorem cw_X6_jump_44 (fu : Nat) {res : Int32 × PF × PG} (C : cMC p R s m args c A v RX6 cX6_jump 5 3 111 (xn res.2.1 - xn K0)) (hret : ∀ (b1 : Nat) (H1 : Heap) (locs1 : List Loc) (ls1 : Array Slot) (pc : Nat), cMW s A v a b1 K0 res.2.1 res.2.2 H1 locs1 → decode cX6_jump pc = .ok (.return_, 1) → W p l e R s m args below meth c H1 locs1 (xn res.2.1 - xn K0) (2 * (xn res.2.1 - xn K0)) Q (F0 m pc ls1 [])) (x1 : Int32) (x2 : Int32) (x4 : Int32) (F : PF) (G : PG) (hm : cb_X6_jump_44 fu x1 x2 x4 F G = some res) {b : Nat} {H : Heap} {locs : List Loc} (hw : cMW s A v a b K0 F G H locs) {ls : Array Slot} (hl : lv_has ls 5 [(0, .ref (a 206)), (1, .int x1), (2, .int x2), (4, .int x4)]) : W p l e R s m args below meth c H locs (xn F - xn K0) (2 * (xn F - xn K0)) Q (F0 m 44 ls []) := by
  have hx := C.1
  have hb := C.2.1
  unfold cb_X6_jump_44 at hm
  refine lv_iconst (v := 1) hx hb dX6_jump_44 (by decide) ?_
  refine lv_goto (tgt := 49) hx hb dX6_jump_45 (by decide) ?_
  exact cw_X6_jump_49 fu C hret x1 x2 x4 1 F G hm hw (lv_sub hl [0, 1, 2, 3] rfl)
theorem cn_X6_jump_41 (fu : Nat) {res : Int32 × PF × PG} (x1 : Int32) (x2 : Int32) (x4 : Int32) (z0 : Int32) (z1 : Int32) (F : PF) (G : PG) (hm : cb_X6_jump_41 fu x1 x2 x4 z0 z1 F G = some res) : xn F ≤ xn res.2.1 := by
  unfold cb_X6_jump_41 at hm
  by_cases c_1 : z1 = z0
  · have hm := (if_pos c_1).symm.trans hm
    exact (cn_X6_jump_44 fu x1 x2 x4 F G hm)
  · have hm := (if_neg c_1).symm.trans hm
    exact (cn_X6_jump_48 fu x1 x2 x4 F G hm)
theorem cw_X6_jump_41 (fu : Nat) {res : Int32 × PF × PG} (C : cMC p R s m args c A v RX6 cX6_jump 5 3 111 (xn res.2.1 - xn K0)) (hret : ∀ (b1 : Nat) (H1 : Heap) (locs1 : List Loc) (ls1 : Array Slot) (pc : Nat), cMW s A v a b1 K0 res.2.1 res.2.2 H1 locs1 → decode cX6_jump pc = .ok (.return_, 1) → W p l e R s m args below meth c H1 locs1 (xn res.2.1 - xn K0) (2 * (xn res.2.1 - xn K0)) Q (F0 m pc ls1 [])) (x1 : Int32) (x2 : Int32) (x4 : Int32) (z0 : Int32) (z1 : Int32) (F : PF) (G : PG) (hm : cb_X6_jump_41 fu x1 x2 x4 z0 z1 F G = some res) {b : Nat} {H : Heap} {locs : List Loc} (hw : cMW s A v a b K0 F G H locs) {ls : Array Slot} (hl : lv_has ls 5 [(0, .ref (a 206)), (1, .int x1), (2, .int x2), (4, .int x4)]) : W p l e R s m args below meth c H locs (xn F - xn K0) (2 * (xn F - xn K0)) Q (F0 m 41 ls [.int z0, .int z1]) := by
  have hx := C.1
  have hb := C.2.1
  unfold cb_X6_jump_41 at hm
  refine lv_icmp_ne (tgt := 48) hx hb dX6_jump_41 (by decide) (fun c_1 => ?_) (fun c_1 => ?_)
  · have hm := (if_neg c_1).symm.trans hm
    exact cw_X6_jump_48 fu C hret x1 x2 x4 F G hm hw (lv_sub hl [0, 1, 2, 3] rfl)
  · have hm := (if_pos c_1).symm.trans hm
    exact cw_X6_jump_44 fu C hret x1 x2 x4 F G hm hw (lv_sub hl [0, 1, 2, 3] rfl)
theorem cn_X6_jump_36 (fu : Nat) {res : Int32 × PF × PG} (x1 : Int32) (x2 : Int32) (x4 : Int32) (z0 : Int32) (F : PF) (G : PG) (hm : cb_X6_jump_36 fu x1 x2 x4 z0 F G = some res) : xn F ≤ xn res.2.1 := by
  unfold cb_X6_jump_36 at hm
  exact (cn_X6_jump_41 fu x1 x2 x4 1 z0 F G hm)
theorem cw_X6_jump_36 (fu : Nat) {res : Int32 × PF × PG} (C : cMC p R s m args c A v RX6 cX6_jump 5 3 111 (xn res.2.1 - xn K0)) (hret : ∀ (b1 : Nat) (H1 : Heap) (locs1 : List Loc) (ls1 : Array Slot) (pc : Nat), cMW s A v a b1 K0 res.2.1 res.2.2 H1 locs1 → decode cX6_jump pc = .ok (.return_, 1) → W p l e R s m args below meth c H1 locs1 (xn res.2.1 - xn K0) (2 * (xn res.2.1 - xn K0)) Q (F0 m pc ls1 [])) (x1 : Int32) (x2 : Int32) (x4 : Int32) (z0 : Int32) (F : PF) (G : PG) (hm : cb_X6_jump_36 fu x1 x2 x4 z0 F G = some res) {b : Nat} {H : Heap} {locs : List Loc} (hw : cMW s A v a b K0 F G H locs) {ls : Array Slot} (hl : lv_has ls 5 [(0, .ref (a 206)), (1, .int x1), (2, .int x2), (4, .int x4)]) : W p l e R s m args below meth c H locs (xn F - xn K0) (2 * (xn F - xn K0)) Q (F0 m 36 ls [.int z0]) := by
  have hx := C.1
  have hb := C.2.1
  unfold cb_X6_jump_36 at hm
  refine lv_iconst (v := 1) hx hb dX6_jump_36 (by decide) ?_
  refine lv_goto (tgt := 41) hx hb dX6_jump_37 (by decide) ?_
  exact cw_X6_jump_41 fu C hret x1 x2 x4 1 z0 F G hm hw (lv_sub hl [0, 1, 2, 3] rfl)
theorem cn_X6_jump_40 (fu : Nat) {res : Int32 × PF × PG} (x1 : Int32) (x2 : Int32) (x4 : Int32) (z0 : Int32) (F : PF) (G : PG) (hm : cb_X6_jump_40 fu x1 x2 x4 z0 F G = some res) : xn F ≤ xn res.2.1 := by
  unfold cb_X6_jump_40 at hm
  exact (cn_X6_jump_41 fu x1 x2 x4 0 z0 F G hm)
theorem cw_X6_jump_40 (fu : Nat) {res : Int32 × PF × PG} (C : cMC p R s m args c A v RX6 cX6_jump 5 3 111 (xn res.2.1 - xn K0)) (hret : ∀ (b1 : Nat) (H1 : Heap) (locs1 : List Loc) (ls1 : Array Slot) (pc : Nat), cMW s A v a b1 K0 res.2.1 res.2.2 H1 locs1 → decode cX6_jump pc = .ok (.return_, 1) → W p l e R s m args below meth c H1 locs1 (xn res.2.1 - xn K0) (2 * (xn res.2.1 - xn K0)) Q (F0 m pc ls1 [])) (x1 : Int32) (x2 : Int32) (x4 : Int32) (z0 : Int32) (F : PF) (G : PG) (hm : cb_X6_jump_40 fu x1 x2 x4 z0 F G = some res) {b : Nat} {H : Heap} {locs : List Loc} (hw : cMW s A v a b K0 F G H locs) {ls : Array Slot} (hl : lv_has ls 5 [(0, .ref (a 206)), (1, .int x1), (2, .int x2), (4, .int x4)]) : W p l e R s m args below meth c H locs (xn F - xn K0) (2 * (xn F - xn K0)) Q (F0 m 40 ls [.int z0]) := by
  have hx := C.1
  have hb := C.2.1
  unfold cb_X6_jump_40 at hm
  refine lv_iconst (v := 0) hx hb dX6_jump_40 (by decide) ?_
  exact cw_X6_jump_41 fu C hret x1 x2 x4 0 z0 F G hm hw (lv_sub hl [0, 1, 2, 3] rfl)
theorem cn_X6_jump_30 (fu : Nat) {res : Int32 × PF × PG} (x1 : Int32) (x2 : Int32) (x4 : Int32) (z0 : Int32) (F : PF) (G : PG) (hm : cb_X6_jump_30 fu x1 x2 x4 z0 F G = some res) : xn F ≤ xn res.2.1 := by
  unfold cb_X6_jump_30 at hm
  by_cases c_1 : x1 = (87 : Int32)
  · have hm := (if_pos c_1).symm.trans hm
    exact (cn_X6_jump_36 fu x1 x2 x4 z0 F G hm)
  · have hm := (if_neg c_1).symm.trans hm
    exact (cn_X6_jump_40 fu x1 x2 x4 z0 F G hm)
theorem cw_X6_jump_30 (fu : Nat) {res : Int32 × PF × PG} (C : cMC p R s m args c A v RX6 cX6_jump 5 3 111 (xn res.2.1 - xn K0)) (hret : ∀ (b1 : Nat) (H1 : Heap) (locs1 : List Loc) (ls1 : Array Slot) (pc : Nat), cMW s A v a b1 K0 res.2.1 res.2.2 H1 locs1 → decode cX6_jump pc = .ok (.return_, 1) → W p l e R s m args below meth c H1 locs1 (xn res.2.1 - xn K0) (2 * (xn res.2.1 - xn K0)) Q (F0 m pc ls1 [])) (x1 : Int32) (x2 : Int32) (x4 : Int32) (z0 : Int32) (F : PF) (G : PG) (hm : cb_X6_jump_30 fu x1 x2 x4 z0 F G = some res) {b : Nat} {H : Heap} {locs : List Loc} (hw : cMW s A v a b K0 F G H locs) {ls : Array Slot} (hl : lv_has ls 5 [(0, .ref (a 206)), (1, .int x1), (2, .int x2), (4, .int x4)]) : W p l e R s m args below meth c H locs (xn F - xn K0) (2 * (xn F - xn K0)) Q (F0 m 30 ls [.int z0]) := by
  have hx := C.1
  have hb := C.2.1
  unfold cb_X6_jump_30 at hm
  refine lv_iload_n hx hb dX6_jump_30 rfl (lv_at hl 1 rfl) ?_
  refine lv_bipush (v := 87) hx hb dX6_jump_31 (by decide) ?_
  refine lv_icmp_ne (tgt := 40) hx hb dX6_jump_33 (by decide) (fun c_1 => ?_) (fun c_1 => ?_)
  · have hm := (if_neg c_1).symm.trans hm
    exact cw_X6_jump_40 fu C hret x1 x2 x4 z0 F G hm hw (lv_sub hl [0, 1, 2, 3] rfl)
  · have hm := (if_pos c_1).symm.trans hm
    exact cw_X6_jump_36 fu C hret x1 x2 x4 z0 F G hm hw (lv_sub hl [0, 1, 2, 3] rfl)
theorem cn_X6_jump_20 (fu : Nat) {res : Int32 × PF × PG} (x1 : Int32) (x2 : Int32) (z0 : Int32) (F : PF) (G : PG) (hm : cb_X6_jump_20 fu x1 x2 z0 F G = some res) : xn F ≤ xn res.2.1 := by
  unfold cb_X6_jump_20 at hm
  by_cases c_1 : x1 = (85 : Int32)
  · have hm := (if_pos c_1).symm.trans hm
    exact (cn_X6_jump_36 fu x1 x2 z0 z0 F G hm)
  · have hm := (if_neg c_1).symm.trans hm
    exact (cn_X6_jump_30 fu x1 x2 z0 z0 F G hm)
theorem cw_X6_jump_20 (fu : Nat) {res : Int32 × PF × PG} (C : cMC p R s m args c A v RX6 cX6_jump 5 3 111 (xn res.2.1 - xn K0)) (hret : ∀ (b1 : Nat) (H1 : Heap) (locs1 : List Loc) (ls1 : Array Slot) (pc : Nat), cMW s A v a b1 K0 res.2.1 res.2.2 H1 locs1 → decode cX6_jump pc = .ok (.return_, 1) → W p l e R s m args below meth c H1 locs1 (xn res.2.1 - xn K0) (2 * (xn res.2.1 - xn K0)) Q (F0 m pc ls1 [])) (x1 : Int32) (x2 : Int32) (z0 : Int32) (F : PF) (G : PG) (hm : cb_X6_jump_20 fu x1 x2 z0 F G = some res) {b : Nat} {H : Heap} {locs : List Loc} (hw : cMW s A v a b K0 F G H locs) {ls : Array Slot} (hl : lv_has ls 5 [(0, .ref (a 206)), (1, .int x1), (2, .int x2)]) : W p l e R s m args below meth c H locs (xn F - xn K0) (2 * (xn F - xn K0)) Q (F0 m 20 ls [.int z0]) := by
  have hx := C.1
  have hb := C.2.1
  unfold cb_X6_jump_20 at hm
  refine lv_istore (lv' := [(4, .int z0), (0, .ref (a 206)), (1, .int x1), (2, .int x2)]) hx hb dX6_jump_20 hl (by decide) rfl (fun ls hl => ?_)
  refine lv_iload hx hb dX6_jump_22 (lv_at hl 0 rfl) ?_
  refine lv_iload_n hx hb dX6_jump_24 rfl (lv_at hl 2 rfl) ?_
  refine lv_bipush (v := 85) hx hb dX6_jump_25 (by decide) ?_
  refine lv_icmp_eq (tgt := 36) hx hb dX6_jump_27 (by decide) (fun c_1 => ?_) (fun c_1 => ?_)
  · have hm := (if_pos c_1).symm.trans hm
    exact cw_X6_jump_36 fu C hret x1 x2 z0 z0 F G hm hw (lv_sub hl [1, 2, 3, 0] rfl)
  · have hm := (if_neg c_1).symm.trans hm
    exact cw_X6_jump_30 fu C hret x1 x2 z0 z0 F G hm hw (lv_sub hl [1, 2, 3, 0] rfl)
theorem cn_X6_jump_19 (fu : Nat) {res : Int32 × PF × PG} (x1 : Int32) (x2 : Int32) (F : PF) (G : PG) (hm : cb_X6_jump_19 fu x1 x2 F G = some res) : xn F ≤ xn res.2.1 := by
  unfold cb_X6_jump_19 at hm
  exact (cn_X6_jump_20 fu x1 x2 0 F G hm)
theorem cw_X6_jump_19 (fu : Nat) {res : Int32 × PF × PG} (C : cMC p R s m args c A v RX6 cX6_jump 5 3 111 (xn res.2.1 - xn K0)) (hret : ∀ (b1 : Nat) (H1 : Heap) (locs1 : List Loc) (ls1 : Array Slot) (pc : Nat), cMW s A v a b1 K0 res.2.1 res.2.2 H1 locs1 → decode cX6_jump pc = .ok (.return_, 1) → W p l e R s m args below meth c H1 locs1 (xn res.2.1 - xn K0) (2 * (xn res.2.1 - xn K0)) Q (F0 m pc ls1 [])) (x1 : Int32) (x2 : Int32) (F : PF) (G : PG) (hm : cb_X6_jump_19 fu x1 x2 F G = some res) {b : Nat} {H : Heap} {locs : List Loc} (hw : cMW s A v a b K0 F G H locs) {ls : Array Slot} (hl : lv_has ls 5 [(0, .ref (a 206)), (1, .int x1), (2, .int x2)]) : W p l e R s m args below meth c H locs (xn F - xn K0) (2 * (xn F - xn K0)) Q (F0 m 19 ls []) := by
  have hx := C.1
  have hb := C.2.1
  unfold cb_X6_jump_19 at hm
  refine lv_iconst (v := 0) hx hb dX6_jump_19 (by decide) ?_
  exact cw_X6_jump_20 fu C hret x1 x2 0 F G hm hw (lv_sub hl [0, 1, 2] rfl)
theorem cn_X6_jump_15 (fu : Nat) {res : Int32 × PF × PG} (x1 : Int32) (x2 : Int32) (F : PF) (G : PG) (hm : cb_X6_jump_15 fu x1 x2 F G = some res) : xn F ≤ xn res.2.1 := by
  unfold cb_X6_jump_15 at hm
  exact (cn_X6_jump_20 fu x1 x2 1 F G hm)
theorem cw_X6_jump_15 (fu : Nat) {res : Int32 × PF × PG} (C : cMC p R s m args c A v RX6 cX6_jump 5 3 111 (xn res.2.1 - xn K0)) (hret : ∀ (b1 : Nat) (H1 : Heap) (locs1 : List Loc) (ls1 : Array Slot) (pc : Nat), cMW s A v a b1 K0 res.2.1 res.2.2 H1 locs1 → decode cX6_jump pc = .ok (.return_, 1) → W p l e R s m args below meth c H1 locs1 (xn res.2.1 - xn K0) (2 * (xn res.2.1 - xn K0)) Q (F0 m pc ls1 [])) (x1 : Int32) (x2 : Int32) (F : PF) (G : PG) (hm : cb_X6_jump_15 fu x1 x2 F G = some res) {b : Nat} {H : Heap} {locs : List Loc} (hw : cMW s A v a b K0 F G H locs) {ls : Array Slot} (hl : lv_has ls 5 [(0, .ref (a 206)), (1, .int x1), (2, .int x2)]) : W p l e R s m args below meth c H locs (xn F - xn K0) (2 * (xn F - xn K0)) Q (F0 m 15 ls []) := by
  have hx := C.1
  have hb := C.2.1
  unfold cb_X6_jump_15 at hm
  refine lv_iconst (v := 1) hx hb dX6_jump_15 (by decide) ?_
  refine lv_goto (tgt := 20) hx hb dX6_jump_16 (by decide) ?_
  exact cw_X6_jump_20 fu C hret x1 x2 1 F G hm hw (lv_sub hl [0, 1, 2] rfl)
theorem cn_X6_jump_12 (fu : Nat) {res : Int32 × PF × PG} (x1 : Int32) (x2 : Int32) (z0 : Int32) (F : PF) (G : PG) (hm : cb_X6_jump_12 fu x1 x2 z0 F G = some res) : xn F ≤ xn res.2.1 := by
  unfold cb_X6_jump_12 at hm
  by_cases c_1 : z0 = (0 : Int32)
  · have hm := (if_pos c_1).symm.trans hm
    exact (cn_X6_jump_19 fu x1 x2 F G hm)
  · have hm := (if_neg c_1).symm.trans hm
    exact (cn_X6_jump_15 fu x1 x2 F G hm)
theorem cw_X6_jump_12 (fu : Nat) {res : Int32 × PF × PG} (C : cMC p R s m args c A v RX6 cX6_jump 5 3 111 (xn res.2.1 - xn K0)) (hret : ∀ (b1 : Nat) (H1 : Heap) (locs1 : List Loc) (ls1 : Array Slot) (pc : Nat), cMW s A v a b1 K0 res.2.1 res.2.2 H1 locs1 → decode cX6_jump pc = .ok (.return_, 1) → W p l e R s m args below meth c H1 locs1 (xn res.2.1 - xn K0) (2 * (xn res.2.1 - xn K0)) Q (F0 m pc ls1 [])) (x1 : Int32) (x2 : Int32) (z0 : Int32) (F : PF) (G : PG) (hm : cb_X6_jump_12 fu x1 x2 z0 F G = some res) {b : Nat} {H : Heap} {locs : List Loc} (hw : cMW s A v a b K0 F G H locs) {ls : Array Slot} (hl : lv_has ls 5 [(0, .ref (a 206)), (1, .int x1), (2, .int x2)]) : W p l e R s m args below meth c H locs (xn F - xn K0) (2 * (xn F - xn K0)) Q (F0 m 12 ls [.int z0]) := by
  have hx := C.1
  have hb := C.2.1
  unfold cb_X6_jump_12 at hm
  refine lv_if_eq (tgt := 19) hx hb dX6_jump_12 (by decide) (fun c_1 => ?_) (fun c_1 => ?_)
  · have hm := (if_pos c_1).symm.trans hm
    exact cw_X6_jump_19 fu C hret x1 x2 F G hm hw (lv_sub hl [0, 1, 2] rfl)
  · have hm := (if_neg c_1).symm.trans hm
    exact cw_X6_jump_15 fu C hret x1 x2 F G hm hw (lv_sub hl [0, 1, 2] rfl)
theorem cn_X6_jump_8 (fu : Nat) {res : Int32 × PF × PG} (x1 : Int32) (x2 : Int32) (F : PF) (G : PG) (hm : cb_X6_jump_8 fu x1 x2 F G = some res) : xn F ≤ xn res.2.1 := by
  unfold cb_X6_jump_8 at hm
  obtain ⟨⟨r1, F1, G1⟩, hc, hm⟩ := bind_elim hm
  exact Nat.le_trans (cn_X6_pop fu F G _ hc) (cn_X6_jump_12 fu x1 x2 r1 F1 G1 hm)
theorem cw_X6_jump_8 (fu : Nat) {res : Int32 × PF × PG} (C : cMC p R s m args c A v RX6 cX6_jump 5 3 111 (xn res.2.1 - xn K0)) (hret : ∀ (b1 : Nat) (H1 : Heap) (locs1 : List Loc) (ls1 : Array Slot) (pc : Nat), cMW s A v a b1 K0 res.2.1 res.2.2 H1 locs1 → decode cX6_jump pc = .ok (.return_, 1) → W p l e R s m args below meth c H1 locs1 (xn res.2.1 - xn K0) (2 * (xn res.2.1 - xn K0)) Q (F0 m pc ls1 [])) (x1 : Int32) (x2 : Int32) (F : PF) (G : PG) (hm : cb_X6_jump_8 fu x1 x2 F G = some res) {b : Nat} {H : Heap} {locs : List Loc} (hw : cMW s A v a b K0 F G H locs) {ls : Array Slot} (hl : lv_has ls 5 [(0, .ref (a 206)), (1, .int x1), (2, .int x2)]) : W p l e R s m args below meth c H locs (xn F - xn K0) (2 * (xn F - xn K0)) Q (F0 m 8 ls []) := by
  have hx := C.1
  have hb := C.2.1
  unfold cb_X6_jump_8 at hm
  refine lv_aload_n hx hb dX6_jump_8 rfl (lv_at hl 0 rfl) ?_
  obtain ⟨⟨r1, F1, G1⟩, hc, hm⟩ := bind_elim hm
  refine ccallI (n := 0) (As := []) (rest := []) C hw (ck_X6_pop l v a _ _ fu F G r1 F1 G1 hc) (cn_X6_pop fu F G _ hc) (Nat.sub_le_sub_right (cn_X6_jump_12 fu x1 x2 r1 F1 G1 hm) _) (crecv_X6 C hw) cm_558 cm_559 cm_560 cm_21 cm_561 (by decide +kernel) rfl (by omega) (by omega) hl.1 rfl (Nat.le_of_ble_eq_true rfl) dX6_jump_9 (fun b H locs hw => ?_)
  exact cw_X6_jump_12 fu C hret x1 x2 r1 F1 G1 hm hw (lv_sub hl [0, 1, 2] rfl)
theorem cn_X6_jump_0 (fu : Nat) {res : Int32 × PF × PG} (x1 : Int32) (x2 : Int32) (F : PF) (G : PG) (hm : cb_X6_jump_0 fu x1 x2 F G = some res) : xn F ≤ xn res.2.1 := by
  unfold cb_X6_jump_0 at hm
  by_cases c_1 : x1 = (84 : Int32)
  · have hm := (if_pos c_1).symm.trans hm
    exact (cn_X6_jump_69 fu x2 1 F G hm)
  · have hm := (if_neg c_1).symm.trans hm
    exact (cn_X6_jump_8 fu x1 x2 F G hm)
theorem cw_X6_jump_0 (fu : Nat) {res : Int32 × PF × PG} (C : cMC p R s m args c A v RX6 cX6_jump 5 3 111 (xn res.2.1 - xn K0)) (hret : ∀ (b1 : Nat) (H1 : Heap) (locs1 : List Loc) (ls1 : Array Slot) (pc : Nat), cMW s A v a b1 K0 res.2.1 res.2.2 H1 locs1 → decode cX6_jump pc = .ok (.return_, 1) → W p l e R s m args below meth c H1 locs1 (xn res.2.1 - xn K0) (2 * (xn res.2.1 - xn K0)) Q (F0 m pc ls1 [])) (x1 : Int32) (x2 : Int32) (F : PF) (G : PG) (hm : cb_X6_jump_0 fu x1 x2 F G = some res) {b : Nat} {H : Heap} {locs : List Loc} (hw : cMW s A v a b K0 F G H locs) {ls : Array Slot} (hl : lv_has ls 5 [(0, .ref (a 206)), (1, .int x1), (2, .int x2)]) : W p l e R s m args below meth c H locs (xn F - xn K0) (2 * (xn F - xn K0)) Q (F0 m 0 ls []) := by
  have hx := C.1
  have hb := C.2.1
  unfold cb_X6_jump_0 at hm
  refine lv_iconst (v := 1) hx hb dX6_jump_0 (by decide) ?_
  refine lv_istore_n (lv' := [(3, .int 1), (0, .ref (a 206)), (1, .int x1), (2, .int x2)]) hx hb dX6_jump_1 rfl hl (by decide) rfl (fun ls hl => ?_)
  refine lv_iload_n hx hb dX6_jump_2 rfl (lv_at hl 2 rfl) ?_
  refine lv_bipush (v := 84) hx hb dX6_jump_3 (by decide) ?_
  refine lv_icmp_eq (tgt := 69) hx hb dX6_jump_5 (by decide) (fun c_1 => ?_) (fun c_1 => ?_)
  · have hm := (if_pos c_1).symm.trans hm
    exact cw_X6_jump_69 fu C hret x2 1 F G hm hw (lv_sub hl [1, 3, 0] rfl)
  · have hm := (if_neg c_1).symm.trans hm
    exact cw_X6_jump_8 fu C hret x1 x2 F G hm hw (lv_sub hl [1, 2, 3] rfl)
theorem cn_X6_jump (fu : Nat) (x1 : Int32) (x2 : Int32) (F : PF) (G : PG) (q : Int32 × PF × PG) (hm : cf_X6_jump fu x1 x2 F G = some q) : xn F ≤ xn q.2.1 := cn_X6_jump_0 fu x1 x2 F G hm
theorem ck_X6_jump (l : Launch) (v : EV) (a : Nat → Nat) (b sz : Nat) (fu : Nat) (x1 : Int32) (x2 : Int32) (F : PF) (G : PG) (r : Int32) (F1 : PF) (G1 : PG) (hm : cf_X6_jump fu x1 x2 F G = some (r, F1, G1)) : cMV l yX6_jump cX6_jump 5 3 111 v a b sz [.ref (a 206), .int x1, .int x2] F G F1 G1 := cMV.of (by decide) (Nat.le_of_ble_eq_true rfl) (fun p e R s m args below meth c Q A H locs ls C hw hl hret => cw_X6_jump_0 fu (res := (r, F1, G1)) C hret x1 x2 F G hm hw hl)
def cb_X6_valueFrom_123 (fu : Nat) (z0 : Int32) (F : PF) (G : PG) : PR := some (z0, F, G)
def cb_X6_valueFrom_119 (fu : Nat) (F : PF) (G : PG) : PR := (cf_X6_pop fu F G).bind (fun q => cb_X6_valueFrom_123 fu q.1 q.2.1 q.2.2)
def cb_X6_valueFrom_113 (fu : Nat) (ag_12 : Int32 → PF → PG → PR) (x2 : Int32) (F : PF) (G : PG) : PR := ag_12 (x2 + 1) F G
def cb_X6_valueFrom_110 (fu : Nat) (ag_12 : Int32 → PF → PG → PR) (x2 : Int32) (z0 : Int32) (F : PF) (G : PG) : PR := (cf_X6_push fu z0 F G).bind (fun q => cb_X6_valueFrom_113 fu ag_12 x2 q.2.1 q.2.2)
def cb_X6_valueFrom_105 (fu : Nat) (ag_12 : Int32 → PF → PG → PR) (x2 : Int32) (x4 : Int32) (z0 : Int32) (z1 : Int32) (F : PF) (G : PG) : PR := (cf_X11_joined fu z1 z0 x4 F G).bind (fun q => cb_X6_valueFrom_110 fu ag_12 x2 q.1 q.2.1 q.2.2)
def cb_X6_valueFrom_97 (fu : Nat) (ag_12 : Int32 → PF → PG → PR) (x2 : Int32) (x3 : Int32) (z0 : Int32) (F : PF) (G : PG) : PR := (cf_X6_pop fu F G).bind (fun q => cb_X6_valueFrom_105 fu ag_12 x2 z0 q.1 x3 q.2.1 q.2.2)
def cb_X6_valueFrom_93 (fu : Nat) (ag_12 : Int32 → PF → PG → PR) (x2 : Int32) (x3 : Int32) (F : PF) (G : PG) : PR := (cf_X6_pop fu F G).bind (fun q => cb_X6_valueFrom_97 fu ag_12 x2 x3 q.1 q.2.1 q.2.2)
def cb_X6_valueFrom_90 (fu : Nat) (ag_12 : Int32 → PF → PG → PR) (x2 : Int32) (F : PF) (G : PG) : PR := cb_X6_valueFrom_113 fu ag_12 x2 F G
def cb_X6_valueFrom_87 (fu : Nat) (ag_12 : Int32 → PF → PG → PR) (x2 : Int32) (z0 : Int32) (F : PF) (G : PG) : PR := (cf_X6_push fu z0 F G).bind (fun q => cb_X6_valueFrom_90 fu ag_12 x2 q.2.1 q.2.2)
def cb_X6_valueFrom_84 (fu : Nat) (ag_12 : Int32 → PF → PG → PR) (x2 : Int32) (z0 : Int32) (z1 : Int32) (F : PF) (G : PG) : PR := (cf_X6_changed fu z1 z0 F G).bind (fun q => cb_X6_valueFrom_87 fu ag_12 x2 q.1 q.2.1 q.2.2)
def cb_X6_valueFrom_78 (fu : Nat) (ag_12 : Int32 → PF → PG → PR) (x2 : Int32) (x3 : Int32) (F : PF) (G : PG) : PR := (cf_X6_pop fu F G).bind (fun q => cb_X6_valueFrom_84 fu ag_12 x2 q.1 x3 q.2.1 q.2.2)
def cb_X6_valueFrom_72 (fu : Nat) (ag_12 : Int32 → PF → PG → PR) (x2 : Int32) (x3 : Int32) (F : PF) (G : PG) : PR := if x3 < (62 : Int32) then cb_X6_valueFrom_93 fu ag_12 x2 x3 F G else cb_X6_valueFrom_78 fu ag_12 x2 x3 F G
def cb_X6_valueFrom_69 (fu : Nat) (ag_12 : Int32 → PF → PG → PR) (x2 : Int32) (F : PF) (G : PG) : PR := cb_X6_valueFrom_113 fu ag_12 x2 F G
def cb_X6_valueFrom_66 (fu : Nat) (ag_12 : Int32 → PF → PG → PR) (x2 : Int32) (z0 : Int32) (z1 : Int32) (F : PF) (G : PG) : PR := (cf_X6_jump fu z1 z0 F G).bind (fun q => cb_X6_valueFrom_69 fu ag_12 x2 q.2.1 q.2.2)
def cb_X6_valueFrom_60 (fu : Nat) (ag_12 : Int32 → PF → PG → PR) (x2 : Int32) (x3 : Int32) (F : PF) (G : PG) : PR := (cf_X6_next fu F G).bind (fun q => cb_X6_valueFrom_66 fu ag_12 x2 q.1 x3 q.2.1 q.2.2)
def cb_X6_valueFrom_54 (fu : Nat) (ag_12 : Int32 → PF → PG → PR) (x2 : Int32) (x3 : Int32) (F : PF) (G : PG) : PR := if x3 < (84 : Int32) then cb_X6_valueFrom_72 fu ag_12 x2 x3 F G else cb_X6_valueFrom_60 fu ag_12 x2 x3 F G
def cb_X6_valueFrom_51 (fu : Nat) (ag_12 : Int32 → PF → PG → PR) (x2 : Int32) (F : PF) (G : PG) : PR := cb_X6_valueFrom_113 fu ag_12 x2 F G
def cb_X6_valueFrom_48 (fu : Nat) (ag_12 : Int32 → PF → PG → PR) (x2 : Int32) (z0 : Int32) (F : PF) (G : PG) : PR := (cf_X6_push fu z0 F G).bind (fun q => cb_X6_valueFrom_51 fu ag_12 x2 q.2.1 q.2.2)
def cb_X6_valueFrom_43 (fu : Nat) (ag_12 : Int32 → PF → PG → PR) (x2 : Int32) (F : PF) (G : PG) : PR := (cf_X6_next fu F G).bind (fun q => cb_X6_valueFrom_48 fu ag_12 x2 q.1 q.2.1 q.2.2)
def cb_X6_valueFrom_36 (fu : Nat) (ag_12 : Int32 → PF → PG → PR) (x2 : Int32) (z0 : Int32) (F : PF) (G : PG) : PR := if z0 = (66 : Int32) then cb_X6_valueFrom_43 fu ag_12 x2 F G else cb_X6_valueFrom_54 fu ag_12 x2 z0 F G
def cb_X6_valueFrom_32 (fu : Nat) (ag_12 : Int32 → PF → PG → PR) (x2 : Int32) (F : PF) (G : PG) : PR := (cf_X6_next fu F G).bind (fun q => cb_X6_valueFrom_36 fu ag_12 x2 q.1 q.2.1 q.2.2)
def cb_X6_valueFrom_18 (fu : Nat) (ag_12 : Int32 → PF → PG → PR) (x2 : Int32) (F : PF) (G : PG) : PR := if (F 6) ≤ (F 57) then cb_X6_valueFrom_119 fu F G else cb_X6_valueFrom_32 fu ag_12 x2 F G
def cb_X6_valueFrom_12 (fu : Nat) (ag_12 : Int32 → PF → PG → PR) (x2 : Int32) (F : PF) (G : PG) : PR := if (100000000 : Int32) ≤ x2 then cb_X6_valueFrom_119 fu F G else cb_X6_valueFrom_18 fu ag_12 x2 F G
def cl_X6_valueFrom_12 (fu : Nat) : Nat → Int32 → PF → PG → PR
  | 0 => fun _ _ _ => none
  | n + 1 => fun x2 F G => cb_X6_valueFrom_12 fu (cl_X6_valueFrom_12 fu n) x2 F G
def cb_X6_valueFrom_10 (fu : Nat) (F : PF) (G : PG) : PR := cl_X6_valueFrom_12 fu fu 0 F G
def cb_X6_valueFrom_5 (fu : Nat) (F : PF) (G : PG) : PR := cb_X6_valueFrom_10 fu (fup F 56 (0 : Int32)) G
def cb_X6_valueFrom_0 (fu : Nat) (x1 : Int32) (F : PF) (G : PG) : PR := cb_X6_valueFrom_5 fu (fup F 57 x1) G
def cf_X6_valueFrom (fu : Nat) (x1 : Int32) (F : PF) (G : PG) : PR := cb_X6_valueFrom_0 fu x1 F G
theorem cn_X6_valueFrom_123 (fu : Nat) {res : Int32 × PF × PG} (z0 : Int32) (F : PF) (G : PG) (hm : cb_X6_valueFrom_123 fu z0 F G = some res) : xn F ≤ xn res.2.1 := by
  unfold cb_X6_valueFrom_123 at hm
  obtain rfl := Option.some.inj hm
  exact Nat.le_refl _
theorem cw_X6_valueFrom_123 (fu : Nat) {res : Int32 × PF × PG} (C : cMC p R s m args c A v RX6 cX6_valueFrom 5 4 135 (xn res.2.1 - xn K0)) (hret : ∀ (b1 : Nat) (H1 : Heap) (locs1 : List Loc) (ls1 : Array Slot) (pc : Nat), cMW s A v a b1 K0 res.2.1 res.2.2 H1 locs1 → narrow .int (.int res.1) = .int res.1 → decode cX6_valueFrom pc = .ok (.ireturn, 1) → W p l e R s m args below meth c H1 locs1 (xn res.2.1 - xn K0) (2 * (xn res.2.1 - xn K0)) Q (F0 m pc ls1 [.int res.1])) (z0 : Int32) (F : PF) (G : PG) (hm : cb_X6_valueFrom_123 fu z0 F G = some res) {b : Nat} {H : Heap} {locs : List Loc} (hw : cMW s A v a b K0 F G H locs) {ls : Array Slot} (hl : lv_has ls 5 []) : W p l e R s m args below meth c H locs (xn F - xn K0) (2 * (xn F - xn K0)) Q (F0 m 123 ls [.int z0]) := by
  have hx := C.1
  have hb := C.2.1
  unfold cb_X6_valueFrom_123 at hm
  obtain rfl := Option.some.inj hm
  exact hret _ _ _ _ _ hw rfl dX6_valueFrom_123
theorem cn_X6_valueFrom_119 (fu : Nat) {res : Int32 × PF × PG} (F : PF) (G : PG) (hm : cb_X6_valueFrom_119 fu F G = some res) : xn F ≤ xn res.2.1 := by
  unfold cb_X6_valueFrom_119 at hm
  obtain ⟨⟨r1, F1, G1⟩, hc, hm⟩ := bind_elim hm
  exact Nat.le_trans (cn_X6_pop fu F G _ hc) (cn_X6_valueFrom_123 fu r1 F1 G1 hm)
theorem cw_X6_valueFrom_119 (fu : Nat) {res : Int32 × PF × PG} (C : cMC p R s m args c A v RX6 cX6_valueFrom 5 4 135 (xn res.2.1 - xn K0)) (hret : ∀ (b1 : Nat) (H1 : Heap) (locs1 : List Loc) (ls1 : Array Slot) (pc : Nat), cMW s A v a b1 K0 res.2.1 res.2.2 H1 locs1 → narrow .int (.int res.1) = .int res.1 → decode cX6_valueFrom pc = .ok (.ireturn, 1) → W p l e R s m args below meth c H1 locs1 (xn res.2.1 - xn K0) (2 * (xn res.2.1 - xn K0)) Q (F0 m pc ls1 [.int res.1])) (F : PF) (G : PG) (hm : cb_X6_valueFrom_119 fu F G = some res) {b : Nat} {H : Heap} {locs : List Loc} (hw : cMW s A v a b K0 F G H locs) {ls : Array Slot} (hl : lv_has ls 5 [(0, .ref (a 206))]) : W p l e R s m args below meth c H locs (xn F - xn K0) (2 * (xn F - xn K0)) Q (F0 m 119 ls []) := by
  have hx := C.1
  have hb := C.2.1
  unfold cb_X6_valueFrom_119 at hm
  refine lv_aload_n hx hb dX6_valueFrom_119 rfl (lv_at hl 0 rfl) ?_
  obtain ⟨⟨r1, F1, G1⟩, hc, hm⟩ := bind_elim hm
  refine ccallI (n := 0) (As := []) (rest := []) C hw (ck_X6_pop l v a _ _ fu F G r1 F1 G1 hc) (cn_X6_pop fu F G _ hc) (Nat.sub_le_sub_right (cn_X6_valueFrom_123 fu r1 F1 G1 hm) _) (crecv_X6 C hw) cm_558 cm_559 cm_560 cm_21 cm_561 (by decide +kernel) rfl (by omega) (by omega) hl.1 rfl (Nat.le_of_ble_eq_true rfl) dX6_valueFrom_120 (fun b H locs hw => ?_)
  exact cw_X6_valueFrom_123 fu C hret r1 F1 G1 hm hw (lv_sub hl [] rfl)
theorem cn_X6_valueFrom_113 (fu : Nat) {res : Int32 × PF × PG} (ag_12 : Int32 → PF → PG → PR) (hagn_12 : ∀ (x2 : Int32) (F : PF) (G : PG), ag_12 x2 F G = some res → xn F ≤ xn res.2.1) (x2 : Int32) (F : PF) (G : PG) (hm : cb_X6_valueFrom_113 fu ag_12 x2 F G = some res) : xn F ≤ xn res.2.1 := by
  unfold cb_X6_valueFrom_113 at hm
  exact (hagn_12 (x2 + 1) F G hm)
theorem cw_X6_valueFrom_113 (fu : Nat) {res : Int32 × PF × PG} (C : cMC p R s m args c A v RX6 cX6_valueFrom 5 4 135 (xn res.2.1 - xn K0)) (hret : ∀ (b1 : Nat) (H1 : Heap) (locs1 : List Loc) (ls1 : Array Slot) (pc : Nat), cMW s A v a b1 K0 res.2.1 res.2.2 H1 locs1 → narrow .int (.int res.1) = .int res.1 → decode cX6_valueFrom pc = .ok (.ireturn, 1) → W p l e R s m args below meth c H1 locs1 (xn res.2.1 - xn K0) (2 * (xn res.2.1 - xn K0)) Q (F0 m pc ls1 [.int res.1])) (ag_12 : Int32 → PF → PG → PR) (hag_12 : ∀ (x2 : Int32) (F : PF) (G : PG), ag_12 x2 F G = some res → ∀ (b : Nat) (H : Heap) (locs : List Loc) (ls : Array Slot), cMW s A v a b K0 F G H locs → lv_has ls 5 [(0, .ref (a 206)), (2, .int x2)] → W p l e R s m args below meth c H locs (xn F - xn K0) (2 * (xn F - xn K0)) Q (F0 m 12 ls [])) (hagn_12 : ∀ (x2 : Int32) (F : PF) (G : PG), ag_12 x2 F G = some res → xn F ≤ xn res.2.1) (x2 : Int32) (F : PF) (G : PG) (hm : cb_X6_valueFrom_113 fu ag_12 x2 F G = some res) {b : Nat} {H : Heap} {locs : List Loc} (hw : cMW s A v a b K0 F G H locs) {ls : Array Slot} (hl : lv_has ls 5 [(0, .ref (a 206)), (2, .int x2)]) : W p l e R s m args below meth c H locs (xn F - xn K0) (2 * (xn F - xn K0)) Q (F0 m 113 ls []) := by
  have hx := C.1
  have hb := C.2.1
  unfold cb_X6_valueFrom_113 at hm
  refine lv_iinc (v := (x2 + 1)) (lv' := [(2, .int (x2 + 1)), (0, .ref (a 206))]) hx hb dX6_valueFrom_113 hl (k := 1) rfl (by rfl) (by decide) rfl (fun ls hl => ?_)
  refine lv_goto (tgt := 12) hx hb dX6_valueFrom_116 (by decide) ?_
  exact hag_12 (x2 + 1) F G hm _ _ _ _ hw (lv_sub hl [1, 0] rfl)
theorem cn_X6_valueFrom_110 (fu : Nat) {res : Int32 × PF × PG} (ag_12 : Int32 → PF → PG → PR) (hagn_12 : ∀ (x2 : Int32) (F : PF) (G : PG), ag_12 x2 F G = some res → xn F ≤ xn res.2.1) (x2 : Int32) (z0 : Int32) (F : PF) (G : PG) (hm : cb_X6_valueFrom_110 fu ag_12 x2 z0 F G = some res) : xn F ≤ xn res.2.1 := by
  unfold cb_X6_valueFrom_110 at hm
  obtain ⟨⟨r1, F1, G1⟩, hc, hm⟩ := bind_elim hm
  exact Nat.le_trans (cn_X6_push fu z0 F G _ hc) (cn_X6_valueFrom_113 fu ag_12 hagn_12 x2 F1 G1 hm)
theorem cw_X6_valueFrom_110 (fu : Nat) {res : Int32 × PF × PG} (C : cMC p R s m args c A v RX6 cX6_valueFrom 5 4 135 (xn res.2.1 - xn K0)) (hret : ∀ (b1 : Nat) (H1 : Heap) (locs1 : List Loc) (ls1 : Array Slot) (pc : Nat), cMW s A v a b1 K0 res.2.1 res.2.2 H1 locs1 → narrow .int (.int res.1) = .int res.1 → decode cX6_valueFrom pc = .ok (.ireturn, 1) → W p l e R s m args below meth c H1 locs1 (xn res.2.1 - xn K0) (2 * (xn res.2.1 - xn K0)) Q (F0 m pc ls1 [.int res.1])) (ag_12 : Int32 → PF → PG → PR) (hag_12 : ∀ (x2 : Int32) (F : PF) (G : PG), ag_12 x2 F G = some res → ∀ (b : Nat) (H : Heap) (locs : List Loc) (ls : Array Slot), cMW s A v a b K0 F G H locs → lv_has ls 5 [(0, .ref (a 206)), (2, .int x2)] → W p l e R s m args below meth c H locs (xn F - xn K0) (2 * (xn F - xn K0)) Q (F0 m 12 ls [])) (hagn_12 : ∀ (x2 : Int32) (F : PF) (G : PG), ag_12 x2 F G = some res → xn F ≤ xn res.2.1) (x2 : Int32) (z0 : Int32) (F : PF) (G : PG) (hm : cb_X6_valueFrom_110 fu ag_12 x2 z0 F G = some res) {b : Nat} {H : Heap} {locs : List Loc} (hw : cMW s A v a b K0 F G H locs) {ls : Array Slot} (hl : lv_has ls 5 [(0, .ref (a 206)), (2, .int x2)]) : W p l e R s m args below meth c H locs (xn F - xn K0) (2 * (xn F - xn K0)) Q (F0 m 110 ls [.int z0, .ref (a 206)]) := by
  have hx := C.1
  have hb := C.2.1
  unfold cb_X6_valueFrom_110 at hm
  obtain ⟨⟨r1, F1, G1⟩, hc, hm⟩ := bind_elim hm
  refine ccallV (n := 1) (As := [.int z0]) (rest := []) C hw (ck_X6_push l v a _ _ fu z0 F G r1 F1 G1 hc) (cn_X6_push fu z0 F G _ hc) (Nat.sub_le_sub_right (cn_X6_valueFrom_113 fu ag_12 hagn_12 x2 F1 G1 hm) _) (crecv_X6 C hw) cm_533 cm_534 cm_535 cm_21 cm_536 (by decide +kernel) rfl (by omega) (by omega) hl.1 rfl (Nat.le_of_ble_eq_true rfl) dX6_valueFrom_110 (fun b H locs hw => ?_)
  exact cw_X6_valueFrom_113 fu C hret ag_12 hag_12 hagn_12 x2 F1 G1 hm hw (lv_sub hl [0, 1] rfl)
theorem cn_X6_valueFrom_105 (fu : Nat) {res : Int32 × PF × PG} (ag_12 : Int32 → PF → PG → PR) (hagn_12 : ∀ (x2 : Int32) (F : PF) (G : PG), ag_12 x2 F G = some res → xn F ≤ xn res.2.1) (x2 : Int32) (x4 : Int32) (z0 : Int32) (z1 : Int32) (F : PF) (G : PG) (hm : cb_X6_valueFrom_105 fu ag_12 x2 x4 z0 z1 F G = some res) : xn F ≤ xn res.2.1 := by
  unfold cb_X6_valueFrom_105 at hm
  obtain ⟨⟨r1, F1, G1⟩, hc, hm⟩ := bind_elim hm
  exact Nat.le_trans (cn_X11_joined fu z1 z0 x4 F G _ hc) (cn_X6_valueFrom_110 fu ag_12 hagn_12 x2 r1 F1 G1 hm)
theorem cw_X6_valueFrom_105 (fu : Nat) {res : Int32 × PF × PG} (C : cMC p R s m args c A v RX6 cX6_valueFrom 5 4 135 (xn res.2.1 - xn K0)) (hret : ∀ (b1 : Nat) (H1 : Heap) (locs1 : List Loc) (ls1 : Array Slot) (pc : Nat), cMW s A v a b1 K0 res.2.1 res.2.2 H1 locs1 → narrow .int (.int res.1) = .int res.1 → decode cX6_valueFrom pc = .ok (.ireturn, 1) → W p l e R s m args below meth c H1 locs1 (xn res.2.1 - xn K0) (2 * (xn res.2.1 - xn K0)) Q (F0 m pc ls1 [.int res.1])) (ag_12 : Int32 → PF → PG → PR) (hag_12 : ∀ (x2 : Int32) (F : PF) (G : PG), ag_12 x2 F G = some res → ∀ (b : Nat) (H : Heap) (locs : List Loc) (ls : Array Slot), cMW s A v a b K0 F G H locs → lv_has ls 5 [(0, .ref (a 206)), (2, .int x2)] → W p l e R s m args below meth c H locs (xn F - xn K0) (2 * (xn F - xn K0)) Q (F0 m 12 ls [])) (hagn_12 : ∀ (x2 : Int32) (F : PF) (G : PG), ag_12 x2 F G = some res → xn F ≤ xn res.2.1) (x2 : Int32) (x4 : Int32) (z0 : Int32) (z1 : Int32) (F : PF) (G : PG) (hm : cb_X6_valueFrom_105 fu ag_12 x2 x4 z0 z1 F G = some res) {b : Nat} {H : Heap} {locs : List Loc} (hw : cMW s A v a b K0 F G H locs) {ls : Array Slot} (hl : lv_has ls 5 [(0, .ref (a 206)), (2, .int x2), (4, .int x4)]) : W p l e R s m args below meth c H locs (xn F - xn K0) (2 * (xn F - xn K0)) Q (F0 m 105 ls [.int z0, .int z1, .ref (a 206)]) := by
  have hx := C.1
  have hb := C.2.1
  unfold cb_X6_valueFrom_105 at hm
  refine lv_iload hx hb dX6_valueFrom_105 (lv_at hl 2 rfl) ?_
  obtain ⟨⟨r1, F1, G1⟩, hc, hm⟩ := bind_elim hm
  refine ccallIN (n := 3) (As := [.int z1, .int z0, .int x4]) (rest := [.ref (a 206)]) C hw (ck_X11_joined l v a _ _ fu z1 z0 x4 F G r1 F1 G1 hc) (cn_X11_joined fu z1 z0 x4 F G _ hc) (Nat.sub_le_sub_right (cn_X6_valueFrom_110 fu ag_12 hagn_12 x2 r1 F1 G1 hm) _) C.2.2.2.2.2.2.2.2.2.1.2.2.2.2.2.2.2.2.2.2.2.2.2.2.2.2.2.2.2.2.2.2.1 cm_568 cm_563 cm_569 (by decide +kernel) rfl (by omega) (by omega) hl.1 rfl (Nat.le_of_ble_eq_true rfl) dX6_valueFrom_107 (fun b H locs hw => ?_)
  exact cw_X6_valueFrom_110 fu C hret ag_12 hag_12 hagn_12 x2 r1 F1 G1 hm hw (lv_sub hl [0, 1] rfl)
theorem cn_X6_valueFrom_97 (fu : Nat) {res : Int32 × PF × PG} (ag_12 : Int32 → PF → PG → PR) (hagn_12 : ∀ (x2 : Int32) (F : PF) (G : PG), ag_12 x2 F G = some res → xn F ≤ xn res.2.1) (x2 : Int32) (x3 : Int32) (z0 : Int32) (F : PF) (G : PG) (hm : cb_X6_valueFrom_97 fu ag_12 x2 x3 z0 F G = some res) : xn F ≤ xn res.2.1 := by
  unfold cb_X6_valueFrom_97 at hm
  obtain ⟨⟨r1, F1, G1⟩, hc, hm⟩ := bind_elim hm
  exact Nat.le_trans (cn_X6_pop fu F G _ hc) (cn_X6_valueFrom_105 fu ag_12 hagn_12 x2 z0 r1 x3 F1 G1 hm)
theorem cw_X6_valueFrom_97 (fu : Nat) {res : Int32 × PF × PG} (C : cMC p R s m args c A v RX6 cX6_valueFrom 5 4 135 (xn res.2.1 - xn K0)) (hret : ∀ (b1 : Nat) (H1 : Heap) (locs1 : List Loc) (ls1 : Array Slot) (pc : Nat), cMW s A v a b1 K0 res.2.1 res.2.2 H1 locs1 → narrow .int (.int res.1) = .int res.1 → decode cX6_valueFrom pc = .ok (.ireturn, 1) → W p l e R s m args below meth c H1 locs1 (xn res.2.1 - xn K0) (2 * (xn res.2.1 - xn K0)) Q (F0 m pc ls1 [.int res.1])) (ag_12 : Int32 → PF → PG → PR) (hag_12 : ∀ (x2 : Int32) (F : PF) (G : PG), ag_12 x2 F G = some res → ∀ (b : Nat) (H : Heap) (locs : List Loc) (ls : Array Slot), cMW s A v a b K0 F G H locs → lv_has ls 5 [(0, .ref (a 206)), (2, .int x2)] → W p l e R s m args below meth c H locs (xn F - xn K0) (2 * (xn F - xn K0)) Q (F0 m 12 ls [])) (hagn_12 : ∀ (x2 : Int32) (F : PF) (G : PG), ag_12 x2 F G = some res → xn F ≤ xn res.2.1) (x2 : Int32) (x3 : Int32) (z0 : Int32) (F : PF) (G : PG) (hm : cb_X6_valueFrom_97 fu ag_12 x2 x3 z0 F G = some res) {b : Nat} {H : Heap} {locs : List Loc} (hw : cMW s A v a b K0 F G H locs) {ls : Array Slot} (hl : lv_has ls 5 [(0, .ref (a 206)), (2, .int x2), (3, .int x3)]) : W p l e R s m args below meth c H locs (xn F - xn K0) (2 * (xn F - xn K0)) Q (F0 m 97 ls [.int z0]) := by
  have hx := C.1
  have hb := C.2.1
  unfold cb_X6_valueFrom_97 at hm
  refine lv_istore (lv' := [(4, .int z0), (0, .ref (a 206)), (2, .int x2), (3, .int x3)]) hx hb dX6_valueFrom_97 hl (by decide) rfl (fun ls hl => ?_)
  refine lv_aload_n hx hb dX6_valueFrom_99 rfl (lv_at hl 1 rfl) ?_
  refine lv_iload_n hx hb dX6_valueFrom_100 rfl (lv_at hl 3 rfl) ?_
  refine lv_aload_n hx hb dX6_valueFrom_101 rfl (lv_at hl 1 rfl) ?_
  obtain ⟨⟨r1, F1, G1⟩, hc, hm⟩ := bind_elim hm
  refine ccallI (n := 0) (As := []) (rest := [.int x3, .ref (a 206)]) C hw (ck_X6_pop l v a _ _ fu F G r1 F1 G1 hc) (cn_X6_pop fu F G _ hc) (Nat.sub_le_sub_right (cn_X6_valueFrom_105 fu ag_12 hagn_12 x2 z0 r1 x3 F1 G1 hm) _) (crecv_X6 C hw) cm_558 cm_559 cm_560 cm_21 cm_561 (by decide +kernel) rfl (by omega) (by omega) hl.1 rfl (Nat.le_of_ble_eq_true rfl) dX6_valueFrom_102 (fun b H locs hw => ?_)
  exact cw_X6_valueFrom_105 fu C hret ag_12 hag_12 hagn_12 x2 z0 r1 x3 F1 G1 hm hw (lv_sub hl [1, 2, 0] rfl)
theorem cn_X6_valueFrom_93 (fu : Nat) {res : Int32 × PF × PG} (ag_12 : Int32 → PF → PG → PR) (hagn_12 : ∀ (x2 : Int32) (F : PF) (G : PG), ag_12 x2 F G = some res → xn F ≤ xn res.2.1) (x2 : Int32) (x3 : Int32) (F : PF) (G : PG) (hm : cb_X6_valueFrom_93 fu ag_12 x2 x3 F G = some res) : xn F ≤ xn res.2.1 := by
  unfold cb_X6_valueFrom_93 at hm
  obtain ⟨⟨r1, F1, G1⟩, hc, hm⟩ := bind_elim hm
  exact Nat.le_trans (cn_X6_pop fu F G _ hc) (cn_X6_valueFrom_97 fu ag_12 hagn_12 x2 x3 r1 F1 G1 hm)
theorem cw_X6_valueFrom_93 (fu : Nat) {res : Int32 × PF × PG} (C : cMC p R s m args c A v RX6 cX6_valueFrom 5 4 135 (xn res.2.1 - xn K0)) (hret : ∀ (b1 : Nat) (H1 : Heap) (locs1 : List Loc) (ls1 : Array Slot) (pc : Nat), cMW s A v a b1 K0 res.2.1 res.2.2 H1 locs1 → narrow .int (.int res.1) = .int res.1 → decode cX6_valueFrom pc = .ok (.ireturn, 1) → W p l e R s m args below meth c H1 locs1 (xn res.2.1 - xn K0) (2 * (xn res.2.1 - xn K0)) Q (F0 m pc ls1 [.int res.1])) (ag_12 : Int32 → PF → PG → PR) (hag_12 : ∀ (x2 : Int32) (F : PF) (G : PG), ag_12 x2 F G = some res → ∀ (b : Nat) (H : Heap) (locs : List Loc) (ls : Array Slot), cMW s A v a b K0 F G H locs → lv_has ls 5 [(0, .ref (a 206)), (2, .int x2)] → W p l e R s m args below meth c H locs (xn F - xn K0) (2 * (xn F - xn K0)) Q (F0 m 12 ls [])) (hagn_12 : ∀ (x2 : Int32) (F : PF) (G : PG), ag_12 x2 F G = some res → xn F ≤ xn res.2.1) (x2 : Int32) (x3 : Int32) (F : PF) (G : PG) (hm : cb_X6_valueFrom_93 fu ag_12 x2 x3 F G = some res) {b : Nat} {H : Heap} {locs : List Loc} (hw : cMW s A v a b K0 F G H locs) {ls : Array Slot} (hl : lv_has ls 5 [(0, .ref (a 206)), (2, .int x2), (3, .int x3)]) : W p l e R s m args below meth c H locs (xn F - xn K0) (2 * (xn F - xn K0)) Q (F0 m 93 ls []) := by
  have hx := C.1
  have hb := C.2.1
  unfold cb_X6_valueFrom_93 at hm
  refine lv_aload_n hx hb dX6_valueFrom_93 rfl (lv_at hl 0 rfl) ?_
  obtain ⟨⟨r1, F1, G1⟩, hc, hm⟩ := bind_elim hm
  refine ccallI (n := 0) (As := []) (rest := []) C hw (ck_X6_pop l v a _ _ fu F G r1 F1 G1 hc) (cn_X6_pop fu F G _ hc) (Nat.sub_le_sub_right (cn_X6_valueFrom_97 fu ag_12 hagn_12 x2 x3 r1 F1 G1 hm) _) (crecv_X6 C hw) cm_558 cm_559 cm_560 cm_21 cm_561 (by decide +kernel) rfl (by omega) (by omega) hl.1 rfl (Nat.le_of_ble_eq_true rfl) dX6_valueFrom_94 (fun b H locs hw => ?_)
  exact cw_X6_valueFrom_97 fu C hret ag_12 hag_12 hagn_12 x2 x3 r1 F1 G1 hm hw (lv_sub hl [0, 1, 2] rfl)
theorem cn_X6_valueFrom_90 (fu : Nat) {res : Int32 × PF × PG} (ag_12 : Int32 → PF → PG → PR) (hagn_12 : ∀ (x2 : Int32) (F : PF) (G : PG), ag_12 x2 F G = some res → xn F ≤ xn res.2.1) (x2 : Int32) (F : PF) (G : PG) (hm : cb_X6_valueFrom_90 fu ag_12 x2 F G = some res) : xn F ≤ xn res.2.1 := by
  unfold cb_X6_valueFrom_90 at hm
  exact (cn_X6_valueFrom_113 fu ag_12 hagn_12 x2 F G hm)
theorem cw_X6_valueFrom_90 (fu : Nat) {res : Int32 × PF × PG} (C : cMC p R s m args c A v RX6 cX6_valueFrom 5 4 135 (xn res.2.1 - xn K0)) (hret : ∀ (b1 : Nat) (H1 : Heap) (locs1 : List Loc) (ls1 : Array Slot) (pc : Nat), cMW s A v a b1 K0 res.2.1 res.2.2 H1 locs1 → narrow .int (.int res.1) = .int res.1 → decode cX6_valueFrom pc = .ok (.ireturn, 1) → W p l e R s m args below meth c H1 locs1 (xn res.2.1 - xn K0) (2 * (xn res.2.1 - xn K0)) Q (F0 m pc ls1 [.int res.1])) (ag_12 : Int32 → PF → PG → PR) (hag_12 : ∀ (x2 : Int32) (F : PF) (G : PG), ag_12 x2 F G = some res → ∀ (b : Nat) (H : Heap) (locs : List Loc) (ls : Array Slot), cMW s A v a b K0 F G H locs → lv_has ls 5 [(0, .ref (a 206)), (2, .int x2)] → W p l e R s m args below meth c H locs (xn F - xn K0) (2 * (xn F - xn K0)) Q (F0 m 12 ls [])) (hagn_12 : ∀ (x2 : Int32) (F : PF) (G : PG), ag_12 x2 F G = some res → xn F ≤ xn res.2.1) (x2 : Int32) (F : PF) (G : PG) (hm : cb_X6_valueFrom_90 fu ag_12 x2 F G = some res) {b : Nat} {H : Heap} {locs : List Loc} (hw : cMW s A v a b K0 F G H locs) {ls : Array Slot} (hl : lv_has ls 5 [(0, .ref (a 206)), (2, .int x2)]) : W p l e R s m args below meth c H locs (xn F - xn K0) (2 * (xn F - xn K0)) Q (F0 m 90 ls []) := by
  have hx := C.1
  have hb := C.2.1
  unfold cb_X6_valueFrom_90 at hm
  refine lv_goto (tgt := 113) hx hb dX6_valueFrom_90 (by decide) ?_
  exact cw_X6_valueFrom_113 fu C hret ag_12 hag_12 hagn_12 x2 F G hm hw (lv_sub hl [0, 1] rfl)
theorem cn_X6_valueFrom_87 (fu : Nat) {res : Int32 × PF × PG} (ag_12 : Int32 → PF → PG → PR) (hagn_12 : ∀ (x2 : Int32) (F : PF) (G : PG), ag_12 x2 F G = some res → xn F ≤ xn res.2.1) (x2 : Int32) (z0 : Int32) (F : PF) (G : PG) (hm : cb_X6_valueFrom_87 fu ag_12 x2 z0 F G = some res) : xn F ≤ xn res.2.1 := by
  unfold cb_X6_valueFrom_87 at hm
  obtain ⟨⟨r1, F1, G1⟩, hc, hm⟩ := bind_elim hm
  exact Nat.le_trans (cn_X6_push fu z0 F G _ hc) (cn_X6_valueFrom_90 fu ag_12 hagn_12 x2 F1 G1 hm)
theorem cw_X6_valueFrom_87 (fu : Nat) {res : Int32 × PF × PG} (C : cMC p R s m args c A v RX6 cX6_valueFrom 5 4 135 (xn res.2.1 - xn K0)) (hret : ∀ (b1 : Nat) (H1 : Heap) (locs1 : List Loc) (ls1 : Array Slot) (pc : Nat), cMW s A v a b1 K0 res.2.1 res.2.2 H1 locs1 → narrow .int (.int res.1) = .int res.1 → decode cX6_valueFrom pc = .ok (.ireturn, 1) → W p l e R s m args below meth c H1 locs1 (xn res.2.1 - xn K0) (2 * (xn res.2.1 - xn K0)) Q (F0 m pc ls1 [.int res.1])) (ag_12 : Int32 → PF → PG → PR) (hag_12 : ∀ (x2 : Int32) (F : PF) (G : PG), ag_12 x2 F G = some res → ∀ (b : Nat) (H : Heap) (locs : List Loc) (ls : Array Slot), cMW s A v a b K0 F G H locs → lv_has ls 5 [(0, .ref (a 206)), (2, .int x2)] → W p l e R s m args below meth c H locs (xn F - xn K0) (2 * (xn F - xn K0)) Q (F0 m 12 ls [])) (hagn_12 : ∀ (x2 : Int32) (F : PF) (G : PG), ag_12 x2 F G = some res → xn F ≤ xn res.2.1) (x2 : Int32) (z0 : Int32) (F : PF) (G : PG) (hm : cb_X6_valueFrom_87 fu ag_12 x2 z0 F G = some res) {b : Nat} {H : Heap} {locs : List Loc} (hw : cMW s A v a b K0 F G H locs) {ls : Array Slot} (hl : lv_has ls 5 [(0, .ref (a 206)), (2, .int x2)]) : W p l e R s m args below meth c H locs (xn F - xn K0) (2 * (xn F - xn K0)) Q (F0 m 87 ls [.int z0, .ref (a 206)]) := by
  have hx := C.1
  have hb := C.2.1
  unfold cb_X6_valueFrom_87 at hm
  obtain ⟨⟨r1, F1, G1⟩, hc, hm⟩ := bind_elim hm
  refine ccallV (n := 1) (As := [.int z0]) (rest := []) C hw (ck_X6_push l v a _ _ fu z0 F G r1 F1 G1 hc) (cn_X6_push fu z0 F G _ hc) (Nat.sub_le_sub_right (cn_X6_valueFrom_90 fu ag_12 hagn_12 x2 F1 G1 hm) _) (crecv_X6 C hw) cm_533 cm_534 cm_535 cm_21 cm_536 (by decide +kernel) rfl (by omega) (by omega) hl.1 rfl (Nat.le_of_ble_eq_true rfl) dX6_valueFrom_87 (fun b H locs hw => ?_)
  exact cw_X6_valueFrom_90 fu C hret ag_12 hag_12 hagn_12 x2 F1 G1 hm hw (lv_sub hl [0, 1] rfl)
theorem cn_X6_valueFrom_84 (fu : Nat) {res : Int32 × PF × PG} (ag_12 : Int32 → PF → PG → PR) (hagn_12 : ∀ (x2 : Int32) (F : PF) (G : PG), ag_12 x2 F G = some res → xn F ≤ xn res.2.1) (x2 : Int32) (z0 : Int32) (z1 : Int32) (F : PF) (G : PG) (hm : cb_X6_valueFrom_84 fu ag_12 x2 z0 z1 F G = some res) : xn F ≤ xn res.2.1 := by
  unfold cb_X6_valueFrom_84 at hm
  obtain ⟨⟨r1, F1, G1⟩, hc, hm⟩ := bind_elim hm
  exact Nat.le_trans (cn_X6_changed fu z1 z0 F G _ hc) (cn_X6_valueFrom_87 fu ag_12 hagn_12 x2 r1 F1 G1 hm)
theorem cw_X6_valueFrom_84 (fu : Nat) {res : Int32 × PF × PG} (C : cMC p R s m args c A v RX6 cX6_valueFrom 5 4 135 (xn res.2.1 - xn K0)) (hret : ∀ (b1 : Nat) (H1 : Heap) (locs1 : List Loc) (ls1 : Array Slot) (pc : Nat), cMW s A v a b1 K0 res.2.1 res.2.2 H1 locs1 → narrow .int (.int res.1) = .int res.1 → decode cX6_valueFrom pc = .ok (.ireturn, 1) → W p l e R s m args below meth c H1 locs1 (xn res.2.1 - xn K0) (2 * (xn res.2.1 - xn K0)) Q (F0 m pc ls1 [.int res.1])) (ag_12 : Int32 → PF → PG → PR) (hag_12 : ∀ (x2 : Int32) (F : PF) (G : PG), ag_12 x2 F G = some res → ∀ (b : Nat) (H : Heap) (locs : List Loc) (ls : Array Slot), cMW s A v a b K0 F G H locs → lv_has ls 5 [(0, .ref (a 206)), (2, .int x2)] → W p l e R s m args below meth c H locs (xn F - xn K0) (2 * (xn F - xn K0)) Q (F0 m 12 ls [])) (hagn_12 : ∀ (x2 : Int32) (F : PF) (G : PG), ag_12 x2 F G = some res → xn F ≤ xn res.2.1) (x2 : Int32) (z0 : Int32) (z1 : Int32) (F : PF) (G : PG) (hm : cb_X6_valueFrom_84 fu ag_12 x2 z0 z1 F G = some res) {b : Nat} {H : Heap} {locs : List Loc} (hw : cMW s A v a b K0 F G H locs) {ls : Array Slot} (hl : lv_has ls 5 [(0, .ref (a 206)), (2, .int x2)]) : W p l e R s m args below meth c H locs (xn F - xn K0) (2 * (xn F - xn K0)) Q (F0 m 84 ls [.int z0, .int z1, .ref (a 206)]) := by
  have hx := C.1
  have hb := C.2.1
  unfold cb_X6_valueFrom_84 at hm
  obtain ⟨⟨r1, F1, G1⟩, hc, hm⟩ := bind_elim hm
  refine ccallIS (n := 2) (As := [.int z1, .int z0]) (rest := [.ref (a 206)]) C hw (ck_X6_changed l v a _ _ fu z1 z0 F G r1 F1 G1 hc) (cn_X6_changed fu z1 z0 F G _ hc) (Nat.sub_le_sub_right (cn_X6_valueFrom_87 fu ag_12 hagn_12 x2 r1 F1 G1 hm) _) cm_565 cm_566 cm_21 cm_567 (by decide +kernel) rfl (by omega) (by omega) hl.1 rfl (Nat.le_of_ble_eq_true rfl) dX6_valueFrom_84 (fun b H locs hw => ?_)
  exact cw_X6_valueFrom_87 fu C hret ag_12 hag_12 hagn_12 x2 r1 F1 G1 hm hw (lv_sub hl [0, 1] rfl)
theorem cn_X6_valueFrom_78 (fu : Nat) {res : Int32 × PF × PG} (ag_12 : Int32 → PF → PG → PR) (hagn_12 : ∀ (x2 : Int32) (F : PF) (G : PG), ag_12 x2 F G = some res → xn F ≤ xn res.2.1) (x2 : Int32) (x3 : Int32) (F : PF) (G : PG) (hm : cb_X6_valueFrom_78 fu ag_12 x2 x3 F G = some res) : xn F ≤ xn res.2.1 := by
  unfold cb_X6_valueFrom_78 at hm
  obtain ⟨⟨r1, F1, G1⟩, hc, hm⟩ := bind_elim hm
  exact Nat.le_trans (cn_X6_pop fu F G _ hc) (cn_X6_valueFrom_84 fu ag_12 hagn_12 x2 r1 x3 F1 G1 hm)
theorem cw_X6_valueFrom_78 (fu : Nat) {res : Int32 × PF × PG} (C : cMC p R s m args c A v RX6 cX6_valueFrom 5 4 135 (xn res.2.1 - xn K0)) (hret : ∀ (b1 : Nat) (H1 : Heap) (locs1 : List Loc) (ls1 : Array Slot) (pc : Nat), cMW s A v a b1 K0 res.2.1 res.2.2 H1 locs1 → narrow .int (.int res.1) = .int res.1 → decode cX6_valueFrom pc = .ok (.ireturn, 1) → W p l e R s m args below meth c H1 locs1 (xn res.2.1 - xn K0) (2 * (xn res.2.1 - xn K0)) Q (F0 m pc ls1 [.int res.1])) (ag_12 : Int32 → PF → PG → PR) (hag_12 : ∀ (x2 : Int32) (F : PF) (G : PG), ag_12 x2 F G = some res → ∀ (b : Nat) (H : Heap) (locs : List Loc) (ls : Array Slot), cMW s A v a b K0 F G H locs → lv_has ls 5 [(0, .ref (a 206)), (2, .int x2)] → W p l e R s m args below meth c H locs (xn F - xn K0) (2 * (xn F - xn K0)) Q (F0 m 12 ls [])) (hagn_12 : ∀ (x2 : Int32) (F : PF) (G : PG), ag_12 x2 F G = some res → xn F ≤ xn res.2.1) (x2 : Int32) (x3 : Int32) (F : PF) (G : PG) (hm : cb_X6_valueFrom_78 fu ag_12 x2 x3 F G = some res) {b : Nat} {H : Heap} {locs : List Loc} (hw : cMW s A v a b K0 F G H locs) {ls : Array Slot} (hl : lv_has ls 5 [(0, .ref (a 206)), (2, .int x2), (3, .int x3)]) : W p l e R s m args below meth c H locs (xn F - xn K0) (2 * (xn F - xn K0)) Q (F0 m 78 ls []) := by
  have hx := C.1
  have hb := C.2.1
  unfold cb_X6_valueFrom_78 at hm
  refine lv_aload_n hx hb dX6_valueFrom_78 rfl (lv_at hl 0 rfl) ?_
  refine lv_iload_n hx hb dX6_valueFrom_79 rfl (lv_at hl 2 rfl) ?_
  refine lv_aload_n hx hb dX6_valueFrom_80 rfl (lv_at hl 0 rfl) ?_
  obtain ⟨⟨r1, F1, G1⟩, hc, hm⟩ := bind_elim hm
  refine ccallI (n := 0) (As := []) (rest := [.int x3, .ref (a 206)]) C hw (ck_X6_pop l v a _ _ fu F G r1 F1 G1 hc) (cn_X6_pop fu F G _ hc) (Nat.sub_le_sub_right (cn_X6_valueFrom_84 fu ag_12 hagn_12 x2 r1 x3 F1 G1 hm) _) (crecv_X6 C hw) cm_558 cm_559 cm_560 cm_21 cm_561 (by decide +kernel) rfl (by omega) (by omega) hl.1 rfl (Nat.le_of_ble_eq_true rfl) dX6_valueFrom_81 (fun b H locs hw => ?_)
  exact cw_X6_valueFrom_84 fu C hret ag_12 hag_12 hagn_12 x2 r1 x3 F1 G1 hm hw (lv_sub hl [0, 1] rfl)
theorem cn_X6_valueFrom_72 (fu : Nat) {res : Int32 × PF × PG} (ag_12 : Int32 → PF → PG → PR) (hagn_12 : ∀ (x2 : Int32) (F : PF) (G : PG), ag_12 x2 F G = some res → xn F ≤ xn res.2.1) (x2 : Int32) (x3 : Int32) (F : PF) (G : PG) (hm : cb_X6_valueFrom_72 fu ag_12 x2 x3 F G = some res) : xn F ≤ xn res.2.1 := by
  unfold cb_X6_valueFrom_72 at hm
  by_cases c_1 : x3 < (62 : Int32)
  · have hm := (if_pos c_1).symm.trans hm
    exact (cn_X6_valueFrom_93 fu ag_12 hagn_12 x2 x3 F G hm)
  · have hm := (if_neg c_1).symm.trans hm
    exact (cn_X6_valueFrom_78 fu ag_12 hagn_12 x2 x3 F G hm)
theorem cw_X6_valueFrom_72 (fu : Nat) {res : Int32 × PF × PG} (C : cMC p R s m args c A v RX6 cX6_valueFrom 5 4 135 (xn res.2.1 - xn K0)) (hret : ∀ (b1 : Nat) (H1 : Heap) (locs1 : List Loc) (ls1 : Array Slot) (pc : Nat), cMW s A v a b1 K0 res.2.1 res.2.2 H1 locs1 → narrow .int (.int res.1) = .int res.1 → decode cX6_valueFrom pc = .ok (.ireturn, 1) → W p l e R s m args below meth c H1 locs1 (xn res.2.1 - xn K0) (2 * (xn res.2.1 - xn K0)) Q (F0 m pc ls1 [.int res.1])) (ag_12 : Int32 → PF → PG → PR) (hag_12 : ∀ (x2 : Int32) (F : PF) (G : PG), ag_12 x2 F G = some res → ∀ (b : Nat) (H : Heap) (locs : List Loc) (ls : Array Slot), cMW s A v a b K0 F G H locs → lv_has ls 5 [(0, .ref (a 206)), (2, .int x2)] → W p l e R s m args below meth c H locs (xn F - xn K0) (2 * (xn F - xn K0)) Q (F0 m 12 ls [])) (hagn_12 : ∀ (x2 : Int32) (F : PF) (G : PG), ag_12 x2 F G = some res → xn F ≤ xn res.2.1) (x2 : Int32) (x3 : Int32) (F : PF) (G : PG) (hm : cb_X6_valueFrom_72 fu ag_12 x2 x3 F G = some res) {b : Nat} {H : Heap} {locs : List Loc} (hw : cMW s A v a b K0 F G H locs) {ls : Array Slot} (hl : lv_has ls 5 [(0, .ref (a 206)), (2, .int x2), (3, .int x3)]) : W p l e R s m args below meth c H locs (xn F - xn K0) (2 * (xn F - xn K0)) Q (F0 m 72 ls []) := by
  have hx := C.1
  have hb := C.2.1
  unfold cb_X6_valueFrom_72 at hm
  refine lv_iload_n hx hb dX6_valueFrom_72 rfl (lv_at hl 2 rfl) ?_
  refine lv_bipush (v := 62) hx hb dX6_valueFrom_73 (by decide) ?_
  refine lv_icmp_lt (tgt := 93) hx hb dX6_valueFrom_75 (by decide) (fun c_1 => ?_) (fun c_1 => ?_)
  · have hm := (if_pos c_1).symm.trans hm
    exact cw_X6_valueFrom_93 fu C hret ag_12 hag_12 hagn_12 x2 x3 F G hm hw (lv_sub hl [0, 1, 2] rfl)
  · have hm := (if_neg c_1).symm.trans hm
    exact cw_X6_valueFrom_78 fu C hret ag_12 hag_12 hagn_12 x2 x3 F G hm hw (lv_sub hl [0, 1, 2] rfl)
theorem cn_X6_valueFrom_69 (fu : Nat) {res : Int32 × PF × PG} (ag_12 : Int32 → PF → PG → PR) (hagn_12 : ∀ (x2 : Int32) (F : PF) (G : PG), ag_12 x2 F G = some res → xn F ≤ xn res.2.1) (x2 : Int32) (F : PF) (G : PG) (hm : cb_X6_valueFrom_69 fu ag_12 x2 F G = some res) : xn F ≤ xn res.2.1 := by
  unfold cb_X6_valueFrom_69 at hm
  exact (cn_X6_valueFrom_113 fu ag_12 hagn_12 x2 F G hm)
theorem cw_X6_valueFrom_69 (fu : Nat) {res : Int32 × PF × PG} (C : cMC p R s m args c A v RX6 cX6_valueFrom 5 4 135 (xn res.2.1 - xn K0)) (hret : ∀ (b1 : Nat) (H1 : Heap) (locs1 : List Loc) (ls1 : Array Slot) (pc : Nat), cMW s A v a b1 K0 res.2.1 res.2.2 H1 locs1 → narrow .int (.int res.1) = .int res.1 → decode cX6_valueFrom pc = .ok (.ireturn, 1) → W p l e R s m args below meth c H1 locs1 (xn res.2.1 - xn K0) (2 * (xn res.2.1 - xn K0)) Q (F0 m pc ls1 [.int res.1])) (ag_12 : Int32 → PF → PG → PR) (hag_12 : ∀ (x2 : Int32) (F : PF) (G : PG), ag_12 x2 F G = some res → ∀ (b : Nat) (H : Heap) (locs : List Loc) (ls : Array Slot), cMW s A v a b K0 F G H locs → lv_has ls 5 [(0, .ref (a 206)), (2, .int x2)] → W p l e R s m args below meth c H locs (xn F - xn K0) (2 * (xn F - xn K0)) Q (F0 m 12 ls [])) (hagn_12 : ∀ (x2 : Int32) (F : PF) (G : PG), ag_12 x2 F G = some res → xn F ≤ xn res.2.1) (x2 : Int32) (F : PF) (G : PG) (hm : cb_X6_valueFrom_69 fu ag_12 x2 F G = some res) {b : Nat} {H : Heap} {locs : List Loc} (hw : cMW s A v a b K0 F G H locs) {ls : Array Slot} (hl : lv_has ls 5 [(0, .ref (a 206)), (2, .int x2)]) : W p l e R s m args below meth c H locs (xn F - xn K0) (2 * (xn F - xn K0)) Q (F0 m 69 ls []) := by
  have hx := C.1
  have hb := C.2.1
  unfold cb_X6_valueFrom_69 at hm
  refine lv_goto (tgt := 113) hx hb dX6_valueFrom_69 (by decide) ?_
  exact cw_X6_valueFrom_113 fu C hret ag_12 hag_12 hagn_12 x2 F G hm hw (lv_sub hl [0, 1] rfl)
theorem cn_X6_valueFrom_66 (fu : Nat) {res : Int32 × PF × PG} (ag_12 : Int32 → PF → PG → PR) (hagn_12 : ∀ (x2 : Int32) (F : PF) (G : PG), ag_12 x2 F G = some res → xn F ≤ xn res.2.1) (x2 : Int32) (z0 : Int32) (z1 : Int32) (F : PF) (G : PG) (hm : cb_X6_valueFrom_66 fu ag_12 x2 z0 z1 F G = some res) : xn F ≤ xn res.2.1 := by
  unfold cb_X6_valueFrom_66 at hm
  obtain ⟨⟨r1, F1, G1⟩, hc, hm⟩ := bind_elim hm
  exact Nat.le_trans (cn_X6_jump fu z1 z0 F G _ hc) (cn_X6_valueFrom_69 fu ag_12 hagn_12 x2 F1 G1 hm)
theorem cw_X6_valueFrom_66 (fu : Nat) {res : Int32 × PF × PG} (C : cMC p R s m args c A v RX6 cX6_valueFrom 5 4 135 (xn res.2.1 - xn K0)) (hret : ∀ (b1 : Nat) (H1 : Heap) (locs1 : List Loc) (ls1 : Array Slot) (pc : Nat), cMW s A v a b1 K0 res.2.1 res.2.2 H1 locs1 → narrow .int (.int res.1) = .int res.1 → decode cX6_valueFrom pc = .ok (.ireturn, 1) → W p l e R s m args below meth c H1 locs1 (xn res.2.1 - xn K0) (2 * (xn res.2.1 - xn K0)) Q (F0 m pc ls1 [.int res.1])) (ag_12 : Int32 → PF → PG → PR) (hag_12 : ∀ (x2 : Int32) (F : PF) (G : PG), ag_12 x2 F G = some res → ∀ (b : Nat) (H : Heap) (locs : List Loc) (ls : Array Slot), cMW s A v a b K0 F G H locs → lv_has ls 5 [(0, .ref (a 206)), (2, .int x2)] → W p l e R s m args below meth c H locs (xn F - xn K0) (2 * (xn F - xn K0)) Q (F0 m 12 ls [])) (hagn_12 : ∀ (x2 : Int32) (F : PF) (G : PG), ag_12 x2 F G = some res → xn F ≤ xn res.2.1) (x2 : Int32) (z0 : Int32) (z1 : Int32) (F : PF) (G : PG) (hm : cb_X6_valueFrom_66 fu ag_12 x2 z0 z1 F G = some res) {b : Nat} {H : Heap} {locs : List Loc} (hw : cMW s A v a b K0 F G H locs) {ls : Array Slot} (hl : lv_has ls 5 [(0, .ref (a 206)), (2, .int x2)]) : W p l e R s m args below meth c H locs (xn F - xn K0) (2 * (xn F - xn K0)) Q (F0 m 66 ls [.int z0, .int z1, .ref (a 206)]) := by
  have hx := C.1
  have hb := C.2.1
  unfold cb_X6_valueFrom_66 at hm
  obtain ⟨⟨r1, F1, G1⟩, hc, hm⟩ := bind_elim hm
  refine ccallV (n := 2) (As := [.int z1, .int z0]) (rest := []) C hw (ck_X6_jump l v a _ _ fu z1 z0 F G r1 F1 G1 hc) (cn_X6_jump fu z1 z0 F G _ hc) (Nat.sub_le_sub_right (cn_X6_valueFrom_69 fu ag_12 hagn_12 x2 F1 G1 hm) _) (crecv_X6 C hw) cm_554 cm_555 cm_556 cm_21 cm_557 (by decide +kernel) rfl (by omega) (by omega) hl.1 rfl (Nat.le_of_ble_eq_true rfl) dX6_valueFrom_66 (fun b H locs hw => ?_)
  exact cw_X6_valueFrom_69 fu C hret ag_12 hag_12 hagn_12 x2 F1 G1 hm hw (lv_sub hl [0, 1] rfl)
theorem cn_X6_valueFrom_60 (fu : Nat) {res : Int32 × PF × PG} (ag_12 : Int32 → PF → PG → PR) (hagn_12 : ∀ (x2 : Int32) (F : PF) (G : PG), ag_12 x2 F G = some res → xn F ≤ xn res.2.1) (x2 : Int32) (x3 : Int32) (F : PF) (G : PG) (hm : cb_X6_valueFrom_60 fu ag_12 x2 x3 F G = some res) : xn F ≤ xn res.2.1 := by
  unfold cb_X6_valueFrom_60 at hm
  obtain ⟨⟨r1, F1, G1⟩, hc, hm⟩ := bind_elim hm
  exact Nat.le_trans (cn_X6_next fu F G _ hc) (cn_X6_valueFrom_66 fu ag_12 hagn_12 x2 r1 x3 F1 G1 hm)
theorem cw_X6_valueFrom_60 (fu : Nat) {res : Int32 × PF × PG} (C : cMC p R s m args c A v RX6 cX6_valueFrom 5 4 135 (xn res.2.1 - xn K0)) (hret : ∀ (b1 : Nat) (H1 : Heap) (locs1 : List Loc) (ls1 : Array Slot) (pc : Nat), cMW s A v a b1 K0 res.2.1 res.2.2 H1 locs1 → narrow .int (.int res.1) = .int res.1 → decode cX6_valueFrom pc = .ok (.ireturn, 1) → W p l e R s m args below meth c H1 locs1 (xn res.2.1 - xn K0) (2 * (xn res.2.1 - xn K0)) Q (F0 m pc ls1 [.int res.1])) (ag_12 : Int32 → PF → PG → PR) (hag_12 : ∀ (x2 : Int32) (F : PF) (G : PG), ag_12 x2 F G = some res → ∀ (b : Nat) (H : Heap) (locs : List Loc) (ls : Array Slot), cMW s A v a b K0 F G H locs → lv_has ls 5 [(0, .ref (a 206)), (2, .int x2)] → W p l e R s m args below meth c H locs (xn F - xn K0) (2 * (xn F - xn K0)) Q (F0 m 12 ls [])) (hagn_12 : ∀ (x2 : Int32) (F : PF) (G : PG), ag_12 x2 F G = some res → xn F ≤ xn res.2.1) (x2 : Int32) (x3 : Int32) (F : PF) (G : PG) (hm : cb_X6_valueFrom_60 fu ag_12 x2 x3 F G = some res) {b : Nat} {H : Heap} {locs : List Loc} (hw : cMW s A v a b K0 F G H locs) {ls : Array Slot} (hl : lv_has ls 5 [(0, .ref (a 206)), (2, .int x2), (3, .int x3)]) : W p l e R s m args below meth c H locs (xn F - xn K0) (2 * (xn F - xn K0)) Q (F0 m 60 ls []) := by
  have hx := C.1
  have hb := C.2.1
  unfold cb_X6_valueFrom_60 at hm
  refine lv_aload_n hx hb dX6_valueFrom_60 rfl (lv_at hl 0 rfl) ?_
  refine lv_iload_n hx hb dX6_valueFrom_61 rfl (lv_at hl 2 rfl) ?_
  refine lv_aload_n hx hb dX6_valueFrom_62 rfl (lv_at hl 0 rfl) ?_
  obtain ⟨⟨r1, F1, G1⟩, hc, hm⟩ := bind_elim hm
  refine ccallI (n := 0) (As := []) (rest := [.int x3, .ref (a 206)]) C hw (ck_X6_next l v a _ _ fu F G r1 F1 G1 hc) (cn_X6_next fu F G _ hc) (Nat.sub_le_sub_right (cn_X6_valueFrom_66 fu ag_12 hagn_12 x2 r1 x3 F1 G1 hm) _) (crecv_X6 C hw) cm_529 cm_530 cm_531 cm_21 cm_532 (by decide +kernel) rfl (by omega) (by omega) hl.1 rfl (Nat.le_of_ble_eq_true rfl) dX6_valueFrom_63 (fun b H locs hw => ?_)
  exact cw_X6_valueFrom_66 fu C hret ag_12 hag_12 hagn_12 x2 r1 x3 F1 G1 hm hw (lv_sub hl [0, 1] rfl)
theorem cn_X6_valueFrom_54 (fu : Nat) {res : Int32 × PF × PG} (ag_12 : Int32 → PF → PG → PR) (hagn_12 : ∀ (x2 : Int32) (F : PF) (G : PG), ag_12 x2 F G = some res → xn F ≤ xn res.2.1) (x2 : Int32) (x3 : Int32) (F : PF) (G : PG) (hm : cb_X6_valueFrom_54 fu ag_12 x2 x3 F G = some res) : xn F ≤ xn res.2.1 := by
  unfold cb_X6_valueFrom_54 at hm
  by_cases c_1 : x3 < (84 : Int32)
  · have hm := (if_pos c_1).symm.trans hm
    exact (cn_X6_valueFrom_72 fu ag_12 hagn_12 x2 x3 F G hm)
  · have hm := (if_neg c_1).symm.trans hm
    exact (cn_X6_valueFrom_60 fu ag_12 hagn_12 x2 x3 F G hm)
theorem cw_X6_valueFrom_54 (fu : Nat) {res : Int32 × PF × PG} (C : cMC p R s m args c A v RX6 cX6_valueFrom 5 4 135 (xn res.2.1 - xn K0)) (hret : ∀ (b1 : Nat) (H1 : Heap) (locs1 : List Loc) (ls1 : Array Slot) (pc : Nat), cMW s A v a b1 K0 res.2.1 res.2.2 H1 locs1 → narrow .int (.int res.1) = .int res.1 → decode cX6_valueFrom pc = .ok (.ireturn, 1) → W p l e R s m args below meth c H1 locs1 (xn res.2.1 - xn K0) (2 * (xn res.2.1 - xn K0)) Q (F0 m pc ls1 [.int res.1])) (ag_12 : Int32 → PF → PG → PR) (hag_12 : ∀ (x2 : Int32) (F : PF) (G : PG), ag_12 x2 F G = some res → ∀ (b : Nat) (H : Heap) (locs : List Loc) (ls : Array Slot), cMW s A v a b K0 F G H locs → lv_has ls 5 [(0, .ref (a 206)), (2, .int x2)] → W p l e R s m args below meth c H locs (xn F - xn K0) (2 * (xn F - xn K0)) Q (F0 m 12 ls [])) (hagn_12 : ∀ (x2 : Int32) (F : PF) (G : PG), ag_12 x2 F G = some res → xn F ≤ xn res.2.1) (x2 : Int32) (x3 : Int32) (F : PF) (G : PG) (hm : cb_X6_valueFrom_54 fu ag_12 x2 x3 F G = some res) {b : Nat} {H : Heap} {locs : List Loc} (hw : cMW s A v a b K0 F G H locs) {ls : Array Slot} (hl : lv_has ls 5 [(0, .ref (a 206)), (2, .int x2), (3, .int x3)]) : W p l e R s m args below meth c H locs (xn F - xn K0) (2 * (xn F - xn K0)) Q (F0 m 54 ls []) := by
  have hx := C.1
  have hb := C.2.1
  unfold cb_X6_valueFrom_54 at hm
  refine lv_iload_n hx hb dX6_valueFrom_54 rfl (lv_at hl 2 rfl) ?_
  refine lv_bipush (v := 84) hx hb dX6_valueFrom_55 (by decide) ?_
  refine lv_icmp_lt (tgt := 72) hx hb dX6_valueFrom_57 (by decide) (fun c_1 => ?_) (fun c_1 => ?_)
  · have hm := (if_pos c_1).symm.trans hm
    exact cw_X6_valueFrom_72 fu C hret ag_12 hag_12 hagn_12 x2 x3 F G hm hw (lv_sub hl [0, 1, 2] rfl)
  · have hm := (if_neg c_1).symm.trans hm
    exact cw_X6_valueFrom_60 fu C hret ag_12 hag_12 hagn_12 x2 x3 F G hm hw (lv_sub hl [0, 1, 2] rfl)
theorem cn_X6_valueFrom_51 (fu : Nat) {res : Int32 × PF × PG} (ag_12 : Int32 → PF → PG → PR) (hagn_12 : ∀ (x2 : Int32) (F : PF) (G : PG), ag_12 x2 F G = some res → xn F ≤ xn res.2.1) (x2 : Int32) (F : PF) (G : PG) (hm : cb_X6_valueFrom_51 fu ag_12 x2 F G = some res) : xn F ≤ xn res.2.1 := by
  unfold cb_X6_valueFrom_51 at hm
  exact (cn_X6_valueFrom_113 fu ag_12 hagn_12 x2 F G hm)
theorem cw_X6_valueFrom_51 (fu : Nat) {res : Int32 × PF × PG} (C : cMC p R s m args c A v RX6 cX6_valueFrom 5 4 135 (xn res.2.1 - xn K0)) (hret : ∀ (b1 : Nat) (H1 : Heap) (locs1 : List Loc) (ls1 : Array Slot) (pc : Nat), cMW s A v a b1 K0 res.2.1 res.2.2 H1 locs1 → narrow .int (.int res.1) = .int res.1 → decode cX6_valueFrom pc = .ok (.ireturn, 1) → W p l e R s m args below meth c H1 locs1 (xn res.2.1 - xn K0) (2 * (xn res.2.1 - xn K0)) Q (F0 m pc ls1 [.int res.1])) (ag_12 : Int32 → PF → PG → PR) (hag_12 : ∀ (x2 : Int32) (F : PF) (G : PG), ag_12 x2 F G = some res → ∀ (b : Nat) (H : Heap) (locs : List Loc) (ls : Array Slot), cMW s A v a b K0 F G H locs → lv_has ls 5 [(0, .ref (a 206)), (2, .int x2)] → W p l e R s m args below meth c H locs (xn F - xn K0) (2 * (xn F - xn K0)) Q (F0 m 12 ls [])) (hagn_12 : ∀ (x2 : Int32) (F : PF) (G : PG), ag_12 x2 F G = some res → xn F ≤ xn res.2.1) (x2 : Int32) (F : PF) (G : PG) (hm : cb_X6_valueFrom_51 fu ag_12 x2 F G = some res) {b : Nat} {H : Heap} {locs : List Loc} (hw : cMW s A v a b K0 F G H locs) {ls : Array Slot} (hl : lv_has ls 5 [(0, .ref (a 206)), (2, .int x2)]) : W p l e R s m args below meth c H locs (xn F - xn K0) (2 * (xn F - xn K0)) Q (F0 m 51 ls []) := by
  have hx := C.1
  have hb := C.2.1
  unfold cb_X6_valueFrom_51 at hm
  refine lv_goto (tgt := 113) hx hb dX6_valueFrom_51 (by decide) ?_
  exact cw_X6_valueFrom_113 fu C hret ag_12 hag_12 hagn_12 x2 F G hm hw (lv_sub hl [0, 1] rfl)
theorem cn_X6_valueFrom_48 (fu : Nat) {res : Int32 × PF × PG} (ag_12 : Int32 → PF → PG → PR) (hagn_12 : ∀ (x2 : Int32) (F : PF) (G : PG), ag_12 x2 F G = some res → xn F ≤ xn res.2.1) (x2 : Int32) (z0 : Int32) (F : PF) (G : PG) (hm : cb_X6_valueFrom_48 fu ag_12 x2 z0 F G = some res) : xn F ≤ xn res.2.1 := by
  unfold cb_X6_valueFrom_48 at hm
  obtain ⟨⟨r1, F1, G1⟩, hc, hm⟩ := bind_elim hm
  exact Nat.le_trans (cn_X6_push fu z0 F G _ hc) (cn_X6_valueFrom_51 fu ag_12 hagn_12 x2 F1 G1 hm)
theorem cw_X6_valueFrom_48 (fu : Nat) {res : Int32 × PF × PG} (C : cMC p R s m args c A v RX6 cX6_valueFrom 5 4 135 (xn res.2.1 - xn K0)) (hret : ∀ (b1 : Nat) (H1 : Heap) (locs1 : List Loc) (ls1 : Array Slot) (pc : Nat), cMW s A v a b1 K0 res.2.1 res.2.2 H1 locs1 → narrow .int (.int res.1) = .int res.1 → decode cX6_valueFrom pc = .ok (.ireturn, 1) → W p l e R s m args below meth c H1 locs1 (xn res.2.1 - xn K0) (2 * (xn res.2.1 - xn K0)) Q (F0 m pc ls1 [.int res.1])) (ag_12 : Int32 → PF → PG → PR) (hag_12 : ∀ (x2 : Int32) (F : PF) (G : PG), ag_12 x2 F G = some res → ∀ (b : Nat) (H : Heap) (locs : List Loc) (ls : Array Slot), cMW s A v a b K0 F G H locs → lv_has ls 5 [(0, .ref (a 206)), (2, .int x2)] → W p l e R s m args below meth c H locs (xn F - xn K0) (2 * (xn F - xn K0)) Q (F0 m 12 ls [])) (hagn_12 : ∀ (x2 : Int32) (F : PF) (G : PG), ag_12 x2 F G = some res → xn F ≤ xn res.2.1) (x2 : Int32) (z0 : Int32) (F : PF) (G : PG) (hm : cb_X6_valueFrom_48 fu ag_12 x2 z0 F G = some res) {b : Nat} {H : Heap} {locs : List Loc} (hw : cMW s A v a b K0 F G H locs) {ls : Array Slot} (hl : lv_has ls 5 [(0, .ref (a 206)), (2, .int x2)]) : W p l e R s m args below meth c H locs (xn F - xn K0) (2 * (xn F - xn K0)) Q (F0 m 48 ls [.int z0, .ref (a 206)]) := by
  have hx := C.1
  have hb := C.2.1
  unfold cb_X6_valueFrom_48 at hm
  obtain ⟨⟨r1, F1, G1⟩, hc, hm⟩ := bind_elim hm
  refine ccallV (n := 1) (As := [.int z0]) (rest := []) C hw (ck_X6_push l v a _ _ fu z0 F G r1 F1 G1 hc) (cn_X6_push fu z0 F G _ hc) (Nat.sub_le_sub_right (cn_X6_valueFrom_51 fu ag_12 hagn_12 x2 F1 G1 hm) _) (crecv_X6 C hw) cm_533 cm_534 cm_535 cm_21 cm_536 (by decide +kernel) rfl (by omega) (by omega) hl.1 rfl (Nat.le_of_ble_eq_true rfl) dX6_valueFrom_48 (fun b H locs hw => ?_)
  exact cw_X6_valueFrom_51 fu C hret ag_12 hag_12 hagn_12 x2 F1 G1 hm hw (lv_sub hl [0, 1] rfl)
theorem cn_X6_valueFrom_43 (fu : Nat) {res : Int32 × PF × PG} (ag_12 : Int32 → PF → PG → PR) (hagn_12 : ∀ (x2 : Int32) (F : PF) (G : PG), ag_12 x2 F G = some res → xn F ≤ xn res.2.1) (x2 : Int32) (F : PF) (G : PG) (hm : cb_X6_valueFrom_43 fu ag_12 x2 F G = some res) : xn F ≤ xn res.2.1 := by
  unfold cb_X6_valueFrom_43 at hm
  obtain ⟨⟨r1, F1, G1⟩, hc, hm⟩ := bind_elim hm
  exact Nat.le_trans (cn_X6_next fu F G _ hc) (cn_X6_valueFrom_48 fu ag_12 hagn_12 x2 r1 F1 G1 hm)
theorem cw_X6_valueFrom_43 (fu : Nat) {res : Int32 × PF × PG} (C : cMC p R s m args c A v RX6 cX6_valueFrom 5 4 135 (xn res.2.1 - xn K0)) (hret : ∀ (b1 : Nat) (H1 : Heap) (locs1 : List Loc) (ls1 : Array Slot) (pc : Nat), cMW s A v a b1 K0 res.2.1 res.2.2 H1 locs1 → narrow .int (.int res.1) = .int res.1 → decode cX6_valueFrom pc = .ok (.ireturn, 1) → W p l e R s m args below meth c H1 locs1 (xn res.2.1 - xn K0) (2 * (xn res.2.1 - xn K0)) Q (F0 m pc ls1 [.int res.1])) (ag_12 : Int32 → PF → PG → PR) (hag_12 : ∀ (x2 : Int32) (F : PF) (G : PG), ag_12 x2 F G = some res → ∀ (b : Nat) (H : Heap) (locs : List Loc) (ls : Array Slot), cMW s A v a b K0 F G H locs → lv_has ls 5 [(0, .ref (a 206)), (2, .int x2)] → W p l e R s m args below meth c H locs (xn F - xn K0) (2 * (xn F - xn K0)) Q (F0 m 12 ls [])) (hagn_12 : ∀ (x2 : Int32) (F : PF) (G : PG), ag_12 x2 F G = some res → xn F ≤ xn res.2.1) (x2 : Int32) (F : PF) (G : PG) (hm : cb_X6_valueFrom_43 fu ag_12 x2 F G = some res) {b : Nat} {H : Heap} {locs : List Loc} (hw : cMW s A v a b K0 F G H locs) {ls : Array Slot} (hl : lv_has ls 5 [(0, .ref (a 206)), (2, .int x2)]) : W p l e R s m args below meth c H locs (xn F - xn K0) (2 * (xn F - xn K0)) Q (F0 m 43 ls []) := by
  have hx := C.1
  have hb := C.2.1
  unfold cb_X6_valueFrom_43 at hm
  refine lv_aload_n hx hb dX6_valueFrom_43 rfl (lv_at hl 0 rfl) ?_
  refine lv_aload_n hx hb dX6_valueFrom_44 rfl (lv_at hl 0 rfl) ?_
  obtain ⟨⟨r1, F1, G1⟩, hc, hm⟩ := bind_elim hm
  refine ccallI (n := 0) (As := []) (rest := [.ref (a 206)]) C hw (ck_X6_next l v a _ _ fu F G r1 F1 G1 hc) (cn_X6_next fu F G _ hc) (Nat.sub_le_sub_right (cn_X6_valueFrom_48 fu ag_12 hagn_12 x2 r1 F1 G1 hm) _) (crecv_X6 C hw) cm_529 cm_530 cm_531 cm_21 cm_532 (by decide +kernel) rfl (by omega) (by omega) hl.1 rfl (Nat.le_of_ble_eq_true rfl) dX6_valueFrom_45 (fun b H locs hw => ?_)
  exact cw_X6_valueFrom_48 fu C hret ag_12 hag_12 hagn_12 x2 r1 F1 G1 hm hw (lv_sub hl [0, 1] rfl)
theorem cn_X6_valueFrom_36 (fu : Nat) {res : Int32 × PF × PG} (ag_12 : Int32 → PF → PG → PR) (hagn_12 : ∀ (x2 : Int32) (F : PF) (G : PG), ag_12 x2 F G = some res → xn F ≤ xn res.2.1) (x2 : Int32) (z0 : Int32) (F : PF) (G : PG) (hm : cb_X6_valueFrom_36 fu ag_12 x2 z0 F G = some res) : xn F ≤ xn res.2.1 := by
  unfold cb_X6_valueFrom_36 at hm
  by_cases c_1 : z0 = (66 : Int32)
  · have hm := (if_pos c_1).symm.trans hm
    exact (cn_X6_valueFrom_43 fu ag_12 hagn_12 x2 F G hm)
  · have hm := (if_neg c_1).symm.trans hm
    exact (cn_X6_valueFrom_54 fu ag_12 hagn_12 x2 z0 F G hm)
theorem cw_X6_valueFrom_36 (fu : Nat) {res : Int32 × PF × PG} (C : cMC p R s m args c A v RX6 cX6_valueFrom 5 4 135 (xn res.2.1 - xn K0)) (hret : ∀ (b1 : Nat) (H1 : Heap) (locs1 : List Loc) (ls1 : Array Slot) (pc : Nat), cMW s A v a b1 K0 res.2.1 res.2.2 H1 locs1 → narrow .int (.int res.1) = .int res.1 → decode cX6_valueFrom pc = .ok (.ireturn, 1) → W p l e R s m args below meth c H1 locs1 (xn res.2.1 - xn K0) (2 * (xn res.2.1 - xn K0)) Q (F0 m pc ls1 [.int res.1])) (ag_12 : Int32 → PF → PG → PR) (hag_12 : ∀ (x2 : Int32) (F : PF) (G : PG), ag_12 x2 F G = some res → ∀ (b : Nat) (H : Heap) (locs : List Loc) (ls : Array Slot), cMW s A v a b K0 F G H locs → lv_has ls 5 [(0, .ref (a 206)), (2, .int x2)] → W p l e R s m args below meth c H locs (xn F - xn K0) (2 * (xn F - xn K0)) Q (F0 m 12 ls [])) (hagn_12 : ∀ (x2 : Int32) (F : PF) (G : PG), ag_12 x2 F G = some res → xn F ≤ xn res.2.1) (x2 : Int32) (z0 : Int32) (F : PF) (G : PG) (hm : cb_X6_valueFrom_36 fu ag_12 x2 z0 F G = some res) {b : Nat} {H : Heap} {locs : List Loc} (hw : cMW s A v a b K0 F G H locs) {ls : Array Slot} (hl : lv_has ls 5 [(0, .ref (a 206)), (2, .int x2)]) : W p l e R s m args below meth c H locs (xn F - xn K0) (2 * (xn F - xn K0)) Q (F0 m 36 ls [.int z0]) := by
  have hx := C.1
  have hb := C.2.1
  unfold cb_X6_valueFrom_36 at hm
  refine lv_istore_n (lv' := [(3, .int z0), (0, .ref (a 206)), (2, .int x2)]) hx hb dX6_valueFrom_36 rfl hl (by decide) rfl (fun ls hl => ?_)
  refine lv_iload_n hx hb dX6_valueFrom_37 rfl (lv_at hl 0 rfl) ?_
  refine lv_bipush (v := 66) hx hb dX6_valueFrom_38 (by decide) ?_
  refine lv_icmp_ne (tgt := 54) hx hb dX6_valueFrom_40 (by decide) (fun c_1 => ?_) (fun c_1 => ?_)
  · have hm := (if_neg c_1).symm.trans hm
    exact cw_X6_valueFrom_54 fu C hret ag_12 hag_12 hagn_12 x2 z0 F G hm hw (lv_sub hl [1, 2, 0] rfl)
  · have hm := (if_pos c_1).symm.trans hm
    exact cw_X6_valueFrom_43 fu C hret ag_12 hag_12 hagn_12 x2 F G hm hw (lv_sub hl [1, 2] rfl)
theorem cn_X6_valueFrom_32 (fu : Nat) {res : Int32 × PF × PG} (ag_12 : Int32 → PF → PG → PR) (hagn_12 : ∀ (x2 : Int32) (F : PF) (G : PG), ag_12 x2 F G = some res → xn F ≤ xn res.2.1) (x2 : Int32) (F : PF) (G : PG) (hm : cb_X6_valueFrom_32 fu ag_12 x2 F G = some res) : xn F ≤ xn res.2.1 := by
  unfold cb_X6_valueFrom_32 at hm
  obtain ⟨⟨r1, F1, G1⟩, hc, hm⟩ := bind_elim hm
  exact Nat.le_trans (cn_X6_next fu F G _ hc) (cn_X6_valueFrom_36 fu ag_12 hagn_12 x2 r1 F1 G1 hm)
theorem cw_X6_valueFrom_32 (fu : Nat) {res : Int32 × PF × PG} (C : cMC p R s m args c A v RX6 cX6_valueFrom 5 4 135 (xn res.2.1 - xn K0)) (hret : ∀ (b1 : Nat) (H1 : Heap) (locs1 : List Loc) (ls1 : Array Slot) (pc : Nat), cMW s A v a b1 K0 res.2.1 res.2.2 H1 locs1 → narrow .int (.int res.1) = .int res.1 → decode cX6_valueFrom pc = .ok (.ireturn, 1) → W p l e R s m args below meth c H1 locs1 (xn res.2.1 - xn K0) (2 * (xn res.2.1 - xn K0)) Q (F0 m pc ls1 [.int res.1])) (ag_12 : Int32 → PF → PG → PR) (hag_12 : ∀ (x2 : Int32) (F : PF) (G : PG), ag_12 x2 F G = some res → ∀ (b : Nat) (H : Heap) (locs : List Loc) (ls : Array Slot), cMW s A v a b K0 F G H locs → lv_has ls 5 [(0, .ref (a 206)), (2, .int x2)] → W p l e R s m args below meth c H locs (xn F - xn K0) (2 * (xn F - xn K0)) Q (F0 m 12 ls [])) (hagn_12 : ∀ (x2 : Int32) (F : PF) (G : PG), ag_12 x2 F G = some res → xn F ≤ xn res.2.1) (x2 : Int32) (F : PF) (G : PG) (hm : cb_X6_valueFrom_32 fu ag_12 x2 F G = some res) {b : Nat} {H : Heap} {locs : List Loc} (hw : cMW s A v a b K0 F G H locs) {ls : Array Slot} (hl : lv_has ls 5 [(0, .ref (a 206)), (2, .int x2)]) : W p l e R s m args below meth c H locs (xn F - xn K0) (2 * (xn F - xn K0)) Q (F0 m 32 ls []) := by
  have hx := C.1
  have hb := C.2.1
  unfold cb_X6_valueFrom_32 at hm
  refine lv_aload_n hx hb dX6_valueFrom_32 rfl (lv_at hl 0 rfl) ?_
  obtain ⟨⟨r1, F1, G1⟩, hc, hm⟩ := bind_elim hm
  refine ccallI (n := 0) (As := []) (rest := []) C hw (ck_X6_next l v a _ _ fu F G r1 F1 G1 hc) (cn_X6_next fu F G _ hc) (Nat.sub_le_sub_right (cn_X6_valueFrom_36 fu ag_12 hagn_12 x2 r1 F1 G1 hm) _) (crecv_X6 C hw) cm_529 cm_530 cm_531 cm_21 cm_532 (by decide +kernel) rfl (by omega) (by omega) hl.1 rfl (Nat.le_of_ble_eq_true rfl) dX6_valueFrom_33 (fun b H locs hw => ?_)
  exact cw_X6_valueFrom_36 fu C hret ag_12 hag_12 hagn_12 x2 r1 F1 G1 hm hw (lv_sub hl [0, 1] rfl)
theorem cn_X6_valueFrom_18 (fu : Nat) {res : Int32 × PF × PG} (ag_12 : Int32 → PF → PG → PR) (hagn_12 : ∀ (x2 : Int32) (F : PF) (G : PG), ag_12 x2 F G = some res → xn F ≤ xn res.2.1) (x2 : Int32) (F : PF) (G : PG) (hm : cb_X6_valueFrom_18 fu ag_12 x2 F G = some res) : xn F ≤ xn res.2.1 := by
  unfold cb_X6_valueFrom_18 at hm
  by_cases c_1 : (F 6) ≤ (F 57)
  · have hm := (if_pos c_1).symm.trans hm
    exact (cn_X6_valueFrom_119 fu F G hm)
  · have hm := (if_neg c_1).symm.trans hm
    exact (cn_X6_valueFrom_32 fu ag_12 hagn_12 x2 F G hm)
theorem cw_X6_valueFrom_18 (fu : Nat) {res : Int32 × PF × PG} (C : cMC p R s m args c A v RX6 cX6_valueFrom 5 4 135 (xn res.2.1 - xn K0)) (hret : ∀ (b1 : Nat) (H1 : Heap) (locs1 : List Loc) (ls1 : Array Slot) (pc : Nat), cMW s A v a b1 K0 res.2.1 res.2.2 H1 locs1 → narrow .int (.int res.1) = .int res.1 → decode cX6_valueFrom pc = .ok (.ireturn, 1) → W p l e R s m args below meth c H1 locs1 (xn res.2.1 - xn K0) (2 * (xn res.2.1 - xn K0)) Q (F0 m pc ls1 [.int res.1])) (ag_12 : Int32 → PF → PG → PR) (hag_12 : ∀ (x2 : Int32) (F : PF) (G : PG), ag_12 x2 F G = some res → ∀ (b : Nat) (H : Heap) (locs : List Loc) (ls : Array Slot), cMW s A v a b K0 F G H locs → lv_has ls 5 [(0, .ref (a 206)), (2, .int x2)] → W p l e R s m args below meth c H locs (xn F - xn K0) (2 * (xn F - xn K0)) Q (F0 m 12 ls [])) (hagn_12 : ∀ (x2 : Int32) (F : PF) (G : PG), ag_12 x2 F G = some res → xn F ≤ xn res.2.1) (x2 : Int32) (F : PF) (G : PG) (hm : cb_X6_valueFrom_18 fu ag_12 x2 F G = some res) {b : Nat} {H : Heap} {locs : List Loc} (hw : cMW s A v a b K0 F G H locs) {ls : Array Slot} (hl : lv_has ls 5 [(0, .ref (a 206)), (2, .int x2)]) : W p l e R s m args below meth c H locs (xn F - xn K0) (2 * (xn F - xn K0)) Q (F0 m 18 ls []) := by
  have hx := C.1
  have hb := C.2.1
  unfold cb_X6_valueFrom_18 at hm
  refine lv_aload_n hx hb dX6_valueFrom_18 rfl (lv_at hl 0 rfl) ?_
  refine cg_X6_70 C hw dX6_valueFrom_19 ?_
  refine lv_aload_n hx hb dX6_valueFrom_22 rfl (lv_at hl 0 rfl) ?_
  refine cg_X6_18 C hw dX6_valueFrom_23 ?_
  refine cg_X6_74 C hw dX6_valueFrom_26 ?_
  refine lv_icmp_ge (tgt := 119) hx hb dX6_valueFrom_29 (by decide) (fun c_1 => ?_) (fun c_1 => ?_)
  · have hm := (if_pos c_1).symm.trans hm
    exact cw_X6_valueFrom_119 fu C hret F G hm hw (lv_sub hl [0] rfl)
  · have hm := (if_neg c_1).symm.trans hm
    exact cw_X6_valueFrom_32 fu C hret ag_12 hag_12 hagn_12 x2 F G hm hw (lv_sub hl [0, 1] rfl)
theorem cn_X6_valueFrom_12 (fu : Nat) {res : Int32 × PF × PG} (ag_12 : Int32 → PF → PG → PR) (hagn_12 : ∀ (x2 : Int32) (F : PF) (G : PG), ag_12 x2 F G = some res → xn F ≤ xn res.2.1) (x2 : Int32) (F : PF) (G : PG) (hm : cb_X6_valueFrom_12 fu ag_12 x2 F G = some res) : xn F ≤ xn res.2.1 := by
  unfold cb_X6_valueFrom_12 at hm
  by_cases c_1 : (100000000 : Int32) ≤ x2
  · have hm := (if_pos c_1).symm.trans hm
    exact (cn_X6_valueFrom_119 fu F G hm)
  · have hm := (if_neg c_1).symm.trans hm
    exact (cn_X6_valueFrom_18 fu ag_12 hagn_12 x2 F G hm)
theorem cw_X6_valueFrom_12 (fu : Nat) {res : Int32 × PF × PG} (C : cMC p R s m args c A v RX6 cX6_valueFrom 5 4 135 (xn res.2.1 - xn K0)) (hret : ∀ (b1 : Nat) (H1 : Heap) (locs1 : List Loc) (ls1 : Array Slot) (pc : Nat), cMW s A v a b1 K0 res.2.1 res.2.2 H1 locs1 → narrow .int (.int res.1) = .int res.1 → decode cX6_valueFrom pc = .ok (.ireturn, 1) → W p l e R s m args below meth c H1 locs1 (xn res.2.1 - xn K0) (2 * (xn res.2.1 - xn K0)) Q (F0 m pc ls1 [.int res.1])) (ag_12 : Int32 → PF → PG → PR) (hag_12 : ∀ (x2 : Int32) (F : PF) (G : PG), ag_12 x2 F G = some res → ∀ (b : Nat) (H : Heap) (locs : List Loc) (ls : Array Slot), cMW s A v a b K0 F G H locs → lv_has ls 5 [(0, .ref (a 206)), (2, .int x2)] → W p l e R s m args below meth c H locs (xn F - xn K0) (2 * (xn F - xn K0)) Q (F0 m 12 ls [])) (hagn_12 : ∀ (x2 : Int32) (F : PF) (G : PG), ag_12 x2 F G = some res → xn F ≤ xn res.2.1) (x2 : Int32) (F : PF) (G : PG) (hm : cb_X6_valueFrom_12 fu ag_12 x2 F G = some res) {b : Nat} {H : Heap} {locs : List Loc} (hw : cMW s A v a b K0 F G H locs) {ls : Array Slot} (hl : lv_has ls 5 [(0, .ref (a 206)), (2, .int x2)]) : W p l e R s m args below meth c H locs (xn F - xn K0) (2 * (xn F - xn K0)) Q (F0 m 12 ls []) := by
  have hx := C.1
  have hb := C.2.1
  unfold cb_X6_valueFrom_12 at hm
  refine lv_iload_n hx hb dX6_valueFrom_12 rfl (lv_at hl 1 rfl) ?_
  refine lv_ldc (v := 100000000) hx hb C.2.2.2.1 (C.2.2.2.2.1 _ cm_526) dX6_valueFrom_13 ?_
  refine lv_icmp_ge (tgt := 119) hx hb dX6_valueFrom_15 (by decide) (fun c_1 => ?_) (fun c_1 => ?_)
  · have hm := (if_pos c_1).symm.trans hm
    exact cw_X6_valueFrom_119 fu C hret F G hm hw (lv_sub hl [0] rfl)
  · have hm := (if_neg c_1).symm.trans hm
    exact cw_X6_valueFrom_18 fu C hret ag_12 hag_12 hagn_12 x2 F G hm hw (lv_sub hl [0, 1] rfl)
theorem cnl_X6_valueFrom_12 (fu : Nat) {res : Int32 × PF × PG} : ∀ (n : Nat) (x2 : Int32) (F : PF) (G : PG) (hm : cl_X6_valueFrom_12 fu n x2 F G = some res), xn F ≤ xn res.2.1 := by
  intro n
  induction n with
  | zero =>
    intro x2 F G hm
    exact no_elim (show (none : PR) = some res from hm)
  | succ n ih =>
    intro x2 F G hm
    exact cn_X6_valueFrom_12 fu (cl_X6_valueFrom_12 fu n) (fun x2 F G hm => ih x2 F G hm) x2 F G hm
theorem cwl_X6_valueFrom_12 (fu : Nat) {res : Int32 × PF × PG} (C : cMC p R s m args c A v RX6 cX6_valueFrom 5 4 135 (xn res.2.1 - xn K0)) (hret : ∀ (b1 : Nat) (H1 : Heap) (locs1 : List Loc) (ls1 : Array Slot) (pc : Nat), cMW s A v a b1 K0 res.2.1 res.2.2 H1 locs1 → narrow .int (.int res.1) = .int res.1 → decode cX6_valueFrom pc = .ok (.ireturn, 1) → W p l e R s m args below meth c H1 locs1 (xn res.2.1 - xn K0) (2 * (xn res.2.1 - xn K0)) Q (F0 m pc ls1 [.int res.1])) : ∀ (n : Nat) (x2 : Int32) (F : PF) (G : PG) (hm : cl_X6_valueFrom_12 fu n x2 F G = some res) {b : Nat} {H : Heap} {locs : List Loc} (hw : cMW s A v a b K0 F G H locs) {ls : Array Slot} (hl : lv_has ls 5 [(0, .ref (a 206)), (2, .int x2)]), W p l e R s m args below meth c H locs (xn F - xn K0) (2 * (xn F - xn K0)) Q (F0 m 12 ls []) := by
  intro n
  induction n with
  | zero =>
    intro x2 F G hm
    exact no_elim (show (none : PR) = some res from hm)
  | succ n ih =>
    intro x2 F G hm b H locs hw ls hl
    exact cw_X6_valueFrom_12 fu C hret (cl_X6_valueFrom_12 fu n) (fun x2 F G hm b H locs ls hw hl => ih x2 F G hm hw hl) (fun x2 F G hm => cnl_X6_valueFrom_12 fu n x2 F G hm) x2 F G hm hw hl
theorem cn_X6_valueFrom_10 (fu : Nat) {res : Int32 × PF × PG} (F : PF) (G : PG) (hm : cb_X6_valueFrom_10 fu F G = some res) : xn F ≤ xn res.2.1 := by
  unfold cb_X6_valueFrom_10 at hm
  exact (cnl_X6_valueFrom_12 fu fu 0 F G hm)
theorem cw_X6_valueFrom_10 (fu : Nat) {res : Int32 × PF × PG} (C : cMC p R s m args c A v RX6 cX6_valueFrom 5 4 135 (xn res.2.1 - xn K0)) (hret : ∀ (b1 : Nat) (H1 : Heap) (locs1 : List Loc) (ls1 : Array Slot) (pc : Nat), cMW s A v a b1 K0 res.2.1 res.2.2 H1 locs1 → narrow .int (.int res.1) = .int res.1 → decode cX6_valueFrom pc = .ok (.ireturn, 1) → W p l e R s m args below meth c H1 locs1 (xn res.2.1 - xn K0) (2 * (xn res.2.1 - xn K0)) Q (F0 m pc ls1 [.int res.1])) (F : PF) (G : PG) (hm : cb_X6_valueFrom_10 fu F G = some res) {b : Nat} {H : Heap} {locs : List Loc} (hw : cMW s A v a b K0 F G H locs) {ls : Array Slot} (hl : lv_has ls 5 [(0, .ref (a 206))]) : W p l e R s m args below meth c H locs (xn F - xn K0) (2 * (xn F - xn K0)) Q (F0 m 10 ls []) := by
  have hx := C.1
  have hb := C.2.1
  unfold cb_X6_valueFrom_10 at hm
  refine lv_iconst (v := 0) hx hb dX6_valueFrom_10 (by decide) ?_
  refine lv_istore_n (lv' := [(2, .int 0), (0, .ref (a 206))]) hx hb dX6_valueFrom_11 rfl hl (by decide) rfl (fun ls hl => ?_)
  exact cwl_X6_valueFrom_12 fu C hret fu 0 F G hm hw (lv_sub hl [1, 0] rfl)
theorem cn_X6_valueFrom_5 (fu : Nat) {res : Int32 × PF × PG} (F : PF) (G : PG) (hm : cb_X6_valueFrom_5 fu F G = some res) : xn F ≤ xn res.2.1 := by
  unfold cb_X6_valueFrom_5 at hm
  exact Nat.le_trans (Nat.le_of_eq (xn_fup (by decide)).symm) (cn_X6_valueFrom_10 fu (fup F 56 (0 : Int32)) G hm)
theorem cw_X6_valueFrom_5 (fu : Nat) {res : Int32 × PF × PG} (C : cMC p R s m args c A v RX6 cX6_valueFrom 5 4 135 (xn res.2.1 - xn K0)) (hret : ∀ (b1 : Nat) (H1 : Heap) (locs1 : List Loc) (ls1 : Array Slot) (pc : Nat), cMW s A v a b1 K0 res.2.1 res.2.2 H1 locs1 → narrow .int (.int res.1) = .int res.1 → decode cX6_valueFrom pc = .ok (.ireturn, 1) → W p l e R s m args below meth c H1 locs1 (xn res.2.1 - xn K0) (2 * (xn res.2.1 - xn K0)) Q (F0 m pc ls1 [.int res.1])) (F : PF) (G : PG) (hm : cb_X6_valueFrom_5 fu F G = some res) {b : Nat} {H : Heap} {locs : List Loc} (hw : cMW s A v a b K0 F G H locs) {ls : Array Slot} (hl : lv_has ls 5 [(0, .ref (a 206))]) : W p l e R s m args below meth c H locs (xn F - xn K0) (2 * (xn F - xn K0)) Q (F0 m 5 ls []) := by
  have hx := C.1
  have hb := C.2.1
  unfold cb_X6_valueFrom_5 at hm
  refine lv_aload_n hx hb dX6_valueFrom_5 rfl (lv_at hl 0 rfl) ?_
  refine lv_iconst (v := 0) hx hb dX6_valueFrom_6 (by decide) ?_
  refine cp_X6_49 C hw dX6_valueFrom_7 (fun H locs hw => ?_)
  exact cw_X6_valueFrom_10 fu C hret (fup F 56 (0 : Int32)) G hm hw (lv_sub hl [0] rfl)
theorem cn_X6_valueFrom_0 (fu : Nat) {res : Int32 × PF × PG} (x1 : Int32) (F : PF) (G : PG) (hm : cb_X6_valueFrom_0 fu x1 F G = some res) : xn F ≤ xn res.2.1 := by
  unfold cb_X6_valueFrom_0 at hm
  exact Nat.le_trans (Nat.le_of_eq (xn_fup (by decide)).symm) (cn_X6_valueFrom_5 fu (fup F 57 x1) G hm)
theorem cw_X6_valueFrom_0 (fu : Nat) {res : Int32 × PF × PG} (C : cMC p R s m args c A v RX6 cX6_valueFrom 5 4 135 (xn res.2.1 - xn K0)) (hret : ∀ (b1 : Nat) (H1 : Heap) (locs1 : List Loc) (ls1 : Array Slot) (pc : Nat), cMW s A v a b1 K0 res.2.1 res.2.2 H1 locs1 → narrow .int (.int res.1) = .int res.1 → decode cX6_valueFrom pc = .ok (.ireturn, 1) → W p l e R s m args below meth c H1 locs1 (xn res.2.1 - xn K0) (2 * (xn res.2.1 - xn K0)) Q (F0 m pc ls1 [.int res.1])) (x1 : Int32) (F : PF) (G : PG) (hm : cb_X6_valueFrom_0 fu x1 F G = some res) {b : Nat} {H : Heap} {locs : List Loc} (hw : cMW s A v a b K0 F G H locs) {ls : Array Slot} (hl : lv_has ls 5 [(0, .ref (a 206)), (1, .int x1)]) : W p l e R s m args below meth c H locs (xn F - xn K0) (2 * (xn F - xn K0)) Q (F0 m 0 ls []) := by
  have hx := C.1
  have hb := C.2.1
  unfold cb_X6_valueFrom_0 at hm
  refine lv_aload_n hx hb dX6_valueFrom_0 rfl (lv_at hl 0 rfl) ?_
  refine lv_iload_n hx hb dX6_valueFrom_1 rfl (lv_at hl 1 rfl) ?_
  refine cp_X6_70 C hw dX6_valueFrom_2 (fun H locs hw => ?_)
  exact cw_X6_valueFrom_5 fu C hret (fup F 57 x1) G hm hw (lv_sub hl [0] rfl)
theorem cn_X6_valueFrom (fu : Nat) (x1 : Int32) (F : PF) (G : PG) (q : Int32 × PF × PG) (hm : cf_X6_valueFrom fu x1 F G = some q) : xn F ≤ xn q.2.1 := cn_X6_valueFrom_0 fu x1 F G hm
theorem ck_X6_valueFrom (l : Launch) (v : EV) (a : Nat → Nat) (b sz : Nat) (fu : Nat) (x1 : Int32) (F : PF) (G : PG) (r : Int32) (F1 : PF) (G1 : PG) (hm : cf_X6_valueFrom fu x1 F G = some (r, F1, G1)) : cMI l yX6_valueFrom cX6_valueFrom 5 (some .int) 4 135 v a b sz [.ref (a 206), .int x1] F G r F1 G1 := cMI.of (ty := .int) (by decide) rfl (Nat.le_of_ble_eq_true rfl) (fun p e R s m args below meth c Q A H locs ls C hw hl hret => cw_X6_valueFrom_0 fu (res := (r, F1, G1)) C hret x1 F G hm hw hl)
def cb_X3_constant_50 (fu : Nat) (x2 : Int32) (F : PF) (G : PG) : PR := some (x2, F, G)
def cb_X3_constant_41 (fu : Nat) (x1 : Int32) (z0 : Int32) (F : PF) (G : PG) : PR := (cf_X1_cut fu x1 F G).bind (fun q => cb_X3_constant_50 fu z0 q.2.1 q.2.2)
def cb_X3_constant_40 (fu : Nat) (x1 : Int32) (F : PF) (G : PG) : PR := cb_X3_constant_41 fu x1 0 F G
def cb_X3_constant_37 (fu : Nat) (x1 : Int32) (z0 : Int32) (F : PF) (G : PG) : PR := cb_X3_constant_41 fu x1 z0 F G
def cb_X3_constant_29 (fu : Nat) (x1 : Int32) (F : PF) (G : PG) : PR := (cf_X6_valueFrom fu x1 F G).bind (fun q => cb_X3_constant_37 fu x1 q.1 q.2.1 q.2.2)
def cb_X3_constant_26 (fu : Nat) (x1 : Int32) (z0 : Int32) (F : PF) (G : PG) : PR := if z0 = (0 : Int32) then cb_X3_constant_40 fu x1 F G else cb_X3_constant_29 fu x1 F G
def cb_X3_constant_19 (fu : Nat) (x1 : Int32) (F : PF) (G : PG) : PR := (cf_X5_endsConstant fu F G).bind (fun q => cb_X3_constant_26 fu x1 q.1 q.2.1 q.2.2)
def cb_X3_constant_15 (fu : Nat) (x1 : Int32) (F : PF) (G : PG) : PR := (cf_X3_expression fu F G).bind (fun q => cb_X3_constant_19 fu x1 q.2.1 q.2.2)
def cb_X3_constant_0 (fu : Nat) (F : PF) (G : PG) : PR := (cf_X5_startConstant fu F G).bind (fun q => cb_X3_constant_15 fu (F 6) q.2.1 q.2.2)
def cf_X3_constant (fu : Nat) (F : PF) (G : PG) : PR := cb_X3_constant_0 fu F G
theorem cn_X3_constant_50 (fu : Nat) {res : Int32 × PF × PG} (x2 : Int32) (F : PF) (G : PG) (hm : cb_X3_constant_50 fu x2 F G = some res) : xn F ≤ xn res.2.1 := by
  unfold cb_X3_constant_50 at hm
  obtain rfl := Option.some.inj hm
  exact Nat.le_refl _
theorem cw_X3_constant_50 (fu : Nat) {res : Int32 × PF × PG} (C : cMC p R s m args c A v RX3 cX3_constant 3 303 18071 (xn res.2.1 - xn K0)) (hret : ∀ (b1 : Nat) (H1 : Heap) (locs1 : List Loc) (ls1 : Array Slot) (pc : Nat), cMW s A v a b1 K0 res.2.1 res.2.2 H1 locs1 → narrow .int (.int res.1) = .int res.1 → decode cX3_constant pc = .ok (.ireturn, 1) → W p l e R s m args below meth c H1 locs1 (xn res.2.1 - xn K0) (2 * (xn res.2.1 - xn K0)) Q (F0 m pc ls1 [.int res.1])) (x2 : Int32) (F : PF) (G : PG) (hm : cb_X3_constant_50 fu x2 F G = some res) {b : Nat} {H : Heap} {locs : List Loc} (hw : cMW s A v a b K0 F G H locs) {ls : Array Slot} (hl : lv_has ls 3 [(2, .int x2)]) : W p l e R s m args below meth c H locs (xn F - xn K0) (2 * (xn F - xn K0)) Q (F0 m 50 ls []) := by
  have hx := C.1
  have hb := C.2.1
  unfold cb_X3_constant_50 at hm
  refine lv_iload_n hx hb dX3_constant_50 rfl (lv_at hl 0 rfl) ?_
  obtain rfl := Option.some.inj hm
  exact hret _ _ _ _ _ hw rfl dX3_constant_51
theorem cn_X3_constant_41 (fu : Nat) {res : Int32 × PF × PG} (x1 : Int32) (z0 : Int32) (F : PF) (G : PG) (hm : cb_X3_constant_41 fu x1 z0 F G = some res) : xn F ≤ xn res.2.1 := by
  unfold cb_X3_constant_41 at hm
  obtain ⟨⟨r1, F1, G1⟩, hc, hm⟩ := bind_elim hm
  exact Nat.le_trans (cn_X1_cut fu x1 F G _ hc) (cn_X3_constant_50 fu z0 F1 G1 hm)
theorem cw_X3_constant_41 (fu : Nat) {res : Int32 × PF × PG} (C : cMC p R s m args c A v RX3 cX3_constant 3 303 18071 (xn res.2.1 - xn K0)) (hret : ∀ (b1 : Nat) (H1 : Heap) (locs1 : List Loc) (ls1 : Array Slot) (pc : Nat), cMW s A v a b1 K0 res.2.1 res.2.2 H1 locs1 → narrow .int (.int res.1) = .int res.1 → decode cX3_constant pc = .ok (.ireturn, 1) → W p l e R s m args below meth c H1 locs1 (xn res.2.1 - xn K0) (2 * (xn res.2.1 - xn K0)) Q (F0 m pc ls1 [.int res.1])) (x1 : Int32) (z0 : Int32) (F : PF) (G : PG) (hm : cb_X3_constant_41 fu x1 z0 F G = some res) {b : Nat} {H : Heap} {locs : List Loc} (hw : cMW s A v a b K0 F G H locs) {ls : Array Slot} (hl : lv_has ls 3 [(0, .ref (a 203)), (1, .int x1)]) : W p l e R s m args below meth c H locs (xn F - xn K0) (2 * (xn F - xn K0)) Q (F0 m 41 ls [.int z0]) := by
  have hx := C.1
  have hb := C.2.1
  unfold cb_X3_constant_41 at hm
  refine lv_istore_n (lv' := [(2, .int z0), (0, .ref (a 203)), (1, .int x1)]) hx hb dX3_constant_41 rfl hl (by decide) rfl (fun ls hl => ?_)
  refine lv_aload_n hx hb dX3_constant_42 rfl (lv_at hl 1 rfl) ?_
  refine cg_X3_23 C hw dX3_constant_43 ?_
  refine lv_iload_n hx hb dX3_constant_46 rfl (lv_at hl 2 rfl) ?_
  obtain ⟨⟨r1, F1, G1⟩, hc, hm⟩ := bind_elim hm
  refine ccallV (n := 1) (As := [.int x1]) (rest := []) C hw (ck_X1_cut l v a _ _ fu x1 F G r1 F1 G1 hc) (cn_X1_cut fu x1 F G _ hc) (Nat.sub_le_sub_right (cn_X3_constant_50 fu z0 F1 G1 hm) _) (crecv_X1 C hw) cm_570 cm_571 cm_572 cm_369 cm_573 (by decide +kernel) rfl (by omega) (by omega) hl.1 rfl (Nat.le_of_ble_eq_true rfl) dX3_constant_47 (fun b H locs hw => ?_)
  exact cw_X3_constant_50 fu C hret z0 F1 G1 hm hw (lv_sub hl [0] rfl)
theorem cn_X3_constant_40 (fu : Nat) {res : Int32 × PF × PG} (x1 : Int32) (F : PF) (G : PG) (hm : cb_X3_constant_40 fu x1 F G = some res) : xn F ≤ xn res.2.1 := by
  unfold cb_X3_constant_40 at hm
  exact (cn_X3_constant_41 fu x1 0 F G hm)
theorem cw_X3_constant_40 (fu : Nat) {res : Int32 × PF × PG} (C : cMC p R s m args c A v RX3 cX3_constant 3 303 18071 (xn res.2.1 - xn K0)) (hret : ∀ (b1 : Nat) (H1 : Heap) (locs1 : List Loc) (ls1 : Array Slot) (pc : Nat), cMW s A v a b1 K0 res.2.1 res.2.2 H1 locs1 → narrow .int (.int res.1) = .int res.1 → decode cX3_constant pc = .ok (.ireturn, 1) → W p l e R s m args below meth c H1 locs1 (xn res.2.1 - xn K0) (2 * (xn res.2.1 - xn K0)) Q (F0 m pc ls1 [.int res.1])) (x1 : Int32) (F : PF) (G : PG) (hm : cb_X3_constant_40 fu x1 F G = some res) {b : Nat} {H : Heap} {locs : List Loc} (hw : cMW s A v a b K0 F G H locs) {ls : Array Slot} (hl : lv_has ls 3 [(0, .ref (a 203)), (1, .int x1)]) : W p l e R s m args below meth c H locs (xn F - xn K0) (2 * (xn F - xn K0)) Q (F0 m 40 ls []) := by
  have hx := C.1
  have hb := C.2.1
  unfold cb_X3_constant_40 at hm
  refine lv_iconst (v := 0) hx hb dX3_constant_40 (by decide) ?_
  exact cw_X3_constant_41 fu C hret x1 0 F G hm hw (lv_sub hl [0, 1] rfl)
theorem cn_X3_constant_37 (fu : Nat) {res : Int32 × PF × PG} (x1 : Int32) (z0 : Int32) (F : PF) (G : PG) (hm : cb_X3_constant_37 fu x1 z0 F G = some res) : xn F ≤ xn res.2.1 := by
  unfold cb_X3_constant_37 at hm
  exact (cn_X3_constant_41 fu x1 z0 F G hm)
theorem cw_X3_constant_37 (fu : Nat) {res : Int32 × PF × PG} (C : cMC p R s m args c A v RX3 cX3_constant 3 303 18071 (xn res.2.1 - xn K0)) (hret : ∀ (b1 : Nat) (H1 : Heap) (locs1 : List Loc) (ls1 : Array Slot) (pc : Nat), cMW s A v a b1 K0 res.2.1 res.2.2 H1 locs1 → narrow .int (.int res.1) = .int res.1 → decode cX3_constant pc = .ok (.ireturn, 1) → W p l e R s m args below meth c H1 locs1 (xn res.2.1 - xn K0) (2 * (xn res.2.1 - xn K0)) Q (F0 m pc ls1 [.int res.1])) (x1 : Int32) (z0 : Int32) (F : PF) (G : PG) (hm : cb_X3_constant_37 fu x1 z0 F G = some res) {b : Nat} {H : Heap} {locs : List Loc} (hw : cMW s A v a b K0 F G H locs) {ls : Array Slot} (hl : lv_has ls 3 [(0, .ref (a 203)), (1, .int x1)]) : W p l e R s m args below meth c H locs (xn F - xn K0) (2 * (xn F - xn K0)) Q (F0 m 37 ls [.int z0]) := by
  have hx := C.1
  have hb := C.2.1
  unfold cb_X3_constant_37 at hm
  refine lv_goto (tgt := 41) hx hb dX3_constant_37 (by decide) ?_
  exact cw_X3_constant_41 fu C hret x1 z0 F G hm hw (lv_sub hl [0, 1] rfl)
theorem cn_X3_constant_29 (fu : Nat) {res : Int32 × PF × PG} (x1 : Int32) (F : PF) (G : PG) (hm : cb_X3_constant_29 fu x1 F G = some res) : xn F ≤ xn res.2.1 := by
  unfold cb_X3_constant_29 at hm
  obtain ⟨⟨r1, F1, G1⟩, hc, hm⟩ := bind_elim hm
  exact Nat.le_trans (cn_X6_valueFrom fu x1 F G _ hc) (cn_X3_constant_37 fu x1 r1 F1 G1 hm)
theorem cw_X3_constant_29 (fu : Nat) {res : Int32 × PF × PG} (C : cMC p R s m args c A v RX3 cX3_constant 3 303 18071 (xn res.2.1 - xn K0)) (hret : ∀ (b1 : Nat) (H1 : Heap) (locs1 : List Loc) (ls1 : Array Slot) (pc : Nat), cMW s A v a b1 K0 res.2.1 res.2.2 H1 locs1 → narrow .int (.int res.1) = .int res.1 → decode cX3_constant pc = .ok (.ireturn, 1) → W p l e R s m args below meth c H1 locs1 (xn res.2.1 - xn K0) (2 * (xn res.2.1 - xn K0)) Q (F0 m pc ls1 [.int res.1])) (x1 : Int32) (F : PF) (G : PG) (hm : cb_X3_constant_29 fu x1 F G = some res) {b : Nat} {H : Heap} {locs : List Loc} (hw : cMW s A v a b K0 F G H locs) {ls : Array Slot} (hl : lv_has ls 3 [(0, .ref (a 203)), (1, .int x1)]) : W p l e R s m args below meth c H locs (xn F - xn K0) (2 * (xn F - xn K0)) Q (F0 m 29 ls []) := by
  have hx := C.1
  have hb := C.2.1
  unfold cb_X3_constant_29 at hm
  refine lv_aload_n hx hb dX3_constant_29 rfl (lv_at hl 0 rfl) ?_
  refine cg_X3_31 C hw dX3_constant_30 ?_
  refine lv_iload_n hx hb dX3_constant_33 rfl (lv_at hl 1 rfl) ?_
  obtain ⟨⟨r1, F1, G1⟩, hc, hm⟩ := bind_elim hm
  refine ccallI (n := 1) (As := [.int x1]) (rest := []) C hw (ck_X6_valueFrom l v a _ _ fu x1 F G r1 F1 G1 hc) (cn_X6_valueFrom fu x1 F G _ hc) (Nat.sub_le_sub_right (cn_X3_constant_37 fu x1 r1 F1 G1 hm) _) (crecv_X6 C hw) cm_521 cm_522 cm_523 cm_21 cm_524 (by decide +kernel) rfl (by omega) (by omega) hl.1 rfl (Nat.le_of_ble_eq_true rfl) dX3_constant_34 (fun b H locs hw => ?_)
  exact cw_X3_constant_37 fu C hret x1 r1 F1 G1 hm hw (lv_sub hl [0, 1] rfl)
theorem cn_X3_constant_26 (fu : Nat) {res : Int32 × PF × PG} (x1 : Int32) (z0 : Int32) (F : PF) (G : PG) (hm : cb_X3_constant_26 fu x1 z0 F G = some res) : xn F ≤ xn res.2.1 := by
  unfold cb_X3_constant_26 at hm
  by_cases c_1 : z0 = (0 : Int32)
  · have hm := (if_pos c_1).symm.trans hm
    exact (cn_X3_constant_40 fu x1 F G hm)
  · have hm := (if_neg c_1).symm.trans hm
    exact (cn_X3_constant_29 fu x1 F G hm)
theorem cw_X3_constant_26 (fu : Nat) {res : Int32 × PF × PG} (C : cMC p R s m args c A v RX3 cX3_constant 3 303 18071 (xn res.2.1 - xn K0)) (hret : ∀ (b1 : Nat) (H1 : Heap) (locs1 : List Loc) (ls1 : Array Slot) (pc : Nat), cMW s A v a b1 K0 res.2.1 res.2.2 H1 locs1 → narrow .int (.int res.1) = .int res.1 → decode cX3_constant pc = .ok (.ireturn, 1) → W p l e R s m args below meth c H1 locs1 (xn res.2.1 - xn K0) (2 * (xn res.2.1 - xn K0)) Q (F0 m pc ls1 [.int res.1])) (x1 : Int32) (z0 : Int32) (F : PF) (G : PG) (hm : cb_X3_constant_26 fu x1 z0 F G = some res) {b : Nat} {H : Heap} {locs : List Loc} (hw : cMW s A v a b K0 F G H locs) {ls : Array Slot} (hl : lv_has ls 3 [(0, .ref (a 203)), (1, .int x1)]) : W p l e R s m args below meth c H locs (xn F - xn K0) (2 * (xn F - xn K0)) Q (F0 m 26 ls [.int z0]) := by
  have hx := C.1
  have hb := C.2.1
  unfold cb_X3_constant_26 at hm
  refine lv_if_eq (tgt := 40) hx hb dX3_constant_26 (by decide) (fun c_1 => ?_) (fun c_1 => ?_)
  · have hm := (if_pos c_1).symm.trans hm
    exact cw_X3_constant_40 fu C hret x1 F G hm hw (lv_sub hl [0, 1] rfl)
  · have hm := (if_neg c_1).symm.trans hm
    exact cw_X3_constant_29 fu C hret x1 F G hm hw (lv_sub hl [0, 1] rfl)
theorem cn_X3_constant_19 (fu : Nat) {res : Int32 × PF × PG} (x1 : Int32) (F : PF) (G : PG) (hm : cb_X3_constant_19 fu x1 F G = some res) : xn F ≤ xn res.2.1 := by
  unfold cb_X3_constant_19 at hm
  obtain ⟨⟨r1, F1, G1⟩, hc, hm⟩ := bind_elim hm
  exact Nat.le_trans (cn_X5_endsConstant fu F G _ hc) (cn_X3_constant_26 fu x1 r1 F1 G1 hm)
theorem cw_X3_constant_19 (fu : Nat) {res : Int32 × PF × PG} (C : cMC p R s m args c A v RX3 cX3_constant 3 303 18071 (xn res.2.1 - xn K0)) (hret : ∀ (b1 : Nat) (H1 : Heap) (locs1 : List Loc) (ls1 : Array Slot) (pc : Nat), cMW s A v a b1 K0 res.2.1 res.2.2 H1 locs1 → narrow .int (.int res.1) = .int res.1 → decode cX3_constant pc = .ok (.ireturn, 1) → W p l e R s m args below meth c H1 locs1 (xn res.2.1 - xn K0) (2 * (xn res.2.1 - xn K0)) Q (F0 m pc ls1 [.int res.1])) (x1 : Int32) (F : PF) (G : PG) (hm : cb_X3_constant_19 fu x1 F G = some res) {b : Nat} {H : Heap} {locs : List Loc} (hw : cMW s A v a b K0 F G H locs) {ls : Array Slot} (hl : lv_has ls 3 [(0, .ref (a 203)), (1, .int x1)]) : W p l e R s m args below meth c H locs (xn F - xn K0) (2 * (xn F - xn K0)) Q (F0 m 19 ls []) := by
  have hx := C.1
  have hb := C.2.1
  unfold cb_X3_constant_19 at hm
  refine lv_aload_n hx hb dX3_constant_19 rfl (lv_at hl 0 rfl) ?_
  refine cg_X3_19 C hw dX3_constant_20 ?_
  obtain ⟨⟨r1, F1, G1⟩, hc, hm⟩ := bind_elim hm
  refine ccallI (n := 0) (As := []) (rest := []) C hw (ck_X5_endsConstant l v a _ _ fu F G r1 F1 G1 hc) (cn_X5_endsConstant fu F G _ hc) (Nat.sub_le_sub_right (cn_X3_constant_26 fu x1 r1 F1 G1 hm) _) (crecv_X5 C hw) cm_517 cm_518 cm_519 cm_266 cm_520 (by decide +kernel) rfl (by omega) (by omega) hl.1 rfl (Nat.le_of_ble_eq_true rfl) dX3_constant_23 (fun b H locs hw => ?_)
  exact cw_X3_constant_26 fu C hret x1 r1 F1 G1 hm hw (lv_sub hl [0, 1] rfl)
theorem cn_X3_constant_15 (fu : Nat) {res : Int32 × PF × PG} (x1 : Int32) (F : PF) (G : PG) (hm : cb_X3_constant_15 fu x1 F G = some res) : xn F ≤ xn res.2.1 := by
  unfold cb_X3_constant_15 at hm
  obtain ⟨⟨r1, F1, G1⟩, hc, hm⟩ := bind_elim hm
  exact Nat.le_trans (cn_X3_expression fu F G _ hc) (cn_X3_constant_19 fu x1 F1 G1 hm)
theorem cw_X3_constant_15 (fu : Nat) {res : Int32 × PF × PG} (C : cMC p R s m args c A v RX3 cX3_constant 3 303 18071 (xn res.2.1 - xn K0)) (hret : ∀ (b1 : Nat) (H1 : Heap) (locs1 : List Loc) (ls1 : Array Slot) (pc : Nat), cMW s A v a b1 K0 res.2.1 res.2.2 H1 locs1 → narrow .int (.int res.1) = .int res.1 → decode cX3_constant pc = .ok (.ireturn, 1) → W p l e R s m args below meth c H1 locs1 (xn res.2.1 - xn K0) (2 * (xn res.2.1 - xn K0)) Q (F0 m pc ls1 [.int res.1])) (x1 : Int32) (F : PF) (G : PG) (hm : cb_X3_constant_15 fu x1 F G = some res) {b : Nat} {H : Heap} {locs : List Loc} (hw : cMW s A v a b K0 F G H locs) {ls : Array Slot} (hl : lv_has ls 3 [(0, .ref (a 203)), (1, .int x1)]) : W p l e R s m args below meth c H locs (xn F - xn K0) (2 * (xn F - xn K0)) Q (F0 m 15 ls []) := by
  have hx := C.1
  have hb := C.2.1
  unfold cb_X3_constant_15 at hm
  refine lv_aload_n hx hb dX3_constant_15 rfl (lv_at hl 0 rfl) ?_
  obtain ⟨⟨r1, F1, G1⟩, hc, hm⟩ := bind_elim hm
  refine ccallV (n := 0) (As := []) (rest := []) C hw (ck_X3_expression l v a _ _ fu F G r1 F1 G1 hc) (cn_X3_expression fu F G _ hc) (Nat.sub_le_sub_right (cn_X3_constant_19 fu x1 F1 G1 hm) _) (crecv_X3 C hw) cm_353 cm_354 cm_355 cm_301 cm_356 (by decide +kernel) rfl (by omega) (by omega) hl.1 rfl (Nat.le_of_ble_eq_true rfl) dX3_constant_16 (fun b H locs hw => ?_)
  exact cw_X3_constant_19 fu C hret x1 F1 G1 hm hw (lv_sub hl [0, 1] rfl)
theorem cn_X3_constant_0 (fu : Nat) {res : Int32 × PF × PG} (F : PF) (G : PG) (hm : cb_X3_constant_0 fu F G = some res) : xn F ≤ xn res.2.1 := by
  unfold cb_X3_constant_0 at hm
  obtain ⟨⟨r1, F1, G1⟩, hc, hm⟩ := bind_elim hm
  exact Nat.le_trans (cn_X5_startConstant fu F G _ hc) (cn_X3_constant_15 fu (F 6) F1 G1 hm)
theorem cw_X3_constant_0 (fu : Nat) {res : Int32 × PF × PG} (C : cMC p R s m args c A v RX3 cX3_constant 3 303 18071 (xn res.2.1 - xn K0)) (hret : ∀ (b1 : Nat) (H1 : Heap) (locs1 : List Loc) (ls1 : Array Slot) (pc : Nat), cMW s A v a b1 K0 res.2.1 res.2.2 H1 locs1 → narrow .int (.int res.1) = .int res.1 → decode cX3_constant pc = .ok (.ireturn, 1) → W p l e R s m args below meth c H1 locs1 (xn res.2.1 - xn K0) (2 * (xn res.2.1 - xn K0)) Q (F0 m pc ls1 [.int res.1])) (F : PF) (G : PG) (hm : cb_X3_constant_0 fu F G = some res) {b : Nat} {H : Heap} {locs : List Loc} (hw : cMW s A v a b K0 F G H locs) {ls : Array Slot} (hl : lv_has ls 3 [(0, .ref (a 203))]) : W p l e R s m args below meth c H locs (xn F - xn K0) (2 * (xn F - xn K0)) Q (F0 m 0 ls []) := by
  have hx := C.1
  have hb := C.2.1
  unfold cb_X3_constant_0 at hm
  refine lv_aload_n hx hb dX3_constant_0 rfl (lv_at hl 0 rfl) ?_
  refine cg_X3_23 C hw dX3_constant_1 ?_
  refine cg_X3_39 C hw dX3_constant_4 ?_
  refine lv_istore_n (lv' := [(1, .int (F 6)), (0, .ref (a 203))]) hx hb dX3_constant_7 rfl hl (by decide) rfl (fun ls hl => ?_)
  refine lv_aload_n hx hb dX3_constant_8 rfl (lv_at hl 1 rfl) ?_
  refine cg_X3_19 C hw dX3_constant_9 ?_
  obtain ⟨⟨r1, F1, G1⟩, hc, hm⟩ := bind_elim hm
  refine ccallV (n := 0) (As := []) (rest := []) C hw (ck_X5_startConstant l v a _ _ fu F G r1 F1 G1 hc) (cn_X5_startConstant fu F G _ hc) (Nat.sub_le_sub_right (cn_X3_constant_15 fu (F 6) F1 G1 hm) _) (crecv_X5 C hw) cm_349 cm_350 cm_351 cm_266 cm_352 (by decide +kernel) rfl (by omega) (by omega) hl.1 rfl (Nat.le_of_ble_eq_true rfl) dX3_constant_12 (fun b H locs hw => ?_)
  exact cw_X3_constant_15 fu C hret (F 6) F1 G1 hm hw (lv_sub hl [1, 0] rfl)
theorem cn_X3_constant (fu : Nat) (F : PF) (G : PG) (q : Int32 × PF × PG) (hm : cf_X3_constant fu F G = some q) : xn F ≤ xn q.2.1 := cn_X3_constant_0 fu F G hm
theorem ck_X3_constant (l : Launch) (v : EV) (a : Nat → Nat) (b sz : Nat) (fu : Nat) (F : PF) (G : PG) (r : Int32) (F1 : PF) (G1 : PG) (hm : cf_X3_constant fu F G = some (r, F1, G1)) : cMI l yX3_constant cX3_constant 3 (some .int) 303 18071 v a b sz [.ref (a 203)] F G r F1 G1 := cMI.of (ty := .int) (by decide) rfl (Nat.le_of_ble_eq_true rfl) (fun p e R s m args below meth c Q A H locs ls C hw hl hret => cw_X3_constant_0 fu (res := (r, F1, G1)) C hret F G hm hw hl)
def cb_X5_elements_19 (fu : Nat) (F : PF) (G : PG) : PR := some (0, F, G)
def cb_X5_elements_12 (fu : Nat) (x2 : Int32) (F : PF) (G : PG) : PR := (cf_X5_note fu 7 x2 F G).bind (fun q => cb_X5_elements_19 fu q.2.1 q.2.2)
def cb_X5_elements_21 (fu : Nat) (x1 : Int32) (F : PF) (G : PG) : PR := some (x1, F, G)
def cb_X5_elements_5 (fu : Nat) (x1 : Int32) (x2 : Int32) (F : PF) (G : PG) : PR := if x1 ≤ (500 : Int32) then cb_X5_elements_21 fu x1 F G else cb_X5_elements_12 fu x2 F G
def cb_X5_elements_0 (fu : Nat) (x1 : Int32) (x2 : Int32) (F : PF) (G : PG) : PR := if x1 < (1 : Int32) then cb_X5_elements_12 fu x2 F G else cb_X5_elements_5 fu x1 x2 F G
def cf_X5_elements (fu : Nat) (x1 : Int32) (x2 : Int32) (F : PF) (G : PG) : PR := cb_X5_elements_0 fu x1 x2 F G
theorem cn_X5_elements_19 (fu : Nat) {res : Int32 × PF × PG} (F : PF) (G : PG) (hm : cb_X5_elements_19 fu F G = some res) : xn F ≤ xn res.2.1 := by
  unfold cb_X5_elements_19 at hm
  obtain rfl := Option.some.inj hm
  exact Nat.le_refl _
theorem cw_X5_elements_19 (fu : Nat) {res : Int32 × PF × PG} (C : cMC p R s m args c A v RX5 cX5_elements 3 1 22 (xn res.2.1 - xn K0)) (hret : ∀ (b1 : Nat) (H1 : Heap) (locs1 : List Loc) (ls1 : Array Slot) (pc : Nat), cMW s A v a b1 K0 res.2.1 res.2.2 H1 locs1 → narrow .int (.int res.1) = .int res.1 → decode cX5_elements pc = .ok (.ireturn, 1) → W p l e R s m args below meth c H1 locs1 (xn res.2.1 - xn K0) (2 * (xn res.2.1 - xn K0)) Q (F0 m pc ls1 [.int res.1])) (F : PF) (G : PG) (hm : cb_X5_elements_19 fu F G = some res) {b : Nat} {H : Heap} {locs : List Loc} (hw : cMW s A v a b K0 F G H locs) {ls : Array Slot} (hl : lv_has ls 3 []) : W p l e R s m args below meth c H locs (xn F - xn K0) (2 * (xn F - xn K0)) Q (F0 m 19 ls []) := by
  have hx := C.1
  have hb := C.2.1
  unfold cb_X5_elements_19 at hm
  refine lv_iconst (v := 0) hx hb dX5_elements_19 (by decide) ?_
  obtain rfl := Option.some.inj hm
  exact hret _ _ _ _ _ hw rfl dX5_elements_20
theorem cn_X5_elements_12 (fu : Nat) {res : Int32 × PF × PG} (x2 : Int32) (F : PF) (G : PG) (hm : cb_X5_elements_12 fu x2 F G = some res) : xn F ≤ xn res.2.1 := by
  unfold cb_X5_elements_12 at hm
  obtain ⟨⟨r1, F1, G1⟩, hc, hm⟩ := bind_elim hm
  exact Nat.le_trans (cn_X5_note fu 7 x2 F G _ hc) (cn_X5_elements_19 fu F1 G1 hm)
theorem cw_X5_elements_12 (fu : Nat) {res : Int32 × PF × PG} (C : cMC p R s m args c A v RX5 cX5_elements 3 1 22 (xn res.2.1 - xn K0)) (hret : ∀ (b1 : Nat) (H1 : Heap) (locs1 : List Loc) (ls1 : Array Slot) (pc : Nat), cMW s A v a b1 K0 res.2.1 res.2.2 H1 locs1 → narrow .int (.int res.1) = .int res.1 → decode cX5_elements pc = .ok (.ireturn, 1) → W p l e R s m args below meth c H1 locs1 (xn res.2.1 - xn K0) (2 * (xn res.2.1 - xn K0)) Q (F0 m pc ls1 [.int res.1])) (x2 : Int32) (F : PF) (G : PG) (hm : cb_X5_elements_12 fu x2 F G = some res) {b : Nat} {H : Heap} {locs : List Loc} (hw : cMW s A v a b K0 F G H locs) {ls : Array Slot} (hl : lv_has ls 3 [(0, .ref (a 205)), (2, .int x2)]) : W p l e R s m args below meth c H locs (xn F - xn K0) (2 * (xn F - xn K0)) Q (F0 m 12 ls []) := by
  have hx := C.1
  have hb := C.2.1
  unfold cb_X5_elements_12 at hm
  refine lv_aload_n hx hb dX5_elements_12 rfl (lv_at hl 0 rfl) ?_
  refine lv_bipush (v := 7) hx hb dX5_elements_13 (by decide) ?_
  refine lv_iload_n hx hb dX5_elements_15 rfl (lv_at hl 1 rfl) ?_
  obtain ⟨⟨r1, F1, G1⟩, hc, hm⟩ := bind_elim hm
  refine ccallV (n := 2) (As := [.int 7, .int x2]) (rest := []) C hw (ck_X5_note l v a _ _ fu 7 x2 F G r1 F1 G1 hc) (cn_X5_note fu 7 x2 F G _ hc) (Nat.sub_le_sub_right (cn_X5_elements_19 fu F1 G1 hm) _) (crecv_X5 C hw) cm_424 cm_425 cm_426 cm_266 cm_427 (by decide +kernel) rfl (by omega) (by omega) hl.1 rfl (Nat.le_of_ble_eq_true rfl) dX5_elements_16 (fun b H locs hw => ?_)
  exact cw_X5_elements_19 fu C hret F1 G1 hm hw (lv_sub hl [] rfl)
theorem cn_X5_elements_21 (fu : Nat) {res : Int32 × PF × PG} (x1 : Int32) (F : PF) (G : PG) (hm : cb_X5_elements_21 fu x1 F G = some res) : xn F ≤ xn res.2.1 := by
  unfold cb_X5_elements_21 at hm
  obtain rfl := Option.some.inj hm
  exact Nat.le_refl _
theorem cw_X5_elements_21 (fu : Nat) {res : Int32 × PF × PG} (C : cMC p R s m args c A v RX5 cX5_elements 3 1 22 (xn res.2.1 - xn K0)) (hret : ∀ (b1 : Nat) (H1 : Heap) (locs1 : List Loc) (ls1 : Array Slot) (pc : Nat), cMW s A v a b1 K0 res.2.1 res.2.2 H1 locs1 → narrow .int (.int res.1) = .int res.1 → decode cX5_elements pc = .ok (.ireturn, 1) → W p l e R s m args below meth c H1 locs1 (xn res.2.1 - xn K0) (2 * (xn res.2.1 - xn K0)) Q (F0 m pc ls1 [.int res.1])) (x1 : Int32) (F : PF) (G : PG) (hm : cb_X5_elements_21 fu x1 F G = some res) {b : Nat} {H : Heap} {locs : List Loc} (hw : cMW s A v a b K0 F G H locs) {ls : Array Slot} (hl : lv_has ls 3 [(1, .int x1)]) : W p l e R s m args below meth c H locs (xn F - xn K0) (2 * (xn F - xn K0)) Q (F0 m 21 ls []) := by
  have hx := C.1
  have hb := C.2.1
  unfold cb_X5_elements_21 at hm
  refine lv_iload_n hx hb dX5_elements_21 rfl (lv_at hl 0 rfl) ?_
  obtain rfl := Option.some.inj hm
  exact hret _ _ _ _ _ hw rfl dX5_elements_22
theorem cn_X5_elements_5 (fu : Nat) {res : Int32 × PF × PG} (x1 : Int32) (x2 : Int32) (F : PF) (G : PG) (hm : cb_X5_elements_5 fu x1 x2 F G = some res) : xn F ≤ xn res.2.1 := by
  unfold cb_X5_elements_5 at hm
  by_cases c_1 : x1 ≤ (500 : Int32)
  · have hm := (if_pos c_1).symm.trans hm
    exact (cn_X5_elements_21 fu x1 F G hm)
  · have hm := (if_neg c_1).symm.trans hm
    exact (cn_X5_elements_12 fu x2 F G hm)
theorem cw_X5_elements_5 (fu : Nat) {res : Int32 × PF × PG} (C : cMC p R s m args c A v RX5 cX5_elements 3 1 22 (xn res.2.1 - xn K0)) (hret : ∀ (b1 : Nat) (H1 : Heap) (locs1 : List Loc) (ls1 : Array Slot) (pc : Nat), cMW s A v a b1 K0 res.2.1 res.2.2 H1 locs1 → narrow .int (.int res.1) = .int res.1 → decode cX5_elements pc = .ok (.ireturn, 1) → W p l e R s m args below meth c H1 locs1 (xn res.2.1 - xn K0) (2 * (xn res.2.1 - xn K0)) Q (F0 m pc ls1 [.int res.1])) (x1 : Int32) (x2 : Int32) (F : PF) (G : PG) (hm : cb_X5_elements_5 fu x1 x2 F G = some res) {b : Nat} {H : Heap} {locs : List Loc} (hw : cMW s A v a b K0 F G H locs) {ls : Array Slot} (hl : lv_has ls 3 [(0, .ref (a 205)), (1, .int x1), (2, .int x2)]) : W p l e R s m args below meth c H locs (xn F - xn K0) (2 * (xn F - xn K0)) Q (F0 m 5 ls []) := by
  have hx := C.1
  have hb := C.2.1
  unfold cb_X5_elements_5 at hm
  refine lv_iload_n hx hb dX5_elements_5 rfl (lv_at hl 1 rfl) ?_
  refine lv_sipush (v := 500) hx hb dX5_elements_6 (by decide) ?_
  refine lv_icmp_le (tgt := 21) hx hb dX5_elements_9 (by decide) (fun c_1 => ?_) (fun c_1 => ?_)
  · have hm := (if_pos c_1).symm.trans hm
    exact cw_X5_elements_21 fu C hret x1 F G hm hw (lv_sub hl [1] rfl)
  · have hm := (if_neg c_1).symm.trans hm
    exact cw_X5_elements_12 fu C hret x2 F G hm hw (lv_sub hl [0, 2] rfl)
theorem cn_X5_elements_0 (fu : Nat) {res : Int32 × PF × PG} (x1 : Int32) (x2 : Int32) (F : PF) (G : PG) (hm : cb_X5_elements_0 fu x1 x2 F G = some res) : xn F ≤ xn res.2.1 := by
  unfold cb_X5_elements_0 at hm
  by_cases c_1 : x1 < (1 : Int32)
  · have hm := (if_pos c_1).symm.trans hm
    exact (cn_X5_elements_12 fu x2 F G hm)
  · have hm := (if_neg c_1).symm.trans hm
    exact (cn_X5_elements_5 fu x1 x2 F G hm)
theorem cw_X5_elements_0 (fu : Nat) {res : Int32 × PF × PG} (C : cMC p R s m args c A v RX5 cX5_elements 3 1 22 (xn res.2.1 - xn K0)) (hret : ∀ (b1 : Nat) (H1 : Heap) (locs1 : List Loc) (ls1 : Array Slot) (pc : Nat), cMW s A v a b1 K0 res.2.1 res.2.2 H1 locs1 → narrow .int (.int res.1) = .int res.1 → decode cX5_elements pc = .ok (.ireturn, 1) → W p l e R s m args below meth c H1 locs1 (xn res.2.1 - xn K0) (2 * (xn res.2.1 - xn K0)) Q (F0 m pc ls1 [.int res.1])) (x1 : Int32) (x2 : Int32) (F : PF) (G : PG) (hm : cb_X5_elements_0 fu x1 x2 F G = some res) {b : Nat} {H : Heap} {locs : List Loc} (hw : cMW s A v a b K0 F G H locs) {ls : Array Slot} (hl : lv_has ls 3 [(0, .ref (a 205)), (1, .int x1), (2, .int x2)]) : W p l e R s m args below meth c H locs (xn F - xn K0) (2 * (xn F - xn K0)) Q (F0 m 0 ls []) := by
  have hx := C.1
  have hb := C.2.1
  unfold cb_X5_elements_0 at hm
  refine lv_iload_n hx hb dX5_elements_0 rfl (lv_at hl 1 rfl) ?_
  refine lv_iconst (v := 1) hx hb dX5_elements_1 (by decide) ?_
  refine lv_icmp_lt (tgt := 12) hx hb dX5_elements_2 (by decide) (fun c_1 => ?_) (fun c_1 => ?_)
  · have hm := (if_pos c_1).symm.trans hm
    exact cw_X5_elements_12 fu C hret x2 F G hm hw (lv_sub hl [0, 2] rfl)
  · have hm := (if_neg c_1).symm.trans hm
    exact cw_X5_elements_5 fu C hret x1 x2 F G hm hw (lv_sub hl [0, 1, 2] rfl)
theorem cn_X5_elements (fu : Nat) (x1 : Int32) (x2 : Int32) (F : PF) (G : PG) (q : Int32 × PF × PG) (hm : cf_X5_elements fu x1 x2 F G = some q) : xn F ≤ xn q.2.1 := cn_X5_elements_0 fu x1 x2 F G hm
theorem ck_X5_elements (l : Launch) (v : EV) (a : Nat → Nat) (b sz : Nat) (fu : Nat) (x1 : Int32) (x2 : Int32) (F : PF) (G : PG) (r : Int32) (F1 : PF) (G1 : PG) (hm : cf_X5_elements fu x1 x2 F G = some (r, F1, G1)) : cMI l yX5_elements cX5_elements 3 (some .int) 1 22 v a b sz [.ref (a 205), .int x1, .int x2] F G r F1 G1 := cMI.of (ty := .int) (by decide) rfl (Nat.le_of_ble_eq_true rfl) (fun p e R s m args below meth c Q A H locs ls C hw hl hret => cw_X5_elements_0 fu (res := (r, F1, G1)) C hret x1 x2 F G hm hw hl)
def cb_X3_arraySize_89 (fu : Nat) (x3 : Int32) (F : PF) (G : PG) : PR := some (x3, F, G)
def cb_X3_arraySize_80 (fu : Nat) (x3 : Int32) (F : PF) (G : PG) : PR := (cf_X2_closesWith fu 22 F G).bind (fun q => cb_X3_arraySize_89 fu x3 q.2.1 q.2.2)
def cb_X3_arraySize_71 (fu : Nat) (x2 : Int32) (z0 : Int32) (F : PF) (G : PG) : PR := (cf_X1_cut fu x2 F G).bind (fun q => cb_X3_arraySize_80 fu z0 q.2.1 q.2.2)
def cb_X3_arraySize_70 (fu : Nat) (x2 : Int32) (F : PF) (G : PG) : PR := cb_X3_arraySize_71 fu x2 0 F G
def cb_X3_arraySize_67 (fu : Nat) (x2 : Int32) (z0 : Int32) (F : PF) (G : PG) : PR := cb_X3_arraySize_71 fu x2 z0 F G
def cb_X3_arraySize_63 (fu : Nat) (x1 : Int32) (x2 : Int32) (z0 : Int32) (F : PF) (G : PG) : PR := (cf_X5_elements fu z0 x1 F G).bind (fun q => cb_X3_arraySize_67 fu x2 q.1 q.2.1 q.2.2)
def cb_X3_arraySize_51 (fu : Nat) (x1 : Int32) (x2 : Int32) (F : PF) (G : PG) : PR := (cf_X6_valueFrom fu x2 F G).bind (fun q => cb_X3_arraySize_63 fu x1 x2 q.1 q.2.1 q.2.2)
def cb_X3_arraySize_48 (fu : Nat) (x1 : Int32) (x2 : Int32) (z0 : Int32) (F : PF) (G : PG) : PR := if z0 = (0 : Int32) then cb_X3_arraySize_70 fu x2 F G else cb_X3_arraySize_51 fu x1 x2 F G
def cb_X3_arraySize_41 (fu : Nat) (x1 : Int32) (x2 : Int32) (F : PF) (G : PG) : PR := (cf_X5_endsConstant fu F G).bind (fun q => cb_X3_arraySize_48 fu x1 x2 q.1 q.2.1 q.2.2)
def cb_X3_arraySize_37 (fu : Nat) (x1 : Int32) (x2 : Int32) (F : PF) (G : PG) : PR := (cf_X3_expression fu F G).bind (fun q => cb_X3_arraySize_41 fu x1 x2 q.2.1 q.2.2)
def cb_X3_arraySize_14 (fu : Nat) (F : PF) (G : PG) : PR := (cf_X5_startConstant fu F G).bind (fun q => cb_X3_arraySize_37 fu (F 13) (F 6) q.2.1 q.2.2)
def cb_X3_arraySize_12 (fu : Nat) (F : PF) (G : PG) : PR := some (0, F, G)
def cb_X3_arraySize_9 (fu : Nat) (z0 : Int32) (F : PF) (G : PG) : PR := if z0 = (0 : Int32) then cb_X3_arraySize_12 fu F G else cb_X3_arraySize_14 fu F G
def cb_X3_arraySize_0 (fu : Nat) (F : PF) (G : PG) : PR := (cf_X2_opens fu 21 F G).bind (fun q => cb_X3_arraySize_9 fu q.1 q.2.1 q.2.2)
def cf_X3_arraySize (fu : Nat) (F : PF) (G : PG) : PR := cb_X3_arraySize_0 fu F G
theorem cn_X3_arraySize_89 (fu : Nat) {res : Int32 × PF × PG} (x3 : Int32) (F : PF) (G : PG) (hm : cb_X3_arraySize_89 fu x3 F G = some res) : xn F ≤ xn res.2.1 := by
  unfold cb_X3_arraySize_89 at hm
  obtain rfl := Option.some.inj hm
  exact Nat.le_refl _
theorem cw_X3_arraySize_89 (fu : Nat) {res : Int32 × PF × PG} (C : cMC p R s m args c A v RX3 cX3_arraySize 4 303 18071 (xn res.2.1 - xn K0)) (hret : ∀ (b1 : Nat) (H1 : Heap) (locs1 : List Loc) (ls1 : Array Slot) (pc : Nat), cMW s A v a b1 K0 res.2.1 res.2.2 H1 locs1 → narrow .int (.int res.1) = .int res.1 → decode cX3_arraySize pc = .ok (.ireturn, 1) → W p l e R s m args below meth c H1 locs1 (xn res.2.1 - xn K0) (2 * (xn res.2.1 - xn K0)) Q (F0 m pc ls1 [.int res.1])) (x3 : Int32) (F : PF) (G : PG) (hm : cb_X3_arraySize_89 fu x3 F G = some res) {b : Nat} {H : Heap} {locs : List Loc} (hw : cMW s A v a b K0 F G H locs) {ls : Array Slot} (hl : lv_has ls 4 [(3, .int x3)]) : W p l e R s m args below meth c H locs (xn F - xn K0) (2 * (xn F - xn K0)) Q (F0 m 89 ls []) := by
  have hx := C.1
  have hb := C.2.1
  unfold cb_X3_arraySize_89 at hm
  refine lv_iload_n hx hb dX3_arraySize_89 rfl (lv_at hl 0 rfl) ?_
  obtain rfl := Option.some.inj hm
  exact hret _ _ _ _ _ hw rfl dX3_arraySize_90
theorem cn_X3_arraySize_80 (fu : Nat) {res : Int32 × PF × PG} (x3 : Int32) (F : PF) (G : PG) (hm : cb_X3_arraySize_80 fu x3 F G = some res) : xn F ≤ xn res.2.1 := by
  unfold cb_X3_arraySize_80 at hm
  obtain ⟨⟨r1, F1, G1⟩, hc, hm⟩ := bind_elim hm
  exact Nat.le_trans (cn_X2_closesWith fu 22 F G _ hc) (cn_X3_arraySize_89 fu x3 F1 G1 hm)
theorem cw_X3_arraySize_80 (fu : Nat) {res : Int32 × PF × PG} (C : cMC p R s m args c A v RX3 cX3_arraySize 4 303 18071 (xn res.2.1 - xn K0)) (hret : ∀ (b1 : Nat) (H1 : Heap) (locs1 : List Loc) (ls1 : Array Slot) (pc : Nat), cMW s A v a b1 K0 res.2.1 res.2.2 H1 locs1 → narrow .int (.int res.1) = .int res.1 → decode cX3_arraySize pc = .ok (.ireturn, 1) → W p l e R s m args below meth c H1 locs1 (xn res.2.1 - xn K0) (2 * (xn res.2.1 - xn K0)) Q (F0 m pc ls1 [.int res.1])) (x3 : Int32) (F : PF) (G : PG) (hm : cb_X3_arraySize_80 fu x3 F G = some res) {b : Nat} {H : Heap} {locs : List Loc} (hw : cMW s A v a b K0 F G H locs) {ls : Array Slot} (hl : lv_has ls 4 [(0, .ref (a 203)), (3, .int x3)]) : W p l e R s m args below meth c H locs (xn F - xn K0) (2 * (xn F - xn K0)) Q (F0 m 80 ls []) := by
  have hx := C.1
  have hb := C.2.1
  unfold cb_X3_arraySize_80 at hm
  refine lv_aload_n hx hb dX3_arraySize_80 rfl (lv_at hl 0 rfl) ?_
  refine cg_X3_15 C hw dX3_arraySize_81 ?_
  refine lv_bipush (v := 22) hx hb dX3_arraySize_84 (by decide) ?_
  obtain ⟨⟨r1, F1, G1⟩, hc, hm⟩ := bind_elim hm
  refine ccallV (n := 1) (As := [.int 22]) (rest := []) C hw (ck_X2_closesWith l v a _ _ fu 22 F G r1 F1 G1 hc) (cn_X2_closesWith fu 22 F G _ hc) (Nat.sub_le_sub_right (cn_X3_arraySize_89 fu x3 F1 G1 hm) _) (crecv_X2 C hw) cm_458 cm_459 cm_460 cm_307 cm_461 (by decide +kernel) rfl (by omega) (by omega) hl.1 rfl (Nat.le_of_ble_eq_true rfl) dX3_arraySize_86 (fun b H locs hw => ?_)
  exact cw_X3_arraySize_89 fu C hret x3 F1 G1 hm hw (lv_sub hl [1] rfl)
theorem cn_X3_arraySize_71 (fu : Nat) {res : Int32 × PF × PG} (x2 : Int32) (z0 : Int32) (F : PF) (G : PG) (hm : cb_X3_arraySize_71 fu x2 z0 F G = some res) : xn F ≤ xn res.2.1 := by
  unfold cb_X3_arraySize_71 at hm
  obtain ⟨⟨r1, F1, G1⟩, hc, hm⟩ := bind_elim hm
  exact Nat.le_trans (cn_X1_cut fu x2 F G _ hc) (cn_X3_arraySize_80 fu z0 F1 G1 hm)
theorem cw_X3_arraySize_71 (fu : Nat) {res : Int32 × PF × PG} (C : cMC p R s m args c A v RX3 cX3_arraySize 4 303 18071 (xn res.2.1 - xn K0)) (hret : ∀ (b1 : Nat) (H1 : Heap) (locs1 : List Loc) (ls1 : Array Slot) (pc : Nat), cMW s A v a b1 K0 res.2.1 res.2.2 H1 locs1 → narrow .int (.int res.1) = .int res.1 → decode cX3_arraySize pc = .ok (.ireturn, 1) → W p l e R s m args below meth c H1 locs1 (xn res.2.1 - xn K0) (2 * (xn res.2.1 - xn K0)) Q (F0 m pc ls1 [.int res.1])) (x2 : Int32) (z0 : Int32) (F : PF) (G : PG) (hm : cb_X3_arraySize_71 fu x2 z0 F G = some res) {b : Nat} {H : Heap} {locs : List Loc} (hw : cMW s A v a b K0 F G H locs) {ls : Array Slot} (hl : lv_has ls 4 [(0, .ref (a 203)), (2, .int x2)]) : W p l e R s m args below meth c H locs (xn F - xn K0) (2 * (xn F - xn K0)) Q (F0 m 71 ls [.int z0]) := by
  have hx := C.1
  have hb := C.2.1
  unfold cb_X3_arraySize_71 at hm
  refine lv_istore_n (lv' := [(3, .int z0), (0, .ref (a 203)), (2, .int x2)]) hx hb dX3_arraySize_71 rfl hl (by decide) rfl (fun ls hl => ?_)
  refine lv_aload_n hx hb dX3_arraySize_72 rfl (lv_at hl 1 rfl) ?_
  refine cg_X3_23 C hw dX3_arraySize_73 ?_
  refine lv_iload_n hx hb dX3_arraySize_76 rfl (lv_at hl 2 rfl) ?_
  obtain ⟨⟨r1, F1, G1⟩, hc, hm⟩ := bind_elim hm
  refine ccallV (n := 1) (As := [.int x2]) (rest := []) C hw (ck_X1_cut l v a _ _ fu x2 F G r1 F1 G1 hc) (cn_X1_cut fu x2 F G _ hc) (Nat.sub_le_sub_right (cn_X3_arraySize_80 fu z0 F1 G1 hm) _) (crecv_X1 C hw) cm_570 cm_571 cm_572 cm_369 cm_573 (by decide +kernel) rfl (by omega) (by omega) hl.1 rfl (Nat.le_of_ble_eq_true rfl) dX3_arraySize_77 (fun b H locs hw => ?_)
  exact cw_X3_arraySize_80 fu C hret z0 F1 G1 hm hw (lv_sub hl [1, 0] rfl)
theorem cn_X3_arraySize_70 (fu : Nat) {res : Int32 × PF × PG} (x2 : Int32) (F : PF) (G : PG) (hm : cb_X3_arraySize_70 fu x2 F G = some res) : xn F ≤ xn res.2.1 := by
  unfold cb_X3_arraySize_70 at hm
  exact (cn_X3_arraySize_71 fu x2 0 F G hm)
theorem cw_X3_arraySize_70 (fu : Nat) {res : Int32 × PF × PG} (C : cMC p R s m args c A v RX3 cX3_arraySize 4 303 18071 (xn res.2.1 - xn K0)) (hret : ∀ (b1 : Nat) (H1 : Heap) (locs1 : List Loc) (ls1 : Array Slot) (pc : Nat), cMW s A v a b1 K0 res.2.1 res.2.2 H1 locs1 → narrow .int (.int res.1) = .int res.1 → decode cX3_arraySize pc = .ok (.ireturn, 1) → W p l e R s m args below meth c H1 locs1 (xn res.2.1 - xn K0) (2 * (xn res.2.1 - xn K0)) Q (F0 m pc ls1 [.int res.1])) (x2 : Int32) (F : PF) (G : PG) (hm : cb_X3_arraySize_70 fu x2 F G = some res) {b : Nat} {H : Heap} {locs : List Loc} (hw : cMW s A v a b K0 F G H locs) {ls : Array Slot} (hl : lv_has ls 4 [(0, .ref (a 203)), (2, .int x2)]) : W p l e R s m args below meth c H locs (xn F - xn K0) (2 * (xn F - xn K0)) Q (F0 m 70 ls []) := by
  have hx := C.1
  have hb := C.2.1
  unfold cb_X3_arraySize_70 at hm
  refine lv_iconst (v := 0) hx hb dX3_arraySize_70 (by decide) ?_
  exact cw_X3_arraySize_71 fu C hret x2 0 F G hm hw (lv_sub hl [0, 1] rfl)
theorem cn_X3_arraySize_67 (fu : Nat) {res : Int32 × PF × PG} (x2 : Int32) (z0 : Int32) (F : PF) (G : PG) (hm : cb_X3_arraySize_67 fu x2 z0 F G = some res) : xn F ≤ xn res.2.1 := by
  unfold cb_X3_arraySize_67 at hm
  exact (cn_X3_arraySize_71 fu x2 z0 F G hm)
theorem cw_X3_arraySize_67 (fu : Nat) {res : Int32 × PF × PG} (C : cMC p R s m args c A v RX3 cX3_arraySize 4 303 18071 (xn res.2.1 - xn K0)) (hret : ∀ (b1 : Nat) (H1 : Heap) (locs1 : List Loc) (ls1 : Array Slot) (pc : Nat), cMW s A v a b1 K0 res.2.1 res.2.2 H1 locs1 → narrow .int (.int res.1) = .int res.1 → decode cX3_arraySize pc = .ok (.ireturn, 1) → W p l e R s m args below meth c H1 locs1 (xn res.2.1 - xn K0) (2 * (xn res.2.1 - xn K0)) Q (F0 m pc ls1 [.int res.1])) (x2 : Int32) (z0 : Int32) (F : PF) (G : PG) (hm : cb_X3_arraySize_67 fu x2 z0 F G = some res) {b : Nat} {H : Heap} {locs : List Loc} (hw : cMW s A v a b K0 F G H locs) {ls : Array Slot} (hl : lv_has ls 4 [(0, .ref (a 203)), (2, .int x2)]) : W p l e R s m args below meth c H locs (xn F - xn K0) (2 * (xn F - xn K0)) Q (F0 m 67 ls [.int z0]) := by
  have hx := C.1
  have hb := C.2.1
  unfold cb_X3_arraySize_67 at hm
  refine lv_goto (tgt := 71) hx hb dX3_arraySize_67 (by decide) ?_
  exact cw_X3_arraySize_71 fu C hret x2 z0 F G hm hw (lv_sub hl [0, 1] rfl)
theorem cn_X3_arraySize_63 (fu : Nat) {res : Int32 × PF × PG} (x1 : Int32) (x2 : Int32) (z0 : Int32) (F : PF) (G : PG) (hm : cb_X3_arraySize_63 fu x1 x2 z0 F G = some res) : xn F ≤ xn res.2.1 := by
  unfold cb_X3_arraySize_63 at hm
  obtain ⟨⟨r1, F1, G1⟩, hc, hm⟩ := bind_elim hm
  exact Nat.le_trans (cn_X5_elements fu z0 x1 F G _ hc) (cn_X3_arraySize_67 fu x2 r1 F1 G1 hm)
theorem cw_X3_arraySize_63 (fu : Nat) {res : Int32 × PF × PG} (C : cMC p R s m args c A v RX3 cX3_arraySize 4 303 18071 (xn res.2.1 - xn K0)) (hret : ∀ (b1 : Nat) (H1 : Heap) (locs1 : List Loc) (ls1 : Array Slot) (pc : Nat), cMW s A v a b1 K0 res.2.1 res.2.2 H1 locs1 → narrow .int (.int res.1) = .int res.1 → decode cX3_arraySize pc = .ok (.ireturn, 1) → W p l e R s m args below meth c H1 locs1 (xn res.2.1 - xn K0) (2 * (xn res.2.1 - xn K0)) Q (F0 m pc ls1 [.int res.1])) (x1 : Int32) (x2 : Int32) (z0 : Int32) (F : PF) (G : PG) (hm : cb_X3_arraySize_63 fu x1 x2 z0 F G = some res) {b : Nat} {H : Heap} {locs : List Loc} (hw : cMW s A v a b K0 F G H locs) {ls : Array Slot} (hl : lv_has ls 4 [(0, .ref (a 203)), (1, .int x1), (2, .int x2)]) : W p l e R s m args below meth c H locs (xn F - xn K0) (2 * (xn F - xn K0)) Q (F0 m 63 ls [.int z0, .ref (a 205)]) := by
  have hx := C.1
  have hb := C.2.1
  unfold cb_X3_arraySize_63 at hm
  refine lv_iload_n hx hb dX3_arraySize_63 rfl (lv_at hl 1 rfl) ?_
  obtain ⟨⟨r1, F1, G1⟩, hc, hm⟩ := bind_elim hm
  refine ccallI (n := 2) (As := [.int z0, .int x1]) (rest := []) C hw (ck_X5_elements l v a _ _ fu z0 x1 F G r1 F1 G1 hc) (cn_X5_elements fu z0 x1 F G _ hc) (Nat.sub_le_sub_right (cn_X3_arraySize_67 fu x2 r1 F1 G1 hm) _) (crecv_X5 C hw) cm_672 cm_673 cm_674 cm_266 cm_675 (by decide +kernel) rfl (by omega) (by omega) hl.1 rfl (Nat.le_of_ble_eq_true rfl) dX3_arraySize_64 (fun b H locs hw => ?_)
  exact cw_X3_arraySize_67 fu C hret x2 r1 F1 G1 hm hw (lv_sub hl [0, 2] rfl)
theorem cn_X3_arraySize_51 (fu : Nat) {res : Int32 × PF × PG} (x1 : Int32) (x2 : Int32) (F : PF) (G : PG) (hm : cb_X3_arraySize_51 fu x1 x2 F G = some res) : xn F ≤ xn res.2.1 := by
  unfold cb_X3_arraySize_51 at hm
  obtain ⟨⟨r1, F1, G1⟩, hc, hm⟩ := bind_elim hm
  exact Nat.le_trans (cn_X6_valueFrom fu x2 F G _ hc) (cn_X3_arraySize_63 fu x1 x2 r1 F1 G1 hm)
theorem cw_X3_arraySize_51 (fu : Nat) {res : Int32 × PF × PG} (C : cMC p R s m args c A v RX3 cX3_arraySize 4 303 18071 (xn res.2.1 - xn K0)) (hret : ∀ (b1 : Nat) (H1 : Heap) (locs1 : List Loc) (ls1 : Array Slot) (pc : Nat), cMW s A v a b1 K0 res.2.1 res.2.2 H1 locs1 → narrow .int (.int res.1) = .int res.1 → decode cX3_arraySize pc = .ok (.ireturn, 1) → W p l e R s m args below meth c H1 locs1 (xn res.2.1 - xn K0) (2 * (xn res.2.1 - xn K0)) Q (F0 m pc ls1 [.int res.1])) (x1 : Int32) (x2 : Int32) (F : PF) (G : PG) (hm : cb_X3_arraySize_51 fu x1 x2 F G = some res) {b : Nat} {H : Heap} {locs : List Loc} (hw : cMW s A v a b K0 F G H locs) {ls : Array Slot} (hl : lv_has ls 4 [(0, .ref (a 203)), (1, .int x1), (2, .int x2)]) : W p l e R s m args below meth c H locs (xn F - xn K0) (2 * (xn F - xn K0)) Q (F0 m 51 ls []) := by
  have hx := C.1
  have hb := C.2.1
  unfold cb_X3_arraySize_51 at hm
  refine lv_aload_n hx hb dX3_arraySize_51 rfl (lv_at hl 0 rfl) ?_
  refine cg_X3_19 C hw dX3_arraySize_52 ?_
  refine lv_aload_n hx hb dX3_arraySize_55 rfl (lv_at hl 0 rfl) ?_
  refine cg_X3_31 C hw dX3_arraySize_56 ?_
  refine lv_iload_n hx hb dX3_arraySize_59 rfl (lv_at hl 2 rfl) ?_
  obtain ⟨⟨r1, F1, G1⟩, hc, hm⟩ := bind_elim hm
  refine ccallI (n := 1) (As := [.int x2]) (rest := [.ref (a 205)]) C hw (ck_X6_valueFrom l v a _ _ fu x2 F G r1 F1 G1 hc) (cn_X6_valueFrom fu x2 F G _ hc) (Nat.sub_le_sub_right (cn_X3_arraySize_63 fu x1 x2 r1 F1 G1 hm) _) (crecv_X6 C hw) cm_521 cm_522 cm_523 cm_21 cm_524 (by decide +kernel) rfl (by omega) (by omega) hl.1 rfl (Nat.le_of_ble_eq_true rfl) dX3_arraySize_60 (fun b H locs hw => ?_)
  exact cw_X3_arraySize_63 fu C hret x1 x2 r1 F1 G1 hm hw (lv_sub hl [0, 1, 2] rfl)
theorem cn_X3_arraySize_48 (fu : Nat) {res : Int32 × PF × PG} (x1 : Int32) (x2 : Int32) (z0 : Int32) (F : PF) (G : PG) (hm : cb_X3_arraySize_48 fu x1 x2 z0 F G = some res) : xn F ≤ xn res.2.1 := by
  unfold cb_X3_arraySize_48 at hm
  by_cases c_1 : z0 = (0 : Int32)
  · have hm := (if_pos c_1).symm.trans hm
    exact (cn_X3_arraySize_70 fu x2 F G hm)
  · have hm := (if_neg c_1).symm.trans hm
    exact (cn_X3_arraySize_51 fu x1 x2 F G hm)
theorem cw_X3_arraySize_48 (fu : Nat) {res : Int32 × PF × PG} (C : cMC p R s m args c A v RX3 cX3_arraySize 4 303 18071 (xn res.2.1 - xn K0)) (hret : ∀ (b1 : Nat) (H1 : Heap) (locs1 : List Loc) (ls1 : Array Slot) (pc : Nat), cMW s A v a b1 K0 res.2.1 res.2.2 H1 locs1 → narrow .int (.int res.1) = .int res.1 → decode cX3_arraySize pc = .ok (.ireturn, 1) → W p l e R s m args below meth c H1 locs1 (xn res.2.1 - xn K0) (2 * (xn res.2.1 - xn K0)) Q (F0 m pc ls1 [.int res.1])) (x1 : Int32) (x2 : Int32) (z0 : Int32) (F : PF) (G : PG) (hm : cb_X3_arraySize_48 fu x1 x2 z0 F G = some res) {b : Nat} {H : Heap} {locs : List Loc} (hw : cMW s A v a b K0 F G H locs) {ls : Array Slot} (hl : lv_has ls 4 [(0, .ref (a 203)), (1, .int x1), (2, .int x2)]) : W p l e R s m args below meth c H locs (xn F - xn K0) (2 * (xn F - xn K0)) Q (F0 m 48 ls [.int z0]) := by
  have hx := C.1
  have hb := C.2.1
  unfold cb_X3_arraySize_48 at hm
  refine lv_if_eq (tgt := 70) hx hb dX3_arraySize_48 (by decide) (fun c_1 => ?_) (fun c_1 => ?_)
  · have hm := (if_pos c_1).symm.trans hm
    exact cw_X3_arraySize_70 fu C hret x2 F G hm hw (lv_sub hl [0, 2] rfl)
  · have hm := (if_neg c_1).symm.trans hm
    exact cw_X3_arraySize_51 fu C hret x1 x2 F G hm hw (lv_sub hl [0, 1, 2] rfl)
theorem cn_X3_arraySize_41 (fu : Nat) {res : Int32 × PF × PG} (x1 : Int32) (x2 : Int32) (F : PF) (G : PG) (hm : cb_X3_arraySize_41 fu x1 x2 F G = some res) : xn F ≤ xn res.2.1 := by
  unfold cb_X3_arraySize_41 at hm
  obtain ⟨⟨r1, F1, G1⟩, hc, hm⟩ := bind_elim hm
  exact Nat.le_trans (cn_X5_endsConstant fu F G _ hc) (cn_X3_arraySize_48 fu x1 x2 r1 F1 G1 hm)
theorem cw_X3_arraySize_41 (fu : Nat) {res : Int32 × PF × PG} (C : cMC p R s m args c A v RX3 cX3_arraySize 4 303 18071 (xn res.2.1 - xn K0)) (hret : ∀ (b1 : Nat) (H1 : Heap) (locs1 : List Loc) (ls1 : Array Slot) (pc : Nat), cMW s A v a b1 K0 res.2.1 res.2.2 H1 locs1 → narrow .int (.int res.1) = .int res.1 → decode cX3_arraySize pc = .ok (.ireturn, 1) → W p l e R s m args below meth c H1 locs1 (xn res.2.1 - xn K0) (2 * (xn res.2.1 - xn K0)) Q (F0 m pc ls1 [.int res.1])) (x1 : Int32) (x2 : Int32) (F : PF) (G : PG) (hm : cb_X3_arraySize_41 fu x1 x2 F G = some res) {b : Nat} {H : Heap} {locs : List Loc} (hw : cMW s A v a b K0 F G H locs) {ls : Array Slot} (hl : lv_has ls 4 [(0, .ref (a 203)), (1, .int x1), (2, .int x2)]) : W p l e R s m args below meth c H locs (xn F - xn K0) (2 * (xn F - xn K0)) Q (F0 m 41 ls []) := by
  have hx := C.1
  have hb := C.2.1
  unfold cb_X3_arraySize_41 at hm
  refine lv_aload_n hx hb dX3_arraySize_41 rfl (lv_at hl 0 rfl) ?_
  refine cg_X3_19 C hw dX3_arraySize_42 ?_
  obtain ⟨⟨r1, F1, G1⟩, hc, hm⟩ := bind_elim hm
  refine ccallI (n := 0) (As := []) (rest := []) C hw (ck_X5_endsConstant l v a _ _ fu F G r1 F1 G1 hc) (cn_X5_endsConstant fu F G _ hc) (Nat.sub_le_sub_right (cn_X3_arraySize_48 fu x1 x2 r1 F1 G1 hm) _) (crecv_X5 C hw) cm_517 cm_518 cm_519 cm_266 cm_520 (by decide +kernel) rfl (by omega) (by omega) hl.1 rfl (Nat.le_of_ble_eq_true rfl) dX3_arraySize_45 (fun b H locs hw => ?_)
  exact cw_X3_arraySize_48 fu C hret x1 x2 r1 F1 G1 hm hw (lv_sub hl [0, 1, 2] rfl)
theorem cn_X3_arraySize_37 (fu : Nat) {res : Int32 × PF × PG} (x1 : Int32) (x2 : Int32) (F : PF) (G : PG) (hm : cb_X3_arraySize_37 fu x1 x2 F G = some res) : xn F ≤ xn res.2.1 := by
  unfold cb_X3_arraySize_37 at hm
  obtain ⟨⟨r1, F1, G1⟩, hc, hm⟩ := bind_elim hm
  exact Nat.le_trans (cn_X3_expression fu F G _ hc) (cn_X3_arraySize_41 fu x1 x2 F1 G1 hm)
theorem cw_X3_arraySize_37 (fu : Nat) {res : Int32 × PF × PG} (C : cMC p R s m args c A v RX3 cX3_arraySize 4 303 18071 (xn res.2.1 - xn K0)) (hret : ∀ (b1 : Nat) (H1 : Heap) (locs1 : List Loc) (ls1 : Array Slot) (pc : Nat), cMW s A v a b1 K0 res.2.1 res.2.2 H1 locs1 → narrow .int (.int res.1) = .int res.1 → decode cX3_arraySize pc = .ok (.ireturn, 1) → W p l e R s m args below meth c H1 locs1 (xn res.2.1 - xn K0) (2 * (xn res.2.1 - xn K0)) Q (F0 m pc ls1 [.int res.1])) (x1 : Int32) (x2 : Int32) (F : PF) (G : PG) (hm : cb_X3_arraySize_37 fu x1 x2 F G = some res) {b : Nat} {H : Heap} {locs : List Loc} (hw : cMW s A v a b K0 F G H locs) {ls : Array Slot} (hl : lv_has ls 4 [(0, .ref (a 203)), (1, .int x1), (2, .int x2)]) : W p l e R s m args below meth c H locs (xn F - xn K0) (2 * (xn F - xn K0)) Q (F0 m 37 ls []) := by
  have hx := C.1
  have hb := C.2.1
  unfold cb_X3_arraySize_37 at hm
  refine lv_aload_n hx hb dX3_arraySize_37 rfl (lv_at hl 0 rfl) ?_
  obtain ⟨⟨r1, F1, G1⟩, hc, hm⟩ := bind_elim hm
  refine ccallV (n := 0) (As := []) (rest := []) C hw (ck_X3_expression l v a _ _ fu F G r1 F1 G1 hc) (cn_X3_expression fu F G _ hc) (Nat.sub_le_sub_right (cn_X3_arraySize_41 fu x1 x2 F1 G1 hm) _) (crecv_X3 C hw) cm_353 cm_354 cm_355 cm_301 cm_356 (by decide +kernel) rfl (by omega) (by omega) hl.1 rfl (Nat.le_of_ble_eq_true rfl) dX3_arraySize_38 (fun b H locs hw => ?_)
  exact cw_X3_arraySize_41 fu C hret x1 x2 F1 G1 hm hw (lv_sub hl [0, 1, 2] rfl)
theorem cn_X3_arraySize_14 (fu : Nat) {res : Int32 × PF × PG} (F : PF) (G : PG) (hm : cb_X3_arraySize_14 fu F G = some res) : xn F ≤ xn res.2.1 := by
  unfold cb_X3_arraySize_14 at hm
  obtain ⟨⟨r1, F1, G1⟩, hc, hm⟩ := bind_elim hm
  exact Nat.le_trans (cn_X5_startConstant fu F G _ hc) (cn_X3_arraySize_37 fu (F 13) (F 6) F1 G1 hm)
theorem cw_X3_arraySize_14 (fu : Nat) {res : Int32 × PF × PG} (C : cMC p R s m args c A v RX3 cX3_arraySize 4 303 18071 (xn res.2.1 - xn K0)) (hret : ∀ (b1 : Nat) (H1 : Heap) (locs1 : List Loc) (ls1 : Array Slot) (pc : Nat), cMW s A v a b1 K0 res.2.1 res.2.2 H1 locs1 → narrow .int (.int res.1) = .int res.1 → decode cX3_arraySize pc = .ok (.ireturn, 1) → W p l e R s m args below meth c H1 locs1 (xn res.2.1 - xn K0) (2 * (xn res.2.1 - xn K0)) Q (F0 m pc ls1 [.int res.1])) (F : PF) (G : PG) (hm : cb_X3_arraySize_14 fu F G = some res) {b : Nat} {H : Heap} {locs : List Loc} (hw : cMW s A v a b K0 F G H locs) {ls : Array Slot} (hl : lv_has ls 4 [(0, .ref (a 203))]) : W p l e R s m args below meth c H locs (xn F - xn K0) (2 * (xn F - xn K0)) Q (F0 m 14 ls []) := by
  have hx := C.1
  have hb := C.2.1
  unfold cb_X3_arraySize_14 at hm
  refine lv_aload_n hx hb dX3_arraySize_14 rfl (lv_at hl 0 rfl) ?_
  refine cg_X3_15 C hw dX3_arraySize_15 ?_
  refine cg_X3_72 C hw dX3_arraySize_18 ?_
  refine lv_istore_n (lv' := [(1, .int (F 13)), (0, .ref (a 203))]) hx hb dX3_arraySize_21 rfl hl (by decide) rfl (fun ls hl => ?_)
  refine lv_aload_n hx hb dX3_arraySize_22 rfl (lv_at hl 1 rfl) ?_
  refine cg_X3_23 C hw dX3_arraySize_23 ?_
  refine cg_X3_39 C hw dX3_arraySize_26 ?_
  refine lv_istore_n (lv' := [(2, .int (F 6)), (1, .int (F 13)), (0, .ref (a 203))]) hx hb dX3_arraySize_29 rfl hl (by decide) rfl (fun ls hl => ?_)
  refine lv_aload_n hx hb dX3_arraySize_30 rfl (lv_at hl 2 rfl) ?_
  refine cg_X3_19 C hw dX3_arraySize_31 ?_
  obtain ⟨⟨r1, F1, G1⟩, hc, hm⟩ := bind_elim hm
  refine ccallV (n := 0) (As := []) (rest := []) C hw (ck_X5_startConstant l v a _ _ fu F G r1 F1 G1 hc) (cn_X5_startConstant fu F G _ hc) (Nat.sub_le_sub_right (cn_X3_arraySize_37 fu (F 13) (F 6) F1 G1 hm) _) (crecv_X5 C hw) cm_349 cm_350 cm_351 cm_266 cm_352 (by decide +kernel) rfl (by omega) (by omega) hl.1 rfl (Nat.le_of_ble_eq_true rfl) dX3_arraySize_34 (fun b H locs hw => ?_)
  exact cw_X3_arraySize_37 fu C hret (F 13) (F 6) F1 G1 hm hw (lv_sub hl [2, 1, 0] rfl)
theorem cn_X3_arraySize_12 (fu : Nat) {res : Int32 × PF × PG} (F : PF) (G : PG) (hm : cb_X3_arraySize_12 fu F G = some res) : xn F ≤ xn res.2.1 := by
  unfold cb_X3_arraySize_12 at hm
  obtain rfl := Option.some.inj hm
  exact Nat.le_refl _
theorem cw_X3_arraySize_12 (fu : Nat) {res : Int32 × PF × PG} (C : cMC p R s m args c A v RX3 cX3_arraySize 4 303 18071 (xn res.2.1 - xn K0)) (hret : ∀ (b1 : Nat) (H1 : Heap) (locs1 : List Loc) (ls1 : Array Slot) (pc : Nat), cMW s A v a b1 K0 res.2.1 res.2.2 H1 locs1 → narrow .int (.int res.1) = .int res.1 → decode cX3_arraySize pc = .ok (.ireturn, 1) → W p l e R s m args below meth c H1 locs1 (xn res.2.1 - xn K0) (2 * (xn res.2.1 - xn K0)) Q (F0 m pc ls1 [.int res.1])) (F : PF) (G : PG) (hm : cb_X3_arraySize_12 fu F G = some res) {b : Nat} {H : Heap} {locs : List Loc} (hw : cMW s A v a b K0 F G H locs) {ls : Array Slot} (hl : lv_has ls 4 []) : W p l e R s m args below meth c H locs (xn F - xn K0) (2 * (xn F - xn K0)) Q (F0 m 12 ls []) := by
  have hx := C.1
  have hb := C.2.1
  unfold cb_X3_arraySize_12 at hm
  refine lv_iconst (v := 0) hx hb dX3_arraySize_12 (by decide) ?_
  obtain rfl := Option.some.inj hm
  exact hret _ _ _ _ _ hw rfl dX3_arraySize_13
theorem cn_X3_arraySize_9 (fu : Nat) {res : Int32 × PF × PG} (z0 : Int32) (F : PF) (G : PG) (hm : cb_X3_arraySize_9 fu z0 F G = some res) : xn F ≤ xn res.2.1 := by
  unfold cb_X3_arraySize_9 at hm
  by_cases c_1 : z0 = (0 : Int32)
  · have hm := (if_pos c_1).symm.trans hm
    exact (cn_X3_arraySize_12 fu F G hm)
  · have hm := (if_neg c_1).symm.trans hm
    exact (cn_X3_arraySize_14 fu F G hm)
theorem cw_X3_arraySize_9 (fu : Nat) {res : Int32 × PF × PG} (C : cMC p R s m args c A v RX3 cX3_arraySize 4 303 18071 (xn res.2.1 - xn K0)) (hret : ∀ (b1 : Nat) (H1 : Heap) (locs1 : List Loc) (ls1 : Array Slot) (pc : Nat), cMW s A v a b1 K0 res.2.1 res.2.2 H1 locs1 → narrow .int (.int res.1) = .int res.1 → decode cX3_arraySize pc = .ok (.ireturn, 1) → W p l e R s m args below meth c H1 locs1 (xn res.2.1 - xn K0) (2 * (xn res.2.1 - xn K0)) Q (F0 m pc ls1 [.int res.1])) (z0 : Int32) (F : PF) (G : PG) (hm : cb_X3_arraySize_9 fu z0 F G = some res) {b : Nat} {H : Heap} {locs : List Loc} (hw : cMW s A v a b K0 F G H locs) {ls : Array Slot} (hl : lv_has ls 4 [(0, .ref (a 203))]) : W p l e R s m args below meth c H locs (xn F - xn K0) (2 * (xn F - xn K0)) Q (F0 m 9 ls [.int z0]) := by
  have hx := C.1
  have hb := C.2.1
  unfold cb_X3_arraySize_9 at hm
  refine lv_if_ne (tgt := 14) hx hb dX3_arraySize_9 (by decide) (fun c_1 => ?_) (fun c_1 => ?_)
  · have hm := (if_neg c_1).symm.trans hm
    exact cw_X3_arraySize_14 fu C hret F G hm hw (lv_sub hl [0] rfl)
  · have hm := (if_pos c_1).symm.trans hm
    exact cw_X3_arraySize_12 fu C hret F G hm hw (lv_sub hl [] rfl)
theorem cn_X3_arraySize_0 (fu : Nat) {res : Int32 × PF × PG} (F : PF) (G : PG) (hm : cb_X3_arraySize_0 fu F G = some res) : xn F ≤ xn res.2.1 := by
  unfold cb_X3_arraySize_0 at hm
  obtain ⟨⟨r1, F1, G1⟩, hc, hm⟩ := bind_elim hm
  exact Nat.le_trans (cn_X2_opens fu 21 F G _ hc) (cn_X3_arraySize_9 fu r1 F1 G1 hm)
theorem cw_X3_arraySize_0 (fu : Nat) {res : Int32 × PF × PG} (C : cMC p R s m args c A v RX3 cX3_arraySize 4 303 18071 (xn res.2.1 - xn K0)) (hret : ∀ (b1 : Nat) (H1 : Heap) (locs1 : List Loc) (ls1 : Array Slot) (pc : Nat), cMW s A v a b1 K0 res.2.1 res.2.2 H1 locs1 → narrow .int (.int res.1) = .int res.1 → decode cX3_arraySize pc = .ok (.ireturn, 1) → W p l e R s m args below meth c H1 locs1 (xn res.2.1 - xn K0) (2 * (xn res.2.1 - xn K0)) Q (F0 m pc ls1 [.int res.1])) (F : PF) (G : PG) (hm : cb_X3_arraySize_0 fu F G = some res) {b : Nat} {H : Heap} {locs : List Loc} (hw : cMW s A v a b K0 F G H locs) {ls : Array Slot} (hl : lv_has ls 4 [(0, .ref (a 203))]) : W p l e R s m args below meth c H locs (xn F - xn K0) (2 * (xn F - xn K0)) Q (F0 m 0 ls []) := by
  have hx := C.1
  have hb := C.2.1
  unfold cb_X3_arraySize_0 at hm
  refine lv_aload_n hx hb dX3_arraySize_0 rfl (lv_at hl 0 rfl) ?_
  refine cg_X3_15 C hw dX3_arraySize_1 ?_
  refine lv_bipush (v := 21) hx hb dX3_arraySize_4 (by decide) ?_
  obtain ⟨⟨r1, F1, G1⟩, hc, hm⟩ := bind_elim hm
  refine ccallI (n := 1) (As := [.int 21]) (rest := []) C hw (ck_X2_opens l v a _ _ fu 21 F G r1 F1 G1 hc) (cn_X2_opens fu 21 F G _ hc) (Nat.sub_le_sub_right (cn_X3_arraySize_9 fu r1 F1 G1 hm) _) (crecv_X2 C hw) cm_362 cm_363 cm_364 cm_307 cm_365 (by decide +kernel) rfl (by omega) (by omega) hl.1 rfl (Nat.le_of_ble_eq_true rfl) dX3_arraySize_6 (fun b H locs hw => ?_)
  exact cw_X3_arraySize_9 fu C hret r1 F1 G1 hm hw (lv_sub hl [0] rfl)
theorem cn_X3_arraySize (fu : Nat) (F : PF) (G : PG) (q : Int32 × PF × PG) (hm : cf_X3_arraySize fu F G = some q) : xn F ≤ xn q.2.1 := cn_X3_arraySize_0 fu F G hm
theorem ck_X3_arraySize (l : Launch) (v : EV) (a : Nat → Nat) (b sz : Nat) (fu : Nat) (F : PF) (G : PG) (r : Int32) (F1 : PF) (G1 : PG) (hm : cf_X3_arraySize fu F G = some (r, F1, G1)) : cMI l yX3_arraySize cX3_arraySize 4 (some .int) 303 18071 v a b sz [.ref (a 203)] F G r F1 G1 := cMI.of (ty := .int) (by decide) rfl (Nat.le_of_ble_eq_true rfl) (fun p e R s m args below meth c Q A H locs ls C hw hl hret => cw_X3_arraySize_0 fu (res := (r, F1, G1)) C hret F G hm hw hl)
def cb_X3_keep_26 (fu : Nat) (F : PF) (G : PG) : PR := some (0, F, G)
def cb_X3_keep_23 (fu : Nat) (z0 : Int32) (F : PF) (G : PG) : PR := (cf_X1_add fu z0 F G).bind (fun q => cb_X3_keep_26 fu q.2.1 q.2.2)
def cb_X3_keep_21 (fu : Nat) (F : PF) (G : PG) : PR := cb_X3_keep_23 fu 79 F G
def cb_X3_keep_16 (fu : Nat) (F : PF) (G : PG) : PR := cb_X3_keep_23 fu 80 F G
def cb_X3_keep_12 (fu : Nat) (z0 : Int32) (F : PF) (G : PG) : PR := if z0 = (3 : Int32) then cb_X3_keep_16 fu F G else cb_X3_keep_21 fu F G
def cb_X3_keep_0 (fu : Nat) (x1 : Int32) (F : PF) (G : PG) : PR := (cf_X5_kind fu x1 F G).bind (fun q => cb_X3_keep_12 fu q.1 q.2.1 q.2.2)
def cf_X3_keep (fu : Nat) (x1 : Int32) (F : PF) (G : PG) : PR := cb_X3_keep_0 fu x1 F G
theorem cn_X3_keep_26 (fu : Nat) {res : Int32 × PF × PG} (F : PF) (G : PG) (hm : cb_X3_keep_26 fu F G = some res) : xn F ≤ xn res.2.1 := by
  unfold cb_X3_keep_26 at hm
  obtain rfl := Option.some.inj hm
  exact Nat.le_refl _
theorem cw_X3_keep_26 (fu : Nat) {res : Int32 × PF × PG} (C : cMC p R s m args c A v RX3 cX3_keep 2 1 21 (xn res.2.1 - xn K0)) (hret : ∀ (b1 : Nat) (H1 : Heap) (locs1 : List Loc) (ls1 : Array Slot) (pc : Nat), cMW s A v a b1 K0 res.2.1 res.2.2 H1 locs1 → decode cX3_keep pc = .ok (.return_, 1) → W p l e R s m args below meth c H1 locs1 (xn res.2.1 - xn K0) (2 * (xn res.2.1 - xn K0)) Q (F0 m pc ls1 [])) (F : PF) (G : PG) (hm : cb_X3_keep_26 fu F G = some res) {b : Nat} {H : Heap} {locs : List Loc} (hw : cMW s A v a b K0 F G H locs) {ls : Array Slot} (hl : lv_has ls 2 []) : W p l e R s m args below meth c H locs (xn F - xn K0) (2 * (xn F - xn K0)) Q (F0 m 26 ls []) := by
  have hx := C.1
  have hb := C.2.1
  unfold cb_X3_keep_26 at hm
  obtain rfl := Option.some.inj hm
  exact hret _ _ _ _ _ hw dX3_keep_26
theorem cn_X3_keep_23 (fu : Nat) {res : Int32 × PF × PG} (z0 : Int32) (F : PF) (G : PG) (hm : cb_X3_keep_23 fu z0 F G = some res) : xn F ≤ xn res.2.1 := by
  unfold cb_X3_keep_23 at hm
  obtain ⟨⟨r1, F1, G1⟩, hc, hm⟩ := bind_elim hm
  exact Nat.le_trans (cn_X1_add fu z0 F G _ hc) (cn_X3_keep_26 fu F1 G1 hm)
theorem cw_X3_keep_23 (fu : Nat) {res : Int32 × PF × PG} (C : cMC p R s m args c A v RX3 cX3_keep 2 1 21 (xn res.2.1 - xn K0)) (hret : ∀ (b1 : Nat) (H1 : Heap) (locs1 : List Loc) (ls1 : Array Slot) (pc : Nat), cMW s A v a b1 K0 res.2.1 res.2.2 H1 locs1 → decode cX3_keep pc = .ok (.return_, 1) → W p l e R s m args below meth c H1 locs1 (xn res.2.1 - xn K0) (2 * (xn res.2.1 - xn K0)) Q (F0 m pc ls1 [])) (z0 : Int32) (F : PF) (G : PG) (hm : cb_X3_keep_23 fu z0 F G = some res) {b : Nat} {H : Heap} {locs : List Loc} (hw : cMW s A v a b K0 F G H locs) {ls : Array Slot} (hl : lv_has ls 2 []) : W p l e R s m args below meth c H locs (xn F - xn K0) (2 * (xn F - xn K0)) Q (F0 m 23 ls [.int z0, .ref (a 201)]) := by
  have hx := C.1
  have hb := C.2.1
  unfold cb_X3_keep_23 at hm
  obtain ⟨⟨r1, F1, G1⟩, hc, hm⟩ := bind_elim hm
  refine ccallV (n := 1) (As := [.int z0]) (rest := []) C hw (ck_X1_add l v a _ _ fu z0 F G r1 F1 G1 hc) (cn_X1_add fu z0 F G _ hc) (Nat.sub_le_sub_right (cn_X3_keep_26 fu F1 G1 hm) _) (crecv_X1 C hw) cm_452 cm_453 cm_454 cm_369 cm_455 (by decide +kernel) rfl (by omega) (by omega) hl.1 rfl (Nat.le_of_ble_eq_true rfl) dX3_keep_23 (fun b H locs hw => ?_)
  exact cw_X3_keep_26 fu C hret F1 G1 hm hw (lv_sub hl [] rfl)
theorem cn_X3_keep_21 (fu : Nat) {res : Int32 × PF × PG} (F : PF) (G : PG) (hm : cb_X3_keep_21 fu F G = some res) : xn F ≤ xn res.2.1 := by
  unfold cb_X3_keep_21 at hm
  exact (cn_X3_keep_23 fu 79 F G hm)
theorem cw_X3_keep_21 (fu : Nat) {res : Int32 × PF × PG} (C : cMC p R s m args c A v RX3 cX3_keep 2 1 21 (xn res.2.1 - xn K0)) (hret : ∀ (b1 : Nat) (H1 : Heap) (locs1 : List Loc) (ls1 : Array Slot) (pc : Nat), cMW s A v a b1 K0 res.2.1 res.2.2 H1 locs1 → decode cX3_keep pc = .ok (.return_, 1) → W p l e R s m args below meth c H1 locs1 (xn res.2.1 - xn K0) (2 * (xn res.2.1 - xn K0)) Q (F0 m pc ls1 [])) (F : PF) (G : PG) (hm : cb_X3_keep_21 fu F G = some res) {b : Nat} {H : Heap} {locs : List Loc} (hw : cMW s A v a b K0 F G H locs) {ls : Array Slot} (hl : lv_has ls 2 []) : W p l e R s m args below meth c H locs (xn F - xn K0) (2 * (xn F - xn K0)) Q (F0 m 21 ls [.ref (a 201)]) := by
  have hx := C.1
  have hb := C.2.1
  unfold cb_X3_keep_21 at hm
  refine lv_bipush (v := 79) hx hb dX3_keep_21 (by decide) ?_
  exact cw_X3_keep_23 fu C hret 79 F G hm hw (lv_sub hl [] rfl)
theorem cn_X3_keep_16 (fu : Nat) {res : Int32 × PF × PG} (F : PF) (G : PG) (hm : cb_X3_keep_16 fu F G = some res) : xn F ≤ xn res.2.1 := by
  unfold cb_X3_keep_16 at hm
  exact (cn_X3_keep_23 fu 80 F G hm)
theorem cw_X3_keep_16 (fu : Nat) {res : Int32 × PF × PG} (C : cMC p R s m args c A v RX3 cX3_keep 2 1 21 (xn res.2.1 - xn K0)) (hret : ∀ (b1 : Nat) (H1 : Heap) (locs1 : List Loc) (ls1 : Array Slot) (pc : Nat), cMW s A v a b1 K0 res.2.1 res.2.2 H1 locs1 → decode cX3_keep pc = .ok (.return_, 1) → W p l e R s m args below meth c H1 locs1 (xn res.2.1 - xn K0) (2 * (xn res.2.1 - xn K0)) Q (F0 m pc ls1 [])) (F : PF) (G : PG) (hm : cb_X3_keep_16 fu F G = some res) {b : Nat} {H : Heap} {locs : List Loc} (hw : cMW s A v a b K0 F G H locs) {ls : Array Slot} (hl : lv_has ls 2 []) : W p l e R s m args below meth c H locs (xn F - xn K0) (2 * (xn F - xn K0)) Q (F0 m 16 ls [.ref (a 201)]) := by
  have hx := C.1
  have hb := C.2.1
  unfold cb_X3_keep_16 at hm
  refine lv_bipush (v := 80) hx hb dX3_keep_16 (by decide) ?_
  refine lv_goto (tgt := 23) hx hb dX3_keep_18 (by decide) ?_
  exact cw_X3_keep_23 fu C hret 80 F G hm hw (lv_sub hl [] rfl)
theorem cn_X3_keep_12 (fu : Nat) {res : Int32 × PF × PG} (z0 : Int32) (F : PF) (G : PG) (hm : cb_X3_keep_12 fu z0 F G = some res) : xn F ≤ xn res.2.1 := by
  unfold cb_X3_keep_12 at hm
  by_cases c_1 : z0 = (3 : Int32)
  · have hm := (if_pos c_1).symm.trans hm
    exact (cn_X3_keep_16 fu F G hm)
  · have hm := (if_neg c_1).symm.trans hm
    exact (cn_X3_keep_21 fu F G hm)
theorem cw_X3_keep_12 (fu : Nat) {res : Int32 × PF × PG} (C : cMC p R s m args c A v RX3 cX3_keep 2 1 21 (xn res.2.1 - xn K0)) (hret : ∀ (b1 : Nat) (H1 : Heap) (locs1 : List Loc) (ls1 : Array Slot) (pc : Nat), cMW s A v a b1 K0 res.2.1 res.2.2 H1 locs1 → decode cX3_keep pc = .ok (.return_, 1) → W p l e R s m args below meth c H1 locs1 (xn res.2.1 - xn K0) (2 * (xn res.2.1 - xn K0)) Q (F0 m pc ls1 [])) (z0 : Int32) (F : PF) (G : PG) (hm : cb_X3_keep_12 fu z0 F G = some res) {b : Nat} {H : Heap} {locs : List Loc} (hw : cMW s A v a b K0 F G H locs) {ls : Array Slot} (hl : lv_has ls 2 []) : W p l e R s m args below meth c H locs (xn F - xn K0) (2 * (xn F - xn K0)) Q (F0 m 12 ls [.int z0, .ref (a 201)]) := by
  have hx := C.1
  have hb := C.2.1
  unfold cb_X3_keep_12 at hm
  refine lv_iconst (v := 3) hx hb dX3_keep_12 (by decide) ?_
  refine lv_icmp_ne (tgt := 21) hx hb dX3_keep_13 (by decide) (fun c_1 => ?_) (fun c_1 => ?_)
  · have hm := (if_neg c_1).symm.trans hm
    exact cw_X3_keep_21 fu C hret F G hm hw (lv_sub hl [] rfl)
  · have hm := (if_pos c_1).symm.trans hm
    exact cw_X3_keep_16 fu C hret F G hm hw (lv_sub hl [] rfl)
theorem cn_X3_keep_0 (fu : Nat) {res : Int32 × PF × PG} (x1 : Int32) (F : PF) (G : PG) (hm : cb_X3_keep_0 fu x1 F G = some res) : xn F ≤ xn res.2.1 := by
  unfold cb_X3_keep_0 at hm
  obtain ⟨⟨r1, F1, G1⟩, hc, hm⟩ := bind_elim hm
  exact Nat.le_trans (cn_X5_kind fu x1 F G _ hc) (cn_X3_keep_12 fu r1 F1 G1 hm)
theorem cw_X3_keep_0 (fu : Nat) {res : Int32 × PF × PG} (C : cMC p R s m args c A v RX3 cX3_keep 2 1 21 (xn res.2.1 - xn K0)) (hret : ∀ (b1 : Nat) (H1 : Heap) (locs1 : List Loc) (ls1 : Array Slot) (pc : Nat), cMW s A v a b1 K0 res.2.1 res.2.2 H1 locs1 → decode cX3_keep pc = .ok (.return_, 1) → W p l e R s m args below meth c H1 locs1 (xn res.2.1 - xn K0) (2 * (xn res.2.1 - xn K0)) Q (F0 m pc ls1 [])) (x1 : Int32) (F : PF) (G : PG) (hm : cb_X3_keep_0 fu x1 F G = some res) {b : Nat} {H : Heap} {locs : List Loc} (hw : cMW s A v a b K0 F G H locs) {ls : Array Slot} (hl : lv_has ls 2 [(0, .ref (a 203)), (1, .int x1)]) : W p l e R s m args below meth c H locs (xn F - xn K0) (2 * (xn F - xn K0)) Q (F0 m 0 ls []) := by
  have hx := C.1
  have hb := C.2.1
  unfold cb_X3_keep_0 at hm
  refine lv_aload_n hx hb dX3_keep_0 rfl (lv_at hl 0 rfl) ?_
  refine cg_X3_23 C hw dX3_keep_1 ?_
  refine lv_aload_n hx hb dX3_keep_4 rfl (lv_at hl 0 rfl) ?_
  refine cg_X3_19 C hw dX3_keep_5 ?_
  refine lv_iload_n hx hb dX3_keep_8 rfl (lv_at hl 1 rfl) ?_
  obtain ⟨⟨r1, F1, G1⟩, hc, hm⟩ := bind_elim hm
  refine ccallI (n := 1) (As := [.int x1]) (rest := [.ref (a 201)]) C hw (ck_X5_kind l v a _ _ fu x1 F G r1 F1 G1 hc) (cn_X5_kind fu x1 F G _ hc) (Nat.sub_le_sub_right (cn_X3_keep_12 fu r1 F1 G1 hm) _) (crecv_X5 C hw) cm_387 cm_388 cm_389 cm_266 cm_390 (by decide +kernel) rfl (by omega) (by omega) hl.1 rfl (Nat.le_of_ble_eq_true rfl) dX3_keep_9 (fun b H locs hw => ?_)
  exact cw_X3_keep_12 fu C hret r1 F1 G1 hm hw (lv_sub hl [] rfl)
theorem cn_X3_keep (fu : Nat) (x1 : Int32) (F : PF) (G : PG) (q : Int32 × PF × PG) (hm : cf_X3_keep fu x1 F G = some q) : xn F ≤ xn q.2.1 := cn_X3_keep_0 fu x1 F G hm
theorem ck_X3_keep (l : Launch) (v : EV) (a : Nat → Nat) (b sz : Nat) (fu : Nat) (x1 : Int32) (F : PF) (G : PG) (r : Int32) (F1 : PF) (G1 : PG) (hm : cf_X3_keep fu x1 F G = some (r, F1, G1)) : cMV l yX3_keep cX3_keep 2 1 21 v a b sz [.ref (a 203), .int x1] F G F1 G1 := cMV.of (by decide) (Nat.le_of_ble_eq_true rfl) (fun p e R s m args below meth c Q A H locs ls C hw hl hret => cw_X3_keep_0 fu (res := (r, F1, G1)) C hret x1 F G hm hw hl)
def cb_X3_store_33 (fu : Nat) (F : PF) (G : PG) : PR := some (0, F, G)
def cb_X3_store_30 (fu : Nat) (z0 : Int32) (z1 : Int32) (F : PF) (G : PG) : PR := (cf_X1_addPair fu z1 z0 F G).bind (fun q => cb_X3_store_33 fu q.2.1 q.2.2)
def cb_X3_store_22 (fu : Nat) (x1 : Int32) (z0 : Int32) (F : PF) (G : PG) : PR := (cf_X5_value fu x1 F G).bind (fun q => cb_X3_store_30 fu q.1 z0 q.2.1 q.2.2)
def cb_X3_store_20 (fu : Nat) (x1 : Int32) (F : PF) (G : PG) : PR := cb_X3_store_22 fu x1 72 F G
def cb_X3_store_15 (fu : Nat) (x1 : Int32) (F : PF) (G : PG) : PR := cb_X3_store_22 fu x1 71 F G
def cb_X3_store_12 (fu : Nat) (x1 : Int32) (z0 : Int32) (F : PF) (G : PG) : PR := if z0 = (0 : Int32) then cb_X3_store_20 fu x1 F G else cb_X3_store_15 fu x1 F G
def cb_X3_store_0 (fu : Nat) (x1 : Int32) (F : PF) (G : PG) : PR := (cf_X5_isGlobal fu x1 F G).bind (fun q => cb_X3_store_12 fu x1 q.1 q.2.1 q.2.2)
def cf_X3_store (fu : Nat) (x1 : Int32) (F : PF) (G : PG) : PR := cb_X3_store_0 fu x1 F G
theorem cn_X3_store_33 (fu : Nat) {res : Int32 × PF × PG} (F : PF) (G : PG) (hm : cb_X3_store_33 fu F G = some res) : xn F ≤ xn res.2.1 := by
  unfold cb_X3_store_33 at hm
  obtain rfl := Option.some.inj hm
  exact Nat.le_refl _
theorem cw_X3_store_33 (fu : Nat) {res : Int32 × PF × PG} (C : cMC p R s m args c A v RX3 cX3_store 2 1 22 (xn res.2.1 - xn K0)) (hret : ∀ (b1 : Nat) (H1 : Heap) (locs1 : List Loc) (ls1 : Array Slot) (pc : Nat), cMW s A v a b1 K0 res.2.1 res.2.2 H1 locs1 → decode cX3_store pc = .ok (.return_, 1) → W p l e R s m args below meth c H1 locs1 (xn res.2.1 - xn K0) (2 * (xn res.2.1 - xn K0)) Q (F0 m pc ls1 [])) (F : PF) (G : PG) (hm : cb_X3_store_33 fu F G = some res) {b : Nat} {H : Heap} {locs : List Loc} (hw : cMW s A v a b K0 F G H locs) {ls : Array Slot} (hl : lv_has ls 2 []) : W p l e R s m args below meth c H locs (xn F - xn K0) (2 * (xn F - xn K0)) Q (F0 m 33 ls []) := by
  have hx := C.1
  have hb := C.2.1
  unfold cb_X3_store_33 at hm
  obtain rfl := Option.some.inj hm
  exact hret _ _ _ _ _ hw dX3_store_33
theorem cn_X3_store_30 (fu : Nat) {res : Int32 × PF × PG} (z0 : Int32) (z1 : Int32) (F : PF) (G : PG) (hm : cb_X3_store_30 fu z0 z1 F G = some res) : xn F ≤ xn res.2.1 := by
  unfold cb_X3_store_30 at hm
  obtain ⟨⟨r1, F1, G1⟩, hc, hm⟩ := bind_elim hm
  exact Nat.le_trans (cn_X1_addPair fu z1 z0 F G _ hc) (cn_X3_store_33 fu F1 G1 hm)
theorem cw_X3_store_30 (fu : Nat) {res : Int32 × PF × PG} (C : cMC p R s m args c A v RX3 cX3_store 2 1 22 (xn res.2.1 - xn K0)) (hret : ∀ (b1 : Nat) (H1 : Heap) (locs1 : List Loc) (ls1 : Array Slot) (pc : Nat), cMW s A v a b1 K0 res.2.1 res.2.2 H1 locs1 → decode cX3_store pc = .ok (.return_, 1) → W p l e R s m args below meth c H1 locs1 (xn res.2.1 - xn K0) (2 * (xn res.2.1 - xn K0)) Q (F0 m pc ls1 [])) (z0 : Int32) (z1 : Int32) (F : PF) (G : PG) (hm : cb_X3_store_30 fu z0 z1 F G = some res) {b : Nat} {H : Heap} {locs : List Loc} (hw : cMW s A v a b K0 F G H locs) {ls : Array Slot} (hl : lv_has ls 2 []) : W p l e R s m args below meth c H locs (xn F - xn K0) (2 * (xn F - xn K0)) Q (F0 m 30 ls [.int z0, .int z1, .ref (a 201)]) := by
  have hx := C.1
  have hb := C.2.1
  unfold cb_X3_store_30 at hm
  obtain ⟨⟨r1, F1, G1⟩, hc, hm⟩ := bind_elim hm
  refine ccallV (n := 2) (As := [.int z1, .int z0]) (rest := []) C hw (ck_X1_addPair l v a _ _ fu z1 z0 F G r1 F1 G1 hc) (cn_X1_addPair fu z1 z0 F G _ hc) (Nat.sub_le_sub_right (cn_X3_store_33 fu F1 G1 hm) _) (crecv_X1 C hw) cm_448 cm_449 cm_450 cm_369 cm_451 (by decide +kernel) rfl (by omega) (by omega) hl.1 rfl (Nat.le_of_ble_eq_true rfl) dX3_store_30 (fun b H locs hw => ?_)
  exact cw_X3_store_33 fu C hret F1 G1 hm hw (lv_sub hl [] rfl)
theorem cn_X3_store_22 (fu : Nat) {res : Int32 × PF × PG} (x1 : Int32) (z0 : Int32) (F : PF) (G : PG) (hm : cb_X3_store_22 fu x1 z0 F G = some res) : xn F ≤ xn res.2.1 := by
  unfold cb_X3_store_22 at hm
  obtain ⟨⟨r1, F1, G1⟩, hc, hm⟩ := bind_elim hm
  exact Nat.le_trans (cn_X5_value fu x1 F G _ hc) (cn_X3_store_30 fu r1 z0 F1 G1 hm)
theorem cw_X3_store_22 (fu : Nat) {res : Int32 × PF × PG} (C : cMC p R s m args c A v RX3 cX3_store 2 1 22 (xn res.2.1 - xn K0)) (hret : ∀ (b1 : Nat) (H1 : Heap) (locs1 : List Loc) (ls1 : Array Slot) (pc : Nat), cMW s A v a b1 K0 res.2.1 res.2.2 H1 locs1 → decode cX3_store pc = .ok (.return_, 1) → W p l e R s m args below meth c H1 locs1 (xn res.2.1 - xn K0) (2 * (xn res.2.1 - xn K0)) Q (F0 m pc ls1 [])) (x1 : Int32) (z0 : Int32) (F : PF) (G : PG) (hm : cb_X3_store_22 fu x1 z0 F G = some res) {b : Nat} {H : Heap} {locs : List Loc} (hw : cMW s A v a b K0 F G H locs) {ls : Array Slot} (hl : lv_has ls 2 [(0, .ref (a 203)), (1, .int x1)]) : W p l e R s m args below meth c H locs (xn F - xn K0) (2 * (xn F - xn K0)) Q (F0 m 22 ls [.int z0, .ref (a 201)]) := by
  have hx := C.1
  have hb := C.2.1
  unfold cb_X3_store_22 at hm
  refine lv_aload_n hx hb dX3_store_22 rfl (lv_at hl 0 rfl) ?_
  refine cg_X3_19 C hw dX3_store_23 ?_
  refine lv_iload_n hx hb dX3_store_26 rfl (lv_at hl 1 rfl) ?_
  obtain ⟨⟨r1, F1, G1⟩, hc, hm⟩ := bind_elim hm
  refine ccallI (n := 1) (As := [.int x1]) (rest := [.int z0, .ref (a 201)]) C hw (ck_X5_value l v a _ _ fu x1 F G r1 F1 G1 hc) (cn_X5_value fu x1 F G _ hc) (Nat.sub_le_sub_right (cn_X3_store_30 fu r1 z0 F1 G1 hm) _) (crecv_X5 C hw) cm_392 cm_393 cm_394 cm_266 cm_395 (by decide +kernel) rfl (by omega) (by omega) hl.1 rfl (Nat.le_of_ble_eq_true rfl) dX3_store_27 (fun b H locs hw => ?_)
  exact cw_X3_store_30 fu C hret r1 z0 F1 G1 hm hw (lv_sub hl [] rfl)
theorem cn_X3_store_20 (fu : Nat) {res : Int32 × PF × PG} (x1 : Int32) (F : PF) (G : PG) (hm : cb_X3_store_20 fu x1 F G = some res) : xn F ≤ xn res.2.1 := by
  unfold cb_X3_store_20 at hm
  exact (cn_X3_store_22 fu x1 72 F G hm)
theorem cw_X3_store_20 (fu : Nat) {res : Int32 × PF × PG} (C : cMC p R s m args c A v RX3 cX3_store 2 1 22 (xn res.2.1 - xn K0)) (hret : ∀ (b1 : Nat) (H1 : Heap) (locs1 : List Loc) (ls1 : Array Slot) (pc : Nat), cMW s A v a b1 K0 res.2.1 res.2.2 H1 locs1 → decode cX3_store pc = .ok (.return_, 1) → W p l e R s m args below meth c H1 locs1 (xn res.2.1 - xn K0) (2 * (xn res.2.1 - xn K0)) Q (F0 m pc ls1 [])) (x1 : Int32) (F : PF) (G : PG) (hm : cb_X3_store_20 fu x1 F G = some res) {b : Nat} {H : Heap} {locs : List Loc} (hw : cMW s A v a b K0 F G H locs) {ls : Array Slot} (hl : lv_has ls 2 [(0, .ref (a 203)), (1, .int x1)]) : W p l e R s m args below meth c H locs (xn F - xn K0) (2 * (xn F - xn K0)) Q (F0 m 20 ls [.ref (a 201)]) := by
  have hx := C.1
  have hb := C.2.1
  unfold cb_X3_store_20 at hm
  refine lv_bipush (v := 72) hx hb dX3_store_20 (by decide) ?_
  exact cw_X3_store_22 fu C hret x1 72 F G hm hw (lv_sub hl [0, 1] rfl)
theorem cn_X3_store_15 (fu : Nat) {res : Int32 × PF × PG} (x1 : Int32) (F : PF) (G : PG) (hm : cb_X3_store_15 fu x1 F G = some res) : xn F ≤ xn res.2.1 := by
  unfold cb_X3_store_15 at hm
  exact (cn_X3_store_22 fu x1 71 F G hm)
theorem cw_X3_store_15 (fu : Nat) {res : Int32 × PF × PG} (C : cMC p R s m args c A v RX3 cX3_store 2 1 22 (xn res.2.1 - xn K0)) (hret : ∀ (b1 : Nat) (H1 : Heap) (locs1 : List Loc) (ls1 : Array Slot) (pc : Nat), cMW s A v a b1 K0 res.2.1 res.2.2 H1 locs1 → decode cX3_store pc = .ok (.return_, 1) → W p l e R s m args below meth c H1 locs1 (xn res.2.1 - xn K0) (2 * (xn res.2.1 - xn K0)) Q (F0 m pc ls1 [])) (x1 : Int32) (F : PF) (G : PG) (hm : cb_X3_store_15 fu x1 F G = some res) {b : Nat} {H : Heap} {locs : List Loc} (hw : cMW s A v a b K0 F G H locs) {ls : Array Slot} (hl : lv_has ls 2 [(0, .ref (a 203)), (1, .int x1)]) : W p l e R s m args below meth c H locs (xn F - xn K0) (2 * (xn F - xn K0)) Q (F0 m 15 ls [.ref (a 201)]) := by
  have hx := C.1
  have hb := C.2.1
  unfold cb_X3_store_15 at hm
  refine lv_bipush (v := 71) hx hb dX3_store_15 (by decide) ?_
  refine lv_goto (tgt := 22) hx hb dX3_store_17 (by decide) ?_
  exact cw_X3_store_22 fu C hret x1 71 F G hm hw (lv_sub hl [0, 1] rfl)
theorem cn_X3_store_12 (fu : Nat) {res : Int32 × PF × PG} (x1 : Int32) (z0 : Int32) (F : PF) (G : PG) (hm : cb_X3_store_12 fu x1 z0 F G = some res) : xn F ≤ xn res.2.1 := by
  unfold cb_X3_store_12 at hm
  by_cases c_1 : z0 = (0 : Int32)
  · have hm := (if_pos c_1).symm.trans hm
    exact (cn_X3_store_20 fu x1 F G hm)
  · have hm := (if_neg c_1).symm.trans hm
    exact (cn_X3_store_15 fu x1 F G hm)
theorem cw_X3_store_12 (fu : Nat) {res : Int32 × PF × PG} (C : cMC p R s m args c A v RX3 cX3_store 2 1 22 (xn res.2.1 - xn K0)) (hret : ∀ (b1 : Nat) (H1 : Heap) (locs1 : List Loc) (ls1 : Array Slot) (pc : Nat), cMW s A v a b1 K0 res.2.1 res.2.2 H1 locs1 → decode cX3_store pc = .ok (.return_, 1) → W p l e R s m args below meth c H1 locs1 (xn res.2.1 - xn K0) (2 * (xn res.2.1 - xn K0)) Q (F0 m pc ls1 [])) (x1 : Int32) (z0 : Int32) (F : PF) (G : PG) (hm : cb_X3_store_12 fu x1 z0 F G = some res) {b : Nat} {H : Heap} {locs : List Loc} (hw : cMW s A v a b K0 F G H locs) {ls : Array Slot} (hl : lv_has ls 2 [(0, .ref (a 203)), (1, .int x1)]) : W p l e R s m args below meth c H locs (xn F - xn K0) (2 * (xn F - xn K0)) Q (F0 m 12 ls [.int z0, .ref (a 201)]) := by
  have hx := C.1
  have hb := C.2.1
  unfold cb_X3_store_12 at hm
  refine lv_if_eq (tgt := 20) hx hb dX3_store_12 (by decide) (fun c_1 => ?_) (fun c_1 => ?_)
  · have hm := (if_pos c_1).symm.trans hm
    exact cw_X3_store_20 fu C hret x1 F G hm hw (lv_sub hl [0, 1] rfl)
  · have hm := (if_neg c_1).symm.trans hm
    exact cw_X3_store_15 fu C hret x1 F G hm hw (lv_sub hl [0, 1] rfl)
theorem cn_X3_store_0 (fu : Nat) {res : Int32 × PF × PG} (x1 : Int32) (F : PF) (G : PG) (hm : cb_X3_store_0 fu x1 F G = some res) : xn F ≤ xn res.2.1 := by
  unfold cb_X3_store_0 at hm
  obtain ⟨⟨r1, F1, G1⟩, hc, hm⟩ := bind_elim hm
  exact Nat.le_trans (cn_X5_isGlobal fu x1 F G _ hc) (cn_X3_store_12 fu x1 r1 F1 G1 hm)
theorem cw_X3_store_0 (fu : Nat) {res : Int32 × PF × PG} (C : cMC p R s m args c A v RX3 cX3_store 2 1 22 (xn res.2.1 - xn K0)) (hret : ∀ (b1 : Nat) (H1 : Heap) (locs1 : List Loc) (ls1 : Array Slot) (pc : Nat), cMW s A v a b1 K0 res.2.1 res.2.2 H1 locs1 → decode cX3_store pc = .ok (.return_, 1) → W p l e R s m args below meth c H1 locs1 (xn res.2.1 - xn K0) (2 * (xn res.2.1 - xn K0)) Q (F0 m pc ls1 [])) (x1 : Int32) (F : PF) (G : PG) (hm : cb_X3_store_0 fu x1 F G = some res) {b : Nat} {H : Heap} {locs : List Loc} (hw : cMW s A v a b K0 F G H locs) {ls : Array Slot} (hl : lv_has ls 2 [(0, .ref (a 203)), (1, .int x1)]) : W p l e R s m args below meth c H locs (xn F - xn K0) (2 * (xn F - xn K0)) Q (F0 m 0 ls []) := by
  have hx := C.1
  have hb := C.2.1
  unfold cb_X3_store_0 at hm
  refine lv_aload_n hx hb dX3_store_0 rfl (lv_at hl 0 rfl) ?_
  refine cg_X3_23 C hw dX3_store_1 ?_
  refine lv_aload_n hx hb dX3_store_4 rfl (lv_at hl 0 rfl) ?_
  refine cg_X3_19 C hw dX3_store_5 ?_
  refine lv_iload_n hx hb dX3_store_8 rfl (lv_at hl 1 rfl) ?_
  obtain ⟨⟨r1, F1, G1⟩, hc, hm⟩ := bind_elim hm
  refine ccallI (n := 1) (As := [.int x1]) (rest := [.ref (a 201)]) C hw (ck_X5_isGlobal l v a _ _ fu x1 F G r1 F1 G1 hc) (cn_X5_isGlobal fu x1 F G _ hc) (Nat.sub_le_sub_right (cn_X3_store_12 fu x1 r1 F1 G1 hm) _) (crecv_X5 C hw) cm_443 cm_444 cm_445 cm_266 cm_446 (by decide +kernel) rfl (by omega) (by omega) hl.1 rfl (Nat.le_of_ble_eq_true rfl) dX3_store_9 (fun b H locs hw => ?_)
  exact cw_X3_store_12 fu C hret x1 r1 F1 G1 hm hw (lv_sub hl [0, 1] rfl)
theorem cn_X3_store (fu : Nat) (x1 : Int32) (F : PF) (G : PG) (q : Int32 × PF × PG) (hm : cf_X3_store fu x1 F G = some q) : xn F ≤ xn q.2.1 := cn_X3_store_0 fu x1 F G hm
theorem ck_X3_store (l : Launch) (v : EV) (a : Nat → Nat) (b sz : Nat) (fu : Nat) (x1 : Int32) (F : PF) (G : PG) (r : Int32) (F1 : PF) (G1 : PG) (hm : cf_X3_store fu x1 F G = some (r, F1, G1)) : cMV l yX3_store cX3_store 2 1 22 v a b sz [.ref (a 203), .int x1] F G F1 G1 := cMV.of (by decide) (Nat.le_of_ble_eq_true rfl) (fun p e R s m args below meth c Q A H locs ls C hw hl hret => cw_X3_store_0 fu (res := (r, F1, G1)) C hret x1 F G hm hw hl)
def cb_X5_clear_45 (fu : Nat) (F : PF) (G : PG) : PR := some (0, F, G)
def cb_X5_clear_37 (fu : Nat) (F : PF) (G : PG) : PR := (cf_fill_40 fu (-1) F G).bind (fun q => cb_X5_clear_45 fu q.2.1 q.2.2)
def cb_X5_clear_32 (fu : Nat) (F : PF) (G : PG) : PR := cb_X5_clear_37 fu (fup F 47 (1 : Int32)) G
def cb_X5_clear_27 (fu : Nat) (F : PF) (G : PG) : PR := cb_X5_clear_32 fu (fup F 46 (0 : Int32)) G
def cb_X5_clear_22 (fu : Nat) (F : PF) (G : PG) : PR := cb_X5_clear_27 fu (fup F 45 (0 : Int32)) G
def cb_X5_clear_17 (fu : Nat) (F : PF) (G : PG) : PR := cb_X5_clear_22 fu (fup F 44 (0 : Int32)) G
def cb_X5_clear_10 (fu : Nat) (F : PF) (G : PG) : PR := cb_X5_clear_17 fu (fup F 43 (4001 : Int32)) G
def cb_X5_clear_5 (fu : Nat) (F : PF) (G : PG) : PR := cb_X5_clear_10 fu (fup F 42 (0 : Int32)) G
def cb_X5_clear_0 (fu : Nat) (F : PF) (G : PG) : PR := cb_X5_clear_5 fu (fup F 41 (0 : Int32)) G
def cf_X5_clear (fu : Nat) (F : PF) (G : PG) : PR := cb_X5_clear_0 fu F G
theorem cn_X5_clear_45 (fu : Nat) {res : Int32 × PF × PG} (F : PF) (G : PG) (hm : cb_X5_clear_45 fu F G = some res) : xn F ≤ xn res.2.1 := by
  unfold cb_X5_clear_45 at hm
  obtain rfl := Option.some.inj hm
  exact Nat.le_refl _
theorem cw_X5_clear_45 (fu : Nat) {res : Int32 × PF × PG} (C : cMC p R s m args c A v RX5 cX5_clear 1 1 23 (xn res.2.1 - xn K0)) (hret : ∀ (b1 : Nat) (H1 : Heap) (locs1 : List Loc) (ls1 : Array Slot) (pc : Nat), cMW s A v a b1 K0 res.2.1 res.2.2 H1 locs1 → decode cX5_clear pc = .ok (.return_, 1) → W p l e R s m args below meth c H1 locs1 (xn res.2.1 - xn K0) (2 * (xn res.2.1 - xn K0)) Q (F0 m pc ls1 [])) (F : PF) (G : PG) (hm : cb_X5_clear_45 fu F G = some res) {b : Nat} {H : Heap} {locs : List Loc} (hw : cMW s A v a b K0 F G H locs) {ls : Array Slot} (hl : lv_has ls 1 []) : W p l e R s m args below meth c H locs (xn F - xn K0) (2 * (xn F - xn K0)) Q (F0 m 45 ls []) := by
  have hx := C.1
  have hb := C.2.1
  unfold cb_X5_clear_45 at hm
  obtain rfl := Option.some.inj hm
  exact hret _ _ _ _ _ hw dX5_clear_45
theorem cn_X5_clear_37 (fu : Nat) {res : Int32 × PF × PG} (F : PF) (G : PG) (hm : cb_X5_clear_37 fu F G = some res) : xn F ≤ xn res.2.1 := by
  unfold cb_X5_clear_37 at hm
  obtain ⟨⟨r1, F1, G1⟩, hc, hm⟩ := bind_elim hm
  exact Nat.le_trans (cn_fill_40 fu (-1) F G _ hc) (cn_X5_clear_45 fu F1 G1 hm)
theorem cw_X5_clear_37 (fu : Nat) {res : Int32 × PF × PG} (C : cMC p R s m args c A v RX5 cX5_clear 1 1 23 (xn res.2.1 - xn K0)) (hret : ∀ (b1 : Nat) (H1 : Heap) (locs1 : List Loc) (ls1 : Array Slot) (pc : Nat), cMW s A v a b1 K0 res.2.1 res.2.2 H1 locs1 → decode cX5_clear pc = .ok (.return_, 1) → W p l e R s m args below meth c H1 locs1 (xn res.2.1 - xn K0) (2 * (xn res.2.1 - xn K0)) Q (F0 m pc ls1 [])) (F : PF) (G : PG) (hm : cb_X5_clear_37 fu F G = some res) {b : Nat} {H : Heap} {locs : List Loc} (hw : cMW s A v a b K0 F G H locs) {ls : Array Slot} (hl : lv_has ls 1 [(0, .ref (a 205))]) : W p l e R s m args below meth c H locs (xn F - xn K0) (2 * (xn F - xn K0)) Q (F0 m 37 ls []) := by
  have hx := C.1
  have hb := C.2.1
  unfold cb_X5_clear_37 at hm
  refine lv_aload_n hx hb dX5_clear_37 rfl (lv_at hl 0 rfl) ?_
  refine cg_X5_33 C hw dX5_clear_38 ?_
  refine lv_iconst (v := (-1)) hx hb dX5_clear_41 (by decide) ?_
  obtain ⟨⟨r1, F1, G1⟩, hc, hm⟩ := bind_elim hm
  refine ccallVS (n := 2) (As := [.ref (a 40), .int (-1)]) (rest := []) C hw (ck_fill_40 l v a _ _ fu (-1) F G r1 F1 G1 hc) (cn_fill_40 fu (-1) F G _ hc) (Nat.sub_le_sub_right (cn_X5_clear_45 fu F1 G1 hm) _) cm_276 cm_54 cm_55 cm_56 (by decide +kernel) rfl (by omega) (by omega) hl.1 rfl (Nat.le_of_ble_eq_true rfl) dX5_clear_42 (fun b H locs hw => ?_)
  exact cw_X5_clear_45 fu C hret F1 G1 hm hw (lv_sub hl [] rfl)
theorem cn_X5_clear_32 (fu : Nat) {res : Int32 × PF × PG} (F : PF) (G : PG) (hm : cb_X5_clear_32 fu F G = some res) : xn F ≤ xn res.2.1 := by
  unfold cb_X5_clear_32 at hm
  exact Nat.le_trans (Nat.le_of_eq (xn_fup (by decide)).symm) (cn_X5_clear_37 fu (fup F 47 (1 : Int32)) G hm)
theorem cw_X5_clear_32 (fu : Nat) {res : Int32 × PF × PG} (C : cMC p R s m args c A v RX5 cX5_clear 1 1 23 (xn res.2.1 - xn K0)) (hret : ∀ (b1 : Nat) (H1 : Heap) (locs1 : List Loc) (ls1 : Array Slot) (pc : Nat), cMW s A v a b1 K0 res.2.1 res.2.2 H1 locs1 → decode cX5_clear pc = .ok (.return_, 1) → W p l e R s m args below meth c H1 locs1 (xn res.2.1 - xn K0) (2 * (xn res.2.1 - xn K0)) Q (F0 m pc ls1 [])) (F : PF) (G : PG) (hm : cb_X5_clear_32 fu F G = some res) {b : Nat} {H : Heap} {locs : List Loc} (hw : cMW s A v a b K0 F G H locs) {ls : Array Slot} (hl : lv_has ls 1 [(0, .ref (a 205))]) : W p l e R s m args below meth c H locs (xn F - xn K0) (2 * (xn F - xn K0)) Q (F0 m 32 ls []) := by
  have hx := C.1
  have hb := C.2.1
  unfold cb_X5_clear_32 at hm
  refine lv_aload_n hx hb dX5_clear_32 rfl (lv_at hl 0 rfl) ?_
  refine lv_iconst (v := 1) hx hb dX5_clear_33 (by decide) ?_
  refine cp_X5_60 C hw (by decide) dX5_clear_34 (fun H locs hw => ?_)
  exact cw_X5_clear_37 fu C hret (fup F 47 (1 : Int32)) G hm hw (lv_sub hl [0] rfl)
theorem cn_X5_clear_27 (fu : Nat) {res : Int32 × PF × PG} (F : PF) (G : PG) (hm : cb_X5_clear_27 fu F G = some res) : xn F ≤ xn res.2.1 := by
  unfold cb_X5_clear_27 at hm
  exact Nat.le_trans (Nat.le_of_eq (xn_fup (by decide)).symm) (cn_X5_clear_32 fu (fup F 46 (0 : Int32)) G hm)
theorem cw_X5_clear_27 (fu : Nat) {res : Int32 × PF × PG} (C : cMC p R s m args c A v RX5 cX5_clear 1 1 23 (xn res.2.1 - xn K0)) (hret : ∀ (b1 : Nat) (H1 : Heap) (locs1 : List Loc) (ls1 : Array Slot) (pc : Nat), cMW s A v a b1 K0 res.2.1 res.2.2 H1 locs1 → decode cX5_clear pc = .ok (.return_, 1) → W p l e R s m args below meth c H1 locs1 (xn res.2.1 - xn K0) (2 * (xn res.2.1 - xn K0)) Q (F0 m pc ls1 [])) (F : PF) (G : PG) (hm : cb_X5_clear_27 fu F G = some res) {b : Nat} {H : Heap} {locs : List Loc} (hw : cMW s A v a b K0 F G H locs) {ls : Array Slot} (hl : lv_has ls 1 [(0, .ref (a 205))]) : W p l e R s m args below meth c H locs (xn F - xn K0) (2 * (xn F - xn K0)) Q (F0 m 27 ls []) := by
  have hx := C.1
  have hb := C.2.1
  unfold cb_X5_clear_27 at hm
  refine lv_aload_n hx hb dX5_clear_27 rfl (lv_at hl 0 rfl) ?_
  refine lv_iconst (v := 0) hx hb dX5_clear_28 (by decide) ?_
  refine cp_X5_57 C hw (by decide) dX5_clear_29 (fun H locs hw => ?_)
  exact cw_X5_clear_32 fu C hret (fup F 46 (0 : Int32)) G hm hw (lv_sub hl [0] rfl)
theorem cn_X5_clear_22 (fu : Nat) {res : Int32 × PF × PG} (F : PF) (G : PG) (hm : cb_X5_clear_22 fu F G = some res) : xn F ≤ xn res.2.1 := by
  unfold cb_X5_clear_22 at hm
  exact Nat.le_trans (Nat.le_of_eq (xn_fup (by decide)).symm) (cn_X5_clear_27 fu (fup F 45 (0 : Int32)) G hm)
theorem cw_X5_clear_22 (fu : Nat) {res : Int32 × PF × PG} (C : cMC p R s m args c A v RX5 cX5_clear 1 1 23 (xn res.2.1 - xn K0)) (hret : ∀ (b1 : Nat) (H1 : Heap) (locs1 : List Loc) (ls1 : Array Slot) (pc : Nat), cMW s A v a b1 K0 res.2.1 res.2.2 H1 locs1 → decode cX5_clear pc = .ok (.return_, 1) → W p l e R s m args below meth c H1 locs1 (xn res.2.1 - xn K0) (2 * (xn res.2.1 - xn K0)) Q (F0 m pc ls1 [])) (F : PF) (G : PG) (hm : cb_X5_clear_22 fu F G = some res) {b : Nat} {H : Heap} {locs : List Loc} (hw : cMW s A v a b K0 F G H locs) {ls : Array Slot} (hl : lv_has ls 1 [(0, .ref (a 205))]) : W p l e R s m args below meth c H locs (xn F - xn K0) (2 * (xn F - xn K0)) Q (F0 m 22 ls []) := by
  have hx := C.1
  have hb := C.2.1
  unfold cb_X5_clear_22 at hm
  refine lv_aload_n hx hb dX5_clear_22 rfl (lv_at hl 0 rfl) ?_
  refine lv_iconst (v := 0) hx hb dX5_clear_23 (by decide) ?_
  refine cp_X5_53 C hw (by decide) dX5_clear_24 (fun H locs hw => ?_)
  exact cw_X5_clear_27 fu C hret (fup F 45 (0 : Int32)) G hm hw (lv_sub hl [0] rfl)
theorem cn_X5_clear_17 (fu : Nat) {res : Int32 × PF × PG} (F : PF) (G : PG) (hm : cb_X5_clear_17 fu F G = some res) : xn F ≤ xn res.2.1 := by
  unfold cb_X5_clear_17 at hm
  exact Nat.le_trans (Nat.le_of_eq (xn_fup (by decide)).symm) (cn_X5_clear_22 fu (fup F 44 (0 : Int32)) G hm)
theorem cw_X5_clear_17 (fu : Nat) {res : Int32 × PF × PG} (C : cMC p R s m args c A v RX5 cX5_clear 1 1 23 (xn res.2.1 - xn K0)) (hret : ∀ (b1 : Nat) (H1 : Heap) (locs1 : List Loc) (ls1 : Array Slot) (pc : Nat), cMW s A v a b1 K0 res.2.1 res.2.2 H1 locs1 → decode cX5_clear pc = .ok (.return_, 1) → W p l e R s m args below meth c H1 locs1 (xn res.2.1 - xn K0) (2 * (xn res.2.1 - xn K0)) Q (F0 m pc ls1 [])) (F : PF) (G : PG) (hm : cb_X5_clear_17 fu F G = some res) {b : Nat} {H : Heap} {locs : List Loc} (hw : cMW s A v a b K0 F G H locs) {ls : Array Slot} (hl : lv_has ls 1 [(0, .ref (a 205))]) : W p l e R s m args below meth c H locs (xn F - xn K0) (2 * (xn F - xn K0)) Q (F0 m 17 ls []) := by
  have hx := C.1
  have hb := C.2.1
  unfold cb_X5_clear_17 at hm
  refine lv_aload_n hx hb dX5_clear_17 rfl (lv_at hl 0 rfl) ?_
  refine lv_iconst (v := 0) hx hb dX5_clear_18 (by decide) ?_
  refine cp_X5_50 C hw dX5_clear_19 (fun H locs hw => ?_)
  exact cw_X5_clear_22 fu C hret (fup F 44 (0 : Int32)) G hm hw (lv_sub hl [0] rfl)
theorem cn_X5_clear_10 (fu : Nat) {res : Int32 × PF × PG} (F : PF) (G : PG) (hm : cb_X5_clear_10 fu F G = some res) : xn F ≤ xn res.2.1 := by
  unfold cb_X5_clear_10 at hm
  exact Nat.le_trans (Nat.le_of_eq (xn_fup (by decide)).symm) (cn_X5_clear_17 fu (fup F 43 (4001 : Int32)) G hm)
theorem cw_X5_clear_10 (fu : Nat) {res : Int32 × PF × PG} (C : cMC p R s m args c A v RX5 cX5_clear 1 1 23 (xn res.2.1 - xn K0)) (hret : ∀ (b1 : Nat) (H1 : Heap) (locs1 : List Loc) (ls1 : Array Slot) (pc : Nat), cMW s A v a b1 K0 res.2.1 res.2.2 H1 locs1 → decode cX5_clear pc = .ok (.return_, 1) → W p l e R s m args below meth c H1 locs1 (xn res.2.1 - xn K0) (2 * (xn res.2.1 - xn K0)) Q (F0 m pc ls1 [])) (F : PF) (G : PG) (hm : cb_X5_clear_10 fu F G = some res) {b : Nat} {H : Heap} {locs : List Loc} (hw : cMW s A v a b K0 F G H locs) {ls : Array Slot} (hl : lv_has ls 1 [(0, .ref (a 205))]) : W p l e R s m args below meth c H locs (xn F - xn K0) (2 * (xn F - xn K0)) Q (F0 m 10 ls []) := by
  have hx := C.1
  have hb := C.2.1
  unfold cb_X5_clear_10 at hm
  refine lv_aload_n hx hb dX5_clear_10 rfl (lv_at hl 0 rfl) ?_
  refine lv_sipush (v := 4001) hx hb dX5_clear_11 (by decide) ?_
  refine cp_X5_47 C hw dX5_clear_14 (fun H locs hw => ?_)
  exact cw_X5_clear_17 fu C hret (fup F 43 (4001 : Int32)) G hm hw (lv_sub hl [0] rfl)
theorem cn_X5_clear_5 (fu : Nat) {res : Int32 × PF × PG} (F : PF) (G : PG) (hm : cb_X5_clear_5 fu F G = some res) : xn F ≤ xn res.2.1 := by
  unfold cb_X5_clear_5 at hm
  exact Nat.le_trans (Nat.le_of_eq (xn_fup (by decide)).symm) (cn_X5_clear_10 fu (fup F 42 (0 : Int32)) G hm)
theorem cw_X5_clear_5 (fu : Nat) {res : Int32 × PF × PG} (C : cMC p R s m args c A v RX5 cX5_clear 1 1 23 (xn res.2.1 - xn K0)) (hret : ∀ (b1 : Nat) (H1 : Heap) (locs1 : List Loc) (ls1 : Array Slot) (pc : Nat), cMW s A v a b1 K0 res.2.1 res.2.2 H1 locs1 → decode cX5_clear pc = .ok (.return_, 1) → W p l e R s m args below meth c H1 locs1 (xn res.2.1 - xn K0) (2 * (xn res.2.1 - xn K0)) Q (F0 m pc ls1 [])) (F : PF) (G : PG) (hm : cb_X5_clear_5 fu F G = some res) {b : Nat} {H : Heap} {locs : List Loc} (hw : cMW s A v a b K0 F G H locs) {ls : Array Slot} (hl : lv_has ls 1 [(0, .ref (a 205))]) : W p l e R s m args below meth c H locs (xn F - xn K0) (2 * (xn F - xn K0)) Q (F0 m 5 ls []) := by
  have hx := C.1
  have hb := C.2.1
  unfold cb_X5_clear_5 at hm
  refine lv_aload_n hx hb dX5_clear_5 rfl (lv_at hl 0 rfl) ?_
  refine lv_iconst (v := 0) hx hb dX5_clear_6 (by decide) ?_
  refine cp_X5_44 C hw dX5_clear_7 (fun H locs hw => ?_)
  exact cw_X5_clear_10 fu C hret (fup F 42 (0 : Int32)) G hm hw (lv_sub hl [0] rfl)
theorem cn_X5_clear_0 (fu : Nat) {res : Int32 × PF × PG} (F : PF) (G : PG) (hm : cb_X5_clear_0 fu F G = some res) : xn F ≤ xn res.2.1 := by
  unfold cb_X5_clear_0 at hm
  exact Nat.le_trans (Nat.le_of_eq (xn_fup (by decide)).symm) (cn_X5_clear_5 fu (fup F 41 (0 : Int32)) G hm)
theorem cw_X5_clear_0 (fu : Nat) {res : Int32 × PF × PG} (C : cMC p R s m args c A v RX5 cX5_clear 1 1 23 (xn res.2.1 - xn K0)) (hret : ∀ (b1 : Nat) (H1 : Heap) (locs1 : List Loc) (ls1 : Array Slot) (pc : Nat), cMW s A v a b1 K0 res.2.1 res.2.2 H1 locs1 → decode cX5_clear pc = .ok (.return_, 1) → W p l e R s m args below meth c H1 locs1 (xn res.2.1 - xn K0) (2 * (xn res.2.1 - xn K0)) Q (F0 m pc ls1 [])) (F : PF) (G : PG) (hm : cb_X5_clear_0 fu F G = some res) {b : Nat} {H : Heap} {locs : List Loc} (hw : cMW s A v a b K0 F G H locs) {ls : Array Slot} (hl : lv_has ls 1 [(0, .ref (a 205))]) : W p l e R s m args below meth c H locs (xn F - xn K0) (2 * (xn F - xn K0)) Q (F0 m 0 ls []) := by
  have hx := C.1
  have hb := C.2.1
  unfold cb_X5_clear_0 at hm
  refine lv_aload_n hx hb dX5_clear_0 rfl (lv_at hl 0 rfl) ?_
  refine lv_iconst (v := 0) hx hb dX5_clear_1 (by decide) ?_
  refine cp_X5_40 C hw dX5_clear_2 (fun H locs hw => ?_)
  exact cw_X5_clear_5 fu C hret (fup F 41 (0 : Int32)) G hm hw (lv_sub hl [0] rfl)
theorem cn_X5_clear (fu : Nat) (F : PF) (G : PG) (q : Int32 × PF × PG) (hm : cf_X5_clear fu F G = some q) : xn F ≤ xn q.2.1 := cn_X5_clear_0 fu F G hm
theorem ck_X5_clear (l : Launch) (v : EV) (a : Nat → Nat) (b sz : Nat) (fu : Nat) (F : PF) (G : PG) (r : Int32) (F1 : PF) (G1 : PG) (hm : cf_X5_clear fu F G = some (r, F1, G1)) : cMV l yX5_clear cX5_clear 1 1 23 v a b sz [.ref (a 205)] F G F1 G1 := cMV.of (by decide) (Nat.le_of_ble_eq_true rfl) (fun p e R s m args below meth c Q A H locs ls C hw hl hret => cw_X5_clear_0 fu (res := (r, F1, G1)) C hret F G hm hw hl)
def cb_X8_clear_33 (fu : Nat) (F : PF) (G : PG) : PR := some (0, F, G)
def cb_X8_clear_25 (fu : Nat) (F : PF) (G : PG) : PR := (cf_fill_86 fu 0 F G).bind (fun q => cb_X8_clear_33 fu q.2.1 q.2.2)
def cb_X8_clear_20 (fu : Nat) (F : PF) (G : PG) : PR := cb_X8_clear_25 fu (fup F 85 (0 : Int32)) G
def cb_X8_clear_15 (fu : Nat) (F : PF) (G : PG) : PR := cb_X8_clear_20 fu (fup F 76 (-1 : Int32)) G
def cb_X8_clear_10 (fu : Nat) (F : PF) (G : PG) : PR := cb_X8_clear_15 fu (fup F 75 (0 : Int32)) G
def cb_X8_clear_5 (fu : Nat) (F : PF) (G : PG) : PR := cb_X8_clear_10 fu (fup F 74 (0 : Int32)) G
def cb_X8_clear_0 (fu : Nat) (F : PF) (G : PG) : PR := cb_X8_clear_5 fu (fup F 73 (0 : Int32)) G
def cf_X8_clear (fu : Nat) (F : PF) (G : PG) : PR := cb_X8_clear_0 fu F G
theorem cn_X8_clear_33 (fu : Nat) {res : Int32 × PF × PG} (F : PF) (G : PG) (hm : cb_X8_clear_33 fu F G = some res) : xn F ≤ xn res.2.1 := by
  unfold cb_X8_clear_33 at hm
  obtain rfl := Option.some.inj hm
  exact Nat.le_refl _
theorem cw_X8_clear_33 (fu : Nat) {res : Int32 × PF × PG} (C : cMC p R s m args c A v RX8 cX8_clear 1 1 23 (xn res.2.1 - xn K0)) (hret : ∀ (b1 : Nat) (H1 : Heap) (locs1 : List Loc) (ls1 : Array Slot) (pc : Nat), cMW s A v a b1 K0 res.2.1 res.2.2 H1 locs1 → decode cX8_clear pc = .ok (.return_, 1) → W p l e R s m args below meth c H1 locs1 (xn res.2.1 - xn K0) (2 * (xn res.2.1 - xn K0)) Q (F0 m pc ls1 [])) (F : PF) (G : PG) (hm : cb_X8_clear_33 fu F G = some res) {b : Nat} {H : Heap} {locs : List Loc} (hw : cMW s A v a b K0 F G H locs) {ls : Array Slot} (hl : lv_has ls 1 []) : W p l e R s m args below meth c H locs (xn F - xn K0) (2 * (xn F - xn K0)) Q (F0 m 33 ls []) := by
  have hx := C.1
  have hb := C.2.1
  unfold cb_X8_clear_33 at hm
  obtain rfl := Option.some.inj hm
  exact hret _ _ _ _ _ hw dX8_clear_33
theorem cn_X8_clear_25 (fu : Nat) {res : Int32 × PF × PG} (F : PF) (G : PG) (hm : cb_X8_clear_25 fu F G = some res) : xn F ≤ xn res.2.1 := by
  unfold cb_X8_clear_25 at hm
  obtain ⟨⟨r1, F1, G1⟩, hc, hm⟩ := bind_elim hm
  exact Nat.le_trans (cn_fill_86 fu 0 F G _ hc) (cn_X8_clear_33 fu F1 G1 hm)
theorem cw_X8_clear_25 (fu : Nat) {res : Int32 × PF × PG} (C : cMC p R s m args c A v RX8 cX8_clear 1 1 23 (xn res.2.1 - xn K0)) (hret : ∀ (b1 : Nat) (H1 : Heap) (locs1 : List Loc) (ls1 : Array Slot) (pc : Nat), cMW s A v a b1 K0 res.2.1 res.2.2 H1 locs1 → decode cX8_clear pc = .ok (.return_, 1) → W p l e R s m args below meth c H1 locs1 (xn res.2.1 - xn K0) (2 * (xn res.2.1 - xn K0)) Q (F0 m pc ls1 [])) (F : PF) (G : PG) (hm : cb_X8_clear_25 fu F G = some res) {b : Nat} {H : Heap} {locs : List Loc} (hw : cMW s A v a b K0 F G H locs) {ls : Array Slot} (hl : lv_has ls 1 [(0, .ref (a 208))]) : W p l e R s m args below meth c H locs (xn F - xn K0) (2 * (xn F - xn K0)) Q (F0 m 25 ls []) := by
  have hx := C.1
  have hb := C.2.1
  unfold cb_X8_clear_25 at hm
  refine lv_aload_n hx hb dX8_clear_25 rfl (lv_at hl 0 rfl) ?_
  refine cg_X8_36 C hw dX8_clear_26 ?_
  refine lv_iconst (v := 0) hx hb dX8_clear_29 (by decide) ?_
  obtain ⟨⟨r1, F1, G1⟩, hc, hm⟩ := bind_elim hm
  refine ccallVS (n := 2) (As := [.ref (a 86), .int 0]) (rest := []) C hw (ck_fill_86 l v a _ _ fu 0 F G r1 F1 G1 hc) (cn_fill_86 fu 0 F G _ hc) (Nat.sub_le_sub_right (cn_X8_clear_33 fu F1 G1 hm) _) cm_262 cm_54 cm_55 cm_56 (by decide +kernel) rfl (by omega) (by omega) hl.1 rfl (Nat.le_of_ble_eq_true rfl) dX8_clear_30 (fun b H locs hw => ?_)
  exact cw_X8_clear_33 fu C hret F1 G1 hm hw (lv_sub hl [] rfl)
theorem cn_X8_clear_20 (fu : Nat) {res : Int32 × PF × PG} (F : PF) (G : PG) (hm : cb_X8_clear_20 fu F G = some res) : xn F ≤ xn res.2.1 := by
  unfold cb_X8_clear_20 at hm
  exact Nat.le_trans (Nat.le_of_eq (xn_fup (by decide)).symm) (cn_X8_clear_25 fu (fup F 85 (0 : Int32)) G hm)
theorem cw_X8_clear_20 (fu : Nat) {res : Int32 × PF × PG} (C : cMC p R s m args c A v RX8 cX8_clear 1 1 23 (xn res.2.1 - xn K0)) (hret : ∀ (b1 : Nat) (H1 : Heap) (locs1 : List Loc) (ls1 : Array Slot) (pc : Nat), cMW s A v a b1 K0 res.2.1 res.2.2 H1 locs1 → decode cX8_clear pc = .ok (.return_, 1) → W p l e R s m args below meth c H1 locs1 (xn res.2.1 - xn K0) (2 * (xn res.2.1 - xn K0)) Q (F0 m pc ls1 [])) (F : PF) (G : PG) (hm : cb_X8_clear_20 fu F G = some res) {b : Nat} {H : Heap} {locs : List Loc} (hw : cMW s A v a b K0 F G H locs) {ls : Array Slot} (hl : lv_has ls 1 [(0, .ref (a 208))]) : W p l e R s m args below meth c H locs (xn F - xn K0) (2 * (xn F - xn K0)) Q (F0 m 20 ls []) := by
  have hx := C.1
  have hb := C.2.1
  unfold cb_X8_clear_20 at hm
  refine lv_aload_n hx hb dX8_clear_20 rfl (lv_at hl 0 rfl) ?_
  refine lv_iconst (v := 0) hx hb dX8_clear_21 (by decide) ?_
  refine cp_X8_53 C hw dX8_clear_22 (fun H locs hw => ?_)
  exact cw_X8_clear_25 fu C hret (fup F 85 (0 : Int32)) G hm hw (lv_sub hl [0] rfl)
theorem cn_X8_clear_15 (fu : Nat) {res : Int32 × PF × PG} (F : PF) (G : PG) (hm : cb_X8_clear_15 fu F G = some res) : xn F ≤ xn res.2.1 := by
  unfold cb_X8_clear_15 at hm
  exact Nat.le_trans (Nat.le_of_eq (xn_fup (by decide)).symm) (cn_X8_clear_20 fu (fup F 76 (-1 : Int32)) G hm)
theorem cw_X8_clear_15 (fu : Nat) {res : Int32 × PF × PG} (C : cMC p R s m args c A v RX8 cX8_clear 1 1 23 (xn res.2.1 - xn K0)) (hret : ∀ (b1 : Nat) (H1 : Heap) (locs1 : List Loc) (ls1 : Array Slot) (pc : Nat), cMW s A v a b1 K0 res.2.1 res.2.2 H1 locs1 → decode cX8_clear pc = .ok (.return_, 1) → W p l e R s m args below meth c H1 locs1 (xn res.2.1 - xn K0) (2 * (xn res.2.1 - xn K0)) Q (F0 m pc ls1 [])) (F : PF) (G : PG) (hm : cb_X8_clear_15 fu F G = some res) {b : Nat} {H : Heap} {locs : List Loc} (hw : cMW s A v a b K0 F G H locs) {ls : Array Slot} (hl : lv_has ls 1 [(0, .ref (a 208))]) : W p l e R s m args below meth c H locs (xn F - xn K0) (2 * (xn F - xn K0)) Q (F0 m 15 ls []) := by
  have hx := C.1
  have hb := C.2.1
  unfold cb_X8_clear_15 at hm
  refine lv_aload_n hx hb dX8_clear_15 rfl (lv_at hl 0 rfl) ?_
  refine lv_iconst (v := (-1)) hx hb dX8_clear_16 (by decide) ?_
  refine cp_X8_50 C hw dX8_clear_17 (fun H locs hw => ?_)
  exact cw_X8_clear_20 fu C hret (fup F 76 (-1 : Int32)) G hm hw (lv_sub hl [0] rfl)
theorem cn_X8_clear_10 (fu : Nat) {res : Int32 × PF × PG} (F : PF) (G : PG) (hm : cb_X8_clear_10 fu F G = some res) : xn F ≤ xn res.2.1 := by
  unfold cb_X8_clear_10 at hm
  exact Nat.le_trans (Nat.le_of_eq (xn_fup (by decide)).symm) (cn_X8_clear_15 fu (fup F 75 (0 : Int32)) G hm)
theorem cw_X8_clear_10 (fu : Nat) {res : Int32 × PF × PG} (C : cMC p R s m args c A v RX8 cX8_clear 1 1 23 (xn res.2.1 - xn K0)) (hret : ∀ (b1 : Nat) (H1 : Heap) (locs1 : List Loc) (ls1 : Array Slot) (pc : Nat), cMW s A v a b1 K0 res.2.1 res.2.2 H1 locs1 → decode cX8_clear pc = .ok (.return_, 1) → W p l e R s m args below meth c H1 locs1 (xn res.2.1 - xn K0) (2 * (xn res.2.1 - xn K0)) Q (F0 m pc ls1 [])) (F : PF) (G : PG) (hm : cb_X8_clear_10 fu F G = some res) {b : Nat} {H : Heap} {locs : List Loc} (hw : cMW s A v a b K0 F G H locs) {ls : Array Slot} (hl : lv_has ls 1 [(0, .ref (a 208))]) : W p l e R s m args below meth c H locs (xn F - xn K0) (2 * (xn F - xn K0)) Q (F0 m 10 ls []) := by
  have hx := C.1
  have hb := C.2.1
  unfold cb_X8_clear_10 at hm
  refine lv_aload_n hx hb dX8_clear_10 rfl (lv_at hl 0 rfl) ?_
  refine lv_iconst (v := 0) hx hb dX8_clear_11 (by decide) ?_
  refine cp_X8_47 C hw dX8_clear_12 (fun H locs hw => ?_)
  exact cw_X8_clear_15 fu C hret (fup F 75 (0 : Int32)) G hm hw (lv_sub hl [0] rfl)
theorem cn_X8_clear_5 (fu : Nat) {res : Int32 × PF × PG} (F : PF) (G : PG) (hm : cb_X8_clear_5 fu F G = some res) : xn F ≤ xn res.2.1 := by
  unfold cb_X8_clear_5 at hm
  exact Nat.le_trans (Nat.le_of_eq (xn_fup (by decide)).symm) (cn_X8_clear_10 fu (fup F 74 (0 : Int32)) G hm)
theorem cw_X8_clear_5 (fu : Nat) {res : Int32 × PF × PG} (C : cMC p R s m args c A v RX8 cX8_clear 1 1 23 (xn res.2.1 - xn K0)) (hret : ∀ (b1 : Nat) (H1 : Heap) (locs1 : List Loc) (ls1 : Array Slot) (pc : Nat), cMW s A v a b1 K0 res.2.1 res.2.2 H1 locs1 → decode cX8_clear pc = .ok (.return_, 1) → W p l e R s m args below meth c H1 locs1 (xn res.2.1 - xn K0) (2 * (xn res.2.1 - xn K0)) Q (F0 m pc ls1 [])) (F : PF) (G : PG) (hm : cb_X8_clear_5 fu F G = some res) {b : Nat} {H : Heap} {locs : List Loc} (hw : cMW s A v a b K0 F G H locs) {ls : Array Slot} (hl : lv_has ls 1 [(0, .ref (a 208))]) : W p l e R s m args below meth c H locs (xn F - xn K0) (2 * (xn F - xn K0)) Q (F0 m 5 ls []) := by
  have hx := C.1
  have hb := C.2.1
  unfold cb_X8_clear_5 at hm
  refine lv_aload_n hx hb dX8_clear_5 rfl (lv_at hl 0 rfl) ?_
  refine lv_iconst (v := 0) hx hb dX8_clear_6 (by decide) ?_
  refine cp_X8_43 C hw dX8_clear_7 (fun H locs hw => ?_)
  exact cw_X8_clear_10 fu C hret (fup F 74 (0 : Int32)) G hm hw (lv_sub hl [0] rfl)
theorem cn_X8_clear_0 (fu : Nat) {res : Int32 × PF × PG} (F : PF) (G : PG) (hm : cb_X8_clear_0 fu F G = some res) : xn F ≤ xn res.2.1 := by
  unfold cb_X8_clear_0 at hm
  exact Nat.le_trans (Nat.le_of_eq (xn_fup (by decide)).symm) (cn_X8_clear_5 fu (fup F 73 (0 : Int32)) G hm)
theorem cw_X8_clear_0 (fu : Nat) {res : Int32 × PF × PG} (C : cMC p R s m args c A v RX8 cX8_clear 1 1 23 (xn res.2.1 - xn K0)) (hret : ∀ (b1 : Nat) (H1 : Heap) (locs1 : List Loc) (ls1 : Array Slot) (pc : Nat), cMW s A v a b1 K0 res.2.1 res.2.2 H1 locs1 → decode cX8_clear pc = .ok (.return_, 1) → W p l e R s m args below meth c H1 locs1 (xn res.2.1 - xn K0) (2 * (xn res.2.1 - xn K0)) Q (F0 m pc ls1 [])) (F : PF) (G : PG) (hm : cb_X8_clear_0 fu F G = some res) {b : Nat} {H : Heap} {locs : List Loc} (hw : cMW s A v a b K0 F G H locs) {ls : Array Slot} (hl : lv_has ls 1 [(0, .ref (a 208))]) : W p l e R s m args below meth c H locs (xn F - xn K0) (2 * (xn F - xn K0)) Q (F0 m 0 ls []) := by
  have hx := C.1
  have hb := C.2.1
  unfold cb_X8_clear_0 at hm
  refine lv_aload_n hx hb dX8_clear_0 rfl (lv_at hl 0 rfl) ?_
  refine lv_iconst (v := 0) hx hb dX8_clear_1 (by decide) ?_
  refine cp_X8_39 C hw (by decide) dX8_clear_2 (fun H locs hw => ?_)
  exact cw_X8_clear_5 fu C hret (fup F 73 (0 : Int32)) G hm hw (lv_sub hl [0] rfl)
theorem cn_X8_clear (fu : Nat) (F : PF) (G : PG) (q : Int32 × PF × PG) (hm : cf_X8_clear fu F G = some q) : xn F ≤ xn q.2.1 := cn_X8_clear_0 fu F G hm
theorem ck_X8_clear (l : Launch) (v : EV) (a : Nat → Nat) (b sz : Nat) (fu : Nat) (F : PF) (G : PG) (r : Int32) (F1 : PF) (G1 : PG) (hm : cf_X8_clear fu F G = some (r, F1, G1)) : cMV l yX8_clear cX8_clear 1 1 23 v a b sz [.ref (a 208)] F G F1 G1 := cMV.of (by decide) (Nat.le_of_ble_eq_true rfl) (fun p e R s m args below meth c Q A H locs ls C hw hl hret => cw_X8_clear_0 fu (res := (r, F1, G1)) C hret F G hm hw hl)
def cb_X4_clear_27 (fu : Nat) (F : PF) (G : PG) : PR := some (0, F, G)
def cb_X4_clear_19 (fu : Nat) (F : PF) (G : PG) : PR := cb_X4_clear_27 fu (fup F 6 (0 : Int32)) G
def cb_X4_clear_12 (fu : Nat) (F : PF) (G : PG) : PR := (cf_X5_clear fu F G).bind (fun q => cb_X4_clear_19 fu q.2.1 q.2.2)
def cb_X4_clear_5 (fu : Nat) (F : PF) (G : PG) : PR := (cf_X8_clear fu F G).bind (fun q => cb_X4_clear_12 fu q.2.1 q.2.2)
def cb_X4_clear_0 (fu : Nat) (x1 : Int32) (F : PF) (G : PG) : PR := cb_X4_clear_5 fu (fup F 27 x1) G
def cf_X4_clear (fu : Nat) (x1 : Int32) (F : PF) (G : PG) : PR := cb_X4_clear_0 fu x1 F G
theorem cn_X4_clear_27 (fu : Nat) {res : Int32 × PF × PG} (F : PF) (G : PG) (hm : cb_X4_clear_27 fu F G = some res) : xn F ≤ xn res.2.1 := by
  unfold cb_X4_clear_27 at hm
  obtain rfl := Option.some.inj hm
  exact Nat.le_refl _
theorem cw_X4_clear_27 (fu : Nat) {res : Int32 × PF × PG} (C : cMC p R s m args c A v RX4 cX4_clear 2 2 43 (xn res.2.1 - xn K0)) (hret : ∀ (b1 : Nat) (H1 : Heap) (locs1 : List Loc) (ls1 : Array Slot) (pc : Nat), cMW s A v a b1 K0 res.2.1 res.2.2 H1 locs1 → decode cX4_clear pc = .ok (.return_, 1) → W p l e R s m args below meth c H1 locs1 (xn res.2.1 - xn K0) (2 * (xn res.2.1 - xn K0)) Q (F0 m pc ls1 [])) (F : PF) (G : PG) (hm : cb_X4_clear_27 fu F G = some res) {b : Nat} {H : Heap} {locs : List Loc} (hw : cMW s A v a b K0 F G H locs) {ls : Array Slot} (hl : lv_has ls 2 []) : W p l e R s m args below meth c H locs (xn F - xn K0) (2 * (xn F - xn K0)) Q (F0 m 27 ls []) := by
  have hx := C.1
  have hb := C.2.1
  unfold cb_X4_clear_27 at hm
  obtain rfl := Option.some.inj hm
  exact hret _ _ _ _ _ hw dX4_clear_27
theorem cn_X4_clear_19 (fu : Nat) {res : Int32 × PF × PG} (F : PF) (G : PG) (hm : cb_X4_clear_19 fu F G = some res) : xn F ≤ xn res.2.1 := by
  unfold cb_X4_clear_19 at hm
  exact Nat.le_trans (Nat.le_of_eq (xn_fup (by decide)).symm) (cn_X4_clear_27 fu (fup F 6 (0 : Int32)) G hm)
theorem cw_X4_clear_19 (fu : Nat) {res : Int32 × PF × PG} (C : cMC p R s m args c A v RX4 cX4_clear 2 2 43 (xn res.2.1 - xn K0)) (hret : ∀ (b1 : Nat) (H1 : Heap) (locs1 : List Loc) (ls1 : Array Slot) (pc : Nat), cMW s A v a b1 K0 res.2.1 res.2.2 H1 locs1 → decode cX4_clear pc = .ok (.return_, 1) → W p l e R s m args below meth c H1 locs1 (xn res.2.1 - xn K0) (2 * (xn res.2.1 - xn K0)) Q (F0 m pc ls1 [])) (F : PF) (G : PG) (hm : cb_X4_clear_19 fu F G = some res) {b : Nat} {H : Heap} {locs : List Loc} (hw : cMW s A v a b K0 F G H locs) {ls : Array Slot} (hl : lv_has ls 2 [(0, .ref (a 204))]) : W p l e R s m args below meth c H locs (xn F - xn K0) (2 * (xn F - xn K0)) Q (F0 m 19 ls []) := by
  have hx := C.1
  have hb := C.2.1
  unfold cb_X4_clear_19 at hm
  refine lv_aload_n hx hb dX4_clear_19 rfl (lv_at hl 0 rfl) ?_
  refine cg_X4_19 C hw dX4_clear_20 ?_
  refine lv_iconst (v := 0) hx hb dX4_clear_23 (by decide) ?_
  refine cp_X4_43 C hw dX4_clear_24 (fun H locs hw => ?_)
  exact cw_X4_clear_27 fu C hret (fup F 6 (0 : Int32)) G hm hw (lv_sub hl [] rfl)
theorem cn_X4_clear_12 (fu : Nat) {res : Int32 × PF × PG} (F : PF) (G : PG) (hm : cb_X4_clear_12 fu F G = some res) : xn F ≤ xn res.2.1 := by
  unfold cb_X4_clear_12 at hm
  obtain ⟨⟨r1, F1, G1⟩, hc, hm⟩ := bind_elim hm
  exact Nat.le_trans (cn_X5_clear fu F G _ hc) (cn_X4_clear_19 fu F1 G1 hm)
theorem cw_X4_clear_12 (fu : Nat) {res : Int32 × PF × PG} (C : cMC p R s m args c A v RX4 cX4_clear 2 2 43 (xn res.2.1 - xn K0)) (hret : ∀ (b1 : Nat) (H1 : Heap) (locs1 : List Loc) (ls1 : Array Slot) (pc : Nat), cMW s A v a b1 K0 res.2.1 res.2.2 H1 locs1 → decode cX4_clear pc = .ok (.return_, 1) → W p l e R s m args below meth c H1 locs1 (xn res.2.1 - xn K0) (2 * (xn res.2.1 - xn K0)) Q (F0 m pc ls1 [])) (F : PF) (G : PG) (hm : cb_X4_clear_12 fu F G = some res) {b : Nat} {H : Heap} {locs : List Loc} (hw : cMW s A v a b K0 F G H locs) {ls : Array Slot} (hl : lv_has ls 2 [(0, .ref (a 204))]) : W p l e R s m args below meth c H locs (xn F - xn K0) (2 * (xn F - xn K0)) Q (F0 m 12 ls []) := by
  have hx := C.1
  have hb := C.2.1
  unfold cb_X4_clear_12 at hm
  refine lv_aload_n hx hb dX4_clear_12 rfl (lv_at hl 0 rfl) ?_
  refine cg_X4_15 C hw dX4_clear_13 ?_
  obtain ⟨⟨r1, F1, G1⟩, hc, hm⟩ := bind_elim hm
  refine ccallV (n := 0) (As := []) (rest := []) C hw (ck_X5_clear l v a _ _ fu F G r1 F1 G1 hc) (cn_X5_clear fu F G _ hc) (Nat.sub_le_sub_right (cn_X4_clear_19 fu F1 G1 hm) _) (crecv_X5 C hw) cm_263 cm_264 cm_265 cm_266 cm_267 (by decide +kernel) rfl (by omega) (by omega) hl.1 rfl (Nat.le_of_ble_eq_true rfl) dX4_clear_16 (fun b H locs hw => ?_)
  exact cw_X4_clear_19 fu C hret F1 G1 hm hw (lv_sub hl [0] rfl)
theorem cn_X4_clear_5 (fu : Nat) {res : Int32 × PF × PG} (F : PF) (G : PG) (hm : cb_X4_clear_5 fu F G = some res) : xn F ≤ xn res.2.1 := by
  unfold cb_X4_clear_5 at hm
  obtain ⟨⟨r1, F1, G1⟩, hc, hm⟩ := bind_elim hm
  exact Nat.le_trans (cn_X8_clear fu F G _ hc) (cn_X4_clear_12 fu F1 G1 hm)
theorem cw_X4_clear_5 (fu : Nat) {res : Int32 × PF × PG} (C : cMC p R s m args c A v RX4 cX4_clear 2 2 43 (xn res.2.1 - xn K0)) (hret : ∀ (b1 : Nat) (H1 : Heap) (locs1 : List Loc) (ls1 : Array Slot) (pc : Nat), cMW s A v a b1 K0 res.2.1 res.2.2 H1 locs1 → decode cX4_clear pc = .ok (.return_, 1) → W p l e R s m args below meth c H1 locs1 (xn res.2.1 - xn K0) (2 * (xn res.2.1 - xn K0)) Q (F0 m pc ls1 [])) (F : PF) (G : PG) (hm : cb_X4_clear_5 fu F G = some res) {b : Nat} {H : Heap} {locs : List Loc} (hw : cMW s A v a b K0 F G H locs) {ls : Array Slot} (hl : lv_has ls 2 [(0, .ref (a 204))]) : W p l e R s m args below meth c H locs (xn F - xn K0) (2 * (xn F - xn K0)) Q (F0 m 5 ls []) := by
  have hx := C.1
  have hb := C.2.1
  unfold cb_X4_clear_5 at hm
  refine lv_aload_n hx hb dX4_clear_5 rfl (lv_at hl 0 rfl) ?_
  refine cg_X4_23 C hw dX4_clear_6 ?_
  obtain ⟨⟨r1, F1, G1⟩, hc, hm⟩ := bind_elim hm
  refine ccallV (n := 0) (As := []) (rest := []) C hw (ck_X8_clear l v a _ _ fu F G r1 F1 G1 hc) (cn_X8_clear fu F G _ hc) (Nat.sub_le_sub_right (cn_X4_clear_12 fu F1 G1 hm) _) (crecv_X8 C hw) cm_251 cm_252 cm_253 cm_254 cm_255 (by decide +kernel) rfl (by omega) (by omega) hl.1 rfl (Nat.le_of_ble_eq_true rfl) dX4_clear_9 (fun b H locs hw => ?_)
  exact cw_X4_clear_12 fu C hret F1 G1 hm hw (lv_sub hl [0] rfl)
theorem cn_X4_clear_0 (fu : Nat) {res : Int32 × PF × PG} (x1 : Int32) (F : PF) (G : PG) (hm : cb_X4_clear_0 fu x1 F G = some res) : xn F ≤ xn res.2.1 := by
  unfold cb_X4_clear_0 at hm
  exact Nat.le_trans (Nat.le_of_eq (xn_fup (by decide)).symm) (cn_X4_clear_5 fu (fup F 27 x1) G hm)
theorem cw_X4_clear_0 (fu : Nat) {res : Int32 × PF × PG} (C : cMC p R s m args c A v RX4 cX4_clear 2 2 43 (xn res.2.1 - xn K0)) (hret : ∀ (b1 : Nat) (H1 : Heap) (locs1 : List Loc) (ls1 : Array Slot) (pc : Nat), cMW s A v a b1 K0 res.2.1 res.2.2 H1 locs1 → decode cX4_clear pc = .ok (.return_, 1) → W p l e R s m args below meth c H1 locs1 (xn res.2.1 - xn K0) (2 * (xn res.2.1 - xn K0)) Q (F0 m pc ls1 [])) (x1 : Int32) (F : PF) (G : PG) (hm : cb_X4_clear_0 fu x1 F G = some res) {b : Nat} {H : Heap} {locs : List Loc} (hw : cMW s A v a b K0 F G H locs) {ls : Array Slot} (hl : lv_has ls 2 [(0, .ref (a 204)), (1, .int x1)]) : W p l e R s m args below meth c H locs (xn F - xn K0) (2 * (xn F - xn K0)) Q (F0 m 0 ls []) := by
  have hx := C.1
  have hb := C.2.1
  unfold cb_X4_clear_0 at hm
  refine lv_aload_n hx hb dX4_clear_0 rfl (lv_at hl 0 rfl) ?_
  refine lv_iload_n hx hb dX4_clear_1 rfl (lv_at hl 1 rfl) ?_
  refine cp_X4_31 C hw dX4_clear_2 (fun H locs hw => ?_)
  exact cw_X4_clear_5 fu C hret (fup F 27 x1) G hm hw (lv_sub hl [0] rfl)
theorem cn_X4_clear (fu : Nat) (x1 : Int32) (F : PF) (G : PG) (q : Int32 × PF × PG) (hm : cf_X4_clear fu x1 F G = some q) : xn F ≤ xn q.2.1 := cn_X4_clear_0 fu x1 F G hm
theorem ck_X4_clear (l : Launch) (v : EV) (a : Nat → Nat) (b sz : Nat) (fu : Nat) (x1 : Int32) (F : PF) (G : PG) (r : Int32) (F1 : PF) (G1 : PG) (hm : cf_X4_clear fu x1 F G = some (r, F1, G1)) : cMV l yX4_clear cX4_clear 2 2 43 v a b sz [.ref (a 204), .int x1] F G F1 G1 := cMV.of (by decide) (Nat.le_of_ble_eq_true rfl) (fun p e R s m args below meth c Q A H locs ls C hw hl hret => cw_X4_clear_0 fu (res := (r, F1, G1)) C hret x1 F G hm hw hl)
def cb_X8_addFormal_82 (fu : Nat) (F : PF) (G : PG) : PR := some (0, F, G)
def cb_X8_addFormal_80 (fu : Nat) (z0 : Int32) (z1 : Int32) (z2 : Int32) (F : PF) (G : PG) : PR := if ixb z2 450 = true then (cb_X8_addFormal_82 fu F (gup G 81 z2.toNatClampNeg (z1 + z0))) else none
def cb_X8_addFormal_79 (fu : Nat) (z0 : Int32) (z1 : Int32) (F : PF) (G : PG) : PR := cb_X8_addFormal_80 fu 2 z0 z1 F G
def cb_X8_addFormal_75 (fu : Nat) (z0 : Int32) (z1 : Int32) (F : PF) (G : PG) : PR := cb_X8_addFormal_80 fu 1 z0 z1 F G
def cb_X8_addFormal_58 (fu : Nat) (x1 : Int32) (F : PF) (G : PG) : PR := if ixb ((F 74) - (1 : Int32)) 450 = true then (if x1 = (1 : Int32) then cb_X8_addFormal_75 fu (G 81 ((F 74) - (1 : Int32)).toNatClampNeg) ((F 74) - (1 : Int32)) F G else cb_X8_addFormal_79 fu (G 81 ((F 74) - (1 : Int32)).toNatClampNeg) ((F 74) - (1 : Int32)) F G) else none
def cb_X8_addFormal_43 (fu : Nat) (x1 : Int32) (F : PF) (G : PG) : PR := if ixb ((F 74) - (1 : Int32)) 450 = true then (if ixb ((F 74) - (1 : Int32)) 450 = true then (cb_X8_addFormal_58 fu x1 F (gup G 78 ((F 74) - (1 : Int32)).toNatClampNeg ((G 78 ((F 74) - (1 : Int32)).toNatClampNeg) + (1 : Int32)))) else none) else none
def cb_X8_addFormal_33 (fu : Nat) (x1 : Int32) (F : PF) (G : PG) : PR := cb_X8_addFormal_43 fu x1 (fup F 85 ((F 85) + (1 : Int32))) G
def cb_X8_addFormal_23 (fu : Nat) (x1 : Int32) (F : PF) (G : PG) : PR := if ixb (F 85) 700 = true then (cb_X8_addFormal_33 fu x1 F (gup G 84 (F 85).toNatClampNeg x1)) else none
def cb_X8_addFormal_20 (fu : Nat) (x1 : Int32) (z0 : Int32) (F : PF) (G : PG) : PR := if z0 = (0 : Int32) then cb_X8_addFormal_82 fu F G else cb_X8_addFormal_23 fu x1 F G
def cb_X8_addFormal_10 (fu : Nat) (x1 : Int32) (F : PF) (G : PG) : PR := (cf_X8_has fu ((F 74) - (1 : Int32)) F G).bind (fun q => cb_X8_addFormal_20 fu x1 q.1 q.2.1 q.2.2)
def cb_X8_addFormal_0 (fu : Nat) (x1 : Int32) (F : PF) (G : PG) : PR := if (700 : Int32) ≤ (F 85) then cb_X8_addFormal_82 fu F G else cb_X8_addFormal_10 fu x1 F G
def cf_X8_addFormal (fu : Nat) (x1 : Int32) (F : PF) (G : PG) : PR := cb_X8_addFormal_0 fu x1 F G
theorem cn_X8_addFormal_82 (fu : Nat) {res : Int32 × PF × PG} (F : PF) (G : PG) (hm : cb_X8_addFormal_82 fu F G = some res) : xn F ≤ xn res.2.1 := by
  unfold cb_X8_addFormal_82 at hm
  obtain rfl := Option.some.inj hm
  exact Nat.le_refl _
theorem cw_X8_addFormal_82 (fu : Nat) {res : Int32 × PF × PG} (C : cMC p R s m args c A v RX8 cX8_addFormal 2 1 21 (xn res.2.1 - xn K0)) (hret : ∀ (b1 : Nat) (H1 : Heap) (locs1 : List Loc) (ls1 : Array Slot) (pc : Nat), cMW s A v a b1 K0 res.2.1 res.2.2 H1 locs1 → decode cX8_addFormal pc = .ok (.return_, 1) → W p l e R s m args below meth c H1 locs1 (xn res.2.1 - xn K0) (2 * (xn res.2.1 - xn K0)) Q (F0 m pc ls1 [])) (F : PF) (G : PG) (hm : cb_X8_addFormal_82 fu F G = some res) {b : Nat} {H : Heap} {locs : List Loc} (hw : cMW s A v a b K0 F G H locs) {ls : Array Slot} (hl : lv_has ls 2 []) : W p l e R s m args below meth c H locs (xn F - xn K0) (2 * (xn F - xn K0)) Q (F0 m 82 ls []) := by
  have hx := C.1
  have hb := C.2.1
  unfold cb_X8_addFormal_82 at hm
  obtain rfl := Option.some.inj hm
  exact hret _ _ _ _ _ hw dX8_addFormal_82
theorem cn_X8_addFormal_80 (fu : Nat) {res : Int32 × PF × PG} (z0 : Int32) (z1 : Int32) (z2 : Int32) (F : PF) (G : PG) (hm : cb_X8_addFormal_80 fu z0 z1 z2 F G = some res) : xn F ≤ xn res.2.1 := by
  unfold cb_X8_addFormal_80 at hm
  have hm := (ix_elim hm).2
  exact (cn_X8_addFormal_82 fu F (gup G 81 z2.toNatClampNeg (z1 + z0)) hm)
theorem cw_X8_addFormal_80 (fu : Nat) {res : Int32 × PF × PG} (C : cMC p R s m args c A v RX8 cX8_addFormal 2 1 21 (xn res.2.1 - xn K0)) (hret : ∀ (b1 : Nat) (H1 : Heap) (locs1 : List Loc) (ls1 : Array Slot) (pc : Nat), cMW s A v a b1 K0 res.2.1 res.2.2 H1 locs1 → decode cX8_addFormal pc = .ok (.return_, 1) → W p l e R s m args below meth c H1 locs1 (xn res.2.1 - xn K0) (2 * (xn res.2.1 - xn K0)) Q (F0 m pc ls1 [])) (z0 : Int32) (z1 : Int32) (z2 : Int32) (F : PF) (G : PG) (hm : cb_X8_addFormal_80 fu z0 z1 z2 F G = some res) {b : Nat} {H : Heap} {locs : List Loc} (hw : cMW s A v a b K0 F G H locs) {ls : Array Slot} (hl : lv_has ls 2 []) : W p l e R s m args below meth c H locs (xn F - xn K0) (2 * (xn F - xn K0)) Q (F0 m 80 ls [.int z0, .int z1, .int z2, .ref (a 81)]) := by
  have hx := C.1
  have hb := C.2.1
  unfold cb_X8_addFormal_80 at hm
  refine lv_iadd hx hb dX8_addFormal_80 ?_
  obtain ⟨hi, hm⟩ := ix_elim hm
  refine cas_81 C hw hi dX8_addFormal_81 (fun H locs hw => ?_)
  exact cw_X8_addFormal_82 fu C hret F (gup G 81 z2.toNatClampNeg (z1 + z0)) hm hw (lv_sub hl [] rfl)
theorem cn_X8_addFormal_79 (fu : Nat) {res : Int32 × PF × PG} (z0 : Int32) (z1 : Int32) (F : PF) (G : PG) (hm : cb_X8_addFormal_79 fu z0 z1 F G = some res) : xn F ≤ xn res.2.1 := by
  unfold cb_X8_addFormal_79 at hm
  exact (cn_X8_addFormal_80 fu 2 z0 z1 F G hm)
theorem cw_X8_addFormal_79 (fu : Nat) {res : Int32 × PF × PG} (C : cMC p R s m args c A v RX8 cX8_addFormal 2 1 21 (xn res.2.1 - xn K0)) (hret : ∀ (b1 : Nat) (H1 : Heap) (locs1 : List Loc) (ls1 : Array Slot) (pc : Nat), cMW s A v a b1 K0 res.2.1 res.2.2 H1 locs1 → decode cX8_addFormal pc = .ok (.return_, 1) → W p l e R s m args below meth c H1 locs1 (xn res.2.1 - xn K0) (2 * (xn res.2.1 - xn K0)) Q (F0 m pc ls1 [])) (z0 : Int32) (z1 : Int32) (F : PF) (G : PG) (hm : cb_X8_addFormal_79 fu z0 z1 F G = some res) {b : Nat} {H : Heap} {locs : List Loc} (hw : cMW s A v a b K0 F G H locs) {ls : Array Slot} (hl : lv_has ls 2 []) : W p l e R s m args below meth c H locs (xn F - xn K0) (2 * (xn F - xn K0)) Q (F0 m 79 ls [.int z0, .int z1, .ref (a 81)]) := by
  have hx := C.1
  have hb := C.2.1
  unfold cb_X8_addFormal_79 at hm
  refine lv_iconst (v := 2) hx hb dX8_addFormal_79 (by decide) ?_
  exact cw_X8_addFormal_80 fu C hret 2 z0 z1 F G hm hw (lv_sub hl [] rfl)
theorem cn_X8_addFormal_75 (fu : Nat) {res : Int32 × PF × PG} (z0 : Int32) (z1 : Int32) (F : PF) (G : PG) (hm : cb_X8_addFormal_75 fu z0 z1 F G = some res) : xn F ≤ xn res.2.1 := by
  unfold cb_X8_addFormal_75 at hm
  exact (cn_X8_addFormal_80 fu 1 z0 z1 F G hm)
theorem cw_X8_addFormal_75 (fu : Nat) {res : Int32 × PF × PG} (C : cMC p R s m args c A v RX8 cX8_addFormal 2 1 21 (xn res.2.1 - xn K0)) (hret : ∀ (b1 : Nat) (H1 : Heap) (locs1 : List Loc) (ls1 : Array Slot) (pc : Nat), cMW s A v a b1 K0 res.2.1 res.2.2 H1 locs1 → decode cX8_addFormal pc = .ok (.return_, 1) → W p l e R s m args below meth c H1 locs1 (xn res.2.1 - xn K0) (2 * (xn res.2.1 - xn K0)) Q (F0 m pc ls1 [])) (z0 : Int32) (z1 : Int32) (F : PF) (G : PG) (hm : cb_X8_addFormal_75 fu z0 z1 F G = some res) {b : Nat} {H : Heap} {locs : List Loc} (hw : cMW s A v a b K0 F G H locs) {ls : Array Slot} (hl : lv_has ls 2 []) : W p l e R s m args below meth c H locs (xn F - xn K0) (2 * (xn F - xn K0)) Q (F0 m 75 ls [.int z0, .int z1, .ref (a 81)]) := by
  have hx := C.1
  have hb := C.2.1
  unfold cb_X8_addFormal_75 at hm
  refine lv_iconst (v := 1) hx hb dX8_addFormal_75 (by decide) ?_
  refine lv_goto (tgt := 80) hx hb dX8_addFormal_76 (by decide) ?_
  exact cw_X8_addFormal_80 fu C hret 1 z0 z1 F G hm hw (lv_sub hl [] rfl)
theorem cn_X8_addFormal_58 (fu : Nat) {res : Int32 × PF × PG} (x1 : Int32) (F : PF) (G : PG) (hm : cb_X8_addFormal_58 fu x1 F G = some res) : xn F ≤ xn res.2.1 := by
  unfold cb_X8_addFormal_58 at hm
  have hm := (ix_elim hm).2
  by_cases c_1 : x1 = (1 : Int32)
  · have hm := (if_pos c_1).symm.trans hm
    exact (cn_X8_addFormal_75 fu (G 81 ((F 74) - (1 : Int32)).toNatClampNeg) ((F 74) - (1 : Int32)) F G hm)
  · have hm := (if_neg c_1).symm.trans hm
    exact (cn_X8_addFormal_79 fu (G 81 ((F 74) - (1 : Int32)).toNatClampNeg) ((F 74) - (1 : Int32)) F G hm)
theorem cw_X8_addFormal_58 (fu : Nat) {res : Int32 × PF × PG} (C : cMC p R s m args c A v RX8 cX8_addFormal 2 1 21 (xn res.2.1 - xn K0)) (hret : ∀ (b1 : Nat) (H1 : Heap) (locs1 : List Loc) (ls1 : Array Slot) (pc : Nat), cMW s A v a b1 K0 res.2.1 res.2.2 H1 locs1 → decode cX8_addFormal pc = .ok (.return_, 1) → W p l e R s m args below meth c H1 locs1 (xn res.2.1 - xn K0) (2 * (xn res.2.1 - xn K0)) Q (F0 m pc ls1 [])) (x1 : Int32) (F : PF) (G : PG) (hm : cb_X8_addFormal_58 fu x1 F G = some res) {b : Nat} {H : Heap} {locs : List Loc} (hw : cMW s A v a b K0 F G H locs) {ls : Array Slot} (hl : lv_has ls 2 [(0, .ref (a 208)), (1, .int x1)]) : W p l e R s m args below meth c H locs (xn F - xn K0) (2 * (xn F - xn K0)) Q (F0 m 58 ls []) := by
  have hx := C.1
  have hb := C.2.1
  unfold cb_X8_addFormal_58 at hm
  refine lv_aload_n hx hb dX8_addFormal_58 rfl (lv_at hl 0 rfl) ?_
  refine cg_X8_24 C hw dX8_addFormal_59 ?_
  refine lv_aload_n hx hb dX8_addFormal_62 rfl (lv_at hl 0 rfl) ?_
  refine cg_X8_43 C hw dX8_addFormal_63 ?_
  refine lv_iconst (v := 1) hx hb dX8_addFormal_66 (by decide) ?_
  refine lv_isub hx hb dX8_addFormal_67 ?_
  refine lv_dup2_11 hx hb dX8_addFormal_68 rfl rfl ?_
  obtain ⟨hi, hm⟩ := ix_elim hm
  refine cal_81 C hw hi dX8_addFormal_69 ?_
  refine lv_iload_n hx hb dX8_addFormal_70 rfl (lv_at hl 1 rfl) ?_
  refine lv_iconst (v := 1) hx hb dX8_addFormal_71 (by decide) ?_
  refine lv_icmp_ne (tgt := 79) hx hb dX8_addFormal_72 (by decide) (fun c_1 => ?_) (fun c_1 => ?_)
  · have hm := (if_neg c_1).symm.trans hm
    exact cw_X8_addFormal_79 fu C hret (G 81 ((F 74) - (1 : Int32)).toNatClampNeg) ((F 74) - (1 : Int32)) F G hm hw (lv_sub hl [] rfl)
  · have hm := (if_pos c_1).symm.trans hm
    exact cw_X8_addFormal_75 fu C hret (G 81 ((F 74) - (1 : Int32)).toNatClampNeg) ((F 74) - (1 : Int32)) F G hm hw (lv_sub hl [] rfl)
theorem cn_X8_addFormal_43 (fu : Nat) {res : Int32 × PF × PG} (x1 : Int32) (F : PF) (G : PG) (hm : cb_X8_addFormal_43 fu x1 F G = some res) : xn F ≤ xn res.2.1 := by
  unfold cb_X8_addFormal_43 at hm
  have hm := (ix_elim hm).2
  have hm := (ix_elim hm).2
  exact (cn_X8_addFormal_58 fu x1 F (gup G 78 ((F 74) - (1 : Int32)).toNatClampNeg ((G 78 ((F 74) - (1 : Int32)).toNatClampNeg) + (1 : Int32))) hm)
theorem cw_X8_addFormal_43 (fu : Nat) {res : Int32 × PF × PG} (C : cMC p R s m args c A v RX8 cX8_addFormal 2 1 21 (xn res.2.1 - xn K0)) (hret : ∀ (b1 : Nat) (H1 : Heap) (locs1 : List Loc) (ls1 : Array Slot) (pc : Nat), cMW s A v a b1 K0 res.2.1 res.2.2 H1 locs1 → decode cX8_addFormal pc = .ok (.return_, 1) → W p l e R s m args below meth c H1 locs1 (xn res.2.1 - xn K0) (2 * (xn res.2.1 - xn K0)) Q (F0 m pc ls1 [])) (x1 : Int32) (F : PF) (G : PG) (hm : cb_X8_addFormal_43 fu x1 F G = some res) {b : Nat} {H : Heap} {locs : List Loc} (hw : cMW s A v a b K0 F G H locs) {ls : Array Slot} (hl : lv_has ls 2 [(0, .ref (a 208)), (1, .int x1)]) : W p l e R s m args below meth c H locs (xn F - xn K0) (2 * (xn F - xn K0)) Q (F0 m 43 ls []) := by
  have hx := C.1
  have hb := C.2.1
  unfold cb_X8_addFormal_43 at hm
  refine lv_aload_n hx hb dX8_addFormal_43 rfl (lv_at hl 0 rfl) ?_
  refine cg_X8_15 C hw dX8_addFormal_44 ?_
  refine lv_aload_n hx hb dX8_addFormal_47 rfl (lv_at hl 0 rfl) ?_
  refine cg_X8_43 C hw dX8_addFormal_48 ?_
  refine lv_iconst (v := 1) hx hb dX8_addFormal_51 (by decide) ?_
  refine lv_isub hx hb dX8_addFormal_52 ?_
  refine lv_dup2_11 hx hb dX8_addFormal_53 rfl rfl ?_
  obtain ⟨hi, hm⟩ := ix_elim hm
  refine cal_78 C hw hi dX8_addFormal_54 ?_
  refine lv_iconst (v := 1) hx hb dX8_addFormal_55 (by decide) ?_
  refine lv_iadd hx hb dX8_addFormal_56 ?_
  obtain ⟨hi, hm⟩ := ix_elim hm
  refine cas_78 C hw hi dX8_addFormal_57 (fun H locs hw => ?_)
  exact cw_X8_addFormal_58 fu C hret x1 F (gup G 78 ((F 74) - (1 : Int32)).toNatClampNeg ((G 78 ((F 74) - (1 : Int32)).toNatClampNeg) + (1 : Int32))) hm hw (lv_sub hl [0, 1] rfl)
theorem cn_X8_addFormal_33 (fu : Nat) {res : Int32 × PF × PG} (x1 : Int32) (F : PF) (G : PG) (hm : cb_X8_addFormal_33 fu x1 F G = some res) : xn F ≤ xn res.2.1 := by
  unfold cb_X8_addFormal_33 at hm
  exact Nat.le_trans (Nat.le_of_eq (xn_fup (by decide)).symm) (cn_X8_addFormal_43 fu x1 (fup F 85 ((F 85) + (1 : Int32))) G hm)
theorem cw_X8_addFormal_33 (fu : Nat) {res : Int32 × PF × PG} (C : cMC p R s m args c A v RX8 cX8_addFormal 2 1 21 (xn res.2.1 - xn K0)) (hret : ∀ (b1 : Nat) (H1 : Heap) (locs1 : List Loc) (ls1 : Array Slot) (pc : Nat), cMW s A v a b1 K0 res.2.1 res.2.2 H1 locs1 → decode cX8_addFormal pc = .ok (.return_, 1) → W p l e R s m args below meth c H1 locs1 (xn res.2.1 - xn K0) (2 * (xn res.2.1 - xn K0)) Q (F0 m pc ls1 [])) (x1 : Int32) (F : PF) (G : PG) (hm : cb_X8_addFormal_33 fu x1 F G = some res) {b : Nat} {H : Heap} {locs : List Loc} (hw : cMW s A v a b K0 F G H locs) {ls : Array Slot} (hl : lv_has ls 2 [(0, .ref (a 208)), (1, .int x1)]) : W p l e R s m args below meth c H locs (xn F - xn K0) (2 * (xn F - xn K0)) Q (F0 m 33 ls []) := by
  have hx := C.1
  have hb := C.2.1
  unfold cb_X8_addFormal_33 at hm
  refine lv_aload_n hx hb dX8_addFormal_33 rfl (lv_at hl 0 rfl) ?_
  refine lv_dup hx hb dX8_addFormal_34 rfl ?_
  refine cg_X8_53 C hw dX8_addFormal_35 ?_
  refine lv_iconst (v := 1) hx hb dX8_addFormal_38 (by decide) ?_
  refine lv_iadd hx hb dX8_addFormal_39 ?_
  refine cp_X8_53 C hw dX8_addFormal_40 (fun H locs hw => ?_)
  exact cw_X8_addFormal_43 fu C hret x1 (fup F 85 ((F 85) + (1 : Int32))) G hm hw (lv_sub hl [0, 1] rfl)
theorem cn_X8_addFormal_23 (fu : Nat) {res : Int32 × PF × PG} (x1 : Int32) (F : PF) (G : PG) (hm : cb_X8_addFormal_23 fu x1 F G = some res) : xn F ≤ xn res.2.1 := by
  unfold cb_X8_addFormal_23 at hm
  have hm := (ix_elim hm).2
  exact (cn_X8_addFormal_33 fu x1 F (gup G 84 (F 85).toNatClampNeg x1) hm)
theorem cw_X8_addFormal_23 (fu : Nat) {res : Int32 × PF × PG} (C : cMC p R s m args c A v RX8 cX8_addFormal 2 1 21 (xn res.2.1 - xn K0)) (hret : ∀ (b1 : Nat) (H1 : Heap) (locs1 : List Loc) (ls1 : Array Slot) (pc : Nat), cMW s A v a b1 K0 res.2.1 res.2.2 H1 locs1 → decode cX8_addFormal pc = .ok (.return_, 1) → W p l e R s m args below meth c H1 locs1 (xn res.2.1 - xn K0) (2 * (xn res.2.1 - xn K0)) Q (F0 m pc ls1 [])) (x1 : Int32) (F : PF) (G : PG) (hm : cb_X8_addFormal_23 fu x1 F G = some res) {b : Nat} {H : Heap} {locs : List Loc} (hw : cMW s A v a b K0 F G H locs) {ls : Array Slot} (hl : lv_has ls 2 [(0, .ref (a 208)), (1, .int x1)]) : W p l e R s m args below meth c H locs (xn F - xn K0) (2 * (xn F - xn K0)) Q (F0 m 23 ls []) := by
  have hx := C.1
  have hb := C.2.1
  unfold cb_X8_addFormal_23 at hm
  refine lv_aload_n hx hb dX8_addFormal_23 rfl (lv_at hl 0 rfl) ?_
  refine cg_X8_33 C hw dX8_addFormal_24 ?_
  refine lv_aload_n hx hb dX8_addFormal_27 rfl (lv_at hl 0 rfl) ?_
  refine cg_X8_53 C hw dX8_addFormal_28 ?_
  refine lv_iload_n hx hb dX8_addFormal_31 rfl (lv_at hl 1 rfl) ?_
  obtain ⟨hi, hm⟩ := ix_elim hm
  refine cas_84 C hw hi dX8_addFormal_32 (fun H locs hw => ?_)
  exact cw_X8_addFormal_33 fu C hret x1 F (gup G 84 (F 85).toNatClampNeg x1) hm hw (lv_sub hl [0, 1] rfl)
theorem cn_X8_addFormal_20 (fu : Nat) {res : Int32 × PF × PG} (x1 : Int32) (z0 : Int32) (F : PF) (G : PG) (hm : cb_X8_addFormal_20 fu x1 z0 F G = some res) : xn F ≤ xn res.2.1 := by
  unfold cb_X8_addFormal_20 at hm
  by_cases c_1 : z0 = (0 : Int32)
  · have hm := (if_pos c_1).symm.trans hm
    exact (cn_X8_addFormal_82 fu F G hm)
  · have hm := (if_neg c_1).symm.trans hm
    exact (cn_X8_addFormal_23 fu x1 F G hm)
theorem cw_X8_addFormal_20 (fu : Nat) {res : Int32 × PF × PG} (C : cMC p R s m args c A v RX8 cX8_addFormal 2 1 21 (xn res.2.1 - xn K0)) (hret : ∀ (b1 : Nat) (H1 : Heap) (locs1 : List Loc) (ls1 : Array Slot) (pc : Nat), cMW s A v a b1 K0 res.2.1 res.2.2 H1 locs1 → decode cX8_addFormal pc = .ok (.return_, 1) → W p l e R s m args below meth c H1 locs1 (xn res.2.1 - xn K0) (2 * (xn res.2.1 - xn K0)) Q (F0 m pc ls1 [])) (x1 : Int32) (z0 : Int32) (F : PF) (G : PG) (hm : cb_X8_addFormal_20 fu x1 z0 F G = some res) {b : Nat} {H : Heap} {locs : List Loc} (hw : cMW s A v a b K0 F G H locs) {ls : Array Slot} (hl : lv_has ls 2 [(0, .ref (a 208)), (1, .int x1)]) : W p l e R s m args below meth c H locs (xn F - xn K0) (2 * (xn F - xn K0)) Q (F0 m 20 ls [.int z0]) := by
  have hx := C.1
  have hb := C.2.1
  unfold cb_X8_addFormal_20 at hm
  refine lv_if_eq (tgt := 82) hx hb dX8_addFormal_20 (by decide) (fun c_1 => ?_) (fun c_1 => ?_)
  · have hm := (if_pos c_1).symm.trans hm
    exact cw_X8_addFormal_82 fu C hret F G hm hw (lv_sub hl [] rfl)
  · have hm := (if_neg c_1).symm.trans hm
    exact cw_X8_addFormal_23 fu C hret x1 F G hm hw (lv_sub hl [0, 1] rfl)
theorem cn_X8_addFormal_10 (fu : Nat) {res : Int32 × PF × PG} (x1 : Int32) (F : PF) (G : PG) (hm : cb_X8_addFormal_10 fu x1 F G = some res) : xn F ≤ xn res.2.1 := by
  unfold cb_X8_addFormal_10 at hm
  obtain ⟨⟨r1, F1, G1⟩, hc, hm⟩ := bind_elim hm
  exact Nat.le_trans (cn_X8_has fu ((F 74) - (1 : Int32)) F G _ hc) (cn_X8_addFormal_20 fu x1 r1 F1 G1 hm)
theorem cw_X8_addFormal_10 (fu : Nat) {res : Int32 × PF × PG} (C : cMC p R s m args c A v RX8 cX8_addFormal 2 1 21 (xn res.2.1 - xn K0)) (hret : ∀ (b1 : Nat) (H1 : Heap) (locs1 : List Loc) (ls1 : Array Slot) (pc : Nat), cMW s A v a b1 K0 res.2.1 res.2.2 H1 locs1 → decode cX8_addFormal pc = .ok (.return_, 1) → W p l e R s m args below meth c H1 locs1 (xn res.2.1 - xn K0) (2 * (xn res.2.1 - xn K0)) Q (F0 m pc ls1 [])) (x1 : Int32) (F : PF) (G : PG) (hm : cb_X8_addFormal_10 fu x1 F G = some res) {b : Nat} {H : Heap} {locs : List Loc} (hw : cMW s A v a b K0 F G H locs) {ls : Array Slot} (hl : lv_has ls 2 [(0, .ref (a 208)), (1, .int x1)]) : W p l e R s m args below meth c H locs (xn F - xn K0) (2 * (xn F - xn K0)) Q (F0 m 10 ls []) := by
  have hx := C.1
  have hb := C.2.1
  unfold cb_X8_addFormal_10 at hm
  refine lv_aload_n hx hb dX8_addFormal_10 rfl (lv_at hl 0 rfl) ?_
  refine lv_aload_n hx hb dX8_addFormal_11 rfl (lv_at hl 0 rfl) ?_
  refine cg_X8_43 C hw dX8_addFormal_12 ?_
  refine lv_iconst (v := 1) hx hb dX8_addFormal_15 (by decide) ?_
  refine lv_isub hx hb dX8_addFormal_16 ?_
  obtain ⟨⟨r1, F1, G1⟩, hc, hm⟩ := bind_elim hm
  refine ccallI (n := 1) (As := [.int ((F 74) - (1 : Int32))]) (rest := []) C hw (ck_X8_has l v a _ _ fu ((F 74) - (1 : Int32)) F G r1 F1 G1 hc) (cn_X8_has fu ((F 74) - (1 : Int32)) F G _ hc) (Nat.sub_le_sub_right (cn_X8_addFormal_20 fu x1 r1 F1 G1 hm) _) (crecv_X8 C hw) cm_404 cm_405 cm_406 cm_254 cm_407 (by decide +kernel) rfl (by omega) (by omega) hl.1 rfl (Nat.le_of_ble_eq_true rfl) dX8_addFormal_17 (fun b H locs hw => ?_)
  exact cw_X8_addFormal_20 fu C hret x1 r1 F1 G1 hm hw (lv_sub hl [0, 1] rfl)
theorem cn_X8_addFormal_0 (fu : Nat) {res : Int32 × PF × PG} (x1 : Int32) (F : PF) (G : PG) (hm : cb_X8_addFormal_0 fu x1 F G = some res) : xn F ≤ xn res.2.1 := by
  unfold cb_X8_addFormal_0 at hm
  by_cases c_1 : (700 : Int32) ≤ (F 85)
  · have hm := (if_pos c_1).symm.trans hm
    exact (cn_X8_addFormal_82 fu F G hm)
  · have hm := (if_neg c_1).symm.trans hm
    exact (cn_X8_addFormal_10 fu x1 F G hm)
theorem cw_X8_addFormal_0 (fu : Nat) {res : Int32 × PF × PG} (C : cMC p R s m args c A v RX8 cX8_addFormal 2 1 21 (xn res.2.1 - xn K0)) (hret : ∀ (b1 : Nat) (H1 : Heap) (locs1 : List Loc) (ls1 : Array Slot) (pc : Nat), cMW s A v a b1 K0 res.2.1 res.2.2 H1 locs1 → decode cX8_addFormal pc = .ok (.return_, 1) → W p l e R s m args below meth c H1 locs1 (xn res.2.1 - xn K0) (2 * (xn res.2.1 - xn K0)) Q (F0 m pc ls1 [])) (x1 : Int32) (F : PF) (G : PG) (hm : cb_X8_addFormal_0 fu x1 F G = some res) {b : Nat} {H : Heap} {locs : List Loc} (hw : cMW s A v a b K0 F G H locs) {ls : Array Slot} (hl : lv_has ls 2 [(0, .ref (a 208)), (1, .int x1)]) : W p l e R s m args below meth c H locs (xn F - xn K0) (2 * (xn F - xn K0)) Q (F0 m 0 ls []) := by
  have hx := C.1
  have hb := C.2.1
  unfold cb_X8_addFormal_0 at hm
  refine lv_aload_n hx hb dX8_addFormal_0 rfl (lv_at hl 0 rfl) ?_
  refine cg_X8_53 C hw dX8_addFormal_1 ?_
  refine lv_sipush (v := 700) hx hb dX8_addFormal_4 (by decide) ?_
  refine lv_icmp_ge (tgt := 82) hx hb dX8_addFormal_7 (by decide) (fun c_1 => ?_) (fun c_1 => ?_)
  · have hm := (if_pos c_1).symm.trans hm
    exact cw_X8_addFormal_82 fu C hret F G hm hw (lv_sub hl [] rfl)
  · have hm := (if_neg c_1).symm.trans hm
    exact cw_X8_addFormal_10 fu C hret x1 F G hm hw (lv_sub hl [0, 1] rfl)
theorem cn_X8_addFormal (fu : Nat) (x1 : Int32) (F : PF) (G : PG) (q : Int32 × PF × PG) (hm : cf_X8_addFormal fu x1 F G = some q) : xn F ≤ xn q.2.1 := cn_X8_addFormal_0 fu x1 F G hm
theorem ck_X8_addFormal (l : Launch) (v : EV) (a : Nat → Nat) (b sz : Nat) (fu : Nat) (x1 : Int32) (F : PF) (G : PG) (r : Int32) (F1 : PF) (G1 : PG) (hm : cf_X8_addFormal fu x1 F G = some (r, F1, G1)) : cMV l yX8_addFormal cX8_addFormal 2 1 21 v a b sz [.ref (a 208), .int x1] F G F1 G1 := cMV.of (by decide) (Nat.le_of_ble_eq_true rfl) (fun p e R s m args below meth c Q A H locs ls C hw hl hret => cw_X8_addFormal_0 fu (res := (r, F1, G1)) C hret x1 F G hm hw hl)
def cb_X5_measure_0 (fu : Nat) (F : PF) (G : PG) : PR := some ((((4 : Int32) + (F 49)) + (F 50)), F, G)
def cf_X5_measure (fu : Nat) (F : PF) (G : PG) : PR := cb_X5_measure_0 fu F G
theorem cn_X5_measure_0 (fu : Nat) {res : Int32 × PF × PG} (F : PF) (G : PG) (hm : cb_X5_measure_0 fu F G = some res) : xn F ≤ xn res.2.1 := by
  unfold cb_X5_measure_0 at hm
  obtain rfl := Option.some.inj hm
  exact Nat.le_refl _
theorem cw_X5_measure_0 (fu : Nat) {res : Int32 × PF × PG} (C : cMC p R s m args c A v RX5 cX5_measure 1 0 0 (xn res.2.1 - xn K0)) (hret : ∀ (b1 : Nat) (H1 : Heap) (locs1 : List Loc) (ls1 : Array Slot) (pc : Nat), cMW s A v a b1 K0 res.2.1 res.2.2 H1 locs1 → narrow .int (.int res.1) = .int res.1 → decode cX5_measure pc = .ok (.ireturn, 1) → W p l e R s m args below meth c H1 locs1 (xn res.2.1 - xn K0) (2 * (xn res.2.1 - xn K0)) Q (F0 m pc ls1 [.int res.1])) (F : PF) (G : PG) (hm : cb_X5_measure_0 fu F G = some res) {b : Nat} {H : Heap} {locs : List Loc} (hw : cMW s A v a b K0 F G H locs) {ls : Array Slot} (hl : lv_has ls 1 [(0, .ref (a 205))]) : W p l e R s m args below meth c H locs (xn F - xn K0) (2 * (xn F - xn K0)) Q (F0 m 0 ls []) := by
  have hx := C.1
  have hb := C.2.1
  unfold cb_X5_measure_0 at hm
  refine lv_iconst (v := 4) hx hb dX5_measure_0 (by decide) ?_
  refine lv_aload_n hx hb dX5_measure_1 rfl (lv_at hl 0 rfl) ?_
  refine cg_X5_93 C hw dX5_measure_2 ?_
  refine lv_iadd hx hb dX5_measure_5 ?_
  refine lv_aload_n hx hb dX5_measure_6 rfl (lv_at hl 0 rfl) ?_
  refine cg_X5_96 C hw dX5_measure_7 ?_
  refine lv_iadd hx hb dX5_measure_10 ?_
  obtain rfl := Option.some.inj hm
  exact hret _ _ _ _ _ hw rfl dX5_measure_11
theorem cn_X5_measure (fu : Nat) (F : PF) (G : PG) (q : Int32 × PF × PG) (hm : cf_X5_measure fu F G = some q) : xn F ≤ xn q.2.1 := cn_X5_measure_0 fu F G hm
theorem ck_X5_measure (l : Launch) (v : EV) (a : Nat → Nat) (b sz : Nat) (fu : Nat) (F : PF) (G : PG) (r : Int32) (F1 : PF) (G1 : PG) (hm : cf_X5_measure fu F G = some (r, F1, G1)) : cMI l yX5_measure cX5_measure 1 (some .int) 0 0 v a b sz [.ref (a 205)] F G r F1 G1 := cMI.of (ty := .int) (by decide) rfl (Nat.le_of_ble_eq_true rfl) (fun p e R s m args below meth c Q A H locs ls C hw hl hret => cw_X5_measure_0 fu (res := (r, F1, G1)) C hret F G hm hw hl)
def cb_X5_install_121 (fu : Nat) (F : PF) (G : PG) : PR := some (0, F, G)
def cb_X5_install_111 (fu : Nat) (F : PF) (G : PG) : PR := cb_X5_install_121 fu (fup F 41 ((F 41) + (1 : Int32))) G
def cb_X5_install_101 (fu : Nat) (x1 : Int32) (F : PF) (G : PG) : PR := if ixb x1 1408 = true then (cb_X5_install_111 fu F (gup G 40 x1.toNatClampNeg (F 41))) else none
def cb_X5_install_86 (fu : Nat) (x1 : Int32) (F : PF) (G : PG) : PR := if ixb x1 1408 = true then (if ixb (F 41) 700 = true then (cb_X5_install_101 fu x1 F (gup G 39 (F 41).toNatClampNeg (G 40 x1.toNatClampNeg))) else none) else none
def cb_X5_install_75 (fu : Nat) (x1 : Int32) (x5 : Int32) (F : PF) (G : PG) : PR := if ixb (F 41) 700 = true then (cb_X5_install_86 fu x1 F (gup G 38 (F 41).toNatClampNeg x5)) else none
def cb_X5_install_64 (fu : Nat) (x1 : Int32) (x4 : Int32) (x5 : Int32) (F : PF) (G : PG) : PR := if ixb (F 41) 700 = true then (cb_X5_install_75 fu x1 x5 F (gup G 37 (F 41).toNatClampNeg x4)) else none
def cb_X5_install_54 (fu : Nat) (x1 : Int32) (x2 : Int32) (x4 : Int32) (x5 : Int32) (F : PF) (G : PG) : PR := if ixb (F 41) 700 = true then (cb_X5_install_64 fu x1 x4 x5 F (gup G 36 (F 41).toNatClampNeg x2)) else none
def cb_X5_install_44 (fu : Nat) (x1 : Int32) (x2 : Int32) (x3 : Int32) (x4 : Int32) (x5 : Int32) (F : PF) (G : PG) : PR := if ixb (F 41) 700 = true then (cb_X5_install_54 fu x1 x2 x4 x5 F (gup G 35 (F 41).toNatClampNeg x3)) else none
def cb_X5_install_31 (fu : Nat) (x1 : Int32) (x2 : Int32) (x3 : Int32) (x4 : Int32) (x5 : Int32) (F : PF) (G : PG) : PR := if ixb (F 41) 700 = true then (cb_X5_install_44 fu x1 x2 x3 x4 x5 F (gup G 34 (F 41).toNatClampNeg (F 42))) else none
def cb_X5_install_21 (fu : Nat) (x1 : Int32) (x2 : Int32) (x3 : Int32) (x4 : Int32) (x5 : Int32) (F : PF) (G : PG) : PR := if ixb (F 41) 700 = true then (cb_X5_install_31 fu x1 x2 x3 x4 x5 F (gup G 33 (F 41).toNatClampNeg x1)) else none
def cb_X5_install_14 (fu : Nat) (x1 : Int32) (x2 : Int32) (x3 : Int32) (x4 : Int32) (x5 : Int32) (F : PF) (G : PG) : PR := if (1408 : Int32) ≤ x1 then cb_X5_install_121 fu F G else cb_X5_install_21 fu x1 x2 x3 x4 x5 F G
def cb_X5_install_10 (fu : Nat) (x1 : Int32) (x2 : Int32) (x3 : Int32) (x4 : Int32) (x5 : Int32) (F : PF) (G : PG) : PR := if x1 < (0 : Int32) then cb_X5_install_121 fu F G else cb_X5_install_14 fu x1 x2 x3 x4 x5 F G
def cb_X5_install_0 (fu : Nat) (x1 : Int32) (x2 : Int32) (x3 : Int32) (x4 : Int32) (x5 : Int32) (F : PF) (G : PG) : PR := if (700 : Int32) ≤ (F 41) then cb_X5_install_121 fu F G else cb_X5_install_10 fu x1 x2 x3 x4 x5 F G
def cf_X5_install (fu : Nat) (x1 : Int32) (x2 : Int32) (x3 : Int32) (x4 : Int32) (x5 : Int32) (F : PF) (G : PG) : PR := cb_X5_install_0 fu x1 x2 x3 x4 x5 F G
theorem cn_X5_install_121 (fu : Nat) {res : Int32 × PF × PG} (F : PF) (G : PG) (hm : cb_X5_install_121 fu F G = some res) : xn F ≤ xn res.2.1 := by
  unfold cb_X5_install_121 at hm
  obtain rfl := Option.some.inj hm
  exact Nat.le_refl _
theorem cw_X5_install_121 (fu : Nat) {res : Int32 × PF × PG} (C : cMC p R s m args c A v RX5 cX5_install 6 0 0 (xn res.2.1 - xn K0)) (hret : ∀ (b1 : Nat) (H1 : Heap) (locs1 : List Loc) (ls1 : Array Slot) (pc : Nat), cMW s A v a b1 K0 res.2.1 res.2.2 H1 locs1 → decode cX5_install pc = .ok (.return_, 1) → W p l e R s m args below meth c H1 locs1 (xn res.2.1 - xn K0) (2 * (xn res.2.1 - xn K0)) Q (F0 m pc ls1 [])) (F : PF) (G : PG) (hm : cb_X5_install_121 fu F G = some res) {b : Nat} {H : Heap} {locs : List Loc} (hw : cMW s A v a b K0 F G H locs) {ls : Array Slot} (hl : lv_has ls 6 []) : W p l e R s m args below meth c H locs (xn F - xn K0) (2 * (xn F - xn K0)) Q (F0 m 121 ls []) := by
  have hx := C.1
  have hb := C.2.1
  unfold cb_X5_install_121 at hm
  obtain rfl := Option.some.inj hm
  exact hret _ _ _ _ _ hw dX5_install_121
theorem cn_X5_install_111 (fu : Nat) {res : Int32 × PF × PG} (F : PF) (G : PG) (hm : cb_X5_install_111 fu F G = some res) : xn F ≤ xn res.2.1 := by
  unfold cb_X5_install_111 at hm
  exact Nat.le_trans (Nat.le_of_eq (xn_fup (by decide)).symm) (cn_X5_install_121 fu (fup F 41 ((F 41) + (1 : Int32))) G hm)
theorem cw_X5_install_111 (fu : Nat) {res : Int32 × PF × PG} (C : cMC p R s m args c A v RX5 cX5_install 6 0 0 (xn res.2.1 - xn K0)) (hret : ∀ (b1 : Nat) (H1 : Heap) (locs1 : List Loc) (ls1 : Array Slot) (pc : Nat), cMW s A v a b1 K0 res.2.1 res.2.2 H1 locs1 → decode cX5_install pc = .ok (.return_, 1) → W p l e R s m args below meth c H1 locs1 (xn res.2.1 - xn K0) (2 * (xn res.2.1 - xn K0)) Q (F0 m pc ls1 [])) (F : PF) (G : PG) (hm : cb_X5_install_111 fu F G = some res) {b : Nat} {H : Heap} {locs : List Loc} (hw : cMW s A v a b K0 F G H locs) {ls : Array Slot} (hl : lv_has ls 6 [(0, .ref (a 205))]) : W p l e R s m args below meth c H locs (xn F - xn K0) (2 * (xn F - xn K0)) Q (F0 m 111 ls []) := by
  have hx := C.1
  have hb := C.2.1
  unfold cb_X5_install_111 at hm
  refine lv_aload_n hx hb dX5_install_111 rfl (lv_at hl 0 rfl) ?_
  refine lv_dup hx hb dX5_install_112 rfl ?_
  refine cg_X5_40 C hw dX5_install_113 ?_
  refine lv_iconst (v := 1) hx hb dX5_install_116 (by decide) ?_
  refine lv_iadd hx hb dX5_install_117 ?_
  refine cp_X5_40 C hw dX5_install_118 (fun H locs hw => ?_)
  exact cw_X5_install_121 fu C hret (fup F 41 ((F 41) + (1 : Int32))) G hm hw (lv_sub hl [] rfl)
theorem cn_X5_install_101 (fu : Nat) {res : Int32 × PF × PG} (x1 : Int32) (F : PF) (G : PG) (hm : cb_X5_install_101 fu x1 F G = some res) : xn F ≤ xn res.2.1 := by
  unfold cb_X5_install_101 at hm
  have hm := (ix_elim hm).2
  exact (cn_X5_install_111 fu F (gup G 40 x1.toNatClampNeg (F 41)) hm)
theorem cw_X5_install_101 (fu : Nat) {res : Int32 × PF × PG} (C : cMC p R s m args c A v RX5 cX5_install 6 0 0 (xn res.2.1 - xn K0)) (hret : ∀ (b1 : Nat) (H1 : Heap) (locs1 : List Loc) (ls1 : Array Slot) (pc : Nat), cMW s A v a b1 K0 res.2.1 res.2.2 H1 locs1 → decode cX5_install pc = .ok (.return_, 1) → W p l e R s m args below meth c H1 locs1 (xn res.2.1 - xn K0) (2 * (xn res.2.1 - xn K0)) Q (F0 m pc ls1 [])) (x1 : Int32) (F : PF) (G : PG) (hm : cb_X5_install_101 fu x1 F G = some res) {b : Nat} {H : Heap} {locs : List Loc} (hw : cMW s A v a b K0 F G H locs) {ls : Array Slot} (hl : lv_has ls 6 [(0, .ref (a 205)), (1, .int x1)]) : W p l e R s m args below meth c H locs (xn F - xn K0) (2 * (xn F - xn K0)) Q (F0 m 101 ls []) := by
  have hx := C.1
  have hb := C.2.1
  unfold cb_X5_install_101 at hm
  refine lv_aload_n hx hb dX5_install_101 rfl (lv_at hl 0 rfl) ?_
  refine cg_X5_33 C hw dX5_install_102 ?_
  refine lv_iload_n hx hb dX5_install_105 rfl (lv_at hl 1 rfl) ?_
  refine lv_aload_n hx hb dX5_install_106 rfl (lv_at hl 0 rfl) ?_
  refine cg_X5_40 C hw dX5_install_107 ?_
  obtain ⟨hi, hm⟩ := ix_elim hm
  refine cas_40 C hw hi dX5_install_110 (fun H locs hw => ?_)
  exact cw_X5_install_111 fu C hret F (gup G 40 x1.toNatClampNeg (F 41)) hm hw (lv_sub hl [0] rfl)
theorem cn_X5_install_86 (fu : Nat) {res : Int32 × PF × PG} (x1 : Int32) (F : PF) (G : PG) (hm : cb_X5_install_86 fu x1 F G = some res) : xn F ≤ xn res.2.1 := by
  unfold cb_X5_install_86 at hm
  have hm := (ix_elim hm).2
  have hm := (ix_elim hm).2
  exact (cn_X5_install_101 fu x1 F (gup G 39 (F 41).toNatClampNeg (G 40 x1.toNatClampNeg)) hm)
theorem cw_X5_install_86 (fu : Nat) {res : Int32 × PF × PG} (C : cMC p R s m args c A v RX5 cX5_install 6 0 0 (xn res.2.1 - xn K0)) (hret : ∀ (b1 : Nat) (H1 : Heap) (locs1 : List Loc) (ls1 : Array Slot) (pc : Nat), cMW s A v a b1 K0 res.2.1 res.2.2 H1 locs1 → decode cX5_install pc = .ok (.return_, 1) → W p l e R s m args below meth c H1 locs1 (xn res.2.1 - xn K0) (2 * (xn res.2.1 - xn K0)) Q (F0 m pc ls1 [])) (x1 : Int32) (F : PF) (G : PG) (hm : cb_X5_install_86 fu x1 F G = some res) {b : Nat} {H : Heap} {locs : List Loc} (hw : cMW s A v a b K0 F G H locs) {ls : Array Slot} (hl : lv_has ls 6 [(0, .ref (a 205)), (1, .int x1)]) : W p l e R s m args below meth c H locs (xn F - xn K0) (2 * (xn F - xn K0)) Q (F0 m 86 ls []) := by
  have hx := C.1
  have hb := C.2.1
  unfold cb_X5_install_86 at hm
  refine lv_aload_n hx hb dX5_install_86 rfl (lv_at hl 0 rfl) ?_
  refine cg_X5_30 C hw dX5_install_87 ?_
  refine lv_aload_n hx hb dX5_install_90 rfl (lv_at hl 0 rfl) ?_
  refine cg_X5_40 C hw dX5_install_91 ?_
  refine lv_aload_n hx hb dX5_install_94 rfl (lv_at hl 0 rfl) ?_
  refine cg_X5_33 C hw dX5_install_95 ?_
  refine lv_iload_n hx hb dX5_install_98 rfl (lv_at hl 1 rfl) ?_
  obtain ⟨hi, hm⟩ := ix_elim hm
  refine cal_40 C hw hi dX5_install_99 ?_
  obtain ⟨hi, hm⟩ := ix_elim hm
  refine cas_39 C hw hi dX5_install_100 (fun H locs hw => ?_)
  exact cw_X5_install_101 fu C hret x1 F (gup G 39 (F 41).toNatClampNeg (G 40 x1.toNatClampNeg)) hm hw (lv_sub hl [0, 1] rfl)
theorem cn_X5_install_75 (fu : Nat) {res : Int32 × PF × PG} (x1 : Int32) (x5 : Int32) (F : PF) (G : PG) (hm : cb_X5_install_75 fu x1 x5 F G = some res) : xn F ≤ xn res.2.1 := by
  unfold cb_X5_install_75 at hm
  have hm := (ix_elim hm).2
  exact (cn_X5_install_86 fu x1 F (gup G 38 (F 41).toNatClampNeg x5) hm)
theorem cw_X5_install_75 (fu : Nat) {res : Int32 × PF × PG} (C : cMC p R s m args c A v RX5 cX5_install 6 0 0 (xn res.2.1 - xn K0)) (hret : ∀ (b1 : Nat) (H1 : Heap) (locs1 : List Loc) (ls1 : Array Slot) (pc : Nat), cMW s A v a b1 K0 res.2.1 res.2.2 H1 locs1 → decode cX5_install pc = .ok (.return_, 1) → W p l e R s m args below meth c H1 locs1 (xn res.2.1 - xn K0) (2 * (xn res.2.1 - xn K0)) Q (F0 m pc ls1 [])) (x1 : Int32) (x5 : Int32) (F : PF) (G : PG) (hm : cb_X5_install_75 fu x1 x5 F G = some res) {b : Nat} {H : Heap} {locs : List Loc} (hw : cMW s A v a b K0 F G H locs) {ls : Array Slot} (hl : lv_has ls 6 [(0, .ref (a 205)), (1, .int x1), (5, .int x5)]) : W p l e R s m args below meth c H locs (xn F - xn K0) (2 * (xn F - xn K0)) Q (F0 m 75 ls []) := by
  have hx := C.1
  have hb := C.2.1
  unfold cb_X5_install_75 at hm
  refine lv_aload_n hx hb dX5_install_75 rfl (lv_at hl 0 rfl) ?_
  refine cg_X5_27 C hw dX5_install_76 ?_
  refine lv_aload_n hx hb dX5_install_79 rfl (lv_at hl 0 rfl) ?_
  refine cg_X5_40 C hw dX5_install_80 ?_
  refine lv_iload hx hb dX5_install_83 (lv_at hl 2 rfl) ?_
  obtain ⟨hi, hm⟩ := ix_elim hm
  refine cas_38 C hw hi dX5_install_85 (fun H locs hw => ?_)
  exact cw_X5_install_86 fu C hret x1 F (gup G 38 (F 41).toNatClampNeg x5) hm hw (lv_sub hl [0, 1] rfl)
theorem cn_X5_install_64 (fu : Nat) {res : Int32 × PF × PG} (x1 : Int32) (x4 : Int32) (x5 : Int32) (F : PF) (G : PG) (hm : cb_X5_install_64 fu x1 x4 x5 F G = some res) : xn F ≤ xn res.2.1 := by
  unfold cb_X5_install_64 at hm
  have hm := (ix_elim hm).2
  exact (cn_X5_install_75 fu x1 x5 F (gup G 37 (F 41).toNatClampNeg x4) hm)
theorem cw_X5_install_64 (fu : Nat) {res : Int32 × PF × PG} (C : cMC p R s m args c A v RX5 cX5_install 6 0 0 (xn res.2.1 - xn K0)) (hret : ∀ (b1 : Nat) (H1 : Heap) (locs1 : List Loc) (ls1 : Array Slot) (pc : Nat), cMW s A v a b1 K0 res.2.1 res.2.2 H1 locs1 → decode cX5_install pc = .ok (.return_, 1) → W p l e R s m args below meth c H1 locs1 (xn res.2.1 - xn K0) (2 * (xn res.2.1 - xn K0)) Q (F0 m pc ls1 [])) (x1 : Int32) (x4 : Int32) (x5 : Int32) (F : PF) (G : PG) (hm : cb_X5_install_64 fu x1 x4 x5 F G = some res) {b : Nat} {H : Heap} {locs : List Loc} (hw : cMW s A v a b K0 F G H locs) {ls : Array Slot} (hl : lv_has ls 6 [(0, .ref (a 205)), (1, .int x1), (4, .int x4), (5, .int x5)]) : W p l e R s m args below meth c H locs (xn F - xn K0) (2 * (xn F - xn K0)) Q (F0 m 64 ls []) := by
  have hx := C.1
  have hb := C.2.1
  unfold cb_X5_install_64 at hm
  refine lv_aload_n hx hb dX5_install_64 rfl (lv_at hl 0 rfl) ?_
  refine cg_X5_24 C hw dX5_install_65 ?_
  refine lv_aload_n hx hb dX5_install_68 rfl (lv_at hl 0 rfl) ?_
  refine cg_X5_40 C hw dX5_install_69 ?_
  refine lv_iload hx hb dX5_install_72 (lv_at hl 2 rfl) ?_
  obtain ⟨hi, hm⟩ := ix_elim hm
  refine cas_37 C hw hi dX5_install_74 (fun H locs hw => ?_)
  exact cw_X5_install_75 fu C hret x1 x5 F (gup G 37 (F 41).toNatClampNeg x4) hm hw (lv_sub hl [0, 1, 3] rfl)
theorem cn_X5_install_54 (fu : Nat) {res : Int32 × PF × PG} (x1 : Int32) (x2 : Int32) (x4 : Int32) (x5 : Int32) (F : PF) (G : PG) (hm : cb_X5_install_54 fu x1 x2 x4 x5 F G = some res) : xn F ≤ xn res.2.1 := by
  unfold cb_X5_install_54 at hm
  have hm := (ix_elim hm).2
  exact (cn_X5_install_64 fu x1 x4 x5 F (gup G 36 (F 41).toNatClampNeg x2) hm)
theorem cw_X5_install_54 (fu : Nat) {res : Int32 × PF × PG} (C : cMC p R s m args c A v RX5 cX5_install 6 0 0 (xn res.2.1 - xn K0)) (hret : ∀ (b1 : Nat) (H1 : Heap) (locs1 : List Loc) (ls1 : Array Slot) (pc : Nat), cMW s A v a b1 K0 res.2.1 res.2.2 H1 locs1 → decode cX5_install pc = .ok (.return_, 1) → W p l e R s m args below meth c H1 locs1 (xn res.2.1 - xn K0) (2 * (xn res.2.1 - xn K0)) Q (F0 m pc ls1 [])) (x1 : Int32) (x2 : Int32) (x4 : Int32) (x5 : Int32) (F : PF) (G : PG) (hm : cb_X5_install_54 fu x1 x2 x4 x5 F G = some res) {b : Nat} {H : Heap} {locs : List Loc} (hw : cMW s A v a b K0 F G H locs) {ls : Array Slot} (hl : lv_has ls 6 [(0, .ref (a 205)), (1, .int x1), (2, .int x2), (4, .int x4), (5, .int x5)]) : W p l e R s m args below meth c H locs (xn F - xn K0) (2 * (xn F - xn K0)) Q (F0 m 54 ls []) := by
  have hx := C.1
  have hb := C.2.1
  unfold cb_X5_install_54 at hm
  refine lv_aload_n hx hb dX5_install_54 rfl (lv_at hl 0 rfl) ?_
  refine cg_X5_21 C hw dX5_install_55 ?_
  refine lv_aload_n hx hb dX5_install_58 rfl (lv_at hl 0 rfl) ?_
  refine cg_X5_40 C hw dX5_install_59 ?_
  refine lv_iload_n hx hb dX5_install_62 rfl (lv_at hl 2 rfl) ?_
  obtain ⟨hi, hm⟩ := ix_elim hm
  refine cas_36 C hw hi dX5_install_63 (fun H locs hw => ?_)
  exact cw_X5_install_64 fu C hret x1 x4 x5 F (gup G 36 (F 41).toNatClampNeg x2) hm hw (lv_sub hl [0, 1, 3, 4] rfl)
theorem cn_X5_install_44 (fu : Nat) {res : Int32 × PF × PG} (x1 : Int32) (x2 : Int32) (x3 : Int32) (x4 : Int32) (x5 : Int32) (F : PF) (G : PG) (hm : cb_X5_install_44 fu x1 x2 x3 x4 x5 F G = some res) : xn F ≤ xn res.2.1 := by
  unfold cb_X5_install_44 at hm
  have hm := (ix_elim hm).2
  exact (cn_X5_install_54 fu x1 x2 x4 x5 F (gup G 35 (F 41).toNatClampNeg x3) hm)
theorem cw_X5_install_44 (fu : Nat) {res : Int32 × PF × PG} (C : cMC p R s m args c A v RX5 cX5_install 6 0 0 (xn res.2.1 - xn K0)) (hret : ∀ (b1 : Nat) (H1 : Heap) (locs1 : List Loc) (ls1 : Array Slot) (pc : Nat), cMW s A v a b1 K0 res.2.1 res.2.2 H1 locs1 → decode cX5_install pc = .ok (.return_, 1) → W p l e R s m args below meth c H1 locs1 (xn res.2.1 - xn K0) (2 * (xn res.2.1 - xn K0)) Q (F0 m pc ls1 [])) (x1 : Int32) (x2 : Int32) (x3 : Int32) (x4 : Int32) (x5 : Int32) (F : PF) (G : PG) (hm : cb_X5_install_44 fu x1 x2 x3 x4 x5 F G = some res) {b : Nat} {H : Heap} {locs : List Loc} (hw : cMW s A v a b K0 F G H locs) {ls : Array Slot} (hl : lv_has ls 6 [(0, .ref (a 205)), (1, .int x1), (2, .int x2), (3, .int x3), (4, .int x4), (5, .int x5)]) : W p l e R s m args below meth c H locs (xn F - xn K0) (2 * (xn F - xn K0)) Q (F0 m 44 ls []) := by
  have hx := C.1
  have hb := C.2.1
  unfold cb_X5_install_44 at hm
  refine lv_aload_n hx hb dX5_install_44 rfl (lv_at hl 0 rfl) ?_
  refine cg_X5_18 C hw dX5_install_45 ?_
  refine lv_aload_n hx hb dX5_install_48 rfl (lv_at hl 0 rfl) ?_
  refine cg_X5_40 C hw dX5_install_49 ?_
  refine lv_iload_n hx hb dX5_install_52 rfl (lv_at hl 3 rfl) ?_
  obtain ⟨hi, hm⟩ := ix_elim hm
  refine cas_35 C hw hi dX5_install_53 (fun H locs hw => ?_)
  exact cw_X5_install_54 fu C hret x1 x2 x4 x5 F (gup G 35 (F 41).toNatClampNeg x3) hm hw (lv_sub hl [0, 1, 2, 4, 5] rfl)
theorem cn_X5_install_31 (fu : Nat) {res : Int32 × PF × PG} (x1 : Int32) (x2 : Int32) (x3 : Int32) (x4 : Int32) (x5 : Int32) (F : PF) (G : PG) (hm : cb_X5_install_31 fu x1 x2 x3 x4 x5 F G = some res) : xn F ≤ xn res.2.1 := by
  unfold cb_X5_install_31 at hm
  have hm := (ix_elim hm).2
  exact (cn_X5_install_44 fu x1 x2 x3 x4 x5 F (gup G 34 (F 41).toNatClampNeg (F 42)) hm)
theorem cw_X5_install_31 (fu : Nat) {res : Int32 × PF × PG} (C : cMC p R s m args c A v RX5 cX5_install 6 0 0 (xn res.2.1 - xn K0)) (hret : ∀ (b1 : Nat) (H1 : Heap) (locs1 : List Loc) (ls1 : Array Slot) (pc : Nat), cMW s A v a b1 K0 res.2.1 res.2.2 H1 locs1 → decode cX5_install pc = .ok (.return_, 1) → W p l e R s m args below meth c H1 locs1 (xn res.2.1 - xn K0) (2 * (xn res.2.1 - xn K0)) Q (F0 m pc ls1 [])) (x1 : Int32) (x2 : Int32) (x3 : Int32) (x4 : Int32) (x5 : Int32) (F : PF) (G : PG) (hm : cb_X5_install_31 fu x1 x2 x3 x4 x5 F G = some res) {b : Nat} {H : Heap} {locs : List Loc} (hw : cMW s A v a b K0 F G H locs) {ls : Array Slot} (hl : lv_has ls 6 [(0, .ref (a 205)), (1, .int x1), (2, .int x2), (3, .int x3), (4, .int x4), (5, .int x5)]) : W p l e R s m args below meth c H locs (xn F - xn K0) (2 * (xn F - xn K0)) Q (F0 m 31 ls []) := by
  have hx := C.1
  have hb := C.2.1
  unfold cb_X5_install_31 at hm
  refine lv_aload_n hx hb dX5_install_31 rfl (lv_at hl 0 rfl) ?_
  refine cg_X5_15 C hw dX5_install_32 ?_
  refine lv_aload_n hx hb dX5_install_35 rfl (lv_at hl 0 rfl) ?_
  refine cg_X5_40 C hw dX5_install_36 ?_
  refine lv_aload_n hx hb dX5_install_39 rfl (lv_at hl 0 rfl) ?_
  refine cg_X5_44 C hw dX5_install_40 ?_
  obtain ⟨hi, hm⟩ := ix_elim hm
  refine cas_34 C hw hi dX5_install_43 (fun H locs hw => ?_)
  exact cw_X5_install_44 fu C hret x1 x2 x3 x4 x5 F (gup G 34 (F 41).toNatClampNeg (F 42)) hm hw (lv_sub hl [0, 1, 2, 3, 4, 5] rfl)
theorem cn_X5_install_21 (fu : Nat) {res : Int32 × PF × PG} (x1 : Int32) (x2 : Int32) (x3 : Int32) (x4 : Int32) (x5 : Int32) (F : PF) (G : PG) (hm : cb_X5_install_21 fu x1 x2 x3 x4 x5 F G = some res) : xn F ≤ xn res.2.1 := by
  unfold cb_X5_install_21 at hm
  have hm := (ix_elim hm).2
  exact (cn_X5_install_31 fu x1 x2 x3 x4 x5 F (gup G 33 (F 41).toNatClampNeg x1) hm)
theorem cw_X5_install_21 (fu : Nat) {res : Int32 × PF × PG} (C : cMC p R s m args c A v RX5 cX5_install 6 0 0 (xn res.2.1 - xn K0)) (hret : ∀ (b1 : Nat) (H1 : Heap) (locs1 : List Loc) (ls1 : Array Slot) (pc : Nat), cMW s A v a b1 K0 res.2.1 res.2.2 H1 locs1 → decode cX5_install pc = .ok (.return_, 1) → W p l e R s m args below meth c H1 locs1 (xn res.2.1 - xn K0) (2 * (xn res.2.1 - xn K0)) Q (F0 m pc ls1 [])) (x1 : Int32) (x2 : Int32) (x3 : Int32) (x4 : Int32) (x5 : Int32) (F : PF) (G : PG) (hm : cb_X5_install_21 fu x1 x2 x3 x4 x5 F G = some res) {b : Nat} {H : Heap} {locs : List Loc} (hw : cMW s A v a b K0 F G H locs) {ls : Array Slot} (hl : lv_has ls 6 [(0, .ref (a 205)), (1, .int x1), (2, .int x2), (3, .int x3), (4, .int x4), (5, .int x5)]) : W p l e R s m args below meth c H locs (xn F - xn K0) (2 * (xn F - xn K0)) Q (F0 m 21 ls []) := by
  have hx := C.1
  have hb := C.2.1
  unfold cb_X5_install_21 at hm
  refine lv_aload_n hx hb dX5_install_21 rfl (lv_at hl 0 rfl) ?_
  refine cg_X5_11 C hw dX5_install_22 ?_
  refine lv_aload_n hx hb dX5_install_25 rfl (lv_at hl 0 rfl) ?_
  refine cg_X5_40 C hw dX5_install_26 ?_
  refine lv_iload_n hx hb dX5_install_29 rfl (lv_at hl 1 rfl) ?_
  obtain ⟨hi, hm⟩ := ix_elim hm
  refine cas_33 C hw hi dX5_install_30 (fun H locs hw => ?_)
  exact cw_X5_install_31 fu C hret x1 x2 x3 x4 x5 F (gup G 33 (F 41).toNatClampNeg x1) hm hw (lv_sub hl [0, 1, 2, 3, 4, 5] rfl)
theorem cn_X5_install_14 (fu : Nat) {res : Int32 × PF × PG} (x1 : Int32) (x2 : Int32) (x3 : Int32) (x4 : Int32) (x5 : Int32) (F : PF) (G : PG) (hm : cb_X5_install_14 fu x1 x2 x3 x4 x5 F G = some res) : xn F ≤ xn res.2.1 := by
  unfold cb_X5_install_14 at hm
  by_cases c_1 : (1408 : Int32) ≤ x1
  · have hm := (if_pos c_1).symm.trans hm
    exact (cn_X5_install_121 fu F G hm)
  · have hm := (if_neg c_1).symm.trans hm
    exact (cn_X5_install_21 fu x1 x2 x3 x4 x5 F G hm)
theorem cw_X5_install_14 (fu : Nat) {res : Int32 × PF × PG} (C : cMC p R s m args c A v RX5 cX5_install 6 0 0 (xn res.2.1 - xn K0)) (hret : ∀ (b1 : Nat) (H1 : Heap) (locs1 : List Loc) (ls1 : Array Slot) (pc : Nat), cMW s A v a b1 K0 res.2.1 res.2.2 H1 locs1 → decode cX5_install pc = .ok (.return_, 1) → W p l e R s m args below meth c H1 locs1 (xn res.2.1 - xn K0) (2 * (xn res.2.1 - xn K0)) Q (F0 m pc ls1 [])) (x1 : Int32) (x2 : Int32) (x3 : Int32) (x4 : Int32) (x5 : Int32) (F : PF) (G : PG) (hm : cb_X5_install_14 fu x1 x2 x3 x4 x5 F G = some res) {b : Nat} {H : Heap} {locs : List Loc} (hw : cMW s A v a b K0 F G H locs) {ls : Array Slot} (hl : lv_has ls 6 [(0, .ref (a 205)), (1, .int x1), (2, .int x2), (3, .int x3), (4, .int x4), (5, .int x5)]) : W p l e R s m args below meth c H locs (xn F - xn K0) (2 * (xn F - xn K0)) Q (F0 m 14 ls []) := by
  have hx := C.1
  have hb := C.2.1
  unfold cb_X5_install_14 at hm
  refine lv_iload_n hx hb dX5_install_14 rfl (lv_at hl 1 rfl) ?_
  refine lv_sipush (v := 1408) hx hb dX5_install_15 (by decide) ?_
  refine lv_icmp_ge (tgt := 121) hx hb dX5_install_18 (by decide) (fun c_1 => ?_) (fun c_1 => ?_)
  · have hm := (if_pos c_1).symm.trans hm
    exact cw_X5_install_121 fu C hret F G hm hw (lv_sub hl [] rfl)
  · have hm := (if_neg c_1).symm.trans hm
    exact cw_X5_install_21 fu C hret x1 x2 x3 x4 x5 F G hm hw (lv_sub hl [0, 1, 2, 3, 4, 5] rfl)
theorem cn_X5_install_10 (fu : Nat) {res : Int32 × PF × PG} (x1 : Int32) (x2 : Int32) (x3 : Int32) (x4 : Int32) (x5 : Int32) (F : PF) (G : PG) (hm : cb_X5_install_10 fu x1 x2 x3 x4 x5 F G = some res) : xn F ≤ xn res.2.1 := by
  unfold cb_X5_install_10 at hm
  by_cases c_1 : x1 < (0 : Int32)
  · have hm := (if_pos c_1).symm.trans hm
    exact (cn_X5_install_121 fu F G hm)
  · have hm := (if_neg c_1).symm.trans hm
    exact (cn_X5_install_14 fu x1 x2 x3 x4 x5 F G hm)
theorem cw_X5_install_10 (fu : Nat) {res : Int32 × PF × PG} (C : cMC p R s m args c A v RX5 cX5_install 6 0 0 (xn res.2.1 - xn K0)) (hret : ∀ (b1 : Nat) (H1 : Heap) (locs1 : List Loc) (ls1 : Array Slot) (pc : Nat), cMW s A v a b1 K0 res.2.1 res.2.2 H1 locs1 → decode cX5_install pc = .ok (.return_, 1) → W p l e R s m args below meth c H1 locs1 (xn res.2.1 - xn K0) (2 * (xn res.2.1 - xn K0)) Q (F0 m pc ls1 [])) (x1 : Int32) (x2 : Int32) (x3 : Int32) (x4 : Int32) (x5 : Int32) (F : PF) (G : PG) (hm : cb_X5_install_10 fu x1 x2 x3 x4 x5 F G = some res) {b : Nat} {H : Heap} {locs : List Loc} (hw : cMW s A v a b K0 F G H locs) {ls : Array Slot} (hl : lv_has ls 6 [(0, .ref (a 205)), (1, .int x1), (2, .int x2), (3, .int x3), (4, .int x4), (5, .int x5)]) : W p l e R s m args below meth c H locs (xn F - xn K0) (2 * (xn F - xn K0)) Q (F0 m 10 ls []) := by
  have hx := C.1
  have hb := C.2.1
  unfold cb_X5_install_10 at hm
  refine lv_iload_n hx hb dX5_install_10 rfl (lv_at hl 1 rfl) ?_
  refine lv_if_lt (tgt := 121) hx hb dX5_install_11 (by decide) (fun c_1 => ?_) (fun c_1 => ?_)
  · have hm := (if_pos c_1).symm.trans hm
    exact cw_X5_install_121 fu C hret F G hm hw (lv_sub hl [] rfl)
  · have hm := (if_neg c_1).symm.trans hm
    exact cw_X5_install_14 fu C hret x1 x2 x3 x4 x5 F G hm hw (lv_sub hl [0, 1, 2, 3, 4, 5] rfl)
theorem cn_X5_install_0 (fu : Nat) {res : Int32 × PF × PG} (x1 : Int32) (x2 : Int32) (x3 : Int32) (x4 : Int32) (x5 : Int32) (F : PF) (G : PG) (hm : cb_X5_install_0 fu x1 x2 x3 x4 x5 F G = some res) : xn F ≤ xn res.2.1 := by
  unfold cb_X5_install_0 at hm
  by_cases c_1 : (700 : Int32) ≤ (F 41)
  · have hm := (if_pos c_1).symm.trans hm
    exact (cn_X5_install_121 fu F G hm)
  · have hm := (if_neg c_1).symm.trans hm
    exact (cn_X5_install_10 fu x1 x2 x3 x4 x5 F G hm)
theorem cw_X5_install_0 (fu : Nat) {res : Int32 × PF × PG} (C : cMC p R s m args c A v RX5 cX5_install 6 0 0 (xn res.2.1 - xn K0)) (hret : ∀ (b1 : Nat) (H1 : Heap) (locs1 : List Loc) (ls1 : Array Slot) (pc : Nat), cMW s A v a b1 K0 res.2.1 res.2.2 H1 locs1 → decode cX5_install pc = .ok (.return_, 1) → W p l e R s m args below meth c H1 locs1 (xn res.2.1 - xn K0) (2 * (xn res.2.1 - xn K0)) Q (F0 m pc ls1 [])) (x1 : Int32) (x2 : Int32) (x3 : Int32) (x4 : Int32) (x5 : Int32) (F : PF) (G : PG) (hm : cb_X5_install_0 fu x1 x2 x3 x4 x5 F G = some res) {b : Nat} {H : Heap} {locs : List Loc} (hw : cMW s A v a b K0 F G H locs) {ls : Array Slot} (hl : lv_has ls 6 [(0, .ref (a 205)), (1, .int x1), (2, .int x2), (3, .int x3), (4, .int x4), (5, .int x5)]) : W p l e R s m args below meth c H locs (xn F - xn K0) (2 * (xn F - xn K0)) Q (F0 m 0 ls []) := by
  have hx := C.1
  have hb := C.2.1
  unfold cb_X5_install_0 at hm
  refine lv_aload_n hx hb dX5_install_0 rfl (lv_at hl 0 rfl) ?_
  refine cg_X5_40 C hw dX5_install_1 ?_
  refine lv_sipush (v := 700) hx hb dX5_install_4 (by decide) ?_
  refine lv_icmp_ge (tgt := 121) hx hb dX5_install_7 (by decide) (fun c_1 => ?_) (fun c_1 => ?_)
  · have hm := (if_pos c_1).symm.trans hm
    exact cw_X5_install_121 fu C hret F G hm hw (lv_sub hl [] rfl)
  · have hm := (if_neg c_1).symm.trans hm
    exact cw_X5_install_10 fu C hret x1 x2 x3 x4 x5 F G hm hw (lv_sub hl [0, 1, 2, 3, 4, 5] rfl)
theorem cn_X5_install (fu : Nat) (x1 : Int32) (x2 : Int32) (x3 : Int32) (x4 : Int32) (x5 : Int32) (F : PF) (G : PG) (q : Int32 × PF × PG) (hm : cf_X5_install fu x1 x2 x3 x4 x5 F G = some q) : xn F ≤ xn q.2.1 := cn_X5_install_0 fu x1 x2 x3 x4 x5 F G hm
theorem ck_X5_install (l : Launch) (v : EV) (a : Nat → Nat) (b sz : Nat) (fu : Nat) (x1 : Int32) (x2 : Int32) (x3 : Int32) (x4 : Int32) (x5 : Int32) (F : PF) (G : PG) (r : Int32) (F1 : PF) (G1 : PG) (hm : cf_X5_install fu x1 x2 x3 x4 x5 F G = some (r, F1, G1)) : cMV l yX5_install cX5_install 6 0 0 v a b sz [.ref (a 205), .int x1, .int x2, .int x3, .int x4, .int x5] F G F1 G1 := cMV.of (by decide) (Nat.le_of_ble_eq_true rfl) (fun p e R s m args below meth c Q A H locs ls C hw hl hret => cw_X5_install_0 fu (res := (r, F1, G1)) C hret x1 x2 x3 x4 x5 F G hm hw hl)
def cb_X5_tell_114 (fu : Nat) (F : PF) (G : PG) : PR := some (0, F, G)
def cb_X5_tell_103 (fu : Nat) (x1 : Int32) (x2 : Int32) (x3 : Int32) (x4 : Int32) (x5 : Int32) (F : PF) (G : PG) : PR := (cf_X5_install fu x1 x2 x3 x4 x5 F G).bind (fun q => cb_X5_tell_114 fu q.2.1 q.2.2)
def cb_X5_tell_100 (fu : Nat) (F : PF) (G : PG) : PR := cb_X5_tell_114 fu F G
def cb_X5_tell_94 (fu : Nat) (x2 : Int32) (F : PF) (G : PG) : PR := (cf_X5_note fu 1 x2 F G).bind (fun q => cb_X5_tell_100 fu q.2.1 q.2.2)
def cb_X5_tell_89 (fu : Nat) (x1 : Int32) (x2 : Int32) (x3 : Int32) (x4 : Int32) (x5 : Int32) (x8 : Int32) (F : PF) (G : PG) : PR := if x8 = (0 : Int32) then cb_X5_tell_94 fu x2 F G else cb_X5_tell_103 fu x1 x2 x3 x4 x5 F G
def cb_X5_tell_82 (fu : Nat) (x1 : Int32) (x2 : Int32) (x3 : Int32) (x4 : Int32) (x5 : Int32) (x7 : Int32) (z0 : Int32) (F : PF) (G : PG) : PR := if x7 = (0 : Int32) then cb_X5_tell_103 fu x1 x2 x3 x4 x5 F G else cb_X5_tell_89 fu x1 x2 x3 x4 x5 z0 F G
def cb_X5_tell_81 (fu : Nat) (x1 : Int32) (x2 : Int32) (x3 : Int32) (x4 : Int32) (x5 : Int32) (x7 : Int32) (F : PF) (G : PG) : PR := cb_X5_tell_82 fu x1 x2 x3 x4 x5 x7 0 F G
def cb_X5_tell_77 (fu : Nat) (x1 : Int32) (x2 : Int32) (x3 : Int32) (x4 : Int32) (x5 : Int32) (x7 : Int32) (F : PF) (G : PG) : PR := cb_X5_tell_82 fu x1 x2 x3 x4 x5 x7 1 F G
def cb_X5_tell_66 (fu : Nat) (x1 : Int32) (x2 : Int32) (x3 : Int32) (x4 : Int32) (x5 : Int32) (x6 : Int32) (x7 : Int32) (F : PF) (G : PG) : PR := if ixb x6 700 = true then (if (G 36 x6.toNatClampNeg) ≤ x2 then cb_X5_tell_81 fu x1 x2 x3 x4 x5 x7 F G else cb_X5_tell_77 fu x1 x2 x3 x4 x5 x7 F G) else none
def cb_X5_tell_55 (fu : Nat) (x1 : Int32) (x2 : Int32) (x3 : Int32) (x4 : Int32) (x5 : Int32) (x6 : Int32) (x7 : Int32) (F : PF) (G : PG) : PR := if ixb x6 700 = true then (if (G 35 x6.toNatClampNeg) = (4 : Int32) then cb_X5_tell_66 fu x1 x2 x3 x4 x5 x6 x7 F G else cb_X5_tell_81 fu x1 x2 x3 x4 x5 x7 F G) else none
def cb_X5_tell_48 (fu : Nat) (x1 : Int32) (x2 : Int32) (x3 : Int32) (x4 : Int32) (x5 : Int32) (x6 : Int32) (z0 : Int32) (F : PF) (G : PG) : PR := if z0 = (0 : Int32) then cb_X5_tell_81 fu x1 x2 x3 x4 x5 z0 F G else cb_X5_tell_55 fu x1 x2 x3 x4 x5 x6 z0 F G
def cb_X5_tell_47 (fu : Nat) (x1 : Int32) (x2 : Int32) (x3 : Int32) (x4 : Int32) (x5 : Int32) (x6 : Int32) (F : PF) (G : PG) : PR := cb_X5_tell_48 fu x1 x2 x3 x4 x5 x6 0 F G
def cb_X5_tell_43 (fu : Nat) (x1 : Int32) (x2 : Int32) (x3 : Int32) (x4 : Int32) (x5 : Int32) (x6 : Int32) (F : PF) (G : PG) : PR := cb_X5_tell_48 fu x1 x2 x3 x4 x5 x6 1 F G
def cb_X5_tell_29 (fu : Nat) (x1 : Int32) (x2 : Int32) (x3 : Int32) (x4 : Int32) (x5 : Int32) (x6 : Int32) (F : PF) (G : PG) : PR := if ixb x6 700 = true then (if (G 34 x6.toNatClampNeg) = (F 42) then cb_X5_tell_43 fu x1 x2 x3 x4 x5 x6 F G else cb_X5_tell_47 fu x1 x2 x3 x4 x5 x6 F G) else none
def cb_X5_tell_20 (fu : Nat) (x1 : Int32) (x2 : Int32) (x3 : Int32) (x4 : Int32) (x5 : Int32) (x6 : Int32) (F : PF) (G : PG) : PR := if (F 41) ≤ x6 then cb_X5_tell_47 fu x1 x2 x3 x4 x5 x6 F G else cb_X5_tell_29 fu x1 x2 x3 x4 x5 x6 F G
def cb_X5_tell_13 (fu : Nat) (x1 : Int32) (x2 : Int32) (x3 : Int32) (x4 : Int32) (x5 : Int32) (z0 : Int32) (F : PF) (G : PG) : PR := if z0 < (0 : Int32) then cb_X5_tell_47 fu x1 x2 x3 x4 x5 z0 F G else cb_X5_tell_20 fu x1 x2 x3 x4 x5 z0 F G
def cb_X5_tell_8 (fu : Nat) (x1 : Int32) (x2 : Int32) (x3 : Int32) (x4 : Int32) (x5 : Int32) (F : PF) (G : PG) : PR := (cf_X5_known fu x1 F G).bind (fun q => cb_X5_tell_13 fu x1 x2 x3 x4 x5 q.1 q.2.1 q.2.2)
def cb_X5_tell_7 (fu : Nat) (F : PF) (G : PG) : PR := some (0, F, G)
def cb_X5_tell_0 (fu : Nat) (x1 : Int32) (x2 : Int32) (x3 : Int32) (x4 : Int32) (x5 : Int32) (F : PF) (G : PG) : PR := if (F 45) = (0 : Int32) then cb_X5_tell_7 fu F G else cb_X5_tell_8 fu x1 x2 x3 x4 x5 F G
def cf_X5_tell (fu : Nat) (x1 : Int32) (x2 : Int32) (x3 : Int32) (x4 : Int32) (x5 : Int32) (F : PF) (G : PG) : PR := cb_X5_tell_0 fu x1 x2 x3 x4 x5 F G
theorem cn_X5_tell_114 (fu : Nat) {res : Int32 × PF × PG} (F : PF) (G : PG) (hm : cb_X5_tell_114 fu F G = some res) : xn F ≤ xn res.2.1 := by
  unfold cb_X5_tell_114 at hm
  obtain rfl := Option.some.inj hm
  exact Nat.le_refl _
theorem cw_X5_tell_114 (fu : Nat) {res : Int32 × PF × PG} (C : cMC p R s m args c A v RX5 cX5_tell 9 1 25 (xn res.2.1 - xn K0)) (hret : ∀ (b1 : Nat) (H1 : Heap) (locs1 : List Loc) (ls1 : Array Slot) (pc : Nat), cMW s A v a b1 K0 res.2.1 res.2.2 H1 locs1 → decode cX5_tell pc = .ok (.return_, 1) → W p l e R s m args below meth c H1 locs1 (xn res.2.1 - xn K0) (2 * (xn res.2.1 - xn K0)) Q (F0 m pc ls1 [])) (F : PF) (G : PG) (hm : cb_X5_tell_114 fu F G = some res) {b : Nat} {H : Heap} {locs : List Loc} (hw : cMW s A v a b K0 F G H locs) {ls : Array Slot} (hl : lv_has ls 9 []) : W p l e R s m args below meth c H locs (xn F - xn K0) (2 * (xn F - xn K0)) Q (F0 m 114 ls []) := by
  have hx := C.1
  have hb := C.2.1
  unfold cb_X5_tell_114 at hm
  obtain rfl := Option.some.inj hm
  exact hret _ _ _ _ _ hw dX5_tell_114
theorem cn_X5_tell_103 (fu : Nat) {res : Int32 × PF × PG} (x1 : Int32) (x2 : Int32) (x3 : Int32) (x4 : Int32) (x5 : Int32) (F : PF) (G : PG) (hm : cb_X5_tell_103 fu x1 x2 x3 x4 x5 F G = some res) : xn F ≤ xn res.2.1 := by
  unfold cb_X5_tell_103 at hm
  obtain ⟨⟨r1, F1, G1⟩, hc, hm⟩ := bind_elim hm
  exact Nat.le_trans (cn_X5_install fu x1 x2 x3 x4 x5 F G _ hc) (cn_X5_tell_114 fu F1 G1 hm)
theorem cw_X5_tell_103 (fu : Nat) {res : Int32 × PF × PG} (C : cMC p R s m args c A v RX5 cX5_tell 9 1 25 (xn res.2.1 - xn K0)) (hret : ∀ (b1 : Nat) (H1 : Heap) (locs1 : List Loc) (ls1 : Array Slot) (pc : Nat), cMW s A v a b1 K0 res.2.1 res.2.2 H1 locs1 → decode cX5_tell pc = .ok (.return_, 1) → W p l e R s m args below meth c H1 locs1 (xn res.2.1 - xn K0) (2 * (xn res.2.1 - xn K0)) Q (F0 m pc ls1 [])) (x1 : Int32) (x2 : Int32) (x3 : Int32) (x4 : Int32) (x5 : Int32) (F : PF) (G : PG) (hm : cb_X5_tell_103 fu x1 x2 x3 x4 x5 F G = some res) {b : Nat} {H : Heap} {locs : List Loc} (hw : cMW s A v a b K0 F G H locs) {ls : Array Slot} (hl : lv_has ls 9 [(0, .ref (a 205)), (1, .int x1), (2, .int x2), (3, .int x3), (4, .int x4), (5, .int x5)]) : W p l e R s m args below meth c H locs (xn F - xn K0) (2 * (xn F - xn K0)) Q (F0 m 103 ls []) := by
  have hx := C.1
  have hb := C.2.1
  unfold cb_X5_tell_103 at hm
  refine lv_aload_n hx hb dX5_tell_103 rfl (lv_at hl 0 rfl) ?_
  refine lv_iload_n hx hb dX5_tell_104 rfl (lv_at hl 1 rfl) ?_
  refine lv_iload_n hx hb dX5_tell_105 rfl (lv_at hl 2 rfl) ?_
  refine lv_iload_n hx hb dX5_tell_106 rfl (lv_at hl 3 rfl) ?_
  refine lv_iload hx hb dX5_tell_107 (lv_at hl 4 rfl) ?_
  refine lv_iload hx hb dX5_tell_109 (lv_at hl 5 rfl) ?_
  obtain ⟨⟨r1, F1, G1⟩, hc, hm⟩ := bind_elim hm
  refine ccallV (n := 5) (As := [.int x1, .int x2, .int x3, .int x4, .int x5]) (rest := []) C hw (ck_X5_install l v a _ _ fu x1 x2 x3 x4 x5 F G r1 F1 G1 hc) (cn_X5_install fu x1 x2 x3 x4 x5 F G _ hc) (Nat.sub_le_sub_right (cn_X5_tell_114 fu F1 G1 hm) _) (crecv_X5 C hw) cm_579 cm_580 cm_581 cm_266 cm_582 (by decide +kernel) rfl (by omega) (by omega) hl.1 rfl (Nat.le_of_ble_eq_true rfl) dX5_tell_111 (fun b H locs hw => ?_)
  exact cw_X5_tell_114 fu C hret F1 G1 hm hw (lv_sub hl [] rfl)
theorem cn_X5_tell_100 (fu : Nat) {res : Int32 × PF × PG} (F : PF) (G : PG) (hm : cb_X5_tell_100 fu F G = some res) : xn F ≤ xn res.2.1 := by
  unfold cb_X5_tell_100 at hm
  exact (cn_X5_tell_114 fu F G hm)
theorem cw_X5_tell_100 (fu : Nat) {res : Int32 × PF × PG} (C : cMC p R s m args c A v RX5 cX5_tell 9 1 25 (xn res.2.1 - xn K0)) (hret : ∀ (b1 : Nat) (H1 : Heap) (locs1 : List Loc) (ls1 : Array Slot) (pc : Nat), cMW s A v a b1 K0 res.2.1 res.2.2 H1 locs1 → decode cX5_tell pc = .ok (.return_, 1) → W p l e R s m args below meth c H1 locs1 (xn res.2.1 - xn K0) (2 * (xn res.2.1 - xn K0)) Q (F0 m pc ls1 [])) (F : PF) (G : PG) (hm : cb_X5_tell_100 fu F G = some res) {b : Nat} {H : Heap} {locs : List Loc} (hw : cMW s A v a b K0 F G H locs) {ls : Array Slot} (hl : lv_has ls 9 []) : W p l e R s m args below meth c H locs (xn F - xn K0) (2 * (xn F - xn K0)) Q (F0 m 100 ls []) := by
  have hx := C.1
  have hb := C.2.1
  unfold cb_X5_tell_100 at hm
  refine lv_goto (tgt := 114) hx hb dX5_tell_100 (by decide) ?_
  exact cw_X5_tell_114 fu C hret F G hm hw (lv_sub hl [] rfl)
theorem cn_X5_tell_94 (fu : Nat) {res : Int32 × PF × PG} (x2 : Int32) (F : PF) (G : PG) (hm : cb_X5_tell_94 fu x2 F G = some res) : xn F ≤ xn res.2.1 := by
  unfold cb_X5_tell_94 at hm
  obtain ⟨⟨r1, F1, G1⟩, hc, hm⟩ := bind_elim hm
  exact Nat.le_trans (cn_X5_note fu 1 x2 F G _ hc) (cn_X5_tell_100 fu F1 G1 hm)
theorem cw_X5_tell_94 (fu : Nat) {res : Int32 × PF × PG} (C : cMC p R s m args c A v RX5 cX5_tell 9 1 25 (xn res.2.1 - xn K0)) (hret : ∀ (b1 : Nat) (H1 : Heap) (locs1 : List Loc) (ls1 : Array Slot) (pc : Nat), cMW s A v a b1 K0 res.2.1 res.2.2 H1 locs1 → decode cX5_tell pc = .ok (.return_, 1) → W p l e R s m args below meth c H1 locs1 (xn res.2.1 - xn K0) (2 * (xn res.2.1 - xn K0)) Q (F0 m pc ls1 [])) (x2 : Int32) (F : PF) (G : PG) (hm : cb_X5_tell_94 fu x2 F G = some res) {b : Nat} {H : Heap} {locs : List Loc} (hw : cMW s A v a b K0 F G H locs) {ls : Array Slot} (hl : lv_has ls 9 [(0, .ref (a 205)), (2, .int x2)]) : W p l e R s m args below meth c H locs (xn F - xn K0) (2 * (xn F - xn K0)) Q (F0 m 94 ls []) := by
  have hx := C.1
  have hb := C.2.1
  unfold cb_X5_tell_94 at hm
  refine lv_aload_n hx hb dX5_tell_94 rfl (lv_at hl 0 rfl) ?_
  refine lv_iconst (v := 1) hx hb dX5_tell_95 (by decide) ?_
  refine lv_iload_n hx hb dX5_tell_96 rfl (lv_at hl 1 rfl) ?_
  obtain ⟨⟨r1, F1, G1⟩, hc, hm⟩ := bind_elim hm
  refine ccallV (n := 2) (As := [.int 1, .int x2]) (rest := []) C hw (ck_X5_note l v a _ _ fu 1 x2 F G r1 F1 G1 hc) (cn_X5_note fu 1 x2 F G _ hc) (Nat.sub_le_sub_right (cn_X5_tell_100 fu F1 G1 hm) _) (crecv_X5 C hw) cm_424 cm_425 cm_426 cm_266 cm_427 (by decide +kernel) rfl (by omega) (by omega) hl.1 rfl (Nat.le_of_ble_eq_true rfl) dX5_tell_97 (fun b H locs hw => ?_)
  exact cw_X5_tell_100 fu C hret F1 G1 hm hw (lv_sub hl [] rfl)
theorem cn_X5_tell_89 (fu : Nat) {res : Int32 × PF × PG} (x1 : Int32) (x2 : Int32) (x3 : Int32) (x4 : Int32) (x5 : Int32) (x8 : Int32) (F : PF) (G : PG) (hm : cb_X5_tell_89 fu x1 x2 x3 x4 x5 x8 F G = some res) : xn F ≤ xn res.2.1 := by
  unfold cb_X5_tell_89 at hm
  by_cases c_1 : x8 = (0 : Int32)
  · have hm := (if_pos c_1).symm.trans hm
    exact (cn_X5_tell_94 fu x2 F G hm)
  · have hm := (if_neg c_1).symm.trans hm
    exact (cn_X5_tell_103 fu x1 x2 x3 x4 x5 F G hm)
theorem cw_X5_tell_89 (fu : Nat) {res : Int32 × PF × PG} (C : cMC p R s m args c A v RX5 cX5_tell 9 1 25 (xn res.2.1 - xn K0)) (hret : ∀ (b1 : Nat) (H1 : Heap) (locs1 : List Loc) (ls1 : Array Slot) (pc : Nat), cMW s A v a b1 K0 res.2.1 res.2.2 H1 locs1 → decode cX5_tell pc = .ok (.return_, 1) → W p l e R s m args below meth c H1 locs1 (xn res.2.1 - xn K0) (2 * (xn res.2.1 - xn K0)) Q (F0 m pc ls1 [])) (x1 : Int32) (x2 : Int32) (x3 : Int32) (x4 : Int32) (x5 : Int32) (x8 : Int32) (F : PF) (G : PG) (hm : cb_X5_tell_89 fu x1 x2 x3 x4 x5 x8 F G = some res) {b : Nat} {H : Heap} {locs : List Loc} (hw : cMW s A v a b K0 F G H locs) {ls : Array Slot} (hl : lv_has ls 9 [(0, .ref (a 205)), (1, .int x1), (2, .int x2), (3, .int x3), (4, .int x4), (5, .int x5), (8, .int x8)]) : W p l e R s m args below meth c H locs (xn F - xn K0) (2 * (xn F - xn K0)) Q (F0 m 89 ls []) := by
  have hx := C.1
  have hb := C.2.1
  unfold cb_X5_tell_89 at hm
  refine lv_iload hx hb dX5_tell_89 (lv_at hl 6 rfl) ?_
  refine lv_if_ne (tgt := 103) hx hb dX5_tell_91 (by decide) (fun c_1 => ?_) (fun c_1 => ?_)
  · have hm := (if_neg c_1).symm.trans hm
    exact cw_X5_tell_103 fu C hret x1 x2 x3 x4 x5 F G hm hw (lv_sub hl [0, 1, 2, 3, 4, 5] rfl)
  · have hm := (if_pos c_1).symm.trans hm
    exact cw_X5_tell_94 fu C hret x2 F G hm hw (lv_sub hl [0, 2] rfl)
theorem cn_X5_tell_82 (fu : Nat) {res : Int32 × PF × PG} (x1 : Int32) (x2 : Int32) (x3 : Int32) (x4 : Int32) (x5 : Int32) (x7 : Int32) (z0 : Int32) (F : PF) (G : PG) (hm : cb_X5_tell_82 fu x1 x2 x3 x4 x5 x7 z0 F G = some res) : xn F ≤ xn res.2.1 := by
  unfold cb_X5_tell_82 at hm
  by_cases c_1 : x7 = (0 : Int32)
  · have hm := (if_pos c_1).symm.trans hm
    exact (cn_X5_tell_103 fu x1 x2 x3 x4 x5 F G hm)
  · have hm := (if_neg c_1).symm.trans hm
    exact (cn_X5_tell_89 fu x1 x2 x3 x4 x5 z0 F G hm)
theorem cw_X5_tell_82 (fu : Nat) {res : Int32 × PF × PG} (C : cMC p R s m args c A v RX5 cX5_tell 9 1 25 (xn res.2.1 - xn K0)) (hret : ∀ (b1 : Nat) (H1 : Heap) (locs1 : List Loc) (ls1 : Array Slot) (pc : Nat), cMW s A v a b1 K0 res.2.1 res.2.2 H1 locs1 → decode cX5_tell pc = .ok (.return_, 1) → W p l e R s m args below meth c H1 locs1 (xn res.2.1 - xn K0) (2 * (xn res.2.1 - xn K0)) Q (F0 m pc ls1 [])) (x1 : Int32) (x2 : Int32) (x3 : Int32) (x4 : Int32) (x5 : Int32) (x7 : Int32) (z0 : Int32) (F : PF) (G : PG) (hm : cb_X5_tell_82 fu x1 x2 x3 x4 x5 x7 z0 F G = some res) {b : Nat} {H : Heap} {locs : List Loc} (hw : cMW s A v a b K0 F G H locs) {ls : Array Slot} (hl : lv_has ls 9 [(0, .ref (a 205)), (1, .int x1), (2, .int x2), (3, .int x3), (4, .int x4), (5, .int x5), (7, .int x7)]) : W p l e R s m args below meth c H locs (xn F - xn K0) (2 * (xn F - xn K0)) Q (F0 m 82 ls [.int z0]) := by
  have hx := C.1
  have hb := C.2.1
  unfold cb_X5_tell_82 at hm
  refine lv_istore (lv' := [(8, .int z0), (0, .ref (a 205)), (1, .int x1), (2, .int x2), (3, .int x3), (4, .int x4), (5, .int x5), (7, .int x7)]) hx hb dX5_tell_82 hl (by decide) rfl (fun ls hl => ?_)
  refine lv_iload hx hb dX5_tell_84 (lv_at hl 7 rfl) ?_
  refine lv_if_eq (tgt := 103) hx hb dX5_tell_86 (by decide) (fun c_1 => ?_) (fun c_1 => ?_)
  · have hm := (if_pos c_1).symm.trans hm
    exact cw_X5_tell_103 fu C hret x1 x2 x3 x4 x5 F G hm hw (lv_sub hl [1, 2, 3, 4, 5, 6] rfl)
  · have hm := (if_neg c_1).symm.trans hm
    exact cw_X5_tell_89 fu C hret x1 x2 x3 x4 x5 z0 F G hm hw (lv_sub hl [1, 2, 3, 4, 5, 6, 0] rfl)
theorem cn_X5_tell_81 (fu : Nat) {res : Int32 × PF × PG} (x1 : Int32) (x2 : Int32) (x3 : Int32) (x4 : Int32) (x5 : Int32) (x7 : Int32) (F : PF) (G : PG) (hm : cb_X5_tell_81 fu x1 x2 x3 x4 x5 x7 F G = some res) : xn F ≤ xn res.2.1 := by
  unfold cb_X5_tell_81 at hm
  exact (cn_X5_tell_82 fu x1 x2 x3 x4 x5 x7 0 F G hm)
theorem cw_X5_tell_81 (fu : Nat) {res : Int32 × PF × PG} (C : cMC p R s m args c A v RX5 cX5_tell 9 1 25 (xn res.2.1 - xn K0)) (hret : ∀ (b1 : Nat) (H1 : Heap) (locs1 : List Loc) (ls1 : Array Slot) (pc : Nat), cMW s A v a b1 K0 res.2.1 res.2.2 H1 locs1 → decode cX5_tell pc = .ok (.return_, 1) → W p l e R s m args below meth c H1 locs1 (xn res.2.1 - xn K0) (2 * (xn res.2.1 - xn K0)) Q (F0 m pc ls1 [])) (x1 : Int32) (x2 : Int32) (x3 : Int32) (x4 : Int32) (x5 : Int32) (x7 : Int32) (F : PF) (G : PG) (hm : cb_X5_tell_81 fu x1 x2 x3 x4 x5 x7 F G = some res) {b : Nat} {H : Heap} {locs : List Loc} (hw : cMW s A v a b K0 F G H locs) {ls : Array Slot} (hl : lv_has ls 9 [(0, .ref (a 205)), (1, .int x1), (2, .int x2), (3, .int x3), (4, .int x4), (5, .int x5), (7, .int x7)]) : W p l e R s m args below meth c H locs (xn F - xn K0) (2 * (xn F - xn K0)) Q (F0 m 81 ls []) := by
  have hx := C.1
  have hb := C.2.1
  unfold cb_X5_tell_81 at hm
  refine lv_iconst (v := 0) hx hb dX5_tell_81 (by decide) ?_
  exact cw_X5_tell_82 fu C hret x1 x2 x3 x4 x5 x7 0 F G hm hw (lv_sub hl [0, 1, 2, 3, 4, 5, 6] rfl)
theorem cn_X5_tell_77 (fu : Nat) {res : Int32 × PF × PG} (x1 : Int32) (x2 : Int32) (x3 : Int32) (x4 : Int32) (x5 : Int32) (x7 : Int32) (F : PF) (G : PG) (hm : cb_X5_tell_77 fu x1 x2 x3 x4 x5 x7 F G = some res) : xn F ≤ xn res.2.1 := by
  unfold cb_X5_tell_77 at hm
  exact (cn_X5_tell_82 fu x1 x2 x3 x4 x5 x7 1 F G hm)
theorem cw_X5_tell_77 (fu : Nat) {res : Int32 × PF × PG} (C : cMC p R s m args c A v RX5 cX5_tell 9 1 25 (xn res.2.1 - xn K0)) (hret : ∀ (b1 : Nat) (H1 : Heap) (locs1 : List Loc) (ls1 : Array Slot) (pc : Nat), cMW s A v a b1 K0 res.2.1 res.2.2 H1 locs1 → decode cX5_tell pc = .ok (.return_, 1) → W p l e R s m args below meth c H1 locs1 (xn res.2.1 - xn K0) (2 * (xn res.2.1 - xn K0)) Q (F0 m pc ls1 [])) (x1 : Int32) (x2 : Int32) (x3 : Int32) (x4 : Int32) (x5 : Int32) (x7 : Int32) (F : PF) (G : PG) (hm : cb_X5_tell_77 fu x1 x2 x3 x4 x5 x7 F G = some res) {b : Nat} {H : Heap} {locs : List Loc} (hw : cMW s A v a b K0 F G H locs) {ls : Array Slot} (hl : lv_has ls 9 [(0, .ref (a 205)), (1, .int x1), (2, .int x2), (3, .int x3), (4, .int x4), (5, .int x5), (7, .int x7)]) : W p l e R s m args below meth c H locs (xn F - xn K0) (2 * (xn F - xn K0)) Q (F0 m 77 ls []) := by
  have hx := C.1
  have hb := C.2.1
  unfold cb_X5_tell_77 at hm
  refine lv_iconst (v := 1) hx hb dX5_tell_77 (by decide) ?_
  refine lv_goto (tgt := 82) hx hb dX5_tell_78 (by decide) ?_
  exact cw_X5_tell_82 fu C hret x1 x2 x3 x4 x5 x7 1 F G hm hw (lv_sub hl [0, 1, 2, 3, 4, 5, 6] rfl)
theorem cn_X5_tell_66 (fu : Nat) {res : Int32 × PF × PG} (x1 : Int32) (x2 : Int32) (x3 : Int32) (x4 : Int32) (x5 : Int32) (x6 : Int32) (x7 : Int32) (F : PF) (G : PG) (hm : cb_X5_tell_66 fu x1 x2 x3 x4 x5 x6 x7 F G = some res) : xn F ≤ xn res.2.1 := by
  unfold cb_X5_tell_66 at hm
  have hm := (ix_elim hm).2
  by_cases c_1 : (G 36 x6.toNatClampNeg) ≤ x2
  · have hm := (if_pos c_1).symm.trans hm
    exact (cn_X5_tell_81 fu x1 x2 x3 x4 x5 x7 F G hm)
  · have hm := (if_neg c_1).symm.trans hm
    exact (cn_X5_tell_77 fu x1 x2 x3 x4 x5 x7 F G hm)
theorem cw_X5_tell_66 (fu : Nat) {res : Int32 × PF × PG} (C : cMC p R s m args c A v RX5 cX5_tell 9 1 25 (xn res.2.1 - xn K0)) (hret : ∀ (b1 : Nat) (H1 : Heap) (locs1 : List Loc) (ls1 : Array Slot) (pc : Nat), cMW s A v a b1 K0 res.2.1 res.2.2 H1 locs1 → decode cX5_tell pc = .ok (.return_, 1) → W p l e R s m args below meth c H1 locs1 (xn res.2.1 - xn K0) (2 * (xn res.2.1 - xn K0)) Q (F0 m pc ls1 [])) (x1 : Int32) (x2 : Int32) (x3 : Int32) (x4 : Int32) (x5 : Int32) (x6 : Int32) (x7 : Int32) (F : PF) (G : PG) (hm : cb_X5_tell_66 fu x1 x2 x3 x4 x5 x6 x7 F G = some res) {b : Nat} {H : Heap} {locs : List Loc} (hw : cMW s A v a b K0 F G H locs) {ls : Array Slot} (hl : lv_has ls 9 [(0, .ref (a 205)), (1, .int x1), (2, .int x2), (3, .int x3), (4, .int x4), (5, .int x5), (6, .int x6), (7, .int x7)]) : W p l e R s m args below meth c H locs (xn F - xn K0) (2 * (xn F - xn K0)) Q (F0 m 66 ls []) := by
  have hx := C.1
  have hb := C.2.1
  unfold cb_X5_tell_66 at hm
  refine lv_aload_n hx hb dX5_tell_66 rfl (lv_at hl 0 rfl) ?_
  refine cg_X5_21 C hw dX5_tell_67 ?_
  refine lv_iload hx hb dX5_tell_70 (lv_at hl 6 rfl) ?_
  obtain ⟨hi, hm⟩ := ix_elim hm
  refine cal_36 C hw hi dX5_tell_72 ?_
  refine lv_iload_n hx hb dX5_tell_73 rfl (lv_at hl 2 rfl) ?_
  refine lv_icmp_le (tgt := 81) hx hb dX5_tell_74 (by decide) (fun c_1 => ?_) (fun c_1 => ?_)
  · have hm := (if_pos c_1).symm.trans hm
    exact cw_X5_tell_81 fu C hret x1 x2 x3 x4 x5 x7 F G hm hw (lv_sub hl [0, 1, 2, 3, 4, 5, 7] rfl)
  · have hm := (if_neg c_1).symm.trans hm
    exact cw_X5_tell_77 fu C hret x1 x2 x3 x4 x5 x7 F G hm hw (lv_sub hl [0, 1, 2, 3, 4, 5, 7] rfl)
theorem cn_X5_tell_55 (fu : Nat) {res : Int32 × PF × PG} (x1 : Int32) (x2 : Int32) (x3 : Int32) (x4 : Int32) (x5 : Int32) (x6 : Int32) (x7 : Int32) (F : PF) (G : PG) (hm : cb_X5_tell_55 fu x1 x2 x3 x4 x5 x6 x7 F G = some res) : xn F ≤ xn res.2.1 := by
  unfold cb_X5_tell_55 at hm
  have hm := (ix_elim hm).2
  by_cases c_1 : (G 35 x6.toNatClampNeg) = (4 : Int32)
  · have hm := (if_pos c_1).symm.trans hm
    exact (cn_X5_tell_66 fu x1 x2 x3 x4 x5 x6 x7 F G hm)
  · have hm := (if_neg c_1).symm.trans hm
    exact (cn_X5_tell_81 fu x1 x2 x3 x4 x5 x7 F G hm)
theorem cw_X5_tell_55 (fu : Nat) {res : Int32 × PF × PG} (C : cMC p R s m args c A v RX5 cX5_tell 9 1 25 (xn res.2.1 - xn K0)) (hret : ∀ (b1 : Nat) (H1 : Heap) (locs1 : List Loc) (ls1 : Array Slot) (pc : Nat), cMW s A v a b1 K0 res.2.1 res.2.2 H1 locs1 → decode cX5_tell pc = .ok (.return_, 1) → W p l e R s m args below meth c H1 locs1 (xn res.2.1 - xn K0) (2 * (xn res.2.1 - xn K0)) Q (F0 m pc ls1 [])) (x1 : Int32) (x2 : Int32) (x3 : Int32) (x4 : Int32) (x5 : Int32) (x6 : Int32) (x7 : Int32) (F : PF) (G : PG) (hm : cb_X5_tell_55 fu x1 x2 x3 x4 x5 x6 x7 F G = some res) {b : Nat} {H : Heap} {locs : List Loc} (hw : cMW s A v a b K0 F G H locs) {ls : Array Slot} (hl : lv_has ls 9 [(0, .ref (a 205)), (1, .int x1), (2, .int x2), (3, .int x3), (4, .int x4), (5, .int x5), (6, .int x6), (7, .int x7)]) : W p l e R s m args below meth c H locs (xn F - xn K0) (2 * (xn F - xn K0)) Q (F0 m 55 ls []) := by
  have hx := C.1
  have hb := C.2.1
  unfold cb_X5_tell_55 at hm
  refine lv_aload_n hx hb dX5_tell_55 rfl (lv_at hl 0 rfl) ?_
  refine cg_X5_18 C hw dX5_tell_56 ?_
  refine lv_iload hx hb dX5_tell_59 (lv_at hl 6 rfl) ?_
  obtain ⟨hi, hm⟩ := ix_elim hm
  refine cal_35 C hw hi dX5_tell_61 ?_
  refine lv_iconst (v := 4) hx hb dX5_tell_62 (by decide) ?_
  refine lv_icmp_ne (tgt := 81) hx hb dX5_tell_63 (by decide) (fun c_1 => ?_) (fun c_1 => ?_)
  · have hm := (if_neg c_1).symm.trans hm
    exact cw_X5_tell_81 fu C hret x1 x2 x3 x4 x5 x7 F G hm hw (lv_sub hl [0, 1, 2, 3, 4, 5, 7] rfl)
  · have hm := (if_pos c_1).symm.trans hm
    exact cw_X5_tell_66 fu C hret x1 x2 x3 x4 x5 x6 x7 F G hm hw (lv_sub hl [0, 1, 2, 3, 4, 5, 6, 7] rfl)
theorem cn_X5_tell_48 (fu : Nat) {res : Int32 × PF × PG} (x1 : Int32) (x2 : Int32) (x3 : Int32) (x4 : Int32) (x5 : Int32) (x6 : Int32) (z0 : Int32) (F : PF) (G : PG) (hm : cb_X5_tell_48 fu x1 x2 x3 x4 x5 x6 z0 F G = some res) : xn F ≤ xn res.2.1 := by
  unfold cb_X5_tell_48 at hm
  by_cases c_1 : z0 = (0 : Int32)
  · have hm := (if_pos c_1).symm.trans hm
    exact (cn_X5_tell_81 fu x1 x2 x3 x4 x5 z0 F G hm)
  · have hm := (if_neg c_1).symm.trans hm
    exact (cn_X5_tell_55 fu x1 x2 x3 x4 x5 x6 z0 F G hm)
theorem cw_X5_tell_48 (fu : Nat) {res : Int32 × PF × PG} (C : cMC p R s m args c A v RX5 cX5_tell 9 1 25 (xn res.2.1 - xn K0)) (hret : ∀ (b1 : Nat) (H1 : Heap) (locs1 : List Loc) (ls1 : Array Slot) (pc : Nat), cMW s A v a b1 K0 res.2.1 res.2.2 H1 locs1 → decode cX5_tell pc = .ok (.return_, 1) → W p l e R s m args below meth c H1 locs1 (xn res.2.1 - xn K0) (2 * (xn res.2.1 - xn K0)) Q (F0 m pc ls1 [])) (x1 : Int32) (x2 : Int32) (x3 : Int32) (x4 : Int32) (x5 : Int32) (x6 : Int32) (z0 : Int32) (F : PF) (G : PG) (hm : cb_X5_tell_48 fu x1 x2 x3 x4 x5 x6 z0 F G = some res) {b : Nat} {H : Heap} {locs : List Loc} (hw : cMW s A v a b K0 F G H locs) {ls : Array Slot} (hl : lv_has ls 9 [(0, .ref (a 205)), (1, .int x1), (2, .int x2), (3, .int x3), (4, .int x4), (5, .int x5), (6, .int x6)]) : W p l e R s m args below meth c H locs (xn F - xn K0) (2 * (xn F - xn K0)) Q (F0 m 48 ls [.int z0]) := by
  have hx := C.1
  have hb := C.2.1
  unfold cb_X5_tell_48 at hm
  refine lv_istore (lv' := [(7, .int z0), (0, .ref (a 205)), (1, .int x1), (2, .int x2), (3, .int x3), (4, .int x4), (5, .int x5), (6, .int x6)]) hx hb dX5_tell_48 hl (by decide) rfl (fun ls hl => ?_)
  refine lv_iload hx hb dX5_tell_50 (lv_at hl 0 rfl) ?_
  refine lv_if_eq (tgt := 81) hx hb dX5_tell_52 (by decide) (fun c_1 => ?_) (fun c_1 => ?_)
  · have hm := (if_pos c_1).symm.trans hm
    exact cw_X5_tell_81 fu C hret x1 x2 x3 x4 x5 z0 F G hm hw (lv_sub hl [1, 2, 3, 4, 5, 6, 0] rfl)
  · have hm := (if_neg c_1).symm.trans hm
    exact cw_X5_tell_55 fu C hret x1 x2 x3 x4 x5 x6 z0 F G hm hw (lv_sub hl [1, 2, 3, 4, 5, 6, 7, 0] rfl)
theorem cn_X5_tell_47 (fu : Nat) {res : Int32 × PF × PG} (x1 : Int32) (x2 : Int32) (x3 : Int32) (x4 : Int32) (x5 : Int32) (x6 : Int32) (F : PF) (G : PG) (hm : cb_X5_tell_47 fu x1 x2 x3 x4 x5 x6 F G = some res) : xn F ≤ xn res.2.1 := by
  unfold cb_X5_tell_47 at hm
  exact (cn_X5_tell_48 fu x1 x2 x3 x4 x5 x6 0 F G hm)
theorem cw_X5_tell_47 (fu : Nat) {res : Int32 × PF × PG} (C : cMC p R s m args c A v RX5 cX5_tell 9 1 25 (xn res.2.1 - xn K0)) (hret : ∀ (b1 : Nat) (H1 : Heap) (locs1 : List Loc) (ls1 : Array Slot) (pc : Nat), cMW s A v a b1 K0 res.2.1 res.2.2 H1 locs1 → decode cX5_tell pc = .ok (.return_, 1) → W p l e R s m args below meth c H1 locs1 (xn res.2.1 - xn K0) (2 * (xn res.2.1 - xn K0)) Q (F0 m pc ls1 [])) (x1 : Int32) (x2 : Int32) (x3 : Int32) (x4 : Int32) (x5 : Int32) (x6 : Int32) (F : PF) (G : PG) (hm : cb_X5_tell_47 fu x1 x2 x3 x4 x5 x6 F G = some res) {b : Nat} {H : Heap} {locs : List Loc} (hw : cMW s A v a b K0 F G H locs) {ls : Array Slot} (hl : lv_has ls 9 [(0, .ref (a 205)), (1, .int x1), (2, .int x2), (3, .int x3), (4, .int x4), (5, .int x5), (6, .int x6)]) : W p l e R s m args below meth c H locs (xn F - xn K0) (2 * (xn F - xn K0)) Q (F0 m 47 ls []) := by
  have hx := C.1
  have hb := C.2.1
  unfold cb_X5_tell_47 at hm
  refine lv_iconst (v := 0) hx hb dX5_tell_47 (by decide) ?_
  exact cw_X5_tell_48 fu C hret x1 x2 x3 x4 x5 x6 0 F G hm hw (lv_sub hl [0, 1, 2, 3, 4, 5, 6] rfl)
theorem cn_X5_tell_43 (fu : Nat) {res : Int32 × PF × PG} (x1 : Int32) (x2 : Int32) (x3 : Int32) (x4 : Int32) (x5 : Int32) (x6 : Int32) (F : PF) (G : PG) (hm : cb_X5_tell_43 fu x1 x2 x3 x4 x5 x6 F G = some res) : xn F ≤ xn res.2.1 := by
  unfold cb_X5_tell_43 at hm
  exact (cn_X5_tell_48 fu x1 x2 x3 x4 x5 x6 1 F G hm)
theorem cw_X5_tell_43 (fu : Nat) {res : Int32 × PF × PG} (C : cMC p R s m args c A v RX5 cX5_tell 9 1 25 (xn res.2.1 - xn K0)) (hret : ∀ (b1 : Nat) (H1 : Heap) (locs1 : List Loc) (ls1 : Array Slot) (pc : Nat), cMW s A v a b1 K0 res.2.1 res.2.2 H1 locs1 → decode cX5_tell pc = .ok (.return_, 1) → W p l e R s m args below meth c H1 locs1 (xn res.2.1 - xn K0) (2 * (xn res.2.1 - xn K0)) Q (F0 m pc ls1 [])) (x1 : Int32) (x2 : Int32) (x3 : Int32) (x4 : Int32) (x5 : Int32) (x6 : Int32) (F : PF) (G : PG) (hm : cb_X5_tell_43 fu x1 x2 x3 x4 x5 x6 F G = some res) {b : Nat} {H : Heap} {locs : List Loc} (hw : cMW s A v a b K0 F G H locs) {ls : Array Slot} (hl : lv_has ls 9 [(0, .ref (a 205)), (1, .int x1), (2, .int x2), (3, .int x3), (4, .int x4), (5, .int x5), (6, .int x6)]) : W p l e R s m args below meth c H locs (xn F - xn K0) (2 * (xn F - xn K0)) Q (F0 m 43 ls []) := by
  have hx := C.1
  have hb := C.2.1
  unfold cb_X5_tell_43 at hm
  refine lv_iconst (v := 1) hx hb dX5_tell_43 (by decide) ?_
  refine lv_goto (tgt := 48) hx hb dX5_tell_44 (by decide) ?_
  exact cw_X5_tell_48 fu C hret x1 x2 x3 x4 x5 x6 1 F G hm hw (lv_sub hl [0, 1, 2, 3, 4, 5, 6] rfl)
theorem cn_X5_tell_29 (fu : Nat) {res : Int32 × PF × PG} (x1 : Int32) (x2 : Int32) (x3 : Int32) (x4 : Int32) (x5 : Int32) (x6 : Int32) (F : PF) (G : PG) (hm : cb_X5_tell_29 fu x1 x2 x3 x4 x5 x6 F G = some res) : xn F ≤ xn res.2.1 := by
  unfold cb_X5_tell_29 at hm
  have hm := (ix_elim hm).2
  by_cases c_1 : (G 34 x6.toNatClampNeg) = (F 42)
  · have hm := (if_pos c_1).symm.trans hm
    exact (cn_X5_tell_43 fu x1 x2 x3 x4 x5 x6 F G hm)
  · have hm := (if_neg c_1).symm.trans hm
    exact (cn_X5_tell_47 fu x1 x2 x3 x4 x5 x6 F G hm)
theorem cw_X5_tell_29 (fu : Nat) {res : Int32 × PF × PG} (C : cMC p R s m args c A v RX5 cX5_tell 9 1 25 (xn res.2.1 - xn K0)) (hret : ∀ (b1 : Nat) (H1 : Heap) (locs1 : List Loc) (ls1 : Array Slot) (pc : Nat), cMW s A v a b1 K0 res.2.1 res.2.2 H1 locs1 → decode cX5_tell pc = .ok (.return_, 1) → W p l e R s m args below meth c H1 locs1 (xn res.2.1 - xn K0) (2 * (xn res.2.1 - xn K0)) Q (F0 m pc ls1 [])) (x1 : Int32) (x2 : Int32) (x3 : Int32) (x4 : Int32) (x5 : Int32) (x6 : Int32) (F : PF) (G : PG) (hm : cb_X5_tell_29 fu x1 x2 x3 x4 x5 x6 F G = some res) {b : Nat} {H : Heap} {locs : List Loc} (hw : cMW s A v a b K0 F G H locs) {ls : Array Slot} (hl : lv_has ls 9 [(0, .ref (a 205)), (1, .int x1), (2, .int x2), (3, .int x3), (4, .int x4), (5, .int x5), (6, .int x6)]) : W p l e R s m args below meth c H locs (xn F - xn K0) (2 * (xn F - xn K0)) Q (F0 m 29 ls []) := by
  have hx := C.1
  have hb := C.2.1
  unfold cb_X5_tell_29 at hm
  refine lv_aload_n hx hb dX5_tell_29 rfl (lv_at hl 0 rfl) ?_
  refine cg_X5_15 C hw dX5_tell_30 ?_
  refine lv_iload hx hb dX5_tell_33 (lv_at hl 6 rfl) ?_
  obtain ⟨hi, hm⟩ := ix_elim hm
  refine cal_34 C hw hi dX5_tell_35 ?_
  refine lv_aload_n hx hb dX5_tell_36 rfl (lv_at hl 0 rfl) ?_
  refine cg_X5_44 C hw dX5_tell_37 ?_
  refine lv_icmp_ne (tgt := 47) hx hb dX5_tell_40 (by decide) (fun c_1 => ?_) (fun c_1 => ?_)
  · have hm := (if_neg c_1).symm.trans hm
    exact cw_X5_tell_47 fu C hret x1 x2 x3 x4 x5 x6 F G hm hw (lv_sub hl [0, 1, 2, 3, 4, 5, 6] rfl)
  · have hm := (if_pos c_1).symm.trans hm
    exact cw_X5_tell_43 fu C hret x1 x2 x3 x4 x5 x6 F G hm hw (lv_sub hl [0, 1, 2, 3, 4, 5, 6] rfl)
theorem cn_X5_tell_20 (fu : Nat) {res : Int32 × PF × PG} (x1 : Int32) (x2 : Int32) (x3 : Int32) (x4 : Int32) (x5 : Int32) (x6 : Int32) (F : PF) (G : PG) (hm : cb_X5_tell_20 fu x1 x2 x3 x4 x5 x6 F G = some res) : xn F ≤ xn res.2.1 := by
  unfold cb_X5_tell_20 at hm
  by_cases c_1 : (F 41) ≤ x6
  · have hm := (if_pos c_1).symm.trans hm
    exact (cn_X5_tell_47 fu x1 x2 x3 x4 x5 x6 F G hm)
  · have hm := (if_neg c_1).symm.trans hm
    exact (cn_X5_tell_29 fu x1 x2 x3 x4 x5 x6 F G hm)
theorem cw_X5_tell_20 (fu : Nat) {res : Int32 × PF × PG} (C : cMC p R s m args c A v RX5 cX5_tell 9 1 25 (xn res.2.1 - xn K0)) (hret : ∀ (b1 : Nat) (H1 : Heap) (locs1 : List Loc) (ls1 : Array Slot) (pc : Nat), cMW s A v a b1 K0 res.2.1 res.2.2 H1 locs1 → decode cX5_tell pc = .ok (.return_, 1) → W p l e R s m args below meth c H1 locs1 (xn res.2.1 - xn K0) (2 * (xn res.2.1 - xn K0)) Q (F0 m pc ls1 [])) (x1 : Int32) (x2 : Int32) (x3 : Int32) (x4 : Int32) (x5 : Int32) (x6 : Int32) (F : PF) (G : PG) (hm : cb_X5_tell_20 fu x1 x2 x3 x4 x5 x6 F G = some res) {b : Nat} {H : Heap} {locs : List Loc} (hw : cMW s A v a b K0 F G H locs) {ls : Array Slot} (hl : lv_has ls 9 [(0, .ref (a 205)), (1, .int x1), (2, .int x2), (3, .int x3), (4, .int x4), (5, .int x5), (6, .int x6)]) : W p l e R s m args below meth c H locs (xn F - xn K0) (2 * (xn F - xn K0)) Q (F0 m 20 ls []) := by
  have hx := C.1
  have hb := C.2.1
  unfold cb_X5_tell_20 at hm
  refine lv_iload hx hb dX5_tell_20 (lv_at hl 6 rfl) ?_
  refine lv_aload_n hx hb dX5_tell_22 rfl (lv_at hl 0 rfl) ?_
  refine cg_X5_40 C hw dX5_tell_23 ?_
  refine lv_icmp_ge (tgt := 47) hx hb dX5_tell_26 (by decide) (fun c_1 => ?_) (fun c_1 => ?_)
  · have hm := (if_pos c_1).symm.trans hm
    exact cw_X5_tell_47 fu C hret x1 x2 x3 x4 x5 x6 F G hm hw (lv_sub hl [0, 1, 2, 3, 4, 5, 6] rfl)
  · have hm := (if_neg c_1).symm.trans hm
    exact cw_X5_tell_29 fu C hret x1 x2 x3 x4 x5 x6 F G hm hw (lv_sub hl [0, 1, 2, 3, 4, 5, 6] rfl)
theorem cn_X5_tell_13 (fu : Nat) {res : Int32 × PF × PG} (x1 : Int32) (x2 : Int32) (x3 : Int32) (x4 : Int32) (x5 : Int32) (z0 : Int32) (F : PF) (G : PG) (hm : cb_X5_tell_13 fu x1 x2 x3 x4 x5 z0 F G = some res) : xn F ≤ xn res.2.1 := by
  unfold cb_X5_tell_13 at hm
  by_cases c_1 : z0 < (0 : Int32)
  · have hm := (if_pos c_1).symm.trans hm
    exact (cn_X5_tell_47 fu x1 x2 x3 x4 x5 z0 F G hm)
  · have hm := (if_neg c_1).symm.trans hm
    exact (cn_X5_tell_20 fu x1 x2 x3 x4 x5 z0 F G hm)
theorem cw_X5_tell_13 (fu : Nat) {res : Int32 × PF × PG} (C : cMC p R s m args c A v RX5 cX5_tell 9 1 25 (xn res.2.1 - xn K0)) (hret : ∀ (b1 : Nat) (H1 : Heap) (locs1 : List Loc) (ls1 : Array Slot) (pc : Nat), cMW s A v a b1 K0 res.2.1 res.2.2 H1 locs1 → decode cX5_tell pc = .ok (.return_, 1) → W p l e R s m args below meth c H1 locs1 (xn res.2.1 - xn K0) (2 * (xn res.2.1 - xn K0)) Q (F0 m pc ls1 [])) (x1 : Int32) (x2 : Int32) (x3 : Int32) (x4 : Int32) (x5 : Int32) (z0 : Int32) (F : PF) (G : PG) (hm : cb_X5_tell_13 fu x1 x2 x3 x4 x5 z0 F G = some res) {b : Nat} {H : Heap} {locs : List Loc} (hw : cMW s A v a b K0 F G H locs) {ls : Array Slot} (hl : lv_has ls 9 [(0, .ref (a 205)), (1, .int x1), (2, .int x2), (3, .int x3), (4, .int x4), (5, .int x5)]) : W p l e R s m args below meth c H locs (xn F - xn K0) (2 * (xn F - xn K0)) Q (F0 m 13 ls [.int z0]) := by
  have hx := C.1
  have hb := C.2.1
  unfold cb_X5_tell_13 at hm
  refine lv_istore (lv' := [(6, .int z0), (0, .ref (a 205)), (1, .int x1), (2, .int x2), (3, .int x3), (4, .int x4), (5, .int x5)]) hx hb dX5_tell_13 hl (by decide) rfl (fun ls hl => ?_)
  refine lv_iload hx hb dX5_tell_15 (lv_at hl 0 rfl) ?_
  refine lv_if_lt (tgt := 47) hx hb dX5_tell_17 (by decide) (fun c_1 => ?_) (fun c_1 => ?_)
  · have hm := (if_pos c_1).symm.trans hm
    exact cw_X5_tell_47 fu C hret x1 x2 x3 x4 x5 z0 F G hm hw (lv_sub hl [1, 2, 3, 4, 5, 6, 0] rfl)
  · have hm := (if_neg c_1).symm.trans hm
    exact cw_X5_tell_20 fu C hret x1 x2 x3 x4 x5 z0 F G hm hw (lv_sub hl [1, 2, 3, 4, 5, 6, 0] rfl)
theorem cn_X5_tell_8 (fu : Nat) {res : Int32 × PF × PG} (x1 : Int32) (x2 : Int32) (x3 : Int32) (x4 : Int32) (x5 : Int32) (F : PF) (G : PG) (hm : cb_X5_tell_8 fu x1 x2 x3 x4 x5 F G = some res) : xn F ≤ xn res.2.1 := by
  unfold cb_X5_tell_8 at hm
  obtain ⟨⟨r1, F1, G1⟩, hc, hm⟩ := bind_elim hm
  exact Nat.le_trans (cn_X5_known fu x1 F G _ hc) (cn_X5_tell_13 fu x1 x2 x3 x4 x5 r1 F1 G1 hm)
theorem cw_X5_tell_8 (fu : Nat) {res : Int32 × PF × PG} (C : cMC p R s m args c A v RX5 cX5_tell 9 1 25 (xn res.2.1 - xn K0)) (hret : ∀ (b1 : Nat) (H1 : Heap) (locs1 : List Loc) (ls1 : Array Slot) (pc : Nat), cMW s A v a b1 K0 res.2.1 res.2.2 H1 locs1 → decode cX5_tell pc = .ok (.return_, 1) → W p l e R s m args below meth c H1 locs1 (xn res.2.1 - xn K0) (2 * (xn res.2.1 - xn K0)) Q (F0 m pc ls1 [])) (x1 : Int32) (x2 : Int32) (x3 : Int32) (x4 : Int32) (x5 : Int32) (F : PF) (G : PG) (hm : cb_X5_tell_8 fu x1 x2 x3 x4 x5 F G = some res) {b : Nat} {H : Heap} {locs : List Loc} (hw : cMW s A v a b K0 F G H locs) {ls : Array Slot} (hl : lv_has ls 9 [(0, .ref (a 205)), (1, .int x1), (2, .int x2), (3, .int x3), (4, .int x4), (5, .int x5)]) : W p l e R s m args below meth c H locs (xn F - xn K0) (2 * (xn F - xn K0)) Q (F0 m 8 ls []) := by
  have hx := C.1
  have hb := C.2.1
  unfold cb_X5_tell_8 at hm
  refine lv_aload_n hx hb dX5_tell_8 rfl (lv_at hl 0 rfl) ?_
  refine lv_iload_n hx hb dX5_tell_9 rfl (lv_at hl 1 rfl) ?_
  obtain ⟨⟨r1, F1, G1⟩, hc, hm⟩ := bind_elim hm
  refine ccallI (n := 1) (As := [.int x1]) (rest := []) C hw (ck_X5_known l v a _ _ fu x1 F G r1 F1 G1 hc) (cn_X5_known fu x1 F G _ hc) (Nat.sub_le_sub_right (cn_X5_tell_13 fu x1 x2 x3 x4 x5 r1 F1 G1 hm) _) (crecv_X5 C hw) cm_420 cm_421 cm_422 cm_266 cm_423 (by decide +kernel) rfl (by omega) (by omega) hl.1 rfl (Nat.le_of_ble_eq_true rfl) dX5_tell_10 (fun b H locs hw => ?_)
  exact cw_X5_tell_13 fu C hret x1 x2 x3 x4 x5 r1 F1 G1 hm hw (lv_sub hl [0, 1, 2, 3, 4, 5] rfl)
theorem cn_X5_tell_7 (fu : Nat) {res : Int32 × PF × PG} (F : PF) (G : PG) (hm : cb_X5_tell_7 fu F G = some res) : xn F ≤ xn res.2.1 := by
  unfold cb_X5_tell_7 at hm
  obtain rfl := Option.some.inj hm
  exact Nat.le_refl _
theorem cw_X5_tell_7 (fu : Nat) {res : Int32 × PF × PG} (C : cMC p R s m args c A v RX5 cX5_tell 9 1 25 (xn res.2.1 - xn K0)) (hret : ∀ (b1 : Nat) (H1 : Heap) (locs1 : List Loc) (ls1 : Array Slot) (pc : Nat), cMW s A v a b1 K0 res.2.1 res.2.2 H1 locs1 → decode cX5_tell pc = .ok (.return_, 1) → W p l e R s m args below meth c H1 locs1 (xn res.2.1 - xn K0) (2 * (xn res.2.1 - xn K0)) Q (F0 m pc ls1 [])) (F : PF) (G : PG) (hm : cb_X5_tell_7 fu F G = some res) {b : Nat} {H : Heap} {locs : List Loc} (hw : cMW s A v a b K0 F G H locs) {ls : Array Slot} (hl : lv_has ls 9 []) : W p l e R s m args below meth c H locs (xn F - xn K0) (2 * (xn F - xn K0)) Q (F0 m 7 ls []) := by
  have hx := C.1
  have hb := C.2.1
  unfold cb_X5_tell_7 at hm
  obtain rfl := Option.some.inj hm
  exact hret _ _ _ _ _ hw dX5_tell_7
theorem cn_X5_tell_0 (fu : Nat) {res : Int32 × PF × PG} (x1 : Int32) (x2 : Int32) (x3 : Int32) (x4 : Int32) (x5 : Int32) (F : PF) (G : PG) (hm : cb_X5_tell_0 fu x1 x2 x3 x4 x5 F G = some res) : xn F ≤ xn res.2.1 := by
  unfold cb_X5_tell_0 at hm
  by_cases c_1 : (F 45) = (0 : Int32)
  · have hm := (if_pos c_1).symm.trans hm
    exact (cn_X5_tell_7 fu F G hm)
  · have hm := (if_neg c_1).symm.trans hm
    exact (cn_X5_tell_8 fu x1 x2 x3 x4 x5 F G hm)
theorem cw_X5_tell_0 (fu : Nat) {res : Int32 × PF × PG} (C : cMC p R s m args c A v RX5 cX5_tell 9 1 25 (xn res.2.1 - xn K0)) (hret : ∀ (b1 : Nat) (H1 : Heap) (locs1 : List Loc) (ls1 : Array Slot) (pc : Nat), cMW s A v a b1 K0 res.2.1 res.2.2 H1 locs1 → decode cX5_tell pc = .ok (.return_, 1) → W p l e R s m args below meth c H1 locs1 (xn res.2.1 - xn K0) (2 * (xn res.2.1 - xn K0)) Q (F0 m pc ls1 [])) (x1 : Int32) (x2 : Int32) (x3 : Int32) (x4 : Int32) (x5 : Int32) (F : PF) (G : PG) (hm : cb_X5_tell_0 fu x1 x2 x3 x4 x5 F G = some res) {b : Nat} {H : Heap} {locs : List Loc} (hw : cMW s A v a b K0 F G H locs) {ls : Array Slot} (hl : lv_has ls 9 [(0, .ref (a 205)), (1, .int x1), (2, .int x2), (3, .int x3), (4, .int x4), (5, .int x5)]) : W p l e R s m args below meth c H locs (xn F - xn K0) (2 * (xn F - xn K0)) Q (F0 m 0 ls []) := by
  have hx := C.1
  have hb := C.2.1
  unfold cb_X5_tell_0 at hm
  refine lv_aload_n hx hb dX5_tell_0 rfl (lv_at hl 0 rfl) ?_
  refine cg_X5_53 C hw dX5_tell_1 ?_
  refine lv_if_ne (tgt := 8) hx hb dX5_tell_4 (by decide) (fun c_1 => ?_) (fun c_1 => ?_)
  · have hm := (if_neg c_1).symm.trans hm
    exact cw_X5_tell_8 fu C hret x1 x2 x3 x4 x5 F G hm hw (lv_sub hl [0, 1, 2, 3, 4, 5] rfl)
  · have hm := (if_pos c_1).symm.trans hm
    exact cw_X5_tell_7 fu C hret F G hm hw (lv_sub hl [] rfl)
theorem cn_X5_tell (fu : Nat) (x1 : Int32) (x2 : Int32) (x3 : Int32) (x4 : Int32) (x5 : Int32) (F : PF) (G : PG) (q : Int32 × PF × PG) (hm : cf_X5_tell fu x1 x2 x3 x4 x5 F G = some q) : xn F ≤ xn q.2.1 := cn_X5_tell_0 fu x1 x2 x3 x4 x5 F G hm
theorem ck_X5_tell (l : Launch) (v : EV) (a : Nat → Nat) (b sz : Nat) (fu : Nat) (x1 : Int32) (x2 : Int32) (x3 : Int32) (x4 : Int32) (x5 : Int32) (F : PF) (G : PG) (r : Int32) (F1 : PF) (G1 : PG) (hm : cf_X5_tell fu x1 x2 x3 x4 x5 F G = some (r, F1, G1)) : cMV l yX5_tell cX5_tell 9 1 25 v a b sz [.ref (a 205), .int x1, .int x2, .int x3, .int x4, .int x5] F G F1 G1 := cMV.of (by decide) (Nat.le_of_ble_eq_true rfl) (fun p e R s m args below meth c Q A H locs ls C hw hl hret => cw_X5_tell_0 fu (res := (r, F1, G1)) C hret x1 x2 x3 x4 x5 F G hm hw hl)
def cb_X5_tellFormal_35 (fu : Nat) (F : PF) (G : PG) : PR := some (0, F, G)
def cb_X5_tellFormal_25 (fu : Nat) (x1 : Int32) (x2 : Int32) (x3 : Int32) (x4 : Int32) (F : PF) (G : PG) : PR := (cf_X5_tell fu x1 x2 x3 x4 0 F G).bind (fun q => cb_X5_tellFormal_35 fu q.2.1 q.2.2)
def cb_X5_tellFormal_21 (fu : Nat) (x1 : Int32) (x2 : Int32) (x3 : Int32) (x4 : Int32) (z0 : Int32) (z1 : Int32) (F : PF) (G : PG) : PR := cb_X5_tellFormal_25 fu x1 x2 x3 x4 (fup F 49 (z1 + z0)) G
def cb_X5_tellFormal_20 (fu : Nat) (x1 : Int32) (x2 : Int32) (x3 : Int32) (x4 : Int32) (z0 : Int32) (F : PF) (G : PG) : PR := cb_X5_tellFormal_21 fu x1 x2 x3 x4 2 z0 F G
def cb_X5_tellFormal_16 (fu : Nat) (x1 : Int32) (x2 : Int32) (x3 : Int32) (x4 : Int32) (z0 : Int32) (F : PF) (G : PG) : PR := cb_X5_tellFormal_21 fu x1 x2 x3 x4 1 z0 F G
def cb_X5_tellFormal_4 (fu : Nat) (x1 : Int32) (x2 : Int32) (x3 : Int32) (z0 : Int32) (F : PF) (G : PG) : PR := if x3 = (1 : Int32) then cb_X5_tellFormal_16 fu x1 x2 x3 z0 (F 49) F G else cb_X5_tellFormal_20 fu x1 x2 x3 z0 (F 49) F G
def cb_X5_tellFormal_0 (fu : Nat) (x1 : Int32) (x2 : Int32) (x3 : Int32) (F : PF) (G : PG) : PR := (cf_X5_measure fu F G).bind (fun q => cb_X5_tellFormal_4 fu x1 x2 x3 q.1 q.2.1 q.2.2)
def cf_X5_tellFormal (fu : Nat) (x1 : Int32) (x2 : Int32) (x3 : Int32) (F : PF) (G : PG) : PR := cb_X5_tellFormal_0 fu x1 x2 x3 F G
theorem cn_X5_tellFormal_35 (fu : Nat) {res : Int32 × PF × PG} (F : PF) (G : PG) (hm : cb_X5_tellFormal_35 fu F G = some res) : xn F ≤ xn res.2.1 := by
  unfold cb_X5_tellFormal_35 at hm
  obtain rfl := Option.some.inj hm
  exact Nat.le_refl _
theorem cw_X5_tellFormal_35 (fu : Nat) {res : Int32 × PF × PG} (C : cMC p R s m args c A v RX5 cX5_tellFormal 5 2 53 (xn res.2.1 - xn K0)) (hret : ∀ (b1 : Nat) (H1 : Heap) (locs1 : List Loc) (ls1 : Array Slot) (pc : Nat), cMW s A v a b1 K0 res.2.1 res.2.2 H1 locs1 → decode cX5_tellFormal pc = .ok (.return_, 1) → W p l e R s m args below meth c H1 locs1 (xn res.2.1 - xn K0) (2 * (xn res.2.1 - xn K0)) Q (F0 m pc ls1 [])) (F : PF) (G : PG) (hm : cb_X5_tellFormal_35 fu F G = some res) {b : Nat} {H : Heap} {locs : List Loc} (hw : cMW s A v a b K0 F G H locs) {ls : Array Slot} (hl : lv_has ls 5 []) : W p l e R s m args below meth c H locs (xn F - xn K0) (2 * (xn F - xn K0)) Q (F0 m 35 ls []) := by
  have hx := C.1
  have hb := C.2.1
  unfold cb_X5_tellFormal_35 at hm
  obtain rfl := Option.some.inj hm
  exact hret _ _ _ _ _ hw dX5_tellFormal_35
theorem cn_X5_tellFormal_25 (fu : Nat) {res : Int32 × PF × PG} (x1 : Int32) (x2 : Int32) (x3 : Int32) (x4 : Int32) (F : PF) (G : PG) (hm : cb_X5_tellFormal_25 fu x1 x2 x3 x4 F G = some res) : xn F ≤ xn res.2.1 := by
  unfold cb_X5_tellFormal_25 at hm
  obtain ⟨⟨r1, F1, G1⟩, hc, hm⟩ := bind_elim hm
  exact Nat.le_trans (cn_X5_tell fu x1 x2 x3 x4 0 F G _ hc) (cn_X5_tellFormal_35 fu F1 G1 hm)
theorem cw_X5_tellFormal_25 (fu : Nat) {res : Int32 × PF × PG} (C : cMC p R s m args c A v RX5 cX5_tellFormal 5 2 53 (xn res.2.1 - xn K0)) (hret : ∀ (b1 : Nat) (H1 : Heap) (locs1 : List Loc) (ls1 : Array Slot) (pc : Nat), cMW s A v a b1 K0 res.2.1 res.2.2 H1 locs1 → decode cX5_tellFormal pc = .ok (.return_, 1) → W p l e R s m args below meth c H1 locs1 (xn res.2.1 - xn K0) (2 * (xn res.2.1 - xn K0)) Q (F0 m pc ls1 [])) (x1 : Int32) (x2 : Int32) (x3 : Int32) (x4 : Int32) (F : PF) (G : PG) (hm : cb_X5_tellFormal_25 fu x1 x2 x3 x4 F G = some res) {b : Nat} {H : Heap} {locs : List Loc} (hw : cMW s A v a b K0 F G H locs) {ls : Array Slot} (hl : lv_has ls 5 [(0, .ref (a 205)), (1, .int x1), (2, .int x2), (3, .int x3), (4, .int x4)]) : W p l e R s m args below meth c H locs (xn F - xn K0) (2 * (xn F - xn K0)) Q (F0 m 25 ls []) := by
  have hx := C.1
  have hb := C.2.1
  unfold cb_X5_tellFormal_25 at hm
  refine lv_aload_n hx hb dX5_tellFormal_25 rfl (lv_at hl 0 rfl) ?_
  refine lv_iload_n hx hb dX5_tellFormal_26 rfl (lv_at hl 1 rfl) ?_
  refine lv_iload_n hx hb dX5_tellFormal_27 rfl (lv_at hl 2 rfl) ?_
  refine lv_iload_n hx hb dX5_tellFormal_28 rfl (lv_at hl 3 rfl) ?_
  refine lv_iload hx hb dX5_tellFormal_29 (lv_at hl 4 rfl) ?_
  refine lv_iconst (v := 0) hx hb dX5_tellFormal_31 (by decide) ?_
  obtain ⟨⟨r1, F1, G1⟩, hc, hm⟩ := bind_elim hm
  refine ccallV (n := 5) (As := [.int x1, .int x2, .int x3, .int x4, .int 0]) (rest := []) C hw (ck_X5_tell l v a _ _ fu x1 x2 x3 x4 0 F G r1 F1 G1 hc) (cn_X5_tell fu x1 x2 x3 x4 0 F G _ hc) (Nat.sub_le_sub_right (cn_X5_tellFormal_35 fu F1 G1 hm) _) (crecv_X5 C hw) cm_642 cm_575 cm_576 cm_266 cm_577 (by decide +kernel) rfl (by omega) (by omega) hl.1 rfl (Nat.le_of_ble_eq_true rfl) dX5_tellFormal_32 (fun b H locs hw => ?_)
  exact cw_X5_tellFormal_35 fu C hret F1 G1 hm hw (lv_sub hl [] rfl)
theorem cn_X5_tellFormal_21 (fu : Nat) {res : Int32 × PF × PG} (x1 : Int32) (x2 : Int32) (x3 : Int32) (x4 : Int32) (z0 : Int32) (z1 : Int32) (F : PF) (G : PG) (hm : cb_X5_tellFormal_21 fu x1 x2 x3 x4 z0 z1 F G = some res) : xn F ≤ xn res.2.1 := by
  unfold cb_X5_tellFormal_21 at hm
  exact Nat.le_trans (Nat.le_of_eq (xn_fup (by decide)).symm) (cn_X5_tellFormal_25 fu x1 x2 x3 x4 (fup F 49 (z1 + z0)) G hm)
theorem cw_X5_tellFormal_21 (fu : Nat) {res : Int32 × PF × PG} (C : cMC p R s m args c A v RX5 cX5_tellFormal 5 2 53 (xn res.2.1 - xn K0)) (hret : ∀ (b1 : Nat) (H1 : Heap) (locs1 : List Loc) (ls1 : Array Slot) (pc : Nat), cMW s A v a b1 K0 res.2.1 res.2.2 H1 locs1 → decode cX5_tellFormal pc = .ok (.return_, 1) → W p l e R s m args below meth c H1 locs1 (xn res.2.1 - xn K0) (2 * (xn res.2.1 - xn K0)) Q (F0 m pc ls1 [])) (x1 : Int32) (x2 : Int32) (x3 : Int32) (x4 : Int32) (z0 : Int32) (z1 : Int32) (F : PF) (G : PG) (hm : cb_X5_tellFormal_21 fu x1 x2 x3 x4 z0 z1 F G = some res) {b : Nat} {H : Heap} {locs : List Loc} (hw : cMW s A v a b K0 F G H locs) {ls : Array Slot} (hl : lv_has ls 5 [(0, .ref (a 205)), (1, .int x1), (2, .int x2), (3, .int x3), (4, .int x4)]) : W p l e R s m args below meth c H locs (xn F - xn K0) (2 * (xn F - xn K0)) Q (F0 m 21 ls [.int z0, .int z1, .ref (a 205)]) := by
  have hx := C.1
  have hb := C.2.1
  unfold cb_X5_tellFormal_21 at hm
  refine lv_iadd hx hb dX5_tellFormal_21 ?_
  refine cp_X5_93 C hw dX5_tellFormal_22 (fun H locs hw => ?_)
  exact cw_X5_tellFormal_25 fu C hret x1 x2 x3 x4 (fup F 49 (z1 + z0)) G hm hw (lv_sub hl [0, 1, 2, 3, 4] rfl)
theorem cn_X5_tellFormal_20 (fu : Nat) {res : Int32 × PF × PG} (x1 : Int32) (x2 : Int32) (x3 : Int32) (x4 : Int32) (z0 : Int32) (F : PF) (G : PG) (hm : cb_X5_tellFormal_20 fu x1 x2 x3 x4 z0 F G = some res) : xn F ≤ xn res.2.1 := by
  unfold cb_X5_tellFormal_20 at hm
  exact (cn_X5_tellFormal_21 fu x1 x2 x3 x4 2 z0 F G hm)
theorem cw_X5_tellFormal_20 (fu : Nat) {res : Int32 × PF × PG} (C : cMC p R s m args c A v RX5 cX5_tellFormal 5 2 53 (xn res.2.1 - xn K0)) (hret : ∀ (b1 : Nat) (H1 : Heap) (locs1 : List Loc) (ls1 : Array Slot) (pc : Nat), cMW s A v a b1 K0 res.2.1 res.2.2 H1 locs1 → decode cX5_tellFormal pc = .ok (.return_, 1) → W p l e R s m args below meth c H1 locs1 (xn res.2.1 - xn K0) (2 * (xn res.2.1 - xn K0)) Q (F0 m pc ls1 [])) (x1 : Int32) (x2 : Int32) (x3 : Int32) (x4 : Int32) (z0 : Int32) (F : PF) (G : PG) (hm : cb_X5_tellFormal_20 fu x1 x2 x3 x4 z0 F G = some res) {b : Nat} {H : Heap} {locs : List Loc} (hw : cMW s A v a b K0 F G H locs) {ls : Array Slot} (hl : lv_has ls 5 [(0, .ref (a 205)), (1, .int x1), (2, .int x2), (3, .int x3), (4, .int x4)]) : W p l e R s m args below meth c H locs (xn F - xn K0) (2 * (xn F - xn K0)) Q (F0 m 20 ls [.int z0, .ref (a 205)]) := by
  have hx := C.1
  have hb := C.2.1
  unfold cb_X5_tellFormal_20 at hm
  refine lv_iconst (v := 2) hx hb dX5_tellFormal_20 (by decide) ?_
  exact cw_X5_tellFormal_21 fu C hret x1 x2 x3 x4 2 z0 F G hm hw (lv_sub hl [0, 1, 2, 3, 4] rfl)
theorem cn_X5_tellFormal_16 (fu : Nat) {res : Int32 × PF × PG} (x1 : Int32) (x2 : Int32) (x3 : Int32) (x4 : Int32) (z0 : Int32) (F : PF) (G : PG) (hm : cb_X5_tellFormal_16 fu x1 x2 x3 x4 z0 F G = some res) : xn F ≤ xn res.2.1 := by
  unfold cb_X5_tellFormal_16 at hm
  exact (cn_X5_tellFormal_21 fu x1 x2 x3 x4 1 z0 F G hm)
theorem cw_X5_tellFormal_16 (fu : Nat) {res : Int32 × PF × PG} (C : cMC p R s m args c A v RX5 cX5_tellFormal 5 2 53 (xn res.2.1 - xn K0)) (hret : ∀ (b1 : Nat) (H1 : Heap) (locs1 : List Loc) (ls1 : Array Slot) (pc : Nat), cMW s A v a b1 K0 res.2.1 res.2.2 H1 locs1 → decode cX5_tellFormal pc = .ok (.return_, 1) → W p l e R s m args below meth c H1 locs1 (xn res.2.1 - xn K0) (2 * (xn res.2.1 - xn K0)) Q (F0 m pc ls1 [])) (x1 : Int32) (x2 : Int32) (x3 : Int32) (x4 : Int32) (z0 : Int32) (F : PF) (G : PG) (hm : cb_X5_tellFormal_16 fu x1 x2 x3 x4 z0 F G = some res) {b : Nat} {H : Heap} {locs : List Loc} (hw : cMW s A v a b K0 F G H locs) {ls : Array Slot} (hl : lv_has ls 5 [(0, .ref (a 205)), (1, .int x1), (2, .int x2), (3, .int x3), (4, .int x4)]) : W p l e R s m args below meth c H locs (xn F - xn K0) (2 * (xn F - xn K0)) Q (F0 m 16 ls [.int z0, .ref (a 205)]) := by
  have hx := C.1
  have hb := C.2.1
  unfold cb_X5_tellFormal_16 at hm
  refine lv_iconst (v := 1) hx hb dX5_tellFormal_16 (by decide) ?_
  refine lv_goto (tgt := 21) hx hb dX5_tellFormal_17 (by decide) ?_
  exact cw_X5_tellFormal_21 fu C hret x1 x2 x3 x4 1 z0 F G hm hw (lv_sub hl [0, 1, 2, 3, 4] rfl)
theorem cn_X5_tellFormal_4 (fu : Nat) {res : Int32 × PF × PG} (x1 : Int32) (x2 : Int32) (x3 : Int32) (z0 : Int32) (F : PF) (G : PG) (hm : cb_X5_tellFormal_4 fu x1 x2 x3 z0 F G = some res) : xn F ≤ xn res.2.1 := by
  unfold cb_X5_tellFormal_4 at hm
  by_cases c_1 : x3 = (1 : Int32)
  · have hm := (if_pos c_1).symm.trans hm
    exact (cn_X5_tellFormal_16 fu x1 x2 x3 z0 (F 49) F G hm)
  · have hm := (if_neg c_1).symm.trans hm
    exact (cn_X5_tellFormal_20 fu x1 x2 x3 z0 (F 49) F G hm)
theorem cw_X5_tellFormal_4 (fu : Nat) {res : Int32 × PF × PG} (C : cMC p R s m args c A v RX5 cX5_tellFormal 5 2 53 (xn res.2.1 - xn K0)) (hret : ∀ (b1 : Nat) (H1 : Heap) (locs1 : List Loc) (ls1 : Array Slot) (pc : Nat), cMW s A v a b1 K0 res.2.1 res.2.2 H1 locs1 → decode cX5_tellFormal pc = .ok (.return_, 1) → W p l e R s m args below meth c H1 locs1 (xn res.2.1 - xn K0) (2 * (xn res.2.1 - xn K0)) Q (F0 m pc ls1 [])) (x1 : Int32) (x2 : Int32) (x3 : Int32) (z0 : Int32) (F : PF) (G : PG) (hm : cb_X5_tellFormal_4 fu x1 x2 x3 z0 F G = some res) {b : Nat} {H : Heap} {locs : List Loc} (hw : cMW s A v a b K0 F G H locs) {ls : Array Slot} (hl : lv_has ls 5 [(0, .ref (a 205)), (1, .int x1), (2, .int x2), (3, .int x3)]) : W p l e R s m args below meth c H locs (xn F - xn K0) (2 * (xn F - xn K0)) Q (F0 m 4 ls [.int z0]) := by
  have hx := C.1
  have hb := C.2.1
  unfold cb_X5_tellFormal_4 at hm
  refine lv_istore (lv' := [(4, .int z0), (0, .ref (a 205)), (1, .int x1), (2, .int x2), (3, .int x3)]) hx hb dX5_tellFormal_4 hl (by decide) rfl (fun ls hl => ?_)
  refine lv_aload_n hx hb dX5_tellFormal_6 rfl (lv_at hl 1 rfl) ?_
  refine lv_dup hx hb dX5_tellFormal_7 rfl ?_
  refine cg_X5_93 C hw dX5_tellFormal_8 ?_
  refine lv_iload_n hx hb dX5_tellFormal_11 rfl (lv_at hl 4 rfl) ?_
  refine lv_iconst (v := 1) hx hb dX5_tellFormal_12 (by decide) ?_
  refine lv_icmp_ne (tgt := 20) hx hb dX5_tellFormal_13 (by decide) (fun c_1 => ?_) (fun c_1 => ?_)
  · have hm := (if_neg c_1).symm.trans hm
    exact cw_X5_tellFormal_20 fu C hret x1 x2 x3 z0 (F 49) F G hm hw (lv_sub hl [1, 2, 3, 4, 0] rfl)
  · have hm := (if_pos c_1).symm.trans hm
    exact cw_X5_tellFormal_16 fu C hret x1 x2 x3 z0 (F 49) F G hm hw (lv_sub hl [1, 2, 3, 4, 0] rfl)
theorem cn_X5_tellFormal_0 (fu : Nat) {res : Int32 × PF × PG} (x1 : Int32) (x2 : Int32) (x3 : Int32) (F : PF) (G : PG) (hm : cb_X5_tellFormal_0 fu x1 x2 x3 F G = some res) : xn F ≤ xn res.2.1 := by
  unfold cb_X5_tellFormal_0 at hm
  obtain ⟨⟨r1, F1, G1⟩, hc, hm⟩ := bind_elim hm
  exact Nat.le_trans (cn_X5_measure fu F G _ hc) (cn_X5_tellFormal_4 fu x1 x2 x3 r1 F1 G1 hm)
theorem cw_X5_tellFormal_0 (fu : Nat) {res : Int32 × PF × PG} (C : cMC p R s m args c A v RX5 cX5_tellFormal 5 2 53 (xn res.2.1 - xn K0)) (hret : ∀ (b1 : Nat) (H1 : Heap) (locs1 : List Loc) (ls1 : Array Slot) (pc : Nat), cMW s A v a b1 K0 res.2.1 res.2.2 H1 locs1 → decode cX5_tellFormal pc = .ok (.return_, 1) → W p l e R s m args below meth c H1 locs1 (xn res.2.1 - xn K0) (2 * (xn res.2.1 - xn K0)) Q (F0 m pc ls1 [])) (x1 : Int32) (x2 : Int32) (x3 : Int32) (F : PF) (G : PG) (hm : cb_X5_tellFormal_0 fu x1 x2 x3 F G = some res) {b : Nat} {H : Heap} {locs : List Loc} (hw : cMW s A v a b K0 F G H locs) {ls : Array Slot} (hl : lv_has ls 5 [(0, .ref (a 205)), (1, .int x1), (2, .int x2), (3, .int x3)]) : W p l e R s m args below meth c H locs (xn F - xn K0) (2 * (xn F - xn K0)) Q (F0 m 0 ls []) := by
  have hx := C.1
  have hb := C.2.1
  unfold cb_X5_tellFormal_0 at hm
  refine lv_aload_n hx hb dX5_tellFormal_0 rfl (lv_at hl 0 rfl) ?_
  obtain ⟨⟨r1, F1, G1⟩, hc, hm⟩ := bind_elim hm
  refine ccallI (n := 0) (As := []) (rest := []) C hw (ck_X5_measure l v a _ _ fu F G r1 F1 G1 hc) (cn_X5_measure fu F G _ hc) (Nat.sub_le_sub_right (cn_X5_tellFormal_4 fu x1 x2 x3 r1 F1 G1 hm) _) (crecv_X5 C hw) cm_638 cm_639 cm_640 cm_266 cm_641 (by decide +kernel) rfl (by omega) (by omega) hl.1 rfl (Nat.le_of_ble_eq_true rfl) dX5_tellFormal_1 (fun b H locs hw => ?_)
  exact cw_X5_tellFormal_4 fu C hret x1 x2 x3 r1 F1 G1 hm hw (lv_sub hl [0, 1, 2, 3] rfl)
theorem cn_X5_tellFormal (fu : Nat) (x1 : Int32) (x2 : Int32) (x3 : Int32) (F : PF) (G : PG) (q : Int32 × PF × PG) (hm : cf_X5_tellFormal fu x1 x2 x3 F G = some q) : xn F ≤ xn q.2.1 := cn_X5_tellFormal_0 fu x1 x2 x3 F G hm
theorem ck_X5_tellFormal (l : Launch) (v : EV) (a : Nat → Nat) (b sz : Nat) (fu : Nat) (x1 : Int32) (x2 : Int32) (x3 : Int32) (F : PF) (G : PG) (r : Int32) (F1 : PF) (G1 : PG) (hm : cf_X5_tellFormal fu x1 x2 x3 F G = some (r, F1, G1)) : cMV l yX5_tellFormal cX5_tellFormal 5 2 53 v a b sz [.ref (a 205), .int x1, .int x2, .int x3] F G F1 G1 := cMV.of (by decide) (Nat.le_of_ble_eq_true rfl) (fun p e R s m args below meth c Q A H locs ls C hw hl hret => cw_X5_tellFormal_0 fu (res := (r, F1, G1)) C hret x1 x2 x3 F G hm hw hl)
def cb_X4_formal_182 (fu : Nat) (F : PF) (G : PG) : PR := some (0, F, G)
def cb_X4_formal_171 (fu : Nat) (x5 : Int32) (F : PF) (G : PG) : PR := (cf_X5_note fu 8 x5 F G).bind (fun q => cb_X4_formal_182 fu q.2.1 q.2.2)
def cb_X4_formal_166 (fu : Nat) (x1 : Int32) (x5 : Int32) (F : PF) (G : PG) : PR := if x1 < (4 : Int32) then cb_X4_formal_182 fu F G else cb_X4_formal_171 fu x5 F G
def cb_X4_formal_153 (fu : Nat) (x1 : Int32) (x4 : Int32) (x5 : Int32) (x6 : Int32) (F : PF) (G : PG) : PR := (cf_X5_tellFormal fu x4 x5 x6 F G).bind (fun q => cb_X4_formal_166 fu x1 x5 q.2.1 q.2.2)
def cb_X4_formal_152 (fu : Nat) (F : PF) (G : PG) : PR := some (0, F, G)
def cb_X4_formal_143 (fu : Nat) (x6 : Int32) (F : PF) (G : PG) : PR := (cf_X8_addFormal fu x6 F G).bind (fun q => cb_X4_formal_152 fu q.2.1 q.2.2)
def cb_X4_formal_133 (fu : Nat) (x1 : Int32) (x4 : Int32) (x5 : Int32) (x6 : Int32) (F : PF) (G : PG) : PR := if (F 45) = (0 : Int32) then cb_X4_formal_143 fu x6 F G else cb_X4_formal_153 fu x1 x4 x5 x6 F G
def cb_X4_formal_124 (fu : Nat) (x1 : Int32) (x4 : Int32) (x5 : Int32) (x6 : Int32) (F : PF) (G : PG) : PR := (cf_X2_closesWith fu 22 F G).bind (fun q => cb_X4_formal_133 fu x1 x4 x5 x6 q.2.1 q.2.2)
def cb_X4_formal_121 (fu : Nat) (x1 : Int32) (x4 : Int32) (x5 : Int32) (x6 : Int32) (z0 : Int32) (F : PF) (G : PG) : PR := if z0 = (0 : Int32) then cb_X4_formal_133 fu x1 x4 x5 x6 F G else cb_X4_formal_124 fu x1 x4 x5 x6 F G
def cb_X4_formal_110 (fu : Nat) (x1 : Int32) (x4 : Int32) (x5 : Int32) (z0 : Int32) (F : PF) (G : PG) : PR := (cf_X2_opens fu 21 F G).bind (fun q => cb_X4_formal_121 fu x1 x4 x5 z0 q.1 q.2.1 q.2.2)
def cb_X4_formal_109 (fu : Nat) (x1 : Int32) (x4 : Int32) (x5 : Int32) (F : PF) (G : PG) : PR := cb_X4_formal_110 fu x1 x4 x5 3 F G
def cb_X4_formal_105 (fu : Nat) (x1 : Int32) (x4 : Int32) (x5 : Int32) (F : PF) (G : PG) : PR := cb_X4_formal_110 fu x1 x4 x5 2 F G
def cb_X4_formal_100 (fu : Nat) (x1 : Int32) (x3 : Int32) (x4 : Int32) (x5 : Int32) (F : PF) (G : PG) : PR := if x3 = (4 : Int32) then cb_X4_formal_105 fu x1 x4 x5 F G else cb_X4_formal_109 fu x1 x4 x5 F G
def cb_X4_formal_95 (fu : Nat) (x1 : Int32) (x3 : Int32) (x4 : Int32) (x5 : Int32) (x6 : Int32) (F : PF) (G : PG) : PR := if x3 = (5 : Int32) then cb_X4_formal_100 fu x1 x3 x4 x5 F G else cb_X4_formal_133 fu x1 x4 x5 x6 F G
def cb_X4_formal_80 (fu : Nat) (x1 : Int32) (x3 : Int32) (x4 : Int32) (x5 : Int32) (F : PF) (G : PG) : PR := if (F 11) = (21 : Int32) then cb_X4_formal_100 fu x1 x3 x4 x5 F G else cb_X4_formal_95 fu x1 x3 x4 x5 1 F G
def cb_X4_formal_54 (fu : Nat) (x1 : Int32) (x3 : Int32) (F : PF) (G : PG) : PR := (cf_X2_expect fu 2 F G).bind (fun q => cb_X4_formal_80 fu x1 x3 (F 12) (F 13) q.2.1 q.2.2)
def cb_X4_formal_47 (fu : Nat) (x1 : Int32) (x3 : Int32) (F : PF) (G : PG) : PR := (cf_X2_next fu F G).bind (fun q => cb_X4_formal_54 fu x1 x3 q.2.1 q.2.2)
def cb_X4_formal_31 (fu : Nat) (x1 : Int32) (x3 : Int32) (F : PF) (G : PG) : PR := (cf_X5_note fu 9 (F 13) F G).bind (fun q => cb_X4_formal_47 fu x1 x3 q.2.1 q.2.2)
def cb_X4_formal_27 (fu : Nat) (x1 : Int32) (x2 : Int32) (x3 : Int32) (F : PF) (G : PG) : PR := if x2 = (0 : Int32) then cb_X4_formal_47 fu x1 x3 F G else cb_X4_formal_31 fu x1 x3 F G
def cb_X4_formal_26 (fu : Nat) (F : PF) (G : PG) : PR := some (0, F, G)
def cb_X4_formal_18 (fu : Nat) (F : PF) (G : PG) : PR := (cf_X2_fail fu 2 F G).bind (fun q => cb_X4_formal_26 fu q.2.1 q.2.2)
def cb_X4_formal_13 (fu : Nat) (x1 : Int32) (x2 : Int32) (x3 : Int32) (F : PF) (G : PG) : PR := if x3 = (5 : Int32) then cb_X4_formal_27 fu x1 x2 x3 F G else cb_X4_formal_18 fu F G
def cb_X4_formal_0 (fu : Nat) (x1 : Int32) (x2 : Int32) (F : PF) (G : PG) : PR := if (F 11) = (4 : Int32) then cb_X4_formal_27 fu x1 x2 (F 11) F G else cb_X4_formal_13 fu x1 x2 (F 11) F G
def cf_X4_formal (fu : Nat) (x1 : Int32) (x2 : Int32) (F : PF) (G : PG) : PR := cb_X4_formal_0 fu x1 x2 F G
theorem cn_X4_formal_182 (fu : Nat) {res : Int32 × PF × PG} (F : PF) (G : PG) (hm : cb_X4_formal_182 fu F G = some res) : xn F ≤ xn res.2.1 := by
  unfold cb_X4_formal_182 at hm
  obtain rfl := Option.some.inj hm
  exact Nat.le_refl _
theorem cw_X4_formal_182 (fu : Nat) {res : Int32 × PF × PG} (C : cMC p R s m args c A v RX4 cX4_formal 7 3 77 (xn res.2.1 - xn K0)) (hret : ∀ (b1 : Nat) (H1 : Heap) (locs1 : List Loc) (ls1 : Array Slot) (pc : Nat), cMW s A v a b1 K0 res.2.1 res.2.2 H1 locs1 → decode cX4_formal pc = .ok (.return_, 1) → W p l e R s m args below meth c H1 locs1 (xn res.2.1 - xn K0) (2 * (xn res.2.1 - xn K0)) Q (F0 m pc ls1 [])) (F : PF) (G : PG) (hm : cb_X4_formal_182 fu F G = some res) {b : Nat} {H : Heap} {locs : List Loc} (hw : cMW s A v a b K0 F G H locs) {ls : Array Slot} (hl : lv_has ls 7 []) : W p l e R s m args below meth c H locs (xn F - xn K0) (2 * (xn F - xn K0)) Q (F0 m 182 ls []) := by
  have hx := C.1
  have hb := C.2.1
  unfold cb_X4_formal_182 at hm
  obtain rfl := Option.some.inj hm
  exact hret _ _ _ _ _ hw dX4_formal_182
theorem cn_X4_formal_171 (fu : Nat) {res : Int32 × PF × PG} (x5 : Int32) (F : PF) (G : PG) (hm : cb_X4_formal_171 fu x5 F G = some res) : xn F ≤ xn res.2.1 := by
  unfold cb_X4_formal_171 at hm
  obtain ⟨⟨r1, F1, G1⟩, hc, hm⟩ := bind_elim hm
  exact Nat.le_trans (cn_X5_note fu 8 x5 F G _ hc) (cn_X4_formal_182 fu F1 G1 hm)
theorem cw_X4_formal_171 (fu : Nat) {res : Int32 × PF × PG} (C : cMC p R s m args c A v RX4 cX4_formal 7 3 77 (xn res.2.1 - xn K0)) (hret : ∀ (b1 : Nat) (H1 : Heap) (locs1 : List Loc) (ls1 : Array Slot) (pc : Nat), cMW s A v a b1 K0 res.2.1 res.2.2 H1 locs1 → decode cX4_formal pc = .ok (.return_, 1) → W p l e R s m args below meth c H1 locs1 (xn res.2.1 - xn K0) (2 * (xn res.2.1 - xn K0)) Q (F0 m pc ls1 [])) (x5 : Int32) (F : PF) (G : PG) (hm : cb_X4_formal_171 fu x5 F G = some res) {b : Nat} {H : Heap} {locs : List Loc} (hw : cMW s A v a b K0 F G H locs) {ls : Array Slot} (hl : lv_has ls 7 [(0, .ref (a 204)), (5, .int x5)]) : W p l e R s m args below meth c H locs (xn F - xn K0) (2 * (xn F - xn K0)) Q (F0 m 171 ls []) := by
  have hx := C.1
  have hb := C.2.1
  unfold cb_X4_formal_171 at hm
  refine lv_aload_n hx hb dX4_formal_171 rfl (lv_at hl 0 rfl) ?_
  refine cg_X4_15 C hw dX4_formal_172 ?_
  refine lv_bipush (v := 8) hx hb dX4_formal_175 (by decide) ?_
  refine lv_iload hx hb dX4_formal_177 (lv_at hl 1 rfl) ?_
  obtain ⟨⟨r1, F1, G1⟩, hc, hm⟩ := bind_elim hm
  refine ccallV (n := 2) (As := [.int 8, .int x5]) (rest := []) C hw (ck_X5_note l v a _ _ fu 8 x5 F G r1 F1 G1 hc) (cn_X5_note fu 8 x5 F G _ hc) (Nat.sub_le_sub_right (cn_X4_formal_182 fu F1 G1 hm) _) (crecv_X5 C hw) cm_628 cm_425 cm_426 cm_266 cm_427 (by decide +kernel) rfl (by omega) (by omega) hl.1 rfl (Nat.le_of_ble_eq_true rfl) dX4_formal_179 (fun b H locs hw => ?_)
  exact cw_X4_formal_182 fu C hret F1 G1 hm hw (lv_sub hl [] rfl)
theorem cn_X4_formal_166 (fu : Nat) {res : Int32 × PF × PG} (x1 : Int32) (x5 : Int32) (F : PF) (G : PG) (hm : cb_X4_formal_166 fu x1 x5 F G = some res) : xn F ≤ xn res.2.1 := by
  unfold cb_X4_formal_166 at hm
  by_cases c_1 : x1 < (4 : Int32)
  · have hm := (if_pos c_1).symm.trans hm
    exact (cn_X4_formal_182 fu F G hm)
  · have hm := (if_neg c_1).symm.trans hm
    exact (cn_X4_formal_171 fu x5 F G hm)
theorem cw_X4_formal_166 (fu : Nat) {res : Int32 × PF × PG} (C : cMC p R s m args c A v RX4 cX4_formal 7 3 77 (xn res.2.1 - xn K0)) (hret : ∀ (b1 : Nat) (H1 : Heap) (locs1 : List Loc) (ls1 : Array Slot) (pc : Nat), cMW s A v a b1 K0 res.2.1 res.2.2 H1 locs1 → decode cX4_formal pc = .ok (.return_, 1) → W p l e R s m args below meth c H1 locs1 (xn res.2.1 - xn K0) (2 * (xn res.2.1 - xn K0)) Q (F0 m pc ls1 [])) (x1 : Int32) (x5 : Int32) (F : PF) (G : PG) (hm : cb_X4_formal_166 fu x1 x5 F G = some res) {b : Nat} {H : Heap} {locs : List Loc} (hw : cMW s A v a b K0 F G H locs) {ls : Array Slot} (hl : lv_has ls 7 [(0, .ref (a 204)), (1, .int x1), (5, .int x5)]) : W p l e R s m args below meth c H locs (xn F - xn K0) (2 * (xn F - xn K0)) Q (F0 m 166 ls []) := by
  have hx := C.1
  have hb := C.2.1
  unfold cb_X4_formal_166 at hm
  refine lv_iload_n hx hb dX4_formal_166 rfl (lv_at hl 1 rfl) ?_
  refine lv_iconst (v := 4) hx hb dX4_formal_167 (by decide) ?_
  refine lv_icmp_lt (tgt := 182) hx hb dX4_formal_168 (by decide) (fun c_1 => ?_) (fun c_1 => ?_)
  · have hm := (if_pos c_1).symm.trans hm
    exact cw_X4_formal_182 fu C hret F G hm hw (lv_sub hl [] rfl)
  · have hm := (if_neg c_1).symm.trans hm
    exact cw_X4_formal_171 fu C hret x5 F G hm hw (lv_sub hl [0, 2] rfl)
theorem cn_X4_formal_153 (fu : Nat) {res : Int32 × PF × PG} (x1 : Int32) (x4 : Int32) (x5 : Int32) (x6 : Int32) (F : PF) (G : PG) (hm : cb_X4_formal_153 fu x1 x4 x5 x6 F G = some res) : xn F ≤ xn res.2.1 := by
  unfold cb_X4_formal_153 at hm
  obtain ⟨⟨r1, F1, G1⟩, hc, hm⟩ := bind_elim hm
  exact Nat.le_trans (cn_X5_tellFormal fu x4 x5 x6 F G _ hc) (cn_X4_formal_166 fu x1 x5 F1 G1 hm)
theorem cw_X4_formal_153 (fu : Nat) {res : Int32 × PF × PG} (C : cMC p R s m args c A v RX4 cX4_formal 7 3 77 (xn res.2.1 - xn K0)) (hret : ∀ (b1 : Nat) (H1 : Heap) (locs1 : List Loc) (ls1 : Array Slot) (pc : Nat), cMW s A v a b1 K0 res.2.1 res.2.2 H1 locs1 → decode cX4_formal pc = .ok (.return_, 1) → W p l e R s m args below meth c H1 locs1 (xn res.2.1 - xn K0) (2 * (xn res.2.1 - xn K0)) Q (F0 m pc ls1 [])) (x1 : Int32) (x4 : Int32) (x5 : Int32) (x6 : Int32) (F : PF) (G : PG) (hm : cb_X4_formal_153 fu x1 x4 x5 x6 F G = some res) {b : Nat} {H : Heap} {locs : List Loc} (hw : cMW s A v a b K0 F G H locs) {ls : Array Slot} (hl : lv_has ls 7 [(0, .ref (a 204)), (1, .int x1), (4, .int x4), (5, .int x5), (6, .int x6)]) : W p l e R s m args below meth c H locs (xn F - xn K0) (2 * (xn F - xn K0)) Q (F0 m 153 ls []) := by
  have hx := C.1
  have hb := C.2.1
  unfold cb_X4_formal_153 at hm
  refine lv_aload_n hx hb dX4_formal_153 rfl (lv_at hl 0 rfl) ?_
  refine cg_X4_15 C hw dX4_formal_154 ?_
  refine lv_iload hx hb dX4_formal_157 (lv_at hl 2 rfl) ?_
  refine lv_iload hx hb dX4_formal_159 (lv_at hl 3 rfl) ?_
  refine lv_iload hx hb dX4_formal_161 (lv_at hl 4 rfl) ?_
  obtain ⟨⟨r1, F1, G1⟩, hc, hm⟩ := bind_elim hm
  refine ccallV (n := 3) (As := [.int x4, .int x5, .int x6]) (rest := []) C hw (ck_X5_tellFormal l v a _ _ fu x4 x5 x6 F G r1 F1 G1 hc) (cn_X5_tellFormal fu x4 x5 x6 F G _ hc) (Nat.sub_le_sub_right (cn_X4_formal_166 fu x1 x5 F1 G1 hm) _) (crecv_X5 C hw) cm_634 cm_635 cm_636 cm_266 cm_637 (by decide +kernel) rfl (by omega) (by omega) hl.1 rfl (Nat.le_of_ble_eq_true rfl) dX4_formal_163 (fun b H locs hw => ?_)
  exact cw_X4_formal_166 fu C hret x1 x5 F1 G1 hm hw (lv_sub hl [0, 1, 3] rfl)
theorem cn_X4_formal_152 (fu : Nat) {res : Int32 × PF × PG} (F : PF) (G : PG) (hm : cb_X4_formal_152 fu F G = some res) : xn F ≤ xn res.2.1 := by
  unfold cb_X4_formal_152 at hm
  obtain rfl := Option.some.inj hm
  exact Nat.le_refl _
theorem cw_X4_formal_152 (fu : Nat) {res : Int32 × PF × PG} (C : cMC p R s m args c A v RX4 cX4_formal 7 3 77 (xn res.2.1 - xn K0)) (hret : ∀ (b1 : Nat) (H1 : Heap) (locs1 : List Loc) (ls1 : Array Slot) (pc : Nat), cMW s A v a b1 K0 res.2.1 res.2.2 H1 locs1 → decode cX4_formal pc = .ok (.return_, 1) → W p l e R s m args below meth c H1 locs1 (xn res.2.1 - xn K0) (2 * (xn res.2.1 - xn K0)) Q (F0 m pc ls1 [])) (F : PF) (G : PG) (hm : cb_X4_formal_152 fu F G = some res) {b : Nat} {H : Heap} {locs : List Loc} (hw : cMW s A v a b K0 F G H locs) {ls : Array Slot} (hl : lv_has ls 7 []) : W p l e R s m args below meth c H locs (xn F - xn K0) (2 * (xn F - xn K0)) Q (F0 m 152 ls []) := by
  have hx := C.1
  have hb := C.2.1
  unfold cb_X4_formal_152 at hm
  obtain rfl := Option.some.inj hm
  exact hret _ _ _ _ _ hw dX4_formal_152
theorem cn_X4_formal_143 (fu : Nat) {res : Int32 × PF × PG} (x6 : Int32) (F : PF) (G : PG) (hm : cb_X4_formal_143 fu x6 F G = some res) : xn F ≤ xn res.2.1 := by
  unfold cb_X4_formal_143 at hm
  obtain ⟨⟨r1, F1, G1⟩, hc, hm⟩ := bind_elim hm
  exact Nat.le_trans (cn_X8_addFormal fu x6 F G _ hc) (cn_X4_formal_152 fu F1 G1 hm)
theorem cw_X4_formal_143 (fu : Nat) {res : Int32 × PF × PG} (C : cMC p R s m args c A v RX4 cX4_formal 7 3 77 (xn res.2.1 - xn K0)) (hret : ∀ (b1 : Nat) (H1 : Heap) (locs1 : List Loc) (ls1 : Array Slot) (pc : Nat), cMW s A v a b1 K0 res.2.1 res.2.2 H1 locs1 → decode cX4_formal pc = .ok (.return_, 1) → W p l e R s m args below meth c H1 locs1 (xn res.2.1 - xn K0) (2 * (xn res.2.1 - xn K0)) Q (F0 m pc ls1 [])) (x6 : Int32) (F : PF) (G : PG) (hm : cb_X4_formal_143 fu x6 F G = some res) {b : Nat} {H : Heap} {locs : List Loc} (hw : cMW s A v a b K0 F G H locs) {ls : Array Slot} (hl : lv_has ls 7 [(0, .ref (a 204)), (6, .int x6)]) : W p l e R s m args below meth c H locs (xn F - xn K0) (2 * (xn F - xn K0)) Q (F0 m 143 ls []) := by
  have hx := C.1
  have hb := C.2.1
  unfold cb_X4_formal_143 at hm
  refine lv_aload_n hx hb dX4_formal_143 rfl (lv_at hl 0 rfl) ?_
  refine cg_X4_23 C hw dX4_formal_144 ?_
  refine lv_iload hx hb dX4_formal_147 (lv_at hl 1 rfl) ?_
  obtain ⟨⟨r1, F1, G1⟩, hc, hm⟩ := bind_elim hm
  refine ccallV (n := 1) (As := [.int x6]) (rest := []) C hw (ck_X8_addFormal l v a _ _ fu x6 F G r1 F1 G1 hc) (cn_X8_addFormal fu x6 F G _ hc) (Nat.sub_le_sub_right (cn_X4_formal_152 fu F1 G1 hm) _) (crecv_X8 C hw) cm_630 cm_631 cm_632 cm_254 cm_633 (by decide +kernel) rfl (by omega) (by omega) hl.1 rfl (Nat.le_of_ble_eq_true rfl) dX4_formal_149 (fun b H locs hw => ?_)
  exact cw_X4_formal_152 fu C hret F1 G1 hm hw (lv_sub hl [] rfl)
theorem cn_X4_formal_133 (fu : Nat) {res : Int32 × PF × PG} (x1 : Int32) (x4 : Int32) (x5 : Int32) (x6 : Int32) (F : PF) (G : PG) (hm : cb_X4_formal_133 fu x1 x4 x5 x6 F G = some res) : xn F ≤ xn res.2.1 := by
  unfold cb_X4_formal_133 at hm
  by_cases c_1 : (F 45) = (0 : Int32)
  · have hm := (if_pos c_1).symm.trans hm
    exact (cn_X4_formal_143 fu x6 F G hm)
  · have hm := (if_neg c_1).symm.trans hm
    exact (cn_X4_formal_153 fu x1 x4 x5 x6 F G hm)
theorem cw_X4_formal_133 (fu : Nat) {res : Int32 × PF × PG} (C : cMC p R s m args c A v RX4 cX4_formal 7 3 77 (xn res.2.1 - xn K0)) (hret : ∀ (b1 : Nat) (H1 : Heap) (locs1 : List Loc) (ls1 : Array Slot) (pc : Nat), cMW s A v a b1 K0 res.2.1 res.2.2 H1 locs1 → decode cX4_formal pc = .ok (.return_, 1) → W p l e R s m args below meth c H1 locs1 (xn res.2.1 - xn K0) (2 * (xn res.2.1 - xn K0)) Q (F0 m pc ls1 [])) (x1 : Int32) (x4 : Int32) (x5 : Int32) (x6 : Int32) (F : PF) (G : PG) (hm : cb_X4_formal_133 fu x1 x4 x5 x6 F G = some res) {b : Nat} {H : Heap} {locs : List Loc} (hw : cMW s A v a b K0 F G H locs) {ls : Array Slot} (hl : lv_has ls 7 [(0, .ref (a 204)), (1, .int x1), (4, .int x4), (5, .int x5), (6, .int x6)]) : W p l e R s m args below meth c H locs (xn F - xn K0) (2 * (xn F - xn K0)) Q (F0 m 133 ls []) := by
  have hx := C.1
  have hb := C.2.1
  unfold cb_X4_formal_133 at hm
  refine lv_aload_n hx hb dX4_formal_133 rfl (lv_at hl 0 rfl) ?_
  refine cg_X4_15 C hw dX4_formal_134 ?_
  refine cg_X4_128 C hw dX4_formal_137 ?_
  refine lv_if_ne (tgt := 153) hx hb dX4_formal_140 (by decide) (fun c_1 => ?_) (fun c_1 => ?_)
  · have hm := (if_neg c_1).symm.trans hm
    exact cw_X4_formal_153 fu C hret x1 x4 x5 x6 F G hm hw (lv_sub hl [0, 1, 2, 3, 4] rfl)
  · have hm := (if_pos c_1).symm.trans hm
    exact cw_X4_formal_143 fu C hret x6 F G hm hw (lv_sub hl [0, 4] rfl)
theorem cn_X4_formal_124 (fu : Nat) {res : Int32 × PF × PG} (x1 : Int32) (x4 : Int32) (x5 : Int32) (x6 : Int32) (F : PF) (G : PG) (hm : cb_X4_formal_124 fu x1 x4 x5 x6 F G = some res) : xn F ≤ xn res.2.1 := by
  unfold cb_X4_formal_124 at hm
  obtain ⟨⟨r1, F1, G1⟩, hc, hm⟩ := bind_elim hm
  exact Nat.le_trans (cn_X2_closesWith fu 22 F G _ hc) (cn_X4_formal_133 fu x1 x4 x5 x6 F1 G1 hm)
theorem cw_X4_formal_124 (fu : Nat) {res : Int32 × PF × PG} (C : cMC p R s m args c A v RX4 cX4_formal 7 3 77 (xn res.2.1 - xn K0)) (hret : ∀ (b1 : Nat) (H1 : Heap) (locs1 : List Loc) (ls1 : Array Slot) (pc : Nat), cMW s A v a b1 K0 res.2.1 res.2.2 H1 locs1 → decode cX4_formal pc = .ok (.return_, 1) → W p l e R s m args below meth c H1 locs1 (xn res.2.1 - xn K0) (2 * (xn res.2.1 - xn K0)) Q (F0 m pc ls1 [])) (x1 : Int32) (x4 : Int32) (x5 : Int32) (x6 : Int32) (F : PF) (G : PG) (hm : cb_X4_formal_124 fu x1 x4 x5 x6 F G = some res) {b : Nat} {H : Heap} {locs : List Loc} (hw : cMW s A v a b K0 F G H locs) {ls : Array Slot} (hl : lv_has ls 7 [(0, .ref (a 204)), (1, .int x1), (4, .int x4), (5, .int x5), (6, .int x6)]) : W p l e R s m args below meth c H locs (xn F - xn K0) (2 * (xn F - xn K0)) Q (F0 m 124 ls []) := by
  have hx := C.1
  have hb := C.2.1
  unfold cb_X4_formal_124 at hm
  refine lv_aload_n hx hb dX4_formal_124 rfl (lv_at hl 0 rfl) ?_
  refine cg_X4_9 C hw dX4_formal_125 ?_
  refine lv_bipush (v := 22) hx hb dX4_formal_128 (by decide) ?_
  obtain ⟨⟨r1, F1, G1⟩, hc, hm⟩ := bind_elim hm
  refine ccallV (n := 1) (As := [.int 22]) (rest := []) C hw (ck_X2_closesWith l v a _ _ fu 22 F G r1 F1 G1 hc) (cn_X2_closesWith fu 22 F G _ hc) (Nat.sub_le_sub_right (cn_X4_formal_133 fu x1 x4 x5 x6 F1 G1 hm) _) (crecv_X2 C hw) cm_629 cm_459 cm_460 cm_307 cm_461 (by decide +kernel) rfl (by omega) (by omega) hl.1 rfl (Nat.le_of_ble_eq_true rfl) dX4_formal_130 (fun b H locs hw => ?_)
  exact cw_X4_formal_133 fu C hret x1 x4 x5 x6 F1 G1 hm hw (lv_sub hl [0, 1, 2, 3, 4] rfl)
theorem cn_X4_formal_121 (fu : Nat) {res : Int32 × PF × PG} (x1 : Int32) (x4 : Int32) (x5 : Int32) (x6 : Int32) (z0 : Int32) (F : PF) (G : PG) (hm : cb_X4_formal_121 fu x1 x4 x5 x6 z0 F G = some res) : xn F ≤ xn res.2.1 := by
  unfold cb_X4_formal_121 at hm
  by_cases c_1 : z0 = (0 : Int32)
  · have hm := (if_pos c_1).symm.trans hm
    exact (cn_X4_formal_133 fu x1 x4 x5 x6 F G hm)
  · have hm := (if_neg c_1).symm.trans hm
    exact (cn_X4_formal_124 fu x1 x4 x5 x6 F G hm)
theorem cw_X4_formal_121 (fu : Nat) {res : Int32 × PF × PG} (C : cMC p R s m args c A v RX4 cX4_formal 7 3 77 (xn res.2.1 - xn K0)) (hret : ∀ (b1 : Nat) (H1 : Heap) (locs1 : List Loc) (ls1 : Array Slot) (pc : Nat), cMW s A v a b1 K0 res.2.1 res.2.2 H1 locs1 → decode cX4_formal pc = .ok (.return_, 1) → W p l e R s m args below meth c H1 locs1 (xn res.2.1 - xn K0) (2 * (xn res.2.1 - xn K0)) Q (F0 m pc ls1 [])) (x1 : Int32) (x4 : Int32) (x5 : Int32) (x6 : Int32) (z0 : Int32) (F : PF) (G : PG) (hm : cb_X4_formal_121 fu x1 x4 x5 x6 z0 F G = some res) {b : Nat} {H : Heap} {locs : List Loc} (hw : cMW s A v a b K0 F G H locs) {ls : Array Slot} (hl : lv_has ls 7 [(0, .ref (a 204)), (1, .int x1), (4, .int x4), (5, .int x5), (6, .int x6)]) : W p l e R s m args below meth c H locs (xn F - xn K0) (2 * (xn F - xn K0)) Q (F0 m 121 ls [.int z0]) := by
  have hx := C.1
  have hb := C.2.1
  unfold cb_X4_formal_121 at hm
  refine lv_if_eq (tgt := 133) hx hb dX4_formal_121 (by decide) (fun c_1 => ?_) (fun c_1 => ?_)
  · have hm := (if_pos c_1).symm.trans hm
    exact cw_X4_formal_133 fu C hret x1 x4 x5 x6 F G hm hw (lv_sub hl [0, 1, 2, 3, 4] rfl)
  · have hm := (if_neg c_1).symm.trans hm
    exact cw_X4_formal_124 fu C hret x1 x4 x5 x6 F G hm hw (lv_sub hl [0, 1, 2, 3, 4] rfl)
theorem cn_X4_formal_110 (fu : Nat) {res : Int32 × PF × PG} (x1 : Int32) (x4 : Int32) (x5 : Int32) (z0 : Int32) (F : PF) (G : PG) (hm : cb_X4_formal_110 fu x1 x4 x5 z0 F G = some res) : xn F ≤ xn res.2.1 := by
  unfold cb_X4_formal_110 at hm
  obtain ⟨⟨r1, F1, G1⟩, hc, hm⟩ := bind_elim hm
  exact Nat.le_trans (cn_X2_opens fu 21 F G _ hc) (cn_X4_formal_121 fu x1 x4 x5 z0 r1 F1 G1 hm)
theorem cw_X4_formal_110 (fu : Nat) {res : Int32 × PF × PG} (C : cMC p R s m args c A v RX4 cX4_formal 7 3 77 (xn res.2.1 - xn K0)) (hret : ∀ (b1 : Nat) (H1 : Heap) (locs1 : List Loc) (ls1 : Array Slot) (pc : Nat), cMW s A v a b1 K0 res.2.1 res.2.2 H1 locs1 → decode cX4_formal pc = .ok (.return_, 1) → W p l e R s m args below meth c H1 locs1 (xn res.2.1 - xn K0) (2 * (xn res.2.1 - xn K0)) Q (F0 m pc ls1 [])) (x1 : Int32) (x4 : Int32) (x5 : Int32) (z0 : Int32) (F : PF) (G : PG) (hm : cb_X4_formal_110 fu x1 x4 x5 z0 F G = some res) {b : Nat} {H : Heap} {locs : List Loc} (hw : cMW s A v a b K0 F G H locs) {ls : Array Slot} (hl : lv_has ls 7 [(0, .ref (a 204)), (1, .int x1), (4, .int x4), (5, .int x5)]) : W p l e R s m args below meth c H locs (xn F - xn K0) (2 * (xn F - xn K0)) Q (F0 m 110 ls [.int z0]) := by
  have hx := C.1
  have hb := C.2.1
  unfold cb_X4_formal_110 at hm
  refine lv_istore (lv' := [(6, .int z0), (0, .ref (a 204)), (1, .int x1), (4, .int x4), (5, .int x5)]) hx hb dX4_formal_110 hl (by decide) rfl (fun ls hl => ?_)
  refine lv_aload_n hx hb dX4_formal_112 rfl (lv_at hl 1 rfl) ?_
  refine cg_X4_9 C hw dX4_formal_113 ?_
  refine lv_bipush (v := 21) hx hb dX4_formal_116 (by decide) ?_
  obtain ⟨⟨r1, F1, G1⟩, hc, hm⟩ := bind_elim hm
  refine ccallI (n := 1) (As := [.int 21]) (rest := []) C hw (ck_X2_opens l v a _ _ fu 21 F G r1 F1 G1 hc) (cn_X2_opens fu 21 F G _ hc) (Nat.sub_le_sub_right (cn_X4_formal_121 fu x1 x4 x5 z0 r1 F1 G1 hm) _) (crecv_X2 C hw) cm_623 cm_363 cm_364 cm_307 cm_365 (by decide +kernel) rfl (by omega) (by omega) hl.1 rfl (Nat.le_of_ble_eq_true rfl) dX4_formal_118 (fun b H locs hw => ?_)
  exact cw_X4_formal_121 fu C hret x1 x4 x5 z0 r1 F1 G1 hm hw (lv_sub hl [1, 2, 3, 4, 0] rfl)
theorem cn_X4_formal_109 (fu : Nat) {res : Int32 × PF × PG} (x1 : Int32) (x4 : Int32) (x5 : Int32) (F : PF) (G : PG) (hm : cb_X4_formal_109 fu x1 x4 x5 F G = some res) : xn F ≤ xn res.2.1 := by
  unfold cb_X4_formal_109 at hm
  exact (cn_X4_formal_110 fu x1 x4 x5 3 F G hm)
theorem cw_X4_formal_109 (fu : Nat) {res : Int32 × PF × PG} (C : cMC p R s m args c A v RX4 cX4_formal 7 3 77 (xn res.2.1 - xn K0)) (hret : ∀ (b1 : Nat) (H1 : Heap) (locs1 : List Loc) (ls1 : Array Slot) (pc : Nat), cMW s A v a b1 K0 res.2.1 res.2.2 H1 locs1 → decode cX4_formal pc = .ok (.return_, 1) → W p l e R s m args below meth c H1 locs1 (xn res.2.1 - xn K0) (2 * (xn res.2.1 - xn K0)) Q (F0 m pc ls1 [])) (x1 : Int32) (x4 : Int32) (x5 : Int32) (F : PF) (G : PG) (hm : cb_X4_formal_109 fu x1 x4 x5 F G = some res) {b : Nat} {H : Heap} {locs : List Loc} (hw : cMW s A v a b K0 F G H locs) {ls : Array Slot} (hl : lv_has ls 7 [(0, .ref (a 204)), (1, .int x1), (4, .int x4), (5, .int x5)]) : W p l e R s m args below meth c H locs (xn F - xn K0) (2 * (xn F - xn K0)) Q (F0 m 109 ls []) := by
  have hx := C.1
  have hb := C.2.1
  unfold cb_X4_formal_109 at hm
  refine lv_iconst (v := 3) hx hb dX4_formal_109 (by decide) ?_
  exact cw_X4_formal_110 fu C hret x1 x4 x5 3 F G hm hw (lv_sub hl [0, 1, 2, 3] rfl)
theorem cn_X4_formal_105 (fu : Nat) {res : Int32 × PF × PG} (x1 : Int32) (x4 : Int32) (x5 : Int32) (F : PF) (G : PG) (hm : cb_X4_formal_105 fu x1 x4 x5 F G = some res) : xn F ≤ xn res.2.1 := by
  unfold cb_X4_formal_105 at hm
  exact (cn_X4_formal_110 fu x1 x4 x5 2 F G hm)
theorem cw_X4_formal_105 (fu : Nat) {res : Int32 × PF × PG} (C : cMC p R s m args c A v RX4 cX4_formal 7 3 77 (xn res.2.1 - xn K0)) (hret : ∀ (b1 : Nat) (H1 : Heap) (locs1 : List Loc) (ls1 : Array Slot) (pc : Nat), cMW s A v a b1 K0 res.2.1 res.2.2 H1 locs1 → decode cX4_formal pc = .ok (.return_, 1) → W p l e R s m args below meth c H1 locs1 (xn res.2.1 - xn K0) (2 * (xn res.2.1 - xn K0)) Q (F0 m pc ls1 [])) (x1 : Int32) (x4 : Int32) (x5 : Int32) (F : PF) (G : PG) (hm : cb_X4_formal_105 fu x1 x4 x5 F G = some res) {b : Nat} {H : Heap} {locs : List Loc} (hw : cMW s A v a b K0 F G H locs) {ls : Array Slot} (hl : lv_has ls 7 [(0, .ref (a 204)), (1, .int x1), (4, .int x4), (5, .int x5)]) : W p l e R s m args below meth c H locs (xn F - xn K0) (2 * (xn F - xn K0)) Q (F0 m 105 ls []) := by
  have hx := C.1
  have hb := C.2.1
  unfold cb_X4_formal_105 at hm
  refine lv_iconst (v := 2) hx hb dX4_formal_105 (by decide) ?_
  refine lv_goto (tgt := 110) hx hb dX4_formal_106 (by decide) ?_
  exact cw_X4_formal_110 fu C hret x1 x4 x5 2 F G hm hw (lv_sub hl [0, 1, 2, 3] rfl)
theorem cn_X4_formal_100 (fu : Nat) {res : Int32 × PF × PG} (x1 : Int32) (x3 : Int32) (x4 : Int32) (x5 : Int32) (F : PF) (G : PG) (hm : cb_X4_formal_100 fu x1 x3 x4 x5 F G = some res) : xn F ≤ xn res.2.1 := by
  unfold cb_X4_formal_100 at hm
  by_cases c_1 : x3 = (4 : Int32)
  · have hm := (if_pos c_1).symm.trans hm
    exact (cn_X4_formal_105 fu x1 x4 x5 F G hm)
  · have hm := (if_neg c_1).symm.trans hm
    exact (cn_X4_formal_109 fu x1 x4 x5 F G hm)
theorem cw_X4_formal_100 (fu : Nat) {res : Int32 × PF × PG} (C : cMC p R s m args c A v RX4 cX4_formal 7 3 77 (xn res.2.1 - xn K0)) (hret : ∀ (b1 : Nat) (H1 : Heap) (locs1 : List Loc) (ls1 : Array Slot) (pc : Nat), cMW s A v a b1 K0 res.2.1 res.2.2 H1 locs1 → decode cX4_formal pc = .ok (.return_, 1) → W p l e R s m args below meth c H1 locs1 (xn res.2.1 - xn K0) (2 * (xn res.2.1 - xn K0)) Q (F0 m pc ls1 [])) (x1 : Int32) (x3 : Int32) (x4 : Int32) (x5 : Int32) (F : PF) (G : PG) (hm : cb_X4_formal_100 fu x1 x3 x4 x5 F G = some res) {b : Nat} {H : Heap} {locs : List Loc} (hw : cMW s A v a b K0 F G H locs) {ls : Array Slot} (hl : lv_has ls 7 [(0, .ref (a 204)), (1, .int x1), (3, .int x3), (4, .int x4), (5, .int x5)]) : W p l e R s m args below meth c H locs (xn F - xn K0) (2 * (xn F - xn K0)) Q (F0 m 100 ls []) := by
  have hx := C.1
  have hb := C.2.1
  unfold cb_X4_formal_100 at hm
  refine lv_iload_n hx hb dX4_formal_100 rfl (lv_at hl 2 rfl) ?_
  refine lv_iconst (v := 4) hx hb dX4_formal_101 (by decide) ?_
  refine lv_icmp_ne (tgt := 109) hx hb dX4_formal_102 (by decide) (fun c_1 => ?_) (fun c_1 => ?_)
  · have hm := (if_neg c_1).symm.trans hm
    exact cw_X4_formal_109 fu C hret x1 x4 x5 F G hm hw (lv_sub hl [0, 1, 3, 4] rfl)
  · have hm := (if_pos c_1).symm.trans hm
    exact cw_X4_formal_105 fu C hret x1 x4 x5 F G hm hw (lv_sub hl [0, 1, 3, 4] rfl)
theorem cn_X4_formal_95 (fu : Nat) {res : Int32 × PF × PG} (x1 : Int32) (x3 : Int32) (x4 : Int32) (x5 : Int32) (x6 : Int32) (F : PF) (G : PG) (hm : cb_X4_formal_95 fu x1 x3 x4 x5 x6 F G = some res) : xn F ≤ xn res.2.1 := by
  unfold cb_X4_formal_95 at hm
  by_cases c_1 : x3 = (5 : Int32)
  · have hm := (if_pos c_1).symm.trans hm
    exact (cn_X4_formal_100 fu x1 x3 x4 x5 F G hm)
  · have hm := (if_neg c_1).symm.trans hm
    exact (cn_X4_formal_133 fu x1 x4 x5 x6 F G hm)
theorem cw_X4_formal_95 (fu : Nat) {res : Int32 × PF × PG} (C : cMC p R s m args c A v RX4 cX4_formal 7 3 77 (xn res.2.1 - xn K0)) (hret : ∀ (b1 : Nat) (H1 : Heap) (locs1 : List Loc) (ls1 : Array Slot) (pc : Nat), cMW s A v a b1 K0 res.2.1 res.2.2 H1 locs1 → decode cX4_formal pc = .ok (.return_, 1) → W p l e R s m args below meth c H1 locs1 (xn res.2.1 - xn K0) (2 * (xn res.2.1 - xn K0)) Q (F0 m pc ls1 [])) (x1 : Int32) (x3 : Int32) (x4 : Int32) (x5 : Int32) (x6 : Int32) (F : PF) (G : PG) (hm : cb_X4_formal_95 fu x1 x3 x4 x5 x6 F G = some res) {b : Nat} {H : Heap} {locs : List Loc} (hw : cMW s A v a b K0 F G H locs) {ls : Array Slot} (hl : lv_has ls 7 [(0, .ref (a 204)), (1, .int x1), (3, .int x3), (4, .int x4), (5, .int x5), (6, .int x6)]) : W p l e R s m args below meth c H locs (xn F - xn K0) (2 * (xn F - xn K0)) Q (F0 m 95 ls []) := by
  have hx := C.1
  have hb := C.2.1
  unfold cb_X4_formal_95 at hm
  refine lv_iload_n hx hb dX4_formal_95 rfl (lv_at hl 2 rfl) ?_
  refine lv_iconst (v := 5) hx hb dX4_formal_96 (by decide) ?_
  refine lv_icmp_ne (tgt := 133) hx hb dX4_formal_97 (by decide) (fun c_1 => ?_) (fun c_1 => ?_)
  · have hm := (if_neg c_1).symm.trans hm
    exact cw_X4_formal_133 fu C hret x1 x4 x5 x6 F G hm hw (lv_sub hl [0, 1, 3, 4, 5] rfl)
  · have hm := (if_pos c_1).symm.trans hm
    exact cw_X4_formal_100 fu C hret x1 x3 x4 x5 F G hm hw (lv_sub hl [0, 1, 2, 3, 4] rfl)
theorem cn_X4_formal_80 (fu : Nat) {res : Int32 × PF × PG} (x1 : Int32) (x3 : Int32) (x4 : Int32) (x5 : Int32) (F : PF) (G : PG) (hm : cb_X4_formal_80 fu x1 x3 x4 x5 F G = some res) : xn F ≤ xn res.2.1 := by
  unfold cb_X4_formal_80 at hm
  by_cases c_1 : (F 11) = (21 : Int32)
  · have hm := (if_pos c_1).symm.trans hm
    exact (cn_X4_formal_100 fu x1 x3 x4 x5 F G hm)
  · have hm := (if_neg c_1).symm.trans hm
    exact (cn_X4_formal_95 fu x1 x3 x4 x5 1 F G hm)
theorem cw_X4_formal_80 (fu : Nat) {res : Int32 × PF × PG} (C : cMC p R s m args c A v RX4 cX4_formal 7 3 77 (xn res.2.1 - xn K0)) (hret : ∀ (b1 : Nat) (H1 : Heap) (locs1 : List Loc) (ls1 : Array Slot) (pc : Nat), cMW s A v a b1 K0 res.2.1 res.2.2 H1 locs1 → decode cX4_formal pc = .ok (.return_, 1) → W p l e R s m args below meth c H1 locs1 (xn res.2.1 - xn K0) (2 * (xn res.2.1 - xn K0)) Q (F0 m pc ls1 [])) (x1 : Int32) (x3 : Int32) (x4 : Int32) (x5 : Int32) (F : PF) (G : PG) (hm : cb_X4_formal_80 fu x1 x3 x4 x5 F G = some res) {b : Nat} {H : Heap} {locs : List Loc} (hw : cMW s A v a b K0 F G H locs) {ls : Array Slot} (hl : lv_has ls 7 [(0, .ref (a 204)), (1, .int x1), (3, .int x3), (4, .int x4), (5, .int x5)]) : W p l e R s m args below meth c H locs (xn F - xn K0) (2 * (xn F - xn K0)) Q (F0 m 80 ls []) := by
  have hx := C.1
  have hb := C.2.1
  unfold cb_X4_formal_80 at hm
  refine lv_iconst (v := 1) hx hb dX4_formal_80 (by decide) ?_
  refine lv_istore (lv' := [(6, .int 1), (0, .ref (a 204)), (1, .int x1), (3, .int x3), (4, .int x4), (5, .int x5)]) hx hb dX4_formal_81 hl (by decide) rfl (fun ls hl => ?_)
  refine lv_aload_n hx hb dX4_formal_83 rfl (lv_at hl 1 rfl) ?_
  refine cg_X4_9 C hw dX4_formal_84 ?_
  refine cg_X4_52 C hw dX4_formal_87 ?_
  refine lv_bipush (v := 21) hx hb dX4_formal_90 (by decide) ?_
  refine lv_icmp_eq (tgt := 100) hx hb dX4_formal_92 (by decide) (fun c_1 => ?_) (fun c_1 => ?_)
  · have hm := (if_pos c_1).symm.trans hm
    exact cw_X4_formal_100 fu C hret x1 x3 x4 x5 F G hm hw (lv_sub hl [1, 2, 3, 4, 5] rfl)
  · have hm := (if_neg c_1).symm.trans hm
    exact cw_X4_formal_95 fu C hret x1 x3 x4 x5 1 F G hm hw (lv_sub hl [1, 2, 3, 4, 5, 0] rfl)
theorem cn_X4_formal_54 (fu : Nat) {res : Int32 × PF × PG} (x1 : Int32) (x3 : Int32) (F : PF) (G : PG) (hm : cb_X4_formal_54 fu x1 x3 F G = some res) : xn F ≤ xn res.2.1 := by
  unfold cb_X4_formal_54 at hm
  obtain ⟨⟨r1, F1, G1⟩, hc, hm⟩ := bind_elim hm
  exact Nat.le_trans (cn_X2_expect fu 2 F G _ hc) (cn_X4_formal_80 fu x1 x3 (F 12) (F 13) F1 G1 hm)
theorem cw_X4_formal_54 (fu : Nat) {res : Int32 × PF × PG} (C : cMC p R s m args c A v RX4 cX4_formal 7 3 77 (xn res.2.1 - xn K0)) (hret : ∀ (b1 : Nat) (H1 : Heap) (locs1 : List Loc) (ls1 : Array Slot) (pc : Nat), cMW s A v a b1 K0 res.2.1 res.2.2 H1 locs1 → decode cX4_formal pc = .ok (.return_, 1) → W p l e R s m args below meth c H1 locs1 (xn res.2.1 - xn K0) (2 * (xn res.2.1 - xn K0)) Q (F0 m pc ls1 [])) (x1 : Int32) (x3 : Int32) (F : PF) (G : PG) (hm : cb_X4_formal_54 fu x1 x3 F G = some res) {b : Nat} {H : Heap} {locs : List Loc} (hw : cMW s A v a b K0 F G H locs) {ls : Array Slot} (hl : lv_has ls 7 [(0, .ref (a 204)), (1, .int x1), (3, .int x3)]) : W p l e R s m args below meth c H locs (xn F - xn K0) (2 * (xn F - xn K0)) Q (F0 m 54 ls []) := by
  have hx := C.1
  have hb := C.2.1
  unfold cb_X4_formal_54 at hm
  refine lv_aload_n hx hb dX4_formal_54 rfl (lv_at hl 0 rfl) ?_
  refine cg_X4_9 C hw dX4_formal_55 ?_
  refine cg_X4_64 C hw dX4_formal_58 ?_
  refine lv_istore (lv' := [(4, .int (F 12)), (0, .ref (a 204)), (1, .int x1), (3, .int x3)]) hx hb dX4_formal_61 hl (by decide) rfl (fun ls hl => ?_)
  refine lv_aload_n hx hb dX4_formal_63 rfl (lv_at hl 1 rfl) ?_
  refine cg_X4_9 C hw dX4_formal_64 ?_
  refine cg_X4_67 C hw dX4_formal_67 ?_
  refine lv_istore (lv' := [(5, .int (F 13)), (4, .int (F 12)), (0, .ref (a 204)), (1, .int x1), (3, .int x3)]) hx hb dX4_formal_70 hl (by decide) rfl (fun ls hl => ?_)
  refine lv_aload_n hx hb dX4_formal_72 rfl (lv_at hl 2 rfl) ?_
  refine cg_X4_9 C hw dX4_formal_73 ?_
  refine lv_iconst (v := 2) hx hb dX4_formal_76 (by decide) ?_
  obtain ⟨⟨r1, F1, G1⟩, hc, hm⟩ := bind_elim hm
  refine ccallV (n := 1) (As := [.int 2]) (rest := []) C hw (ck_X2_expect l v a _ _ fu 2 F G r1 F1 G1 hc) (cn_X2_expect fu 2 F G _ hc) (Nat.sub_le_sub_right (cn_X4_formal_80 fu x1 x3 (F 12) (F 13) F1 G1 hm) _) (crecv_X2 C hw) cm_332 cm_333 cm_334 cm_307 cm_335 (by decide +kernel) rfl (by omega) (by omega) hl.1 rfl (Nat.le_of_ble_eq_true rfl) dX4_formal_77 (fun b H locs hw => ?_)
  exact cw_X4_formal_80 fu C hret x1 x3 (F 12) (F 13) F1 G1 hm hw (lv_sub hl [2, 3, 4, 1, 0] rfl)
theorem cn_X4_formal_47 (fu : Nat) {res : Int32 × PF × PG} (x1 : Int32) (x3 : Int32) (F : PF) (G : PG) (hm : cb_X4_formal_47 fu x1 x3 F G = some res) : xn F ≤ xn res.2.1 := by
  unfold cb_X4_formal_47 at hm
  obtain ⟨⟨r1, F1, G1⟩, hc, hm⟩ := bind_elim hm
  exact Nat.le_trans (cn_X2_next fu F G _ hc) (cn_X4_formal_54 fu x1 x3 F1 G1 hm)
theorem cw_X4_formal_47 (fu : Nat) {res : Int32 × PF × PG} (C : cMC p R s m args c A v RX4 cX4_formal 7 3 77 (xn res.2.1 - xn K0)) (hret : ∀ (b1 : Nat) (H1 : Heap) (locs1 : List Loc) (ls1 : Array Slot) (pc : Nat), cMW s A v a b1 K0 res.2.1 res.2.2 H1 locs1 → decode cX4_formal pc = .ok (.return_, 1) → W p l e R s m args below meth c H1 locs1 (xn res.2.1 - xn K0) (2 * (xn res.2.1 - xn K0)) Q (F0 m pc ls1 [])) (x1 : Int32) (x3 : Int32) (F : PF) (G : PG) (hm : cb_X4_formal_47 fu x1 x3 F G = some res) {b : Nat} {H : Heap} {locs : List Loc} (hw : cMW s A v a b K0 F G H locs) {ls : Array Slot} (hl : lv_has ls 7 [(0, .ref (a 204)), (1, .int x1), (3, .int x3)]) : W p l e R s m args below meth c H locs (xn F - xn K0) (2 * (xn F - xn K0)) Q (F0 m 47 ls []) := by
  have hx := C.1
  have hb := C.2.1
  unfold cb_X4_formal_47 at hm
  refine lv_aload_n hx hb dX4_formal_47 rfl (lv_at hl 0 rfl) ?_
  refine cg_X4_9 C hw dX4_formal_48 ?_
  obtain ⟨⟨r1, F1, G1⟩, hc, hm⟩ := bind_elim hm
  refine ccallV (n := 0) (As := []) (rest := []) C hw (ck_X2_next l v a _ _ fu F G r1 F1 G1 hc) (cn_X2_next fu F G _ hc) (Nat.sub_le_sub_right (cn_X4_formal_54 fu x1 x3 F1 G1 hm) _) (crecv_X2 C hw) cm_320 cm_321 cm_322 cm_307 cm_323 (by decide +kernel) rfl (by omega) (by omega) hl.1 rfl (Nat.le_of_ble_eq_true rfl) dX4_formal_51 (fun b H locs hw => ?_)
  exact cw_X4_formal_54 fu C hret x1 x3 F1 G1 hm hw (lv_sub hl [0, 1, 2] rfl)
theorem cn_X4_formal_31 (fu : Nat) {res : Int32 × PF × PG} (x1 : Int32) (x3 : Int32) (F : PF) (G : PG) (hm : cb_X4_formal_31 fu x1 x3 F G = some res) : xn F ≤ xn res.2.1 := by
  unfold cb_X4_formal_31 at hm
  obtain ⟨⟨r1, F1, G1⟩, hc, hm⟩ := bind_elim hm
  exact Nat.le_trans (cn_X5_note fu 9 (F 13) F G _ hc) (cn_X4_formal_47 fu x1 x3 F1 G1 hm)
theorem cw_X4_formal_31 (fu : Nat) {res : Int32 × PF × PG} (C : cMC p R s m args c A v RX4 cX4_formal 7 3 77 (xn res.2.1 - xn K0)) (hret : ∀ (b1 : Nat) (H1 : Heap) (locs1 : List Loc) (ls1 : Array Slot) (pc : Nat), cMW s A v a b1 K0 res.2.1 res.2.2 H1 locs1 → decode cX4_formal pc = .ok (.return_, 1) → W p l e R s m args below meth c H1 locs1 (xn res.2.1 - xn K0) (2 * (xn res.2.1 - xn K0)) Q (F0 m pc ls1 [])) (x1 : Int32) (x3 : Int32) (F : PF) (G : PG) (hm : cb_X4_formal_31 fu x1 x3 F G = some res) {b : Nat} {H : Heap} {locs : List Loc} (hw : cMW s A v a b K0 F G H locs) {ls : Array Slot} (hl : lv_has ls 7 [(0, .ref (a 204)), (1, .int x1), (3, .int x3)]) : W p l e R s m args below meth c H locs (xn F - xn K0) (2 * (xn F - xn K0)) Q (F0 m 31 ls []) := by
  have hx := C.1
  have hb := C.2.1
  unfold cb_X4_formal_31 at hm
  refine lv_aload_n hx hb dX4_formal_31 rfl (lv_at hl 0 rfl) ?_
  refine cg_X4_15 C hw dX4_formal_32 ?_
  refine lv_bipush (v := 9) hx hb dX4_formal_35 (by decide) ?_
  refine lv_aload_n hx hb dX4_formal_37 rfl (lv_at hl 0 rfl) ?_
  refine cg_X4_9 C hw dX4_formal_38 ?_
  refine cg_X4_67 C hw dX4_formal_41 ?_
  obtain ⟨⟨r1, F1, G1⟩, hc, hm⟩ := bind_elim hm
  refine ccallV (n := 2) (As := [.int 9, .int (F 13)]) (rest := []) C hw (ck_X5_note l v a _ _ fu 9 (F 13) F G r1 F1 G1 hc) (cn_X5_note fu 9 (F 13) F G _ hc) (Nat.sub_le_sub_right (cn_X4_formal_47 fu x1 x3 F1 G1 hm) _) (crecv_X5 C hw) cm_628 cm_425 cm_426 cm_266 cm_427 (by decide +kernel) rfl (by omega) (by omega) hl.1 rfl (Nat.le_of_ble_eq_true rfl) dX4_formal_44 (fun b H locs hw => ?_)
  exact cw_X4_formal_47 fu C hret x1 x3 F1 G1 hm hw (lv_sub hl [0, 1, 2] rfl)
theorem cn_X4_formal_27 (fu : Nat) {res : Int32 × PF × PG} (x1 : Int32) (x2 : Int32) (x3 : Int32) (F : PF) (G : PG) (hm : cb_X4_formal_27 fu x1 x2 x3 F G = some res) : xn F ≤ xn res.2.1 := by
  unfold cb_X4_formal_27 at hm
  by_cases c_1 : x2 = (0 : Int32)
  · have hm := (if_pos c_1).symm.trans hm
    exact (cn_X4_formal_47 fu x1 x3 F G hm)
  · have hm := (if_neg c_1).symm.trans hm
    exact (cn_X4_formal_31 fu x1 x3 F G hm)
theorem cw_X4_formal_27 (fu : Nat) {res : Int32 × PF × PG} (C : cMC p R s m args c A v RX4 cX4_formal 7 3 77 (xn res.2.1 - xn K0)) (hret : ∀ (b1 : Nat) (H1 : Heap) (locs1 : List Loc) (ls1 : Array Slot) (pc : Nat), cMW s A v a b1 K0 res.2.1 res.2.2 H1 locs1 → decode cX4_formal pc = .ok (.return_, 1) → W p l e R s m args below meth c H1 locs1 (xn res.2.1 - xn K0) (2 * (xn res.2.1 - xn K0)) Q (F0 m pc ls1 [])) (x1 : Int32) (x2 : Int32) (x3 : Int32) (F : PF) (G : PG) (hm : cb_X4_formal_27 fu x1 x2 x3 F G = some res) {b : Nat} {H : Heap} {locs : List Loc} (hw : cMW s A v a b K0 F G H locs) {ls : Array Slot} (hl : lv_has ls 7 [(0, .ref (a 204)), (1, .int x1), (2, .int x2), (3, .int x3)]) : W p l e R s m args below meth c H locs (xn F - xn K0) (2 * (xn F - xn K0)) Q (F0 m 27 ls []) := by
  have hx := C.1
  have hb := C.2.1
  unfold cb_X4_formal_27 at hm
  refine lv_iload_n hx hb dX4_formal_27 rfl (lv_at hl 2 rfl) ?_
  refine lv_if_eq (tgt := 47) hx hb dX4_formal_28 (by decide) (fun c_1 => ?_) (fun c_1 => ?_)
  · have hm := (if_pos c_1).symm.trans hm
    exact cw_X4_formal_47 fu C hret x1 x3 F G hm hw (lv_sub hl [0, 1, 3] rfl)
  · have hm := (if_neg c_1).symm.trans hm
    exact cw_X4_formal_31 fu C hret x1 x3 F G hm hw (lv_sub hl [0, 1, 3] rfl)
theorem cn_X4_formal_26 (fu : Nat) {res : Int32 × PF × PG} (F : PF) (G : PG) (hm : cb_X4_formal_26 fu F G = some res) : xn F ≤ xn res.2.1 := by
  unfold cb_X4_formal_26 at hm
  obtain rfl := Option.some.inj hm
  exact Nat.le_refl _
theorem cw_X4_formal_26 (fu : Nat) {res : Int32 × PF × PG} (C : cMC p R s m args c A v RX4 cX4_formal 7 3 77 (xn res.2.1 - xn K0)) (hret : ∀ (b1 : Nat) (H1 : Heap) (locs1 : List Loc) (ls1 : Array Slot) (pc : Nat), cMW s A v a b1 K0 res.2.1 res.2.2 H1 locs1 → decode cX4_formal pc = .ok (.return_, 1) → W p l e R s m args below meth c H1 locs1 (xn res.2.1 - xn K0) (2 * (xn res.2.1 - xn K0)) Q (F0 m pc ls1 [])) (F : PF) (G : PG) (hm : cb_X4_formal_26 fu F G = some res) {b : Nat} {H : Heap} {locs : List Loc} (hw : cMW s A v a b K0 F G H locs) {ls : Array Slot} (hl : lv_has ls 7 []) : W p l e R s m args below meth c H locs (xn F - xn K0) (2 * (xn F - xn K0)) Q (F0 m 26 ls []) := by
  have hx := C.1
  have hb := C.2.1
  unfold cb_X4_formal_26 at hm
  obtain rfl := Option.some.inj hm
  exact hret _ _ _ _ _ hw dX4_formal_26
theorem cn_X4_formal_18 (fu : Nat) {res : Int32 × PF × PG} (F : PF) (G : PG) (hm : cb_X4_formal_18 fu F G = some res) : xn F ≤ xn res.2.1 := by
  unfold cb_X4_formal_18 at hm
  obtain ⟨⟨r1, F1, G1⟩, hc, hm⟩ := bind_elim hm
  exact Nat.le_trans (cn_X2_fail fu 2 F G _ hc) (cn_X4_formal_26 fu F1 G1 hm)
theorem cw_X4_formal_18 (fu : Nat) {res : Int32 × PF × PG} (C : cMC p R s m args c A v RX4 cX4_formal 7 3 77 (xn res.2.1 - xn K0)) (hret : ∀ (b1 : Nat) (H1 : Heap) (locs1 : List Loc) (ls1 : Array Slot) (pc : Nat), cMW s A v a b1 K0 res.2.1 res.2.2 H1 locs1 → decode cX4_formal pc = .ok (.return_, 1) → W p l e R s m args below meth c H1 locs1 (xn res.2.1 - xn K0) (2 * (xn res.2.1 - xn K0)) Q (F0 m pc ls1 [])) (F : PF) (G : PG) (hm : cb_X4_formal_18 fu F G = some res) {b : Nat} {H : Heap} {locs : List Loc} (hw : cMW s A v a b K0 F G H locs) {ls : Array Slot} (hl : lv_has ls 7 [(0, .ref (a 204))]) : W p l e R s m args below meth c H locs (xn F - xn K0) (2 * (xn F - xn K0)) Q (F0 m 18 ls []) := by
  have hx := C.1
  have hb := C.2.1
  unfold cb_X4_formal_18 at hm
  refine lv_aload_n hx hb dX4_formal_18 rfl (lv_at hl 0 rfl) ?_
  refine cg_X4_9 C hw dX4_formal_19 ?_
  refine lv_iconst (v := 2) hx hb dX4_formal_22 (by decide) ?_
  obtain ⟨⟨r1, F1, G1⟩, hc, hm⟩ := bind_elim hm
  refine ccallV (n := 1) (As := [.int 2]) (rest := []) C hw (ck_X2_fail l v a _ _ fu 2 F G r1 F1 G1 hc) (cn_X2_fail fu 2 F G _ hc) (Nat.sub_le_sub_right (cn_X4_formal_26 fu F1 G1 hm) _) (crecv_X2 C hw) cm_328 cm_329 cm_330 cm_307 cm_331 (by decide +kernel) rfl (by omega) (by omega) hl.1 rfl (Nat.le_of_ble_eq_true rfl) dX4_formal_23 (fun b H locs hw => ?_)
  exact cw_X4_formal_26 fu C hret F1 G1 hm hw (lv_sub hl [] rfl)
theorem cn_X4_formal_13 (fu : Nat) {res : Int32 × PF × PG} (x1 : Int32) (x2 : Int32) (x3 : Int32) (F : PF) (G : PG) (hm : cb_X4_formal_13 fu x1 x2 x3 F G = some res) : xn F ≤ xn res.2.1 := by
  unfold cb_X4_formal_13 at hm
  by_cases c_1 : x3 = (5 : Int32)
  · have hm := (if_pos c_1).symm.trans hm
    exact (cn_X4_formal_27 fu x1 x2 x3 F G hm)
  · have hm := (if_neg c_1).symm.trans hm
    exact (cn_X4_formal_18 fu F G hm)
theorem cw_X4_formal_13 (fu : Nat) {res : Int32 × PF × PG} (C : cMC p R s m args c A v RX4 cX4_formal 7 3 77 (xn res.2.1 - xn K0)) (hret : ∀ (b1 : Nat) (H1 : Heap) (locs1 : List Loc) (ls1 : Array Slot) (pc : Nat), cMW s A v a b1 K0 res.2.1 res.2.2 H1 locs1 → decode cX4_formal pc = .ok (.return_, 1) → W p l e R s m args below meth c H1 locs1 (xn res.2.1 - xn K0) (2 * (xn res.2.1 - xn K0)) Q (F0 m pc ls1 [])) (x1 : Int32) (x2 : Int32) (x3 : Int32) (F : PF) (G : PG) (hm : cb_X4_formal_13 fu x1 x2 x3 F G = some res) {b : Nat} {H : Heap} {locs : List Loc} (hw : cMW s A v a b K0 F G H locs) {ls : Array Slot} (hl : lv_has ls 7 [(0, .ref (a 204)), (1, .int x1), (2, .int x2), (3, .int x3)]) : W p l e R s m args below meth c H locs (xn F - xn K0) (2 * (xn F - xn K0)) Q (F0 m 13 ls []) := by
  have hx := C.1
  have hb := C.2.1
  unfold cb_X4_formal_13 at hm
  refine lv_iload_n hx hb dX4_formal_13 rfl (lv_at hl 3 rfl) ?_
  refine lv_iconst (v := 5) hx hb dX4_formal_14 (by decide) ?_
  refine lv_icmp_eq (tgt := 27) hx hb dX4_formal_15 (by decide) (fun c_1 => ?_) (fun c_1 => ?_)
  · have hm := (if_pos c_1).symm.trans hm
    exact cw_X4_formal_27 fu C hret x1 x2 x3 F G hm hw (lv_sub hl [0, 1, 2, 3] rfl)
  · have hm := (if_neg c_1).symm.trans hm
    exact cw_X4_formal_18 fu C hret F G hm hw (lv_sub hl [0] rfl)
theorem cn_X4_formal_0 (fu : Nat) {res : Int32 × PF × PG} (x1 : Int32) (x2 : Int32) (F : PF) (G : PG) (hm : cb_X4_formal_0 fu x1 x2 F G = some res) : xn F ≤ xn res.2.1 := by
  unfold cb_X4_formal_0 at hm
  by_cases c_1 : (F 11) = (4 : Int32)
  · have hm := (if_pos c_1).symm.trans hm
    exact (cn_X4_formal_27 fu x1 x2 (F 11) F G hm)
  · have hm := (if_neg c_1).symm.trans hm
    exact (cn_X4_formal_13 fu x1 x2 (F 11) F G hm)
theorem cw_X4_formal_0 (fu : Nat) {res : Int32 × PF × PG} (C : cMC p R s m args c A v RX4 cX4_formal 7 3 77 (xn res.2.1 - xn K0)) (hret : ∀ (b1 : Nat) (H1 : Heap) (locs1 : List Loc) (ls1 : Array Slot) (pc : Nat), cMW s A v a b1 K0 res.2.1 res.2.2 H1 locs1 → decode cX4_formal pc = .ok (.return_, 1) → W p l e R s m args below meth c H1 locs1 (xn res.2.1 - xn K0) (2 * (xn res.2.1 - xn K0)) Q (F0 m pc ls1 [])) (x1 : Int32) (x2 : Int32) (F : PF) (G : PG) (hm : cb_X4_formal_0 fu x1 x2 F G = some res) {b : Nat} {H : Heap} {locs : List Loc} (hw : cMW s A v a b K0 F G H locs) {ls : Array Slot} (hl : lv_has ls 7 [(0, .ref (a 204)), (1, .int x1), (2, .int x2)]) : W p l e R s m args below meth c H locs (xn F - xn K0) (2 * (xn F - xn K0)) Q (F0 m 0 ls []) := by
  have hx := C.1
  have hb := C.2.1
  unfold cb_X4_formal_0 at hm
  refine lv_aload_n hx hb dX4_formal_0 rfl (lv_at hl 0 rfl) ?_
  refine cg_X4_9 C hw dX4_formal_1 ?_
  refine cg_X4_52 C hw dX4_formal_4 ?_
  refine lv_istore_n (lv' := [(3, .int (F 11)), (0, .ref (a 204)), (1, .int x1), (2, .int x2)]) hx hb dX4_formal_7 rfl hl (by decide) rfl (fun ls hl => ?_)
  refine lv_iload_n hx hb dX4_formal_8 rfl (lv_at hl 0 rfl) ?_
  refine lv_iconst (v := 4) hx hb dX4_formal_9 (by decide) ?_
  refine lv_icmp_eq (tgt := 27) hx hb dX4_formal_10 (by decide) (fun c_1 => ?_) (fun c_1 => ?_)
  · have hm := (if_pos c_1).symm.trans hm
    exact cw_X4_formal_27 fu C hret x1 x2 (F 11) F G hm hw (lv_sub hl [1, 2, 3, 0] rfl)
  · have hm := (if_neg c_1).symm.trans hm
    exact cw_X4_formal_13 fu C hret x1 x2 (F 11) F G hm hw (lv_sub hl [1, 2, 3, 0] rfl)
theorem cn_X4_formal (fu : Nat) (x1 : Int32) (x2 : Int32) (F : PF) (G : PG) (q : Int32 × PF × PG) (hm : cf_X4_formal fu x1 x2 F G = some q) : xn F ≤ xn q.2.1 := cn_X4_formal_0 fu x1 x2 F G hm
theorem ck_X4_formal (l : Launch) (v : EV) (a : Nat → Nat) (b sz : Nat) (fu : Nat) (x1 : Int32) (x2 : Int32) (F : PF) (G : PG) (r : Int32) (F1 : PF) (G1 : PG) (hm : cf_X4_formal fu x1 x2 F G = some (r, F1, G1)) : cMV l yX4_formal cX4_formal 7 3 77 v a b sz [.ref (a 204), .int x1, .int x2] F G F1 G1 := cMV.of (by decide) (Nat.le_of_ble_eq_true rfl) (fun p e R s m args below meth c Q A H locs ls C hw hl hret => cw_X4_formal_0 fu (res := (r, F1, G1)) C hret x1 x2 F G hm hw hl)
def cb_X4_formals_94 (fu : Nat) (F : PF) (G : PG) : PR := some (0, F, G)
def cb_X4_formals_85 (fu : Nat) (F : PF) (G : PG) : PR := (cf_X2_closesWith fu 20 F G).bind (fun q => cb_X4_formals_94 fu q.2.1 q.2.2)
def cb_X4_formals_79 (fu : Nat) (ag_33 : Int32 → Int32 → Int32 → PF → PG → PR) (x1 : Int32) (x2 : Int32) (x3 : Int32) (F : PF) (G : PG) : PR := ag_33 x1 x2 (x3 + 1) F G
def cb_X4_formals_72 (fu : Nat) (ag_33 : Int32 → Int32 → Int32 → PF → PG → PR) (x1 : Int32) (x2 : Int32) (x3 : Int32) (F : PF) (G : PG) : PR := (cf_X2_next fu F G).bind (fun q => cb_X4_formals_79 fu ag_33 x1 x2 x3 q.2.1 q.2.2)
def cb_X4_formals_67 (fu : Nat) (ag_33 : Int32 → Int32 → Int32 → PF → PG → PR) (x1 : Int32) (x3 : Int32) (z0 : Int32) (F : PF) (G : PG) : PR := if z0 = (0 : Int32) then cb_X4_formals_79 fu ag_33 x1 z0 x3 F G else cb_X4_formals_72 fu ag_33 x1 z0 x3 F G
def cb_X4_formals_66 (fu : Nat) (ag_33 : Int32 → Int32 → Int32 → PF → PG → PR) (x1 : Int32) (x3 : Int32) (F : PF) (G : PG) : PR := cb_X4_formals_67 fu ag_33 x1 x3 0 F G
def cb_X4_formals_62 (fu : Nat) (ag_33 : Int32 → Int32 → Int32 → PF → PG → PR) (x1 : Int32) (x3 : Int32) (F : PF) (G : PG) : PR := cb_X4_formals_67 fu ag_33 x1 x3 1 F G
def cb_X4_formals_50 (fu : Nat) (ag_33 : Int32 → Int32 → Int32 → PF → PG → PR) (x1 : Int32) (x3 : Int32) (F : PF) (G : PG) : PR := if (F 11) = (25 : Int32) then cb_X4_formals_62 fu ag_33 x1 x3 F G else cb_X4_formals_66 fu ag_33 x1 x3 F G
def cb_X4_formals_44 (fu : Nat) (ag_33 : Int32 → Int32 → Int32 → PF → PG → PR) (x1 : Int32) (x3 : Int32) (F : PF) (G : PG) : PR := (cf_X4_formal fu x3 x1 F G).bind (fun q => cb_X4_formals_50 fu ag_33 x1 x3 q.2.1 q.2.2)
def cb_X4_formals_40 (fu : Nat) (ag_33 : Int32 → Int32 → Int32 → PF → PG → PR) (x1 : Int32) (x2 : Int32) (x3 : Int32) (F : PF) (G : PG) : PR := if x2 = (0 : Int32) then cb_X4_formals_85 fu F G else cb_X4_formals_44 fu ag_33 x1 x3 F G
def cb_X4_formals_33 (fu : Nat) (ag_33 : Int32 → Int32 → Int32 → PF → PG → PR) (x1 : Int32) (x2 : Int32) (x3 : Int32) (F : PF) (G : PG) : PR := if (4001 : Int32) ≤ x3 then cb_X4_formals_85 fu F G else cb_X4_formals_40 fu ag_33 x1 x2 x3 F G
def cl_X4_formals_33 (fu : Nat) : Nat → Int32 → Int32 → Int32 → PF → PG → PR
  | 0 => fun _ _ _ _ _ => none
  | n + 1 => fun x1 x2 x3 F G => cb_X4_formals_33 fu (cl_X4_formals_33 fu n) x1 x2 x3 F G
def cb_X4_formals_30 (fu : Nat) (x1 : Int32) (z0 : Int32) (F : PF) (G : PG) : PR := cl_X4_formals_33 fu fu x1 z0 0 F G
def cb_X4_formals_29 (fu : Nat) (x1 : Int32) (F : PF) (G : PG) : PR := cb_X4_formals_30 fu x1 0 F G
def cb_X4_formals_25 (fu : Nat) (x1 : Int32) (F : PF) (G : PG) : PR := cb_X4_formals_30 fu x1 1 F G
def cb_X4_formals_13 (fu : Nat) (x1 : Int32) (F : PF) (G : PG) : PR := if (F 11) = (20 : Int32) then cb_X4_formals_29 fu x1 F G else cb_X4_formals_25 fu x1 F G
def cb_X4_formals_12 (fu : Nat) (F : PF) (G : PG) : PR := some (0, F, G)
def cb_X4_formals_9 (fu : Nat) (x1 : Int32) (z0 : Int32) (F : PF) (G : PG) : PR := if z0 = (0 : Int32) then cb_X4_formals_12 fu F G else cb_X4_formals_13 fu x1 F G
def cb_X4_formals_0 (fu : Nat) (x1 : Int32) (F : PF) (G : PG) : PR := (cf_X2_opens fu 19 F G).bind (fun q => cb_X4_formals_9 fu x1 q.1 q.2.1 q.2.2)
def cf_X4_formals (fu : Nat) (x1 : Int32) (F : PF) (G : PG) : PR := cb_X4_formals_0 fu x1 F G
theorem cn_X4_formals_94 (fu : Nat) {res : Int32 × PF × PG} (F : PF) (G : PG) (hm : cb_X4_formals_94 fu F G = some res) : xn F ≤ xn res.2.1 := by
  unfold cb_X4_formals_94 at hm
  obtain rfl := Option.some.inj hm
  exact Nat.le_refl _
theorem cw_X4_formals_94 (fu : Nat) {res : Int32 × PF × PG} (C : cMC p R s m args c A v RX4 cX4_formals 4 4 103 (xn res.2.1 - xn K0)) (hret : ∀ (b1 : Nat) (H1 : Heap) (locs1 : List Loc) (ls1 : Array Slot) (pc : Nat), cMW s A v a b1 K0 res.2.1 res.2.2 H1 locs1 → decode cX4_formals pc = .ok (.return_, 1) → W p l e R s m args below meth c H1 locs1 (xn res.2.1 - xn K0) (2 * (xn res.2.1 - xn K0)) Q (F0 m pc ls1 [])) (F : PF) (G : PG) (hm : cb_X4_formals_94 fu F G = some res) {b : Nat} {H : Heap} {locs : List Loc} (hw : cMW s A v a b K0 F G H locs) {ls : Array Slot} (hl : lv_has ls 4 []) : W p l e R s m args below meth c H locs (xn F - xn K0) (2 * (xn F - xn K0)) Q (F0 m 94 ls []) := by
  have hx := C.1
  have hb := C.2.1
  unfold cb_X4_formals_94 at hm
  obtain rfl := Option.some.inj hm
  exact hret _ _ _ _ _ hw dX4_formals_94
theorem cn_X4_formals_85 (fu : Nat) {res : Int32 × PF × PG} (F : PF) (G : PG) (hm : cb_X4_formals_85 fu F G = some res) : xn F ≤ xn res.2.1 := by
  unfold cb_X4_formals_85 at hm
  obtain ⟨⟨r1, F1, G1⟩, hc, hm⟩ := bind_elim hm
  exact Nat.le_trans (cn_X2_closesWith fu 20 F G _ hc) (cn_X4_formals_94 fu F1 G1 hm)
theorem cw_X4_formals_85 (fu : Nat) {res : Int32 × PF × PG} (C : cMC p R s m args c A v RX4 cX4_formals 4 4 103 (xn res.2.1 - xn K0)) (hret : ∀ (b1 : Nat) (H1 : Heap) (locs1 : List Loc) (ls1 : Array Slot) (pc : Nat), cMW s A v a b1 K0 res.2.1 res.2.2 H1 locs1 → decode cX4_formals pc = .ok (.return_, 1) → W p l e R s m args below meth c H1 locs1 (xn res.2.1 - xn K0) (2 * (xn res.2.1 - xn K0)) Q (F0 m pc ls1 [])) (F : PF) (G : PG) (hm : cb_X4_formals_85 fu F G = some res) {b : Nat} {H : Heap} {locs : List Loc} (hw : cMW s A v a b K0 F G H locs) {ls : Array Slot} (hl : lv_has ls 4 [(0, .ref (a 204))]) : W p l e R s m args below meth c H locs (xn F - xn K0) (2 * (xn F - xn K0)) Q (F0 m 85 ls []) := by
  have hx := C.1
  have hb := C.2.1
  unfold cb_X4_formals_85 at hm
  refine lv_aload_n hx hb dX4_formals_85 rfl (lv_at hl 0 rfl) ?_
  refine cg_X4_9 C hw dX4_formals_86 ?_
  refine lv_bipush (v := 20) hx hb dX4_formals_89 (by decide) ?_
  obtain ⟨⟨r1, F1, G1⟩, hc, hm⟩ := bind_elim hm
  refine ccallV (n := 1) (As := [.int 20]) (rest := []) C hw (ck_X2_closesWith l v a _ _ fu 20 F G r1 F1 G1 hc) (cn_X2_closesWith fu 20 F G _ hc) (Nat.sub_le_sub_right (cn_X4_formals_94 fu F1 G1 hm) _) (crecv_X2 C hw) cm_629 cm_459 cm_460 cm_307 cm_461 (by decide +kernel) rfl (by omega) (by omega) hl.1 rfl (Nat.le_of_ble_eq_true rfl) dX4_formals_91 (fun b H locs hw => ?_)
  exact cw_X4_formals_94 fu C hret F1 G1 hm hw (lv_sub hl [] rfl)
theorem cn_X4_formals_79 (fu : Nat) {res : Int32 × PF × PG} (ag_33 : Int32 → Int32 → Int32 → PF → PG → PR) (hagn_33 : ∀ (x1 : Int32) (x2 : Int32) (x3 : Int32) (F : PF) (G : PG), ag_33 x1 x2 x3 F G = some res → xn F ≤ xn res.2.1) (x1 : Int32) (x2 : Int32) (x3 : Int32) (F : PF) (G : PG) (hm : cb_X4_formals_79 fu ag_33 x1 x2 x3 F G = some res) : xn F ≤ xn res.2.1 := by
  unfold cb_X4_formals_79 at hm
  exact (hagn_33 x1 x2 (x3 + 1) F G hm)
theorem cw_X4_formals_79 (fu : Nat) {res : Int32 × PF × PG} (C : cMC p R s m args c A v RX4 cX4_formals 4 4 103 (xn res.2.1 - xn K0)) (hret : ∀ (b1 : Nat) (H1 : Heap) (locs1 : List Loc) (ls1 : Array Slot) (pc : Nat), cMW s A v a b1 K0 res.2.1 res.2.2 H1 locs1 → decode cX4_formals pc = .ok (.return_, 1) → W p l e R s m args below meth c H1 locs1 (xn res.2.1 - xn K0) (2 * (xn res.2.1 - xn K0)) Q (F0 m pc ls1 [])) (ag_33 : Int32 → Int32 → Int32 → PF → PG → PR) (hag_33 : ∀ (x1 : Int32) (x2 : Int32) (x3 : Int32) (F : PF) (G : PG), ag_33 x1 x2 x3 F G = some res → ∀ (b : Nat) (H : Heap) (locs : List Loc) (ls : Array Slot), cMW s A v a b K0 F G H locs → lv_has ls 4 [(0, .ref (a 204)), (1, .int x1), (2, .int x2), (3, .int x3)] → W p l e R s m args below meth c H locs (xn F - xn K0) (2 * (xn F - xn K0)) Q (F0 m 33 ls [])) (hagn_33 : ∀ (x1 : Int32) (x2 : Int32) (x3 : Int32) (F : PF) (G : PG), ag_33 x1 x2 x3 F G = some res → xn F ≤ xn res.2.1) (x1 : Int32) (x2 : Int32) (x3 : Int32) (F : PF) (G : PG) (hm : cb_X4_formals_79 fu ag_33 x1 x2 x3 F G = some res) {b : Nat} {H : Heap} {locs : List Loc} (hw : cMW s A v a b K0 F G H locs) {ls : Array Slot} (hl : lv_has ls 4 [(0, .ref (a 204)), (1, .int x1), (2, .int x2), (3, .int x3)]) : W p l e R s m args below meth c H locs (xn F - xn K0) (2 * (xn F - xn K0)) Q (F0 m 79 ls []) := by
  have hx := C.1
  have hb := C.2.1
  unfold cb_X4_formals_79 at hm
  refine lv_iinc (v := (x3 + 1)) (lv' := [(3, .int (x3 + 1)), (0, .ref (a 204)), (1, .int x1), (2, .int x2)]) hx hb dX4_formals_79 hl (k := 3) rfl (by rfl) (by decide) rfl (fun ls hl => ?_)
  refine lv_goto (tgt := 33) hx hb dX4_formals_82 (by decide) ?_
  exact hag_33 x1 x2 (x3 + 1) F G hm _ _ _ _ hw (lv_sub hl [1, 2, 3, 0] rfl)
theorem cn_X4_formals_72 (fu : Nat) {res : Int32 × PF × PG} (ag_33 : Int32 → Int32 → Int32 → PF → PG → PR) (hagn_33 : ∀ (x1 : Int32) (x2 : Int32) (x3 : Int32) (F : PF) (G : PG), ag_33 x1 x2 x3 F G = some res → xn F ≤ xn res.2.1) (x1 : Int32) (x2 : Int32) (x3 : Int32) (F : PF) (G : PG) (hm : cb_X4_formals_72 fu ag_33 x1 x2 x3 F G = some res) : xn F ≤ xn res.2.1 := by
  unfold cb_X4_formals_72 at hm
  obtain ⟨⟨r1, F1, G1⟩, hc, hm⟩ := bind_elim hm
  exact Nat.le_trans (cn_X2_next fu F G _ hc) (cn_X4_formals_79 fu ag_33 hagn_33 x1 x2 x3 F1 G1 hm)
theorem cw_X4_formals_72 (fu : Nat) {res : Int32 × PF × PG} (C : cMC p R s m args c A v RX4 cX4_formals 4 4 103 (xn res.2.1 - xn K0)) (hret : ∀ (b1 : Nat) (H1 : Heap) (locs1 : List Loc) (ls1 : Array Slot) (pc : Nat), cMW s A v a b1 K0 res.2.1 res.2.2 H1 locs1 → decode cX4_formals pc = .ok (.return_, 1) → W p l e R s m args below meth c H1 locs1 (xn res.2.1 - xn K0) (2 * (xn res.2.1 - xn K0)) Q (F0 m pc ls1 [])) (ag_33 : Int32 → Int32 → Int32 → PF → PG → PR) (hag_33 : ∀ (x1 : Int32) (x2 : Int32) (x3 : Int32) (F : PF) (G : PG), ag_33 x1 x2 x3 F G = some res → ∀ (b : Nat) (H : Heap) (locs : List Loc) (ls : Array Slot), cMW s A v a b K0 F G H locs → lv_has ls 4 [(0, .ref (a 204)), (1, .int x1), (2, .int x2), (3, .int x3)] → W p l e R s m args below meth c H locs (xn F - xn K0) (2 * (xn F - xn K0)) Q (F0 m 33 ls [])) (hagn_33 : ∀ (x1 : Int32) (x2 : Int32) (x3 : Int32) (F : PF) (G : PG), ag_33 x1 x2 x3 F G = some res → xn F ≤ xn res.2.1) (x1 : Int32) (x2 : Int32) (x3 : Int32) (F : PF) (G : PG) (hm : cb_X4_formals_72 fu ag_33 x1 x2 x3 F G = some res) {b : Nat} {H : Heap} {locs : List Loc} (hw : cMW s A v a b K0 F G H locs) {ls : Array Slot} (hl : lv_has ls 4 [(0, .ref (a 204)), (1, .int x1), (2, .int x2), (3, .int x3)]) : W p l e R s m args below meth c H locs (xn F - xn K0) (2 * (xn F - xn K0)) Q (F0 m 72 ls []) := by
  have hx := C.1
  have hb := C.2.1
  unfold cb_X4_formals_72 at hm
  refine lv_aload_n hx hb dX4_formals_72 rfl (lv_at hl 0 rfl) ?_
  refine cg_X4_9 C hw dX4_formals_73 ?_
  obtain ⟨⟨r1, F1, G1⟩, hc, hm⟩ := bind_elim hm
  refine ccallV (n := 0) (As := []) (rest := []) C hw (ck_X2_next l v a _ _ fu F G r1 F1 G1 hc) (cn_X2_next fu F G _ hc) (Nat.sub_le_sub_right (cn_X4_formals_79 fu ag_33 hagn_33 x1 x2 x3 F1 G1 hm) _) (crecv_X2 C hw) cm_320 cm_321 cm_322 cm_307 cm_323 (by decide +kernel) rfl (by omega) (by omega) hl.1 rfl (Nat.le_of_ble_eq_true rfl) dX4_formals_76 (fun b H locs hw => ?_)
  exact cw_X4_formals_79 fu C hret ag_33 hag_33 hagn_33 x1 x2 x3 F1 G1 hm hw (lv_sub hl [0, 1, 2, 3] rfl)
theorem cn_X4_formals_67 (fu : Nat) {res : Int32 × PF × PG} (ag_33 : Int32 → Int32 → Int32 → PF → PG → PR) (hagn_33 : ∀ (x1 : Int32) (x2 : Int32) (x3 : Int32) (F : PF) (G : PG), ag_33 x1 x2 x3 F G = some res → xn F ≤ xn res.2.1) (x1 : Int32) (x3 : Int32) (z0 : Int32) (F : PF) (G : PG) (hm : cb_X4_formals_67 fu ag_33 x1 x3 z0 F G = some res) : xn F ≤ xn res.2.1 := by
  unfold cb_X4_formals_67 at hm
  by_cases c_1 : z0 = (0 : Int32)
  · have hm := (if_pos c_1).symm.trans hm
    exact (cn_X4_formals_79 fu ag_33 hagn_33 x1 z0 x3 F G hm)
  · have hm := (if_neg c_1).symm.trans hm
    exact (cn_X4_formals_72 fu ag_33 hagn_33 x1 z0 x3 F G hm)
theorem cw_X4_formals_67 (fu : Nat) {res : Int32 × PF × PG} (C : cMC p R s m args c A v RX4 cX4_formals 4 4 103 (xn res.2.1 - xn K0)) (hret : ∀ (b1 : Nat) (H1 : Heap) (locs1 : List Loc) (ls1 : Array Slot) (pc : Nat), cMW s A v a b1 K0 res.2.1 res.2.2 H1 locs1 → decode cX4_formals pc = .ok (.return_, 1) → W p l e R s m args below meth c H1 locs1 (xn res.2.1 - xn K0) (2 * (xn res.2.1 - xn K0)) Q (F0 m pc ls1 [])) (ag_33 : Int32 → Int32 → Int32 → PF → PG → PR) (hag_33 : ∀ (x1 : Int32) (x2 : Int32) (x3 : Int32) (F : PF) (G : PG), ag_33 x1 x2 x3 F G = some res → ∀ (b : Nat) (H : Heap) (locs : List Loc) (ls : Array Slot), cMW s A v a b K0 F G H locs → lv_has ls 4 [(0, .ref (a 204)), (1, .int x1), (2, .int x2), (3, .int x3)] → W p l e R s m args below meth c H locs (xn F - xn K0) (2 * (xn F - xn K0)) Q (F0 m 33 ls [])) (hagn_33 : ∀ (x1 : Int32) (x2 : Int32) (x3 : Int32) (F : PF) (G : PG), ag_33 x1 x2 x3 F G = some res → xn F ≤ xn res.2.1) (x1 : Int32) (x3 : Int32) (z0 : Int32) (F : PF) (G : PG) (hm : cb_X4_formals_67 fu ag_33 x1 x3 z0 F G = some res) {b : Nat} {H : Heap} {locs : List Loc} (hw : cMW s A v a b K0 F G H locs) {ls : Array Slot} (hl : lv_has ls 4 [(0, .ref (a 204)), (1, .int x1), (3, .int x3)]) : W p l e R s m args below meth c H locs (xn F - xn K0) (2 * (xn F - xn K0)) Q (F0 m 67 ls [.int z0]) := by
  have hx := C.1
  have hb := C.2.1
  unfold cb_X4_formals_67 at hm
  refine lv_istore_n (lv' := [(2, .int z0), (0, .ref (a 204)), (1, .int x1), (3, .int x3)]) hx hb dX4_formals_67 rfl hl (by decide) rfl (fun ls hl => ?_)
  refine lv_iload_n hx hb dX4_formals_68 rfl (lv_at hl 0 rfl) ?_
  refine lv_if_eq (tgt := 79) hx hb dX4_formals_69 (by decide) (fun c_1 => ?_) (fun c_1 => ?_)
  · have hm := (if_pos c_1).symm.trans hm
    exact cw_X4_formals_79 fu C hret ag_33 hag_33 hagn_33 x1 z0 x3 F G hm hw (lv_sub hl [1, 2, 0, 3] rfl)
  · have hm := (if_neg c_1).symm.trans hm
    exact cw_X4_formals_72 fu C hret ag_33 hag_33 hagn_33 x1 z0 x3 F G hm hw (lv_sub hl [1, 2, 0, 3] rfl)
theorem cn_X4_formals_66 (fu : Nat) {res : Int32 × PF × PG} (ag_33 : Int32 → Int32 → Int32 → PF → PG → PR) (hagn_33 : ∀ (x1 : Int32) (x2 : Int32) (x3 : Int32) (F : PF) (G : PG), ag_33 x1 x2 x3 F G = some res → xn F ≤ xn res.2.1) (x1 : Int32) (x3 : Int32) (F : PF) (G : PG) (hm : cb_X4_formals_66 fu ag_33 x1 x3 F G = some res) : xn F ≤ xn res.2.1 := by
  unfold cb_X4_formals_66 at hm
  exact (cn_X4_formals_67 fu ag_33 hagn_33 x1 x3 0 F G hm)
theorem cw_X4_formals_66 (fu : Nat) {res : Int32 × PF × PG} (C : cMC p R s m args c A v RX4 cX4_formals 4 4 103 (xn res.2.1 - xn K0)) (hret : ∀ (b1 : Nat) (H1 : Heap) (locs1 : List Loc) (ls1 : Array Slot) (pc : Nat), cMW s A v a b1 K0 res.2.1 res.2.2 H1 locs1 → decode cX4_formals pc = .ok (.return_, 1) → W p l e R s m args below meth c H1 locs1 (xn res.2.1 - xn K0) (2 * (xn res.2.1 - xn K0)) Q (F0 m pc ls1 [])) (ag_33 : Int32 → Int32 → Int32 → PF → PG → PR) (hag_33 : ∀ (x1 : Int32) (x2 : Int32) (x3 : Int32) (F : PF) (G : PG), ag_33 x1 x2 x3 F G = some res → ∀ (b : Nat) (H : Heap) (locs : List Loc) (ls : Array Slot), cMW s A v a b K0 F G H locs → lv_has ls 4 [(0, .ref (a 204)), (1, .int x1), (2, .int x2), (3, .int x3)] → W p l e R s m args below meth c H locs (xn F - xn K0) (2 * (xn F - xn K0)) Q (F0 m 33 ls [])) (hagn_33 : ∀ (x1 : Int32) (x2 : Int32) (x3 : Int32) (F : PF) (G : PG), ag_33 x1 x2 x3 F G = some res → xn F ≤ xn res.2.1) (x1 : Int32) (x3 : Int32) (F : PF) (G : PG) (hm : cb_X4_formals_66 fu ag_33 x1 x3 F G = some res) {b : Nat} {H : Heap} {locs : List Loc} (hw : cMW s A v a b K0 F G H locs) {ls : Array Slot} (hl : lv_has ls 4 [(0, .ref (a 204)), (1, .int x1), (3, .int x3)]) : W p l e R s m args below meth c H locs (xn F - xn K0) (2 * (xn F - xn K0)) Q (F0 m 66 ls []) := by
  have hx := C.1
  have hb := C.2.1
  unfold cb_X4_formals_66 at hm
  refine lv_iconst (v := 0) hx hb dX4_formals_66 (by decide) ?_
  exact cw_X4_formals_67 fu C hret ag_33 hag_33 hagn_33 x1 x3 0 F G hm hw (lv_sub hl [0, 1, 2] rfl)
theorem cn_X4_formals_62 (fu : Nat) {res : Int32 × PF × PG} (ag_33 : Int32 → Int32 → Int32 → PF → PG → PR) (hagn_33 : ∀ (x1 : Int32) (x2 : Int32) (x3 : Int32) (F : PF) (G : PG), ag_33 x1 x2 x3 F G = some res → xn F ≤ xn res.2.1) (x1 : Int32) (x3 : Int32) (F : PF) (G : PG) (hm : cb_X4_formals_62 fu ag_33 x1 x3 F G = some res) : xn F ≤ xn res.2.1 := by
  unfold cb_X4_formals_62 at hm
  exact (cn_X4_formals_67 fu ag_33 hagn_33 x1 x3 1 F G hm)
theorem cw_X4_formals_62 (fu : Nat) {res : Int32 × PF × PG} (C : cMC p R s m args c A v RX4 cX4_formals 4 4 103 (xn res.2.1 - xn K0)) (hret : ∀ (b1 : Nat) (H1 : Heap) (locs1 : List Loc) (ls1 : Array Slot) (pc : Nat), cMW s A v a b1 K0 res.2.1 res.2.2 H1 locs1 → decode cX4_formals pc = .ok (.return_, 1) → W p l e R s m args below meth c H1 locs1 (xn res.2.1 - xn K0) (2 * (xn res.2.1 - xn K0)) Q (F0 m pc ls1 [])) (ag_33 : Int32 → Int32 → Int32 → PF → PG → PR) (hag_33 : ∀ (x1 : Int32) (x2 : Int32) (x3 : Int32) (F : PF) (G : PG), ag_33 x1 x2 x3 F G = some res → ∀ (b : Nat) (H : Heap) (locs : List Loc) (ls : Array Slot), cMW s A v a b K0 F G H locs → lv_has ls 4 [(0, .ref (a 204)), (1, .int x1), (2, .int x2), (3, .int x3)] → W p l e R s m args below meth c H locs (xn F - xn K0) (2 * (xn F - xn K0)) Q (F0 m 33 ls [])) (hagn_33 : ∀ (x1 : Int32) (x2 : Int32) (x3 : Int32) (F : PF) (G : PG), ag_33 x1 x2 x3 F G = some res → xn F ≤ xn res.2.1) (x1 : Int32) (x3 : Int32) (F : PF) (G : PG) (hm : cb_X4_formals_62 fu ag_33 x1 x3 F G = some res) {b : Nat} {H : Heap} {locs : List Loc} (hw : cMW s A v a b K0 F G H locs) {ls : Array Slot} (hl : lv_has ls 4 [(0, .ref (a 204)), (1, .int x1), (3, .int x3)]) : W p l e R s m args below meth c H locs (xn F - xn K0) (2 * (xn F - xn K0)) Q (F0 m 62 ls []) := by
  have hx := C.1
  have hb := C.2.1
  unfold cb_X4_formals_62 at hm
  refine lv_iconst (v := 1) hx hb dX4_formals_62 (by decide) ?_
  refine lv_goto (tgt := 67) hx hb dX4_formals_63 (by decide) ?_
  exact cw_X4_formals_67 fu C hret ag_33 hag_33 hagn_33 x1 x3 1 F G hm hw (lv_sub hl [0, 1, 2] rfl)
theorem cn_X4_formals_50 (fu : Nat) {res : Int32 × PF × PG} (ag_33 : Int32 → Int32 → Int32 → PF → PG → PR) (hagn_33 : ∀ (x1 : Int32) (x2 : Int32) (x3 : Int32) (F : PF) (G : PG), ag_33 x1 x2 x3 F G = some res → xn F ≤ xn res.2.1) (x1 : Int32) (x3 : Int32) (F : PF) (G : PG) (hm : cb_X4_formals_50 fu ag_33 x1 x3 F G = some res) : xn F ≤ xn res.2.1 := by
  unfold cb_X4_formals_50 at hm
  by_cases c_1 : (F 11) = (25 : Int32)
  · have hm := (if_pos c_1).symm.trans hm
    exact (cn_X4_formals_62 fu ag_33 hagn_33 x1 x3 F G hm)
  · have hm := (if_neg c_1).symm.trans hm
    exact (cn_X4_formals_66 fu ag_33 hagn_33 x1 x3 F G hm)
theorem cw_X4_formals_50 (fu : Nat) {res : Int32 × PF × PG} (C : cMC p R s m args c A v RX4 cX4_formals 4 4 103 (xn res.2.1 - xn K0)) (hret : ∀ (b1 : Nat) (H1 : Heap) (locs1 : List Loc) (ls1 : Array Slot) (pc : Nat), cMW s A v a b1 K0 res.2.1 res.2.2 H1 locs1 → decode cX4_formals pc = .ok (.return_, 1) → W p l e R s m args below meth c H1 locs1 (xn res.2.1 - xn K0) (2 * (xn res.2.1 - xn K0)) Q (F0 m pc ls1 [])) (ag_33 : Int32 → Int32 → Int32 → PF → PG → PR) (hag_33 : ∀ (x1 : Int32) (x2 : Int32) (x3 : Int32) (F : PF) (G : PG), ag_33 x1 x2 x3 F G = some res → ∀ (b : Nat) (H : Heap) (locs : List Loc) (ls : Array Slot), cMW s A v a b K0 F G H locs → lv_has ls 4 [(0, .ref (a 204)), (1, .int x1), (2, .int x2), (3, .int x3)] → W p l e R s m args below meth c H locs (xn F - xn K0) (2 * (xn F - xn K0)) Q (F0 m 33 ls [])) (hagn_33 : ∀ (x1 : Int32) (x2 : Int32) (x3 : Int32) (F : PF) (G : PG), ag_33 x1 x2 x3 F G = some res → xn F ≤ xn res.2.1) (x1 : Int32) (x3 : Int32) (F : PF) (G : PG) (hm : cb_X4_formals_50 fu ag_33 x1 x3 F G = some res) {b : Nat} {H : Heap} {locs : List Loc} (hw : cMW s A v a b K0 F G H locs) {ls : Array Slot} (hl : lv_has ls 4 [(0, .ref (a 204)), (1, .int x1), (3, .int x3)]) : W p l e R s m args below meth c H locs (xn F - xn K0) (2 * (xn F - xn K0)) Q (F0 m 50 ls []) := by
  have hx := C.1
  have hb := C.2.1
  unfold cb_X4_formals_50 at hm
  refine lv_aload_n hx hb dX4_formals_50 rfl (lv_at hl 0 rfl) ?_
  refine cg_X4_9 C hw dX4_formals_51 ?_
  refine cg_X4_52 C hw dX4_formals_54 ?_
  refine lv_bipush (v := 25) hx hb dX4_formals_57 (by decide) ?_
  refine lv_icmp_ne (tgt := 66) hx hb dX4_formals_59 (by decide) (fun c_1 => ?_) (fun c_1 => ?_)
  · have hm := (if_neg c_1).symm.trans hm
    exact cw_X4_formals_66 fu C hret ag_33 hag_33 hagn_33 x1 x3 F G hm hw (lv_sub hl [0, 1, 2] rfl)
  · have hm := (if_pos c_1).symm.trans hm
    exact cw_X4_formals_62 fu C hret ag_33 hag_33 hagn_33 x1 x3 F G hm hw (lv_sub hl [0, 1, 2] rfl)
theorem cn_X4_formals_44 (fu : Nat) {res : Int32 × PF × PG} (ag_33 : Int32 → Int32 → Int32 → PF → PG → PR) (hagn_33 : ∀ (x1 : Int32) (x2 : Int32) (x3 : Int32) (F : PF) (G : PG), ag_33 x1 x2 x3 F G = some res → xn F ≤ xn res.2.1) (x1 : Int32) (x3 : Int32) (F : PF) (G : PG) (hm : cb_X4_formals_44 fu ag_33 x1 x3 F G = some res) : xn F ≤ xn res.2.1 := by
  unfold cb_X4_formals_44 at hm
  obtain ⟨⟨r1, F1, G1⟩, hc, hm⟩ := bind_elim hm
  exact Nat.le_trans (cn_X4_formal fu x3 x1 F G _ hc) (cn_X4_formals_50 fu ag_33 hagn_33 x1 x3 F1 G1 hm)
theorem cw_X4_formals_44 (fu : Nat) {res : Int32 × PF × PG} (C : cMC p R s m args c A v RX4 cX4_formals 4 4 103 (xn res.2.1 - xn K0)) (hret : ∀ (b1 : Nat) (H1 : Heap) (locs1 : List Loc) (ls1 : Array Slot) (pc : Nat), cMW s A v a b1 K0 res.2.1 res.2.2 H1 locs1 → decode cX4_formals pc = .ok (.return_, 1) → W p l e R s m args below meth c H1 locs1 (xn res.2.1 - xn K0) (2 * (xn res.2.1 - xn K0)) Q (F0 m pc ls1 [])) (ag_33 : Int32 → Int32 → Int32 → PF → PG → PR) (hag_33 : ∀ (x1 : Int32) (x2 : Int32) (x3 : Int32) (F : PF) (G : PG), ag_33 x1 x2 x3 F G = some res → ∀ (b : Nat) (H : Heap) (locs : List Loc) (ls : Array Slot), cMW s A v a b K0 F G H locs → lv_has ls 4 [(0, .ref (a 204)), (1, .int x1), (2, .int x2), (3, .int x3)] → W p l e R s m args below meth c H locs (xn F - xn K0) (2 * (xn F - xn K0)) Q (F0 m 33 ls [])) (hagn_33 : ∀ (x1 : Int32) (x2 : Int32) (x3 : Int32) (F : PF) (G : PG), ag_33 x1 x2 x3 F G = some res → xn F ≤ xn res.2.1) (x1 : Int32) (x3 : Int32) (F : PF) (G : PG) (hm : cb_X4_formals_44 fu ag_33 x1 x3 F G = some res) {b : Nat} {H : Heap} {locs : List Loc} (hw : cMW s A v a b K0 F G H locs) {ls : Array Slot} (hl : lv_has ls 4 [(0, .ref (a 204)), (1, .int x1), (3, .int x3)]) : W p l e R s m args below meth c H locs (xn F - xn K0) (2 * (xn F - xn K0)) Q (F0 m 44 ls []) := by
  have hx := C.1
  have hb := C.2.1
  unfold cb_X4_formals_44 at hm
  refine lv_aload_n hx hb dX4_formals_44 rfl (lv_at hl 0 rfl) ?_
  refine lv_iload_n hx hb dX4_formals_45 rfl (lv_at hl 2 rfl) ?_
  refine lv_iload_n hx hb dX4_formals_46 rfl (lv_at hl 1 rfl) ?_
  obtain ⟨⟨r1, F1, G1⟩, hc, hm⟩ := bind_elim hm
  refine ccallV (n := 2) (As := [.int x3, .int x1]) (rest := []) C hw (ck_X4_formal l v a _ _ fu x3 x1 F G r1 F1 G1 hc) (cn_X4_formal fu x3 x1 F G _ hc) (Nat.sub_le_sub_right (cn_X4_formals_50 fu ag_33 hagn_33 x1 x3 F1 G1 hm) _) (crecv_X4 C hw) cm_624 cm_625 cm_626 cm_244 cm_627 (by decide +kernel) rfl (by omega) (by omega) hl.1 rfl (Nat.le_of_ble_eq_true rfl) dX4_formals_47 (fun b H locs hw => ?_)
  exact cw_X4_formals_50 fu C hret ag_33 hag_33 hagn_33 x1 x3 F1 G1 hm hw (lv_sub hl [0, 1, 2] rfl)
theorem cn_X4_formals_40 (fu : Nat) {res : Int32 × PF × PG} (ag_33 : Int32 → Int32 → Int32 → PF → PG → PR) (hagn_33 : ∀ (x1 : Int32) (x2 : Int32) (x3 : Int32) (F : PF) (G : PG), ag_33 x1 x2 x3 F G = some res → xn F ≤ xn res.2.1) (x1 : Int32) (x2 : Int32) (x3 : Int32) (F : PF) (G : PG) (hm : cb_X4_formals_40 fu ag_33 x1 x2 x3 F G = some res) : xn F ≤ xn res.2.1 := by
  unfold cb_X4_formals_40 at hm
  by_cases c_1 : x2 = (0 : Int32)
  · have hm := (if_pos c_1).symm.trans hm
    exact (cn_X4_formals_85 fu F G hm)
  · have hm := (if_neg c_1).symm.trans hm
    exact (cn_X4_formals_44 fu ag_33 hagn_33 x1 x3 F G hm)
theorem cw_X4_formals_40 (fu : Nat) {res : Int32 × PF × PG} (C : cMC p R s m args c A v RX4 cX4_formals 4 4 103 (xn res.2.1 - xn K0)) (hret : ∀ (b1 : Nat) (H1 : Heap) (locs1 : List Loc) (ls1 : Array Slot) (pc : Nat), cMW s A v a b1 K0 res.2.1 res.2.2 H1 locs1 → decode cX4_formals pc = .ok (.return_, 1) → W p l e R s m args below meth c H1 locs1 (xn res.2.1 - xn K0) (2 * (xn res.2.1 - xn K0)) Q (F0 m pc ls1 [])) (ag_33 : Int32 → Int32 → Int32 → PF → PG → PR) (hag_33 : ∀ (x1 : Int32) (x2 : Int32) (x3 : Int32) (F : PF) (G : PG), ag_33 x1 x2 x3 F G = some res → ∀ (b : Nat) (H : Heap) (locs : List Loc) (ls : Array Slot), cMW s A v a b K0 F G H locs → lv_has ls 4 [(0, .ref (a 204)), (1, .int x1), (2, .int x2), (3, .int x3)] → W p l e R s m args below meth c H locs (xn F - xn K0) (2 * (xn F - xn K0)) Q (F0 m 33 ls [])) (hagn_33 : ∀ (x1 : Int32) (x2 : Int32) (x3 : Int32) (F : PF) (G : PG), ag_33 x1 x2 x3 F G = some res → xn F ≤ xn res.2.1) (x1 : Int32) (x2 : Int32) (x3 : Int32) (F : PF) (G : PG) (hm : cb_X4_formals_40 fu ag_33 x1 x2 x3 F G = some res) {b : Nat} {H : Heap} {locs : List Loc} (hw : cMW s A v a b K0 F G H locs) {ls : Array Slot} (hl : lv_has ls 4 [(0, .ref (a 204)), (1, .int x1), (2, .int x2), (3, .int x3)]) : W p l e R s m args below meth c H locs (xn F - xn K0) (2 * (xn F - xn K0)) Q (F0 m 40 ls []) := by
  have hx := C.1
  have hb := C.2.1
  unfold cb_X4_formals_40 at hm
  refine lv_iload_n hx hb dX4_formals_40 rfl (lv_at hl 2 rfl) ?_
  refine lv_if_eq (tgt := 85) hx hb dX4_formals_41 (by decide) (fun c_1 => ?_) (fun c_1 => ?_)
  · have hm := (if_pos c_1).symm.trans hm
    exact cw_X4_formals_85 fu C hret F G hm hw (lv_sub hl [0] rfl)
  · have hm := (if_neg c_1).symm.trans hm
    exact cw_X4_formals_44 fu C hret ag_33 hag_33 hagn_33 x1 x3 F G hm hw (lv_sub hl [0, 1, 3] rfl)
theorem cn_X4_formals_33 (fu : Nat) {res : Int32 × PF × PG} (ag_33 : Int32 → Int32 → Int32 → PF → PG → PR) (hagn_33 : ∀ (x1 : Int32) (x2 : Int32) (x3 : Int32) (F : PF) (G : PG), ag_33 x1 x2 x3 F G = some res → xn F ≤ xn res.2.1) (x1 : Int32) (x2 : Int32) (x3 : Int32) (F : PF) (G : PG) (hm : cb_X4_formals_33 fu ag_33 x1 x2 x3 F G = some res) : xn F ≤ xn res.2.1 := by
  unfold cb_X4_formals_33 at hm
  by_cases c_1 : (4001 : Int32) ≤ x3
  · have hm := (if_pos c_1).symm.trans hm
    exact (cn_X4_formals_85 fu F G hm)
  · have hm := (if_neg c_1).symm.trans hm
    exact (cn_X4_formals_40 fu ag_33 hagn_33 x1 x2 x3 F G hm)
theorem cw_X4_formals_33 (fu : Nat) {res : Int32 × PF × PG} (C : cMC p R s m args c A v RX4 cX4_formals 4 4 103 (xn res.2.1 - xn K0)) (hret : ∀ (b1 : Nat) (H1 : Heap) (locs1 : List Loc) (ls1 : Array Slot) (pc : Nat), cMW s A v a b1 K0 res.2.1 res.2.2 H1 locs1 → decode cX4_formals pc = .ok (.return_, 1) → W p l e R s m args below meth c H1 locs1 (xn res.2.1 - xn K0) (2 * (xn res.2.1 - xn K0)) Q (F0 m pc ls1 [])) (ag_33 : Int32 → Int32 → Int32 → PF → PG → PR) (hag_33 : ∀ (x1 : Int32) (x2 : Int32) (x3 : Int32) (F : PF) (G : PG), ag_33 x1 x2 x3 F G = some res → ∀ (b : Nat) (H : Heap) (locs : List Loc) (ls : Array Slot), cMW s A v a b K0 F G H locs → lv_has ls 4 [(0, .ref (a 204)), (1, .int x1), (2, .int x2), (3, .int x3)] → W p l e R s m args below meth c H locs (xn F - xn K0) (2 * (xn F - xn K0)) Q (F0 m 33 ls [])) (hagn_33 : ∀ (x1 : Int32) (x2 : Int32) (x3 : Int32) (F : PF) (G : PG), ag_33 x1 x2 x3 F G = some res → xn F ≤ xn res.2.1) (x1 : Int32) (x2 : Int32) (x3 : Int32) (F : PF) (G : PG) (hm : cb_X4_formals_33 fu ag_33 x1 x2 x3 F G = some res) {b : Nat} {H : Heap} {locs : List Loc} (hw : cMW s A v a b K0 F G H locs) {ls : Array Slot} (hl : lv_has ls 4 [(0, .ref (a 204)), (1, .int x1), (2, .int x2), (3, .int x3)]) : W p l e R s m args below meth c H locs (xn F - xn K0) (2 * (xn F - xn K0)) Q (F0 m 33 ls []) := by
  have hx := C.1
  have hb := C.2.1
  unfold cb_X4_formals_33 at hm
  refine lv_iload_n hx hb dX4_formals_33 rfl (lv_at hl 3 rfl) ?_
  refine lv_sipush (v := 4001) hx hb dX4_formals_34 (by decide) ?_
  refine lv_icmp_ge (tgt := 85) hx hb dX4_formals_37 (by decide) (fun c_1 => ?_) (fun c_1 => ?_)
  · have hm := (if_pos c_1).symm.trans hm
    exact cw_X4_formals_85 fu C hret F G hm hw (lv_sub hl [0] rfl)
  · have hm := (if_neg c_1).symm.trans hm
    exact cw_X4_formals_40 fu C hret ag_33 hag_33 hagn_33 x1 x2 x3 F G hm hw (lv_sub hl [0, 1, 2, 3] rfl)
theorem cnl_X4_formals_33 (fu : Nat) {res : Int32 × PF × PG} : ∀ (n : Nat) (x1 : Int32) (x2 : Int32) (x3 : Int32) (F : PF) (G : PG) (hm : cl_X4_formals_33 fu n x1 x2 x3 F G = some res), xn F ≤ xn res.2.1 := by
  intro n
  induction n with
  | zero =>
    intro x1 x2 x3 F G hm
    exact no_elim (show (none : PR) = some res from hm)
  | succ n ih =>
    intro x1 x2 x3 F G hm
    exact cn_X4_formals_33 fu (cl_X4_formals_33 fu n) (fun x1 x2 x3 F G hm => ih x1 x2 x3 F G hm) x1 x2 x3 F G hm
theorem cwl_X4_formals_33 (fu : Nat) {res : Int32 × PF × PG} (C : cMC p R s m args c A v RX4 cX4_formals 4 4 103 (xn res.2.1 - xn K0)) (hret : ∀ (b1 : Nat) (H1 : Heap) (locs1 : List Loc) (ls1 : Array Slot) (pc : Nat), cMW s A v a b1 K0 res.2.1 res.2.2 H1 locs1 → decode cX4_formals pc = .ok (.return_, 1) → W p l e R s m args below meth c H1 locs1 (xn res.2.1 - xn K0) (2 * (xn res.2.1 - xn K0)) Q (F0 m pc ls1 [])) : ∀ (n : Nat) (x1 : Int32) (x2 : Int32) (x3 : Int32) (F : PF) (G : PG) (hm : cl_X4_formals_33 fu n x1 x2 x3 F G = some res) {b : Nat} {H : Heap} {locs : List Loc} (hw : cMW s A v a b K0 F G H locs) {ls : Array Slot} (hl : lv_has ls 4 [(0, .ref (a 204)), (1, .int x1), (2, .int x2), (3, .int x3)]), W p l e R s m args below meth c H locs (xn F - xn K0) (2 * (xn F - xn K0)) Q (F0 m 33 ls []) := by
  intro n
  induction n with
  | zero =>
    intro x1 x2 x3 F G hm
    exact no_elim (show (none : PR) = some res from hm)
  | succ n ih =>
    intro x1 x2 x3 F G hm b H locs hw ls hl
    exact cw_X4_formals_33 fu C hret (cl_X4_formals_33 fu n) (fun x1 x2 x3 F G hm b H locs ls hw hl => ih x1 x2 x3 F G hm hw hl) (fun x1 x2 x3 F G hm => cnl_X4_formals_33 fu n x1 x2 x3 F G hm) x1 x2 x3 F G hm hw hl
theorem cn_X4_formals_30 (fu : Nat) {res : Int32 × PF × PG} (x1 : Int32) (z0 : Int32) (F : PF) (G : PG) (hm : cb_X4_formals_30 fu x1 z0 F G = some res) : xn F ≤ xn res.2.1 := by
  unfold cb_X4_formals_30 at hm
  exact (cnl_X4_formals_33 fu fu x1 z0 0 F G hm)
theorem cw_X4_formals_30 (fu : Nat) {res : Int32 × PF × PG} (C : cMC p R s m args c A v RX4 cX4_formals 4 4 103 (xn res.2.1 - xn K0)) (hret : ∀ (b1 : Nat) (H1 : Heap) (locs1 : List Loc) (ls1 : Array Slot) (pc : Nat), cMW s A v a b1 K0 res.2.1 res.2.2 H1 locs1 → decode cX4_formals pc = .ok (.return_, 1) → W p l e R s m args below meth c H1 locs1 (xn res.2.1 - xn K0) (2 * (xn res.2.1 - xn K0)) Q (F0 m pc ls1 [])) (x1 : Int32) (z0 : Int32) (F : PF) (G : PG) (hm : cb_X4_formals_30 fu x1 z0 F G = some res) {b : Nat} {H : Heap} {locs : List Loc} (hw : cMW s A v a b K0 F G H locs) {ls : Array Slot} (hl : lv_has ls 4 [(0, .ref (a 204)), (1, .int x1)]) : W p l e R s m args below meth c H locs (xn F - xn K0) (2 * (xn F - xn K0)) Q (F0 m 30 ls [.int z0]) := by
  have hx := C.1
  have hb := C.2.1
  unfold cb_X4_formals_30 at hm
  refine lv_istore_n (lv' := [(2, .int z0), (0, .ref (a 204)), (1, .int x1)]) hx hb dX4_formals_30 rfl hl (by decide) rfl (fun ls hl => ?_)
  refine lv_iconst (v := 0) hx hb dX4_formals_31 (by decide) ?_
  refine lv_istore_n (lv' := [(3, .int 0), (2, .int z0), (0, .ref (a 204)), (1, .int x1)]) hx hb dX4_formals_32 rfl hl (by decide) rfl (fun ls hl => ?_)
  exact cwl_X4_formals_33 fu C hret fu x1 z0 0 F G hm hw (lv_sub hl [2, 3, 1, 0] rfl)
theorem cn_X4_formals_29 (fu : Nat) {res : Int32 × PF × PG} (x1 : Int32) (F : PF) (G : PG) (hm : cb_X4_formals_29 fu x1 F G = some res) : xn F ≤ xn res.2.1 := by
  unfold cb_X4_formals_29 at hm
  exact (cn_X4_formals_30 fu x1 0 F G hm)
theorem cw_X4_formals_29 (fu : Nat) {res : Int32 × PF × PG} (C : cMC p R s m args c A v RX4 cX4_formals 4 4 103 (xn res.2.1 - xn K0)) (hret : ∀ (b1 : Nat) (H1 : Heap) (locs1 : List Loc) (ls1 : Array Slot) (pc : Nat), cMW s A v a b1 K0 res.2.1 res.2.2 H1 locs1 → decode cX4_formals pc = .ok (.return_, 1) → W p l e R s m args below meth c H1 locs1 (xn res.2.1 - xn K0) (2 * (xn res.2.1 - xn K0)) Q (F0 m pc ls1 [])) (x1 : Int32) (F : PF) (G : PG) (hm : cb_X4_formals_29 fu x1 F G = some res) {b : Nat} {H : Heap} {locs : List Loc} (hw : cMW s A v a b K0 F G H locs) {ls : Array Slot} (hl : lv_has ls 4 [(0, .ref (a 204)), (1, .int x1)]) : W p l e R s m args below meth c H locs (xn F - xn K0) (2 * (xn F - xn K0)) Q (F0 m 29 ls []) := by
  have hx := C.1
  have hb := C.2.1
  unfold cb_X4_formals_29 at hm
  refine lv_iconst (v := 0) hx hb dX4_formals_29 (by decide) ?_
  exact cw_X4_formals_30 fu C hret x1 0 F G hm hw (lv_sub hl [0, 1] rfl)
theorem cn_X4_formals_25 (fu : Nat) {res : Int32 × PF × PG} (x1 : Int32) (F : PF) (G : PG) (hm : cb_X4_formals_25 fu x1 F G = some res) : xn F ≤ xn res.2.1 := by
  unfold cb_X4_formals_25 at hm
  exact (cn_X4_formals_30 fu x1 1 F G hm)
theorem cw_X4_formals_25 (fu : Nat) {res : Int32 × PF × PG} (C : cMC p R s m args c A v RX4 cX4_formals 4 4 103 (xn res.2.1 - xn K0)) (hret : ∀ (b1 : Nat) (H1 : Heap) (locs1 : List Loc) (ls1 : Array Slot) (pc : Nat), cMW s A v a b1 K0 res.2.1 res.2.2 H1 locs1 → decode cX4_formals pc = .ok (.return_, 1) → W p l e R s m args below meth c H1 locs1 (xn res.2.1 - xn K0) (2 * (xn res.2.1 - xn K0)) Q (F0 m pc ls1 [])) (x1 : Int32) (F : PF) (G : PG) (hm : cb_X4_formals_25 fu x1 F G = some res) {b : Nat} {H : Heap} {locs : List Loc} (hw : cMW s A v a b K0 F G H locs) {ls : Array Slot} (hl : lv_has ls 4 [(0, .ref (a 204)), (1, .int x1)]) : W p l e R s m args below meth c H locs (xn F - xn K0) (2 * (xn F - xn K0)) Q (F0 m 25 ls []) := by
  have hx := C.1
  have hb := C.2.1
  unfold cb_X4_formals_25 at hm
  refine lv_iconst (v := 1) hx hb dX4_formals_25 (by decide) ?_
  refine lv_goto (tgt := 30) hx hb dX4_formals_26 (by decide) ?_
  exact cw_X4_formals_30 fu C hret x1 1 F G hm hw (lv_sub hl [0, 1] rfl)
theorem cn_X4_formals_13 (fu : Nat) {res : Int32 × PF × PG} (x1 : Int32) (F : PF) (G : PG) (hm : cb_X4_formals_13 fu x1 F G = some res) : xn F ≤ xn res.2.1 := by
  unfold cb_X4_formals_13 at hm
  by_cases c_1 : (F 11) = (20 : Int32)
  · have hm := (if_pos c_1).symm.trans hm
    exact (cn_X4_formals_29 fu x1 F G hm)
  · have hm := (if_neg c_1).symm.trans hm
    exact (cn_X4_formals_25 fu x1 F G hm)
theorem cw_X4_formals_13 (fu : Nat) {res : Int32 × PF × PG} (C : cMC p R s m args c A v RX4 cX4_formals 4 4 103 (xn res.2.1 - xn K0)) (hret : ∀ (b1 : Nat) (H1 : Heap) (locs1 : List Loc) (ls1 : Array Slot) (pc : Nat), cMW s A v a b1 K0 res.2.1 res.2.2 H1 locs1 → decode cX4_formals pc = .ok (.return_, 1) → W p l e R s m args below meth c H1 locs1 (xn res.2.1 - xn K0) (2 * (xn res.2.1 - xn K0)) Q (F0 m pc ls1 [])) (x1 : Int32) (F : PF) (G : PG) (hm : cb_X4_formals_13 fu x1 F G = some res) {b : Nat} {H : Heap} {locs : List Loc} (hw : cMW s A v a b K0 F G H locs) {ls : Array Slot} (hl : lv_has ls 4 [(0, .ref (a 204)), (1, .int x1)]) : W p l e R s m args below meth c H locs (xn F - xn K0) (2 * (xn F - xn K0)) Q (F0 m 13 ls []) := by
  have hx := C.1
  have hb := C.2.1
  unfold cb_X4_formals_13 at hm
  refine lv_aload_n hx hb dX4_formals_13 rfl (lv_at hl 0 rfl) ?_
  refine cg_X4_9 C hw dX4_formals_14 ?_
  refine cg_X4_52 C hw dX4_formals_17 ?_
  refine lv_bipush (v := 20) hx hb dX4_formals_20 (by decide) ?_
  refine lv_icmp_eq (tgt := 29) hx hb dX4_formals_22 (by decide) (fun c_1 => ?_) (fun c_1 => ?_)
  · have hm := (if_pos c_1).symm.trans hm
    exact cw_X4_formals_29 fu C hret x1 F G hm hw (lv_sub hl [0, 1] rfl)
  · have hm := (if_neg c_1).symm.trans hm
    exact cw_X4_formals_25 fu C hret x1 F G hm hw (lv_sub hl [0, 1] rfl)
theorem cn_X4_formals_12 (fu : Nat) {res : Int32 × PF × PG} (F : PF) (G : PG) (hm : cb_X4_formals_12 fu F G = some res) : xn F ≤ xn res.2.1 := by
  unfold cb_X4_formals_12 at hm
  obtain rfl := Option.some.inj hm
  exact Nat.le_refl _
theorem cw_X4_formals_12 (fu : Nat) {res : Int32 × PF × PG} (C : cMC p R s m args c A v RX4 cX4_formals 4 4 103 (xn res.2.1 - xn K0)) (hret : ∀ (b1 : Nat) (H1 : Heap) (locs1 : List Loc) (ls1 : Array Slot) (pc : Nat), cMW s A v a b1 K0 res.2.1 res.2.2 H1 locs1 → decode cX4_formals pc = .ok (.return_, 1) → W p l e R s m args below meth c H1 locs1 (xn res.2.1 - xn K0) (2 * (xn res.2.1 - xn K0)) Q (F0 m pc ls1 [])) (F : PF) (G : PG) (hm : cb_X4_formals_12 fu F G = some res) {b : Nat} {H : Heap} {locs : List Loc} (hw : cMW s A v a b K0 F G H locs) {ls : Array Slot} (hl : lv_has ls 4 []) : W p l e R s m args below meth c H locs (xn F - xn K0) (2 * (xn F - xn K0)) Q (F0 m 12 ls []) := by
  have hx := C.1
  have hb := C.2.1
  unfold cb_X4_formals_12 at hm
  obtain rfl := Option.some.inj hm
  exact hret _ _ _ _ _ hw dX4_formals_12
theorem cn_X4_formals_9 (fu : Nat) {res : Int32 × PF × PG} (x1 : Int32) (z0 : Int32) (F : PF) (G : PG) (hm : cb_X4_formals_9 fu x1 z0 F G = some res) : xn F ≤ xn res.2.1 := by
  unfold cb_X4_formals_9 at hm
  by_cases c_1 : z0 = (0 : Int32)
  · have hm := (if_pos c_1).symm.trans hm
    exact (cn_X4_formals_12 fu F G hm)
  · have hm := (if_neg c_1).symm.trans hm
    exact (cn_X4_formals_13 fu x1 F G hm)
theorem cw_X4_formals_9 (fu : Nat) {res : Int32 × PF × PG} (C : cMC p R s m args c A v RX4 cX4_formals 4 4 103 (xn res.2.1 - xn K0)) (hret : ∀ (b1 : Nat) (H1 : Heap) (locs1 : List Loc) (ls1 : Array Slot) (pc : Nat), cMW s A v a b1 K0 res.2.1 res.2.2 H1 locs1 → decode cX4_formals pc = .ok (.return_, 1) → W p l e R s m args below meth c H1 locs1 (xn res.2.1 - xn K0) (2 * (xn res.2.1 - xn K0)) Q (F0 m pc ls1 [])) (x1 : Int32) (z0 : Int32) (F : PF) (G : PG) (hm : cb_X4_formals_9 fu x1 z0 F G = some res) {b : Nat} {H : Heap} {locs : List Loc} (hw : cMW s A v a b K0 F G H locs) {ls : Array Slot} (hl : lv_has ls 4 [(0, .ref (a 204)), (1, .int x1)]) : W p l e R s m args below meth c H locs (xn F - xn K0) (2 * (xn F - xn K0)) Q (F0 m 9 ls [.int z0]) := by
  have hx := C.1
  have hb := C.2.1
  unfold cb_X4_formals_9 at hm
  refine lv_if_ne (tgt := 13) hx hb dX4_formals_9 (by decide) (fun c_1 => ?_) (fun c_1 => ?_)
  · have hm := (if_neg c_1).symm.trans hm
    exact cw_X4_formals_13 fu C hret x1 F G hm hw (lv_sub hl [0, 1] rfl)
  · have hm := (if_pos c_1).symm.trans hm
    exact cw_X4_formals_12 fu C hret F G hm hw (lv_sub hl [] rfl)
theorem cn_X4_formals_0 (fu : Nat) {res : Int32 × PF × PG} (x1 : Int32) (F : PF) (G : PG) (hm : cb_X4_formals_0 fu x1 F G = some res) : xn F ≤ xn res.2.1 := by
  unfold cb_X4_formals_0 at hm
  obtain ⟨⟨r1, F1, G1⟩, hc, hm⟩ := bind_elim hm
  exact Nat.le_trans (cn_X2_opens fu 19 F G _ hc) (cn_X4_formals_9 fu x1 r1 F1 G1 hm)
theorem cw_X4_formals_0 (fu : Nat) {res : Int32 × PF × PG} (C : cMC p R s m args c A v RX4 cX4_formals 4 4 103 (xn res.2.1 - xn K0)) (hret : ∀ (b1 : Nat) (H1 : Heap) (locs1 : List Loc) (ls1 : Array Slot) (pc : Nat), cMW s A v a b1 K0 res.2.1 res.2.2 H1 locs1 → decode cX4_formals pc = .ok (.return_, 1) → W p l e R s m args below meth c H1 locs1 (xn res.2.1 - xn K0) (2 * (xn res.2.1 - xn K0)) Q (F0 m pc ls1 [])) (x1 : Int32) (F : PF) (G : PG) (hm : cb_X4_formals_0 fu x1 F G = some res) {b : Nat} {H : Heap} {locs : List Loc} (hw : cMW s A v a b K0 F G H locs) {ls : Array Slot} (hl : lv_has ls 4 [(0, .ref (a 204)), (1, .int x1)]) : W p l e R s m args below meth c H locs (xn F - xn K0) (2 * (xn F - xn K0)) Q (F0 m 0 ls []) := by
  have hx := C.1
  have hb := C.2.1
  unfold cb_X4_formals_0 at hm
  refine lv_aload_n hx hb dX4_formals_0 rfl (lv_at hl 0 rfl) ?_
  refine cg_X4_9 C hw dX4_formals_1 ?_
  refine lv_bipush (v := 19) hx hb dX4_formals_4 (by decide) ?_
  obtain ⟨⟨r1, F1, G1⟩, hc, hm⟩ := bind_elim hm
  refine ccallI (n := 1) (As := [.int 19]) (rest := []) C hw (ck_X2_opens l v a _ _ fu 19 F G r1 F1 G1 hc) (cn_X2_opens fu 19 F G _ hc) (Nat.sub_le_sub_right (cn_X4_formals_9 fu x1 r1 F1 G1 hm) _) (crecv_X2 C hw) cm_623 cm_363 cm_364 cm_307 cm_365 (by decide +kernel) rfl (by omega) (by omega) hl.1 rfl (Nat.le_of_ble_eq_true rfl) dX4_formals_6 (fun b H locs hw => ?_)
  exact cw_X4_formals_9 fu C hret x1 r1 F1 G1 hm hw (lv_sub hl [0, 1] rfl)
theorem cn_X4_formals (fu : Nat) (x1 : Int32) (F : PF) (G : PG) (q : Int32 × PF × PG) (hm : cf_X4_formals fu x1 F G = some q) : xn F ≤ xn q.2.1 := cn_X4_formals_0 fu x1 F G hm
theorem ck_X4_formals (l : Launch) (v : EV) (a : Nat → Nat) (b sz : Nat) (fu : Nat) (x1 : Int32) (F : PF) (G : PG) (r : Int32) (F1 : PF) (G1 : PG) (hm : cf_X4_formals fu x1 F G = some (r, F1, G1)) : cMV l yX4_formals cX4_formals 4 4 103 v a b sz [.ref (a 204), .int x1] F G F1 G1 := cMV.of (by decide) (Nat.le_of_ble_eq_true rfl) (fun p e R s m args below meth c Q A H locs ls C hw hl hret => cw_X4_formals_0 fu (res := (r, F1, G1)) C hret x1 F G hm hw hl)
def cb_X5_globalRoom_48 (fu : Nat) (x3 : Int32) (F : PF) (G : PG) : PR := some (x3, F, G)
def cb_X5_globalRoom_41 (fu : Nat) (x2 : Int32) (x3 : Int32) (F : PF) (G : PG) : PR := (cf_X5_note fu 8 x2 F G).bind (fun q => cb_X5_globalRoom_48 fu x3 q.2.1 q.2.2)
def cb_X5_globalRoom_28 (fu : Nat) (x2 : Int32) (x3 : Int32) (F : PF) (G : PG) : PR := if (F 75) ≤ (2000 : Int32) then cb_X5_globalRoom_48 fu x3 F G else cb_X5_globalRoom_41 fu x2 x3 F G
def cb_X5_globalRoom_15 (fu : Nat) (x1 : Int32) (x2 : Int32) (x3 : Int32) (F : PF) (G : PG) : PR := cb_X5_globalRoom_28 fu x2 x3 (fup F 75 ((F 75) + x1)) G
def cb_X5_globalRoom_0 (fu : Nat) (x1 : Int32) (x2 : Int32) (F : PF) (G : PG) : PR := if (F 45) = (0 : Int32) then cb_X5_globalRoom_48 fu (F 75) F G else cb_X5_globalRoom_15 fu x1 x2 (F 75) F G
def cf_X5_globalRoom (fu : Nat) (x1 : Int32) (x2 : Int32) (F : PF) (G : PG) : PR := cb_X5_globalRoom_0 fu x1 x2 F G
theorem cn_X5_globalRoom_48 (fu : Nat) {res : Int32 × PF × PG} (x3 : Int32) (F : PF) (G : PG) (hm : cb_X5_globalRoom_48 fu x3 F G = some res) : xn F ≤ xn res.2.1 := by
  unfold cb_X5_globalRoom_48 at hm
  obtain rfl := Option.some.inj hm
  exact Nat.le_refl _
theorem cw_X5_globalRoom_48 (fu : Nat) {res : Int32 × PF × PG} (C : cMC p R s m args c A v RX5 cX5_globalRoom 4 1 22 (xn res.2.1 - xn K0)) (hret : ∀ (b1 : Nat) (H1 : Heap) (locs1 : List Loc) (ls1 : Array Slot) (pc : Nat), cMW s A v a b1 K0 res.2.1 res.2.2 H1 locs1 → narrow .int (.int res.1) = .int res.1 → decode cX5_globalRoom pc = .ok (.ireturn, 1) → W p l e R s m args below meth c H1 locs1 (xn res.2.1 - xn K0) (2 * (xn res.2.1 - xn K0)) Q (F0 m pc ls1 [.int res.1])) (x3 : Int32) (F : PF) (G : PG) (hm : cb_X5_globalRoom_48 fu x3 F G = some res) {b : Nat} {H : Heap} {locs : List Loc} (hw : cMW s A v a b K0 F G H locs) {ls : Array Slot} (hl : lv_has ls 4 [(3, .int x3)]) : W p l e R s m args below meth c H locs (xn F - xn K0) (2 * (xn F - xn K0)) Q (F0 m 48 ls []) := by
  have hx := C.1
  have hb := C.2.1
  unfold cb_X5_globalRoom_48 at hm
  refine lv_iload_n hx hb dX5_globalRoom_48 rfl (lv_at hl 0 rfl) ?_
  obtain rfl := Option.some.inj hm
  exact hret _ _ _ _ _ hw rfl dX5_globalRoom_49
theorem cn_X5_globalRoom_41 (fu : Nat) {res : Int32 × PF × PG} (x2 : Int32) (x3 : Int32) (F : PF) (G : PG) (hm : cb_X5_globalRoom_41 fu x2 x3 F G = some res) : xn F ≤ xn res.2.1 := by
  unfold cb_X5_globalRoom_41 at hm
  obtain ⟨⟨r1, F1, G1⟩, hc, hm⟩ := bind_elim hm
  exact Nat.le_trans (cn_X5_note fu 8 x2 F G _ hc) (cn_X5_globalRoom_48 fu x3 F1 G1 hm)
theorem cw_X5_globalRoom_41 (fu : Nat) {res : Int32 × PF × PG} (C : cMC p R s m args c A v RX5 cX5_globalRoom 4 1 22 (xn res.2.1 - xn K0)) (hret : ∀ (b1 : Nat) (H1 : Heap) (locs1 : List Loc) (ls1 : Array Slot) (pc : Nat), cMW s A v a b1 K0 res.2.1 res.2.2 H1 locs1 → narrow .int (.int res.1) = .int res.1 → decode cX5_globalRoom pc = .ok (.ireturn, 1) → W p l e R s m args below meth c H1 locs1 (xn res.2.1 - xn K0) (2 * (xn res.2.1 - xn K0)) Q (F0 m pc ls1 [.int res.1])) (x2 : Int32) (x3 : Int32) (F : PF) (G : PG) (hm : cb_X5_globalRoom_41 fu x2 x3 F G = some res) {b : Nat} {H : Heap} {locs : List Loc} (hw : cMW s A v a b K0 F G H locs) {ls : Array Slot} (hl : lv_has ls 4 [(0, .ref (a 205)), (2, .int x2), (3, .int x3)]) : W p l e R s m args below meth c H locs (xn F - xn K0) (2 * (xn F - xn K0)) Q (F0 m 41 ls []) := by
  have hx := C.1
  have hb := C.2.1
  unfold cb_X5_globalRoom_41 at hm
  refine lv_aload_n hx hb dX5_globalRoom_41 rfl (lv_at hl 0 rfl) ?_
  refine lv_bipush (v := 8) hx hb dX5_globalRoom_42 (by decide) ?_
  refine lv_iload_n hx hb dX5_globalRoom_44 rfl (lv_at hl 1 rfl) ?_
  obtain ⟨⟨r1, F1, G1⟩, hc, hm⟩ := bind_elim hm
  refine ccallV (n := 2) (As := [.int 8, .int x2]) (rest := []) C hw (ck_X5_note l v a _ _ fu 8 x2 F G r1 F1 G1 hc) (cn_X5_note fu 8 x2 F G _ hc) (Nat.sub_le_sub_right (cn_X5_globalRoom_48 fu x3 F1 G1 hm) _) (crecv_X5 C hw) cm_424 cm_425 cm_426 cm_266 cm_427 (by decide +kernel) rfl (by omega) (by omega) hl.1 rfl (Nat.le_of_ble_eq_true rfl) dX5_globalRoom_45 (fun b H locs hw => ?_)
  exact cw_X5_globalRoom_48 fu C hret x3 F1 G1 hm hw (lv_sub hl [2] rfl)
theorem cn_X5_globalRoom_28 (fu : Nat) {res : Int32 × PF × PG} (x2 : Int32) (x3 : Int32) (F : PF) (G : PG) (hm : cb_X5_globalRoom_28 fu x2 x3 F G = some res) : xn F ≤ xn res.2.1 := by
  unfold cb_X5_globalRoom_28 at hm
  by_cases c_1 : (F 75) ≤ (2000 : Int32)
  · have hm := (if_pos c_1).symm.trans hm
    exact (cn_X5_globalRoom_48 fu x3 F G hm)
  · have hm := (if_neg c_1).symm.trans hm
    exact (cn_X5_globalRoom_41 fu x2 x3 F G hm)
theorem cw_X5_globalRoom_28 (fu : Nat) {res : Int32 × PF × PG} (C : cMC p R s m args c A v RX5 cX5_globalRoom 4 1 22 (xn res.2.1 - xn K0)) (hret : ∀ (b1 : Nat) (H1 : Heap) (locs1 : List Loc) (ls1 : Array Slot) (pc : Nat), cMW s A v a b1 K0 res.2.1 res.2.2 H1 locs1 → narrow .int (.int res.1) = .int res.1 → decode cX5_globalRoom pc = .ok (.ireturn, 1) → W p l e R s m args below meth c H1 locs1 (xn res.2.1 - xn K0) (2 * (xn res.2.1 - xn K0)) Q (F0 m pc ls1 [.int res.1])) (x2 : Int32) (x3 : Int32) (F : PF) (G : PG) (hm : cb_X5_globalRoom_28 fu x2 x3 F G = some res) {b : Nat} {H : Heap} {locs : List Loc} (hw : cMW s A v a b K0 F G H locs) {ls : Array Slot} (hl : lv_has ls 4 [(0, .ref (a 205)), (2, .int x2), (3, .int x3)]) : W p l e R s m args below meth c H locs (xn F - xn K0) (2 * (xn F - xn K0)) Q (F0 m 28 ls []) := by
  have hx := C.1
  have hb := C.2.1
  unfold cb_X5_globalRoom_28 at hm
  refine lv_aload_n hx hb dX5_globalRoom_28 rfl (lv_at hl 0 rfl) ?_
  refine cg_X5_36 C hw dX5_globalRoom_29 ?_
  refine cg_X5_109 C hw dX5_globalRoom_32 ?_
  refine lv_sipush (v := 2000) hx hb dX5_globalRoom_35 (by decide) ?_
  refine lv_icmp_le (tgt := 48) hx hb dX5_globalRoom_38 (by decide) (fun c_1 => ?_) (fun c_1 => ?_)
  · have hm := (if_pos c_1).symm.trans hm
    exact cw_X5_globalRoom_48 fu C hret x3 F G hm hw (lv_sub hl [2] rfl)
  · have hm := (if_neg c_1).symm.trans hm
    exact cw_X5_globalRoom_41 fu C hret x2 x3 F G hm hw (lv_sub hl [0, 1, 2] rfl)
theorem cn_X5_globalRoom_15 (fu : Nat) {res : Int32 × PF × PG} (x1 : Int32) (x2 : Int32) (x3 : Int32) (F : PF) (G : PG) (hm : cb_X5_globalRoom_15 fu x1 x2 x3 F G = some res) : xn F ≤ xn res.2.1 := by
  unfold cb_X5_globalRoom_15 at hm
  exact Nat.le_trans (Nat.le_of_eq (xn_fup (by decide)).symm) (cn_X5_globalRoom_28 fu x2 x3 (fup F 75 ((F 75) + x1)) G hm)
theorem cw_X5_globalRoom_15 (fu : Nat) {res : Int32 × PF × PG} (C : cMC p R s m args c A v RX5 cX5_globalRoom 4 1 22 (xn res.2.1 - xn K0)) (hret : ∀ (b1 : Nat) (H1 : Heap) (locs1 : List Loc) (ls1 : Array Slot) (pc : Nat), cMW s A v a b1 K0 res.2.1 res.2.2 H1 locs1 → narrow .int (.int res.1) = .int res.1 → decode cX5_globalRoom pc = .ok (.ireturn, 1) → W p l e R s m args below meth c H1 locs1 (xn res.2.1 - xn K0) (2 * (xn res.2.1 - xn K0)) Q (F0 m pc ls1 [.int res.1])) (x1 : Int32) (x2 : Int32) (x3 : Int32) (F : PF) (G : PG) (hm : cb_X5_globalRoom_15 fu x1 x2 x3 F G = some res) {b : Nat} {H : Heap} {locs : List Loc} (hw : cMW s A v a b K0 F G H locs) {ls : Array Slot} (hl : lv_has ls 4 [(0, .ref (a 205)), (1, .int x1), (2, .int x2), (3, .int x3)]) : W p l e R s m args below meth c H locs (xn F - xn K0) (2 * (xn F - xn K0)) Q (F0 m 15 ls []) := by
  have hx := C.1
  have hb := C.2.1
  unfold cb_X5_globalRoom_15 at hm
  refine lv_aload_n hx hb dX5_globalRoom_15 rfl (lv_at hl 0 rfl) ?_
  refine cg_X5_36 C hw dX5_globalRoom_16 ?_
  refine lv_dup hx hb dX5_globalRoom_19 rfl ?_
  refine cg_X5_109 C hw dX5_globalRoom_20 ?_
  refine lv_iload_n hx hb dX5_globalRoom_23 rfl (lv_at hl 1 rfl) ?_
  refine lv_iadd hx hb dX5_globalRoom_24 ?_
  refine cp_X5_109 C hw dX5_globalRoom_25 (fun H locs hw => ?_)
  exact cw_X5_globalRoom_28 fu C hret x2 x3 (fup F 75 ((F 75) + x1)) G hm hw (lv_sub hl [0, 2, 3] rfl)
theorem cn_X5_globalRoom_0 (fu : Nat) {res : Int32 × PF × PG} (x1 : Int32) (x2 : Int32) (F : PF) (G : PG) (hm : cb_X5_globalRoom_0 fu x1 x2 F G = some res) : xn F ≤ xn res.2.1 := by
  unfold cb_X5_globalRoom_0 at hm
  by_cases c_1 : (F 45) = (0 : Int32)
  · have hm := (if_pos c_1).symm.trans hm
    exact (cn_X5_globalRoom_48 fu (F 75) F G hm)
  · have hm := (if_neg c_1).symm.trans hm
    exact (cn_X5_globalRoom_15 fu x1 x2 (F 75) F G hm)
theorem cw_X5_globalRoom_0 (fu : Nat) {res : Int32 × PF × PG} (C : cMC p R s m args c A v RX5 cX5_globalRoom 4 1 22 (xn res.2.1 - xn K0)) (hret : ∀ (b1 : Nat) (H1 : Heap) (locs1 : List Loc) (ls1 : Array Slot) (pc : Nat), cMW s A v a b1 K0 res.2.1 res.2.2 H1 locs1 → narrow .int (.int res.1) = .int res.1 → decode cX5_globalRoom pc = .ok (.ireturn, 1) → W p l e R s m args below meth c H1 locs1 (xn res.2.1 - xn K0) (2 * (xn res.2.1 - xn K0)) Q (F0 m pc ls1 [.int res.1])) (x1 : Int32) (x2 : Int32) (F : PF) (G : PG) (hm : cb_X5_globalRoom_0 fu x1 x2 F G = some res) {b : Nat} {H : Heap} {locs : List Loc} (hw : cMW s A v a b K0 F G H locs) {ls : Array Slot} (hl : lv_has ls 4 [(0, .ref (a 205)), (1, .int x1), (2, .int x2)]) : W p l e R s m args below meth c H locs (xn F - xn K0) (2 * (xn F - xn K0)) Q (F0 m 0 ls []) := by
  have hx := C.1
  have hb := C.2.1
  unfold cb_X5_globalRoom_0 at hm
  refine lv_aload_n hx hb dX5_globalRoom_0 rfl (lv_at hl 0 rfl) ?_
  refine cg_X5_36 C hw dX5_globalRoom_1 ?_
  refine cg_X5_109 C hw dX5_globalRoom_4 ?_
  refine lv_istore_n (lv' := [(3, .int (F 75)), (0, .ref (a 205)), (1, .int x1), (2, .int x2)]) hx hb dX5_globalRoom_7 rfl hl (by decide) rfl (fun ls hl => ?_)
  refine lv_aload_n hx hb dX5_globalRoom_8 rfl (lv_at hl 1 rfl) ?_
  refine cg_X5_53 C hw dX5_globalRoom_9 ?_
  refine lv_if_eq (tgt := 48) hx hb dX5_globalRoom_12 (by decide) (fun c_1 => ?_) (fun c_1 => ?_)
  · have hm := (if_pos c_1).symm.trans hm
    exact cw_X5_globalRoom_48 fu C hret (F 75) F G hm hw (lv_sub hl [0] rfl)
  · have hm := (if_neg c_1).symm.trans hm
    exact cw_X5_globalRoom_15 fu C hret x1 x2 (F 75) F G hm hw (lv_sub hl [1, 2, 3, 0] rfl)
theorem cn_X5_globalRoom (fu : Nat) (x1 : Int32) (x2 : Int32) (F : PF) (G : PG) (q : Int32 × PF × PG) (hm : cf_X5_globalRoom fu x1 x2 F G = some q) : xn F ≤ xn q.2.1 := cn_X5_globalRoom_0 fu x1 x2 F G hm
theorem ck_X5_globalRoom (l : Launch) (v : EV) (a : Nat → Nat) (b sz : Nat) (fu : Nat) (x1 : Int32) (x2 : Int32) (F : PF) (G : PG) (r : Int32) (F1 : PF) (G1 : PG) (hm : cf_X5_globalRoom fu x1 x2 F G = some (r, F1, G1)) : cMI l yX5_globalRoom cX5_globalRoom 4 (some .int) 1 22 v a b sz [.ref (a 205), .int x1, .int x2] F G r F1 G1 := cMI.of (ty := .int) (by decide) rfl (Nat.le_of_ble_eq_true rfl) (fun p e R s m args below meth c Q A H locs ls C hw hl hret => cw_X5_globalRoom_0 fu (res := (r, F1, G1)) C hret x1 x2 F G hm hw hl)
end MB
