section MB
variable {p : Program} {l : Launch} {e : Env} {R : Room} {s : State} {m : MethodId} {args : Array Value} {below : List Frame} {meth : Method} {c : Code} {H : Heap} {locs : List Loc} {Q : State → Prop} {A : Nat → Prop} {v : EV} {a : Nat → Nat} {b ce : Nat} {own : String} {cc : ByteArray} {nL fr lo : Nat} {K0 : PF}
def cb_X6_changed_28 (fu : Nat) (x1 : Int32) (F : PF) (G : PG) : PR := some ((x1 ^^^ (-1 : Int32)), F, G)
def cb_X6_changed_44 (fu : Nat) (z0 : Int32) (F : PF) (G : PG) : PR := some (z0, F, G)
def cb_X6_changed_41 (fu : Nat) (z0 : Int32) (F : PF) (G : PG) : PR := (cf_X11_truth fu z0 F G).bind (fun q => cb_X6_changed_44 fu q.1 q.2.1 q.2.2)
def cb_X6_changed_40 (fu : Nat) (F : PF) (G : PG) : PR := cb_X6_changed_41 fu 0 F G
def cb_X6_changed_36 (fu : Nat) (F : PF) (G : PG) : PR := cb_X6_changed_41 fu 1 F G
def cb_X6_changed_32 (fu : Nat) (x1 : Int32) (F : PF) (G : PG) : PR := if x1 = (0 : Int32) then cb_X6_changed_36 fu F G else cb_X6_changed_40 fu F G
def cb_X6_changed_45 (fu : Nat) (x1 : Int32) (F : PF) (G : PG) : PR := some ((-x1), F, G)
def cb_X6_changed_60 (fu : Nat) (z0 : Int32) (F : PF) (G : PG) : PR := some (z0, F, G)
def cb_X6_changed_57 (fu : Nat) (z0 : Int32) (F : PF) (G : PG) : PR := (cf_X11_truth fu z0 F G).bind (fun q => cb_X6_changed_60 fu q.1 q.2.1 q.2.2)
def cb_X6_changed_56 (fu : Nat) (F : PF) (G : PG) : PR := cb_X6_changed_57 fu 0 F G
def cb_X6_changed_52 (fu : Nat) (F : PF) (G : PG) : PR := cb_X6_changed_57 fu 1 F G
def cb_X6_changed_48 (fu : Nat) (x1 : Int32) (F : PF) (G : PG) : PR := if x1 = (0 : Int32) then cb_X6_changed_56 fu F G else cb_X6_changed_52 fu F G
def cb_X6_changed_0 (fu : Nat) (x0 : Int32) (x1 : Int32) (F : PF) (G : PG) : PR := if x0.toInt < 62 ∨ 64 < x0.toInt then cb_X6_changed_48 fu x1 F G else if x0 = 62 then cb_X6_changed_28 fu x1 F G else if x0 = 63 then cb_X6_changed_32 fu x1 F G else cb_X6_changed_45 fu x1 F G
def cf_X6_changed (fu : Nat) (x0 : Int32) (x1 : Int32) (F : PF) (G : PG) : PR := cb_X6_changed_0 fu x0 x1 F G
theorem cn_X6_changed_28 (fu : Nat) {res : Int32 × PF × PG} (x1 : Int32) (F : PF) (G : PG) (hm : cb_X6_changed_28 fu x1 F G = some res) : xn F ≤ xn res.2.1 := by
  unfold cb_X6_changed_28 at hm
  obtain rfl := Option.some.inj hm
  exact Nat.le_refl _
theorem cw_X6_changed_28 (fu : Nat) {res : Int32 × PF × PG} (C : cMC p R s m args c A v RX6 cX6_changed 2 1 20 (xn res.2.1 - xn K0)) (hret : ∀ (b1 : Nat) (H1 : Heap) (locs1 : List Loc) (ls1 : Array Slot) (pc : Nat), cMW s A v a b1 K0 res.2.1 res.2.2 H1 locs1 → narrow .int (.int res.1) = .int res.1 → decode cX6_changed pc = .ok (.ireturn, 1) → W p l e R s m args below meth c H1 locs1 (xn res.2.1 - xn K0) (2 * (xn res.2.1 - xn K0)) Q (F0 m pc ls1 [.int res.1])) (x1 : Int32) (F : PF) (G : PG) (hm : cb_X6_changed_28 fu x1 F G = some res) {b : Nat} {H : Heap} {locs : List Loc} (hw : cMW s A v a b K0 F G H locs) {ls : Array Slot} (hl : lv_has ls 2 [(1, .int x1)]) : W p l e R s m args below meth c H locs (xn F - xn K0) (2 * (xn F - xn K0)) Q (F0 m 28 ls []) := by
  have hx := C.1
  have hb := C.2.1
  unfold cb_X6_changed_28 at hm
  refine lv_iload_n hx hb dX6_changed_28 rfl (lv_at hl 0 rfl) ?_
  refine lv_iconst (v := (-1)) hx hb dX6_changed_29 (by decide) ?_
  refine lv_ixor hx hb dX6_changed_30 ?_
  obtain rfl := Option.some.inj hm
  exact hret _ _ _ _ _ hw rfl dX6_changed_31
theorem cn_X6_changed_44 (fu : Nat) {res : Int32 × PF × PG} (z0 : Int32) (F : PF) (G : PG) (hm : cb_X6_changed_44 fu z0 F G = some res) : xn F ≤ xn res.2.1 := by
  unfold cb_X6_changed_44 at hm
  obtain rfl := Option.some.inj hm
  exact Nat.le_refl _
theorem cw_X6_changed_44 (fu : Nat) {res : Int32 × PF × PG} (C : cMC p R s m args c A v RX6 cX6_changed 2 1 20 (xn res.2.1 - xn K0)) (hret : ∀ (b1 : Nat) (H1 : Heap) (locs1 : List Loc) (ls1 : Array Slot) (pc : Nat), cMW s A v a b1 K0 res.2.1 res.2.2 H1 locs1 → narrow .int (.int res.1) = .int res.1 → decode cX6_changed pc = .ok (.ireturn, 1) → W p l e R s m args below meth c H1 locs1 (xn res.2.1 - xn K0) (2 * (xn res.2.1 - xn K0)) Q (F0 m pc ls1 [.int res.1])) (z0 : Int32) (F : PF) (G : PG) (hm : cb_X6_changed_44 fu z0 F G = some res) {b : Nat} {H : Heap} {locs : List Loc} (hw : cMW s A v a b K0 F G H locs) {ls : Array Slot} (hl : lv_has ls 2 []) : W p l e R s m args below meth c H locs (xn F - xn K0) (2 * (xn F - xn K0)) Q (F0 m 44 ls [.int z0]) := by
  have hx := C.1
  have hb := C.2.1
  unfold cb_X6_changed_44 at hm
  obtain rfl := Option.some.inj hm
  exact hret _ _ _ _ _ hw rfl dX6_changed_44
theorem cn_X6_changed_41 (fu : Nat) {res : Int32 × PF × PG} (z0 : Int32) (F : PF) (G : PG) (hm : cb_X6_changed_41 fu z0 F G = some res) : xn F ≤ xn res.2.1 := by
  unfold cb_X6_changed_41 at hm
  obtain ⟨⟨r1, F1, G1⟩, hc, hm⟩ := bind_elim hm
  exact Nat.le_trans (cn_X11_truth fu z0 F G _ hc) (cn_X6_changed_44 fu r1 F1 G1 hm)
theorem cw_X6_changed_41 (fu : Nat) {res : Int32 × PF × PG} (C : cMC p R s m args c A v RX6 cX6_changed 2 1 20 (xn res.2.1 - xn K0)) (hret : ∀ (b1 : Nat) (H1 : Heap) (locs1 : List Loc) (ls1 : Array Slot) (pc : Nat), cMW s A v a b1 K0 res.2.1 res.2.2 H1 locs1 → narrow .int (.int res.1) = .int res.1 → decode cX6_changed pc = .ok (.ireturn, 1) → W p l e R s m args below meth c H1 locs1 (xn res.2.1 - xn K0) (2 * (xn res.2.1 - xn K0)) Q (F0 m pc ls1 [.int res.1])) (z0 : Int32) (F : PF) (G : PG) (hm : cb_X6_changed_41 fu z0 F G = some res) {b : Nat} {H : Heap} {locs : List Loc} (hw : cMW s A v a b K0 F G H locs) {ls : Array Slot} (hl : lv_has ls 2 []) : W p l e R s m args below meth c H locs (xn F - xn K0) (2 * (xn F - xn K0)) Q (F0 m 41 ls [.int z0]) := by
  have hx := C.1
  have hb := C.2.1
  unfold cb_X6_changed_41 at hm
  obtain ⟨⟨r1, F1, G1⟩, hc, hm⟩ := bind_elim hm
  refine ccallIN (n := 1) (As := [.int z0]) (rest := []) C hw (ck_X11_truth l v a _ _ fu z0 F G r1 F1 G1 hc) (cn_X11_truth fu z0 F G _ hc) (Nat.sub_le_sub_right (cn_X6_changed_44 fu r1 F1 G1 hm) _) C.2.2.2.2.2.2.2.2.2.1.2.2.2.2.2.2.2.2.2.2.2.2.2.2.2.2.2.2.2.2.2.2.2.1 cm_562 cm_563 cm_564 (by decide +kernel) rfl (by omega) (by omega) hl.1 rfl (Nat.le_of_ble_eq_true rfl) dX6_changed_41 (fun b H locs hw => ?_)
  exact cw_X6_changed_44 fu C hret r1 F1 G1 hm hw (lv_sub hl [] rfl)
theorem cn_X6_changed_40 (fu : Nat) {res : Int32 × PF × PG} (F : PF) (G : PG) (hm : cb_X6_changed_40 fu F G = some res) : xn F ≤ xn res.2.1 := by
  unfold cb_X6_changed_40 at hm
  exact (cn_X6_changed_41 fu 0 F G hm)
theorem cw_X6_changed_40 (fu : Nat) {res : Int32 × PF × PG} (C : cMC p R s m args c A v RX6 cX6_changed 2 1 20 (xn res.2.1 - xn K0)) (hret : ∀ (b1 : Nat) (H1 : Heap) (locs1 : List Loc) (ls1 : Array Slot) (pc : Nat), cMW s A v a b1 K0 res.2.1 res.2.2 H1 locs1 → narrow .int (.int res.1) = .int res.1 → decode cX6_changed pc = .ok (.ireturn, 1) → W p l e R s m args below meth c H1 locs1 (xn res.2.1 - xn K0) (2 * (xn res.2.1 - xn K0)) Q (F0 m pc ls1 [.int res.1])) (F : PF) (G : PG) (hm : cb_X6_changed_40 fu F G = some res) {b : Nat} {H : Heap} {locs : List Loc} (hw : cMW s A v a b K0 F G H locs) {ls : Array Slot} (hl : lv_has ls 2 []) : W p l e R s m args below meth c H locs (xn F - xn K0) (2 * (xn F - xn K0)) Q (F0 m 40 ls []) := by
  have hx := C.1
  have hb := C.2.1
  unfold cb_X6_changed_40 at hm
  refine lv_iconst (v := 0) hx hb dX6_changed_40 (by decide) ?_
  exact cw_X6_changed_41 fu C hret 0 F G hm hw (lv_sub hl [] rfl)
theorem cn_X6_changed_36 (fu : Nat) {res : Int32 × PF × PG} (F : PF) (G : PG) (hm : cb_X6_changed_36 fu F G = some res) : xn F ≤ xn res.2.1 := by
  unfold cb_X6_changed_36 at hm
  exact (cn_X6_changed_41 fu 1 F G hm)
theorem cw_X6_changed_36 (fu : Nat) {res : Int32 × PF × PG} (C : cMC p R s m args c A v RX6 cX6_changed 2 1 20 (xn res.2.1 - xn K0)) (hret : ∀ (b1 : Nat) (H1 : Heap) (locs1 : List Loc) (ls1 : Array Slot) (pc : Nat), cMW s A v a b1 K0 res.2.1 res.2.2 H1 locs1 → narrow .int (.int res.1) = .int res.1 → decode cX6_changed pc = .ok (.ireturn, 1) → W p l e R s m args below meth c H1 locs1 (xn res.2.1 - xn K0) (2 * (xn res.2.1 - xn K0)) Q (F0 m pc ls1 [.int res.1])) (F : PF) (G : PG) (hm : cb_X6_changed_36 fu F G = some res) {b : Nat} {H : Heap} {locs : List Loc} (hw : cMW s A v a b K0 F G H locs) {ls : Array Slot} (hl : lv_has ls 2 []) : W p l e R s m args below meth c H locs (xn F - xn K0) (2 * (xn F - xn K0)) Q (F0 m 36 ls []) := by
  have hx := C.1
  have hb := C.2.1
  unfold cb_X6_changed_36 at hm
  refine lv_iconst (v := 1) hx hb dX6_changed_36 (by decide) ?_
  refine lv_goto (tgt := 41) hx hb dX6_changed_37 (by decide) ?_
  exact cw_X6_changed_41 fu C hret 1 F G hm hw (lv_sub hl [] rfl)
theorem cn_X6_changed_32 (fu : Nat) {res : Int32 × PF × PG} (x1 : Int32) (F : PF) (G : PG) (hm : cb_X6_changed_32 fu x1 F G = some res) : xn F ≤ xn res.2.1 := by
  unfold cb_X6_changed_32 at hm
  by_cases c_1 : x1 = (0 : Int32)
  · have hm := (if_pos c_1).symm.trans hm
    exact (cn_X6_changed_36 fu F G hm)
  · have hm := (if_neg c_1).symm.trans hm
    exact (cn_X6_changed_40 fu F G hm)
theorem cw_X6_changed_32 (fu : Nat) {res : Int32 × PF × PG} (C : cMC p R s m args c A v RX6 cX6_changed 2 1 20 (xn res.2.1 - xn K0)) (hret : ∀ (b1 : Nat) (H1 : Heap) (locs1 : List Loc) (ls1 : Array Slot) (pc : Nat), cMW s A v a b1 K0 res.2.1 res.2.2 H1 locs1 → narrow .int (.int res.1) = .int res.1 → decode cX6_changed pc = .ok (.ireturn, 1) → W p l e R s m args below meth c H1 locs1 (xn res.2.1 - xn K0) (2 * (xn res.2.1 - xn K0)) Q (F0 m pc ls1 [.int res.1])) (x1 : Int32) (F : PF) (G : PG) (hm : cb_X6_changed_32 fu x1 F G = some res) {b : Nat} {H : Heap} {locs : List Loc} (hw : cMW s A v a b K0 F G H locs) {ls : Array Slot} (hl : lv_has ls 2 [(1, .int x1)]) : W p l e R s m args below meth c H locs (xn F - xn K0) (2 * (xn F - xn K0)) Q (F0 m 32 ls []) := by
  have hx := C.1
  have hb := C.2.1
  unfold cb_X6_changed_32 at hm
  refine lv_iload_n hx hb dX6_changed_32 rfl (lv_at hl 0 rfl) ?_
  refine lv_if_ne (tgt := 40) hx hb dX6_changed_33 (by decide) (fun c_1 => ?_) (fun c_1 => ?_)
  · have hm := (if_neg c_1).symm.trans hm
    exact cw_X6_changed_40 fu C hret F G hm hw (lv_sub hl [] rfl)
  · have hm := (if_pos c_1).symm.trans hm
    exact cw_X6_changed_36 fu C hret F G hm hw (lv_sub hl [] rfl)
theorem cn_X6_changed_45 (fu : Nat) {res : Int32 × PF × PG} (x1 : Int32) (F : PF) (G : PG) (hm : cb_X6_changed_45 fu x1 F G = some res) : xn F ≤ xn res.2.1 := by
  unfold cb_X6_changed_45 at hm
  obtain rfl := Option.some.inj hm
  exact Nat.le_refl _
theorem cw_X6_changed_45 (fu : Nat) {res : Int32 × PF × PG} (C : cMC p R s m args c A v RX6 cX6_changed 2 1 20 (xn res.2.1 - xn K0)) (hret : ∀ (b1 : Nat) (H1 : Heap) (locs1 : List Loc) (ls1 : Array Slot) (pc : Nat), cMW s A v a b1 K0 res.2.1 res.2.2 H1 locs1 → narrow .int (.int res.1) = .int res.1 → decode cX6_changed pc = .ok (.ireturn, 1) → W p l e R s m args below meth c H1 locs1 (xn res.2.1 - xn K0) (2 * (xn res.2.1 - xn K0)) Q (F0 m pc ls1 [.int res.1])) (x1 : Int32) (F : PF) (G : PG) (hm : cb_X6_changed_45 fu x1 F G = some res) {b : Nat} {H : Heap} {locs : List Loc} (hw : cMW s A v a b K0 F G H locs) {ls : Array Slot} (hl : lv_has ls 2 [(1, .int x1)]) : W p l e R s m args below meth c H locs (xn F - xn K0) (2 * (xn F - xn K0)) Q (F0 m 45 ls []) := by
  have hx := C.1
  have hb := C.2.1
  unfold cb_X6_changed_45 at hm
  refine lv_iload_n hx hb dX6_changed_45 rfl (lv_at hl 0 rfl) ?_
  refine lv_ineg hx hb dX6_changed_46 ?_
  obtain rfl := Option.some.inj hm
  exact hret _ _ _ _ _ hw rfl dX6_changed_47
theorem cn_X6_changed_60 (fu : Nat) {res : Int32 × PF × PG} (z0 : Int32) (F : PF) (G : PG) (hm : cb_X6_changed_60 fu z0 F G = some res) : xn F ≤ xn res.2.1 := by
  unfold cb_X6_changed_60 at hm
  obtain rfl := Option.some.inj hm
  exact Nat.le_refl _
theorem cw_X6_changed_60 (fu : Nat) {res : Int32 × PF × PG} (C : cMC p R s m args c A v RX6 cX6_changed 2 1 20 (xn res.2.1 - xn K0)) (hret : ∀ (b1 : Nat) (H1 : Heap) (locs1 : List Loc) (ls1 : Array Slot) (pc : Nat), cMW s A v a b1 K0 res.2.1 res.2.2 H1 locs1 → narrow .int (.int res.1) = .int res.1 → decode cX6_changed pc = .ok (.ireturn, 1) → W p l e R s m args below meth c H1 locs1 (xn res.2.1 - xn K0) (2 * (xn res.2.1 - xn K0)) Q (F0 m pc ls1 [.int res.1])) (z0 : Int32) (F : PF) (G : PG) (hm : cb_X6_changed_60 fu z0 F G = some res) {b : Nat} {H : Heap} {locs : List Loc} (hw : cMW s A v a b K0 F G H locs) {ls : Array Slot} (hl : lv_has ls 2 []) : W p l e R s m args below meth c H locs (xn F - xn K0) (2 * (xn F - xn K0)) Q (F0 m 60 ls [.int z0]) := by
  have hx := C.1
  have hb := C.2.1
  unfold cb_X6_changed_60 at hm
  obtain rfl := Option.some.inj hm
  exact hret _ _ _ _ _ hw rfl dX6_changed_60
theorem cn_X6_changed_57 (fu : Nat) {res : Int32 × PF × PG} (z0 : Int32) (F : PF) (G : PG) (hm : cb_X6_changed_57 fu z0 F G = some res) : xn F ≤ xn res.2.1 := by
  unfold cb_X6_changed_57 at hm
  obtain ⟨⟨r1, F1, G1⟩, hc, hm⟩ := bind_elim hm
  exact Nat.le_trans (cn_X11_truth fu z0 F G _ hc) (cn_X6_changed_60 fu r1 F1 G1 hm)
theorem cw_X6_changed_57 (fu : Nat) {res : Int32 × PF × PG} (C : cMC p R s m args c A v RX6 cX6_changed 2 1 20 (xn res.2.1 - xn K0)) (hret : ∀ (b1 : Nat) (H1 : Heap) (locs1 : List Loc) (ls1 : Array Slot) (pc : Nat), cMW s A v a b1 K0 res.2.1 res.2.2 H1 locs1 → narrow .int (.int res.1) = .int res.1 → decode cX6_changed pc = .ok (.ireturn, 1) → W p l e R s m args below meth c H1 locs1 (xn res.2.1 - xn K0) (2 * (xn res.2.1 - xn K0)) Q (F0 m pc ls1 [.int res.1])) (z0 : Int32) (F : PF) (G : PG) (hm : cb_X6_changed_57 fu z0 F G = some res) {b : Nat} {H : Heap} {locs : List Loc} (hw : cMW s A v a b K0 F G H locs) {ls : Array Slot} (hl : lv_has ls 2 []) : W p l e R s m args below meth c H locs (xn F - xn K0) (2 * (xn F - xn K0)) Q (F0 m 57 ls [.int z0]) := by
  have hx := C.1
  have hb := C.2.1
  unfold cb_X6_changed_57 at hm
  obtain ⟨⟨r1, F1, G1⟩, hc, hm⟩ := bind_elim hm
  refine ccallIN (n := 1) (As := [.int z0]) (rest := []) C hw (ck_X11_truth l v a _ _ fu z0 F G r1 F1 G1 hc) (cn_X11_truth fu z0 F G _ hc) (Nat.sub_le_sub_right (cn_X6_changed_60 fu r1 F1 G1 hm) _) C.2.2.2.2.2.2.2.2.2.1.2.2.2.2.2.2.2.2.2.2.2.2.2.2.2.2.2.2.2.2.2.2.2.1 cm_562 cm_563 cm_564 (by decide +kernel) rfl (by omega) (by omega) hl.1 rfl (Nat.le_of_ble_eq_true rfl) dX6_changed_57 (fun b H locs hw => ?_)
  exact cw_X6_changed_60 fu C hret r1 F1 G1 hm hw (lv_sub hl [] rfl)
theorem cn_X6_changed_56 (fu : Nat) {res : Int32 × PF × PG} (F : PF) (G : PG) (hm : cb_X6_changed_56 fu F G = some res) : xn F ≤ xn res.2.1 := by
  unfold cb_X6_changed_56 at hm
  exact (cn_X6_changed_57 fu 0 F G hm)
theorem cw_X6_changed_56 (fu : Nat) {res : Int32 × PF × PG} (C : cMC p R s m args c A v RX6 cX6_changed 2 1 20 (xn res.2.1 - xn K0)) (hret : ∀ (b1 : Nat) (H1 : Heap) (locs1 : List Loc) (ls1 : Array Slot) (pc : Nat), cMW s A v a b1 K0 res.2.1 res.2.2 H1 locs1 → narrow .int (.int res.1) = .int res.1 → decode cX6_changed pc = .ok (.ireturn, 1) → W p l e R s m args below meth c H1 locs1 (xn res.2.1 - xn K0) (2 * (xn res.2.1 - xn K0)) Q (F0 m pc ls1 [.int res.1])) (F : PF) (G : PG) (hm : cb_X6_changed_56 fu F G = some res) {b : Nat} {H : Heap} {locs : List Loc} (hw : cMW s A v a b K0 F G H locs) {ls : Array Slot} (hl : lv_has ls 2 []) : W p l e R s m args below meth c H locs (xn F - xn K0) (2 * (xn F - xn K0)) Q (F0 m 56 ls []) := by
  have hx := C.1
  have hb := C.2.1
  unfold cb_X6_changed_56 at hm
  refine lv_iconst (v := 0) hx hb dX6_changed_56 (by decide) ?_
  exact cw_X6_changed_57 fu C hret 0 F G hm hw (lv_sub hl [] rfl)
theorem cn_X6_changed_52 (fu : Nat) {res : Int32 × PF × PG} (F : PF) (G : PG) (hm : cb_X6_changed_52 fu F G = some res) : xn F ≤ xn res.2.1 := by
  unfold cb_X6_changed_52 at hm
  exact (cn_X6_changed_57 fu 1 F G hm)
theorem cw_X6_changed_52 (fu : Nat) {res : Int32 × PF × PG} (C : cMC p R s m args c A v RX6 cX6_changed 2 1 20 (xn res.2.1 - xn K0)) (hret : ∀ (b1 : Nat) (H1 : Heap) (locs1 : List Loc) (ls1 : Array Slot) (pc : Nat), cMW s A v a b1 K0 res.2.1 res.2.2 H1 locs1 → narrow .int (.int res.1) = .int res.1 → decode cX6_changed pc = .ok (.ireturn, 1) → W p l e R s m args below meth c H1 locs1 (xn res.2.1 - xn K0) (2 * (xn res.2.1 - xn K0)) Q (F0 m pc ls1 [.int res.1])) (F : PF) (G : PG) (hm : cb_X6_changed_52 fu F G = some res) {b : Nat} {H : Heap} {locs : List Loc} (hw : cMW s A v a b K0 F G H locs) {ls : Array Slot} (hl : lv_has ls 2 []) : W p l e R s m args below meth c H locs (xn F - xn K0) (2 * (xn F - xn K0)) Q (F0 m 52 ls []) := by
  have hx := C.1
  have hb := C.2.1
  unfold cb_X6_changed_52 at hm
  refine lv_iconst (v := 1) hx hb dX6_changed_52 (by decide) ?_
  refine lv_goto (tgt := 57) hx hb dX6_changed_53 (by decide) ?_
  exact cw_X6_changed_57 fu C hret 1 F G hm hw (lv_sub hl [] rfl)
theorem cn_X6_changed_48 (fu : Nat) {res : Int32 × PF × PG} (x1 : Int32) (F : PF) (G : PG) (hm : cb_X6_changed_48 fu x1 F G = some res) : xn F ≤ xn res.2.1 := by
  unfold cb_X6_changed_48 at hm
  by_cases c_1 : x1 = (0 : Int32)
  · have hm := (if_pos c_1).symm.trans hm
    exact (cn_X6_changed_56 fu F G hm)
  · have hm := (if_neg c_1).symm.trans hm
    exact (cn_X6_changed_52 fu F G hm)
theorem cw_X6_changed_48 (fu : Nat) {res : Int32 × PF × PG} (C : cMC p R s m args c A v RX6 cX6_changed 2 1 20 (xn res.2.1 - xn K0)) (hret : ∀ (b1 : Nat) (H1 : Heap) (locs1 : List Loc) (ls1 : Array Slot) (pc : Nat), cMW s A v a b1 K0 res.2.1 res.2.2 H1 locs1 → narrow .int (.int res.1) = .int res.1 → decode cX6_changed pc = .ok (.ireturn, 1) → W p l e R s m args below meth c H1 locs1 (xn res.2.1 - xn K0) (2 * (xn res.2.1 - xn K0)) Q (F0 m pc ls1 [.int res.1])) (x1 : Int32) (F : PF) (G : PG) (hm : cb_X6_changed_48 fu x1 F G = some res) {b : Nat} {H : Heap} {locs : List Loc} (hw : cMW s A v a b K0 F G H locs) {ls : Array Slot} (hl : lv_has ls 2 [(1, .int x1)]) : W p l e R s m args below meth c H locs (xn F - xn K0) (2 * (xn F - xn K0)) Q (F0 m 48 ls []) := by
  have hx := C.1
  have hb := C.2.1
  unfold cb_X6_changed_48 at hm
  refine lv_iload_n hx hb dX6_changed_48 rfl (lv_at hl 0 rfl) ?_
  refine lv_if_eq (tgt := 56) hx hb dX6_changed_49 (by decide) (fun c_1 => ?_) (fun c_1 => ?_)
  · have hm := (if_pos c_1).symm.trans hm
    exact cw_X6_changed_56 fu C hret F G hm hw (lv_sub hl [] rfl)
  · have hm := (if_neg c_1).symm.trans hm
    exact cw_X6_changed_52 fu C hret F G hm hw (lv_sub hl [] rfl)
theorem cn_X6_changed_0 (fu : Nat) {res : Int32 × PF × PG} (x0 : Int32) (x1 : Int32) (F : PF) (G : PG) (hm : cb_X6_changed_0 fu x0 x1 F G = some res) : xn F ≤ xn res.2.1 := by
  unfold cb_X6_changed_0 at hm
  by_cases c_0 : x0.toInt < 62 ∨ 64 < x0.toInt
  · have hm := (if_pos c_0).symm.trans hm
    exact (cn_X6_changed_48 fu x1 F G hm)
  have hm := (if_neg c_0).symm.trans hm
  by_cases c_1 : x0 = 62
  · have hm := (if_pos c_1).symm.trans hm
    exact (cn_X6_changed_28 fu x1 F G hm)
  have hm := (if_neg c_1).symm.trans hm
  clear c_1
  by_cases c_1 : x0 = 63
  · have hm := (if_pos c_1).symm.trans hm
    exact (cn_X6_changed_32 fu x1 F G hm)
  have hm := (if_neg c_1).symm.trans hm
  clear c_1
  exact (cn_X6_changed_45 fu x1 F G hm)
theorem cw_X6_changed_0 (fu : Nat) {res : Int32 × PF × PG} (C : cMC p R s m args c A v RX6 cX6_changed 2 1 20 (xn res.2.1 - xn K0)) (hret : ∀ (b1 : Nat) (H1 : Heap) (locs1 : List Loc) (ls1 : Array Slot) (pc : Nat), cMW s A v a b1 K0 res.2.1 res.2.2 H1 locs1 → narrow .int (.int res.1) = .int res.1 → decode cX6_changed pc = .ok (.ireturn, 1) → W p l e R s m args below meth c H1 locs1 (xn res.2.1 - xn K0) (2 * (xn res.2.1 - xn K0)) Q (F0 m pc ls1 [.int res.1])) (x0 : Int32) (x1 : Int32) (F : PF) (G : PG) (hm : cb_X6_changed_0 fu x0 x1 F G = some res) {b : Nat} {H : Heap} {locs : List Loc} (hw : cMW s A v a b K0 F G H locs) {ls : Array Slot} (hl : lv_has ls 2 [(0, .int x0), (1, .int x1)]) : W p l e R s m args below meth c H locs (xn F - xn K0) (2 * (xn F - xn K0)) Q (F0 m 0 ls []) := by
  have hx := C.1
  have hb := C.2.1
  unfold cb_X6_changed_0 at hm
  refine lv_iload_n hx hb dX6_changed_0 rfl (lv_at hl 0 rfl) ?_
  by_cases c_0 : x0.toInt < 62 ∨ 64 < x0.toInt
  · have hm := (if_pos c_0).symm.trans hm
    refine lv_tableOut (tgt := 48) hx hb dX6_changed_1 c_0 (by decide) ?_
    exact cw_X6_changed_48 fu C hret x1 F G hm hw (lv_sub hl [1] rfl)
  have hm := (if_neg c_0).symm.trans hm
  by_cases c_1 : x0 = 62
  · have hm := (if_pos c_1).symm.trans hm
    refine my_top 62 c_1 ?_
    refine lv_tableIn (off := 27) (tgt := 28) hx hb dX6_changed_1 (by decide) (by decide) (by decide) (by decide) ?_
    exact cw_X6_changed_28 fu C hret x1 F G hm hw (lv_sub hl [1] rfl)
  have hm := (if_neg c_1).symm.trans hm
  have n_0 := c_1
  clear c_1
  by_cases c_1 : x0 = 63
  · have hm := (if_pos c_1).symm.trans hm
    refine my_top 63 c_1 ?_
    refine lv_tableIn (off := 31) (tgt := 32) hx hb dX6_changed_1 (by decide) (by decide) (by decide) (by decide) ?_
    exact cw_X6_changed_32 fu C hret x1 F G hm hw (lv_sub hl [1] rfl)
  have hm := (if_neg c_1).symm.trans hm
  have n_1 := c_1
  clear c_1
  have c_1 : x0 = 64 := my_last (l := 62) (k := 2) c_0 (by decide) (fun j hj => match j, hj with | 0, _ => fun h9 => n_0 (Int32.toInt_inj.mp (h9.trans (by decide))) | 1, _ => fun h9 => n_1 (Int32.toInt_inj.mp (h9.trans (by decide))) | q + 2, h => absurd h (by omega)) (by decide)
  refine my_top 64 c_1 ?_
  refine lv_tableIn (off := 44) (tgt := 45) hx hb dX6_changed_1 (by decide) (by decide) (by decide) (by decide) ?_
  exact cw_X6_changed_45 fu C hret x1 F G hm hw (lv_sub hl [1] rfl)
theorem cn_X6_changed (fu : Nat) (x0 : Int32) (x1 : Int32) (F : PF) (G : PG) (q : Int32 × PF × PG) (hm : cf_X6_changed fu x0 x1 F G = some q) : xn F ≤ xn q.2.1 := cn_X6_changed_0 fu x0 x1 F G hm
theorem ck_X6_changed (l : Launch) (v : EV) (a : Nat → Nat) (b sz : Nat) (fu : Nat) (x0 : Int32) (x1 : Int32) (F : PF) (G : PG) (r : Int32) (F1 : PF) (G1 : PG) (hm : cf_X6_changed fu x0 x1 F G = some (r, F1, G1)) : cMI l yX6_changed cX6_changed 2 (some .int) 1 20 v a b sz [.int x0, .int x1] F G r F1 G1 := cMI.of (ty := .int) (by decide) rfl (Nat.le_of_ble_eq_true rfl) (fun p e R s m args below meth c Q A H locs ls C hw hl hret => cw_X6_changed_0 fu (res := (r, F1, G1)) C hret x0 x1 F G hm hw hl)
def cb_X6_push_72 (fu : Nat) (F : PF) (G : PG) : PR := some (0, F, G)
def cb_X6_push_62 (fu : Nat) (F : PF) (G : PG) : PR := cb_X6_push_72 fu (fup F 56 ((F 56) + (1 : Int32))) G
def cb_X6_push_52 (fu : Nat) (x1 : Int32) (F : PF) (G : PG) : PR := if ixb (F 56) (xn F) = true then (cb_X6_push_62 fu F (gup G 55 (F 56).toNatClampNeg x1)) else none
def cb_X6_push_40 (fu : Nat) (x1 : Int32) (F : PF) (G : PG) : PR := if (nI (xn F)) ≤ (F 56) then cb_X6_push_72 fu F G else cb_X6_push_52 fu x1 F G
def cb_X6_push_22 (fu : Nat) (x1 : Int32) (F : PF) (G : PG) : PR := if gok F = true then (cb_X6_push_40 fu x1 (fup F 300 (nI (xn F) * 2)) (gext G F)) else none
def cb_X6_push_12 (fu : Nat) (x1 : Int32) (F : PF) (G : PG) : PR := if (524288 : Int32) ≤ (nI (xn F)) then cb_X6_push_40 fu x1 F G else cb_X6_push_22 fu x1 F G
def cb_X6_push_0 (fu : Nat) (x1 : Int32) (F : PF) (G : PG) : PR := if (F 56) < (nI (xn F)) then cb_X6_push_40 fu x1 F G else cb_X6_push_12 fu x1 F G
def cf_X6_push (fu : Nat) (x1 : Int32) (F : PF) (G : PG) : PR := cb_X6_push_0 fu x1 F G
theorem cn_X6_push_72 (fu : Nat) {res : Int32 × PF × PG} (F : PF) (G : PG) (hm : cb_X6_push_72 fu F G = some res) : xn F ≤ xn res.2.1 := by
  unfold cb_X6_push_72 at hm
  obtain rfl := Option.some.inj hm
  exact Nat.le_refl _
theorem cw_X6_push_72 (fu : Nat) {res : Int32 × PF × PG} (C : cMC p R s m args c A v RX6 cX6_push 2 2 90 (xn res.2.1 - xn K0)) (hret : ∀ (b1 : Nat) (H1 : Heap) (locs1 : List Loc) (ls1 : Array Slot) (pc : Nat), cMW s A v a b1 K0 res.2.1 res.2.2 H1 locs1 → decode cX6_push pc = .ok (.return_, 1) → W p l e R s m args below meth c H1 locs1 (xn res.2.1 - xn K0) (2 * (xn res.2.1 - xn K0)) Q (F0 m pc ls1 [])) (F : PF) (G : PG) (hm : cb_X6_push_72 fu F G = some res) {b : Nat} {H : Heap} {locs : List Loc} (hw : cMW s A v a b K0 F G H locs) {ls : Array Slot} (hl : lv_has ls 2 []) : W p l e R s m args below meth c H locs (xn F - xn K0) (2 * (xn F - xn K0)) Q (F0 m 72 ls []) := by
  have hx := C.1
  have hb := C.2.1
  unfold cb_X6_push_72 at hm
  obtain rfl := Option.some.inj hm
  exact hret _ _ _ _ _ hw dX6_push_72
theorem cn_X6_push_62 (fu : Nat) {res : Int32 × PF × PG} (F : PF) (G : PG) (hm : cb_X6_push_62 fu F G = some res) : xn F ≤ xn res.2.1 := by
  unfold cb_X6_push_62 at hm
  exact Nat.le_trans (Nat.le_of_eq (xn_fup (by decide)).symm) (cn_X6_push_72 fu (fup F 56 ((F 56) + (1 : Int32))) G hm)
theorem cw_X6_push_62 (fu : Nat) {res : Int32 × PF × PG} (C : cMC p R s m args c A v RX6 cX6_push 2 2 90 (xn res.2.1 - xn K0)) (hret : ∀ (b1 : Nat) (H1 : Heap) (locs1 : List Loc) (ls1 : Array Slot) (pc : Nat), cMW s A v a b1 K0 res.2.1 res.2.2 H1 locs1 → decode cX6_push pc = .ok (.return_, 1) → W p l e R s m args below meth c H1 locs1 (xn res.2.1 - xn K0) (2 * (xn res.2.1 - xn K0)) Q (F0 m pc ls1 [])) (F : PF) (G : PG) (hm : cb_X6_push_62 fu F G = some res) {b : Nat} {H : Heap} {locs : List Loc} (hw : cMW s A v a b K0 F G H locs) {ls : Array Slot} (hl : lv_has ls 2 [(0, .ref (a 206))]) : W p l e R s m args below meth c H locs (xn F - xn K0) (2 * (xn F - xn K0)) Q (F0 m 62 ls []) := by
  have hx := C.1
  have hb := C.2.1
  unfold cb_X6_push_62 at hm
  refine lv_aload_n hx hb dX6_push_62 rfl (lv_at hl 0 rfl) ?_
  refine lv_dup hx hb dX6_push_63 rfl ?_
  refine cg_X6_49 C hw dX6_push_64 ?_
  refine lv_iconst (v := 1) hx hb dX6_push_67 (by decide) ?_
  refine lv_iadd hx hb dX6_push_68 ?_
  refine cp_X6_49 C hw dX6_push_69 (fun H locs hw => ?_)
  exact cw_X6_push_72 fu C hret (fup F 56 ((F 56) + (1 : Int32))) G hm hw (lv_sub hl [] rfl)
theorem cn_X6_push_52 (fu : Nat) {res : Int32 × PF × PG} (x1 : Int32) (F : PF) (G : PG) (hm : cb_X6_push_52 fu x1 F G = some res) : xn F ≤ xn res.2.1 := by
  unfold cb_X6_push_52 at hm
  have hm := (ix_elim hm).2
  exact (cn_X6_push_62 fu F (gup G 55 (F 56).toNatClampNeg x1) hm)
theorem cw_X6_push_52 (fu : Nat) {res : Int32 × PF × PG} (C : cMC p R s m args c A v RX6 cX6_push 2 2 90 (xn res.2.1 - xn K0)) (hret : ∀ (b1 : Nat) (H1 : Heap) (locs1 : List Loc) (ls1 : Array Slot) (pc : Nat), cMW s A v a b1 K0 res.2.1 res.2.2 H1 locs1 → decode cX6_push pc = .ok (.return_, 1) → W p l e R s m args below meth c H1 locs1 (xn res.2.1 - xn K0) (2 * (xn res.2.1 - xn K0)) Q (F0 m pc ls1 [])) (x1 : Int32) (F : PF) (G : PG) (hm : cb_X6_push_52 fu x1 F G = some res) {b : Nat} {H : Heap} {locs : List Loc} (hw : cMW s A v a b K0 F G H locs) {ls : Array Slot} (hl : lv_has ls 2 [(0, .ref (a 206)), (1, .int x1)]) : W p l e R s m args below meth c H locs (xn F - xn K0) (2 * (xn F - xn K0)) Q (F0 m 52 ls []) := by
  have hx := C.1
  have hb := C.2.1
  unfold cb_X6_push_52 at hm
  refine lv_aload_n hx hb dX6_push_52 rfl (lv_at hl 0 rfl) ?_
  refine cg_X6_15 C hw dX6_push_53 ?_
  refine lv_aload_n hx hb dX6_push_56 rfl (lv_at hl 0 rfl) ?_
  refine cg_X6_49 C hw dX6_push_57 ?_
  refine lv_iload_n hx hb dX6_push_60 rfl (lv_at hl 1 rfl) ?_
  obtain ⟨hi, hm⟩ := ix_elim hm
  refine cas_55 C hw hi dX6_push_61 (fun H locs hw => ?_)
  exact cw_X6_push_62 fu C hret F (gup G 55 (F 56).toNatClampNeg x1) hm hw (lv_sub hl [0] rfl)
theorem cn_X6_push_40 (fu : Nat) {res : Int32 × PF × PG} (x1 : Int32) (F : PF) (G : PG) (hm : cb_X6_push_40 fu x1 F G = some res) : xn F ≤ xn res.2.1 := by
  unfold cb_X6_push_40 at hm
  by_cases c_1 : (nI (xn F)) ≤ (F 56)
  · have hm := (if_pos c_1).symm.trans hm
    exact (cn_X6_push_72 fu F G hm)
  · have hm := (if_neg c_1).symm.trans hm
    exact (cn_X6_push_52 fu x1 F G hm)
theorem cw_X6_push_40 (fu : Nat) {res : Int32 × PF × PG} (C : cMC p R s m args c A v RX6 cX6_push 2 2 90 (xn res.2.1 - xn K0)) (hret : ∀ (b1 : Nat) (H1 : Heap) (locs1 : List Loc) (ls1 : Array Slot) (pc : Nat), cMW s A v a b1 K0 res.2.1 res.2.2 H1 locs1 → decode cX6_push pc = .ok (.return_, 1) → W p l e R s m args below meth c H1 locs1 (xn res.2.1 - xn K0) (2 * (xn res.2.1 - xn K0)) Q (F0 m pc ls1 [])) (x1 : Int32) (F : PF) (G : PG) (hm : cb_X6_push_40 fu x1 F G = some res) {b : Nat} {H : Heap} {locs : List Loc} (hw : cMW s A v a b K0 F G H locs) {ls : Array Slot} (hl : lv_has ls 2 [(0, .ref (a 206)), (1, .int x1)]) : W p l e R s m args below meth c H locs (xn F - xn K0) (2 * (xn F - xn K0)) Q (F0 m 40 ls []) := by
  have hx := C.1
  have hb := C.2.1
  unfold cb_X6_push_40 at hm
  refine lv_aload_n hx hb dX6_push_40 rfl (lv_at hl 0 rfl) ?_
  refine cg_X6_49 C hw dX6_push_41 ?_
  refine lv_aload_n hx hb dX6_push_44 rfl (lv_at hl 0 rfl) ?_
  refine cg_X6_15 C hw dX6_push_45 ?_
  refine clenB C hw dX6_push_48 ?_
  refine lv_icmp_ge (tgt := 72) hx hb dX6_push_49 (by decide) (fun c_1 => ?_) (fun c_1 => ?_)
  · have hm := (if_pos c_1).symm.trans hm
    exact cw_X6_push_72 fu C hret F G hm hw (lv_sub hl [] rfl)
  · have hm := (if_neg c_1).symm.trans hm
    exact cw_X6_push_52 fu C hret x1 F G hm hw (lv_sub hl [0, 1] rfl)
theorem cn_X6_push_22 (fu : Nat) {res : Int32 × PF × PG} (x1 : Int32) (F : PF) (G : PG) (hm : cb_X6_push_22 fu x1 F G = some res) : xn F ≤ xn res.2.1 := by
  unfold cb_X6_push_22 at hm
  obtain ⟨hi, hm⟩ := gok_elim hm
  exact Nat.le_trans (gok_le hi) (cn_X6_push_40 fu x1 (fup F 300 (nI (xn F) * 2)) (gext G F) hm)
theorem cw_X6_push_22 (fu : Nat) {res : Int32 × PF × PG} (C : cMC p R s m args c A v RX6 cX6_push 2 2 90 (xn res.2.1 - xn K0)) (hret : ∀ (b1 : Nat) (H1 : Heap) (locs1 : List Loc) (ls1 : Array Slot) (pc : Nat), cMW s A v a b1 K0 res.2.1 res.2.2 H1 locs1 → decode cX6_push pc = .ok (.return_, 1) → W p l e R s m args below meth c H1 locs1 (xn res.2.1 - xn K0) (2 * (xn res.2.1 - xn K0)) Q (F0 m pc ls1 [])) (x1 : Int32) (F : PF) (G : PG) (hm : cb_X6_push_22 fu x1 F G = some res) {b : Nat} {H : Heap} {locs : List Loc} (hw : cMW s A v a b K0 F G H locs) {ls : Array Slot} (hl : lv_has ls 2 [(0, .ref (a 206)), (1, .int x1)]) : W p l e R s m args below meth c H locs (xn F - xn K0) (2 * (xn F - xn K0)) Q (F0 m 22 ls []) := by
  have hx := C.1
  have hb := C.2.1
  unfold cb_X6_push_22 at hm
  refine lv_aload_n hx hb dX6_push_22 rfl (lv_at hl 0 rfl) ?_
  refine lv_aload_n hx hb dX6_push_23 rfl (lv_at hl 0 rfl) ?_
  refine cg_X6_15 C hw dX6_push_24 ?_
  refine lv_aload_n hx hb dX6_push_27 rfl (lv_at hl 0 rfl) ?_
  refine cg_X6_15 C hw dX6_push_28 ?_
  refine clenB C hw dX6_push_31 ?_
  refine lv_iconst (v := 2) hx hb dX6_push_32 (by decide) ?_
  refine lv_imul hx hb dX6_push_33 ?_
  obtain ⟨hi, hm⟩ := gok_elim hm
  refine cgrow C hw hi (by omega) (by omega) (Nat.sub_le_sub_right (cn_X6_push_40 fu x1 (fup F 300 (nI (xn F) * 2)) (gext G F) hm) _) hl.1 dX6_push_34 dX6_push_37 (fun b H locs hw => ?_)
  exact cw_X6_push_40 fu C hret x1 (fup F 300 (nI (xn F) * 2)) (gext G F) hm hw (lv_sub hl [0, 1] rfl)
theorem cn_X6_push_12 (fu : Nat) {res : Int32 × PF × PG} (x1 : Int32) (F : PF) (G : PG) (hm : cb_X6_push_12 fu x1 F G = some res) : xn F ≤ xn res.2.1 := by
  unfold cb_X6_push_12 at hm
  by_cases c_1 : (524288 : Int32) ≤ (nI (xn F))
  · have hm := (if_pos c_1).symm.trans hm
    exact (cn_X6_push_40 fu x1 F G hm)
  · have hm := (if_neg c_1).symm.trans hm
    exact (cn_X6_push_22 fu x1 F G hm)
theorem cw_X6_push_12 (fu : Nat) {res : Int32 × PF × PG} (C : cMC p R s m args c A v RX6 cX6_push 2 2 90 (xn res.2.1 - xn K0)) (hret : ∀ (b1 : Nat) (H1 : Heap) (locs1 : List Loc) (ls1 : Array Slot) (pc : Nat), cMW s A v a b1 K0 res.2.1 res.2.2 H1 locs1 → decode cX6_push pc = .ok (.return_, 1) → W p l e R s m args below meth c H1 locs1 (xn res.2.1 - xn K0) (2 * (xn res.2.1 - xn K0)) Q (F0 m pc ls1 [])) (x1 : Int32) (F : PF) (G : PG) (hm : cb_X6_push_12 fu x1 F G = some res) {b : Nat} {H : Heap} {locs : List Loc} (hw : cMW s A v a b K0 F G H locs) {ls : Array Slot} (hl : lv_has ls 2 [(0, .ref (a 206)), (1, .int x1)]) : W p l e R s m args below meth c H locs (xn F - xn K0) (2 * (xn F - xn K0)) Q (F0 m 12 ls []) := by
  have hx := C.1
  have hb := C.2.1
  unfold cb_X6_push_12 at hm
  refine lv_aload_n hx hb dX6_push_12 rfl (lv_at hl 0 rfl) ?_
  refine cg_X6_15 C hw dX6_push_13 ?_
  refine clenB C hw dX6_push_16 ?_
  refine lv_ldc (v := 524288) hx hb C.2.2.2.1 (C.2.2.2.2.1 _ cm_538) dX6_push_17 ?_
  refine lv_icmp_ge (tgt := 40) hx hb dX6_push_19 (by decide) (fun c_1 => ?_) (fun c_1 => ?_)
  · have hm := (if_pos c_1).symm.trans hm
    exact cw_X6_push_40 fu C hret x1 F G hm hw (lv_sub hl [0, 1] rfl)
  · have hm := (if_neg c_1).symm.trans hm
    exact cw_X6_push_22 fu C hret x1 F G hm hw (lv_sub hl [0, 1] rfl)
theorem cn_X6_push_0 (fu : Nat) {res : Int32 × PF × PG} (x1 : Int32) (F : PF) (G : PG) (hm : cb_X6_push_0 fu x1 F G = some res) : xn F ≤ xn res.2.1 := by
  unfold cb_X6_push_0 at hm
  by_cases c_1 : (F 56) < (nI (xn F))
  · have hm := (if_pos c_1).symm.trans hm
    exact (cn_X6_push_40 fu x1 F G hm)
  · have hm := (if_neg c_1).symm.trans hm
    exact (cn_X6_push_12 fu x1 F G hm)
theorem cw_X6_push_0 (fu : Nat) {res : Int32 × PF × PG} (C : cMC p R s m args c A v RX6 cX6_push 2 2 90 (xn res.2.1 - xn K0)) (hret : ∀ (b1 : Nat) (H1 : Heap) (locs1 : List Loc) (ls1 : Array Slot) (pc : Nat), cMW s A v a b1 K0 res.2.1 res.2.2 H1 locs1 → decode cX6_push pc = .ok (.return_, 1) → W p l e R s m args below meth c H1 locs1 (xn res.2.1 - xn K0) (2 * (xn res.2.1 - xn K0)) Q (F0 m pc ls1 [])) (x1 : Int32) (F : PF) (G : PG) (hm : cb_X6_push_0 fu x1 F G = some res) {b : Nat} {H : Heap} {locs : List Loc} (hw : cMW s A v a b K0 F G H locs) {ls : Array Slot} (hl : lv_has ls 2 [(0, .ref (a 206)), (1, .int x1)]) : W p l e R s m args below meth c H locs (xn F - xn K0) (2 * (xn F - xn K0)) Q (F0 m 0 ls []) := by
  have hx := C.1
  have hb := C.2.1
  unfold cb_X6_push_0 at hm
  refine lv_aload_n hx hb dX6_push_0 rfl (lv_at hl 0 rfl) ?_
  refine cg_X6_49 C hw dX6_push_1 ?_
  refine lv_aload_n hx hb dX6_push_4 rfl (lv_at hl 0 rfl) ?_
  refine cg_X6_15 C hw dX6_push_5 ?_
  refine clenB C hw dX6_push_8 ?_
  refine lv_icmp_lt (tgt := 40) hx hb dX6_push_9 (by decide) (fun c_1 => ?_) (fun c_1 => ?_)
  · have hm := (if_pos c_1).symm.trans hm
    exact cw_X6_push_40 fu C hret x1 F G hm hw (lv_sub hl [0, 1] rfl)
  · have hm := (if_neg c_1).symm.trans hm
    exact cw_X6_push_12 fu C hret x1 F G hm hw (lv_sub hl [0, 1] rfl)
theorem cn_X6_push (fu : Nat) (x1 : Int32) (F : PF) (G : PG) (q : Int32 × PF × PG) (hm : cf_X6_push fu x1 F G = some q) : xn F ≤ xn q.2.1 := cn_X6_push_0 fu x1 F G hm
theorem ck_X6_push (l : Launch) (v : EV) (a : Nat → Nat) (b sz : Nat) (fu : Nat) (x1 : Int32) (F : PF) (G : PG) (r : Int32) (F1 : PF) (G1 : PG) (hm : cf_X6_push fu x1 F G = some (r, F1, G1)) : cMV l yX6_push cX6_push 2 2 90 v a b sz [.ref (a 206), .int x1] F G F1 G1 := cMV.of (by decide) (Nat.le_of_ble_eq_true rfl) (fun p e R s m args below meth c Q A H locs ls C hw hl hret => cw_X6_push_0 fu (res := (r, F1, G1)) C hret x1 F G hm hw hl)
def cb_X6_pop_19 (fu : Nat) (F : PF) (G : PG) : PR := if ixb (F 56) (xn F) = true then (some ((G 55 (F 56).toNatClampNeg), F, G)) else none
def cb_X6_pop_9 (fu : Nat) (F : PF) (G : PG) : PR := cb_X6_pop_19 fu (fup F 56 ((F 56) - (1 : Int32))) G
def cb_X6_pop_7 (fu : Nat) (F : PF) (G : PG) : PR := some (0, F, G)
def cb_X6_pop_0 (fu : Nat) (F : PF) (G : PG) : PR := if (0 : Int32) < (F 56) then cb_X6_pop_9 fu F G else cb_X6_pop_7 fu F G
def cf_X6_pop (fu : Nat) (F : PF) (G : PG) : PR := cb_X6_pop_0 fu F G
theorem cn_X6_pop_19 (fu : Nat) {res : Int32 × PF × PG} (F : PF) (G : PG) (hm : cb_X6_pop_19 fu F G = some res) : xn F ≤ xn res.2.1 := by
  unfold cb_X6_pop_19 at hm
  have hm := (ix_elim hm).2
  obtain rfl := Option.some.inj hm
  exact Nat.le_refl _
theorem cw_X6_pop_19 (fu : Nat) {res : Int32 × PF × PG} (C : cMC p R s m args c A v RX6 cX6_pop 1 0 0 (xn res.2.1 - xn K0)) (hret : ∀ (b1 : Nat) (H1 : Heap) (locs1 : List Loc) (ls1 : Array Slot) (pc : Nat), cMW s A v a b1 K0 res.2.1 res.2.2 H1 locs1 → narrow .int (.int res.1) = .int res.1 → decode cX6_pop pc = .ok (.ireturn, 1) → W p l e R s m args below meth c H1 locs1 (xn res.2.1 - xn K0) (2 * (xn res.2.1 - xn K0)) Q (F0 m pc ls1 [.int res.1])) (F : PF) (G : PG) (hm : cb_X6_pop_19 fu F G = some res) {b : Nat} {H : Heap} {locs : List Loc} (hw : cMW s A v a b K0 F G H locs) {ls : Array Slot} (hl : lv_has ls 1 [(0, .ref (a 206))]) : W p l e R s m args below meth c H locs (xn F - xn K0) (2 * (xn F - xn K0)) Q (F0 m 19 ls []) := by
  have hx := C.1
  have hb := C.2.1
  unfold cb_X6_pop_19 at hm
  refine lv_aload_n hx hb dX6_pop_19 rfl (lv_at hl 0 rfl) ?_
  refine cg_X6_15 C hw dX6_pop_20 ?_
  refine lv_aload_n hx hb dX6_pop_23 rfl (lv_at hl 0 rfl) ?_
  refine cg_X6_49 C hw dX6_pop_24 ?_
  obtain ⟨hi, hm⟩ := ix_elim hm
  refine cal_55 C hw hi dX6_pop_27 ?_
  obtain rfl := Option.some.inj hm
  exact hret _ _ _ _ _ hw rfl dX6_pop_28
theorem cn_X6_pop_9 (fu : Nat) {res : Int32 × PF × PG} (F : PF) (G : PG) (hm : cb_X6_pop_9 fu F G = some res) : xn F ≤ xn res.2.1 := by
  unfold cb_X6_pop_9 at hm
  exact Nat.le_trans (Nat.le_of_eq (xn_fup (by decide)).symm) (cn_X6_pop_19 fu (fup F 56 ((F 56) - (1 : Int32))) G hm)
theorem cw_X6_pop_9 (fu : Nat) {res : Int32 × PF × PG} (C : cMC p R s m args c A v RX6 cX6_pop 1 0 0 (xn res.2.1 - xn K0)) (hret : ∀ (b1 : Nat) (H1 : Heap) (locs1 : List Loc) (ls1 : Array Slot) (pc : Nat), cMW s A v a b1 K0 res.2.1 res.2.2 H1 locs1 → narrow .int (.int res.1) = .int res.1 → decode cX6_pop pc = .ok (.ireturn, 1) → W p l e R s m args below meth c H1 locs1 (xn res.2.1 - xn K0) (2 * (xn res.2.1 - xn K0)) Q (F0 m pc ls1 [.int res.1])) (F : PF) (G : PG) (hm : cb_X6_pop_9 fu F G = some res) {b : Nat} {H : Heap} {locs : List Loc} (hw : cMW s A v a b K0 F G H locs) {ls : Array Slot} (hl : lv_has ls 1 [(0, .ref (a 206))]) : W p l e R s m args below meth c H locs (xn F - xn K0) (2 * (xn F - xn K0)) Q (F0 m 9 ls []) := by
  have hx := C.1
  have hb := C.2.1
  unfold cb_X6_pop_9 at hm
  refine lv_aload_n hx hb dX6_pop_9 rfl (lv_at hl 0 rfl) ?_
  refine lv_dup hx hb dX6_pop_10 rfl ?_
  refine cg_X6_49 C hw dX6_pop_11 ?_
  refine lv_iconst (v := 1) hx hb dX6_pop_14 (by decide) ?_
  refine lv_isub hx hb dX6_pop_15 ?_
  refine cp_X6_49 C hw dX6_pop_16 (fun H locs hw => ?_)
  exact cw_X6_pop_19 fu C hret (fup F 56 ((F 56) - (1 : Int32))) G hm hw (lv_sub hl [0] rfl)
theorem cn_X6_pop_7 (fu : Nat) {res : Int32 × PF × PG} (F : PF) (G : PG) (hm : cb_X6_pop_7 fu F G = some res) : xn F ≤ xn res.2.1 := by
  unfold cb_X6_pop_7 at hm
  obtain rfl := Option.some.inj hm
  exact Nat.le_refl _
theorem cw_X6_pop_7 (fu : Nat) {res : Int32 × PF × PG} (C : cMC p R s m args c A v RX6 cX6_pop 1 0 0 (xn res.2.1 - xn K0)) (hret : ∀ (b1 : Nat) (H1 : Heap) (locs1 : List Loc) (ls1 : Array Slot) (pc : Nat), cMW s A v a b1 K0 res.2.1 res.2.2 H1 locs1 → narrow .int (.int res.1) = .int res.1 → decode cX6_pop pc = .ok (.ireturn, 1) → W p l e R s m args below meth c H1 locs1 (xn res.2.1 - xn K0) (2 * (xn res.2.1 - xn K0)) Q (F0 m pc ls1 [.int res.1])) (F : PF) (G : PG) (hm : cb_X6_pop_7 fu F G = some res) {b : Nat} {H : Heap} {locs : List Loc} (hw : cMW s A v a b K0 F G H locs) {ls : Array Slot} (hl : lv_has ls 1 []) : W p l e R s m args below meth c H locs (xn F - xn K0) (2 * (xn F - xn K0)) Q (F0 m 7 ls []) := by
  have hx := C.1
  have hb := C.2.1
  unfold cb_X6_pop_7 at hm
  refine lv_iconst (v := 0) hx hb dX6_pop_7 (by decide) ?_
  obtain rfl := Option.some.inj hm
  exact hret _ _ _ _ _ hw rfl dX6_pop_8
theorem cn_X6_pop_0 (fu : Nat) {res : Int32 × PF × PG} (F : PF) (G : PG) (hm : cb_X6_pop_0 fu F G = some res) : xn F ≤ xn res.2.1 := by
  unfold cb_X6_pop_0 at hm
  by_cases c_1 : (0 : Int32) < (F 56)
  · have hm := (if_pos c_1).symm.trans hm
    exact (cn_X6_pop_9 fu F G hm)
  · have hm := (if_neg c_1).symm.trans hm
    exact (cn_X6_pop_7 fu F G hm)
theorem cw_X6_pop_0 (fu : Nat) {res : Int32 × PF × PG} (C : cMC p R s m args c A v RX6 cX6_pop 1 0 0 (xn res.2.1 - xn K0)) (hret : ∀ (b1 : Nat) (H1 : Heap) (locs1 : List Loc) (ls1 : Array Slot) (pc : Nat), cMW s A v a b1 K0 res.2.1 res.2.2 H1 locs1 → narrow .int (.int res.1) = .int res.1 → decode cX6_pop pc = .ok (.ireturn, 1) → W p l e R s m args below meth c H1 locs1 (xn res.2.1 - xn K0) (2 * (xn res.2.1 - xn K0)) Q (F0 m pc ls1 [.int res.1])) (F : PF) (G : PG) (hm : cb_X6_pop_0 fu F G = some res) {b : Nat} {H : Heap} {locs : List Loc} (hw : cMW s A v a b K0 F G H locs) {ls : Array Slot} (hl : lv_has ls 1 [(0, .ref (a 206))]) : W p l e R s m args below meth c H locs (xn F - xn K0) (2 * (xn F - xn K0)) Q (F0 m 0 ls []) := by
  have hx := C.1
  have hb := C.2.1
  unfold cb_X6_pop_0 at hm
  refine lv_aload_n hx hb dX6_pop_0 rfl (lv_at hl 0 rfl) ?_
  refine cg_X6_49 C hw dX6_pop_1 ?_
  refine lv_if_gt (tgt := 9) hx hb dX6_pop_4 (by decide) (fun c_1 => ?_) (fun c_1 => ?_)
  · have hm := (if_pos c_1).symm.trans hm
    exact cw_X6_pop_9 fu C hret F G hm hw (lv_sub hl [0] rfl)
  · have hm := (if_neg c_1).symm.trans hm
    exact cw_X6_pop_7 fu C hret F G hm hw (lv_sub hl [] rfl)
theorem cn_X6_pop (fu : Nat) (F : PF) (G : PG) (q : Int32 × PF × PG) (hm : cf_X6_pop fu F G = some q) : xn F ≤ xn q.2.1 := cn_X6_pop_0 fu F G hm
theorem ck_X6_pop (l : Launch) (v : EV) (a : Nat → Nat) (b sz : Nat) (fu : Nat) (F : PF) (G : PG) (r : Int32) (F1 : PF) (G1 : PG) (hm : cf_X6_pop fu F G = some (r, F1, G1)) : cMI l yX6_pop cX6_pop 1 (some .int) 0 0 v a b sz [.ref (a 206)] F G r F1 G1 := cMI.of (ty := .int) (by decide) rfl (Nat.le_of_ble_eq_true rfl) (fun p e R s m args below meth c Q A H locs ls C hw hl hret => cw_X6_pop_0 fu (res := (r, F1, G1)) C hret F G hm hw hl)
def cb_X6_jump_78 (fu : Nat) (F : PF) (G : PG) : PR := some (0, F, G)
def cb_X6_jump_73 (fu : Nat) (x2 : Int32) (F : PF) (G : PG) : PR := cb_X6_jump_78 fu (fup F 57 x2) G
def cb_X6_jump_69 (fu : Nat) (x2 : Int32) (x3 : Int32) (F : PF) (G : PG) : PR := if x3 = (0 : Int32) then cb_X6_jump_78 fu F G else cb_X6_jump_73 fu x2 F G
def cb_X6_jump_66 (fu : Nat) (x2 : Int32) (x3 : Int32) (z0 : Int32) (F : PF) (G : PG) : PR := (cf_X6_push fu z0 F G).bind (fun q => cb_X6_jump_69 fu x2 x3 q.2.1 q.2.2)
def cb_X6_jump_60 (fu : Nat) (x2 : Int32) (x3 : Int32) (x4 : Int32) (F : PF) (G : PG) : PR := (cf_X11_truth fu x4 F G).bind (fun q => cb_X6_jump_66 fu x2 x3 q.1 q.2.1 q.2.2)
def cb_X6_jump_54 (fu : Nat) (x1 : Int32) (x2 : Int32) (x3 : Int32) (x4 : Int32) (F : PF) (G : PG) : PR := if x1 < (87 : Int32) then cb_X6_jump_69 fu x2 x3 F G else cb_X6_jump_60 fu x2 x3 x4 F G
def cb_X6_jump_49 (fu : Nat) (x1 : Int32) (x2 : Int32) (x4 : Int32) (z0 : Int32) (F : PF) (G : PG) : PR := if z0 = (0 : Int32) then cb_X6_jump_69 fu x2 z0 F G else cb_X6_jump_54 fu x1 x2 z0 x4 F G
def cb_X6_jump_48 (fu : Nat) (x1 : Int32) (x2 : Int32) (x4 : Int32) (F : PF) (G : PG) : PR := cb_X6_jump_49 fu x1 x2 x4 0 F G
def cb_X6_jump_44 (fu : Nat) (x1 : Int32) (x2 : Int32) (x4 : Int32) (F : PF) (G : PG) : PR := cb_X6_jump_49 fu x1 x2 x4 1 F G
def cb_X6_jump_41 (fu : Nat) (x1 : Int32) (x2 : Int32) (x4 : Int32) (z0 : Int32) (z1 : Int32) (F : PF) (G : PG) : PR := if z1 = z0 then cb_X6_jump_44 fu x1 x2 x4 F G else cb_X6_jump_48 fu x1 x2 x4 F G
def cb_X6_jump_36 (fu : Nat) (x1 : Int32) (x2 : Int32) (x4 : Int32) (z0 : Int32) (F : PF) (G : PG) : PR := cb_X6_jump_41 fu x1 x2 x4 1 z0 F G
def cb_X6_jump_40 (fu : Nat) (x1 : Int32) (x2 : Int32) (x4 : Int32) (z0 : Int32) (F : PF) (G : PG) : PR := cb_X6_jump_41 fu x1 x2 x4 0 z0 F G
def cb_X6_jump_30 (fu : Nat) (x1 : Int32) (x2 : Int32) (x4 : Int32) (z0 : Int32) (F : PF) (G : PG) : PR := if x1 = (87 : Int32) then cb_X6_jump_36 fu x1 x2 x4 z0 F G else cb_X6_jump_40 fu x1 x2 x4 z0 F G
def cb_X6_jump_20 (fu : Nat) (x1 : Int32) (x2 : Int32) (z0 : Int32) (F : PF) (G : PG) : PR := if x1 = (85 : Int32) then cb_X6_jump_36 fu x1 x2 z0 z0 F G else cb_X6_jump_30 fu x1 x2 z0 z0 F G
def cb_X6_jump_19 (fu : Nat) (x1 : Int32) (x2 : Int32) (F : PF) (G : PG) : PR := cb_X6_jump_20 fu x1 x2 0 F G
def cb_X6_jump_15 (fu : Nat) (x1 : Int32) (x2 : Int32) (F : PF) (G : PG) : PR := cb_X6_jump_20 fu x1 x2 1 F G
def cb_X6_jump_12 (fu : Nat) (x1 : Int32) (x2 : Int32) (z0 : Int32) (F : PF) (G : PG) : PR := if z0 = (0 : Int32) then cb_X6_jump_19 fu x1 x2 F G else cb_X6_jump_15 fu x1 x2 F G
def cb_X6_jump_8 (fu : Nat) (x1 : Int32) (x2 : Int32) (F : PF) (G : PG) : PR := (cf_X6_pop fu F G).bind (fun q => cb_X6_jump_12 fu x1 x2 q.1 q.2.1 q.2.2)
def cb_X6_jump_0 (fu : Nat) (x1 : Int32) (x2 : Int32) (F : PF) (G : PG) : PR := if x1 = (84 : Int32) then cb_X6_jump_69 fu x2 1 F G else cb_X6_jump_8 fu x1 x2 F G
def cf_X6_jump (fu : Nat) (x1 : Int32) (x2 : Int32) (F : PF) (G : PG) : PR := cb_X6_jump_0 fu x1 x2 F G
theorem cn_X6_jump_78 (fu : Nat) {res : Int32 × PF × PG} (F : PF) (G : PG) (hm : cb_X6_jump_78 fu F G = some res) : xn F ≤ xn res.2.1 := by
  unfold cb_X6_jump_78 at hm
  obtain rfl := Option.some.inj hm
  exact Nat.le_refl _
theorem cw_X6_jump_78 (fu : Nat) {res : Int32 × PF × PG} (C : cMC p R s m args c A v RX6 cX6_jump 5 3 111 (xn res.2.1 - xn K0)) (hret : ∀ (b1 : Nat) (H1 : Heap) (locs1 : List Loc) (ls1 : Array Slot) (pc : Nat), cMW s A v a b1 K0 res.2.1 res.2.2 H1 locs1 → decode cX6_jump pc = .ok (.return_, 1) → W p l e R s m args below meth c H1 locs1 (xn res.2.1 - xn K0) (2 * (xn res.2.1 - xn K0)) Q (F0 m pc ls1 [])) (F : PF) (G : PG) (hm : cb_X6_jump_78 fu F G = some res) {b : Nat} {H : Heap} {locs : List Loc} (hw : cMW s A v a b K0 F G H locs) {ls : Array Slot} (hl : lv_has ls 5 []) : W p l e R s m args below meth c H locs (xn F - xn K0) (2 * (xn F - xn K0)) Q (F0 m 78 ls []) := by
  have hx := C.1
  have hb := C.2.1
  unfold cb_X6_jump_78 at hm
  obtain rfl := Option.some.inj hm
  exact hret _ _ _ _ _ hw dX6_jump_78
theorem cn_X6_jump_73 (fu : Nat) {res : Int32 × PF × PG} (x2 : Int32) (F : PF) (G : PG) (hm : cb_X6_jump_73 fu x2 F G = some res) : xn F ≤ xn res.2.1 := by
  unfold cb_X6_jump_73 at hm
  exact Nat.le_trans (Nat.le_of_eq (xn_fup (by decide)).symm) (cn_X6_jump_78 fu (fup F 57 x2) G hm)
theorem cw_X6_jump_73 (fu : Nat) {res : Int32 × PF × PG} (C : cMC p R s m args c A v RX6 cX6_jump 5 3 111 (xn res.2.1 - xn K0)) (hret : ∀ (b1 : Nat) (H1 : Heap) (locs1 : List Loc) (ls1 : Array Slot) (pc : Nat), cMW s A v a b1 K0 res.2.1 res.2.2 H1 locs1 → decode cX6_jump pc = .ok (.return_, 1) → W p l e R s m args below meth c H1 locs1 (xn res.2.1 - xn K0) (2 * (xn res.2.1 - xn K0)) Q (F0 m pc ls1 [])) (x2 : Int32) (F : PF) (G : PG) (hm : cb_X6_jump_73 fu x2 F G = some res) {b : Nat} {H : Heap} {locs : List Loc} (hw : cMW s A v a b K0 F G H locs) {ls : Array Slot} (hl : lv_has ls 5 [(0, .ref (a 206)), (2, .int x2)]) : W p l e R s m args below meth c H locs (xn F - xn K0) (2 * (xn F - xn K0)) Q (F0 m 73 ls []) := by
  have hx := C.1
  have hb := C.2.1
  unfold cb_X6_jump_73 at hm
  refine lv_aload_n hx hb dX6_jump_73 rfl (lv_at hl 0 rfl) ?_
  refine lv_iload_n hx hb dX6_jump_74 rfl (lv_at hl 1 rfl) ?_
  refine cp_X6_70 C hw dX6_jump_75 (fun H locs hw => ?_)
  exact cw_X6_jump_78 fu C hret (fup F 57 x2) G hm hw (lv_sub hl [] rfl)
theorem cn_X6_jump_69 (fu : Nat) {res : Int32 × PF × PG} (x2 : Int32) (x3 : Int32) (F : PF) (G : PG) (hm : cb_X6_jump_69 fu x2 x3 F G = some res) : xn F ≤ xn res.2.1 := by
  unfold cb_X6_jump_69 at hm
  by_cases c_1 : x3 = (0 : Int32)
  · have hm := (if_pos c_1).symm.trans hm
    exact (cn_X6_jump_78 fu F G hm)
  · have hm := (if_neg c_1).symm.trans hm
    exact (cn_X6_jump_73 fu x2 F G hm)
theorem cw_X6_jump_69 (fu : Nat) {res : Int32 × PF × PG} (C : cMC p R s m args c A v RX6 cX6_jump 5 3 111 (xn res.2.1 - xn K0)) (hret : ∀ (b1 : Nat) (H1 : Heap) (locs1 : List Loc) (ls1 : Array Slot) (pc : Nat), cMW s A v a b1 K0 res.2.1 res.2.2 H1 locs1 → decode cX6_jump pc = .ok (.return_, 1) → W p l e R s m args below meth c H1 locs1 (xn res.2.1 - xn K0) (2 * (xn res.2.1 - xn K0)) Q (F0 m pc ls1 [])) (x2 : Int32) (x3 : Int32) (F : PF) (G : PG) (hm : cb_X6_jump_69 fu x2 x3 F G = some res) {b : Nat} {H : Heap} {locs : List Loc} (hw : cMW s A v a b K0 F G H locs) {ls : Array Slot} (hl : lv_has ls 5 [(0, .ref (a 206)), (2, .int x2), (3, .int x3)]) : W p l e R s m args below meth c H locs (xn F - xn K0) (2 * (xn F - xn K0)) Q (F0 m 69 ls []) := by
  have hx := C.1
  have hb := C.2.1
  unfold cb_X6_jump_69 at hm
  refine lv_iload_n hx hb dX6_jump_69 rfl (lv_at hl 2 rfl) ?_
  refine lv_if_eq (tgt := 78) hx hb dX6_jump_70 (by decide) (fun c_1 => ?_) (fun c_1 => ?_)
  · have hm := (if_pos c_1).symm.trans hm
    exact cw_X6_jump_78 fu C hret F G hm hw (lv_sub hl [] rfl)
  · have hm := (if_neg c_1).symm.trans hm
    exact cw_X6_jump_73 fu C hret x2 F G hm hw (lv_sub hl [0, 1] rfl)
theorem cn_X6_jump_66 (fu : Nat) {res : Int32 × PF × PG} (x2 : Int32) (x3 : Int32) (z0 : Int32) (F : PF) (G : PG) (hm : cb_X6_jump_66 fu x2 x3 z0 F G = some res) : xn F ≤ xn res.2.1 := by
  unfold cb_X6_jump_66 at hm
  obtain ⟨⟨r1, F1, G1⟩, hc, hm⟩ := bind_elim hm
  exact Nat.le_trans (cn_X6_push fu z0 F G _ hc) (cn_X6_jump_69 fu x2 x3 F1 G1 hm)
theorem cw_X6_jump_66 (fu : Nat) {res : Int32 × PF × PG} (C : cMC p R s m args c A v RX6 cX6_jump 5 3 111 (xn res.2.1 - xn K0)) (hret : ∀ (b1 : Nat) (H1 : Heap) (locs1 : List Loc) (ls1 : Array Slot) (pc : Nat), cMW s A v a b1 K0 res.2.1 res.2.2 H1 locs1 → decode cX6_jump pc = .ok (.return_, 1) → W p l e R s m args below meth c H1 locs1 (xn res.2.1 - xn K0) (2 * (xn res.2.1 - xn K0)) Q (F0 m pc ls1 [])) (x2 : Int32) (x3 : Int32) (z0 : Int32) (F : PF) (G : PG) (hm : cb_X6_jump_66 fu x2 x3 z0 F G = some res) {b : Nat} {H : Heap} {locs : List Loc} (hw : cMW s A v a b K0 F G H locs) {ls : Array Slot} (hl : lv_has ls 5 [(0, .ref (a 206)), (2, .int x2), (3, .int x3)]) : W p l e R s m args below meth c H locs (xn F - xn K0) (2 * (xn F - xn K0)) Q (F0 m 66 ls [.int z0, .ref (a 206)]) := by
  have hx := C.1
  have hb := C.2.1
  unfold cb_X6_jump_66 at hm
  obtain ⟨⟨r1, F1, G1⟩, hc, hm⟩ := bind_elim hm
  refine ccallV (n := 1) (As := [.int z0]) (rest := []) C hw (ck_X6_push l v a _ _ fu z0 F G r1 F1 G1 hc) (cn_X6_push fu z0 F G _ hc) (Nat.sub_le_sub_right (cn_X6_jump_69 fu x2 x3 F1 G1 hm) _) (crecv_X6 C hw) cm_533 cm_534 cm_535 cm_21 cm_536 (by decide +kernel) rfl (by omega) (by omega) hl.1 rfl (Nat.le_of_ble_eq_true rfl) dX6_jump_66 (fun b H locs hw => ?_)
  exact cw_X6_jump_69 fu C hret x2 x3 F1 G1 hm hw (lv_sub hl [0, 1, 2] rfl)
theorem cn_X6_jump_60 (fu : Nat) {res : Int32 × PF × PG} (x2 : Int32) (x3 : Int32) (x4 : Int32) (F : PF) (G : PG) (hm : cb_X6_jump_60 fu x2 x3 x4 F G = some res) : xn F ≤ xn res.2.1 := by
  unfold cb_X6_jump_60 at hm
  obtain ⟨⟨r1, F1, G1⟩, hc, hm⟩ := bind_elim hm
  exact Nat.le_trans (cn_X11_truth fu x4 F G _ hc) (cn_X6_jump_66 fu x2 x3 r1 F1 G1 hm)
theorem cw_X6_jump_60 (fu : Nat) {res : Int32 × PF × PG} (C : cMC p R s m args c A v RX6 cX6_jump 5 3 111 (xn res.2.1 - xn K0)) (hret : ∀ (b1 : Nat) (H1 : Heap) (locs1 : List Loc) (ls1 : Array Slot) (pc : Nat), cMW s A v a b1 K0 res.2.1 res.2.2 H1 locs1 → decode cX6_jump pc = .ok (.return_, 1) → W p l e R s m args below meth c H1 locs1 (xn res.2.1 - xn K0) (2 * (xn res.2.1 - xn K0)) Q (F0 m pc ls1 [])) (x2 : Int32) (x3 : Int32) (x4 : Int32) (F : PF) (G : PG) (hm : cb_X6_jump_60 fu x2 x3 x4 F G = some res) {b : Nat} {H : Heap} {locs : List Loc} (hw : cMW s A v a b K0 F G H locs) {ls : Array Slot} (hl : lv_has ls 5 [(0, .ref (a 206)), (2, .int x2), (3, .int x3), (4, .int x4)]) : W p l e R s m args below meth c H locs (xn F - xn K0) (2 * (xn F - xn K0)) Q (F0 m 60 ls []) := by
  have hx := C.1
  have hb := C.2.1
  unfold cb_X6_jump_60 at hm
  refine lv_aload_n hx hb dX6_jump_60 rfl (lv_at hl 0 rfl) ?_
  refine lv_iload hx hb dX6_jump_61 (lv_at hl 3 rfl) ?_
  obtain ⟨⟨r1, F1, G1⟩, hc, hm⟩ := bind_elim hm
  refine ccallIN (n := 1) (As := [.int x4]) (rest := [.ref (a 206)]) C hw (ck_X11_truth l v a _ _ fu x4 F G r1 F1 G1 hc) (cn_X11_truth fu x4 F G _ hc) (Nat.sub_le_sub_right (cn_X6_jump_66 fu x2 x3 r1 F1 G1 hm) _) C.2.2.2.2.2.2.2.2.2.1.2.2.2.2.2.2.2.2.2.2.2.2.2.2.2.2.2.2.2.2.2.2.2.1 cm_562 cm_563 cm_564 (by decide +kernel) rfl (by omega) (by omega) hl.1 rfl (Nat.le_of_ble_eq_true rfl) dX6_jump_63 (fun b H locs hw => ?_)
  exact cw_X6_jump_66 fu C hret x2 x3 r1 F1 G1 hm hw (lv_sub hl [0, 1, 2] rfl)
theorem cn_X6_jump_54 (fu : Nat) {res : Int32 × PF × PG} (x1 : Int32) (x2 : Int32) (x3 : Int32) (x4 : Int32) (F : PF) (G : PG) (hm : cb_X6_jump_54 fu x1 x2 x3 x4 F G = some res) : xn F ≤ xn res.2.1 := by
  unfold cb_X6_jump_54 at hm
  by_cases c_1 : x1 < (87 : Int32)
  · have hm := (if_pos c_1).symm.trans hm
    exact (cn_X6_jump_69 fu x2 x3 F G hm)
  · have hm := (if_neg c_1).symm.trans hm
    exact (cn_X6_jump_60 fu x2 x3 x4 F G hm)
theorem cw_X6_jump_54 (fu : Nat) {res : Int32 × PF × PG} (C : cMC p R s m args c A v RX6 cX6_jump 5 3 111 (xn res.2.1 - xn K0)) (hret : ∀ (b1 : Nat) (H1 : Heap) (locs1 : List Loc) (ls1 : Array Slot) (pc : Nat), cMW s A v a b1 K0 res.2.1 res.2.2 H1 locs1 → decode cX6_jump pc = .ok (.return_, 1) → W p l e R s m args below meth c H1 locs1 (xn res.2.1 - xn K0) (2 * (xn res.2.1 - xn K0)) Q (F0 m pc ls1 [])) (x1 : Int32) (x2 : Int32) (x3 : Int32) (x4 : Int32) (F : PF) (G : PG) (hm : cb_X6_jump_54 fu x1 x2 x3 x4 F G = some res) {b : Nat} {H : Heap} {locs : List Loc} (hw : cMW s A v a b K0 F G H locs) {ls : Array Slot} (hl : lv_has ls 5 [(0, .ref (a 206)), (1, .int x1), (2, .int x2), (3, .int x3), (4, .int x4)]) : W p l e R s m args below meth c H locs (xn F - xn K0) (2 * (xn F - xn K0)) Q (F0 m 54 ls []) := by
  have hx := C.1
  have hb := C.2.1
  unfold cb_X6_jump_54 at hm
  refine lv_iload_n hx hb dX6_jump_54 rfl (lv_at hl 1 rfl) ?_
  refine lv_bipush (v := 87) hx hb dX6_jump_55 (by decide) ?_
  refine lv_icmp_lt (tgt := 69) hx hb dX6_jump_57 (by decide) (fun c_1 => ?_) (fun c_1 => ?_)
  · have hm := (if_pos c_1).symm.trans hm
    exact cw_X6_jump_69 fu C hret x2 x3 F G hm hw (lv_sub hl [0, 2, 3] rfl)
  · have hm := (if_neg c_1).symm.trans hm
    exact cw_X6_jump_60 fu C hret x2 x3 x4 F G hm hw (lv_sub hl [0, 2, 3, 4] rfl)
theorem cn_X6_jump_49 (fu : Nat) {res : Int32 × PF × PG} (x1 : Int32) (x2 : Int32) (x4 : Int32) (z0 : Int32) (F : PF) (G : PG) (hm : cb_X6_jump_49 fu x1 x2 x4 z0 F G = some res) : xn F ≤ xn res.2.1 := by
  unfold cb_X6_jump_49 at hm
  by_cases c_1 : z0 = (0 : Int32)
  · have hm := (if_pos c_1).symm.trans hm
    exact (cn_X6_jump_69 fu x2 z0 F G hm)
  · have hm := (if_neg c_1).symm.trans hm
    exact (cn_X6_jump_54 fu x1 x2 z0 x4 F G hm)
theorem cw_X6_jump_49 (fu : Nat) {res : Int32 × PF × PG} (C : cMC p R s m args c A v RX6 cX6_jump 5 3 111 (xn res.2.1 - xn K0)) (hret : ∀ (b1 : Nat) (H1 : Heap) (locs1 : List Loc) (ls1 : Array Slot) (pc : Nat), cMW s A v a b1 K0 res.2.1 res.2.2 H1 locs1 → decode cX6_jump pc = .ok (.return_, 1) → W p l e R s m args below meth c H1 locs1 (xn res.2.1 - xn K0) (2 * (xn res.2.1 - xn K0)) Q (F0 m pc ls1 [])) (x1 : Int32) (x2 : Int32) (x4 : Int32) (z0 : Int32) (F : PF) (G : PG) (hm : cb_X6_jump_49 fu x1 x2 x4 z0 F G = some res) {b : Nat} {H : Heap} {locs : List Loc} (hw : cMW s A v a b K0 F G H locs) {ls : Array Slot} (hl : lv_has ls 5 [(0, .ref (a 206)), (1, .int x1), (2, .int x2), (4, .int x4)]) : W p l e R s m args below meth c H locs (xn F - xn K0) (2 * (xn F - xn K0)) Q (F0 m 49 ls [.int z0]) := by
  have hx := C.1
  have hb := C.2.1
  unfold cb_X6_jump_49 at hm
  refine lv_istore_n (lv' := [(3, .int z0), (0, .ref (a 206)), (1, .int x1), (2, .int x2), (4, .int x4)]) hx hb dX6_jump_49 rfl hl (by decide) rfl (fun ls hl => ?_)
  refine lv_iload_n hx hb dX6_jump_50 rfl (lv_at hl 0 rfl) ?_
  refine lv_if_eq (tgt := 69) hx hb dX6_jump_51 (by decide) (fun c_1 => ?_) (fun c_1 => ?_)
  · have hm := (if_pos c_1).symm.trans hm
    exact cw_X6_jump_69 fu C hret x2 z0 F G hm hw (lv_sub hl [1, 3, 0] rfl)
  · have hm := (if_neg c_1).symm.trans hm
    exact cw_X6_jump_54 fu C hret x1 x2 z0 x4 F G hm hw (lv_sub hl [1, 2, 3, 0, 4] rfl)
theorem cn_X6_jump_48 (fu : Nat) {res : Int32 × PF × PG} (x1 : Int32) (x2 : Int32) (x4 : Int32) (F : PF) (G : PG) (hm : cb_X6_jump_48 fu x1 x2 x4 F G = some res) : xn F ≤ xn res.2.1 := by
  unfold cb_X6_jump_48 at hm
  exact (cn_X6_jump_49 fu x1 x2 x4 0 F G hm)
theorem cw_X6_jump_48 (fu : Nat) {res : Int32 × PF × PG} (C : cMC p R s m args c A v RX6 cX6_jump 5 3 111 (xn res.2.1 - xn K0)) (hret : ∀ (b1 : Nat) (H1 : Heap) (locs1 : List Loc) (ls1 : Array Slot) (pc : Nat), cMW s A v a b1 K0 res.2.1 res.2.2 H1 locs1 → decode cX6_jump pc = .ok (.return_, 1) → W p l e R s m args below meth c H1 locs1 (xn res.2.1 - xn K0) (2 * (xn res.2.1 - xn K0)) Q (F0 m pc ls1 [])) (x1 : Int32) (x2 : Int32) (x4 : Int32) (F : PF) (G : PG) (hm : cb_X6_jump_48 fu x1 x2 x4 F G = some res) {b : Nat} {H : Heap} {locs : List Loc} (hw : cMW s A v a b K0 F G H locs) {ls : Array Slot} (hl : lv_has ls 5 [(0, .ref (a 206)), (1, .int x1), (2, .int x2), (4, .int x4)]) : W p l e R s m args below meth c H locs (xn F - xn K0) (2 * (xn F - xn K0)) Q (F0 m 48 ls []) := by
  have hx := C.1
  have hb := C.2.1
  unfold cb_X6_jump_48 at hm
  refine lv_iconst (v := 0) hx hb dX6_jump_48 (by decide) ?_
  exact cw_X6_jump_49 fu C hret x1 x2 x4 0 F G hm hw (lv_sub hl [0, 1, 2, 3] rfl)
theorem cn_X6_jump_44 (fu : Nat) {res : Int32 × PF × PG} (x1 : Int32) (x2 : Int32) (x4 : Int32) (F : PF) (G : PG) (hm : cb_X6_jump_44 fu x1 x2 x4 F G = some res) : xn F ≤ xn res.2.1 := by
  unfold cb_X6_jump_44 at hm
  exact (cn_X6_jump_49 fu x1 x2 x4 1 F G hm)
theorem cw_X6_jump_44 (fu : Nat) {res : Int32 × PF × PG} (C : cMC p R s m args c A v RX6 cX6_jump 5 3 111 (xn res.2.1 - xn K0)) (hret : ∀ (b1 : Nat) (H1 : Heap) (locs1 : List Loc) (ls1 : Array Slot) (pc : Nat), cMW s A v a b1 K0 res.2.1 res.2.2 H1 locs1 → decode cX6_jump pc = .ok (.return_, 1) → W p l e R s m args below meth c H1 locs1 (xn res.2.1 - xn K0) (2 * (xn res.2.1 - xn K0)) Q (F0 m pc ls1 [])) (x1 : Int32) (x2 : Int32) (x4 : Int32) (F : PF) (G : PG) (hm : cb_X6_jump_44 fu x1 x2 x4 F G = some res) {b : Nat} {H : Heap} {locs : List Loc} (hw : cMW s A v a b K0 F G H locs) {ls : Array Slot} (hl : lv_has ls 5 [(0, .ref (a 206)), (1, .int x1), (2, .int x2), (4, .int x4)]) : W p l e R s m args below meth c H locs (xn F - xn K0) (2 * (xn F - xn K0)) Q (F0 m 44 ls []) := by
  have hx := C.1
  have hb := C.2.1
  unfold cb_X6_jump_44 at hm
  refine lv_iconst (v := 1) hx hb dX6_jump_44 (by decide) ?_
  refine lv_goto (tgt := 49) hx hb dX6_jump_45 (by decide) ?_
  exact cw_X6_jump_49 fu C hret x1 x2 x4 1 F G hm hw (lv_sub hl [0, 1, 2, 3] rfl)
theorem cn_X6_jump_41 (fu : Nat) {res : Int32 × PF × PG} (x1 : Int32) (x2 : Int32) (x4 : Int32) (z0 : Int32) (z1 : Int32) (F : PF) (G : PG) (hm : cb_X6_jump_41 fu x1 x2 x4 z0 z1 F G = some res) : xn F ≤ xn res.2.1 := by
  unfold cb_X6_jump_41 at hm
  by_cases c_1 : z1 = z0
  · have hm := (if_pos c_1).symm.trans hm
    exact (cn_X6_jump_44 fu x1 x2 x4 F G hm)
  · have hm := (if_neg c_1).symm.trans hm
    exact (cn_X6_jump_48 fu x1 x2 x4 F G hm)
theorem cw_X6_jump_41 (fu : Nat) {res : Int32 × PF × PG} (C : cMC p R s m args c A v RX6 cX6_jump 5 3 111 (xn res.2.1 - xn K0)) (hret : ∀ (b1 : Nat) (H1 : Heap) (locs1 : List Loc) (ls1 : Array Slot) (pc : Nat), cMW s A v a b1 K0 res.2.1 res.2.2 H1 locs1 → decode cX6_jump pc = .ok (.return_, 1) → W p l e R s m args below meth c H1 locs1 (xn res.2.1 - xn K0) (2 * (xn res.2.1 - xn K0)) Q (F0 m pc ls1 [])) (x1 : Int32) (x2 : Int32) (x4 : Int32) (z0 : Int32) (z1 : Int32) (F : PF) (G : PG) (hm : cb_X6_jump_41 fu x1 x2 x4 z0 z1 F G = some res) {b : Nat} {H : Heap} {locs : List Loc} (hw : cMW s A v a b K0 F G H locs) {ls : Array Slot} (hl : lv_has ls 5 [(0, .ref (a 206)), (1, .int x1), (2, .int x2), (4, .int x4)]) : W p l e R s m args below meth c H locs (xn F - xn K0) (2 * (xn F - xn K0)) Q (F0 m 41 ls [.int z0, .int z1]) := by
  have hx := C.1
  have hb := C.2.1
  unfold cb_X6_jump_41 at hm
  refine lv_icmp_ne (tgt := 48) hx hb dX6_jump_41 (by decide) (fun c_1 => ?_) (fun c_1 => ?_)
  · have hm := (if_neg c_1).symm.trans hm
    exact cw_X6_jump_48 fu C hret x1 x2 x4 F G hm hw (lv_sub hl [0, 1, 2, 3] rfl)
  · have hm := (if_pos c_1).symm.trans hm
    exact cw_X6_jump_44 fu C hret x1 x2 x4 F G hm hw (lv_sub hl [0, 1, 2, 3] rfl)
theorem cn_X6_jump_36 (fu : Nat) {res : Int32 × PF × PG} (x1 : Int32) (x2 : Int32) (x4 : Int32) (z0 : Int32) (F : PF) (G : PG) (hm : cb_X6_jump_36 fu x1 x2 x4 z0 F G = some res) : xn F ≤ xn res.2.1 := by
  unfold cb_X6_jump_36 at hm
  exact (cn_X6_jump_41 fu x1 x2 x4 1 z0 F G hm)
theorem cw_X6_jump_36 (fu : Nat) {res : Int32 × PF × PG} (C : cMC p R s m args c A v RX6 cX6_jump 5 3 111 (xn res.2.1 - xn K0)) (hret : ∀ (b1 : Nat) (H1 : Heap) (locs1 : List Loc) (ls1 : Array Slot) (pc : Nat), cMW s A v a b1 K0 res.2.1 res.2.2 H1 locs1 → decode cX6_jump pc = .ok (.return_, 1) → W p l e R s m args below meth c H1 locs1 (xn res.2.1 - xn K0) (2 * (xn res.2.1 - xn K0)) Q (F0 m pc ls1 [])) (x1 : Int32) (x2 : Int32) (x4 : Int32) (z0 : Int32) (F : PF) (G : PG) (hm : cb_X6_jump_36 fu x1 x2 x4 z0 F G = some res) {b : Nat} {H : Heap} {locs : List Loc} (hw : cMW s A v a b K0 F G H locs) {ls : Array Slot} (hl : lv_has ls 5 [(0, .ref (a 206)), (1, .int x1), (2, .int x2), (4, .int x4)]) : W p l e R s m args below meth c H locs (xn F - xn K0) (2 * (xn F - xn K0)) Q (F0 m 36 ls [.int z0]) := by
  have hx := C.1
  have hb := C.2.1
  unfold cb_X6_jump_36 at hm
  refine lv_iconst (v := 1) hx hb dX6_jump_36 (by decide) ?_
  refine lv_goto (tgt := 41) hx hb dX6_jump_37 (by decide) ?_
  exact cw_X6_jump_41 fu C hret x1 x2 x4 1 z0 F G hm hw (lv_sub hl [0, 1, 2, 3] rfl)
theorem cn_X6_jump_40 (fu : Nat) {res : Int32 × PF × PG} (x1 : Int32) (x2 : Int32) (x4 : Int32) (z0 : Int32) (F : PF) (G : PG) (hm : cb_X6_jump_40 fu x1 x2 x4 z0 F G = some res) : xn F ≤ xn res.2.1 := by
  unfold cb_X6_jump_40 at hm
  exact (cn_X6_jump_41 fu x1 x2 x4 0 z0 F G hm)
theorem cw_X6_jump_40 (fu : Nat) {res : Int32 × PF × PG} (C : cMC p R s m args c A v RX6 cX6_jump 5 3 111 (xn res.2.1 - xn K0)) (hret : ∀ (b1 : Nat) (H1 : Heap) (locs1 : List Loc) (ls1 : Array Slot) (pc : Nat), cMW s A v a b1 K0 res.2.1 res.2.2 H1 locs1 → decode cX6_jump pc = .ok (.return_, 1) → W p l e R s m args below meth c H1 locs1 (xn res.2.1 - xn K0) (2 * (xn res.2.1 - xn K0)) Q (F0 m pc ls1 [])) (x1 : Int32) (x2 : Int32) (x4 : Int32) (z0 : Int32) (F : PF) (G : PG) (hm : cb_X6_jump_40 fu x1 x2 x4 z0 F G = some res) {b : Nat} {H : Heap} {locs : List Loc} (hw : cMW s A v a b K0 F G H locs) {ls : Array Slot} (hl : lv_has ls 5 [(0, .ref (a 206)), (1, .int x1), (2, .int x2), (4, .int x4)]) : W p l e R s m args below meth c H locs (xn F - xn K0) (2 * (xn F - xn K0)) Q (F0 m 40 ls [.int z0]) := by
  have hx := C.1
  have hb := C.2.1
  unfold cb_X6_jump_40 at hm
  refine lv_iconst (v := 0) hx hb dX6_jump_40 (by decide) ?_
  exact cw_X6_jump_41 fu C hret x1 x2 x4 0 z0 F G hm hw (lv_sub hl [0, 1, 2, 3] rfl)
theorem cn_X6_jump_30 (fu : Nat) {res : Int32 × PF × PG} (x1 : Int32) (x2 : Int32) (x4 : Int32) (z0 : Int32) (F : PF) (G : PG) (hm : cb_X6_jump_30 fu x1 x2 x4 z0 F G = some res) : xn F ≤ xn res.2.1 := by
  unfold cb_X6_jump_30 at hm
  by_cases c_1 : x1 = (87 : Int32)
  · have hm := (if_pos c_1).symm.trans hm
    exact (cn_X6_jump_36 fu x1 x2 x4 z0 F G hm)
  · have hm := (if_neg c_1).symm.trans hm
    exact (cn_X6_jump_40 fu x1 x2 x4 z0 F G hm)
theorem cw_X6_jump_30 (fu : Nat) {res : Int32 × PF × PG} (C : cMC p R s m args c A v RX6 cX6_jump 5 3 111 (xn res.2.1 - xn K0)) (hret : ∀ (b1 : Nat) (H1 : Heap) (locs1 : List Loc) (ls1 : Array Slot) (pc : Nat), cMW s A v a b1 K0 res.2.1 res.2.2 H1 locs1 → decode cX6_jump pc = .ok (.return_, 1) → W p l e R s m args below meth c H1 locs1 (xn res.2.1 - xn K0) (2 * (xn res.2.1 - xn K0)) Q (F0 m pc ls1 [])) (x1 : Int32) (x2 : Int32) (x4 : Int32) (z0 : Int32) (F : PF) (G : PG) (hm : cb_X6_jump_30 fu x1 x2 x4 z0 F G = some res) {b : Nat} {H : Heap} {locs : List Loc} (hw : cMW s A v a b K0 F G H locs) {ls : Array Slot} (hl : lv_has ls 5 [(0, .ref (a 206)), (1, .int x1), (2, .int x2), (4, .int x4)]) : W p l e R s m args below meth c H locs (xn F - xn K0) (2 * (xn F - xn K0)) Q (F0 m 30 ls [.int z0]) := by
  have hx := C.1
  have hb := C.2.1
  unfold cb_X6_jump_30 at hm
  refine lv_iload_n hx hb dX6_jump_30 rfl (lv_at hl 1 rfl) ?_
  refine lv_bipush (v := 87) hx hb dX6_jump_31 (by decide) ?_
  refine lv_icmp_ne (tgt := 40) hx hb dX6_jump_33 (by decide) (fun c_1 => ?_) (fun c_1 => ?_)
  · have hm := (if_neg c_1).symm.trans hm
    exact cw_X6_jump_40 fu C hret x1 x2 x4 z0 F G hm hw (lv_sub hl [0, 1, 2, 3] rfl)
  · have hm := (if_pos c_1).symm.trans hm
    exact cw_X6_jump_36 fu C hret x1 x2 x4 z0 F G hm hw (lv_sub hl [0, 1, 2, 3] rfl)
theorem cn_X6_jump_20 (fu : Nat) {res : Int32 × PF × PG} (x1 : Int32) (x2 : Int32) (z0 : Int32) (F : PF) (G : PG) (hm : cb_X6_jump_20 fu x1 x2 z0 F G = some res) : xn F ≤ xn res.2.1 := by
  unfold cb_X6_jump_20 at hm
  by_cases c_1 : x1 = (85 : Int32)
  · have hm := (if_pos c_1).symm.trans hm
    exact (cn_X6_jump_36 fu x1 x2 z0 z0 F G hm)
  · have hm := (if_neg c_1).symm.trans hm
    exact (cn_X6_jump_30 fu x1 x2 z0 z0 F G hm)
theorem cw_X6_jump_20 (fu : Nat) {res : Int32 × PF × PG} (C : cMC p R s m args c A v RX6 cX6_jump 5 3 111 (xn res.2.1 - xn K0)) (hret : ∀ (b1 : Nat) (H1 : Heap) (locs1 : List Loc) (ls1 : Array Slot) (pc : Nat), cMW s A v a b1 K0 res.2.1 res.2.2 H1 locs1 → decode cX6_jump pc = .ok (.return_, 1) → W p l e R s m args below meth c H1 locs1 (xn res.2.1 - xn K0) (2 * (xn res.2.1 - xn K0)) Q (F0 m pc ls1 [])) (x1 : Int32) (x2 : Int32) (z0 : Int32) (F : PF) (G : PG) (hm : cb_X6_jump_20 fu x1 x2 z0 F G = some res) {b : Nat} {H : Heap} {locs : List Loc} (hw : cMW s A v a b K0 F G H locs) {ls : Array Slot} (hl : lv_has ls 5 [(0, .ref (a 206)), (1, .int x1), (2, .int x2)]) : W p l e R s m args below meth c H locs (xn F - xn K0) (2 * (xn F - xn K0)) Q (F0 m 20 ls [.int z0]) := by
  have hx := C.1
  have hb := C.2.1
  unfold cb_X6_jump_20 at hm
  refine lv_istore (lv' := [(4, .int z0), (0, .ref (a 206)), (1, .int x1), (2, .int x2)]) hx hb dX6_jump_20 hl (by decide) rfl (fun ls hl => ?_)
  refine lv_iload hx hb dX6_jump_22 (lv_at hl 0 rfl) ?_
  refine lv_iload_n hx hb dX6_jump_24 rfl (lv_at hl 2 rfl) ?_
  refine lv_bipush (v := 85) hx hb dX6_jump_25 (by decide) ?_
  refine lv_icmp_eq (tgt := 36) hx hb dX6_jump_27 (by decide) (fun c_1 => ?_) (fun c_1 => ?_)
  · have hm := (if_pos c_1).symm.trans hm
    exact cw_X6_jump_36 fu C hret x1 x2 z0 z0 F G hm hw (lv_sub hl [1, 2, 3, 0] rfl)
  · have hm := (if_neg c_1).symm.trans hm
    exact cw_X6_jump_30 fu C hret x1 x2 z0 z0 F G hm hw (lv_sub hl [1, 2, 3, 0] rfl)
theorem cn_X6_jump_19 (fu : Nat) {res : Int32 × PF × PG} (x1 : Int32) (x2 : Int32) (F : PF) (G : PG) (hm : cb_X6_jump_19 fu x1 x2 F G = some res) : xn F ≤ xn res.2.1 := by
  unfold cb_X6_jump_19 at hm
  exact (cn_X6_jump_20 fu x1 x2 0 F G hm)
theorem cw_X6_jump_19 (fu : Nat) {res : Int32 × PF × PG} (C : cMC p R s m args c A v RX6 cX6_jump 5 3 111 (xn res.2.1 - xn K0)) (hret : ∀ (b1 : Nat) (H1 : Heap) (locs1 : List Loc) (ls1 : Array Slot) (pc : Nat), cMW s A v a b1 K0 res.2.1 res.2.2 H1 locs1 → decode cX6_jump pc = .ok (.return_, 1) → W p l e R s m args below meth c H1 locs1 (xn res.2.1 - xn K0) (2 * (xn res.2.1 - xn K0)) Q (F0 m pc ls1 [])) (x1 : Int32) (x2 : Int32) (F : PF) (G : PG) (hm : cb_X6_jump_19 fu x1 x2 F G = some res) {b : Nat} {H : Heap} {locs : List Loc} (hw : cMW s A v a b K0 F G H locs) {ls : Array Slot} (hl : lv_has ls 5 [(0, .ref (a 206)), (1, .int x1), (2, .int x2)]) : W p l e R s m args below meth c H locs (xn F - xn K0) (2 * (xn F - xn K0)) Q (F0 m 19 ls []) := by
  have hx := C.1
  have hb := C.2.1
  unfold cb_X6_jump_19 at hm
  refine lv_iconst (v := 0) hx hb dX6_jump_19 (by decide) ?_
  exact cw_X6_jump_20 fu C hret x1 x2 0 F G hm hw (lv_sub hl [0, 1, 2] rfl)
theorem cn_X6_jump_15 (fu : Nat) {res : Int32 × PF × PG} (x1 : Int32) (x2 : Int32) (F : PF) (G : PG) (hm : cb_X6_jump_15 fu x1 x2 F G = some res) : xn F ≤ xn res.2.1 := by
  unfold cb_X6_jump_15 at hm
  exact (cn_X6_jump_20 fu x1 x2 1 F G hm)
theorem cw_X6_jump_15 (fu : Nat) {res : Int32 × PF × PG} (C : cMC p R s m args c A v RX6 cX6_jump 5 3 111 (xn res.2.1 - xn K0)) (hret : ∀ (b1 : Nat) (H1 : Heap) (locs1 : List Loc) (ls1 : Array Slot) (pc : Nat), cMW s A v a b1 K0 res.2.1 res.2.2 H1 locs1 → decode cX6_jump pc = .ok (.return_, 1) → W p l e R s m args below meth c H1 locs1 (xn res.2.1 - xn K0) (2 * (xn res.2.1 - xn K0)) Q (F0 m pc ls1 [])) (x1 : Int32) (x2 : Int32) (F : PF) (G : PG) (hm : cb_X6_jump_15 fu x1 x2 F G = some res) {b : Nat} {H : Heap} {locs : List Loc} (hw : cMW s A v a b K0 F G H locs) {ls : Array Slot} (hl : lv_has ls 5 [(0, .ref (a 206)), (1, .int x1), (2, .int x2)]) : W p l e R s m args below meth c H locs (xn F - xn K0) (2 * (xn F - xn K0)) Q (F0 m 15 ls []) := by
  have hx := C.1
  have hb := C.2.1
  unfold cb_X6_jump_15 at hm
  refine lv_iconst (v := 1) hx hb dX6_jump_15 (by decide) ?_
  refine lv_goto (tgt := 20) hx hb dX6_jump_16 (by decide) ?_
  exact cw_X6_jump_20 fu C hret x1 x2 1 F G hm hw (lv_sub hl [0, 1, 2] rfl)
theorem cn_X6_jump_12 (fu : Nat) {res : Int32 × PF × PG} (x1 : Int32) (x2 : Int32) (z0 : Int32) (F : PF) (G : PG) (hm : cb_X6_jump_12 fu x1 x2 z0 F G = some res) : xn F ≤ xn res.2.1 := by
  unfold cb_X6_jump_12 at hm
  by_cases c_1 : z0 = (0 : Int32)
  · have hm := (if_pos c_1).symm.trans hm
    exact (cn_X6_jump_19 fu x1 x2 F G hm)
  · have hm := (if_neg c_1).symm.trans hm
    exact (cn_X6_jump_15 fu x1 x2 F G hm)
theorem cw_X6_jump_12 (fu : Nat) {res : Int32 × PF × PG} (C : cMC p R s m args c A v RX6 cX6_jump 5 3 111 (xn res.2.1 - xn K0)) (hret : ∀ (b1 : Nat) (H1 : Heap) (locs1 : List Loc) (ls1 : Array Slot) (pc : Nat), cMW s A v a b1 K0 res.2.1 res.2.2 H1 locs1 → decode cX6_jump pc = .ok (.return_, 1) → W p l e R s m args below meth c H1 locs1 (xn res.2.1 - xn K0) (2 * (xn res.2.1 - xn K0)) Q (F0 m pc ls1 [])) (x1 : Int32) (x2 : Int32) (z0 : Int32) (F : PF) (G : PG) (hm : cb_X6_jump_12 fu x1 x2 z0 F G = some res) {b : Nat} {H : Heap} {locs : List Loc} (hw : cMW s A v a b K0 F G H locs) {ls : Array Slot} (hl : lv_has ls 5 [(0, .ref (a 206)), (1, .int x1), (2, .int x2)]) : W p l e R s m args below meth c H locs (xn F - xn K0) (2 * (xn F - xn K0)) Q (F0 m 12 ls [.int z0]) := by
  have hx := C.1
  have hb := C.2.1
  unfold cb_X6_jump_12 at hm
  refine lv_if_eq (tgt := 19) hx hb dX6_jump_12 (by decide) (fun c_1 => ?_) (fun c_1 => ?_)
  · have hm := (if_pos c_1).symm.trans hm
    exact cw_X6_jump_19 fu C hret x1 x2 F G hm hw (lv_sub hl [0, 1, 2] rfl)
  · have hm := (if_neg c_1).symm.trans hm
    exact cw_X6_jump_15 fu C hret x1 x2 F G hm hw (lv_sub hl [0, 1, 2] rfl)
theorem cn_X6_jump_8 (fu : Nat) {res : Int32 × PF × PG} (x1 : Int32) (x2 : Int32) (F : PF) (G : PG) (hm : cb_X6_jump_8 fu x1 x2 F G = some res) : xn F ≤ xn res.2.1 := by
  unfold cb_X6_jump_8 at hm
  obtain ⟨⟨r1, F1, G1⟩, hc, hm⟩ := bind_elim hm
  exact Nat.le_trans (cn_X6_pop fu F G _ hc) (cn_X6_jump_12 fu x1 x2 r1 F1 G1 hm)
theorem cw_X6_jump_8 (fu : Nat) {res : Int32 × PF × PG} (C : cMC p R s m args c A v RX6 cX6_jump 5 3 111 (xn res.2.1 - xn K0)) (hret : ∀ (b1 : Nat) (H1 : Heap) (locs1 : List Loc) (ls1 : Array Slot) (pc : Nat), cMW s A v a b1 K0 res.2.1 res.2.2 H1 locs1 → decode cX6_jump pc = .ok (.return_, 1) → W p l e R s m args below meth c H1 locs1 (xn res.2.1 - xn K0) (2 * (xn res.2.1 - xn K0)) Q (F0 m pc ls1 [])) (x1 : Int32) (x2 : Int32) (F : PF) (G : PG) (hm : cb_X6_jump_8 fu x1 x2 F G = some res) {b : Nat} {H : Heap} {locs : List Loc} (hw : cMW s A v a b K0 F G H locs) {ls : Array Slot} (hl : lv_has ls 5 [(0, .ref (a 206)), (1, .int x1), (2, .int x2)]) : W p l e R s m args below meth c H locs (xn F - xn K0) (2 * (xn F - xn K0)) Q (F0 m 8 ls []) := by
  have hx := C.1
  have hb := C.2.1
  unfold cb_X6_jump_8 at hm
  refine lv_aload_n hx hb dX6_jump_8 rfl (lv_at hl 0 rfl) ?_
  obtain ⟨⟨r1, F1, G1⟩, hc, hm⟩ := bind_elim hm
  refine ccallI (n := 0) (As := []) (rest := []) C hw (ck_X6_pop l v a _ _ fu F G r1 F1 G1 hc) (cn_X6_pop fu F G _ hc) (Nat.sub_le_sub_right (cn_X6_jump_12 fu x1 x2 r1 F1 G1 hm) _) (crecv_X6 C hw) cm_558 cm_559 cm_560 cm_21 cm_561 (by decide +kernel) rfl (by omega) (by omega) hl.1 rfl (Nat.le_of_ble_eq_true rfl) dX6_jump_9 (fun b H locs hw => ?_)
  exact cw_X6_jump_12 fu C hret x1 x2 r1 F1 G1 hm hw (lv_sub hl [0, 1, 2] rfl)
theorem cn_X6_jump_0 (fu : Nat) {res : Int32 × PF × PG} (x1 : Int32) (x2 : Int32) (F : PF) (G : PG) (hm : cb_X6_jump_0 fu x1 x2 F G = some res) : xn F ≤ xn res.2.1 := by
  unfold cb_X6_jump_0 at hm
  by_cases c_1 : x1 = (84 : Int32)
  · have hm := (if_pos c_1).symm.trans hm
    exact (cn_X6_jump_69 fu x2 1 F G hm)
  · have hm := (if_neg c_1).symm.trans hm
    exact (cn_X6_jump_8 fu x1 x2 F G hm)
theorem cw_X6_jump_0 (fu : Nat) {res : Int32 × PF × PG} (C : cMC p R s m args c A v RX6 cX6_jump 5 3 111 (xn res.2.1 - xn K0)) (hret : ∀ (b1 : Nat) (H1 : Heap) (locs1 : List Loc) (ls1 : Array Slot) (pc : Nat), cMW s A v a b1 K0 res.2.1 res.2.2 H1 locs1 → decode cX6_jump pc = .ok (.return_, 1) → W p l e R s m args below meth c H1 locs1 (xn res.2.1 - xn K0) (2 * (xn res.2.1 - xn K0)) Q (F0 m pc ls1 [])) (x1 : Int32) (x2 : Int32) (F : PF) (G : PG) (hm : cb_X6_jump_0 fu x1 x2 F G = some res) {b : Nat} {H : Heap} {locs : List Loc} (hw : cMW s A v a b K0 F G H locs) {ls : Array Slot} (hl : lv_has ls 5 [(0, .ref (a 206)), (1, .int x1), (2, .int x2)]) : W p l e R s m args below meth c H locs (xn F - xn K0) (2 * (xn F - xn K0)) Q (F0 m 0 ls []) := by
  have hx := C.1
  have hb := C.2.1
  unfold cb_X6_jump_0 at hm
  refine lv_iconst (v := 1) hx hb dX6_jump_0 (by decide) ?_
  refine lv_istore_n (lv' := [(3, .int 1), (0, .ref (a 206)), (1, .int x1), (2, .int x2)]) hx hb dX6_jump_1 rfl hl (by decide) rfl (fun ls hl => ?_)
  refine lv_iload_n hx hb dX6_jump_2 rfl (lv_at hl 2 rfl) ?_
  refine lv_bipush (v := 84) hx hb dX6_jump_3 (by decide) ?_
  refine lv_icmp_eq (tgt := 69) hx hb dX6_jump_5 (by decide) (fun c_1 => ?_) (fun c_1 => ?_)
  · have hm := (if_pos c_1).symm.trans hm
    exact cw_X6_jump_69 fu C hret x2 1 F G hm hw (lv_sub hl [1, 3, 0] rfl)
  · have hm := (if_neg c_1).symm.trans hm
    exact cw_X6_jump_8 fu C hret x1 x2 F G hm hw (lv_sub hl [1, 2, 3] rfl)
theorem cn_X6_jump (fu : Nat) (x1 : Int32) (x2 : Int32) (F : PF) (G : PG) (q : Int32 × PF × PG) (hm : cf_X6_jump fu x1 x2 F G = some q) : xn F ≤ xn q.2.1 := cn_X6_jump_0 fu x1 x2 F G hm
theorem ck_X6_jump (l : Launch) (v : EV) (a : Nat → Nat) (b sz : Nat) (fu : Nat) (x1 : Int32) (x2 : Int32) (F : PF) (G : PG) (r : Int32) (F1 : PF) (G1 : PG) (hm : cf_X6_jump fu x1 x2 F G = some (r, F1, G1)) : cMV l yX6_jump cX6_jump 5 3 111 v a b sz [.ref (a 206), .int x1, .int x2] F G F1 G1 := cMV.of (by decide) (Nat.le_of_ble_eq_true rfl) (fun p e R s m args below meth c Q A H locs ls C hw hl hret => cw_X6_jump_0 fu (res := (r, F1, G1)) C hret x1 x2 F G hm hw hl)
def cb_X6_next_49 (fu : Nat) (x1 : Int32) (F : PF) (G : PG) : PR := some (x1, F, G)
def cb_X6_next_38 (fu : Nat) (z0 : Int32) (F : PF) (G : PG) : PR := cb_X6_next_49 fu z0 (fup F 57 ((F 57) + (1 : Int32))) G
def cb_X6_next_21 (fu : Nat) (F : PF) (G : PG) : PR := cb_X6_next_38 fu 18 F G
def cb_X6_next_26 (fu : Nat) (F : PF) (G : PG) : PR := if ixb (F 57) 8400 = true then (cb_X6_next_38 fu (G 5 (F 57).toNatClampNeg) F G) else none
def cb_X6_next_7 (fu : Nat) (F : PF) (G : PG) : PR := if (F 57) < (F 6) then cb_X6_next_26 fu F G else cb_X6_next_21 fu F G
def cb_X6_next_0 (fu : Nat) (F : PF) (G : PG) : PR := if (F 57) < (0 : Int32) then cb_X6_next_21 fu F G else cb_X6_next_7 fu F G
def cf_X6_next (fu : Nat) (F : PF) (G : PG) : PR := cb_X6_next_0 fu F G
theorem cn_X6_next_49 (fu : Nat) {res : Int32 × PF × PG} (x1 : Int32) (F : PF) (G : PG) (hm : cb_X6_next_49 fu x1 F G = some res) : xn F ≤ xn res.2.1 := by
  unfold cb_X6_next_49 at hm
  obtain rfl := Option.some.inj hm
  exact Nat.le_refl _
theorem cw_X6_next_49 (fu : Nat) {res : Int32 × PF × PG} (C : cMC p R s m args c A v RX6 cX6_next 2 0 0 (xn res.2.1 - xn K0)) (hret : ∀ (b1 : Nat) (H1 : Heap) (locs1 : List Loc) (ls1 : Array Slot) (pc : Nat), cMW s A v a b1 K0 res.2.1 res.2.2 H1 locs1 → narrow .int (.int res.1) = .int res.1 → decode cX6_next pc = .ok (.ireturn, 1) → W p l e R s m args below meth c H1 locs1 (xn res.2.1 - xn K0) (2 * (xn res.2.1 - xn K0)) Q (F0 m pc ls1 [.int res.1])) (x1 : Int32) (F : PF) (G : PG) (hm : cb_X6_next_49 fu x1 F G = some res) {b : Nat} {H : Heap} {locs : List Loc} (hw : cMW s A v a b K0 F G H locs) {ls : Array Slot} (hl : lv_has ls 2 [(1, .int x1)]) : W p l e R s m args below meth c H locs (xn F - xn K0) (2 * (xn F - xn K0)) Q (F0 m 49 ls []) := by
  have hx := C.1
  have hb := C.2.1
  unfold cb_X6_next_49 at hm
  refine lv_iload_n hx hb dX6_next_49 rfl (lv_at hl 0 rfl) ?_
  obtain rfl := Option.some.inj hm
  exact hret _ _ _ _ _ hw rfl dX6_next_50
theorem cn_X6_next_38 (fu : Nat) {res : Int32 × PF × PG} (z0 : Int32) (F : PF) (G : PG) (hm : cb_X6_next_38 fu z0 F G = some res) : xn F ≤ xn res.2.1 := by
  unfold cb_X6_next_38 at hm
  exact Nat.le_trans (Nat.le_of_eq (xn_fup (by decide)).symm) (cn_X6_next_49 fu z0 (fup F 57 ((F 57) + (1 : Int32))) G hm)
theorem cw_X6_next_38 (fu : Nat) {res : Int32 × PF × PG} (C : cMC p R s m args c A v RX6 cX6_next 2 0 0 (xn res.2.1 - xn K0)) (hret : ∀ (b1 : Nat) (H1 : Heap) (locs1 : List Loc) (ls1 : Array Slot) (pc : Nat), cMW s A v a b1 K0 res.2.1 res.2.2 H1 locs1 → narrow .int (.int res.1) = .int res.1 → decode cX6_next pc = .ok (.ireturn, 1) → W p l e R s m args below meth c H1 locs1 (xn res.2.1 - xn K0) (2 * (xn res.2.1 - xn K0)) Q (F0 m pc ls1 [.int res.1])) (z0 : Int32) (F : PF) (G : PG) (hm : cb_X6_next_38 fu z0 F G = some res) {b : Nat} {H : Heap} {locs : List Loc} (hw : cMW s A v a b K0 F G H locs) {ls : Array Slot} (hl : lv_has ls 2 [(0, .ref (a 206))]) : W p l e R s m args below meth c H locs (xn F - xn K0) (2 * (xn F - xn K0)) Q (F0 m 38 ls [.int z0]) := by
  have hx := C.1
  have hb := C.2.1
  unfold cb_X6_next_38 at hm
  refine lv_istore_n (lv' := [(1, .int z0), (0, .ref (a 206))]) hx hb dX6_next_38 rfl hl (by decide) rfl (fun ls hl => ?_)
  refine lv_aload_n hx hb dX6_next_39 rfl (lv_at hl 1 rfl) ?_
  refine lv_dup hx hb dX6_next_40 rfl ?_
  refine cg_X6_70 C hw dX6_next_41 ?_
  refine lv_iconst (v := 1) hx hb dX6_next_44 (by decide) ?_
  refine lv_iadd hx hb dX6_next_45 ?_
  refine cp_X6_70 C hw dX6_next_46 (fun H locs hw => ?_)
  exact cw_X6_next_49 fu C hret z0 (fup F 57 ((F 57) + (1 : Int32))) G hm hw (lv_sub hl [0] rfl)
theorem cn_X6_next_21 (fu : Nat) {res : Int32 × PF × PG} (F : PF) (G : PG) (hm : cb_X6_next_21 fu F G = some res) : xn F ≤ xn res.2.1 := by
  unfold cb_X6_next_21 at hm
  exact (cn_X6_next_38 fu 18 F G hm)
theorem cw_X6_next_21 (fu : Nat) {res : Int32 × PF × PG} (C : cMC p R s m args c A v RX6 cX6_next 2 0 0 (xn res.2.1 - xn K0)) (hret : ∀ (b1 : Nat) (H1 : Heap) (locs1 : List Loc) (ls1 : Array Slot) (pc : Nat), cMW s A v a b1 K0 res.2.1 res.2.2 H1 locs1 → narrow .int (.int res.1) = .int res.1 → decode cX6_next pc = .ok (.ireturn, 1) → W p l e R s m args below meth c H1 locs1 (xn res.2.1 - xn K0) (2 * (xn res.2.1 - xn K0)) Q (F0 m pc ls1 [.int res.1])) (F : PF) (G : PG) (hm : cb_X6_next_21 fu F G = some res) {b : Nat} {H : Heap} {locs : List Loc} (hw : cMW s A v a b K0 F G H locs) {ls : Array Slot} (hl : lv_has ls 2 [(0, .ref (a 206))]) : W p l e R s m args below meth c H locs (xn F - xn K0) (2 * (xn F - xn K0)) Q (F0 m 21 ls []) := by
  have hx := C.1
  have hb := C.2.1
  unfold cb_X6_next_21 at hm
  refine lv_bipush (v := 18) hx hb dX6_next_21 (by decide) ?_
  refine lv_goto (tgt := 38) hx hb dX6_next_23 (by decide) ?_
  exact cw_X6_next_38 fu C hret 18 F G hm hw (lv_sub hl [0] rfl)
theorem cn_X6_next_26 (fu : Nat) {res : Int32 × PF × PG} (F : PF) (G : PG) (hm : cb_X6_next_26 fu F G = some res) : xn F ≤ xn res.2.1 := by
  unfold cb_X6_next_26 at hm
  have hm := (ix_elim hm).2
  exact (cn_X6_next_38 fu (G 5 (F 57).toNatClampNeg) F G hm)
theorem cw_X6_next_26 (fu : Nat) {res : Int32 × PF × PG} (C : cMC p R s m args c A v RX6 cX6_next 2 0 0 (xn res.2.1 - xn K0)) (hret : ∀ (b1 : Nat) (H1 : Heap) (locs1 : List Loc) (ls1 : Array Slot) (pc : Nat), cMW s A v a b1 K0 res.2.1 res.2.2 H1 locs1 → narrow .int (.int res.1) = .int res.1 → decode cX6_next pc = .ok (.ireturn, 1) → W p l e R s m args below meth c H1 locs1 (xn res.2.1 - xn K0) (2 * (xn res.2.1 - xn K0)) Q (F0 m pc ls1 [.int res.1])) (F : PF) (G : PG) (hm : cb_X6_next_26 fu F G = some res) {b : Nat} {H : Heap} {locs : List Loc} (hw : cMW s A v a b K0 F G H locs) {ls : Array Slot} (hl : lv_has ls 2 [(0, .ref (a 206))]) : W p l e R s m args below meth c H locs (xn F - xn K0) (2 * (xn F - xn K0)) Q (F0 m 26 ls []) := by
  have hx := C.1
  have hb := C.2.1
  unfold cb_X6_next_26 at hm
  refine lv_aload_n hx hb dX6_next_26 rfl (lv_at hl 0 rfl) ?_
  refine cg_X6_18 C hw dX6_next_27 ?_
  refine cg_X6_156 C hw dX6_next_30 ?_
  refine lv_aload_n hx hb dX6_next_33 rfl (lv_at hl 0 rfl) ?_
  refine cg_X6_70 C hw dX6_next_34 ?_
  obtain ⟨hi, hm⟩ := ix_elim hm
  refine cal_5 C hw hi dX6_next_37 ?_
  exact cw_X6_next_38 fu C hret (G 5 (F 57).toNatClampNeg) F G hm hw (lv_sub hl [0] rfl)
theorem cn_X6_next_7 (fu : Nat) {res : Int32 × PF × PG} (F : PF) (G : PG) (hm : cb_X6_next_7 fu F G = some res) : xn F ≤ xn res.2.1 := by
  unfold cb_X6_next_7 at hm
  by_cases c_1 : (F 57) < (F 6)
  · have hm := (if_pos c_1).symm.trans hm
    exact (cn_X6_next_26 fu F G hm)
  · have hm := (if_neg c_1).symm.trans hm
    exact (cn_X6_next_21 fu F G hm)
theorem cw_X6_next_7 (fu : Nat) {res : Int32 × PF × PG} (C : cMC p R s m args c A v RX6 cX6_next 2 0 0 (xn res.2.1 - xn K0)) (hret : ∀ (b1 : Nat) (H1 : Heap) (locs1 : List Loc) (ls1 : Array Slot) (pc : Nat), cMW s A v a b1 K0 res.2.1 res.2.2 H1 locs1 → narrow .int (.int res.1) = .int res.1 → decode cX6_next pc = .ok (.ireturn, 1) → W p l e R s m args below meth c H1 locs1 (xn res.2.1 - xn K0) (2 * (xn res.2.1 - xn K0)) Q (F0 m pc ls1 [.int res.1])) (F : PF) (G : PG) (hm : cb_X6_next_7 fu F G = some res) {b : Nat} {H : Heap} {locs : List Loc} (hw : cMW s A v a b K0 F G H locs) {ls : Array Slot} (hl : lv_has ls 2 [(0, .ref (a 206))]) : W p l e R s m args below meth c H locs (xn F - xn K0) (2 * (xn F - xn K0)) Q (F0 m 7 ls []) := by
  have hx := C.1
  have hb := C.2.1
  unfold cb_X6_next_7 at hm
  refine lv_aload_n hx hb dX6_next_7 rfl (lv_at hl 0 rfl) ?_
  refine cg_X6_70 C hw dX6_next_8 ?_
  refine lv_aload_n hx hb dX6_next_11 rfl (lv_at hl 0 rfl) ?_
  refine cg_X6_18 C hw dX6_next_12 ?_
  refine cg_X6_74 C hw dX6_next_15 ?_
  refine lv_icmp_lt (tgt := 26) hx hb dX6_next_18 (by decide) (fun c_1 => ?_) (fun c_1 => ?_)
  · have hm := (if_pos c_1).symm.trans hm
    exact cw_X6_next_26 fu C hret F G hm hw (lv_sub hl [0] rfl)
  · have hm := (if_neg c_1).symm.trans hm
    exact cw_X6_next_21 fu C hret F G hm hw (lv_sub hl [0] rfl)
theorem cn_X6_next_0 (fu : Nat) {res : Int32 × PF × PG} (F : PF) (G : PG) (hm : cb_X6_next_0 fu F G = some res) : xn F ≤ xn res.2.1 := by
  unfold cb_X6_next_0 at hm
  by_cases c_1 : (F 57) < (0 : Int32)
  · have hm := (if_pos c_1).symm.trans hm
    exact (cn_X6_next_21 fu F G hm)
  · have hm := (if_neg c_1).symm.trans hm
    exact (cn_X6_next_7 fu F G hm)
theorem cw_X6_next_0 (fu : Nat) {res : Int32 × PF × PG} (C : cMC p R s m args c A v RX6 cX6_next 2 0 0 (xn res.2.1 - xn K0)) (hret : ∀ (b1 : Nat) (H1 : Heap) (locs1 : List Loc) (ls1 : Array Slot) (pc : Nat), cMW s A v a b1 K0 res.2.1 res.2.2 H1 locs1 → narrow .int (.int res.1) = .int res.1 → decode cX6_next pc = .ok (.ireturn, 1) → W p l e R s m args below meth c H1 locs1 (xn res.2.1 - xn K0) (2 * (xn res.2.1 - xn K0)) Q (F0 m pc ls1 [.int res.1])) (F : PF) (G : PG) (hm : cb_X6_next_0 fu F G = some res) {b : Nat} {H : Heap} {locs : List Loc} (hw : cMW s A v a b K0 F G H locs) {ls : Array Slot} (hl : lv_has ls 2 [(0, .ref (a 206))]) : W p l e R s m args below meth c H locs (xn F - xn K0) (2 * (xn F - xn K0)) Q (F0 m 0 ls []) := by
  have hx := C.1
  have hb := C.2.1
  unfold cb_X6_next_0 at hm
  refine lv_aload_n hx hb dX6_next_0 rfl (lv_at hl 0 rfl) ?_
  refine cg_X6_70 C hw dX6_next_1 ?_
  refine lv_if_lt (tgt := 21) hx hb dX6_next_4 (by decide) (fun c_1 => ?_) (fun c_1 => ?_)
  · have hm := (if_pos c_1).symm.trans hm
    exact cw_X6_next_21 fu C hret F G hm hw (lv_sub hl [0] rfl)
  · have hm := (if_neg c_1).symm.trans hm
    exact cw_X6_next_7 fu C hret F G hm hw (lv_sub hl [0] rfl)
theorem cn_X6_next (fu : Nat) (F : PF) (G : PG) (q : Int32 × PF × PG) (hm : cf_X6_next fu F G = some q) : xn F ≤ xn q.2.1 := cn_X6_next_0 fu F G hm
theorem ck_X6_next (l : Launch) (v : EV) (a : Nat → Nat) (b sz : Nat) (fu : Nat) (F : PF) (G : PG) (r : Int32) (F1 : PF) (G1 : PG) (hm : cf_X6_next fu F G = some (r, F1, G1)) : cMI l yX6_next cX6_next 2 (some .int) 0 0 v a b sz [.ref (a 206)] F G r F1 G1 := cMI.of (ty := .int) (by decide) rfl (Nat.le_of_ble_eq_true rfl) (fun p e R s m args below meth c Q A H locs ls C hw hl hret => cw_X6_next_0 fu (res := (r, F1, G1)) C hret F G hm hw hl)
def cb_X6_valueFrom_123 (fu : Nat) (z0 : Int32) (F : PF) (G : PG) : PR := some (z0, F, G)
def cb_X6_valueFrom_119 (fu : Nat) (F : PF) (G : PG) : PR := (cf_X6_pop fu F G).bind (fun q => cb_X6_valueFrom_123 fu q.1 q.2.1 q.2.2)
def cb_X6_valueFrom_113 (fu : Nat) (ag_12 : Int32 → PF → PG → PR) (x2 : Int32) (F : PF) (G : PG) : PR := ag_12 (x2 + 1) F G
def cb_X6_valueFrom_110 (fu : Nat) (ag_12 : Int32 → PF → PG → PR) (x2 : Int32) (z0 : Int32) (F : PF) (G : PG) : PR := (cf_X6_push fu z0 F G).bind (fun q => cb_X6_valueFrom_113 fu ag_12 x2 q.2.1 q.2.2)
def cb_X6_valueFrom_105 (fu : Nat) (ag_12 : Int32 → PF → PG → PR) (x2 : Int32) (x4 : Int32) (z0 : Int32) (z1 : Int32) (F : PF) (G : PG) : PR := (cf_X11_joined fu z1 z0 x4 F G).bind (fun q => cb_X6_valueFrom_110 fu ag_12 x2 q.1 q.2.1 q.2.2)
def cb_X6_valueFrom_97 (fu : Nat) (ag_12 : Int32 → PF → PG → PR) (x2 : Int32) (x3 : Int32) (z0 : Int32) (F : PF) (G : PG) : PR := (cf_X6_pop fu F G).bind (fun q => cb_X6_valueFrom_105 fu ag_12 x2 z0 q.1 x3 q.2.1 q.2.2)
def cb_X6_valueFrom_93 (fu : Nat) (ag_12 : Int32 → PF → PG → PR) (x2 : Int32) (x3 : Int32) (F : PF) (G : PG) : PR := (cf_X6_pop fu F G).bind (fun q => cb_X6_valueFrom_97 fu ag_12 x2 x3 q.1 q.2.1 q.2.2)
def cb_X6_valueFrom_90 (fu : Nat) (ag_12 : Int32 → PF → PG → PR) (x2 : Int32) (F : PF) (G : PG) : PR := cb_X6_valueFrom_113 fu ag_12 x2 F G
def cb_X6_valueFrom_87 (fu : Nat) (ag_12 : Int32 → PF → PG → PR) (x2 : Int32) (z0 : Int32) (F : PF) (G : PG) : PR := (cf_X6_push fu z0 F G).bind (fun q => cb_X6_valueFrom_90 fu ag_12 x2 q.2.1 q.2.2)
def cb_X6_valueFrom_84 (fu : Nat) (ag_12 : Int32 → PF → PG → PR) (x2 : Int32) (z0 : Int32) (z1 : Int32) (F : PF) (G : PG) : PR := (cf_X6_changed fu z1 z0 F G).bind (fun q => cb_X6_valueFrom_87 fu ag_12 x2 q.1 q.2.1 q.2.2)
def cb_X6_valueFrom_78 (fu : Nat) (ag_12 : Int32 → PF → PG → PR) (x2 : Int32) (x3 : Int32) (F : PF) (G : PG) : PR := (cf_X6_pop fu F G).bind (fun q => cb_X6_valueFrom_84 fu ag_12 x2 q.1 x3 q.2.1 q.2.2)
def cb_X6_valueFrom_72 (fu : Nat) (ag_12 : Int32 → PF → PG → PR) (x2 : Int32) (x3 : Int32) (F : PF) (G : PG) : PR := if x3 < (62 : Int32) then cb_X6_valueFrom_93 fu ag_12 x2 x3 F G else cb_X6_valueFrom_78 fu ag_12 x2 x3 F G
def cb_X6_valueFrom_69 (fu : Nat) (ag_12 : Int32 → PF → PG → PR) (x2 : Int32) (F : PF) (G : PG) : PR := cb_X6_valueFrom_113 fu ag_12 x2 F G
def cb_X6_valueFrom_66 (fu : Nat) (ag_12 : Int32 → PF → PG → PR) (x2 : Int32) (z0 : Int32) (z1 : Int32) (F : PF) (G : PG) : PR := (cf_X6_jump fu z1 z0 F G).bind (fun q => cb_X6_valueFrom_69 fu ag_12 x2 q.2.1 q.2.2)
def cb_X6_valueFrom_60 (fu : Nat) (ag_12 : Int32 → PF → PG → PR) (x2 : Int32) (x3 : Int32) (F : PF) (G : PG) : PR := (cf_X6_next fu F G).bind (fun q => cb_X6_valueFrom_66 fu ag_12 x2 q.1 x3 q.2.1 q.2.2)
def cb_X6_valueFrom_54 (fu : Nat) (ag_12 : Int32 → PF → PG → PR) (x2 : Int32) (x3 : Int32) (F : PF) (G : PG) : PR := if x3 < (84 : Int32) then cb_X6_valueFrom_72 fu ag_12 x2 x3 F G else cb_X6_valueFrom_60 fu ag_12 x2 x3 F G
def cb_X6_valueFrom_51 (fu : Nat) (ag_12 : Int32 → PF → PG → PR) (x2 : Int32) (F : PF) (G : PG) : PR := cb_X6_valueFrom_113 fu ag_12 x2 F G
def cb_X6_valueFrom_48 (fu : Nat) (ag_12 : Int32 → PF → PG → PR) (x2 : Int32) (z0 : Int32) (F : PF) (G : PG) : PR := (cf_X6_push fu z0 F G).bind (fun q => cb_X6_valueFrom_51 fu ag_12 x2 q.2.1 q.2.2)
def cb_X6_valueFrom_43 (fu : Nat) (ag_12 : Int32 → PF → PG → PR) (x2 : Int32) (F : PF) (G : PG) : PR := (cf_X6_next fu F G).bind (fun q => cb_X6_valueFrom_48 fu ag_12 x2 q.1 q.2.1 q.2.2)
def cb_X6_valueFrom_36 (fu : Nat) (ag_12 : Int32 → PF → PG → PR) (x2 : Int32) (z0 : Int32) (F : PF) (G : PG) : PR := if z0 = (66 : Int32) then cb_X6_valueFrom_43 fu ag_12 x2 F G else cb_X6_valueFrom_54 fu ag_12 x2 z0 F G
def cb_X6_valueFrom_32 (fu : Nat) (ag_12 : Int32 → PF → PG → PR) (x2 : Int32) (F : PF) (G : PG) : PR := (cf_X6_next fu F G).bind (fun q => cb_X6_valueFrom_36 fu ag_12 x2 q.1 q.2.1 q.2.2)
def cb_X6_valueFrom_18 (fu : Nat) (ag_12 : Int32 → PF → PG → PR) (x2 : Int32) (F : PF) (G : PG) : PR := if (F 6) ≤ (F 57) then cb_X6_valueFrom_119 fu F G else cb_X6_valueFrom_32 fu ag_12 x2 F G
def cb_X6_valueFrom_12 (fu : Nat) (ag_12 : Int32 → PF → PG → PR) (x2 : Int32) (F : PF) (G : PG) : PR := if (100000000 : Int32) ≤ x2 then cb_X6_valueFrom_119 fu F G else cb_X6_valueFrom_18 fu ag_12 x2 F G
def cl_X6_valueFrom_12 (fu : Nat) : Nat → Int32 → PF → PG → PR
  | 0 => fun _ _ _ => none
  | n + 1 => fun x2 F G => cb_X6_valueFrom_12 fu (cl_X6_valueFrom_12 fu n) x2 F G
def cb_X6_valueFrom_10 (fu : Nat) (F : PF) (G : PG) : PR := cl_X6_valueFrom_12 fu fu 0 F G
def cb_X6_valueFrom_5 (fu : Nat) (F : PF) (G : PG) : PR := cb_X6_valueFrom_10 fu (fup F 56 (0 : Int32)) G
def cb_X6_valueFrom_0 (fu : Nat) (x1 : Int32) (F : PF) (G : PG) : PR := cb_X6_valueFrom_5 fu (fup F 57 x1) G
def cf_X6_valueFrom (fu : Nat) (x1 : Int32) (F : PF) (G : PG) : PR := cb_X6_valueFrom_0 fu x1 F G
theorem cn_X6_valueFrom_123 (fu : Nat) {res : Int32 × PF × PG} (z0 : Int32) (F : PF) (G : PG) (hm : cb_X6_valueFrom_123 fu z0 F G = some res) : xn F ≤ xn res.2.1 := by
  unfold cb_X6_valueFrom_123 at hm
  obtain rfl := Option.some.inj hm
  exact Nat.le_refl _
theorem cw_X6_valueFrom_123 (fu : Nat) {res : Int32 × PF × PG} (C : cMC p R s m args c A v RX6 cX6_valueFrom 5 4 135 (xn res.2.1 - xn K0)) (hret : ∀ (b1 : Nat) (H1 : Heap) (locs1 : List Loc) (ls1 : Array Slot) (pc : Nat), cMW s A v a b1 K0 res.2.1 res.2.2 H1 locs1 → narrow .int (.int res.1) = .int res.1 → decode cX6_valueFrom pc = .ok (.ireturn, 1) → W p l e R s m args below meth c H1 locs1 (xn res.2.1 - xn K0) (2 * (xn res.2.1 - xn K0)) Q (F0 m pc ls1 [.int res.1])) (z0 : Int32) (F : PF) (G : PG) (hm : cb_X6_valueFrom_123 fu z0 F G = some res) {b : Nat} {H : Heap} {locs : List Loc} (hw : cMW s A v a b K0 F G H locs) {ls : Array Slot} (hl : lv_has ls 5 []) : W p l e R s m args below meth c H locs (xn F - xn K0) (2 * (xn F - xn K0)) Q (F0 m 123 ls [.int z0]) := by
  have hx := C.1
  have hb := C.2.1
  unfold cb_X6_valueFrom_123 at hm
  obtain rfl := Option.some.inj hm
  exact hret _ _ _ _ _ hw rfl dX6_valueFrom_123
theorem cn_X6_valueFrom_119 (fu : Nat) {res : Int32 × PF × PG} (F : PF) (G : PG) (hm : cb_X6_valueFrom_119 fu F G = some res) : xn F ≤ xn res.2.1 := by
  unfold cb_X6_valueFrom_119 at hm
  obtain ⟨⟨r1, F1, G1⟩, hc, hm⟩ := bind_elim hm
  exact Nat.le_trans (cn_X6_pop fu F G _ hc) (cn_X6_valueFrom_123 fu r1 F1 G1 hm)
theorem cw_X6_valueFrom_119 (fu : Nat) {res : Int32 × PF × PG} (C : cMC p R s m args c A v RX6 cX6_valueFrom 5 4 135 (xn res.2.1 - xn K0)) (hret : ∀ (b1 : Nat) (H1 : Heap) (locs1 : List Loc) (ls1 : Array Slot) (pc : Nat), cMW s A v a b1 K0 res.2.1 res.2.2 H1 locs1 → narrow .int (.int res.1) = .int res.1 → decode cX6_valueFrom pc = .ok (.ireturn, 1) → W p l e R s m args below meth c H1 locs1 (xn res.2.1 - xn K0) (2 * (xn res.2.1 - xn K0)) Q (F0 m pc ls1 [.int res.1])) (F : PF) (G : PG) (hm : cb_X6_valueFrom_119 fu F G = some res) {b : Nat} {H : Heap} {locs : List Loc} (hw : cMW s A v a b K0 F G H locs) {ls : Array Slot} (hl : lv_has ls 5 [(0, .ref (a 206))]) : W p l e R s m args below meth c H locs (xn F - xn K0) (2 * (xn F - xn K0)) Q (F0 m 119 ls []) := by
  have hx := C.1
  have hb := C.2.1
  unfold cb_X6_valueFrom_119 at hm
  refine lv_aload_n hx hb dX6_valueFrom_119 rfl (lv_at hl 0 rfl) ?_
  obtain ⟨⟨r1, F1, G1⟩, hc, hm⟩ := bind_elim hm
  refine ccallI (n := 0) (As := []) (rest := []) C hw (ck_X6_pop l v a _ _ fu F G r1 F1 G1 hc) (cn_X6_pop fu F G _ hc) (Nat.sub_le_sub_right (cn_X6_valueFrom_123 fu r1 F1 G1 hm) _) (crecv_X6 C hw) cm_558 cm_559 cm_560 cm_21 cm_561 (by decide +kernel) rfl (by omega) (by omega) hl.1 rfl (Nat.le_of_ble_eq_true rfl) dX6_valueFrom_120 (fun b H locs hw => ?_)
  exact cw_X6_valueFrom_123 fu C hret r1 F1 G1 hm hw (lv_sub hl [] rfl)
theorem cn_X6_valueFrom_113 (fu : Nat) {res : Int32 × PF × PG} (ag_12 : Int32 → PF → PG → PR) (hagn_12 : ∀ (x2 : Int32) (F : PF) (G : PG), ag_12 x2 F G = some res → xn F ≤ xn res.2.1) (x2 : Int32) (F : PF) (G : PG) (hm : cb_X6_valueFrom_113 fu ag_12 x2 F G = some res) : xn F ≤ xn res.2.1 := by
  unfold cb_X6_valueFrom_113 at hm
  exact (hagn_12 (x2 + 1) F G hm)
theorem cw_X6_valueFrom_113 (fu : Nat) {res : Int32 × PF × PG} (C : cMC p R s m args c A v RX6 cX6_valueFrom 5 4 135 (xn res.2.1 - xn K0)) (hret : ∀ (b1 : Nat) (H1 : Heap) (locs1 : List Loc) (ls1 : Array Slot) (pc : Nat), cMW s A v a b1 K0 res.2.1 res.2.2 H1 locs1 → narrow .int (.int res.1) = .int res.1 → decode cX6_valueFrom pc = .ok (.ireturn, 1) → W p l e R s m args below meth c H1 locs1 (xn res.2.1 - xn K0) (2 * (xn res.2.1 - xn K0)) Q (F0 m pc ls1 [.int res.1])) (ag_12 : Int32 → PF → PG → PR) (hag_12 : ∀ (x2 : Int32) (F : PF) (G : PG), ag_12 x2 F G = some res → ∀ (b : Nat) (H : Heap) (locs : List Loc) (ls : Array Slot), cMW s A v a b K0 F G H locs → lv_has ls 5 [(0, .ref (a 206)), (2, .int x2)] → W p l e R s m args below meth c H locs (xn F - xn K0) (2 * (xn F - xn K0)) Q (F0 m 12 ls [])) (hagn_12 : ∀ (x2 : Int32) (F : PF) (G : PG), ag_12 x2 F G = some res → xn F ≤ xn res.2.1) (x2 : Int32) (F : PF) (G : PG) (hm : cb_X6_valueFrom_113 fu ag_12 x2 F G = some res) {b : Nat} {H : Heap} {locs : List Loc} (hw : cMW s A v a b K0 F G H locs) {ls : Array Slot} (hl : lv_has ls 5 [(0, .ref (a 206)), (2, .int x2)]) : W p l e R s m args below meth c H locs (xn F - xn K0) (2 * (xn F - xn K0)) Q (F0 m 113 ls []) := by
  have hx := C.1
  have hb := C.2.1
  unfold cb_X6_valueFrom_113 at hm
  refine lv_iinc (v := (x2 + 1)) (lv' := [(2, .int (x2 + 1)), (0, .ref (a 206))]) hx hb dX6_valueFrom_113 hl (k := 1) rfl (by rfl) (by decide) rfl (fun ls hl => ?_)
  refine lv_goto (tgt := 12) hx hb dX6_valueFrom_116 (by decide) ?_
  exact hag_12 (x2 + 1) F G hm _ _ _ _ hw (lv_sub hl [1, 0] rfl)
theorem cn_X6_valueFrom_110 (fu : Nat) {res : Int32 × PF × PG} (ag_12 : Int32 → PF → PG → PR) (hagn_12 : ∀ (x2 : Int32) (F : PF) (G : PG), ag_12 x2 F G = some res → xn F ≤ xn res.2.1) (x2 : Int32) (z0 : Int32) (F : PF) (G : PG) (hm : cb_X6_valueFrom_110 fu ag_12 x2 z0 F G = some res) : xn F ≤ xn res.2.1 := by
  unfold cb_X6_valueFrom_110 at hm
  obtain ⟨⟨r1, F1, G1⟩, hc, hm⟩ := bind_elim hm
  exact Nat.le_trans (cn_X6_push fu z0 F G _ hc) (cn_X6_valueFrom_113 fu ag_12 hagn_12 x2 F1 G1 hm)
theorem cw_X6_valueFrom_110 (fu : Nat) {res : Int32 × PF × PG} (C : cMC p R s m args c A v RX6 cX6_valueFrom 5 4 135 (xn res.2.1 - xn K0)) (hret : ∀ (b1 : Nat) (H1 : Heap) (locs1 : List Loc) (ls1 : Array Slot) (pc : Nat), cMW s A v a b1 K0 res.2.1 res.2.2 H1 locs1 → narrow .int (.int res.1) = .int res.1 → decode cX6_valueFrom pc = .ok (.ireturn, 1) → W p l e R s m args below meth c H1 locs1 (xn res.2.1 - xn K0) (2 * (xn res.2.1 - xn K0)) Q (F0 m pc ls1 [.int res.1])) (ag_12 : Int32 → PF → PG → PR) (hag_12 : ∀ (x2 : Int32) (F : PF) (G : PG), ag_12 x2 F G = some res → ∀ (b : Nat) (H : Heap) (locs : List Loc) (ls : Array Slot), cMW s A v a b K0 F G H locs → lv_has ls 5 [(0, .ref (a 206)), (2, .int x2)] → W p l e R s m args below meth c H locs (xn F - xn K0) (2 * (xn F - xn K0)) Q (F0 m 12 ls [])) (hagn_12 : ∀ (x2 : Int32) (F : PF) (G : PG), ag_12 x2 F G = some res → xn F ≤ xn res.2.1) (x2 : Int32) (z0 : Int32) (F : PF) (G : PG) (hm : cb_X6_valueFrom_110 fu ag_12 x2 z0 F G = some res) {b : Nat} {H : Heap} {locs : List Loc} (hw : cMW s A v a b K0 F G H locs) {ls : Array Slot} (hl : lv_has ls 5 [(0, .ref (a 206)), (2, .int x2)]) : W p l e R s m args below meth c H locs (xn F - xn K0) (2 * (xn F - xn K0)) Q (F0 m 110 ls [.int z0, .ref (a 206)]) := by
  have hx := C.1
  have hb := C.2.1
  unfold cb_X6_valueFrom_110 at hm
  obtain ⟨⟨r1, F1, G1⟩, hc, hm⟩ := bind_elim hm
  refine ccallV (n := 1) (As := [.int z0]) (rest := []) C hw (ck_X6_push l v a _ _ fu z0 F G r1 F1 G1 hc) (cn_X6_push fu z0 F G _ hc) (Nat.sub_le_sub_right (cn_X6_valueFrom_113 fu ag_12 hagn_12 x2 F1 G1 hm) _) (crecv_X6 C hw) cm_533 cm_534 cm_535 cm_21 cm_536 (by decide +kernel) rfl (by omega) (by omega) hl.1 rfl (Nat.le_of_ble_eq_true rfl) dX6_valueFrom_110 (fun b H locs hw => ?_)
  exact cw_X6_valueFrom_113 fu C hret ag_12 hag_12 hagn_12 x2 F1 G1 hm hw (lv_sub hl [0, 1] rfl)
theorem cn_X6_valueFrom_105 (fu : Nat) {res : Int32 × PF × PG} (ag_12 : Int32 → PF → PG → PR) (hagn_12 : ∀ (x2 : Int32) (F : PF) (G : PG), ag_12 x2 F G = some res → xn F ≤ xn res.2.1) (x2 : Int32) (x4 : Int32) (z0 : Int32) (z1 : Int32) (F : PF) (G : PG) (hm : cb_X6_valueFrom_105 fu ag_12 x2 x4 z0 z1 F G = some res) : xn F ≤ xn res.2.1 := by
  unfold cb_X6_valueFrom_105 at hm
  obtain ⟨⟨r1, F1, G1⟩, hc, hm⟩ := bind_elim hm
  exact Nat.le_trans (cn_X11_joined fu z1 z0 x4 F G _ hc) (cn_X6_valueFrom_110 fu ag_12 hagn_12 x2 r1 F1 G1 hm)
theorem cw_X6_valueFrom_105 (fu : Nat) {res : Int32 × PF × PG} (C : cMC p R s m args c A v RX6 cX6_valueFrom 5 4 135 (xn res.2.1 - xn K0)) (hret : ∀ (b1 : Nat) (H1 : Heap) (locs1 : List Loc) (ls1 : Array Slot) (pc : Nat), cMW s A v a b1 K0 res.2.1 res.2.2 H1 locs1 → narrow .int (.int res.1) = .int res.1 → decode cX6_valueFrom pc = .ok (.ireturn, 1) → W p l e R s m args below meth c H1 locs1 (xn res.2.1 - xn K0) (2 * (xn res.2.1 - xn K0)) Q (F0 m pc ls1 [.int res.1])) (ag_12 : Int32 → PF → PG → PR) (hag_12 : ∀ (x2 : Int32) (F : PF) (G : PG), ag_12 x2 F G = some res → ∀ (b : Nat) (H : Heap) (locs : List Loc) (ls : Array Slot), cMW s A v a b K0 F G H locs → lv_has ls 5 [(0, .ref (a 206)), (2, .int x2)] → W p l e R s m args below meth c H locs (xn F - xn K0) (2 * (xn F - xn K0)) Q (F0 m 12 ls [])) (hagn_12 : ∀ (x2 : Int32) (F : PF) (G : PG), ag_12 x2 F G = some res → xn F ≤ xn res.2.1) (x2 : Int32) (x4 : Int32) (z0 : Int32) (z1 : Int32) (F : PF) (G : PG) (hm : cb_X6_valueFrom_105 fu ag_12 x2 x4 z0 z1 F G = some res) {b : Nat} {H : Heap} {locs : List Loc} (hw : cMW s A v a b K0 F G H locs) {ls : Array Slot} (hl : lv_has ls 5 [(0, .ref (a 206)), (2, .int x2), (4, .int x4)]) : W p l e R s m args below meth c H locs (xn F - xn K0) (2 * (xn F - xn K0)) Q (F0 m 105 ls [.int z0, .int z1, .ref (a 206)]) := by
  have hx := C.1
  have hb := C.2.1
  unfold cb_X6_valueFrom_105 at hm
  refine lv_iload hx hb dX6_valueFrom_105 (lv_at hl 2 rfl) ?_
  obtain ⟨⟨r1, F1, G1⟩, hc, hm⟩ := bind_elim hm
  refine ccallIN (n := 3) (As := [.int z1, .int z0, .int x4]) (rest := [.ref (a 206)]) C hw (ck_X11_joined l v a _ _ fu z1 z0 x4 F G r1 F1 G1 hc) (cn_X11_joined fu z1 z0 x4 F G _ hc) (Nat.sub_le_sub_right (cn_X6_valueFrom_110 fu ag_12 hagn_12 x2 r1 F1 G1 hm) _) C.2.2.2.2.2.2.2.2.2.1.2.2.2.2.2.2.2.2.2.2.2.2.2.2.2.2.2.2.2.2.2.2.1 cm_568 cm_563 cm_569 (by decide +kernel) rfl (by omega) (by omega) hl.1 rfl (Nat.le_of_ble_eq_true rfl) dX6_valueFrom_107 (fun b H locs hw => ?_)
  exact cw_X6_valueFrom_110 fu C hret ag_12 hag_12 hagn_12 x2 r1 F1 G1 hm hw (lv_sub hl [0, 1] rfl)
theorem cn_X6_valueFrom_97 (fu : Nat) {res : Int32 × PF × PG} (ag_12 : Int32 → PF → PG → PR) (hagn_12 : ∀ (x2 : Int32) (F : PF) (G : PG), ag_12 x2 F G = some res → xn F ≤ xn res.2.1) (x2 : Int32) (x3 : Int32) (z0 : Int32) (F : PF) (G : PG) (hm : cb_X6_valueFrom_97 fu ag_12 x2 x3 z0 F G = some res) : xn F ≤ xn res.2.1 := by
  unfold cb_X6_valueFrom_97 at hm
  obtain ⟨⟨r1, F1, G1⟩, hc, hm⟩ := bind_elim hm
  exact Nat.le_trans (cn_X6_pop fu F G _ hc) (cn_X6_valueFrom_105 fu ag_12 hagn_12 x2 z0 r1 x3 F1 G1 hm)
theorem cw_X6_valueFrom_97 (fu : Nat) {res : Int32 × PF × PG} (C : cMC p R s m args c A v RX6 cX6_valueFrom 5 4 135 (xn res.2.1 - xn K0)) (hret : ∀ (b1 : Nat) (H1 : Heap) (locs1 : List Loc) (ls1 : Array Slot) (pc : Nat), cMW s A v a b1 K0 res.2.1 res.2.2 H1 locs1 → narrow .int (.int res.1) = .int res.1 → decode cX6_valueFrom pc = .ok (.ireturn, 1) → W p l e R s m args below meth c H1 locs1 (xn res.2.1 - xn K0) (2 * (xn res.2.1 - xn K0)) Q (F0 m pc ls1 [.int res.1])) (ag_12 : Int32 → PF → PG → PR) (hag_12 : ∀ (x2 : Int32) (F : PF) (G : PG), ag_12 x2 F G = some res → ∀ (b : Nat) (H : Heap) (locs : List Loc) (ls : Array Slot), cMW s A v a b K0 F G H locs → lv_has ls 5 [(0, .ref (a 206)), (2, .int x2)] → W p l e R s m args below meth c H locs (xn F - xn K0) (2 * (xn F - xn K0)) Q (F0 m 12 ls [])) (hagn_12 : ∀ (x2 : Int32) (F : PF) (G : PG), ag_12 x2 F G = some res → xn F ≤ xn res.2.1) (x2 : Int32) (x3 : Int32) (z0 : Int32) (F : PF) (G : PG) (hm : cb_X6_valueFrom_97 fu ag_12 x2 x3 z0 F G = some res) {b : Nat} {H : Heap} {locs : List Loc} (hw : cMW s A v a b K0 F G H locs) {ls : Array Slot} (hl : lv_has ls 5 [(0, .ref (a 206)), (2, .int x2), (3, .int x3)]) : W p l e R s m args below meth c H locs (xn F - xn K0) (2 * (xn F - xn K0)) Q (F0 m 97 ls [.int z0]) := by
  have hx := C.1
  have hb := C.2.1
  unfold cb_X6_valueFrom_97 at hm
  refine lv_istore (lv' := [(4, .int z0), (0, .ref (a 206)), (2, .int x2), (3, .int x3)]) hx hb dX6_valueFrom_97 hl (by decide) rfl (fun ls hl => ?_)
  refine lv_aload_n hx hb dX6_valueFrom_99 rfl (lv_at hl 1 rfl) ?_
  refine lv_iload_n hx hb dX6_valueFrom_100 rfl (lv_at hl 3 rfl) ?_
  refine lv_aload_n hx hb dX6_valueFrom_101 rfl (lv_at hl 1 rfl) ?_
  obtain ⟨⟨r1, F1, G1⟩, hc, hm⟩ := bind_elim hm
  refine ccallI (n := 0) (As := []) (rest := [.int x3, .ref (a 206)]) C hw (ck_X6_pop l v a _ _ fu F G r1 F1 G1 hc) (cn_X6_pop fu F G _ hc) (Nat.sub_le_sub_right (cn_X6_valueFrom_105 fu ag_12 hagn_12 x2 z0 r1 x3 F1 G1 hm) _) (crecv_X6 C hw) cm_558 cm_559 cm_560 cm_21 cm_561 (by decide +kernel) rfl (by omega) (by omega) hl.1 rfl (Nat.le_of_ble_eq_true rfl) dX6_valueFrom_102 (fun b H locs hw => ?_)
  exact cw_X6_valueFrom_105 fu C hret ag_12 hag_12 hagn_12 x2 z0 r1 x3 F1 G1 hm hw (lv_sub hl [1, 2, 0] rfl)
theorem cn_X6_valueFrom_93 (fu : Nat) {res : Int32 × PF × PG} (ag_12 : Int32 → PF → PG → PR) (hagn_12 : ∀ (x2 : Int32) (F : PF) (G : PG), ag_12 x2 F G = some res → xn F ≤ xn res.2.1) (x2 : Int32) (x3 : Int32) (F : PF) (G : PG) (hm : cb_X6_valueFrom_93 fu ag_12 x2 x3 F G = some res) : xn F ≤ xn res.2.1 := by
  unfold cb_X6_valueFrom_93 at hm
  obtain ⟨⟨r1, F1, G1⟩, hc, hm⟩ := bind_elim hm
  exact Nat.le_trans (cn_X6_pop fu F G _ hc) (cn_X6_valueFrom_97 fu ag_12 hagn_12 x2 x3 r1 F1 G1 hm)
theorem cw_X6_valueFrom_93 (fu : Nat) {res : Int32 × PF × PG} (C : cMC p R s m args c A v RX6 cX6_valueFrom 5 4 135 (xn res.2.1 - xn K0)) (hret : ∀ (b1 : Nat) (H1 : Heap) (locs1 : List Loc) (ls1 : Array Slot) (pc : Nat), cMW s A v a b1 K0 res.2.1 res.2.2 H1 locs1 → narrow .int (.int res.1) = .int res.1 → decode cX6_valueFrom pc = .ok (.ireturn, 1) → W p l e R s m args below meth c H1 locs1 (xn res.2.1 - xn K0) (2 * (xn res.2.1 - xn K0)) Q (F0 m pc ls1 [.int res.1])) (ag_12 : Int32 → PF → PG → PR) (hag_12 : ∀ (x2 : Int32) (F : PF) (G : PG), ag_12 x2 F G = some res → ∀ (b : Nat) (H : Heap) (locs : List Loc) (ls : Array Slot), cMW s A v a b K0 F G H locs → lv_has ls 5 [(0, .ref (a 206)), (2, .int x2)] → W p l e R s m args below meth c H locs (xn F - xn K0) (2 * (xn F - xn K0)) Q (F0 m 12 ls [])) (hagn_12 : ∀ (x2 : Int32) (F : PF) (G : PG), ag_12 x2 F G = some res → xn F ≤ xn res.2.1) (x2 : Int32) (x3 : Int32) (F : PF) (G : PG) (hm : cb_X6_valueFrom_93 fu ag_12 x2 x3 F G = some res) {b : Nat} {H : Heap} {locs : List Loc} (hw : cMW s A v a b K0 F G H locs) {ls : Array Slot} (hl : lv_has ls 5 [(0, .ref (a 206)), (2, .int x2), (3, .int x3)]) : W p l e R s m args below meth c H locs (xn F - xn K0) (2 * (xn F - xn K0)) Q (F0 m 93 ls []) := by
  have hx := C.1
  have hb := C.2.1
  unfold cb_X6_valueFrom_93 at hm
  refine lv_aload_n hx hb dX6_valueFrom_93 rfl (lv_at hl 0 rfl) ?_
  obtain ⟨⟨r1, F1, G1⟩, hc, hm⟩ := bind_elim hm
  refine ccallI (n := 0) (As := []) (rest := []) C hw (ck_X6_pop l v a _ _ fu F G r1 F1 G1 hc) (cn_X6_pop fu F G _ hc) (Nat.sub_le_sub_right (cn_X6_valueFrom_97 fu ag_12 hagn_12 x2 x3 r1 F1 G1 hm) _) (crecv_X6 C hw) cm_558 cm_559 cm_560 cm_21 cm_561 (by decide +kernel) rfl (by omega) (by omega) hl.1 rfl (Nat.le_of_ble_eq_true rfl) dX6_valueFrom_94 (fun b H locs hw => ?_)
  exact cw_X6_valueFrom_97 fu C hret ag_12 hag_12 hagn_12 x2 x3 r1 F1 G1 hm hw (lv_sub hl [0, 1, 2] rfl)
theorem cn_X6_valueFrom_90 (fu : Nat) {res : Int32 × PF × PG} (ag_12 : Int32 → PF → PG → PR) (hagn_12 : ∀ (x2 : Int32) (F : PF) (G : PG), ag_12 x2 F G = some res → xn F ≤ xn res.2.1) (x2 : Int32) (F : PF) (G : PG) (hm : cb_X6_valueFrom_90 fu ag_12 x2 F G = some res) : xn F ≤ xn res.2.1 := by
  unfold cb_X6_valueFrom_90 at hm
  exact (cn_X6_valueFrom_113 fu ag_12 hagn_12 x2 F G hm)
theorem cw_X6_valueFrom_90 (fu : Nat) {res : Int32 × PF × PG} (C : cMC p R s m args c A v RX6 cX6_valueFrom 5 4 135 (xn res.2.1 - xn K0)) (hret : ∀ (b1 : Nat) (H1 : Heap) (locs1 : List Loc) (ls1 : Array Slot) (pc : Nat), cMW s A v a b1 K0 res.2.1 res.2.2 H1 locs1 → narrow .int (.int res.1) = .int res.1 → decode cX6_valueFrom pc = .ok (.ireturn, 1) → W p l e R s m args below meth c H1 locs1 (xn res.2.1 - xn K0) (2 * (xn res.2.1 - xn K0)) Q (F0 m pc ls1 [.int res.1])) (ag_12 : Int32 → PF → PG → PR) (hag_12 : ∀ (x2 : Int32) (F : PF) (G : PG), ag_12 x2 F G = some res → ∀ (b : Nat) (H : Heap) (locs : List Loc) (ls : Array Slot), cMW s A v a b K0 F G H locs → lv_has ls 5 [(0, .ref (a 206)), (2, .int x2)] → W p l e R s m args below meth c H locs (xn F - xn K0) (2 * (xn F - xn K0)) Q (F0 m 12 ls [])) (hagn_12 : ∀ (x2 : Int32) (F : PF) (G : PG), ag_12 x2 F G = some res → xn F ≤ xn res.2.1) (x2 : Int32) (F : PF) (G : PG) (hm : cb_X6_valueFrom_90 fu ag_12 x2 F G = some res) {b : Nat} {H : Heap} {locs : List Loc} (hw : cMW s A v a b K0 F G H locs) {ls : Array Slot} (hl : lv_has ls 5 [(0, .ref (a 206)), (2, .int x2)]) : W p l e R s m args below meth c H locs (xn F - xn K0) (2 * (xn F - xn K0)) Q (F0 m 90 ls []) := by
  have hx := C.1
  have hb := C.2.1
  unfold cb_X6_valueFrom_90 at hm
  refine lv_goto (tgt := 113) hx hb dX6_valueFrom_90 (by decide) ?_
  exact cw_X6_valueFrom_113 fu C hret ag_12 hag_12 hagn_12 x2 F G hm hw (lv_sub hl [0, 1] rfl)
theorem cn_X6_valueFrom_87 (fu : Nat) {res : Int32 × PF × PG} (ag_12 : Int32 → PF → PG → PR) (hagn_12 : ∀ (x2 : Int32) (F : PF) (G : PG), ag_12 x2 F G = some res → xn F ≤ xn res.2.1) (x2 : Int32) (z0 : Int32) (F : PF) (G : PG) (hm : cb_X6_valueFrom_87 fu ag_12 x2 z0 F G = some res) : xn F ≤ xn res.2.1 := by
  unfold cb_X6_valueFrom_87 at hm
  obtain ⟨⟨r1, F1, G1⟩, hc, hm⟩ := bind_elim hm
  exact Nat.le_trans (cn_X6_push fu z0 F G _ hc) (cn_X6_valueFrom_90 fu ag_12 hagn_12 x2 F1 G1 hm)
theorem cw_X6_valueFrom_87 (fu : Nat) {res : Int32 × PF × PG} (C : cMC p R s m args c A v RX6 cX6_valueFrom 5 4 135 (xn res.2.1 - xn K0)) (hret : ∀ (b1 : Nat) (H1 : Heap) (locs1 : List Loc) (ls1 : Array Slot) (pc : Nat), cMW s A v a b1 K0 res.2.1 res.2.2 H1 locs1 → narrow .int (.int res.1) = .int res.1 → decode cX6_valueFrom pc = .ok (.ireturn, 1) → W p l e R s m args below meth c H1 locs1 (xn res.2.1 - xn K0) (2 * (xn res.2.1 - xn K0)) Q (F0 m pc ls1 [.int res.1])) (ag_12 : Int32 → PF → PG → PR) (hag_12 : ∀ (x2 : Int32) (F : PF) (G : PG), ag_12 x2 F G = some res → ∀ (b : Nat) (H : Heap) (locs : List Loc) (ls : Array Slot), cMW s A v a b K0 F G H locs → lv_has ls 5 [(0, .ref (a 206)), (2, .int x2)] → W p l e R s m args below meth c H locs (xn F - xn K0) (2 * (xn F - xn K0)) Q (F0 m 12 ls [])) (hagn_12 : ∀ (x2 : Int32) (F : PF) (G : PG), ag_12 x2 F G = some res → xn F ≤ xn res.2.1) (x2 : Int32) (z0 : Int32) (F : PF) (G : PG) (hm : cb_X6_valueFrom_87 fu ag_12 x2 z0 F G = some res) {b : Nat} {H : Heap} {locs : List Loc} (hw : cMW s A v a b K0 F G H locs) {ls : Array Slot} (hl : lv_has ls 5 [(0, .ref (a 206)), (2, .int x2)]) : W p l e R s m args below meth c H locs (xn F - xn K0) (2 * (xn F - xn K0)) Q (F0 m 87 ls [.int z0, .ref (a 206)]) := by
  have hx := C.1
  have hb := C.2.1
  unfold cb_X6_valueFrom_87 at hm
  obtain ⟨⟨r1, F1, G1⟩, hc, hm⟩ := bind_elim hm
  refine ccallV (n := 1) (As := [.int z0]) (rest := []) C hw (ck_X6_push l v a _ _ fu z0 F G r1 F1 G1 hc) (cn_X6_push fu z0 F G _ hc) (Nat.sub_le_sub_right (cn_X6_valueFrom_90 fu ag_12 hagn_12 x2 F1 G1 hm) _) (crecv_X6 C hw) cm_533 cm_534 cm_535 cm_21 cm_536 (by decide +kernel) rfl (by omega) (by omega) hl.1 rfl (Nat.le_of_ble_eq_true rfl) dX6_valueFrom_87 (fun b H locs hw => ?_)
  exact cw_X6_valueFrom_90 fu C hret ag_12 hag_12 hagn_12 x2 F1 G1 hm hw (lv_sub hl [0, 1] rfl)
theorem cn_X6_valueFrom_84 (fu : Nat) {res : Int32 × PF × PG} (ag_12 : Int32 → PF → PG → PR) (hagn_12 : ∀ (x2 : Int32) (F : PF) (G : PG), ag_12 x2 F G = some res → xn F ≤ xn res.2.1) (x2 : Int32) (z0 : Int32) (z1 : Int32) (F : PF) (G : PG) (hm : cb_X6_valueFrom_84 fu ag_12 x2 z0 z1 F G = some res) : xn F ≤ xn res.2.1 := by
  unfold cb_X6_valueFrom_84 at hm
  obtain ⟨⟨r1, F1, G1⟩, hc, hm⟩ := bind_elim hm
  exact Nat.le_trans (cn_X6_changed fu z1 z0 F G _ hc) (cn_X6_valueFrom_87 fu ag_12 hagn_12 x2 r1 F1 G1 hm)
theorem cw_X6_valueFrom_84 (fu : Nat) {res : Int32 × PF × PG} (C : cMC p R s m args c A v RX6 cX6_valueFrom 5 4 135 (xn res.2.1 - xn K0)) (hret : ∀ (b1 : Nat) (H1 : Heap) (locs1 : List Loc) (ls1 : Array Slot) (pc : Nat), cMW s A v a b1 K0 res.2.1 res.2.2 H1 locs1 → narrow .int (.int res.1) = .int res.1 → decode cX6_valueFrom pc = .ok (.ireturn, 1) → W p l e R s m args below meth c H1 locs1 (xn res.2.1 - xn K0) (2 * (xn res.2.1 - xn K0)) Q (F0 m pc ls1 [.int res.1])) (ag_12 : Int32 → PF → PG → PR) (hag_12 : ∀ (x2 : Int32) (F : PF) (G : PG), ag_12 x2 F G = some res → ∀ (b : Nat) (H : Heap) (locs : List Loc) (ls : Array Slot), cMW s A v a b K0 F G H locs → lv_has ls 5 [(0, .ref (a 206)), (2, .int x2)] → W p l e R s m args below meth c H locs (xn F - xn K0) (2 * (xn F - xn K0)) Q (F0 m 12 ls [])) (hagn_12 : ∀ (x2 : Int32) (F : PF) (G : PG), ag_12 x2 F G = some res → xn F ≤ xn res.2.1) (x2 : Int32) (z0 : Int32) (z1 : Int32) (F : PF) (G : PG) (hm : cb_X6_valueFrom_84 fu ag_12 x2 z0 z1 F G = some res) {b : Nat} {H : Heap} {locs : List Loc} (hw : cMW s A v a b K0 F G H locs) {ls : Array Slot} (hl : lv_has ls 5 [(0, .ref (a 206)), (2, .int x2)]) : W p l e R s m args below meth c H locs (xn F - xn K0) (2 * (xn F - xn K0)) Q (F0 m 84 ls [.int z0, .int z1, .ref (a 206)]) := by
  have hx := C.1
  have hb := C.2.1
  unfold cb_X6_valueFrom_84 at hm
  obtain ⟨⟨r1, F1, G1⟩, hc, hm⟩ := bind_elim hm
  refine ccallIS (n := 2) (As := [.int z1, .int z0]) (rest := [.ref (a 206)]) C hw (ck_X6_changed l v a _ _ fu z1 z0 F G r1 F1 G1 hc) (cn_X6_changed fu z1 z0 F G _ hc) (Nat.sub_le_sub_right (cn_X6_valueFrom_87 fu ag_12 hagn_12 x2 r1 F1 G1 hm) _) cm_565 cm_566 cm_21 cm_567 (by decide +kernel) rfl (by omega) (by omega) hl.1 rfl (Nat.le_of_ble_eq_true rfl) dX6_valueFrom_84 (fun b H locs hw => ?_)
  exact cw_X6_valueFrom_87 fu C hret ag_12 hag_12 hagn_12 x2 r1 F1 G1 hm hw (lv_sub hl [0, 1] rfl)
theorem cn_X6_valueFrom_78 (fu : Nat) {res : Int32 × PF × PG} (ag_12 : Int32 → PF → PG → PR) (hagn_12 : ∀ (x2 : Int32) (F : PF) (G : PG), ag_12 x2 F G = some res → xn F ≤ xn res.2.1) (x2 : Int32) (x3 : Int32) (F : PF) (G : PG) (hm : cb_X6_valueFrom_78 fu ag_12 x2 x3 F G = some res) : xn F ≤ xn res.2.1 := by
  unfold cb_X6_valueFrom_78 at hm
  obtain ⟨⟨r1, F1, G1⟩, hc, hm⟩ := bind_elim hm
  exact Nat.le_trans (cn_X6_pop fu F G _ hc) (cn_X6_valueFrom_84 fu ag_12 hagn_12 x2 r1 x3 F1 G1 hm)
theorem cw_X6_valueFrom_78 (fu : Nat) {res : Int32 × PF × PG} (C : cMC p R s m args c A v RX6 cX6_valueFrom 5 4 135 (xn res.2.1 - xn K0)) (hret : ∀ (b1 : Nat) (H1 : Heap) (locs1 : List Loc) (ls1 : Array Slot) (pc : Nat), cMW s A v a b1 K0 res.2.1 res.2.2 H1 locs1 → narrow .int (.int res.1) = .int res.1 → decode cX6_valueFrom pc = .ok (.ireturn, 1) → W p l e R s m args below meth c H1 locs1 (xn res.2.1 - xn K0) (2 * (xn res.2.1 - xn K0)) Q (F0 m pc ls1 [.int res.1])) (ag_12 : Int32 → PF → PG → PR) (hag_12 : ∀ (x2 : Int32) (F : PF) (G : PG), ag_12 x2 F G = some res → ∀ (b : Nat) (H : Heap) (locs : List Loc) (ls : Array Slot), cMW s A v a b K0 F G H locs → lv_has ls 5 [(0, .ref (a 206)), (2, .int x2)] → W p l e R s m args below meth c H locs (xn F - xn K0) (2 * (xn F - xn K0)) Q (F0 m 12 ls [])) (hagn_12 : ∀ (x2 : Int32) (F : PF) (G : PG), ag_12 x2 F G = some res → xn F ≤ xn res.2.1) (x2 : Int32) (x3 : Int32) (F : PF) (G : PG) (hm : cb_X6_valueFrom_78 fu ag_12 x2 x3 F G = some res) {b : Nat} {H : Heap} {locs : List Loc} (hw : cMW s A v a b K0 F G H locs) {ls : Array Slot} (hl : lv_has ls 5 [(0, .ref (a 206)), (2, .int x2), (3, .int x3)]) : W p l e R s m args below meth c H locs (xn F - xn K0) (2 * (xn F - xn K0)) Q (F0 m 78 ls []) := by
  have hx := C.1
  have hb := C.2.1
  unfold cb_X6_valueFrom_78 at hm
  refine lv_aload_n hx hb dX6_valueFrom_78 rfl (lv_at hl 0 rfl) ?_
  refine lv_iload_n hx hb dX6_valueFrom_79 rfl (lv_at hl 2 rfl) ?_
  refine lv_aload_n hx hb dX6_valueFrom_80 rfl (lv_at hl 0 rfl) ?_
  obtain ⟨⟨r1, F1, G1⟩, hc, hm⟩ := bind_elim hm
  refine ccallI (n := 0) (As := []) (rest := [.int x3, .ref (a 206)]) C hw (ck_X6_pop l v a _ _ fu F G r1 F1 G1 hc) (cn_X6_pop fu F G _ hc) (Nat.sub_le_sub_right (cn_X6_valueFrom_84 fu ag_12 hagn_12 x2 r1 x3 F1 G1 hm) _) (crecv_X6 C hw) cm_558 cm_559 cm_560 cm_21 cm_561 (by decide +kernel) rfl (by omega) (by omega) hl.1 rfl (Nat.le_of_ble_eq_true rfl) dX6_valueFrom_81 (fun b H locs hw => ?_)
  exact cw_X6_valueFrom_84 fu C hret ag_12 hag_12 hagn_12 x2 r1 x3 F1 G1 hm hw (lv_sub hl [0, 1] rfl)
theorem cn_X6_valueFrom_72 (fu : Nat) {res : Int32 × PF × PG} (ag_12 : Int32 → PF → PG → PR) (hagn_12 : ∀ (x2 : Int32) (F : PF) (G : PG), ag_12 x2 F G = some res → xn F ≤ xn res.2.1) (x2 : Int32) (x3 : Int32) (F : PF) (G : PG) (hm : cb_X6_valueFrom_72 fu ag_12 x2 x3 F G = some res) : xn F ≤ xn res.2.1 := by
  unfold cb_X6_valueFrom_72 at hm
  by_cases c_1 : x3 < (62 : Int32)
  · have hm := (if_pos c_1).symm.trans hm
    exact (cn_X6_valueFrom_93 fu ag_12 hagn_12 x2 x3 F G hm)
  · have hm := (if_neg c_1).symm.trans hm
    exact (cn_X6_valueFrom_78 fu ag_12 hagn_12 x2 x3 F G hm)
theorem cw_X6_valueFrom_72 (fu : Nat) {res : Int32 × PF × PG} (C : cMC p R s m args c A v RX6 cX6_valueFrom 5 4 135 (xn res.2.1 - xn K0)) (hret : ∀ (b1 : Nat) (H1 : Heap) (locs1 : List Loc) (ls1 : Array Slot) (pc : Nat), cMW s A v a b1 K0 res.2.1 res.2.2 H1 locs1 → narrow .int (.int res.1) = .int res.1 → decode cX6_valueFrom pc = .ok (.ireturn, 1) → W p l e R s m args below meth c H1 locs1 (xn res.2.1 - xn K0) (2 * (xn res.2.1 - xn K0)) Q (F0 m pc ls1 [.int res.1])) (ag_12 : Int32 → PF → PG → PR) (hag_12 : ∀ (x2 : Int32) (F : PF) (G : PG), ag_12 x2 F G = some res → ∀ (b : Nat) (H : Heap) (locs : List Loc) (ls : Array Slot), cMW s A v a b K0 F G H locs → lv_has ls 5 [(0, .ref (a 206)), (2, .int x2)] → W p l e R s m args below meth c H locs (xn F - xn K0) (2 * (xn F - xn K0)) Q (F0 m 12 ls [])) (hagn_12 : ∀ (x2 : Int32) (F : PF) (G : PG), ag_12 x2 F G = some res → xn F ≤ xn res.2.1) (x2 : Int32) (x3 : Int32) (F : PF) (G : PG) (hm : cb_X6_valueFrom_72 fu ag_12 x2 x3 F G = some res) {b : Nat} {H : Heap} {locs : List Loc} (hw : cMW s A v a b K0 F G H locs) {ls : Array Slot} (hl : lv_has ls 5 [(0, .ref (a 206)), (2, .int x2), (3, .int x3)]) : W p l e R s m args below meth c H locs (xn F - xn K0) (2 * (xn F - xn K0)) Q (F0 m 72 ls []) := by
  have hx := C.1
  have hb := C.2.1
  unfold cb_X6_valueFrom_72 at hm
  refine lv_iload_n hx hb dX6_valueFrom_72 rfl (lv_at hl 2 rfl) ?_
  refine lv_bipush (v := 62) hx hb dX6_valueFrom_73 (by decide) ?_
  refine lv_icmp_lt (tgt := 93) hx hb dX6_valueFrom_75 (by decide) (fun c_1 => ?_) (fun c_1 => ?_)
  · have hm := (if_pos c_1).symm.trans hm
    exact cw_X6_valueFrom_93 fu C hret ag_12 hag_12 hagn_12 x2 x3 F G hm hw (lv_sub hl [0, 1, 2] rfl)
  · have hm := (if_neg c_1).symm.trans hm
    exact cw_X6_valueFrom_78 fu C hret ag_12 hag_12 hagn_12 x2 x3 F G hm hw (lv_sub hl [0, 1, 2] rfl)
theorem cn_X6_valueFrom_69 (fu : Nat) {res : Int32 × PF × PG} (ag_12 : Int32 → PF → PG → PR) (hagn_12 : ∀ (x2 : Int32) (F : PF) (G : PG), ag_12 x2 F G = some res → xn F ≤ xn res.2.1) (x2 : Int32) (F : PF) (G : PG) (hm : cb_X6_valueFrom_69 fu ag_12 x2 F G = some res) : xn F ≤ xn res.2.1 := by
  unfold cb_X6_valueFrom_69 at hm
  exact (cn_X6_valueFrom_113 fu ag_12 hagn_12 x2 F G hm)
theorem cw_X6_valueFrom_69 (fu : Nat) {res : Int32 × PF × PG} (C : cMC p R s m args c A v RX6 cX6_valueFrom 5 4 135 (xn res.2.1 - xn K0)) (hret : ∀ (b1 : Nat) (H1 : Heap) (locs1 : List Loc) (ls1 : Array Slot) (pc : Nat), cMW s A v a b1 K0 res.2.1 res.2.2 H1 locs1 → narrow .int (.int res.1) = .int res.1 → decode cX6_valueFrom pc = .ok (.ireturn, 1) → W p l e R s m args below meth c H1 locs1 (xn res.2.1 - xn K0) (2 * (xn res.2.1 - xn K0)) Q (F0 m pc ls1 [.int res.1])) (ag_12 : Int32 → PF → PG → PR) (hag_12 : ∀ (x2 : Int32) (F : PF) (G : PG), ag_12 x2 F G = some res → ∀ (b : Nat) (H : Heap) (locs : List Loc) (ls : Array Slot), cMW s A v a b K0 F G H locs → lv_has ls 5 [(0, .ref (a 206)), (2, .int x2)] → W p l e R s m args below meth c H locs (xn F - xn K0) (2 * (xn F - xn K0)) Q (F0 m 12 ls [])) (hagn_12 : ∀ (x2 : Int32) (F : PF) (G : PG), ag_12 x2 F G = some res → xn F ≤ xn res.2.1) (x2 : Int32) (F : PF) (G : PG) (hm : cb_X6_valueFrom_69 fu ag_12 x2 F G = some res) {b : Nat} {H : Heap} {locs : List Loc} (hw : cMW s A v a b K0 F G H locs) {ls : Array Slot} (hl : lv_has ls 5 [(0, .ref (a 206)), (2, .int x2)]) : W p l e R s m args below meth c H locs (xn F - xn K0) (2 * (xn F - xn K0)) Q (F0 m 69 ls []) := by
  have hx := C.1
  have hb := C.2.1
  unfold cb_X6_valueFrom_69 at hm
  refine lv_goto (tgt := 113) hx hb dX6_valueFrom_69 (by decide) ?_
  exact cw_X6_valueFrom_113 fu C hret ag_12 hag_12 hagn_12 x2 F G hm hw (lv_sub hl [0, 1] rfl)
theorem cn_X6_valueFrom_66 (fu : Nat) {res : Int32 × PF × PG} (ag_12 : Int32 → PF → PG → PR) (hagn_12 : ∀ (x2 : Int32) (F : PF) (G : PG), ag_12 x2 F G = some res → xn F ≤ xn res.2.1) (x2 : Int32) (z0 : Int32) (z1 : Int32) (F : PF) (G : PG) (hm : cb_X6_valueFrom_66 fu ag_12 x2 z0 z1 F G = some res) : xn F ≤ xn res.2.1 := by
  unfold cb_X6_valueFrom_66 at hm
  obtain ⟨⟨r1, F1, G1⟩, hc, hm⟩ := bind_elim hm
  exact Nat.le_trans (cn_X6_jump fu z1 z0 F G _ hc) (cn_X6_valueFrom_69 fu ag_12 hagn_12 x2 F1 G1 hm)
theorem cw_X6_valueFrom_66 (fu : Nat) {res : Int32 × PF × PG} (C : cMC p R s m args c A v RX6 cX6_valueFrom 5 4 135 (xn res.2.1 - xn K0)) (hret : ∀ (b1 : Nat) (H1 : Heap) (locs1 : List Loc) (ls1 : Array Slot) (pc : Nat), cMW s A v a b1 K0 res.2.1 res.2.2 H1 locs1 → narrow .int (.int res.1) = .int res.1 → decode cX6_valueFrom pc = .ok (.ireturn, 1) → W p l e R s m args below meth c H1 locs1 (xn res.2.1 - xn K0) (2 * (xn res.2.1 - xn K0)) Q (F0 m pc ls1 [.int res.1])) (ag_12 : Int32 → PF → PG → PR) (hag_12 : ∀ (x2 : Int32) (F : PF) (G : PG), ag_12 x2 F G = some res → ∀ (b : Nat) (H : Heap) (locs : List Loc) (ls : Array Slot), cMW s A v a b K0 F G H locs → lv_has ls 5 [(0, .ref (a 206)), (2, .int x2)] → W p l e R s m args below meth c H locs (xn F - xn K0) (2 * (xn F - xn K0)) Q (F0 m 12 ls [])) (hagn_12 : ∀ (x2 : Int32) (F : PF) (G : PG), ag_12 x2 F G = some res → xn F ≤ xn res.2.1) (x2 : Int32) (z0 : Int32) (z1 : Int32) (F : PF) (G : PG) (hm : cb_X6_valueFrom_66 fu ag_12 x2 z0 z1 F G = some res) {b : Nat} {H : Heap} {locs : List Loc} (hw : cMW s A v a b K0 F G H locs) {ls : Array Slot} (hl : lv_has ls 5 [(0, .ref (a 206)), (2, .int x2)]) : W p l e R s m args below meth c H locs (xn F - xn K0) (2 * (xn F - xn K0)) Q (F0 m 66 ls [.int z0, .int z1, .ref (a 206)]) := by
  have hx := C.1
  have hb := C.2.1
  unfold cb_X6_valueFrom_66 at hm
  obtain ⟨⟨r1, F1, G1⟩, hc, hm⟩ := bind_elim hm
  refine ccallV (n := 2) (As := [.int z1, .int z0]) (rest := []) C hw (ck_X6_jump l v a _ _ fu z1 z0 F G r1 F1 G1 hc) (cn_X6_jump fu z1 z0 F G _ hc) (Nat.sub_le_sub_right (cn_X6_valueFrom_69 fu ag_12 hagn_12 x2 F1 G1 hm) _) (crecv_X6 C hw) cm_554 cm_555 cm_556 cm_21 cm_557 (by decide +kernel) rfl (by omega) (by omega) hl.1 rfl (Nat.le_of_ble_eq_true rfl) dX6_valueFrom_66 (fun b H locs hw => ?_)
  exact cw_X6_valueFrom_69 fu C hret ag_12 hag_12 hagn_12 x2 F1 G1 hm hw (lv_sub hl [0, 1] rfl)
theorem cn_X6_valueFrom_60 (fu : Nat) {res : Int32 × PF × PG} (ag_12 : Int32 → PF → PG → PR) (hagn_12 : ∀ (x2 : Int32) (F : PF) (G : PG), ag_12 x2 F G = some res → xn F ≤ xn res.2.1) (x2 : Int32) (x3 : Int32) (F : PF) (G : PG) (hm : cb_X6_valueFrom_60 fu ag_12 x2 x3 F G = some res) : xn F ≤ xn res.2.1 := by
  unfold cb_X6_valueFrom_60 at hm
  obtain ⟨⟨r1, F1, G1⟩, hc, hm⟩ := bind_elim hm
  exact Nat.le_trans (cn_X6_next fu F G _ hc) (cn_X6_valueFrom_66 fu ag_12 hagn_12 x2 r1 x3 F1 G1 hm)
theorem cw_X6_valueFrom_60 (fu : Nat) {res : Int32 × PF × PG} (C : cMC p R s m args c A v RX6 cX6_valueFrom 5 4 135 (xn res.2.1 - xn K0)) (hret : ∀ (b1 : Nat) (H1 : Heap) (locs1 : List Loc) (ls1 : Array Slot) (pc : Nat), cMW s A v a b1 K0 res.2.1 res.2.2 H1 locs1 → narrow .int (.int res.1) = .int res.1 → decode cX6_valueFrom pc = .ok (.ireturn, 1) → W p l e R s m args below meth c H1 locs1 (xn res.2.1 - xn K0) (2 * (xn res.2.1 - xn K0)) Q (F0 m pc ls1 [.int res.1])) (ag_12 : Int32 → PF → PG → PR) (hag_12 : ∀ (x2 : Int32) (F : PF) (G : PG), ag_12 x2 F G = some res → ∀ (b : Nat) (H : Heap) (locs : List Loc) (ls : Array Slot), cMW s A v a b K0 F G H locs → lv_has ls 5 [(0, .ref (a 206)), (2, .int x2)] → W p l e R s m args below meth c H locs (xn F - xn K0) (2 * (xn F - xn K0)) Q (F0 m 12 ls [])) (hagn_12 : ∀ (x2 : Int32) (F : PF) (G : PG), ag_12 x2 F G = some res → xn F ≤ xn res.2.1) (x2 : Int32) (x3 : Int32) (F : PF) (G : PG) (hm : cb_X6_valueFrom_60 fu ag_12 x2 x3 F G = some res) {b : Nat} {H : Heap} {locs : List Loc} (hw : cMW s A v a b K0 F G H locs) {ls : Array Slot} (hl : lv_has ls 5 [(0, .ref (a 206)), (2, .int x2), (3, .int x3)]) : W p l e R s m args below meth c H locs (xn F - xn K0) (2 * (xn F - xn K0)) Q (F0 m 60 ls []) := by
  have hx := C.1
  have hb := C.2.1
  unfold cb_X6_valueFrom_60 at hm
  refine lv_aload_n hx hb dX6_valueFrom_60 rfl (lv_at hl 0 rfl) ?_
  refine lv_iload_n hx hb dX6_valueFrom_61 rfl (lv_at hl 2 rfl) ?_
  refine lv_aload_n hx hb dX6_valueFrom_62 rfl (lv_at hl 0 rfl) ?_
  obtain ⟨⟨r1, F1, G1⟩, hc, hm⟩ := bind_elim hm
  refine ccallI (n := 0) (As := []) (rest := [.int x3, .ref (a 206)]) C hw (ck_X6_next l v a _ _ fu F G r1 F1 G1 hc) (cn_X6_next fu F G _ hc) (Nat.sub_le_sub_right (cn_X6_valueFrom_66 fu ag_12 hagn_12 x2 r1 x3 F1 G1 hm) _) (crecv_X6 C hw) cm_529 cm_530 cm_531 cm_21 cm_532 (by decide +kernel) rfl (by omega) (by omega) hl.1 rfl (Nat.le_of_ble_eq_true rfl) dX6_valueFrom_63 (fun b H locs hw => ?_)
  exact cw_X6_valueFrom_66 fu C hret ag_12 hag_12 hagn_12 x2 r1 x3 F1 G1 hm hw (lv_sub hl [0, 1] rfl)
theorem cn_X6_valueFrom_54 (fu : Nat) {res : Int32 × PF × PG} (ag_12 : Int32 → PF → PG → PR) (hagn_12 : ∀ (x2 : Int32) (F : PF) (G : PG), ag_12 x2 F G = some res → xn F ≤ xn res.2.1) (x2 : Int32) (x3 : Int32) (F : PF) (G : PG) (hm : cb_X6_valueFrom_54 fu ag_12 x2 x3 F G = some res) : xn F ≤ xn res.2.1 := by
  unfold cb_X6_valueFrom_54 at hm
  by_cases c_1 : x3 < (84 : Int32)
  · have hm := (if_pos c_1).symm.trans hm
    exact (cn_X6_valueFrom_72 fu ag_12 hagn_12 x2 x3 F G hm)
  · have hm := (if_neg c_1).symm.trans hm
    exact (cn_X6_valueFrom_60 fu ag_12 hagn_12 x2 x3 F G hm)
theorem cw_X6_valueFrom_54 (fu : Nat) {res : Int32 × PF × PG} (C : cMC p R s m args c A v RX6 cX6_valueFrom 5 4 135 (xn res.2.1 - xn K0)) (hret : ∀ (b1 : Nat) (H1 : Heap) (locs1 : List Loc) (ls1 : Array Slot) (pc : Nat), cMW s A v a b1 K0 res.2.1 res.2.2 H1 locs1 → narrow .int (.int res.1) = .int res.1 → decode cX6_valueFrom pc = .ok (.ireturn, 1) → W p l e R s m args below meth c H1 locs1 (xn res.2.1 - xn K0) (2 * (xn res.2.1 - xn K0)) Q (F0 m pc ls1 [.int res.1])) (ag_12 : Int32 → PF → PG → PR) (hag_12 : ∀ (x2 : Int32) (F : PF) (G : PG), ag_12 x2 F G = some res → ∀ (b : Nat) (H : Heap) (locs : List Loc) (ls : Array Slot), cMW s A v a b K0 F G H locs → lv_has ls 5 [(0, .ref (a 206)), (2, .int x2)] → W p l e R s m args below meth c H locs (xn F - xn K0) (2 * (xn F - xn K0)) Q (F0 m 12 ls [])) (hagn_12 : ∀ (x2 : Int32) (F : PF) (G : PG), ag_12 x2 F G = some res → xn F ≤ xn res.2.1) (x2 : Int32) (x3 : Int32) (F : PF) (G : PG) (hm : cb_X6_valueFrom_54 fu ag_12 x2 x3 F G = some res) {b : Nat} {H : Heap} {locs : List Loc} (hw : cMW s A v a b K0 F G H locs) {ls : Array Slot} (hl : lv_has ls 5 [(0, .ref (a 206)), (2, .int x2), (3, .int x3)]) : W p l e R s m args below meth c H locs (xn F - xn K0) (2 * (xn F - xn K0)) Q (F0 m 54 ls []) := by
  have hx := C.1
  have hb := C.2.1
  unfold cb_X6_valueFrom_54 at hm
  refine lv_iload_n hx hb dX6_valueFrom_54 rfl (lv_at hl 2 rfl) ?_
  refine lv_bipush (v := 84) hx hb dX6_valueFrom_55 (by decide) ?_
  refine lv_icmp_lt (tgt := 72) hx hb dX6_valueFrom_57 (by decide) (fun c_1 => ?_) (fun c_1 => ?_)
  · have hm := (if_pos c_1).symm.trans hm
    exact cw_X6_valueFrom_72 fu C hret ag_12 hag_12 hagn_12 x2 x3 F G hm hw (lv_sub hl [0, 1, 2] rfl)
  · have hm := (if_neg c_1).symm.trans hm
    exact cw_X6_valueFrom_60 fu C hret ag_12 hag_12 hagn_12 x2 x3 F G hm hw (lv_sub hl [0, 1, 2] rfl)
theorem cn_X6_valueFrom_51 (fu : Nat) {res : Int32 × PF × PG} (ag_12 : Int32 → PF → PG → PR) (hagn_12 : ∀ (x2 : Int32) (F : PF) (G : PG), ag_12 x2 F G = some res → xn F ≤ xn res.2.1) (x2 : Int32) (F : PF) (G : PG) (hm : cb_X6_valueFrom_51 fu ag_12 x2 F G = some res) : xn F ≤ xn res.2.1 := by
  unfold cb_X6_valueFrom_51 at hm
  exact (cn_X6_valueFrom_113 fu ag_12 hagn_12 x2 F G hm)
theorem cw_X6_valueFrom_51 (fu : Nat) {res : Int32 × PF × PG} (C : cMC p R s m args c A v RX6 cX6_valueFrom 5 4 135 (xn res.2.1 - xn K0)) (hret : ∀ (b1 : Nat) (H1 : Heap) (locs1 : List Loc) (ls1 : Array Slot) (pc : Nat), cMW s A v a b1 K0 res.2.1 res.2.2 H1 locs1 → narrow .int (.int res.1) = .int res.1 → decode cX6_valueFrom pc = .ok (.ireturn, 1) → W p l e R s m args below meth c H1 locs1 (xn res.2.1 - xn K0) (2 * (xn res.2.1 - xn K0)) Q (F0 m pc ls1 [.int res.1])) (ag_12 : Int32 → PF → PG → PR) (hag_12 : ∀ (x2 : Int32) (F : PF) (G : PG), ag_12 x2 F G = some res → ∀ (b : Nat) (H : Heap) (locs : List Loc) (ls : Array Slot), cMW s A v a b K0 F G H locs → lv_has ls 5 [(0, .ref (a 206)), (2, .int x2)] → W p l e R s m args below meth c H locs (xn F - xn K0) (2 * (xn F - xn K0)) Q (F0 m 12 ls [])) (hagn_12 : ∀ (x2 : Int32) (F : PF) (G : PG), ag_12 x2 F G = some res → xn F ≤ xn res.2.1) (x2 : Int32) (F : PF) (G : PG) (hm : cb_X6_valueFrom_51 fu ag_12 x2 F G = some res) {b : Nat} {H : Heap} {locs : List Loc} (hw : cMW s A v a b K0 F G H locs) {ls : Array Slot} (hl : lv_has ls 5 [(0, .ref (a 206)), (2, .int x2)]) : W p l e R s m args below meth c H locs (xn F - xn K0) (2 * (xn F - xn K0)) Q (F0 m 51 ls []) := by
  have hx := C.1
  have hb := C.2.1
  unfold cb_X6_valueFrom_51 at hm
  refine lv_goto (tgt := 113) hx hb dX6_valueFrom_51 (by decide) ?_
  exact cw_X6_valueFrom_113 fu C hret ag_12 hag_12 hagn_12 x2 F G hm hw (lv_sub hl [0, 1] rfl)
theorem cn_X6_valueFrom_48 (fu : Nat) {res : Int32 × PF × PG} (ag_12 : Int32 → PF → PG → PR) (hagn_12 : ∀ (x2 : Int32) (F : PF) (G : PG), ag_12 x2 F G = some res → xn F ≤ xn res.2.1) (x2 : Int32) (z0 : Int32) (F : PF) (G : PG) (hm : cb_X6_valueFrom_48 fu ag_12 x2 z0 F G = some res) : xn F ≤ xn res.2.1 := by
  unfold cb_X6_valueFrom_48 at hm
  obtain ⟨⟨r1, F1, G1⟩, hc, hm⟩ := bind_elim hm
  exact Nat.le_trans (cn_X6_push fu z0 F G _ hc) (cn_X6_valueFrom_51 fu ag_12 hagn_12 x2 F1 G1 hm)
theorem cw_X6_valueFrom_48 (fu : Nat) {res : Int32 × PF × PG} (C : cMC p R s m args c A v RX6 cX6_valueFrom 5 4 135 (xn res.2.1 - xn K0)) (hret : ∀ (b1 : Nat) (H1 : Heap) (locs1 : List Loc) (ls1 : Array Slot) (pc : Nat), cMW s A v a b1 K0 res.2.1 res.2.2 H1 locs1 → narrow .int (.int res.1) = .int res.1 → decode cX6_valueFrom pc = .ok (.ireturn, 1) → W p l e R s m args below meth c H1 locs1 (xn res.2.1 - xn K0) (2 * (xn res.2.1 - xn K0)) Q (F0 m pc ls1 [.int res.1])) (ag_12 : Int32 → PF → PG → PR) (hag_12 : ∀ (x2 : Int32) (F : PF) (G : PG), ag_12 x2 F G = some res → ∀ (b : Nat) (H : Heap) (locs : List Loc) (ls : Array Slot), cMW s A v a b K0 F G H locs → lv_has ls 5 [(0, .ref (a 206)), (2, .int x2)] → W p l e R s m args below meth c H locs (xn F - xn K0) (2 * (xn F - xn K0)) Q (F0 m 12 ls [])) (hagn_12 : ∀ (x2 : Int32) (F : PF) (G : PG), ag_12 x2 F G = some res → xn F ≤ xn res.2.1) (x2 : Int32) (z0 : Int32) (F : PF) (G : PG) (hm : cb_X6_valueFrom_48 fu ag_12 x2 z0 F G = some res) {b : Nat} {H : Heap} {locs : List Loc} (hw : cMW s A v a b K0 F G H locs) {ls : Array Slot} (hl : lv_has ls 5 [(0, .ref (a 206)), (2, .int x2)]) : W p l e R s m args below meth c H locs (xn F - xn K0) (2 * (xn F - xn K0)) Q (F0 m 48 ls [.int z0, .ref (a 206)]) := by
  have hx := C.1
  have hb := C.2.1
  unfold cb_X6_valueFrom_48 at hm
  obtain ⟨⟨r1, F1, G1⟩, hc, hm⟩ := bind_elim hm
  refine ccallV (n := 1) (As := [.int z0]) (rest := []) C hw (ck_X6_push l v a _ _ fu z0 F G r1 F1 G1 hc) (cn_X6_push fu z0 F G _ hc) (Nat.sub_le_sub_right (cn_X6_valueFrom_51 fu ag_12 hagn_12 x2 F1 G1 hm) _) (crecv_X6 C hw) cm_533 cm_534 cm_535 cm_21 cm_536 (by decide +kernel) rfl (by omega) (by omega) hl.1 rfl (Nat.le_of_ble_eq_true rfl) dX6_valueFrom_48 (fun b H locs hw => ?_)
  exact cw_X6_valueFrom_51 fu C hret ag_12 hag_12 hagn_12 x2 F1 G1 hm hw (lv_sub hl [0, 1] rfl)
theorem cn_X6_valueFrom_43 (fu : Nat) {res : Int32 × PF × PG} (ag_12 : Int32 → PF → PG → PR) (hagn_12 : ∀ (x2 : Int32) (F : PF) (G : PG), ag_12 x2 F G = some res → xn F ≤ xn res.2.1) (x2 : Int32) (F : PF) (G : PG) (hm : cb_X6_valueFrom_43 fu ag_12 x2 F G = some res) : xn F ≤ xn res.2.1 := by
  unfold cb_X6_valueFrom_43 at hm
  obtain ⟨⟨r1, F1, G1⟩, hc, hm⟩ := bind_elim hm
  exact Nat.le_trans (cn_X6_next fu F G _ hc) (cn_X6_valueFrom_48 fu ag_12 hagn_12 x2 r1 F1 G1 hm)
theorem cw_X6_valueFrom_43 (fu : Nat) {res : Int32 × PF × PG} (C : cMC p R s m args c A v RX6 cX6_valueFrom 5 4 135 (xn res.2.1 - xn K0)) (hret : ∀ (b1 : Nat) (H1 : Heap) (locs1 : List Loc) (ls1 : Array Slot) (pc : Nat), cMW s A v a b1 K0 res.2.1 res.2.2 H1 locs1 → narrow .int (.int res.1) = .int res.1 → decode cX6_valueFrom pc = .ok (.ireturn, 1) → W p l e R s m args below meth c H1 locs1 (xn res.2.1 - xn K0) (2 * (xn res.2.1 - xn K0)) Q (F0 m pc ls1 [.int res.1])) (ag_12 : Int32 → PF → PG → PR) (hag_12 : ∀ (x2 : Int32) (F : PF) (G : PG), ag_12 x2 F G = some res → ∀ (b : Nat) (H : Heap) (locs : List Loc) (ls : Array Slot), cMW s A v a b K0 F G H locs → lv_has ls 5 [(0, .ref (a 206)), (2, .int x2)] → W p l e R s m args below meth c H locs (xn F - xn K0) (2 * (xn F - xn K0)) Q (F0 m 12 ls [])) (hagn_12 : ∀ (x2 : Int32) (F : PF) (G : PG), ag_12 x2 F G = some res → xn F ≤ xn res.2.1) (x2 : Int32) (F : PF) (G : PG) (hm : cb_X6_valueFrom_43 fu ag_12 x2 F G = some res) {b : Nat} {H : Heap} {locs : List Loc} (hw : cMW s A v a b K0 F G H locs) {ls : Array Slot} (hl : lv_has ls 5 [(0, .ref (a 206)), (2, .int x2)]) : W p l e R s m args below meth c H locs (xn F - xn K0) (2 * (xn F - xn K0)) Q (F0 m 43 ls []) := by
  have hx := C.1
  have hb := C.2.1
  unfold cb_X6_valueFrom_43 at hm
  refine lv_aload_n hx hb dX6_valueFrom_43 rfl (lv_at hl 0 rfl) ?_
  refine lv_aload_n hx hb dX6_valueFrom_44 rfl (lv_at hl 0 rfl) ?_
  obtain ⟨⟨r1, F1, G1⟩, hc, hm⟩ := bind_elim hm
  refine ccallI (n := 0) (As := []) (rest := [.ref (a 206)]) C hw (ck_X6_next l v a _ _ fu F G r1 F1 G1 hc) (cn_X6_next fu F G _ hc) (Nat.sub_le_sub_right (cn_X6_valueFrom_48 fu ag_12 hagn_12 x2 r1 F1 G1 hm) _) (crecv_X6 C hw) cm_529 cm_530 cm_531 cm_21 cm_532 (by decide +kernel) rfl (by omega) (by omega) hl.1 rfl (Nat.le_of_ble_eq_true rfl) dX6_valueFrom_45 (fun b H locs hw => ?_)
  exact cw_X6_valueFrom_48 fu C hret ag_12 hag_12 hagn_12 x2 r1 F1 G1 hm hw (lv_sub hl [0, 1] rfl)
theorem cn_X6_valueFrom_36 (fu : Nat) {res : Int32 × PF × PG} (ag_12 : Int32 → PF → PG → PR) (hagn_12 : ∀ (x2 : Int32) (F : PF) (G : PG), ag_12 x2 F G = some res → xn F ≤ xn res.2.1) (x2 : Int32) (z0 : Int32) (F : PF) (G : PG) (hm : cb_X6_valueFrom_36 fu ag_12 x2 z0 F G = some res) : xn F ≤ xn res.2.1 := by
  unfold cb_X6_valueFrom_36 at hm
  by_cases c_1 : z0 = (66 : Int32)
  · have hm := (if_pos c_1).symm.trans hm
    exact (cn_X6_valueFrom_43 fu ag_12 hagn_12 x2 F G hm)
  · have hm := (if_neg c_1).symm.trans hm
    exact (cn_X6_valueFrom_54 fu ag_12 hagn_12 x2 z0 F G hm)
theorem cw_X6_valueFrom_36 (fu : Nat) {res : Int32 × PF × PG} (C : cMC p R s m args c A v RX6 cX6_valueFrom 5 4 135 (xn res.2.1 - xn K0)) (hret : ∀ (b1 : Nat) (H1 : Heap) (locs1 : List Loc) (ls1 : Array Slot) (pc : Nat), cMW s A v a b1 K0 res.2.1 res.2.2 H1 locs1 → narrow .int (.int res.1) = .int res.1 → decode cX6_valueFrom pc = .ok (.ireturn, 1) → W p l e R s m args below meth c H1 locs1 (xn res.2.1 - xn K0) (2 * (xn res.2.1 - xn K0)) Q (F0 m pc ls1 [.int res.1])) (ag_12 : Int32 → PF → PG → PR) (hag_12 : ∀ (x2 : Int32) (F : PF) (G : PG), ag_12 x2 F G = some res → ∀ (b : Nat) (H : Heap) (locs : List Loc) (ls : Array Slot), cMW s A v a b K0 F G H locs → lv_has ls 5 [(0, .ref (a 206)), (2, .int x2)] → W p l e R s m args below meth c H locs (xn F - xn K0) (2 * (xn F - xn K0)) Q (F0 m 12 ls [])) (hagn_12 : ∀ (x2 : Int32) (F : PF) (G : PG), ag_12 x2 F G = some res → xn F ≤ xn res.2.1) (x2 : Int32) (z0 : Int32) (F : PF) (G : PG) (hm : cb_X6_valueFrom_36 fu ag_12 x2 z0 F G = some res) {b : Nat} {H : Heap} {locs : List Loc} (hw : cMW s A v a b K0 F G H locs) {ls : Array Slot} (hl : lv_has ls 5 [(0, .ref (a 206)), (2, .int x2)]) : W p l e R s m args below meth c H locs (xn F - xn K0) (2 * (xn F - xn K0)) Q (F0 m 36 ls [.int z0]) := by
  have hx := C.1
  have hb := C.2.1
  unfold cb_X6_valueFrom_36 at hm
  refine lv_istore_n (lv' := [(3, .int z0), (0, .ref (a 206)), (2, .int x2)]) hx hb dX6_valueFrom_36 rfl hl (by decide) rfl (fun ls hl => ?_)
  refine lv_iload_n hx hb dX6_valueFrom_37 rfl (lv_at hl 0 rfl) ?_
  refine lv_bipush (v := 66) hx hb dX6_valueFrom_38 (by decide) ?_
  refine lv_icmp_ne (tgt := 54) hx hb dX6_valueFrom_40 (by decide) (fun c_1 => ?_) (fun c_1 => ?_)
  · have hm := (if_neg c_1).symm.trans hm
    exact cw_X6_valueFrom_54 fu C hret ag_12 hag_12 hagn_12 x2 z0 F G hm hw (lv_sub hl [1, 2, 0] rfl)
  · have hm := (if_pos c_1).symm.trans hm
    exact cw_X6_valueFrom_43 fu C hret ag_12 hag_12 hagn_12 x2 F G hm hw (lv_sub hl [1, 2] rfl)
theorem cn_X6_valueFrom_32 (fu : Nat) {res : Int32 × PF × PG} (ag_12 : Int32 → PF → PG → PR) (hagn_12 : ∀ (x2 : Int32) (F : PF) (G : PG), ag_12 x2 F G = some res → xn F ≤ xn res.2.1) (x2 : Int32) (F : PF) (G : PG) (hm : cb_X6_valueFrom_32 fu ag_12 x2 F G = some res) : xn F ≤ xn res.2.1 := by
  unfold cb_X6_valueFrom_32 at hm
  obtain ⟨⟨r1, F1, G1⟩, hc, hm⟩ := bind_elim hm
  exact Nat.le_trans (cn_X6_next fu F G _ hc) (cn_X6_valueFrom_36 fu ag_12 hagn_12 x2 r1 F1 G1 hm)
theorem cw_X6_valueFrom_32 (fu : Nat) {res : Int32 × PF × PG} (C : cMC p R s m args c A v RX6 cX6_valueFrom 5 4 135 (xn res.2.1 - xn K0)) (hret : ∀ (b1 : Nat) (H1 : Heap) (locs1 : List Loc) (ls1 : Array Slot) (pc : Nat), cMW s A v a b1 K0 res.2.1 res.2.2 H1 locs1 → narrow .int (.int res.1) = .int res.1 → decode cX6_valueFrom pc = .ok (.ireturn, 1) → W p l e R s m args below meth c H1 locs1 (xn res.2.1 - xn K0) (2 * (xn res.2.1 - xn K0)) Q (F0 m pc ls1 [.int res.1])) (ag_12 : Int32 → PF → PG → PR) (hag_12 : ∀ (x2 : Int32) (F : PF) (G : PG), ag_12 x2 F G = some res → ∀ (b : Nat) (H : Heap) (locs : List Loc) (ls : Array Slot), cMW s A v a b K0 F G H locs → lv_has ls 5 [(0, .ref (a 206)), (2, .int x2)] → W p l e R s m args below meth c H locs (xn F - xn K0) (2 * (xn F - xn K0)) Q (F0 m 12 ls [])) (hagn_12 : ∀ (x2 : Int32) (F : PF) (G : PG), ag_12 x2 F G = some res → xn F ≤ xn res.2.1) (x2 : Int32) (F : PF) (G : PG) (hm : cb_X6_valueFrom_32 fu ag_12 x2 F G = some res) {b : Nat} {H : Heap} {locs : List Loc} (hw : cMW s A v a b K0 F G H locs) {ls : Array Slot} (hl : lv_has ls 5 [(0, .ref (a 206)), (2, .int x2)]) : W p l e R s m args below meth c H locs (xn F - xn K0) (2 * (xn F - xn K0)) Q (F0 m 32 ls []) := by
  have hx := C.1
  have hb := C.2.1
  unfold cb_X6_valueFrom_32 at hm
  refine lv_aload_n hx hb dX6_valueFrom_32 rfl (lv_at hl 0 rfl) ?_
  obtain ⟨⟨r1, F1, G1⟩, hc, hm⟩ := bind_elim hm
  refine ccallI (n := 0) (As := []) (rest := []) C hw (ck_X6_next l v a _ _ fu F G r1 F1 G1 hc) (cn_X6_next fu F G _ hc) (Nat.sub_le_sub_right (cn_X6_valueFrom_36 fu ag_12 hagn_12 x2 r1 F1 G1 hm) _) (crecv_X6 C hw) cm_529 cm_530 cm_531 cm_21 cm_532 (by decide +kernel) rfl (by omega) (by omega) hl.1 rfl (Nat.le_of_ble_eq_true rfl) dX6_valueFrom_33 (fun b H locs hw => ?_)
  exact cw_X6_valueFrom_36 fu C hret ag_12 hag_12 hagn_12 x2 r1 F1 G1 hm hw (lv_sub hl [0, 1] rfl)
theorem cn_X6_valueFrom_18 (fu : Nat) {res : Int32 × PF × PG} (ag_12 : Int32 → PF → PG → PR) (hagn_12 : ∀ (x2 : Int32) (F : PF) (G : PG), ag_12 x2 F G = some res → xn F ≤ xn res.2.1) (x2 : Int32) (F : PF) (G : PG) (hm : cb_X6_valueFrom_18 fu ag_12 x2 F G = some res) : xn F ≤ xn res.2.1 := by
  unfold cb_X6_valueFrom_18 at hm
  by_cases c_1 : (F 6) ≤ (F 57)
  · have hm := (if_pos c_1).symm.trans hm
    exact (cn_X6_valueFrom_119 fu F G hm)
  · have hm := (if_neg c_1).symm.trans hm
    exact (cn_X6_valueFrom_32 fu ag_12 hagn_12 x2 F G hm)
theorem cw_X6_valueFrom_18 (fu : Nat) {res : Int32 × PF × PG} (C : cMC p R s m args c A v RX6 cX6_valueFrom 5 4 135 (xn res.2.1 - xn K0)) (hret : ∀ (b1 : Nat) (H1 : Heap) (locs1 : List Loc) (ls1 : Array Slot) (pc : Nat), cMW s A v a b1 K0 res.2.1 res.2.2 H1 locs1 → narrow .int (.int res.1) = .int res.1 → decode cX6_valueFrom pc = .ok (.ireturn, 1) → W p l e R s m args below meth c H1 locs1 (xn res.2.1 - xn K0) (2 * (xn res.2.1 - xn K0)) Q (F0 m pc ls1 [.int res.1])) (ag_12 : Int32 → PF → PG → PR) (hag_12 : ∀ (x2 : Int32) (F : PF) (G : PG), ag_12 x2 F G = some res → ∀ (b : Nat) (H : Heap) (locs : List Loc) (ls : Array Slot), cMW s A v a b K0 F G H locs → lv_has ls 5 [(0, .ref (a 206)), (2, .int x2)] → W p l e R s m args below meth c H locs (xn F - xn K0) (2 * (xn F - xn K0)) Q (F0 m 12 ls [])) (hagn_12 : ∀ (x2 : Int32) (F : PF) (G : PG), ag_12 x2 F G = some res → xn F ≤ xn res.2.1) (x2 : Int32) (F : PF) (G : PG) (hm : cb_X6_valueFrom_18 fu ag_12 x2 F G = some res) {b : Nat} {H : Heap} {locs : List Loc} (hw : cMW s A v a b K0 F G H locs) {ls : Array Slot} (hl : lv_has ls 5 [(0, .ref (a 206)), (2, .int x2)]) : W p l e R s m args below meth c H locs (xn F - xn K0) (2 * (xn F - xn K0)) Q (F0 m 18 ls []) := by
  have hx := C.1
  have hb := C.2.1
  unfold cb_X6_valueFrom_18 at hm
  refine lv_aload_n hx hb dX6_valueFrom_18 rfl (lv_at hl 0 rfl) ?_
  refine cg_X6_70 C hw dX6_valueFrom_19 ?_
  refine lv_aload_n hx hb dX6_valueFrom_22 rfl (lv_at hl 0 rfl) ?_
  refine cg_X6_18 C hw dX6_valueFrom_23 ?_
  refine cg_X6_74 C hw dX6_valueFrom_26 ?_
  refine lv_icmp_ge (tgt := 119) hx hb dX6_valueFrom_29 (by decide) (fun c_1 => ?_) (fun c_1 => ?_)
  · have hm := (if_pos c_1).symm.trans hm
    exact cw_X6_valueFrom_119 fu C hret F G hm hw (lv_sub hl [0] rfl)
  · have hm := (if_neg c_1).symm.trans hm
    exact cw_X6_valueFrom_32 fu C hret ag_12 hag_12 hagn_12 x2 F G hm hw (lv_sub hl [0, 1] rfl)
theorem cn_X6_valueFrom_12 (fu : Nat) {res : Int32 × PF × PG} (ag_12 : Int32 → PF → PG → PR) (hagn_12 : ∀ (x2 : Int32) (F : PF) (G : PG), ag_12 x2 F G = some res → xn F ≤ xn res.2.1) (x2 : Int32) (F : PF) (G : PG) (hm : cb_X6_valueFrom_12 fu ag_12 x2 F G = some res) : xn F ≤ xn res.2.1 := by
  unfold cb_X6_valueFrom_12 at hm
  by_cases c_1 : (100000000 : Int32) ≤ x2
  · have hm := (if_pos c_1).symm.trans hm
    exact (cn_X6_valueFrom_119 fu F G hm)
  · have hm := (if_neg c_1).symm.trans hm
    exact (cn_X6_valueFrom_18 fu ag_12 hagn_12 x2 F G hm)
theorem cw_X6_valueFrom_12 (fu : Nat) {res : Int32 × PF × PG} (C : cMC p R s m args c A v RX6 cX6_valueFrom 5 4 135 (xn res.2.1 - xn K0)) (hret : ∀ (b1 : Nat) (H1 : Heap) (locs1 : List Loc) (ls1 : Array Slot) (pc : Nat), cMW s A v a b1 K0 res.2.1 res.2.2 H1 locs1 → narrow .int (.int res.1) = .int res.1 → decode cX6_valueFrom pc = .ok (.ireturn, 1) → W p l e R s m args below meth c H1 locs1 (xn res.2.1 - xn K0) (2 * (xn res.2.1 - xn K0)) Q (F0 m pc ls1 [.int res.1])) (ag_12 : Int32 → PF → PG → PR) (hag_12 : ∀ (x2 : Int32) (F : PF) (G : PG), ag_12 x2 F G = some res → ∀ (b : Nat) (H : Heap) (locs : List Loc) (ls : Array Slot), cMW s A v a b K0 F G H locs → lv_has ls 5 [(0, .ref (a 206)), (2, .int x2)] → W p l e R s m args below meth c H locs (xn F - xn K0) (2 * (xn F - xn K0)) Q (F0 m 12 ls [])) (hagn_12 : ∀ (x2 : Int32) (F : PF) (G : PG), ag_12 x2 F G = some res → xn F ≤ xn res.2.1) (x2 : Int32) (F : PF) (G : PG) (hm : cb_X6_valueFrom_12 fu ag_12 x2 F G = some res) {b : Nat} {H : Heap} {locs : List Loc} (hw : cMW s A v a b K0 F G H locs) {ls : Array Slot} (hl : lv_has ls 5 [(0, .ref (a 206)), (2, .int x2)]) : W p l e R s m args below meth c H locs (xn F - xn K0) (2 * (xn F - xn K0)) Q (F0 m 12 ls []) := by
  have hx := C.1
  have hb := C.2.1
  unfold cb_X6_valueFrom_12 at hm
  refine lv_iload_n hx hb dX6_valueFrom_12 rfl (lv_at hl 1 rfl) ?_
  refine lv_ldc (v := 100000000) hx hb C.2.2.2.1 (C.2.2.2.2.1 _ cm_526) dX6_valueFrom_13 ?_
  refine lv_icmp_ge (tgt := 119) hx hb dX6_valueFrom_15 (by decide) (fun c_1 => ?_) (fun c_1 => ?_)
  · have hm := (if_pos c_1).symm.trans hm
    exact cw_X6_valueFrom_119 fu C hret F G hm hw (lv_sub hl [0] rfl)
  · have hm := (if_neg c_1).symm.trans hm
    exact cw_X6_valueFrom_18 fu C hret ag_12 hag_12 hagn_12 x2 F G hm hw (lv_sub hl [0, 1] rfl)
theorem cnl_X6_valueFrom_12 (fu : Nat) {res : Int32 × PF × PG} : ∀ (n : Nat) (x2 : Int32) (F : PF) (G : PG) (hm : cl_X6_valueFrom_12 fu n x2 F G = some res), xn F ≤ xn res.2.1 := by
  intro n
  induction n with
  | zero =>
    intro x2 F G hm
    exact no_elim (show (none : PR) = some res from hm)
  | succ n ih =>
    intro x2 F G hm
    exact cn_X6_valueFrom_12 fu (cl_X6_valueFrom_12 fu n) (fun x2 F G hm => ih x2 F G hm) x2 F G hm
theorem cwl_X6_valueFrom_12 (fu : Nat) {res : Int32 × PF × PG} (C : cMC p R s m args c A v RX6 cX6_valueFrom 5 4 135 (xn res.2.1 - xn K0)) (hret : ∀ (b1 : Nat) (H1 : Heap) (locs1 : List Loc) (ls1 : Array Slot) (pc : Nat), cMW s A v a b1 K0 res.2.1 res.2.2 H1 locs1 → narrow .int (.int res.1) = .int res.1 → decode cX6_valueFrom pc = .ok (.ireturn, 1) → W p l e R s m args below meth c H1 locs1 (xn res.2.1 - xn K0) (2 * (xn res.2.1 - xn K0)) Q (F0 m pc ls1 [.int res.1])) : ∀ (n : Nat) (x2 : Int32) (F : PF) (G : PG) (hm : cl_X6_valueFrom_12 fu n x2 F G = some res) {b : Nat} {H : Heap} {locs : List Loc} (hw : cMW s A v a b K0 F G H locs) {ls : Array Slot} (hl : lv_has ls 5 [(0, .ref (a 206)), (2, .int x2)]), W p l e R s m args below meth c H locs (xn F - xn K0) (2 * (xn F - xn K0)) Q (F0 m 12 ls []) := by
  intro n
  induction n with
  | zero =>
    intro x2 F G hm
    exact no_elim (show (none : PR) = some res from hm)
  | succ n ih =>
    intro x2 F G hm b H locs hw ls hl
    exact cw_X6_valueFrom_12 fu C hret (cl_X6_valueFrom_12 fu n) (fun x2 F G hm b H locs ls hw hl => ih x2 F G hm hw hl) (fun x2 F G hm => cnl_X6_valueFrom_12 fu n x2 F G hm) x2 F G hm hw hl
theorem cn_X6_valueFrom_10 (fu : Nat) {res : Int32 × PF × PG} (F : PF) (G : PG) (hm : cb_X6_valueFrom_10 fu F G = some res) : xn F ≤ xn res.2.1 := by
  unfold cb_X6_valueFrom_10 at hm
  exact (cnl_X6_valueFrom_12 fu fu 0 F G hm)
theorem cw_X6_valueFrom_10 (fu : Nat) {res : Int32 × PF × PG} (C : cMC p R s m args c A v RX6 cX6_valueFrom 5 4 135 (xn res.2.1 - xn K0)) (hret : ∀ (b1 : Nat) (H1 : Heap) (locs1 : List Loc) (ls1 : Array Slot) (pc : Nat), cMW s A v a b1 K0 res.2.1 res.2.2 H1 locs1 → narrow .int (.int res.1) = .int res.1 → decode cX6_valueFrom pc = .ok (.ireturn, 1) → W p l e R s m args below meth c H1 locs1 (xn res.2.1 - xn K0) (2 * (xn res.2.1 - xn K0)) Q (F0 m pc ls1 [.int res.1])) (F : PF) (G : PG) (hm : cb_X6_valueFrom_10 fu F G = some res) {b : Nat} {H : Heap} {locs : List Loc} (hw : cMW s A v a b K0 F G H locs) {ls : Array Slot} (hl : lv_has ls 5 [(0, .ref (a 206))]) : W p l e R s m args below meth c H locs (xn F - xn K0) (2 * (xn F - xn K0)) Q (F0 m 10 ls []) := by
  have hx := C.1
  have hb := C.2.1
  unfold cb_X6_valueFrom_10 at hm
  refine lv_iconst (v := 0) hx hb dX6_valueFrom_10 (by decide) ?_
  refine lv_istore_n (lv' := [(2, .int 0), (0, .ref (a 206))]) hx hb dX6_valueFrom_11 rfl hl (by decide) rfl (fun ls hl => ?_)
  exact cwl_X6_valueFrom_12 fu C hret fu 0 F G hm hw (lv_sub hl [1, 0] rfl)
theorem cn_X6_valueFrom_5 (fu : Nat) {res : Int32 × PF × PG} (F : PF) (G : PG) (hm : cb_X6_valueFrom_5 fu F G = some res) : xn F ≤ xn res.2.1 := by
  unfold cb_X6_valueFrom_5 at hm
  exact Nat.le_trans (Nat.le_of_eq (xn_fup (by decide)).symm) (cn_X6_valueFrom_10 fu (fup F 56 (0 : Int32)) G hm)
theorem cw_X6_valueFrom_5 (fu : Nat) {res : Int32 × PF × PG} (C : cMC p R s m args c A v RX6 cX6_valueFrom 5 4 135 (xn res.2.1 - xn K0)) (hret : ∀ (b1 : Nat) (H1 : Heap) (locs1 : List Loc) (ls1 : Array Slot) (pc : Nat), cMW s A v a b1 K0 res.2.1 res.2.2 H1 locs1 → narrow .int (.int res.1) = .int res.1 → decode cX6_valueFrom pc = .ok (.ireturn, 1) → W p l e R s m args below meth c H1 locs1 (xn res.2.1 - xn K0) (2 * (xn res.2.1 - xn K0)) Q (F0 m pc ls1 [.int res.1])) (F : PF) (G : PG) (hm : cb_X6_valueFrom_5 fu F G = some res) {b : Nat} {H : Heap} {locs : List Loc} (hw : cMW s A v a b K0 F G H locs) {ls : Array Slot} (hl : lv_has ls 5 [(0, .ref (a 206))]) : W p l e R s m args below meth c H locs (xn F - xn K0) (2 * (xn F - xn K0)) Q (F0 m 5 ls []) := by
  have hx := C.1
  have hb := C.2.1
  unfold cb_X6_valueFrom_5 at hm
  refine lv_aload_n hx hb dX6_valueFrom_5 rfl (lv_at hl 0 rfl) ?_
  refine lv_iconst (v := 0) hx hb dX6_valueFrom_6 (by decide) ?_
  refine cp_X6_49 C hw dX6_valueFrom_7 (fun H locs hw => ?_)
  exact cw_X6_valueFrom_10 fu C hret (fup F 56 (0 : Int32)) G hm hw (lv_sub hl [0] rfl)
theorem cn_X6_valueFrom_0 (fu : Nat) {res : Int32 × PF × PG} (x1 : Int32) (F : PF) (G : PG) (hm : cb_X6_valueFrom_0 fu x1 F G = some res) : xn F ≤ xn res.2.1 := by
  unfold cb_X6_valueFrom_0 at hm
  exact Nat.le_trans (Nat.le_of_eq (xn_fup (by decide)).symm) (cn_X6_valueFrom_5 fu (fup F 57 x1) G hm)
theorem cw_X6_valueFrom_0 (fu : Nat) {res : Int32 × PF × PG} (C : cMC p R s m args c A v RX6 cX6_valueFrom 5 4 135 (xn res.2.1 - xn K0)) (hret : ∀ (b1 : Nat) (H1 : Heap) (locs1 : List Loc) (ls1 : Array Slot) (pc : Nat), cMW s A v a b1 K0 res.2.1 res.2.2 H1 locs1 → narrow .int (.int res.1) = .int res.1 → decode cX6_valueFrom pc = .ok (.ireturn, 1) → W p l e R s m args below meth c H1 locs1 (xn res.2.1 - xn K0) (2 * (xn res.2.1 - xn K0)) Q (F0 m pc ls1 [.int res.1])) (x1 : Int32) (F : PF) (G : PG) (hm : cb_X6_valueFrom_0 fu x1 F G = some res) {b : Nat} {H : Heap} {locs : List Loc} (hw : cMW s A v a b K0 F G H locs) {ls : Array Slot} (hl : lv_has ls 5 [(0, .ref (a 206)), (1, .int x1)]) : W p l e R s m args below meth c H locs (xn F - xn K0) (2 * (xn F - xn K0)) Q (F0 m 0 ls []) := by
  have hx := C.1
  have hb := C.2.1
  unfold cb_X6_valueFrom_0 at hm
  refine lv_aload_n hx hb dX6_valueFrom_0 rfl (lv_at hl 0 rfl) ?_
  refine lv_iload_n hx hb dX6_valueFrom_1 rfl (lv_at hl 1 rfl) ?_
  refine cp_X6_70 C hw dX6_valueFrom_2 (fun H locs hw => ?_)
  exact cw_X6_valueFrom_5 fu C hret (fup F 57 x1) G hm hw (lv_sub hl [0] rfl)
theorem cn_X6_valueFrom (fu : Nat) (x1 : Int32) (F : PF) (G : PG) (q : Int32 × PF × PG) (hm : cf_X6_valueFrom fu x1 F G = some q) : xn F ≤ xn q.2.1 := cn_X6_valueFrom_0 fu x1 F G hm
theorem ck_X6_valueFrom (l : Launch) (v : EV) (a : Nat → Nat) (b sz : Nat) (fu : Nat) (x1 : Int32) (F : PF) (G : PG) (r : Int32) (F1 : PF) (G1 : PG) (hm : cf_X6_valueFrom fu x1 F G = some (r, F1, G1)) : cMI l yX6_valueFrom cX6_valueFrom 5 (some .int) 4 135 v a b sz [.ref (a 206), .int x1] F G r F1 G1 := cMI.of (ty := .int) (by decide) rfl (Nat.le_of_ble_eq_true rfl) (fun p e R s m args below meth c Q A H locs ls C hw hl hret => cw_X6_valueFrom_0 fu (res := (r, F1, G1)) C hret x1 F G hm hw hl)
def cb_X5_endsConstant_24 (fu : Nat) (z0 : Int32) (F : PF) (G : PG) : PR := if b01 z0 = true then (some (z0, F, G)) else none
def cb_X5_endsConstant_23 (fu : Nat) (F : PF) (G : PG) : PR := cb_X5_endsConstant_24 fu 0 F G
def cb_X5_endsConstant_19 (fu : Nat) (F : PF) (G : PG) : PR := cb_X5_endsConstant_24 fu 1 F G
def cb_X5_endsConstant_12 (fu : Nat) (F : PF) (G : PG) : PR := if (F 47) = (0 : Int32) then cb_X5_endsConstant_23 fu F G else cb_X5_endsConstant_19 fu F G
def cb_X5_endsConstant_5 (fu : Nat) (F : PF) (G : PG) : PR := if (F 45) = (0 : Int32) then cb_X5_endsConstant_23 fu F G else cb_X5_endsConstant_12 fu F G
def cb_X5_endsConstant_0 (fu : Nat) (F : PF) (G : PG) : PR := cb_X5_endsConstant_5 fu (fup F 46 (0 : Int32)) G
def cf_X5_endsConstant (fu : Nat) (F : PF) (G : PG) : PR := cb_X5_endsConstant_0 fu F G
theorem cn_X5_endsConstant_24 (fu : Nat) {res : Int32 × PF × PG} (z0 : Int32) (F : PF) (G : PG) (hm : cb_X5_endsConstant_24 fu z0 F G = some res) : xn F ≤ xn res.2.1 := by
  unfold cb_X5_endsConstant_24 at hm
  have hm := (b01_elim hm).2
  obtain rfl := Option.some.inj hm
  exact Nat.le_refl _
theorem cw_X5_endsConstant_24 (fu : Nat) {res : Int32 × PF × PG} (C : cMC p R s m args c A v RX5 cX5_endsConstant 1 0 0 (xn res.2.1 - xn K0)) (hret : ∀ (b1 : Nat) (H1 : Heap) (locs1 : List Loc) (ls1 : Array Slot) (pc : Nat), cMW s A v a b1 K0 res.2.1 res.2.2 H1 locs1 → narrow .boolean (.int res.1) = .int res.1 → decode cX5_endsConstant pc = .ok (.ireturn, 1) → W p l e R s m args below meth c H1 locs1 (xn res.2.1 - xn K0) (2 * (xn res.2.1 - xn K0)) Q (F0 m pc ls1 [.int res.1])) (z0 : Int32) (F : PF) (G : PG) (hm : cb_X5_endsConstant_24 fu z0 F G = some res) {b : Nat} {H : Heap} {locs : List Loc} (hw : cMW s A v a b K0 F G H locs) {ls : Array Slot} (hl : lv_has ls 1 []) : W p l e R s m args below meth c H locs (xn F - xn K0) (2 * (xn F - xn K0)) Q (F0 m 24 ls [.int z0]) := by
  have hx := C.1
  have hb := C.2.1
  unfold cb_X5_endsConstant_24 at hm
  obtain ⟨hz, hm⟩ := b01_elim hm
  obtain rfl := Option.some.inj hm
  exact hret _ _ _ _ _ hw (b01_nar hz) dX5_endsConstant_24
theorem cn_X5_endsConstant_23 (fu : Nat) {res : Int32 × PF × PG} (F : PF) (G : PG) (hm : cb_X5_endsConstant_23 fu F G = some res) : xn F ≤ xn res.2.1 := by
  unfold cb_X5_endsConstant_23 at hm
  exact (cn_X5_endsConstant_24 fu 0 F G hm)
theorem cw_X5_endsConstant_23 (fu : Nat) {res : Int32 × PF × PG} (C : cMC p R s m args c A v RX5 cX5_endsConstant 1 0 0 (xn res.2.1 - xn K0)) (hret : ∀ (b1 : Nat) (H1 : Heap) (locs1 : List Loc) (ls1 : Array Slot) (pc : Nat), cMW s A v a b1 K0 res.2.1 res.2.2 H1 locs1 → narrow .boolean (.int res.1) = .int res.1 → decode cX5_endsConstant pc = .ok (.ireturn, 1) → W p l e R s m args below meth c H1 locs1 (xn res.2.1 - xn K0) (2 * (xn res.2.1 - xn K0)) Q (F0 m pc ls1 [.int res.1])) (F : PF) (G : PG) (hm : cb_X5_endsConstant_23 fu F G = some res) {b : Nat} {H : Heap} {locs : List Loc} (hw : cMW s A v a b K0 F G H locs) {ls : Array Slot} (hl : lv_has ls 1 []) : W p l e R s m args below meth c H locs (xn F - xn K0) (2 * (xn F - xn K0)) Q (F0 m 23 ls []) := by
  have hx := C.1
  have hb := C.2.1
  unfold cb_X5_endsConstant_23 at hm
  refine lv_iconst (v := 0) hx hb dX5_endsConstant_23 (by decide) ?_
  exact cw_X5_endsConstant_24 fu C hret 0 F G hm hw (lv_sub hl [] rfl)
theorem cn_X5_endsConstant_19 (fu : Nat) {res : Int32 × PF × PG} (F : PF) (G : PG) (hm : cb_X5_endsConstant_19 fu F G = some res) : xn F ≤ xn res.2.1 := by
  unfold cb_X5_endsConstant_19 at hm
  exact (cn_X5_endsConstant_24 fu 1 F G hm)
theorem cw_X5_endsConstant_19 (fu : Nat) {res : Int32 × PF × PG} (C : cMC p R s m args c A v RX5 cX5_endsConstant 1 0 0 (xn res.2.1 - xn K0)) (hret : ∀ (b1 : Nat) (H1 : Heap) (locs1 : List Loc) (ls1 : Array Slot) (pc : Nat), cMW s A v a b1 K0 res.2.1 res.2.2 H1 locs1 → narrow .boolean (.int res.1) = .int res.1 → decode cX5_endsConstant pc = .ok (.ireturn, 1) → W p l e R s m args below meth c H1 locs1 (xn res.2.1 - xn K0) (2 * (xn res.2.1 - xn K0)) Q (F0 m pc ls1 [.int res.1])) (F : PF) (G : PG) (hm : cb_X5_endsConstant_19 fu F G = some res) {b : Nat} {H : Heap} {locs : List Loc} (hw : cMW s A v a b K0 F G H locs) {ls : Array Slot} (hl : lv_has ls 1 []) : W p l e R s m args below meth c H locs (xn F - xn K0) (2 * (xn F - xn K0)) Q (F0 m 19 ls []) := by
  have hx := C.1
  have hb := C.2.1
  unfold cb_X5_endsConstant_19 at hm
  refine lv_iconst (v := 1) hx hb dX5_endsConstant_19 (by decide) ?_
  refine lv_goto (tgt := 24) hx hb dX5_endsConstant_20 (by decide) ?_
  exact cw_X5_endsConstant_24 fu C hret 1 F G hm hw (lv_sub hl [] rfl)
theorem cn_X5_endsConstant_12 (fu : Nat) {res : Int32 × PF × PG} (F : PF) (G : PG) (hm : cb_X5_endsConstant_12 fu F G = some res) : xn F ≤ xn res.2.1 := by
  unfold cb_X5_endsConstant_12 at hm
  by_cases c_1 : (F 47) = (0 : Int32)
  · have hm := (if_pos c_1).symm.trans hm
    exact (cn_X5_endsConstant_23 fu F G hm)
  · have hm := (if_neg c_1).symm.trans hm
    exact (cn_X5_endsConstant_19 fu F G hm)
theorem cw_X5_endsConstant_12 (fu : Nat) {res : Int32 × PF × PG} (C : cMC p R s m args c A v RX5 cX5_endsConstant 1 0 0 (xn res.2.1 - xn K0)) (hret : ∀ (b1 : Nat) (H1 : Heap) (locs1 : List Loc) (ls1 : Array Slot) (pc : Nat), cMW s A v a b1 K0 res.2.1 res.2.2 H1 locs1 → narrow .boolean (.int res.1) = .int res.1 → decode cX5_endsConstant pc = .ok (.ireturn, 1) → W p l e R s m args below meth c H1 locs1 (xn res.2.1 - xn K0) (2 * (xn res.2.1 - xn K0)) Q (F0 m pc ls1 [.int res.1])) (F : PF) (G : PG) (hm : cb_X5_endsConstant_12 fu F G = some res) {b : Nat} {H : Heap} {locs : List Loc} (hw : cMW s A v a b K0 F G H locs) {ls : Array Slot} (hl : lv_has ls 1 [(0, .ref (a 205))]) : W p l e R s m args below meth c H locs (xn F - xn K0) (2 * (xn F - xn K0)) Q (F0 m 12 ls []) := by
  have hx := C.1
  have hb := C.2.1
  unfold cb_X5_endsConstant_12 at hm
  refine lv_aload_n hx hb dX5_endsConstant_12 rfl (lv_at hl 0 rfl) ?_
  refine cg_X5_60 C hw dX5_endsConstant_13 ?_
  refine lv_if_eq (tgt := 23) hx hb dX5_endsConstant_16 (by decide) (fun c_1 => ?_) (fun c_1 => ?_)
  · have hm := (if_pos c_1).symm.trans hm
    exact cw_X5_endsConstant_23 fu C hret F G hm hw (lv_sub hl [] rfl)
  · have hm := (if_neg c_1).symm.trans hm
    exact cw_X5_endsConstant_19 fu C hret F G hm hw (lv_sub hl [] rfl)
theorem cn_X5_endsConstant_5 (fu : Nat) {res : Int32 × PF × PG} (F : PF) (G : PG) (hm : cb_X5_endsConstant_5 fu F G = some res) : xn F ≤ xn res.2.1 := by
  unfold cb_X5_endsConstant_5 at hm
  by_cases c_1 : (F 45) = (0 : Int32)
  · have hm := (if_pos c_1).symm.trans hm
    exact (cn_X5_endsConstant_23 fu F G hm)
  · have hm := (if_neg c_1).symm.trans hm
    exact (cn_X5_endsConstant_12 fu F G hm)
theorem cw_X5_endsConstant_5 (fu : Nat) {res : Int32 × PF × PG} (C : cMC p R s m args c A v RX5 cX5_endsConstant 1 0 0 (xn res.2.1 - xn K0)) (hret : ∀ (b1 : Nat) (H1 : Heap) (locs1 : List Loc) (ls1 : Array Slot) (pc : Nat), cMW s A v a b1 K0 res.2.1 res.2.2 H1 locs1 → narrow .boolean (.int res.1) = .int res.1 → decode cX5_endsConstant pc = .ok (.ireturn, 1) → W p l e R s m args below meth c H1 locs1 (xn res.2.1 - xn K0) (2 * (xn res.2.1 - xn K0)) Q (F0 m pc ls1 [.int res.1])) (F : PF) (G : PG) (hm : cb_X5_endsConstant_5 fu F G = some res) {b : Nat} {H : Heap} {locs : List Loc} (hw : cMW s A v a b K0 F G H locs) {ls : Array Slot} (hl : lv_has ls 1 [(0, .ref (a 205))]) : W p l e R s m args below meth c H locs (xn F - xn K0) (2 * (xn F - xn K0)) Q (F0 m 5 ls []) := by
  have hx := C.1
  have hb := C.2.1
  unfold cb_X5_endsConstant_5 at hm
  refine lv_aload_n hx hb dX5_endsConstant_5 rfl (lv_at hl 0 rfl) ?_
  refine cg_X5_53 C hw dX5_endsConstant_6 ?_
  refine lv_if_eq (tgt := 23) hx hb dX5_endsConstant_9 (by decide) (fun c_1 => ?_) (fun c_1 => ?_)
  · have hm := (if_pos c_1).symm.trans hm
    exact cw_X5_endsConstant_23 fu C hret F G hm hw (lv_sub hl [] rfl)
  · have hm := (if_neg c_1).symm.trans hm
    exact cw_X5_endsConstant_12 fu C hret F G hm hw (lv_sub hl [0] rfl)
theorem cn_X5_endsConstant_0 (fu : Nat) {res : Int32 × PF × PG} (F : PF) (G : PG) (hm : cb_X5_endsConstant_0 fu F G = some res) : xn F ≤ xn res.2.1 := by
  unfold cb_X5_endsConstant_0 at hm
  exact Nat.le_trans (Nat.le_of_eq (xn_fup (by decide)).symm) (cn_X5_endsConstant_5 fu (fup F 46 (0 : Int32)) G hm)
theorem cw_X5_endsConstant_0 (fu : Nat) {res : Int32 × PF × PG} (C : cMC p R s m args c A v RX5 cX5_endsConstant 1 0 0 (xn res.2.1 - xn K0)) (hret : ∀ (b1 : Nat) (H1 : Heap) (locs1 : List Loc) (ls1 : Array Slot) (pc : Nat), cMW s A v a b1 K0 res.2.1 res.2.2 H1 locs1 → narrow .boolean (.int res.1) = .int res.1 → decode cX5_endsConstant pc = .ok (.ireturn, 1) → W p l e R s m args below meth c H1 locs1 (xn res.2.1 - xn K0) (2 * (xn res.2.1 - xn K0)) Q (F0 m pc ls1 [.int res.1])) (F : PF) (G : PG) (hm : cb_X5_endsConstant_0 fu F G = some res) {b : Nat} {H : Heap} {locs : List Loc} (hw : cMW s A v a b K0 F G H locs) {ls : Array Slot} (hl : lv_has ls 1 [(0, .ref (a 205))]) : W p l e R s m args below meth c H locs (xn F - xn K0) (2 * (xn F - xn K0)) Q (F0 m 0 ls []) := by
  have hx := C.1
  have hb := C.2.1
  unfold cb_X5_endsConstant_0 at hm
  refine lv_aload_n hx hb dX5_endsConstant_0 rfl (lv_at hl 0 rfl) ?_
  refine lv_iconst (v := 0) hx hb dX5_endsConstant_1 (by decide) ?_
  refine cp_X5_57 C hw (by decide) dX5_endsConstant_2 (fun H locs hw => ?_)
  exact cw_X5_endsConstant_5 fu C hret (fup F 46 (0 : Int32)) G hm hw (lv_sub hl [0] rfl)
theorem cn_X5_endsConstant (fu : Nat) (F : PF) (G : PG) (q : Int32 × PF × PG) (hm : cf_X5_endsConstant fu F G = some q) : xn F ≤ xn q.2.1 := cn_X5_endsConstant_0 fu F G hm
theorem ck_X5_endsConstant (l : Launch) (v : EV) (a : Nat → Nat) (b sz : Nat) (fu : Nat) (F : PF) (G : PG) (r : Int32) (F1 : PF) (G1 : PG) (hm : cf_X5_endsConstant fu F G = some (r, F1, G1)) : cMI l yX5_endsConstant cX5_endsConstant 1 (some .boolean) 0 0 v a b sz [.ref (a 205)] F G r F1 G1 := cMI.of (ty := .boolean) (by decide) rfl (Nat.le_of_ble_eq_true rfl) (fun p e R s m args below meth c Q A H locs ls C hw hl hret => cw_X5_endsConstant_0 fu (res := (r, F1, G1)) C hret F G hm hw hl)
def cb_X3_constant_50 (fu : Nat) (x2 : Int32) (F : PF) (G : PG) : PR := some (x2, F, G)
def cb_X3_constant_41 (fu : Nat) (x1 : Int32) (z0 : Int32) (F : PF) (G : PG) : PR := (cf_X1_cut fu x1 F G).bind (fun q => cb_X3_constant_50 fu z0 q.2.1 q.2.2)
def cb_X3_constant_40 (fu : Nat) (x1 : Int32) (F : PF) (G : PG) : PR := cb_X3_constant_41 fu x1 0 F G
def cb_X3_constant_37 (fu : Nat) (x1 : Int32) (z0 : Int32) (F : PF) (G : PG) : PR := cb_X3_constant_41 fu x1 z0 F G
def cb_X3_constant_29 (fu : Nat) (x1 : Int32) (F : PF) (G : PG) : PR := (cf_X6_valueFrom fu x1 F G).bind (fun q => cb_X3_constant_37 fu x1 q.1 q.2.1 q.2.2)
def cb_X3_constant_26 (fu : Nat) (x1 : Int32) (z0 : Int32) (F : PF) (G : PG) : PR := if z0 = (0 : Int32) then cb_X3_constant_40 fu x1 F G else cb_X3_constant_29 fu x1 F G
def cb_X3_constant_19 (fu : Nat) (x1 : Int32) (F : PF) (G : PG) : PR := (cf_X5_endsConstant fu F G).bind (fun q => cb_X3_constant_26 fu x1 q.1 q.2.1 q.2.2)
def cb_X3_constant_15 (fu : Nat) (x1 : Int32) (F : PF) (G : PG) : PR := (cf_X3_expression fu F G).bind (fun q => cb_X3_constant_19 fu x1 q.2.1 q.2.2)
def cb_X3_constant_0 (fu : Nat) (F : PF) (G : PG) : PR := (cf_X5_startConstant fu F G).bind (fun q => cb_X3_constant_15 fu (F 6) q.2.1 q.2.2)
def cf_X3_constant (fu : Nat) (F : PF) (G : PG) : PR := cb_X3_constant_0 fu F G
theorem cn_X3_constant_50 (fu : Nat) {res : Int32 × PF × PG} (x2 : Int32) (F : PF) (G : PG) (hm : cb_X3_constant_50 fu x2 F G = some res) : xn F ≤ xn res.2.1 := by
  unfold cb_X3_constant_50 at hm
  obtain rfl := Option.some.inj hm
  exact Nat.le_refl _
theorem cw_X3_constant_50 (fu : Nat) {res : Int32 × PF × PG} (C : cMC p R s m args c A v RX3 cX3_constant 3 303 18071 (xn res.2.1 - xn K0)) (hret : ∀ (b1 : Nat) (H1 : Heap) (locs1 : List Loc) (ls1 : Array Slot) (pc : Nat), cMW s A v a b1 K0 res.2.1 res.2.2 H1 locs1 → narrow .int (.int res.1) = .int res.1 → decode cX3_constant pc = .ok (.ireturn, 1) → W p l e R s m args below meth c H1 locs1 (xn res.2.1 - xn K0) (2 * (xn res.2.1 - xn K0)) Q (F0 m pc ls1 [.int res.1])) (x2 : Int32) (F : PF) (G : PG) (hm : cb_X3_constant_50 fu x2 F G = some res) {b : Nat} {H : Heap} {locs : List Loc} (hw : cMW s A v a b K0 F G H locs) {ls : Array Slot} (hl : lv_has ls 3 [(2, .int x2)]) : W p l e R s m args below meth c H locs (xn F - xn K0) (2 * (xn F - xn K0)) Q (F0 m 50 ls []) := by
  have hx := C.1
  have hb := C.2.1
  unfold cb_X3_constant_50 at hm
  refine lv_iload_n hx hb dX3_constant_50 rfl (lv_at hl 0 rfl) ?_
  obtain rfl := Option.some.inj hm
  exact hret _ _ _ _ _ hw rfl dX3_constant_51
theorem cn_X3_constant_41 (fu : Nat) {res : Int32 × PF × PG} (x1 : Int32) (z0 : Int32) (F : PF) (G : PG) (hm : cb_X3_constant_41 fu x1 z0 F G = some res) : xn F ≤ xn res.2.1 := by
  unfold cb_X3_constant_41 at hm
  obtain ⟨⟨r1, F1, G1⟩, hc, hm⟩ := bind_elim hm
  exact Nat.le_trans (cn_X1_cut fu x1 F G _ hc) (cn_X3_constant_50 fu z0 F1 G1 hm)
theorem cw_X3_constant_41 (fu : Nat) {res : Int32 × PF × PG} (C : cMC p R s m args c A v RX3 cX3_constant 3 303 18071 (xn res.2.1 - xn K0)) (hret : ∀ (b1 : Nat) (H1 : Heap) (locs1 : List Loc) (ls1 : Array Slot) (pc : Nat), cMW s A v a b1 K0 res.2.1 res.2.2 H1 locs1 → narrow .int (.int res.1) = .int res.1 → decode cX3_constant pc = .ok (.ireturn, 1) → W p l e R s m args below meth c H1 locs1 (xn res.2.1 - xn K0) (2 * (xn res.2.1 - xn K0)) Q (F0 m pc ls1 [.int res.1])) (x1 : Int32) (z0 : Int32) (F : PF) (G : PG) (hm : cb_X3_constant_41 fu x1 z0 F G = some res) {b : Nat} {H : Heap} {locs : List Loc} (hw : cMW s A v a b K0 F G H locs) {ls : Array Slot} (hl : lv_has ls 3 [(0, .ref (a 203)), (1, .int x1)]) : W p l e R s m args below meth c H locs (xn F - xn K0) (2 * (xn F - xn K0)) Q (F0 m 41 ls [.int z0]) := by
  have hx := C.1
  have hb := C.2.1
  unfold cb_X3_constant_41 at hm
  refine lv_istore_n (lv' := [(2, .int z0), (0, .ref (a 203)), (1, .int x1)]) hx hb dX3_constant_41 rfl hl (by decide) rfl (fun ls hl => ?_)
  refine lv_aload_n hx hb dX3_constant_42 rfl (lv_at hl 1 rfl) ?_
  refine cg_X3_23 C hw dX3_constant_43 ?_
  refine lv_iload_n hx hb dX3_constant_46 rfl (lv_at hl 2 rfl) ?_
  obtain ⟨⟨r1, F1, G1⟩, hc, hm⟩ := bind_elim hm
  refine ccallV (n := 1) (As := [.int x1]) (rest := []) C hw (ck_X1_cut l v a _ _ fu x1 F G r1 F1 G1 hc) (cn_X1_cut fu x1 F G _ hc) (Nat.sub_le_sub_right (cn_X3_constant_50 fu z0 F1 G1 hm) _) (crecv_X1 C hw) cm_570 cm_571 cm_572 cm_369 cm_573 (by decide +kernel) rfl (by omega) (by omega) hl.1 rfl (Nat.le_of_ble_eq_true rfl) dX3_constant_47 (fun b H locs hw => ?_)
  exact cw_X3_constant_50 fu C hret z0 F1 G1 hm hw (lv_sub hl [0] rfl)
theorem cn_X3_constant_40 (fu : Nat) {res : Int32 × PF × PG} (x1 : Int32) (F : PF) (G : PG) (hm : cb_X3_constant_40 fu x1 F G = some res) : xn F ≤ xn res.2.1 := by
  unfold cb_X3_constant_40 at hm
  exact (cn_X3_constant_41 fu x1 0 F G hm)
theorem cw_X3_constant_40 (fu : Nat) {res : Int32 × PF × PG} (C : cMC p R s m args c A v RX3 cX3_constant 3 303 18071 (xn res.2.1 - xn K0)) (hret : ∀ (b1 : Nat) (H1 : Heap) (locs1 : List Loc) (ls1 : Array Slot) (pc : Nat), cMW s A v a b1 K0 res.2.1 res.2.2 H1 locs1 → narrow .int (.int res.1) = .int res.1 → decode cX3_constant pc = .ok (.ireturn, 1) → W p l e R s m args below meth c H1 locs1 (xn res.2.1 - xn K0) (2 * (xn res.2.1 - xn K0)) Q (F0 m pc ls1 [.int res.1])) (x1 : Int32) (F : PF) (G : PG) (hm : cb_X3_constant_40 fu x1 F G = some res) {b : Nat} {H : Heap} {locs : List Loc} (hw : cMW s A v a b K0 F G H locs) {ls : Array Slot} (hl : lv_has ls 3 [(0, .ref (a 203)), (1, .int x1)]) : W p l e R s m args below meth c H locs (xn F - xn K0) (2 * (xn F - xn K0)) Q (F0 m 40 ls []) := by
  have hx := C.1
  have hb := C.2.1
  unfold cb_X3_constant_40 at hm
  refine lv_iconst (v := 0) hx hb dX3_constant_40 (by decide) ?_
  exact cw_X3_constant_41 fu C hret x1 0 F G hm hw (lv_sub hl [0, 1] rfl)
theorem cn_X3_constant_37 (fu : Nat) {res : Int32 × PF × PG} (x1 : Int32) (z0 : Int32) (F : PF) (G : PG) (hm : cb_X3_constant_37 fu x1 z0 F G = some res) : xn F ≤ xn res.2.1 := by
  unfold cb_X3_constant_37 at hm
  exact (cn_X3_constant_41 fu x1 z0 F G hm)
theorem cw_X3_constant_37 (fu : Nat) {res : Int32 × PF × PG} (C : cMC p R s m args c A v RX3 cX3_constant 3 303 18071 (xn res.2.1 - xn K0)) (hret : ∀ (b1 : Nat) (H1 : Heap) (locs1 : List Loc) (ls1 : Array Slot) (pc : Nat), cMW s A v a b1 K0 res.2.1 res.2.2 H1 locs1 → narrow .int (.int res.1) = .int res.1 → decode cX3_constant pc = .ok (.ireturn, 1) → W p l e R s m args below meth c H1 locs1 (xn res.2.1 - xn K0) (2 * (xn res.2.1 - xn K0)) Q (F0 m pc ls1 [.int res.1])) (x1 : Int32) (z0 : Int32) (F : PF) (G : PG) (hm : cb_X3_constant_37 fu x1 z0 F G = some res) {b : Nat} {H : Heap} {locs : List Loc} (hw : cMW s A v a b K0 F G H locs) {ls : Array Slot} (hl : lv_has ls 3 [(0, .ref (a 203)), (1, .int x1)]) : W p l e R s m args below meth c H locs (xn F - xn K0) (2 * (xn F - xn K0)) Q (F0 m 37 ls [.int z0]) := by
  have hx := C.1
  have hb := C.2.1
  unfold cb_X3_constant_37 at hm
  refine lv_goto (tgt := 41) hx hb dX3_constant_37 (by decide) ?_
  exact cw_X3_constant_41 fu C hret x1 z0 F G hm hw (lv_sub hl [0, 1] rfl)
theorem cn_X3_constant_29 (fu : Nat) {res : Int32 × PF × PG} (x1 : Int32) (F : PF) (G : PG) (hm : cb_X3_constant_29 fu x1 F G = some res) : xn F ≤ xn res.2.1 := by
  unfold cb_X3_constant_29 at hm
  obtain ⟨⟨r1, F1, G1⟩, hc, hm⟩ := bind_elim hm
  exact Nat.le_trans (cn_X6_valueFrom fu x1 F G _ hc) (cn_X3_constant_37 fu x1 r1 F1 G1 hm)
theorem cw_X3_constant_29 (fu : Nat) {res : Int32 × PF × PG} (C : cMC p R s m args c A v RX3 cX3_constant 3 303 18071 (xn res.2.1 - xn K0)) (hret : ∀ (b1 : Nat) (H1 : Heap) (locs1 : List Loc) (ls1 : Array Slot) (pc : Nat), cMW s A v a b1 K0 res.2.1 res.2.2 H1 locs1 → narrow .int (.int res.1) = .int res.1 → decode cX3_constant pc = .ok (.ireturn, 1) → W p l e R s m args below meth c H1 locs1 (xn res.2.1 - xn K0) (2 * (xn res.2.1 - xn K0)) Q (F0 m pc ls1 [.int res.1])) (x1 : Int32) (F : PF) (G : PG) (hm : cb_X3_constant_29 fu x1 F G = some res) {b : Nat} {H : Heap} {locs : List Loc} (hw : cMW s A v a b K0 F G H locs) {ls : Array Slot} (hl : lv_has ls 3 [(0, .ref (a 203)), (1, .int x1)]) : W p l e R s m args below meth c H locs (xn F - xn K0) (2 * (xn F - xn K0)) Q (F0 m 29 ls []) := by
  have hx := C.1
  have hb := C.2.1
  unfold cb_X3_constant_29 at hm
  refine lv_aload_n hx hb dX3_constant_29 rfl (lv_at hl 0 rfl) ?_
  refine cg_X3_31 C hw dX3_constant_30 ?_
  refine lv_iload_n hx hb dX3_constant_33 rfl (lv_at hl 1 rfl) ?_
  obtain ⟨⟨r1, F1, G1⟩, hc, hm⟩ := bind_elim hm
  refine ccallI (n := 1) (As := [.int x1]) (rest := []) C hw (ck_X6_valueFrom l v a _ _ fu x1 F G r1 F1 G1 hc) (cn_X6_valueFrom fu x1 F G _ hc) (Nat.sub_le_sub_right (cn_X3_constant_37 fu x1 r1 F1 G1 hm) _) (crecv_X6 C hw) cm_521 cm_522 cm_523 cm_21 cm_524 (by decide +kernel) rfl (by omega) (by omega) hl.1 rfl (Nat.le_of_ble_eq_true rfl) dX3_constant_34 (fun b H locs hw => ?_)
  exact cw_X3_constant_37 fu C hret x1 r1 F1 G1 hm hw (lv_sub hl [0, 1] rfl)
theorem cn_X3_constant_26 (fu : Nat) {res : Int32 × PF × PG} (x1 : Int32) (z0 : Int32) (F : PF) (G : PG) (hm : cb_X3_constant_26 fu x1 z0 F G = some res) : xn F ≤ xn res.2.1 := by
  unfold cb_X3_constant_26 at hm
  by_cases c_1 : z0 = (0 : Int32)
  · have hm := (if_pos c_1).symm.trans hm
    exact (cn_X3_constant_40 fu x1 F G hm)
  · have hm := (if_neg c_1).symm.trans hm
    exact (cn_X3_constant_29 fu x1 F G hm)
theorem cw_X3_constant_26 (fu : Nat) {res : Int32 × PF × PG} (C : cMC p R s m args c A v RX3 cX3_constant 3 303 18071 (xn res.2.1 - xn K0)) (hret : ∀ (b1 : Nat) (H1 : Heap) (locs1 : List Loc) (ls1 : Array Slot) (pc : Nat), cMW s A v a b1 K0 res.2.1 res.2.2 H1 locs1 → narrow .int (.int res.1) = .int res.1 → decode cX3_constant pc = .ok (.ireturn, 1) → W p l e R s m args below meth c H1 locs1 (xn res.2.1 - xn K0) (2 * (xn res.2.1 - xn K0)) Q (F0 m pc ls1 [.int res.1])) (x1 : Int32) (z0 : Int32) (F : PF) (G : PG) (hm : cb_X3_constant_26 fu x1 z0 F G = some res) {b : Nat} {H : Heap} {locs : List Loc} (hw : cMW s A v a b K0 F G H locs) {ls : Array Slot} (hl : lv_has ls 3 [(0, .ref (a 203)), (1, .int x1)]) : W p l e R s m args below meth c H locs (xn F - xn K0) (2 * (xn F - xn K0)) Q (F0 m 26 ls [.int z0]) := by
  have hx := C.1
  have hb := C.2.1
  unfold cb_X3_constant_26 at hm
  refine lv_if_eq (tgt := 40) hx hb dX3_constant_26 (by decide) (fun c_1 => ?_) (fun c_1 => ?_)
  · have hm := (if_pos c_1).symm.trans hm
    exact cw_X3_constant_40 fu C hret x1 F G hm hw (lv_sub hl [0, 1] rfl)
  · have hm := (if_neg c_1).symm.trans hm
    exact cw_X3_constant_29 fu C hret x1 F G hm hw (lv_sub hl [0, 1] rfl)
theorem cn_X3_constant_19 (fu : Nat) {res : Int32 × PF × PG} (x1 : Int32) (F : PF) (G : PG) (hm : cb_X3_constant_19 fu x1 F G = some res) : xn F ≤ xn res.2.1 := by
  unfold cb_X3_constant_19 at hm
  obtain ⟨⟨r1, F1, G1⟩, hc, hm⟩ := bind_elim hm
  exact Nat.le_trans (cn_X5_endsConstant fu F G _ hc) (cn_X3_constant_26 fu x1 r1 F1 G1 hm)
theorem cw_X3_constant_19 (fu : Nat) {res : Int32 × PF × PG} (C : cMC p R s m args c A v RX3 cX3_constant 3 303 18071 (xn res.2.1 - xn K0)) (hret : ∀ (b1 : Nat) (H1 : Heap) (locs1 : List Loc) (ls1 : Array Slot) (pc : Nat), cMW s A v a b1 K0 res.2.1 res.2.2 H1 locs1 → narrow .int (.int res.1) = .int res.1 → decode cX3_constant pc = .ok (.ireturn, 1) → W p l e R s m args below meth c H1 locs1 (xn res.2.1 - xn K0) (2 * (xn res.2.1 - xn K0)) Q (F0 m pc ls1 [.int res.1])) (x1 : Int32) (F : PF) (G : PG) (hm : cb_X3_constant_19 fu x1 F G = some res) {b : Nat} {H : Heap} {locs : List Loc} (hw : cMW s A v a b K0 F G H locs) {ls : Array Slot} (hl : lv_has ls 3 [(0, .ref (a 203)), (1, .int x1)]) : W p l e R s m args below meth c H locs (xn F - xn K0) (2 * (xn F - xn K0)) Q (F0 m 19 ls []) := by
  have hx := C.1
  have hb := C.2.1
  unfold cb_X3_constant_19 at hm
  refine lv_aload_n hx hb dX3_constant_19 rfl (lv_at hl 0 rfl) ?_
  refine cg_X3_19 C hw dX3_constant_20 ?_
  obtain ⟨⟨r1, F1, G1⟩, hc, hm⟩ := bind_elim hm
  refine ccallI (n := 0) (As := []) (rest := []) C hw (ck_X5_endsConstant l v a _ _ fu F G r1 F1 G1 hc) (cn_X5_endsConstant fu F G _ hc) (Nat.sub_le_sub_right (cn_X3_constant_26 fu x1 r1 F1 G1 hm) _) (crecv_X5 C hw) cm_517 cm_518 cm_519 cm_266 cm_520 (by decide +kernel) rfl (by omega) (by omega) hl.1 rfl (Nat.le_of_ble_eq_true rfl) dX3_constant_23 (fun b H locs hw => ?_)
  exact cw_X3_constant_26 fu C hret x1 r1 F1 G1 hm hw (lv_sub hl [0, 1] rfl)
theorem cn_X3_constant_15 (fu : Nat) {res : Int32 × PF × PG} (x1 : Int32) (F : PF) (G : PG) (hm : cb_X3_constant_15 fu x1 F G = some res) : xn F ≤ xn res.2.1 := by
  unfold cb_X3_constant_15 at hm
  obtain ⟨⟨r1, F1, G1⟩, hc, hm⟩ := bind_elim hm
  exact Nat.le_trans (cn_X3_expression fu F G _ hc) (cn_X3_constant_19 fu x1 F1 G1 hm)
theorem cw_X3_constant_15 (fu : Nat) {res : Int32 × PF × PG} (C : cMC p R s m args c A v RX3 cX3_constant 3 303 18071 (xn res.2.1 - xn K0)) (hret : ∀ (b1 : Nat) (H1 : Heap) (locs1 : List Loc) (ls1 : Array Slot) (pc : Nat), cMW s A v a b1 K0 res.2.1 res.2.2 H1 locs1 → narrow .int (.int res.1) = .int res.1 → decode cX3_constant pc = .ok (.ireturn, 1) → W p l e R s m args below meth c H1 locs1 (xn res.2.1 - xn K0) (2 * (xn res.2.1 - xn K0)) Q (F0 m pc ls1 [.int res.1])) (x1 : Int32) (F : PF) (G : PG) (hm : cb_X3_constant_15 fu x1 F G = some res) {b : Nat} {H : Heap} {locs : List Loc} (hw : cMW s A v a b K0 F G H locs) {ls : Array Slot} (hl : lv_has ls 3 [(0, .ref (a 203)), (1, .int x1)]) : W p l e R s m args below meth c H locs (xn F - xn K0) (2 * (xn F - xn K0)) Q (F0 m 15 ls []) := by
  have hx := C.1
  have hb := C.2.1
  unfold cb_X3_constant_15 at hm
  refine lv_aload_n hx hb dX3_constant_15 rfl (lv_at hl 0 rfl) ?_
  obtain ⟨⟨r1, F1, G1⟩, hc, hm⟩ := bind_elim hm
  refine ccallV (n := 0) (As := []) (rest := []) C hw (ck_X3_expression l v a _ _ fu F G r1 F1 G1 hc) (cn_X3_expression fu F G _ hc) (Nat.sub_le_sub_right (cn_X3_constant_19 fu x1 F1 G1 hm) _) (crecv_X3 C hw) cm_353 cm_354 cm_355 cm_301 cm_356 (by decide +kernel) rfl (by omega) (by omega) hl.1 rfl (Nat.le_of_ble_eq_true rfl) dX3_constant_16 (fun b H locs hw => ?_)
  exact cw_X3_constant_19 fu C hret x1 F1 G1 hm hw (lv_sub hl [0, 1] rfl)
theorem cn_X3_constant_0 (fu : Nat) {res : Int32 × PF × PG} (F : PF) (G : PG) (hm : cb_X3_constant_0 fu F G = some res) : xn F ≤ xn res.2.1 := by
  unfold cb_X3_constant_0 at hm
  obtain ⟨⟨r1, F1, G1⟩, hc, hm⟩ := bind_elim hm
  exact Nat.le_trans (cn_X5_startConstant fu F G _ hc) (cn_X3_constant_15 fu (F 6) F1 G1 hm)
theorem cw_X3_constant_0 (fu : Nat) {res : Int32 × PF × PG} (C : cMC p R s m args c A v RX3 cX3_constant 3 303 18071 (xn res.2.1 - xn K0)) (hret : ∀ (b1 : Nat) (H1 : Heap) (locs1 : List Loc) (ls1 : Array Slot) (pc : Nat), cMW s A v a b1 K0 res.2.1 res.2.2 H1 locs1 → narrow .int (.int res.1) = .int res.1 → decode cX3_constant pc = .ok (.ireturn, 1) → W p l e R s m args below meth c H1 locs1 (xn res.2.1 - xn K0) (2 * (xn res.2.1 - xn K0)) Q (F0 m pc ls1 [.int res.1])) (F : PF) (G : PG) (hm : cb_X3_constant_0 fu F G = some res) {b : Nat} {H : Heap} {locs : List Loc} (hw : cMW s A v a b K0 F G H locs) {ls : Array Slot} (hl : lv_has ls 3 [(0, .ref (a 203))]) : W p l e R s m args below meth c H locs (xn F - xn K0) (2 * (xn F - xn K0)) Q (F0 m 0 ls []) := by
  have hx := C.1
  have hb := C.2.1
  unfold cb_X3_constant_0 at hm
  refine lv_aload_n hx hb dX3_constant_0 rfl (lv_at hl 0 rfl) ?_
  refine cg_X3_23 C hw dX3_constant_1 ?_
  refine cg_X3_39 C hw dX3_constant_4 ?_
  refine lv_istore_n (lv' := [(1, .int (F 6)), (0, .ref (a 203))]) hx hb dX3_constant_7 rfl hl (by decide) rfl (fun ls hl => ?_)
  refine lv_aload_n hx hb dX3_constant_8 rfl (lv_at hl 1 rfl) ?_
  refine cg_X3_19 C hw dX3_constant_9 ?_
  obtain ⟨⟨r1, F1, G1⟩, hc, hm⟩ := bind_elim hm
  refine ccallV (n := 0) (As := []) (rest := []) C hw (ck_X5_startConstant l v a _ _ fu F G r1 F1 G1 hc) (cn_X5_startConstant fu F G _ hc) (Nat.sub_le_sub_right (cn_X3_constant_15 fu (F 6) F1 G1 hm) _) (crecv_X5 C hw) cm_349 cm_350 cm_351 cm_266 cm_352 (by decide +kernel) rfl (by omega) (by omega) hl.1 rfl (Nat.le_of_ble_eq_true rfl) dX3_constant_12 (fun b H locs hw => ?_)
  exact cw_X3_constant_15 fu C hret (F 6) F1 G1 hm hw (lv_sub hl [1, 0] rfl)
theorem cn_X3_constant (fu : Nat) (F : PF) (G : PG) (q : Int32 × PF × PG) (hm : cf_X3_constant fu F G = some q) : xn F ≤ xn q.2.1 := cn_X3_constant_0 fu F G hm
theorem ck_X3_constant (l : Launch) (v : EV) (a : Nat → Nat) (b sz : Nat) (fu : Nat) (F : PF) (G : PG) (r : Int32) (F1 : PF) (G1 : PG) (hm : cf_X3_constant fu F G = some (r, F1, G1)) : cMI l yX3_constant cX3_constant 3 (some .int) 303 18071 v a b sz [.ref (a 203)] F G r F1 G1 := cMI.of (ty := .int) (by decide) rfl (Nat.le_of_ble_eq_true rfl) (fun p e R s m args below meth c Q A H locs ls C hw hl hret => cw_X3_constant_0 fu (res := (r, F1, G1)) C hret F G hm hw hl)
def cb_X5_elements_19 (fu : Nat) (F : PF) (G : PG) : PR := some (0, F, G)
def cb_X5_elements_12 (fu : Nat) (x2 : Int32) (F : PF) (G : PG) : PR := (cf_X5_note fu 7 x2 F G).bind (fun q => cb_X5_elements_19 fu q.2.1 q.2.2)
def cb_X5_elements_21 (fu : Nat) (x1 : Int32) (F : PF) (G : PG) : PR := some (x1, F, G)
def cb_X5_elements_5 (fu : Nat) (x1 : Int32) (x2 : Int32) (F : PF) (G : PG) : PR := if x1 ≤ (500 : Int32) then cb_X5_elements_21 fu x1 F G else cb_X5_elements_12 fu x2 F G
def cb_X5_elements_0 (fu : Nat) (x1 : Int32) (x2 : Int32) (F : PF) (G : PG) : PR := if x1 < (1 : Int32) then cb_X5_elements_12 fu x2 F G else cb_X5_elements_5 fu x1 x2 F G
def cf_X5_elements (fu : Nat) (x1 : Int32) (x2 : Int32) (F : PF) (G : PG) : PR := cb_X5_elements_0 fu x1 x2 F G
theorem cn_X5_elements_19 (fu : Nat) {res : Int32 × PF × PG} (F : PF) (G : PG) (hm : cb_X5_elements_19 fu F G = some res) : xn F ≤ xn res.2.1 := by
  unfold cb_X5_elements_19 at hm
  obtain rfl := Option.some.inj hm
  exact Nat.le_refl _
theorem cw_X5_elements_19 (fu : Nat) {res : Int32 × PF × PG} (C : cMC p R s m args c A v RX5 cX5_elements 3 1 22 (xn res.2.1 - xn K0)) (hret : ∀ (b1 : Nat) (H1 : Heap) (locs1 : List Loc) (ls1 : Array Slot) (pc : Nat), cMW s A v a b1 K0 res.2.1 res.2.2 H1 locs1 → narrow .int (.int res.1) = .int res.1 → decode cX5_elements pc = .ok (.ireturn, 1) → W p l e R s m args below meth c H1 locs1 (xn res.2.1 - xn K0) (2 * (xn res.2.1 - xn K0)) Q (F0 m pc ls1 [.int res.1])) (F : PF) (G : PG) (hm : cb_X5_elements_19 fu F G = some res) {b : Nat} {H : Heap} {locs : List Loc} (hw : cMW s A v a b K0 F G H locs) {ls : Array Slot} (hl : lv_has ls 3 []) : W p l e R s m args below meth c H locs (xn F - xn K0) (2 * (xn F - xn K0)) Q (F0 m 19 ls []) := by
  have hx := C.1
  have hb := C.2.1
  unfold cb_X5_elements_19 at hm
  refine lv_iconst (v := 0) hx hb dX5_elements_19 (by decide) ?_
  obtain rfl := Option.some.inj hm
  exact hret _ _ _ _ _ hw rfl dX5_elements_20
theorem cn_X5_elements_12 (fu : Nat) {res : Int32 × PF × PG} (x2 : Int32) (F : PF) (G : PG) (hm : cb_X5_elements_12 fu x2 F G = some res) : xn F ≤ xn res.2.1 := by
  unfold cb_X5_elements_12 at hm
  obtain ⟨⟨r1, F1, G1⟩, hc, hm⟩ := bind_elim hm
  exact Nat.le_trans (cn_X5_note fu 7 x2 F G _ hc) (cn_X5_elements_19 fu F1 G1 hm)
theorem cw_X5_elements_12 (fu : Nat) {res : Int32 × PF × PG} (C : cMC p R s m args c A v RX5 cX5_elements 3 1 22 (xn res.2.1 - xn K0)) (hret : ∀ (b1 : Nat) (H1 : Heap) (locs1 : List Loc) (ls1 : Array Slot) (pc : Nat), cMW s A v a b1 K0 res.2.1 res.2.2 H1 locs1 → narrow .int (.int res.1) = .int res.1 → decode cX5_elements pc = .ok (.ireturn, 1) → W p l e R s m args below meth c H1 locs1 (xn res.2.1 - xn K0) (2 * (xn res.2.1 - xn K0)) Q (F0 m pc ls1 [.int res.1])) (x2 : Int32) (F : PF) (G : PG) (hm : cb_X5_elements_12 fu x2 F G = some res) {b : Nat} {H : Heap} {locs : List Loc} (hw : cMW s A v a b K0 F G H locs) {ls : Array Slot} (hl : lv_has ls 3 [(0, .ref (a 205)), (2, .int x2)]) : W p l e R s m args below meth c H locs (xn F - xn K0) (2 * (xn F - xn K0)) Q (F0 m 12 ls []) := by
  have hx := C.1
  have hb := C.2.1
  unfold cb_X5_elements_12 at hm
  refine lv_aload_n hx hb dX5_elements_12 rfl (lv_at hl 0 rfl) ?_
  refine lv_bipush (v := 7) hx hb dX5_elements_13 (by decide) ?_
  refine lv_iload_n hx hb dX5_elements_15 rfl (lv_at hl 1 rfl) ?_
  obtain ⟨⟨r1, F1, G1⟩, hc, hm⟩ := bind_elim hm
  refine ccallV (n := 2) (As := [.int 7, .int x2]) (rest := []) C hw (ck_X5_note l v a _ _ fu 7 x2 F G r1 F1 G1 hc) (cn_X5_note fu 7 x2 F G _ hc) (Nat.sub_le_sub_right (cn_X5_elements_19 fu F1 G1 hm) _) (crecv_X5 C hw) cm_424 cm_425 cm_426 cm_266 cm_427 (by decide +kernel) rfl (by omega) (by omega) hl.1 rfl (Nat.le_of_ble_eq_true rfl) dX5_elements_16 (fun b H locs hw => ?_)
  exact cw_X5_elements_19 fu C hret F1 G1 hm hw (lv_sub hl [] rfl)
theorem cn_X5_elements_21 (fu : Nat) {res : Int32 × PF × PG} (x1 : Int32) (F : PF) (G : PG) (hm : cb_X5_elements_21 fu x1 F G = some res) : xn F ≤ xn res.2.1 := by
  unfold cb_X5_elements_21 at hm
  obtain rfl := Option.some.inj hm
  exact Nat.le_refl _
theorem cw_X5_elements_21 (fu : Nat) {res : Int32 × PF × PG} (C : cMC p R s m args c A v RX5 cX5_elements 3 1 22 (xn res.2.1 - xn K0)) (hret : ∀ (b1 : Nat) (H1 : Heap) (locs1 : List Loc) (ls1 : Array Slot) (pc : Nat), cMW s A v a b1 K0 res.2.1 res.2.2 H1 locs1 → narrow .int (.int res.1) = .int res.1 → decode cX5_elements pc = .ok (.ireturn, 1) → W p l e R s m args below meth c H1 locs1 (xn res.2.1 - xn K0) (2 * (xn res.2.1 - xn K0)) Q (F0 m pc ls1 [.int res.1])) (x1 : Int32) (F : PF) (G : PG) (hm : cb_X5_elements_21 fu x1 F G = some res) {b : Nat} {H : Heap} {locs : List Loc} (hw : cMW s A v a b K0 F G H locs) {ls : Array Slot} (hl : lv_has ls 3 [(1, .int x1)]) : W p l e R s m args below meth c H locs (xn F - xn K0) (2 * (xn F - xn K0)) Q (F0 m 21 ls []) := by
  have hx := C.1
  have hb := C.2.1
  unfold cb_X5_elements_21 at hm
  refine lv_iload_n hx hb dX5_elements_21 rfl (lv_at hl 0 rfl) ?_
  obtain rfl := Option.some.inj hm
  exact hret _ _ _ _ _ hw rfl dX5_elements_22
theorem cn_X5_elements_5 (fu : Nat) {res : Int32 × PF × PG} (x1 : Int32) (x2 : Int32) (F : PF) (G : PG) (hm : cb_X5_elements_5 fu x1 x2 F G = some res) : xn F ≤ xn res.2.1 := by
  unfold cb_X5_elements_5 at hm
  by_cases c_1 : x1 ≤ (500 : Int32)
  · have hm := (if_pos c_1).symm.trans hm
    exact (cn_X5_elements_21 fu x1 F G hm)
  · have hm := (if_neg c_1).symm.trans hm
    exact (cn_X5_elements_12 fu x2 F G hm)
theorem cw_X5_elements_5 (fu : Nat) {res : Int32 × PF × PG} (C : cMC p R s m args c A v RX5 cX5_elements 3 1 22 (xn res.2.1 - xn K0)) (hret : ∀ (b1 : Nat) (H1 : Heap) (locs1 : List Loc) (ls1 : Array Slot) (pc : Nat), cMW s A v a b1 K0 res.2.1 res.2.2 H1 locs1 → narrow .int (.int res.1) = .int res.1 → decode cX5_elements pc = .ok (.ireturn, 1) → W p l e R s m args below meth c H1 locs1 (xn res.2.1 - xn K0) (2 * (xn res.2.1 - xn K0)) Q (F0 m pc ls1 [.int res.1])) (x1 : Int32) (x2 : Int32) (F : PF) (G : PG) (hm : cb_X5_elements_5 fu x1 x2 F G = some res) {b : Nat} {H : Heap} {locs : List Loc} (hw : cMW s A v a b K0 F G H locs) {ls : Array Slot} (hl : lv_has ls 3 [(0, .ref (a 205)), (1, .int x1), (2, .int x2)]) : W p l e R s m args below meth c H locs (xn F - xn K0) (2 * (xn F - xn K0)) Q (F0 m 5 ls []) := by
  have hx := C.1
  have hb := C.2.1
  unfold cb_X5_elements_5 at hm
  refine lv_iload_n hx hb dX5_elements_5 rfl (lv_at hl 1 rfl) ?_
  refine lv_sipush (v := 500) hx hb dX5_elements_6 (by decide) ?_
  refine lv_icmp_le (tgt := 21) hx hb dX5_elements_9 (by decide) (fun c_1 => ?_) (fun c_1 => ?_)
  · have hm := (if_pos c_1).symm.trans hm
    exact cw_X5_elements_21 fu C hret x1 F G hm hw (lv_sub hl [1] rfl)
  · have hm := (if_neg c_1).symm.trans hm
    exact cw_X5_elements_12 fu C hret x2 F G hm hw (lv_sub hl [0, 2] rfl)
theorem cn_X5_elements_0 (fu : Nat) {res : Int32 × PF × PG} (x1 : Int32) (x2 : Int32) (F : PF) (G : PG) (hm : cb_X5_elements_0 fu x1 x2 F G = some res) : xn F ≤ xn res.2.1 := by
  unfold cb_X5_elements_0 at hm
  by_cases c_1 : x1 < (1 : Int32)
  · have hm := (if_pos c_1).symm.trans hm
    exact (cn_X5_elements_12 fu x2 F G hm)
  · have hm := (if_neg c_1).symm.trans hm
    exact (cn_X5_elements_5 fu x1 x2 F G hm)
theorem cw_X5_elements_0 (fu : Nat) {res : Int32 × PF × PG} (C : cMC p R s m args c A v RX5 cX5_elements 3 1 22 (xn res.2.1 - xn K0)) (hret : ∀ (b1 : Nat) (H1 : Heap) (locs1 : List Loc) (ls1 : Array Slot) (pc : Nat), cMW s A v a b1 K0 res.2.1 res.2.2 H1 locs1 → narrow .int (.int res.1) = .int res.1 → decode cX5_elements pc = .ok (.ireturn, 1) → W p l e R s m args below meth c H1 locs1 (xn res.2.1 - xn K0) (2 * (xn res.2.1 - xn K0)) Q (F0 m pc ls1 [.int res.1])) (x1 : Int32) (x2 : Int32) (F : PF) (G : PG) (hm : cb_X5_elements_0 fu x1 x2 F G = some res) {b : Nat} {H : Heap} {locs : List Loc} (hw : cMW s A v a b K0 F G H locs) {ls : Array Slot} (hl : lv_has ls 3 [(0, .ref (a 205)), (1, .int x1), (2, .int x2)]) : W p l e R s m args below meth c H locs (xn F - xn K0) (2 * (xn F - xn K0)) Q (F0 m 0 ls []) := by
  have hx := C.1
  have hb := C.2.1
  unfold cb_X5_elements_0 at hm
  refine lv_iload_n hx hb dX5_elements_0 rfl (lv_at hl 1 rfl) ?_
  refine lv_iconst (v := 1) hx hb dX5_elements_1 (by decide) ?_
  refine lv_icmp_lt (tgt := 12) hx hb dX5_elements_2 (by decide) (fun c_1 => ?_) (fun c_1 => ?_)
  · have hm := (if_pos c_1).symm.trans hm
    exact cw_X5_elements_12 fu C hret x2 F G hm hw (lv_sub hl [0, 2] rfl)
  · have hm := (if_neg c_1).symm.trans hm
    exact cw_X5_elements_5 fu C hret x1 x2 F G hm hw (lv_sub hl [0, 1, 2] rfl)
theorem cn_X5_elements (fu : Nat) (x1 : Int32) (x2 : Int32) (F : PF) (G : PG) (q : Int32 × PF × PG) (hm : cf_X5_elements fu x1 x2 F G = some q) : xn F ≤ xn q.2.1 := cn_X5_elements_0 fu x1 x2 F G hm
theorem ck_X5_elements (l : Launch) (v : EV) (a : Nat → Nat) (b sz : Nat) (fu : Nat) (x1 : Int32) (x2 : Int32) (F : PF) (G : PG) (r : Int32) (F1 : PF) (G1 : PG) (hm : cf_X5_elements fu x1 x2 F G = some (r, F1, G1)) : cMI l yX5_elements cX5_elements 3 (some .int) 1 22 v a b sz [.ref (a 205), .int x1, .int x2] F G r F1 G1 := cMI.of (ty := .int) (by decide) rfl (Nat.le_of_ble_eq_true rfl) (fun p e R s m args below meth c Q A H locs ls C hw hl hret => cw_X5_elements_0 fu (res := (r, F1, G1)) C hret x1 x2 F G hm hw hl)
def cb_X3_arraySize_89 (fu : Nat) (x3 : Int32) (F : PF) (G : PG) : PR := some (x3, F, G)
def cb_X3_arraySize_80 (fu : Nat) (x3 : Int32) (F : PF) (G : PG) : PR := (cf_X2_closesWith fu 22 F G).bind (fun q => cb_X3_arraySize_89 fu x3 q.2.1 q.2.2)
def cb_X3_arraySize_71 (fu : Nat) (x2 : Int32) (z0 : Int32) (F : PF) (G : PG) : PR := (cf_X1_cut fu x2 F G).bind (fun q => cb_X3_arraySize_80 fu z0 q.2.1 q.2.2)
def cb_X3_arraySize_70 (fu : Nat) (x2 : Int32) (F : PF) (G : PG) : PR := cb_X3_arraySize_71 fu x2 0 F G
def cb_X3_arraySize_67 (fu : Nat) (x2 : Int32) (z0 : Int32) (F : PF) (G : PG) : PR := cb_X3_arraySize_71 fu x2 z0 F G
def cb_X3_arraySize_63 (fu : Nat) (x1 : Int32) (x2 : Int32) (z0 : Int32) (F : PF) (G : PG) : PR := (cf_X5_elements fu z0 x1 F G).bind (fun q => cb_X3_arraySize_67 fu x2 q.1 q.2.1 q.2.2)
def cb_X3_arraySize_51 (fu : Nat) (x1 : Int32) (x2 : Int32) (F : PF) (G : PG) : PR := (cf_X6_valueFrom fu x2 F G).bind (fun q => cb_X3_arraySize_63 fu x1 x2 q.1 q.2.1 q.2.2)
def cb_X3_arraySize_48 (fu : Nat) (x1 : Int32) (x2 : Int32) (z0 : Int32) (F : PF) (G : PG) : PR := if z0 = (0 : Int32) then cb_X3_arraySize_70 fu x2 F G else cb_X3_arraySize_51 fu x1 x2 F G
def cb_X3_arraySize_41 (fu : Nat) (x1 : Int32) (x2 : Int32) (F : PF) (G : PG) : PR := (cf_X5_endsConstant fu F G).bind (fun q => cb_X3_arraySize_48 fu x1 x2 q.1 q.2.1 q.2.2)
def cb_X3_arraySize_37 (fu : Nat) (x1 : Int32) (x2 : Int32) (F : PF) (G : PG) : PR := (cf_X3_expression fu F G).bind (fun q => cb_X3_arraySize_41 fu x1 x2 q.2.1 q.2.2)
def cb_X3_arraySize_14 (fu : Nat) (F : PF) (G : PG) : PR := (cf_X5_startConstant fu F G).bind (fun q => cb_X3_arraySize_37 fu (F 13) (F 6) q.2.1 q.2.2)
def cb_X3_arraySize_12 (fu : Nat) (F : PF) (G : PG) : PR := some (0, F, G)
def cb_X3_arraySize_9 (fu : Nat) (z0 : Int32) (F : PF) (G : PG) : PR := if z0 = (0 : Int32) then cb_X3_arraySize_12 fu F G else cb_X3_arraySize_14 fu F G
def cb_X3_arraySize_0 (fu : Nat) (F : PF) (G : PG) : PR := (cf_X2_opens fu 21 F G).bind (fun q => cb_X3_arraySize_9 fu q.1 q.2.1 q.2.2)
def cf_X3_arraySize (fu : Nat) (F : PF) (G : PG) : PR := cb_X3_arraySize_0 fu F G
theorem cn_X3_arraySize_89 (fu : Nat) {res : Int32 × PF × PG} (x3 : Int32) (F : PF) (G : PG) (hm : cb_X3_arraySize_89 fu x3 F G = some res) : xn F ≤ xn res.2.1 := by
  unfold cb_X3_arraySize_89 at hm
  obtain rfl := Option.some.inj hm
  exact Nat.le_refl _
theorem cw_X3_arraySize_89 (fu : Nat) {res : Int32 × PF × PG} (C : cMC p R s m args c A v RX3 cX3_arraySize 4 303 18071 (xn res.2.1 - xn K0)) (hret : ∀ (b1 : Nat) (H1 : Heap) (locs1 : List Loc) (ls1 : Array Slot) (pc : Nat), cMW s A v a b1 K0 res.2.1 res.2.2 H1 locs1 → narrow .int (.int res.1) = .int res.1 → decode cX3_arraySize pc = .ok (.ireturn, 1) → W p l e R s m args below meth c H1 locs1 (xn res.2.1 - xn K0) (2 * (xn res.2.1 - xn K0)) Q (F0 m pc ls1 [.int res.1])) (x3 : Int32) (F : PF) (G : PG) (hm : cb_X3_arraySize_89 fu x3 F G = some res) {b : Nat} {H : Heap} {locs : List Loc} (hw : cMW s A v a b K0 F G H locs) {ls : Array Slot} (hl : lv_has ls 4 [(3, .int x3)]) : W p l e R s m args below meth c H locs (xn F - xn K0) (2 * (xn F - xn K0)) Q (F0 m 89 ls []) := by
  have hx := C.1
  have hb := C.2.1
  unfold cb_X3_arraySize_89 at hm
  refine lv_iload_n hx hb dX3_arraySize_89 rfl (lv_at hl 0 rfl) ?_
  obtain rfl := Option.some.inj hm
  exact hret _ _ _ _ _ hw rfl dX3_arraySize_90
theorem cn_X3_arraySize_80 (fu : Nat) {res : Int32 × PF × PG} (x3 : Int32) (F : PF) (G : PG) (hm : cb_X3_arraySize_80 fu x3 F G = some res) : xn F ≤ xn res.2.1 := by
  unfold cb_X3_arraySize_80 at hm
  obtain ⟨⟨r1, F1, G1⟩, hc, hm⟩ := bind_elim hm
  exact Nat.le_trans (cn_X2_closesWith fu 22 F G _ hc) (cn_X3_arraySize_89 fu x3 F1 G1 hm)
theorem cw_X3_arraySize_80 (fu : Nat) {res : Int32 × PF × PG} (C : cMC p R s m args c A v RX3 cX3_arraySize 4 303 18071 (xn res.2.1 - xn K0)) (hret : ∀ (b1 : Nat) (H1 : Heap) (locs1 : List Loc) (ls1 : Array Slot) (pc : Nat), cMW s A v a b1 K0 res.2.1 res.2.2 H1 locs1 → narrow .int (.int res.1) = .int res.1 → decode cX3_arraySize pc = .ok (.ireturn, 1) → W p l e R s m args below meth c H1 locs1 (xn res.2.1 - xn K0) (2 * (xn res.2.1 - xn K0)) Q (F0 m pc ls1 [.int res.1])) (x3 : Int32) (F : PF) (G : PG) (hm : cb_X3_arraySize_80 fu x3 F G = some res) {b : Nat} {H : Heap} {locs : List Loc} (hw : cMW s A v a b K0 F G H locs) {ls : Array Slot} (hl : lv_has ls 4 [(0, .ref (a 203)), (3, .int x3)]) : W p l e R s m args below meth c H locs (xn F - xn K0) (2 * (xn F - xn K0)) Q (F0 m 80 ls []) := by
  have hx := C.1
  have hb := C.2.1
  unfold cb_X3_arraySize_80 at hm
  refine lv_aload_n hx hb dX3_arraySize_80 rfl (lv_at hl 0 rfl) ?_
  refine cg_X3_15 C hw dX3_arraySize_81 ?_
  refine lv_bipush (v := 22) hx hb dX3_arraySize_84 (by decide) ?_
  obtain ⟨⟨r1, F1, G1⟩, hc, hm⟩ := bind_elim hm
  refine ccallV (n := 1) (As := [.int 22]) (rest := []) C hw (ck_X2_closesWith l v a _ _ fu 22 F G r1 F1 G1 hc) (cn_X2_closesWith fu 22 F G _ hc) (Nat.sub_le_sub_right (cn_X3_arraySize_89 fu x3 F1 G1 hm) _) (crecv_X2 C hw) cm_458 cm_459 cm_460 cm_307 cm_461 (by decide +kernel) rfl (by omega) (by omega) hl.1 rfl (Nat.le_of_ble_eq_true rfl) dX3_arraySize_86 (fun b H locs hw => ?_)
  exact cw_X3_arraySize_89 fu C hret x3 F1 G1 hm hw (lv_sub hl [1] rfl)
theorem cn_X3_arraySize_71 (fu : Nat) {res : Int32 × PF × PG} (x2 : Int32) (z0 : Int32) (F : PF) (G : PG) (hm : cb_X3_arraySize_71 fu x2 z0 F G = some res) : xn F ≤ xn res.2.1 := by
  unfold cb_X3_arraySize_71 at hm
  obtain ⟨⟨r1, F1, G1⟩, hc, hm⟩ := bind_elim hm
  exact Nat.le_trans (cn_X1_cut fu x2 F G _ hc) (cn_X3_arraySize_80 fu z0 F1 G1 hm)
theorem cw_X3_arraySize_71 (fu : Nat) {res : Int32 × PF × PG} (C : cMC p R s m args c A v RX3 cX3_arraySize 4 303 18071 (xn res.2.1 - xn K0)) (hret : ∀ (b1 : Nat) (H1 : Heap) (locs1 : List Loc) (ls1 : Array Slot) (pc : Nat), cMW s A v a b1 K0 res.2.1 res.2.2 H1 locs1 → narrow .int (.int res.1) = .int res.1 → decode cX3_arraySize pc = .ok (.ireturn, 1) → W p l e R s m args below meth c H1 locs1 (xn res.2.1 - xn K0) (2 * (xn res.2.1 - xn K0)) Q (F0 m pc ls1 [.int res.1])) (x2 : Int32) (z0 : Int32) (F : PF) (G : PG) (hm : cb_X3_arraySize_71 fu x2 z0 F G = some res) {b : Nat} {H : Heap} {locs : List Loc} (hw : cMW s A v a b K0 F G H locs) {ls : Array Slot} (hl : lv_has ls 4 [(0, .ref (a 203)), (2, .int x2)]) : W p l e R s m args below meth c H locs (xn F - xn K0) (2 * (xn F - xn K0)) Q (F0 m 71 ls [.int z0]) := by
  have hx := C.1
  have hb := C.2.1
  unfold cb_X3_arraySize_71 at hm
  refine lv_istore_n (lv' := [(3, .int z0), (0, .ref (a 203)), (2, .int x2)]) hx hb dX3_arraySize_71 rfl hl (by decide) rfl (fun ls hl => ?_)
  refine lv_aload_n hx hb dX3_arraySize_72 rfl (lv_at hl 1 rfl) ?_
  refine cg_X3_23 C hw dX3_arraySize_73 ?_
  refine lv_iload_n hx hb dX3_arraySize_76 rfl (lv_at hl 2 rfl) ?_
  obtain ⟨⟨r1, F1, G1⟩, hc, hm⟩ := bind_elim hm
  refine ccallV (n := 1) (As := [.int x2]) (rest := []) C hw (ck_X1_cut l v a _ _ fu x2 F G r1 F1 G1 hc) (cn_X1_cut fu x2 F G _ hc) (Nat.sub_le_sub_right (cn_X3_arraySize_80 fu z0 F1 G1 hm) _) (crecv_X1 C hw) cm_570 cm_571 cm_572 cm_369 cm_573 (by decide +kernel) rfl (by omega) (by omega) hl.1 rfl (Nat.le_of_ble_eq_true rfl) dX3_arraySize_77 (fun b H locs hw => ?_)
  exact cw_X3_arraySize_80 fu C hret z0 F1 G1 hm hw (lv_sub hl [1, 0] rfl)
theorem cn_X3_arraySize_70 (fu : Nat) {res : Int32 × PF × PG} (x2 : Int32) (F : PF) (G : PG) (hm : cb_X3_arraySize_70 fu x2 F G = some res) : xn F ≤ xn res.2.1 := by
  unfold cb_X3_arraySize_70 at hm
  exact (cn_X3_arraySize_71 fu x2 0 F G hm)
theorem cw_X3_arraySize_70 (fu : Nat) {res : Int32 × PF × PG} (C : cMC p R s m args c A v RX3 cX3_arraySize 4 303 18071 (xn res.2.1 - xn K0)) (hret : ∀ (b1 : Nat) (H1 : Heap) (locs1 : List Loc) (ls1 : Array Slot) (pc : Nat), cMW s A v a b1 K0 res.2.1 res.2.2 H1 locs1 → narrow .int (.int res.1) = .int res.1 → decode cX3_arraySize pc = .ok (.ireturn, 1) → W p l e R s m args below meth c H1 locs1 (xn res.2.1 - xn K0) (2 * (xn res.2.1 - xn K0)) Q (F0 m pc ls1 [.int res.1])) (x2 : Int32) (F : PF) (G : PG) (hm : cb_X3_arraySize_70 fu x2 F G = some res) {b : Nat} {H : Heap} {locs : List Loc} (hw : cMW s A v a b K0 F G H locs) {ls : Array Slot} (hl : lv_has ls 4 [(0, .ref (a 203)), (2, .int x2)]) : W p l e R s m args below meth c H locs (xn F - xn K0) (2 * (xn F - xn K0)) Q (F0 m 70 ls []) := by
  have hx := C.1
  have hb := C.2.1
  unfold cb_X3_arraySize_70 at hm
  refine lv_iconst (v := 0) hx hb dX3_arraySize_70 (by decide) ?_
  exact cw_X3_arraySize_71 fu C hret x2 0 F G hm hw (lv_sub hl [0, 1] rfl)
theorem cn_X3_arraySize_67 (fu : Nat) {res : Int32 × PF × PG} (x2 : Int32) (z0 : Int32) (F : PF) (G : PG) (hm : cb_X3_arraySize_67 fu x2 z0 F G = some res) : xn F ≤ xn res.2.1 := by
  unfold cb_X3_arraySize_67 at hm
  exact (cn_X3_arraySize_71 fu x2 z0 F G hm)
theorem cw_X3_arraySize_67 (fu : Nat) {res : Int32 × PF × PG} (C : cMC p R s m args c A v RX3 cX3_arraySize 4 303 18071 (xn res.2.1 - xn K0)) (hret : ∀ (b1 : Nat) (H1 : Heap) (locs1 : List Loc) (ls1 : Array Slot) (pc : Nat), cMW s A v a b1 K0 res.2.1 res.2.2 H1 locs1 → narrow .int (.int res.1) = .int res.1 → decode cX3_arraySize pc = .ok (.ireturn, 1) → W p l e R s m args below meth c H1 locs1 (xn res.2.1 - xn K0) (2 * (xn res.2.1 - xn K0)) Q (F0 m pc ls1 [.int res.1])) (x2 : Int32) (z0 : Int32) (F : PF) (G : PG) (hm : cb_X3_arraySize_67 fu x2 z0 F G = some res) {b : Nat} {H : Heap} {locs : List Loc} (hw : cMW s A v a b K0 F G H locs) {ls : Array Slot} (hl : lv_has ls 4 [(0, .ref (a 203)), (2, .int x2)]) : W p l e R s m args below meth c H locs (xn F - xn K0) (2 * (xn F - xn K0)) Q (F0 m 67 ls [.int z0]) := by
  have hx := C.1
  have hb := C.2.1
  unfold cb_X3_arraySize_67 at hm
  refine lv_goto (tgt := 71) hx hb dX3_arraySize_67 (by decide) ?_
  exact cw_X3_arraySize_71 fu C hret x2 z0 F G hm hw (lv_sub hl [0, 1] rfl)
theorem cn_X3_arraySize_63 (fu : Nat) {res : Int32 × PF × PG} (x1 : Int32) (x2 : Int32) (z0 : Int32) (F : PF) (G : PG) (hm : cb_X3_arraySize_63 fu x1 x2 z0 F G = some res) : xn F ≤ xn res.2.1 := by
  unfold cb_X3_arraySize_63 at hm
  obtain ⟨⟨r1, F1, G1⟩, hc, hm⟩ := bind_elim hm
  exact Nat.le_trans (cn_X5_elements fu z0 x1 F G _ hc) (cn_X3_arraySize_67 fu x2 r1 F1 G1 hm)
theorem cw_X3_arraySize_63 (fu : Nat) {res : Int32 × PF × PG} (C : cMC p R s m args c A v RX3 cX3_arraySize 4 303 18071 (xn res.2.1 - xn K0)) (hret : ∀ (b1 : Nat) (H1 : Heap) (locs1 : List Loc) (ls1 : Array Slot) (pc : Nat), cMW s A v a b1 K0 res.2.1 res.2.2 H1 locs1 → narrow .int (.int res.1) = .int res.1 → decode cX3_arraySize pc = .ok (.ireturn, 1) → W p l e R s m args below meth c H1 locs1 (xn res.2.1 - xn K0) (2 * (xn res.2.1 - xn K0)) Q (F0 m pc ls1 [.int res.1])) (x1 : Int32) (x2 : Int32) (z0 : Int32) (F : PF) (G : PG) (hm : cb_X3_arraySize_63 fu x1 x2 z0 F G = some res) {b : Nat} {H : Heap} {locs : List Loc} (hw : cMW s A v a b K0 F G H locs) {ls : Array Slot} (hl : lv_has ls 4 [(0, .ref (a 203)), (1, .int x1), (2, .int x2)]) : W p l e R s m args below meth c H locs (xn F - xn K0) (2 * (xn F - xn K0)) Q (F0 m 63 ls [.int z0, .ref (a 205)]) := by
  have hx := C.1
  have hb := C.2.1
  unfold cb_X3_arraySize_63 at hm
  refine lv_iload_n hx hb dX3_arraySize_63 rfl (lv_at hl 1 rfl) ?_
  obtain ⟨⟨r1, F1, G1⟩, hc, hm⟩ := bind_elim hm
  refine ccallI (n := 2) (As := [.int z0, .int x1]) (rest := []) C hw (ck_X5_elements l v a _ _ fu z0 x1 F G r1 F1 G1 hc) (cn_X5_elements fu z0 x1 F G _ hc) (Nat.sub_le_sub_right (cn_X3_arraySize_67 fu x2 r1 F1 G1 hm) _) (crecv_X5 C hw) cm_672 cm_673 cm_674 cm_266 cm_675 (by decide +kernel) rfl (by omega) (by omega) hl.1 rfl (Nat.le_of_ble_eq_true rfl) dX3_arraySize_64 (fun b H locs hw => ?_)
  exact cw_X3_arraySize_67 fu C hret x2 r1 F1 G1 hm hw (lv_sub hl [0, 2] rfl)
theorem cn_X3_arraySize_51 (fu : Nat) {res : Int32 × PF × PG} (x1 : Int32) (x2 : Int32) (F : PF) (G : PG) (hm : cb_X3_arraySize_51 fu x1 x2 F G = some res) : xn F ≤ xn res.2.1 := by
  unfold cb_X3_arraySize_51 at hm
  obtain ⟨⟨r1, F1, G1⟩, hc, hm⟩ := bind_elim hm
  exact Nat.le_trans (cn_X6_valueFrom fu x2 F G _ hc) (cn_X3_arraySize_63 fu x1 x2 r1 F1 G1 hm)
theorem cw_X3_arraySize_51 (fu : Nat) {res : Int32 × PF × PG} (C : cMC p R s m args c A v RX3 cX3_arraySize 4 303 18071 (xn res.2.1 - xn K0)) (hret : ∀ (b1 : Nat) (H1 : Heap) (locs1 : List Loc) (ls1 : Array Slot) (pc : Nat), cMW s A v a b1 K0 res.2.1 res.2.2 H1 locs1 → narrow .int (.int res.1) = .int res.1 → decode cX3_arraySize pc = .ok (.ireturn, 1) → W p l e R s m args below meth c H1 locs1 (xn res.2.1 - xn K0) (2 * (xn res.2.1 - xn K0)) Q (F0 m pc ls1 [.int res.1])) (x1 : Int32) (x2 : Int32) (F : PF) (G : PG) (hm : cb_X3_arraySize_51 fu x1 x2 F G = some res) {b : Nat} {H : Heap} {locs : List Loc} (hw : cMW s A v a b K0 F G H locs) {ls : Array Slot} (hl : lv_has ls 4 [(0, .ref (a 203)), (1, .int x1), (2, .int x2)]) : W p l e R s m args below meth c H locs (xn F - xn K0) (2 * (xn F - xn K0)) Q (F0 m 51 ls []) := by
  have hx := C.1
  have hb := C.2.1
  unfold cb_X3_arraySize_51 at hm
  refine lv_aload_n hx hb dX3_arraySize_51 rfl (lv_at hl 0 rfl) ?_
  refine cg_X3_19 C hw dX3_arraySize_52 ?_
  refine lv_aload_n hx hb dX3_arraySize_55 rfl (lv_at hl 0 rfl) ?_
  refine cg_X3_31 C hw dX3_arraySize_56 ?_
  refine lv_iload_n hx hb dX3_arraySize_59 rfl (lv_at hl 2 rfl) ?_
  obtain ⟨⟨r1, F1, G1⟩, hc, hm⟩ := bind_elim hm
  refine ccallI (n := 1) (As := [.int x2]) (rest := [.ref (a 205)]) C hw (ck_X6_valueFrom l v a _ _ fu x2 F G r1 F1 G1 hc) (cn_X6_valueFrom fu x2 F G _ hc) (Nat.sub_le_sub_right (cn_X3_arraySize_63 fu x1 x2 r1 F1 G1 hm) _) (crecv_X6 C hw) cm_521 cm_522 cm_523 cm_21 cm_524 (by decide +kernel) rfl (by omega) (by omega) hl.1 rfl (Nat.le_of_ble_eq_true rfl) dX3_arraySize_60 (fun b H locs hw => ?_)
  exact cw_X3_arraySize_63 fu C hret x1 x2 r1 F1 G1 hm hw (lv_sub hl [0, 1, 2] rfl)
theorem cn_X3_arraySize_48 (fu : Nat) {res : Int32 × PF × PG} (x1 : Int32) (x2 : Int32) (z0 : Int32) (F : PF) (G : PG) (hm : cb_X3_arraySize_48 fu x1 x2 z0 F G = some res) : xn F ≤ xn res.2.1 := by
  unfold cb_X3_arraySize_48 at hm
  by_cases c_1 : z0 = (0 : Int32)
  · have hm := (if_pos c_1).symm.trans hm
    exact (cn_X3_arraySize_70 fu x2 F G hm)
  · have hm := (if_neg c_1).symm.trans hm
    exact (cn_X3_arraySize_51 fu x1 x2 F G hm)
theorem cw_X3_arraySize_48 (fu : Nat) {res : Int32 × PF × PG} (C : cMC p R s m args c A v RX3 cX3_arraySize 4 303 18071 (xn res.2.1 - xn K0)) (hret : ∀ (b1 : Nat) (H1 : Heap) (locs1 : List Loc) (ls1 : Array Slot) (pc : Nat), cMW s A v a b1 K0 res.2.1 res.2.2 H1 locs1 → narrow .int (.int res.1) = .int res.1 → decode cX3_arraySize pc = .ok (.ireturn, 1) → W p l e R s m args below meth c H1 locs1 (xn res.2.1 - xn K0) (2 * (xn res.2.1 - xn K0)) Q (F0 m pc ls1 [.int res.1])) (x1 : Int32) (x2 : Int32) (z0 : Int32) (F : PF) (G : PG) (hm : cb_X3_arraySize_48 fu x1 x2 z0 F G = some res) {b : Nat} {H : Heap} {locs : List Loc} (hw : cMW s A v a b K0 F G H locs) {ls : Array Slot} (hl : lv_has ls 4 [(0, .ref (a 203)), (1, .int x1), (2, .int x2)]) : W p l e R s m args below meth c H locs (xn F - xn K0) (2 * (xn F - xn K0)) Q (F0 m 48 ls [.int z0]) := by
  have hx := C.1
  have hb := C.2.1
  unfold cb_X3_arraySize_48 at hm
  refine lv_if_eq (tgt := 70) hx hb dX3_arraySize_48 (by decide) (fun c_1 => ?_) (fun c_1 => ?_)
  · have hm := (if_pos c_1).symm.trans hm
    exact cw_X3_arraySize_70 fu C hret x2 F G hm hw (lv_sub hl [0, 2] rfl)
  · have hm := (if_neg c_1).symm.trans hm
    exact cw_X3_arraySize_51 fu C hret x1 x2 F G hm hw (lv_sub hl [0, 1, 2] rfl)
theorem cn_X3_arraySize_41 (fu : Nat) {res : Int32 × PF × PG} (x1 : Int32) (x2 : Int32) (F : PF) (G : PG) (hm : cb_X3_arraySize_41 fu x1 x2 F G = some res) : xn F ≤ xn res.2.1 := by
  unfold cb_X3_arraySize_41 at hm
  obtain ⟨⟨r1, F1, G1⟩, hc, hm⟩ := bind_elim hm
  exact Nat.le_trans (cn_X5_endsConstant fu F G _ hc) (cn_X3_arraySize_48 fu x1 x2 r1 F1 G1 hm)
theorem cw_X3_arraySize_41 (fu : Nat) {res : Int32 × PF × PG} (C : cMC p R s m args c A v RX3 cX3_arraySize 4 303 18071 (xn res.2.1 - xn K0)) (hret : ∀ (b1 : Nat) (H1 : Heap) (locs1 : List Loc) (ls1 : Array Slot) (pc : Nat), cMW s A v a b1 K0 res.2.1 res.2.2 H1 locs1 → narrow .int (.int res.1) = .int res.1 → decode cX3_arraySize pc = .ok (.ireturn, 1) → W p l e R s m args below meth c H1 locs1 (xn res.2.1 - xn K0) (2 * (xn res.2.1 - xn K0)) Q (F0 m pc ls1 [.int res.1])) (x1 : Int32) (x2 : Int32) (F : PF) (G : PG) (hm : cb_X3_arraySize_41 fu x1 x2 F G = some res) {b : Nat} {H : Heap} {locs : List Loc} (hw : cMW s A v a b K0 F G H locs) {ls : Array Slot} (hl : lv_has ls 4 [(0, .ref (a 203)), (1, .int x1), (2, .int x2)]) : W p l e R s m args below meth c H locs (xn F - xn K0) (2 * (xn F - xn K0)) Q (F0 m 41 ls []) := by
  have hx := C.1
  have hb := C.2.1
  unfold cb_X3_arraySize_41 at hm
  refine lv_aload_n hx hb dX3_arraySize_41 rfl (lv_at hl 0 rfl) ?_
  refine cg_X3_19 C hw dX3_arraySize_42 ?_
  obtain ⟨⟨r1, F1, G1⟩, hc, hm⟩ := bind_elim hm
  refine ccallI (n := 0) (As := []) (rest := []) C hw (ck_X5_endsConstant l v a _ _ fu F G r1 F1 G1 hc) (cn_X5_endsConstant fu F G _ hc) (Nat.sub_le_sub_right (cn_X3_arraySize_48 fu x1 x2 r1 F1 G1 hm) _) (crecv_X5 C hw) cm_517 cm_518 cm_519 cm_266 cm_520 (by decide +kernel) rfl (by omega) (by omega) hl.1 rfl (Nat.le_of_ble_eq_true rfl) dX3_arraySize_45 (fun b H locs hw => ?_)
  exact cw_X3_arraySize_48 fu C hret x1 x2 r1 F1 G1 hm hw (lv_sub hl [0, 1, 2] rfl)
theorem cn_X3_arraySize_37 (fu : Nat) {res : Int32 × PF × PG} (x1 : Int32) (x2 : Int32) (F : PF) (G : PG) (hm : cb_X3_arraySize_37 fu x1 x2 F G = some res) : xn F ≤ xn res.2.1 := by
  unfold cb_X3_arraySize_37 at hm
  obtain ⟨⟨r1, F1, G1⟩, hc, hm⟩ := bind_elim hm
  exact Nat.le_trans (cn_X3_expression fu F G _ hc) (cn_X3_arraySize_41 fu x1 x2 F1 G1 hm)
theorem cw_X3_arraySize_37 (fu : Nat) {res : Int32 × PF × PG} (C : cMC p R s m args c A v RX3 cX3_arraySize 4 303 18071 (xn res.2.1 - xn K0)) (hret : ∀ (b1 : Nat) (H1 : Heap) (locs1 : List Loc) (ls1 : Array Slot) (pc : Nat), cMW s A v a b1 K0 res.2.1 res.2.2 H1 locs1 → narrow .int (.int res.1) = .int res.1 → decode cX3_arraySize pc = .ok (.ireturn, 1) → W p l e R s m args below meth c H1 locs1 (xn res.2.1 - xn K0) (2 * (xn res.2.1 - xn K0)) Q (F0 m pc ls1 [.int res.1])) (x1 : Int32) (x2 : Int32) (F : PF) (G : PG) (hm : cb_X3_arraySize_37 fu x1 x2 F G = some res) {b : Nat} {H : Heap} {locs : List Loc} (hw : cMW s A v a b K0 F G H locs) {ls : Array Slot} (hl : lv_has ls 4 [(0, .ref (a 203)), (1, .int x1), (2, .int x2)]) : W p l e R s m args below meth c H locs (xn F - xn K0) (2 * (xn F - xn K0)) Q (F0 m 37 ls []) := by
  have hx := C.1
  have hb := C.2.1
  unfold cb_X3_arraySize_37 at hm
  refine lv_aload_n hx hb dX3_arraySize_37 rfl (lv_at hl 0 rfl) ?_
  obtain ⟨⟨r1, F1, G1⟩, hc, hm⟩ := bind_elim hm
  refine ccallV (n := 0) (As := []) (rest := []) C hw (ck_X3_expression l v a _ _ fu F G r1 F1 G1 hc) (cn_X3_expression fu F G _ hc) (Nat.sub_le_sub_right (cn_X3_arraySize_41 fu x1 x2 F1 G1 hm) _) (crecv_X3 C hw) cm_353 cm_354 cm_355 cm_301 cm_356 (by decide +kernel) rfl (by omega) (by omega) hl.1 rfl (Nat.le_of_ble_eq_true rfl) dX3_arraySize_38 (fun b H locs hw => ?_)
  exact cw_X3_arraySize_41 fu C hret x1 x2 F1 G1 hm hw (lv_sub hl [0, 1, 2] rfl)
theorem cn_X3_arraySize_14 (fu : Nat) {res : Int32 × PF × PG} (F : PF) (G : PG) (hm : cb_X3_arraySize_14 fu F G = some res) : xn F ≤ xn res.2.1 := by
  unfold cb_X3_arraySize_14 at hm
  obtain ⟨⟨r1, F1, G1⟩, hc, hm⟩ := bind_elim hm
  exact Nat.le_trans (cn_X5_startConstant fu F G _ hc) (cn_X3_arraySize_37 fu (F 13) (F 6) F1 G1 hm)
theorem cw_X3_arraySize_14 (fu : Nat) {res : Int32 × PF × PG} (C : cMC p R s m args c A v RX3 cX3_arraySize 4 303 18071 (xn res.2.1 - xn K0)) (hret : ∀ (b1 : Nat) (H1 : Heap) (locs1 : List Loc) (ls1 : Array Slot) (pc : Nat), cMW s A v a b1 K0 res.2.1 res.2.2 H1 locs1 → narrow .int (.int res.1) = .int res.1 → decode cX3_arraySize pc = .ok (.ireturn, 1) → W p l e R s m args below meth c H1 locs1 (xn res.2.1 - xn K0) (2 * (xn res.2.1 - xn K0)) Q (F0 m pc ls1 [.int res.1])) (F : PF) (G : PG) (hm : cb_X3_arraySize_14 fu F G = some res) {b : Nat} {H : Heap} {locs : List Loc} (hw : cMW s A v a b K0 F G H locs) {ls : Array Slot} (hl : lv_has ls 4 [(0, .ref (a 203))]) : W p l e R s m args below meth c H locs (xn F - xn K0) (2 * (xn F - xn K0)) Q (F0 m 14 ls []) := by
  have hx := C.1
  have hb := C.2.1
  unfold cb_X3_arraySize_14 at hm
  refine lv_aload_n hx hb dX3_arraySize_14 rfl (lv_at hl 0 rfl) ?_
  refine cg_X3_15 C hw dX3_arraySize_15 ?_
  refine cg_X3_72 C hw dX3_arraySize_18 ?_
  refine lv_istore_n (lv' := [(1, .int (F 13)), (0, .ref (a 203))]) hx hb dX3_arraySize_21 rfl hl (by decide) rfl (fun ls hl => ?_)
  refine lv_aload_n hx hb dX3_arraySize_22 rfl (lv_at hl 1 rfl) ?_
  refine cg_X3_23 C hw dX3_arraySize_23 ?_
  refine cg_X3_39 C hw dX3_arraySize_26 ?_
  refine lv_istore_n (lv' := [(2, .int (F 6)), (1, .int (F 13)), (0, .ref (a 203))]) hx hb dX3_arraySize_29 rfl hl (by decide) rfl (fun ls hl => ?_)
  refine lv_aload_n hx hb dX3_arraySize_30 rfl (lv_at hl 2 rfl) ?_
  refine cg_X3_19 C hw dX3_arraySize_31 ?_
  obtain ⟨⟨r1, F1, G1⟩, hc, hm⟩ := bind_elim hm
  refine ccallV (n := 0) (As := []) (rest := []) C hw (ck_X5_startConstant l v a _ _ fu F G r1 F1 G1 hc) (cn_X5_startConstant fu F G _ hc) (Nat.sub_le_sub_right (cn_X3_arraySize_37 fu (F 13) (F 6) F1 G1 hm) _) (crecv_X5 C hw) cm_349 cm_350 cm_351 cm_266 cm_352 (by decide +kernel) rfl (by omega) (by omega) hl.1 rfl (Nat.le_of_ble_eq_true rfl) dX3_arraySize_34 (fun b H locs hw => ?_)
  exact cw_X3_arraySize_37 fu C hret (F 13) (F 6) F1 G1 hm hw (lv_sub hl [2, 1, 0] rfl)
theorem cn_X3_arraySize_12 (fu : Nat) {res : Int32 × PF × PG} (F : PF) (G : PG) (hm : cb_X3_arraySize_12 fu F G = some res) : xn F ≤ xn res.2.1 := by
  unfold cb_X3_arraySize_12 at hm
  obtain rfl := Option.some.inj hm
  exact Nat.le_refl _
theorem cw_X3_arraySize_12 (fu : Nat) {res : Int32 × PF × PG} (C : cMC p R s m args c A v RX3 cX3_arraySize 4 303 18071 (xn res.2.1 - xn K0)) (hret : ∀ (b1 : Nat) (H1 : Heap) (locs1 : List Loc) (ls1 : Array Slot) (pc : Nat), cMW s A v a b1 K0 res.2.1 res.2.2 H1 locs1 → narrow .int (.int res.1) = .int res.1 → decode cX3_arraySize pc = .ok (.ireturn, 1) → W p l e R s m args below meth c H1 locs1 (xn res.2.1 - xn K0) (2 * (xn res.2.1 - xn K0)) Q (F0 m pc ls1 [.int res.1])) (F : PF) (G : PG) (hm : cb_X3_arraySize_12 fu F G = some res) {b : Nat} {H : Heap} {locs : List Loc} (hw : cMW s A v a b K0 F G H locs) {ls : Array Slot} (hl : lv_has ls 4 []) : W p l e R s m args below meth c H locs (xn F - xn K0) (2 * (xn F - xn K0)) Q (F0 m 12 ls []) := by
  have hx := C.1
  have hb := C.2.1
  unfold cb_X3_arraySize_12 at hm
  refine lv_iconst (v := 0) hx hb dX3_arraySize_12 (by decide) ?_
  obtain rfl := Option.some.inj hm
  exact hret _ _ _ _ _ hw rfl dX3_arraySize_13
theorem cn_X3_arraySize_9 (fu : Nat) {res : Int32 × PF × PG} (z0 : Int32) (F : PF) (G : PG) (hm : cb_X3_arraySize_9 fu z0 F G = some res) : xn F ≤ xn res.2.1 := by
  unfold cb_X3_arraySize_9 at hm
  by_cases c_1 : z0 = (0 : Int32)
  · have hm := (if_pos c_1).symm.trans hm
    exact (cn_X3_arraySize_12 fu F G hm)
  · have hm := (if_neg c_1).symm.trans hm
    exact (cn_X3_arraySize_14 fu F G hm)
theorem cw_X3_arraySize_9 (fu : Nat) {res : Int32 × PF × PG} (C : cMC p R s m args c A v RX3 cX3_arraySize 4 303 18071 (xn res.2.1 - xn K0)) (hret : ∀ (b1 : Nat) (H1 : Heap) (locs1 : List Loc) (ls1 : Array Slot) (pc : Nat), cMW s A v a b1 K0 res.2.1 res.2.2 H1 locs1 → narrow .int (.int res.1) = .int res.1 → decode cX3_arraySize pc = .ok (.ireturn, 1) → W p l e R s m args below meth c H1 locs1 (xn res.2.1 - xn K0) (2 * (xn res.2.1 - xn K0)) Q (F0 m pc ls1 [.int res.1])) (z0 : Int32) (F : PF) (G : PG) (hm : cb_X3_arraySize_9 fu z0 F G = some res) {b : Nat} {H : Heap} {locs : List Loc} (hw : cMW s A v a b K0 F G H locs) {ls : Array Slot} (hl : lv_has ls 4 [(0, .ref (a 203))]) : W p l e R s m args below meth c H locs (xn F - xn K0) (2 * (xn F - xn K0)) Q (F0 m 9 ls [.int z0]) := by
  have hx := C.1
  have hb := C.2.1
  unfold cb_X3_arraySize_9 at hm
  refine lv_if_ne (tgt := 14) hx hb dX3_arraySize_9 (by decide) (fun c_1 => ?_) (fun c_1 => ?_)
  · have hm := (if_neg c_1).symm.trans hm
    exact cw_X3_arraySize_14 fu C hret F G hm hw (lv_sub hl [0] rfl)
  · have hm := (if_pos c_1).symm.trans hm
    exact cw_X3_arraySize_12 fu C hret F G hm hw (lv_sub hl [] rfl)
theorem cn_X3_arraySize_0 (fu : Nat) {res : Int32 × PF × PG} (F : PF) (G : PG) (hm : cb_X3_arraySize_0 fu F G = some res) : xn F ≤ xn res.2.1 := by
  unfold cb_X3_arraySize_0 at hm
  obtain ⟨⟨r1, F1, G1⟩, hc, hm⟩ := bind_elim hm
  exact Nat.le_trans (cn_X2_opens fu 21 F G _ hc) (cn_X3_arraySize_9 fu r1 F1 G1 hm)
theorem cw_X3_arraySize_0 (fu : Nat) {res : Int32 × PF × PG} (C : cMC p R s m args c A v RX3 cX3_arraySize 4 303 18071 (xn res.2.1 - xn K0)) (hret : ∀ (b1 : Nat) (H1 : Heap) (locs1 : List Loc) (ls1 : Array Slot) (pc : Nat), cMW s A v a b1 K0 res.2.1 res.2.2 H1 locs1 → narrow .int (.int res.1) = .int res.1 → decode cX3_arraySize pc = .ok (.ireturn, 1) → W p l e R s m args below meth c H1 locs1 (xn res.2.1 - xn K0) (2 * (xn res.2.1 - xn K0)) Q (F0 m pc ls1 [.int res.1])) (F : PF) (G : PG) (hm : cb_X3_arraySize_0 fu F G = some res) {b : Nat} {H : Heap} {locs : List Loc} (hw : cMW s A v a b K0 F G H locs) {ls : Array Slot} (hl : lv_has ls 4 [(0, .ref (a 203))]) : W p l e R s m args below meth c H locs (xn F - xn K0) (2 * (xn F - xn K0)) Q (F0 m 0 ls []) := by
  have hx := C.1
  have hb := C.2.1
  unfold cb_X3_arraySize_0 at hm
  refine lv_aload_n hx hb dX3_arraySize_0 rfl (lv_at hl 0 rfl) ?_
  refine cg_X3_15 C hw dX3_arraySize_1 ?_
  refine lv_bipush (v := 21) hx hb dX3_arraySize_4 (by decide) ?_
  obtain ⟨⟨r1, F1, G1⟩, hc, hm⟩ := bind_elim hm
  refine ccallI (n := 1) (As := [.int 21]) (rest := []) C hw (ck_X2_opens l v a _ _ fu 21 F G r1 F1 G1 hc) (cn_X2_opens fu 21 F G _ hc) (Nat.sub_le_sub_right (cn_X3_arraySize_9 fu r1 F1 G1 hm) _) (crecv_X2 C hw) cm_362 cm_363 cm_364 cm_307 cm_365 (by decide +kernel) rfl (by omega) (by omega) hl.1 rfl (Nat.le_of_ble_eq_true rfl) dX3_arraySize_6 (fun b H locs hw => ?_)
  exact cw_X3_arraySize_9 fu C hret r1 F1 G1 hm hw (lv_sub hl [0] rfl)
theorem cn_X3_arraySize (fu : Nat) (F : PF) (G : PG) (q : Int32 × PF × PG) (hm : cf_X3_arraySize fu F G = some q) : xn F ≤ xn q.2.1 := cn_X3_arraySize_0 fu F G hm
theorem ck_X3_arraySize (l : Launch) (v : EV) (a : Nat → Nat) (b sz : Nat) (fu : Nat) (F : PF) (G : PG) (r : Int32) (F1 : PF) (G1 : PG) (hm : cf_X3_arraySize fu F G = some (r, F1, G1)) : cMI l yX3_arraySize cX3_arraySize 4 (some .int) 303 18071 v a b sz [.ref (a 203)] F G r F1 G1 := cMI.of (ty := .int) (by decide) rfl (Nat.le_of_ble_eq_true rfl) (fun p e R s m args below meth c Q A H locs ls C hw hl hret => cw_X3_arraySize_0 fu (res := (r, F1, G1)) C hret F G hm hw hl)
def cb_X3_keep_26 (fu : Nat) (F : PF) (G : PG) : PR := some (0, F, G)
def cb_X3_keep_23 (fu : Nat) (z0 : Int32) (F : PF) (G : PG) : PR := (cf_X1_add fu z0 F G).bind (fun q => cb_X3_keep_26 fu q.2.1 q.2.2)
def cb_X3_keep_21 (fu : Nat) (F : PF) (G : PG) : PR := cb_X3_keep_23 fu 79 F G
def cb_X3_keep_16 (fu : Nat) (F : PF) (G : PG) : PR := cb_X3_keep_23 fu 80 F G
def cb_X3_keep_12 (fu : Nat) (z0 : Int32) (F : PF) (G : PG) : PR := if z0 = (3 : Int32) then cb_X3_keep_16 fu F G else cb_X3_keep_21 fu F G
def cb_X3_keep_0 (fu : Nat) (x1 : Int32) (F : PF) (G : PG) : PR := (cf_X5_kind fu x1 F G).bind (fun q => cb_X3_keep_12 fu q.1 q.2.1 q.2.2)
def cf_X3_keep (fu : Nat) (x1 : Int32) (F : PF) (G : PG) : PR := cb_X3_keep_0 fu x1 F G
theorem cn_X3_keep_26 (fu : Nat) {res : Int32 × PF × PG} (F : PF) (G : PG) (hm : cb_X3_keep_26 fu F G = some res) : xn F ≤ xn res.2.1 := by
  unfold cb_X3_keep_26 at hm
  obtain rfl := Option.some.inj hm
  exact Nat.le_refl _
theorem cw_X3_keep_26 (fu : Nat) {res : Int32 × PF × PG} (C : cMC p R s m args c A v RX3 cX3_keep 2 1 21 (xn res.2.1 - xn K0)) (hret : ∀ (b1 : Nat) (H1 : Heap) (locs1 : List Loc) (ls1 : Array Slot) (pc : Nat), cMW s A v a b1 K0 res.2.1 res.2.2 H1 locs1 → decode cX3_keep pc = .ok (.return_, 1) → W p l e R s m args below meth c H1 locs1 (xn res.2.1 - xn K0) (2 * (xn res.2.1 - xn K0)) Q (F0 m pc ls1 [])) (F : PF) (G : PG) (hm : cb_X3_keep_26 fu F G = some res) {b : Nat} {H : Heap} {locs : List Loc} (hw : cMW s A v a b K0 F G H locs) {ls : Array Slot} (hl : lv_has ls 2 []) : W p l e R s m args below meth c H locs (xn F - xn K0) (2 * (xn F - xn K0)) Q (F0 m 26 ls []) := by
  have hx := C.1
  have hb := C.2.1
  unfold cb_X3_keep_26 at hm
  obtain rfl := Option.some.inj hm
  exact hret _ _ _ _ _ hw dX3_keep_26
theorem cn_X3_keep_23 (fu : Nat) {res : Int32 × PF × PG} (z0 : Int32) (F : PF) (G : PG) (hm : cb_X3_keep_23 fu z0 F G = some res) : xn F ≤ xn res.2.1 := by
  unfold cb_X3_keep_23 at hm
  obtain ⟨⟨r1, F1, G1⟩, hc, hm⟩ := bind_elim hm
  exact Nat.le_trans (cn_X1_add fu z0 F G _ hc) (cn_X3_keep_26 fu F1 G1 hm)
theorem cw_X3_keep_23 (fu : Nat) {res : Int32 × PF × PG} (C : cMC p R s m args c A v RX3 cX3_keep 2 1 21 (xn res.2.1 - xn K0)) (hret : ∀ (b1 : Nat) (H1 : Heap) (locs1 : List Loc) (ls1 : Array Slot) (pc : Nat), cMW s A v a b1 K0 res.2.1 res.2.2 H1 locs1 → decode cX3_keep pc = .ok (.return_, 1) → W p l e R s m args below meth c H1 locs1 (xn res.2.1 - xn K0) (2 * (xn res.2.1 - xn K0)) Q (F0 m pc ls1 [])) (z0 : Int32) (F : PF) (G : PG) (hm : cb_X3_keep_23 fu z0 F G = some res) {b : Nat} {H : Heap} {locs : List Loc} (hw : cMW s A v a b K0 F G H locs) {ls : Array Slot} (hl : lv_has ls 2 []) : W p l e R s m args below meth c H locs (xn F - xn K0) (2 * (xn F - xn K0)) Q (F0 m 23 ls [.int z0, .ref (a 201)]) := by
  have hx := C.1
  have hb := C.2.1
  unfold cb_X3_keep_23 at hm
  obtain ⟨⟨r1, F1, G1⟩, hc, hm⟩ := bind_elim hm
  refine ccallV (n := 1) (As := [.int z0]) (rest := []) C hw (ck_X1_add l v a _ _ fu z0 F G r1 F1 G1 hc) (cn_X1_add fu z0 F G _ hc) (Nat.sub_le_sub_right (cn_X3_keep_26 fu F1 G1 hm) _) (crecv_X1 C hw) cm_452 cm_453 cm_454 cm_369 cm_455 (by decide +kernel) rfl (by omega) (by omega) hl.1 rfl (Nat.le_of_ble_eq_true rfl) dX3_keep_23 (fun b H locs hw => ?_)
  exact cw_X3_keep_26 fu C hret F1 G1 hm hw (lv_sub hl [] rfl)
theorem cn_X3_keep_21 (fu : Nat) {res : Int32 × PF × PG} (F : PF) (G : PG) (hm : cb_X3_keep_21 fu F G = some res) : xn F ≤ xn res.2.1 := by
  unfold cb_X3_keep_21 at hm
  exact (cn_X3_keep_23 fu 79 F G hm)
theorem cw_X3_keep_21 (fu : Nat) {res : Int32 × PF × PG} (C : cMC p R s m args c A v RX3 cX3_keep 2 1 21 (xn res.2.1 - xn K0)) (hret : ∀ (b1 : Nat) (H1 : Heap) (locs1 : List Loc) (ls1 : Array Slot) (pc : Nat), cMW s A v a b1 K0 res.2.1 res.2.2 H1 locs1 → decode cX3_keep pc = .ok (.return_, 1) → W p l e R s m args below meth c H1 locs1 (xn res.2.1 - xn K0) (2 * (xn res.2.1 - xn K0)) Q (F0 m pc ls1 [])) (F : PF) (G : PG) (hm : cb_X3_keep_21 fu F G = some res) {b : Nat} {H : Heap} {locs : List Loc} (hw : cMW s A v a b K0 F G H locs) {ls : Array Slot} (hl : lv_has ls 2 []) : W p l e R s m args below meth c H locs (xn F - xn K0) (2 * (xn F - xn K0)) Q (F0 m 21 ls [.ref (a 201)]) := by
  have hx := C.1
  have hb := C.2.1
  unfold cb_X3_keep_21 at hm
  refine lv_bipush (v := 79) hx hb dX3_keep_21 (by decide) ?_
  exact cw_X3_keep_23 fu C hret 79 F G hm hw (lv_sub hl [] rfl)
theorem cn_X3_keep_16 (fu : Nat) {res : Int32 × PF × PG} (F : PF) (G : PG) (hm : cb_X3_keep_16 fu F G = some res) : xn F ≤ xn res.2.1 := by
  unfold cb_X3_keep_16 at hm
  exact (cn_X3_keep_23 fu 80 F G hm)
theorem cw_X3_keep_16 (fu : Nat) {res : Int32 × PF × PG} (C : cMC p R s m args c A v RX3 cX3_keep 2 1 21 (xn res.2.1 - xn K0)) (hret : ∀ (b1 : Nat) (H1 : Heap) (locs1 : List Loc) (ls1 : Array Slot) (pc : Nat), cMW s A v a b1 K0 res.2.1 res.2.2 H1 locs1 → decode cX3_keep pc = .ok (.return_, 1) → W p l e R s m args below meth c H1 locs1 (xn res.2.1 - xn K0) (2 * (xn res.2.1 - xn K0)) Q (F0 m pc ls1 [])) (F : PF) (G : PG) (hm : cb_X3_keep_16 fu F G = some res) {b : Nat} {H : Heap} {locs : List Loc} (hw : cMW s A v a b K0 F G H locs) {ls : Array Slot} (hl : lv_has ls 2 []) : W p l e R s m args below meth c H locs (xn F - xn K0) (2 * (xn F - xn K0)) Q (F0 m 16 ls [.ref (a 201)]) := by
  have hx := C.1
  have hb := C.2.1
  unfold cb_X3_keep_16 at hm
  refine lv_bipush (v := 80) hx hb dX3_keep_16 (by decide) ?_
  refine lv_goto (tgt := 23) hx hb dX3_keep_18 (by decide) ?_
  exact cw_X3_keep_23 fu C hret 80 F G hm hw (lv_sub hl [] rfl)
theorem cn_X3_keep_12 (fu : Nat) {res : Int32 × PF × PG} (z0 : Int32) (F : PF) (G : PG) (hm : cb_X3_keep_12 fu z0 F G = some res) : xn F ≤ xn res.2.1 := by
  unfold cb_X3_keep_12 at hm
  by_cases c_1 : z0 = (3 : Int32)
  · have hm := (if_pos c_1).symm.trans hm
    exact (cn_X3_keep_16 fu F G hm)
  · have hm := (if_neg c_1).symm.trans hm
    exact (cn_X3_keep_21 fu F G hm)
theorem cw_X3_keep_12 (fu : Nat) {res : Int32 × PF × PG} (C : cMC p R s m args c A v RX3 cX3_keep 2 1 21 (xn res.2.1 - xn K0)) (hret : ∀ (b1 : Nat) (H1 : Heap) (locs1 : List Loc) (ls1 : Array Slot) (pc : Nat), cMW s A v a b1 K0 res.2.1 res.2.2 H1 locs1 → decode cX3_keep pc = .ok (.return_, 1) → W p l e R s m args below meth c H1 locs1 (xn res.2.1 - xn K0) (2 * (xn res.2.1 - xn K0)) Q (F0 m pc ls1 [])) (z0 : Int32) (F : PF) (G : PG) (hm : cb_X3_keep_12 fu z0 F G = some res) {b : Nat} {H : Heap} {locs : List Loc} (hw : cMW s A v a b K0 F G H locs) {ls : Array Slot} (hl : lv_has ls 2 []) : W p l e R s m args below meth c H locs (xn F - xn K0) (2 * (xn F - xn K0)) Q (F0 m 12 ls [.int z0, .ref (a 201)]) := by
  have hx := C.1
  have hb := C.2.1
  unfold cb_X3_keep_12 at hm
  refine lv_iconst (v := 3) hx hb dX3_keep_12 (by decide) ?_
  refine lv_icmp_ne (tgt := 21) hx hb dX3_keep_13 (by decide) (fun c_1 => ?_) (fun c_1 => ?_)
  · have hm := (if_neg c_1).symm.trans hm
    exact cw_X3_keep_21 fu C hret F G hm hw (lv_sub hl [] rfl)
  · have hm := (if_pos c_1).symm.trans hm
    exact cw_X3_keep_16 fu C hret F G hm hw (lv_sub hl [] rfl)
theorem cn_X3_keep_0 (fu : Nat) {res : Int32 × PF × PG} (x1 : Int32) (F : PF) (G : PG) (hm : cb_X3_keep_0 fu x1 F G = some res) : xn F ≤ xn res.2.1 := by
  unfold cb_X3_keep_0 at hm
  obtain ⟨⟨r1, F1, G1⟩, hc, hm⟩ := bind_elim hm
  exact Nat.le_trans (cn_X5_kind fu x1 F G _ hc) (cn_X3_keep_12 fu r1 F1 G1 hm)
theorem cw_X3_keep_0 (fu : Nat) {res : Int32 × PF × PG} (C : cMC p R s m args c A v RX3 cX3_keep 2 1 21 (xn res.2.1 - xn K0)) (hret : ∀ (b1 : Nat) (H1 : Heap) (locs1 : List Loc) (ls1 : Array Slot) (pc : Nat), cMW s A v a b1 K0 res.2.1 res.2.2 H1 locs1 → decode cX3_keep pc = .ok (.return_, 1) → W p l e R s m args below meth c H1 locs1 (xn res.2.1 - xn K0) (2 * (xn res.2.1 - xn K0)) Q (F0 m pc ls1 [])) (x1 : Int32) (F : PF) (G : PG) (hm : cb_X3_keep_0 fu x1 F G = some res) {b : Nat} {H : Heap} {locs : List Loc} (hw : cMW s A v a b K0 F G H locs) {ls : Array Slot} (hl : lv_has ls 2 [(0, .ref (a 203)), (1, .int x1)]) : W p l e R s m args below meth c H locs (xn F - xn K0) (2 * (xn F - xn K0)) Q (F0 m 0 ls []) := by
  have hx := C.1
  have hb := C.2.1
  unfold cb_X3_keep_0 at hm
  refine lv_aload_n hx hb dX3_keep_0 rfl (lv_at hl 0 rfl) ?_
  refine cg_X3_23 C hw dX3_keep_1 ?_
  refine lv_aload_n hx hb dX3_keep_4 rfl (lv_at hl 0 rfl) ?_
  refine cg_X3_19 C hw dX3_keep_5 ?_
  refine lv_iload_n hx hb dX3_keep_8 rfl (lv_at hl 1 rfl) ?_
  obtain ⟨⟨r1, F1, G1⟩, hc, hm⟩ := bind_elim hm
  refine ccallI (n := 1) (As := [.int x1]) (rest := [.ref (a 201)]) C hw (ck_X5_kind l v a _ _ fu x1 F G r1 F1 G1 hc) (cn_X5_kind fu x1 F G _ hc) (Nat.sub_le_sub_right (cn_X3_keep_12 fu r1 F1 G1 hm) _) (crecv_X5 C hw) cm_387 cm_388 cm_389 cm_266 cm_390 (by decide +kernel) rfl (by omega) (by omega) hl.1 rfl (Nat.le_of_ble_eq_true rfl) dX3_keep_9 (fun b H locs hw => ?_)
  exact cw_X3_keep_12 fu C hret r1 F1 G1 hm hw (lv_sub hl [] rfl)
theorem cn_X3_keep (fu : Nat) (x1 : Int32) (F : PF) (G : PG) (q : Int32 × PF × PG) (hm : cf_X3_keep fu x1 F G = some q) : xn F ≤ xn q.2.1 := cn_X3_keep_0 fu x1 F G hm
theorem ck_X3_keep (l : Launch) (v : EV) (a : Nat → Nat) (b sz : Nat) (fu : Nat) (x1 : Int32) (F : PF) (G : PG) (r : Int32) (F1 : PF) (G1 : PG) (hm : cf_X3_keep fu x1 F G = some (r, F1, G1)) : cMV l yX3_keep cX3_keep 2 1 21 v a b sz [.ref (a 203), .int x1] F G F1 G1 := cMV.of (by decide) (Nat.le_of_ble_eq_true rfl) (fun p e R s m args below meth c Q A H locs ls C hw hl hret => cw_X3_keep_0 fu (res := (r, F1, G1)) C hret x1 F G hm hw hl)
def cb_X3_store_33 (fu : Nat) (F : PF) (G : PG) : PR := some (0, F, G)
def cb_X3_store_30 (fu : Nat) (z0 : Int32) (z1 : Int32) (F : PF) (G : PG) : PR := (cf_X1_addPair fu z1 z0 F G).bind (fun q => cb_X3_store_33 fu q.2.1 q.2.2)
def cb_X3_store_22 (fu : Nat) (x1 : Int32) (z0 : Int32) (F : PF) (G : PG) : PR := (cf_X5_value fu x1 F G).bind (fun q => cb_X3_store_30 fu q.1 z0 q.2.1 q.2.2)
def cb_X3_store_20 (fu : Nat) (x1 : Int32) (F : PF) (G : PG) : PR := cb_X3_store_22 fu x1 72 F G
def cb_X3_store_15 (fu : Nat) (x1 : Int32) (F : PF) (G : PG) : PR := cb_X3_store_22 fu x1 71 F G
def cb_X3_store_12 (fu : Nat) (x1 : Int32) (z0 : Int32) (F : PF) (G : PG) : PR := if z0 = (0 : Int32) then cb_X3_store_20 fu x1 F G else cb_X3_store_15 fu x1 F G
def cb_X3_store_0 (fu : Nat) (x1 : Int32) (F : PF) (G : PG) : PR := (cf_X5_isGlobal fu x1 F G).bind (fun q => cb_X3_store_12 fu x1 q.1 q.2.1 q.2.2)
def cf_X3_store (fu : Nat) (x1 : Int32) (F : PF) (G : PG) : PR := cb_X3_store_0 fu x1 F G
theorem cn_X3_store_33 (fu : Nat) {res : Int32 × PF × PG} (F : PF) (G : PG) (hm : cb_X3_store_33 fu F G = some res) : xn F ≤ xn res.2.1 := by
  unfold cb_X3_store_33 at hm
  obtain rfl := Option.some.inj hm
  exact Nat.le_refl _
theorem cw_X3_store_33 (fu : Nat) {res : Int32 × PF × PG} (C : cMC p R s m args c A v RX3 cX3_store 2 1 22 (xn res.2.1 - xn K0)) (hret : ∀ (b1 : Nat) (H1 : Heap) (locs1 : List Loc) (ls1 : Array Slot) (pc : Nat), cMW s A v a b1 K0 res.2.1 res.2.2 H1 locs1 → decode cX3_store pc = .ok (.return_, 1) → W p l e R s m args below meth c H1 locs1 (xn res.2.1 - xn K0) (2 * (xn res.2.1 - xn K0)) Q (F0 m pc ls1 [])) (F : PF) (G : PG) (hm : cb_X3_store_33 fu F G = some res) {b : Nat} {H : Heap} {locs : List Loc} (hw : cMW s A v a b K0 F G H locs) {ls : Array Slot} (hl : lv_has ls 2 []) : W p l e R s m args below meth c H locs (xn F - xn K0) (2 * (xn F - xn K0)) Q (F0 m 33 ls []) := by
  have hx := C.1
  have hb := C.2.1
  unfold cb_X3_store_33 at hm
  obtain rfl := Option.some.inj hm
  exact hret _ _ _ _ _ hw dX3_store_33
theorem cn_X3_store_30 (fu : Nat) {res : Int32 × PF × PG} (z0 : Int32) (z1 : Int32) (F : PF) (G : PG) (hm : cb_X3_store_30 fu z0 z1 F G = some res) : xn F ≤ xn res.2.1 := by
  unfold cb_X3_store_30 at hm
  obtain ⟨⟨r1, F1, G1⟩, hc, hm⟩ := bind_elim hm
  exact Nat.le_trans (cn_X1_addPair fu z1 z0 F G _ hc) (cn_X3_store_33 fu F1 G1 hm)
theorem cw_X3_store_30 (fu : Nat) {res : Int32 × PF × PG} (C : cMC p R s m args c A v RX3 cX3_store 2 1 22 (xn res.2.1 - xn K0)) (hret : ∀ (b1 : Nat) (H1 : Heap) (locs1 : List Loc) (ls1 : Array Slot) (pc : Nat), cMW s A v a b1 K0 res.2.1 res.2.2 H1 locs1 → decode cX3_store pc = .ok (.return_, 1) → W p l e R s m args below meth c H1 locs1 (xn res.2.1 - xn K0) (2 * (xn res.2.1 - xn K0)) Q (F0 m pc ls1 [])) (z0 : Int32) (z1 : Int32) (F : PF) (G : PG) (hm : cb_X3_store_30 fu z0 z1 F G = some res) {b : Nat} {H : Heap} {locs : List Loc} (hw : cMW s A v a b K0 F G H locs) {ls : Array Slot} (hl : lv_has ls 2 []) : W p l e R s m args below meth c H locs (xn F - xn K0) (2 * (xn F - xn K0)) Q (F0 m 30 ls [.int z0, .int z1, .ref (a 201)]) := by
  have hx := C.1
  have hb := C.2.1
  unfold cb_X3_store_30 at hm
  obtain ⟨⟨r1, F1, G1⟩, hc, hm⟩ := bind_elim hm
  refine ccallV (n := 2) (As := [.int z1, .int z0]) (rest := []) C hw (ck_X1_addPair l v a _ _ fu z1 z0 F G r1 F1 G1 hc) (cn_X1_addPair fu z1 z0 F G _ hc) (Nat.sub_le_sub_right (cn_X3_store_33 fu F1 G1 hm) _) (crecv_X1 C hw) cm_448 cm_449 cm_450 cm_369 cm_451 (by decide +kernel) rfl (by omega) (by omega) hl.1 rfl (Nat.le_of_ble_eq_true rfl) dX3_store_30 (fun b H locs hw => ?_)
  exact cw_X3_store_33 fu C hret F1 G1 hm hw (lv_sub hl [] rfl)
theorem cn_X3_store_22 (fu : Nat) {res : Int32 × PF × PG} (x1 : Int32) (z0 : Int32) (F : PF) (G : PG) (hm : cb_X3_store_22 fu x1 z0 F G = some res) : xn F ≤ xn res.2.1 := by
  unfold cb_X3_store_22 at hm
  obtain ⟨⟨r1, F1, G1⟩, hc, hm⟩ := bind_elim hm
  exact Nat.le_trans (cn_X5_value fu x1 F G _ hc) (cn_X3_store_30 fu r1 z0 F1 G1 hm)
theorem cw_X3_store_22 (fu : Nat) {res : Int32 × PF × PG} (C : cMC p R s m args c A v RX3 cX3_store 2 1 22 (xn res.2.1 - xn K0)) (hret : ∀ (b1 : Nat) (H1 : Heap) (locs1 : List Loc) (ls1 : Array Slot) (pc : Nat), cMW s A v a b1 K0 res.2.1 res.2.2 H1 locs1 → decode cX3_store pc = .ok (.return_, 1) → W p l e R s m args below meth c H1 locs1 (xn res.2.1 - xn K0) (2 * (xn res.2.1 - xn K0)) Q (F0 m pc ls1 [])) (x1 : Int32) (z0 : Int32) (F : PF) (G : PG) (hm : cb_X3_store_22 fu x1 z0 F G = some res) {b : Nat} {H : Heap} {locs : List Loc} (hw : cMW s A v a b K0 F G H locs) {ls : Array Slot} (hl : lv_has ls 2 [(0, .ref (a 203)), (1, .int x1)]) : W p l e R s m args below meth c H locs (xn F - xn K0) (2 * (xn F - xn K0)) Q (F0 m 22 ls [.int z0, .ref (a 201)]) := by
  have hx := C.1
  have hb := C.2.1
  unfold cb_X3_store_22 at hm
  refine lv_aload_n hx hb dX3_store_22 rfl (lv_at hl 0 rfl) ?_
  refine cg_X3_19 C hw dX3_store_23 ?_
  refine lv_iload_n hx hb dX3_store_26 rfl (lv_at hl 1 rfl) ?_
  obtain ⟨⟨r1, F1, G1⟩, hc, hm⟩ := bind_elim hm
  refine ccallI (n := 1) (As := [.int x1]) (rest := [.int z0, .ref (a 201)]) C hw (ck_X5_value l v a _ _ fu x1 F G r1 F1 G1 hc) (cn_X5_value fu x1 F G _ hc) (Nat.sub_le_sub_right (cn_X3_store_30 fu r1 z0 F1 G1 hm) _) (crecv_X5 C hw) cm_392 cm_393 cm_394 cm_266 cm_395 (by decide +kernel) rfl (by omega) (by omega) hl.1 rfl (Nat.le_of_ble_eq_true rfl) dX3_store_27 (fun b H locs hw => ?_)
  exact cw_X3_store_30 fu C hret r1 z0 F1 G1 hm hw (lv_sub hl [] rfl)
theorem cn_X3_store_20 (fu : Nat) {res : Int32 × PF × PG} (x1 : Int32) (F : PF) (G : PG) (hm : cb_X3_store_20 fu x1 F G = some res) : xn F ≤ xn res.2.1 := by
  unfold cb_X3_store_20 at hm
  exact (cn_X3_store_22 fu x1 72 F G hm)
theorem cw_X3_store_20 (fu : Nat) {res : Int32 × PF × PG} (C : cMC p R s m args c A v RX3 cX3_store 2 1 22 (xn res.2.1 - xn K0)) (hret : ∀ (b1 : Nat) (H1 : Heap) (locs1 : List Loc) (ls1 : Array Slot) (pc : Nat), cMW s A v a b1 K0 res.2.1 res.2.2 H1 locs1 → decode cX3_store pc = .ok (.return_, 1) → W p l e R s m args below meth c H1 locs1 (xn res.2.1 - xn K0) (2 * (xn res.2.1 - xn K0)) Q (F0 m pc ls1 [])) (x1 : Int32) (F : PF) (G : PG) (hm : cb_X3_store_20 fu x1 F G = some res) {b : Nat} {H : Heap} {locs : List Loc} (hw : cMW s A v a b K0 F G H locs) {ls : Array Slot} (hl : lv_has ls 2 [(0, .ref (a 203)), (1, .int x1)]) : W p l e R s m args below meth c H locs (xn F - xn K0) (2 * (xn F - xn K0)) Q (F0 m 20 ls [.ref (a 201)]) := by
  have hx := C.1
  have hb := C.2.1
  unfold cb_X3_store_20 at hm
  refine lv_bipush (v := 72) hx hb dX3_store_20 (by decide) ?_
  exact cw_X3_store_22 fu C hret x1 72 F G hm hw (lv_sub hl [0, 1] rfl)
theorem cn_X3_store_15 (fu : Nat) {res : Int32 × PF × PG} (x1 : Int32) (F : PF) (G : PG) (hm : cb_X3_store_15 fu x1 F G = some res) : xn F ≤ xn res.2.1 := by
  unfold cb_X3_store_15 at hm
  exact (cn_X3_store_22 fu x1 71 F G hm)
theorem cw_X3_store_15 (fu : Nat) {res : Int32 × PF × PG} (C : cMC p R s m args c A v RX3 cX3_store 2 1 22 (xn res.2.1 - xn K0)) (hret : ∀ (b1 : Nat) (H1 : Heap) (locs1 : List Loc) (ls1 : Array Slot) (pc : Nat), cMW s A v a b1 K0 res.2.1 res.2.2 H1 locs1 → decode cX3_store pc = .ok (.return_, 1) → W p l e R s m args below meth c H1 locs1 (xn res.2.1 - xn K0) (2 * (xn res.2.1 - xn K0)) Q (F0 m pc ls1 [])) (x1 : Int32) (F : PF) (G : PG) (hm : cb_X3_store_15 fu x1 F G = some res) {b : Nat} {H : Heap} {locs : List Loc} (hw : cMW s A v a b K0 F G H locs) {ls : Array Slot} (hl : lv_has ls 2 [(0, .ref (a 203)), (1, .int x1)]) : W p l e R s m args below meth c H locs (xn F - xn K0) (2 * (xn F - xn K0)) Q (F0 m 15 ls [.ref (a 201)]) := by
  have hx := C.1
  have hb := C.2.1
  unfold cb_X3_store_15 at hm
  refine lv_bipush (v := 71) hx hb dX3_store_15 (by decide) ?_
  refine lv_goto (tgt := 22) hx hb dX3_store_17 (by decide) ?_
  exact cw_X3_store_22 fu C hret x1 71 F G hm hw (lv_sub hl [0, 1] rfl)
theorem cn_X3_store_12 (fu : Nat) {res : Int32 × PF × PG} (x1 : Int32) (z0 : Int32) (F : PF) (G : PG) (hm : cb_X3_store_12 fu x1 z0 F G = some res) : xn F ≤ xn res.2.1 := by
  unfold cb_X3_store_12 at hm
  by_cases c_1 : z0 = (0 : Int32)
  · have hm := (if_pos c_1).symm.trans hm
    exact (cn_X3_store_20 fu x1 F G hm)
  · have hm := (if_neg c_1).symm.trans hm
    exact (cn_X3_store_15 fu x1 F G hm)
theorem cw_X3_store_12 (fu : Nat) {res : Int32 × PF × PG} (C : cMC p R s m args c A v RX3 cX3_store 2 1 22 (xn res.2.1 - xn K0)) (hret : ∀ (b1 : Nat) (H1 : Heap) (locs1 : List Loc) (ls1 : Array Slot) (pc : Nat), cMW s A v a b1 K0 res.2.1 res.2.2 H1 locs1 → decode cX3_store pc = .ok (.return_, 1) → W p l e R s m args below meth c H1 locs1 (xn res.2.1 - xn K0) (2 * (xn res.2.1 - xn K0)) Q (F0 m pc ls1 [])) (x1 : Int32) (z0 : Int32) (F : PF) (G : PG) (hm : cb_X3_store_12 fu x1 z0 F G = some res) {b : Nat} {H : Heap} {locs : List Loc} (hw : cMW s A v a b K0 F G H locs) {ls : Array Slot} (hl : lv_has ls 2 [(0, .ref (a 203)), (1, .int x1)]) : W p l e R s m args below meth c H locs (xn F - xn K0) (2 * (xn F - xn K0)) Q (F0 m 12 ls [.int z0, .ref (a 201)]) := by
  have hx := C.1
  have hb := C.2.1
  unfold cb_X3_store_12 at hm
  refine lv_if_eq (tgt := 20) hx hb dX3_store_12 (by decide) (fun c_1 => ?_) (fun c_1 => ?_)
  · have hm := (if_pos c_1).symm.trans hm
    exact cw_X3_store_20 fu C hret x1 F G hm hw (lv_sub hl [0, 1] rfl)
  · have hm := (if_neg c_1).symm.trans hm
    exact cw_X3_store_15 fu C hret x1 F G hm hw (lv_sub hl [0, 1] rfl)
theorem cn_X3_store_0 (fu : Nat) {res : Int32 × PF × PG} (x1 : Int32) (F : PF) (G : PG) (hm : cb_X3_store_0 fu x1 F G = some res) : xn F ≤ xn res.2.1 := by
  unfold cb_X3_store_0 at hm
  obtain ⟨⟨r1, F1, G1⟩, hc, hm⟩ := bind_elim hm
  exact Nat.le_trans (cn_X5_isGlobal fu x1 F G _ hc) (cn_X3_store_12 fu x1 r1 F1 G1 hm)
theorem cw_X3_store_0 (fu : Nat) {res : Int32 × PF × PG} (C : cMC p R s m args c A v RX3 cX3_store 2 1 22 (xn res.2.1 - xn K0)) (hret : ∀ (b1 : Nat) (H1 : Heap) (locs1 : List Loc) (ls1 : Array Slot) (pc : Nat), cMW s A v a b1 K0 res.2.1 res.2.2 H1 locs1 → decode cX3_store pc = .ok (.return_, 1) → W p l e R s m args below meth c H1 locs1 (xn res.2.1 - xn K0) (2 * (xn res.2.1 - xn K0)) Q (F0 m pc ls1 [])) (x1 : Int32) (F : PF) (G : PG) (hm : cb_X3_store_0 fu x1 F G = some res) {b : Nat} {H : Heap} {locs : List Loc} (hw : cMW s A v a b K0 F G H locs) {ls : Array Slot} (hl : lv_has ls 2 [(0, .ref (a 203)), (1, .int x1)]) : W p l e R s m args below meth c H locs (xn F - xn K0) (2 * (xn F - xn K0)) Q (F0 m 0 ls []) := by
  have hx := C.1
  have hb := C.2.1
  unfold cb_X3_store_0 at hm
  refine lv_aload_n hx hb dX3_store_0 rfl (lv_at hl 0 rfl) ?_
  refine cg_X3_23 C hw dX3_store_1 ?_
  refine lv_aload_n hx hb dX3_store_4 rfl (lv_at hl 0 rfl) ?_
  refine cg_X3_19 C hw dX3_store_5 ?_
  refine lv_iload_n hx hb dX3_store_8 rfl (lv_at hl 1 rfl) ?_
  obtain ⟨⟨r1, F1, G1⟩, hc, hm⟩ := bind_elim hm
  refine ccallI (n := 1) (As := [.int x1]) (rest := [.ref (a 201)]) C hw (ck_X5_isGlobal l v a _ _ fu x1 F G r1 F1 G1 hc) (cn_X5_isGlobal fu x1 F G _ hc) (Nat.sub_le_sub_right (cn_X3_store_12 fu x1 r1 F1 G1 hm) _) (crecv_X5 C hw) cm_443 cm_444 cm_445 cm_266 cm_446 (by decide +kernel) rfl (by omega) (by omega) hl.1 rfl (Nat.le_of_ble_eq_true rfl) dX3_store_9 (fun b H locs hw => ?_)
  exact cw_X3_store_12 fu C hret x1 r1 F1 G1 hm hw (lv_sub hl [0, 1] rfl)
theorem cn_X3_store (fu : Nat) (x1 : Int32) (F : PF) (G : PG) (q : Int32 × PF × PG) (hm : cf_X3_store fu x1 F G = some q) : xn F ≤ xn q.2.1 := cn_X3_store_0 fu x1 F G hm
theorem ck_X3_store (l : Launch) (v : EV) (a : Nat → Nat) (b sz : Nat) (fu : Nat) (x1 : Int32) (F : PF) (G : PG) (r : Int32) (F1 : PF) (G1 : PG) (hm : cf_X3_store fu x1 F G = some (r, F1, G1)) : cMV l yX3_store cX3_store 2 1 22 v a b sz [.ref (a 203), .int x1] F G F1 G1 := cMV.of (by decide) (Nat.le_of_ble_eq_true rfl) (fun p e R s m args below meth c Q A H locs ls C hw hl hret => cw_X3_store_0 fu (res := (r, F1, G1)) C hret x1 F G hm hw hl)
def cb_X5_clear_45 (fu : Nat) (F : PF) (G : PG) : PR := some (0, F, G)
def cb_X5_clear_37 (fu : Nat) (F : PF) (G : PG) : PR := (cf_fill_40 fu (-1) F G).bind (fun q => cb_X5_clear_45 fu q.2.1 q.2.2)
def cb_X5_clear_32 (fu : Nat) (F : PF) (G : PG) : PR := cb_X5_clear_37 fu (fup F 47 (1 : Int32)) G
def cb_X5_clear_27 (fu : Nat) (F : PF) (G : PG) : PR := cb_X5_clear_32 fu (fup F 46 (0 : Int32)) G
def cb_X5_clear_22 (fu : Nat) (F : PF) (G : PG) : PR := cb_X5_clear_27 fu (fup F 45 (0 : Int32)) G
def cb_X5_clear_17 (fu : Nat) (F : PF) (G : PG) : PR := cb_X5_clear_22 fu (fup F 44 (0 : Int32)) G
def cb_X5_clear_10 (fu : Nat) (F : PF) (G : PG) : PR := cb_X5_clear_17 fu (fup F 43 (4001 : Int32)) G
def cb_X5_clear_5 (fu : Nat) (F : PF) (G : PG) : PR := cb_X5_clear_10 fu (fup F 42 (0 : Int32)) G
def cb_X5_clear_0 (fu : Nat) (F : PF) (G : PG) : PR := cb_X5_clear_5 fu (fup F 41 (0 : Int32)) G
def cf_X5_clear (fu : Nat) (F : PF) (G : PG) : PR := cb_X5_clear_0 fu F G
theorem cn_X5_clear_45 (fu : Nat) {res : Int32 × PF × PG} (F : PF) (G : PG) (hm : cb_X5_clear_45 fu F G = some res) : xn F ≤ xn res.2.1 := by
  unfold cb_X5_clear_45 at hm
  obtain rfl := Option.some.inj hm
  exact Nat.le_refl _
theorem cw_X5_clear_45 (fu : Nat) {res : Int32 × PF × PG} (C : cMC p R s m args c A v RX5 cX5_clear 1 1 23 (xn res.2.1 - xn K0)) (hret : ∀ (b1 : Nat) (H1 : Heap) (locs1 : List Loc) (ls1 : Array Slot) (pc : Nat), cMW s A v a b1 K0 res.2.1 res.2.2 H1 locs1 → decode cX5_clear pc = .ok (.return_, 1) → W p l e R s m args below meth c H1 locs1 (xn res.2.1 - xn K0) (2 * (xn res.2.1 - xn K0)) Q (F0 m pc ls1 [])) (F : PF) (G : PG) (hm : cb_X5_clear_45 fu F G = some res) {b : Nat} {H : Heap} {locs : List Loc} (hw : cMW s A v a b K0 F G H locs) {ls : Array Slot} (hl : lv_has ls 1 []) : W p l e R s m args below meth c H locs (xn F - xn K0) (2 * (xn F - xn K0)) Q (F0 m 45 ls []) := by
  have hx := C.1
  have hb := C.2.1
  unfold cb_X5_clear_45 at hm
  obtain rfl := Option.some.inj hm
  exact hret _ _ _ _ _ hw dX5_clear_45
theorem cn_X5_clear_37 (fu : Nat) {res : Int32 × PF × PG} (F : PF) (G : PG) (hm : cb_X5_clear_37 fu F G = some res) : xn F ≤ xn res.2.1 := by
  unfold cb_X5_clear_37 at hm
  obtain ⟨⟨r1, F1, G1⟩, hc, hm⟩ := bind_elim hm
  exact Nat.le_trans (cn_fill_40 fu (-1) F G _ hc) (cn_X5_clear_45 fu F1 G1 hm)
theorem cw_X5_clear_37 (fu : Nat) {res : Int32 × PF × PG} (C : cMC p R s m args c A v RX5 cX5_clear 1 1 23 (xn res.2.1 - xn K0)) (hret : ∀ (b1 : Nat) (H1 : Heap) (locs1 : List Loc) (ls1 : Array Slot) (pc : Nat), cMW s A v a b1 K0 res.2.1 res.2.2 H1 locs1 → decode cX5_clear pc = .ok (.return_, 1) → W p l e R s m args below meth c H1 locs1 (xn res.2.1 - xn K0) (2 * (xn res.2.1 - xn K0)) Q (F0 m pc ls1 [])) (F : PF) (G : PG) (hm : cb_X5_clear_37 fu F G = some res) {b : Nat} {H : Heap} {locs : List Loc} (hw : cMW s A v a b K0 F G H locs) {ls : Array Slot} (hl : lv_has ls 1 [(0, .ref (a 205))]) : W p l e R s m args below meth c H locs (xn F - xn K0) (2 * (xn F - xn K0)) Q (F0 m 37 ls []) := by
  have hx := C.1
  have hb := C.2.1
  unfold cb_X5_clear_37 at hm
  refine lv_aload_n hx hb dX5_clear_37 rfl (lv_at hl 0 rfl) ?_
  refine cg_X5_33 C hw dX5_clear_38 ?_
  refine lv_iconst (v := (-1)) hx hb dX5_clear_41 (by decide) ?_
  obtain ⟨⟨r1, F1, G1⟩, hc, hm⟩ := bind_elim hm
  refine ccallVS (n := 2) (As := [.ref (a 40), .int (-1)]) (rest := []) C hw (ck_fill_40 l v a _ _ fu (-1) F G r1 F1 G1 hc) (cn_fill_40 fu (-1) F G _ hc) (Nat.sub_le_sub_right (cn_X5_clear_45 fu F1 G1 hm) _) cm_276 cm_54 cm_55 cm_56 (by decide +kernel) rfl (by omega) (by omega) hl.1 rfl (Nat.le_of_ble_eq_true rfl) dX5_clear_42 (fun b H locs hw => ?_)
  exact cw_X5_clear_45 fu C hret F1 G1 hm hw (lv_sub hl [] rfl)
theorem cn_X5_clear_32 (fu : Nat) {res : Int32 × PF × PG} (F : PF) (G : PG) (hm : cb_X5_clear_32 fu F G = some res) : xn F ≤ xn res.2.1 := by
  unfold cb_X5_clear_32 at hm
  exact Nat.le_trans (Nat.le_of_eq (xn_fup (by decide)).symm) (cn_X5_clear_37 fu (fup F 47 (1 : Int32)) G hm)
theorem cw_X5_clear_32 (fu : Nat) {res : Int32 × PF × PG} (C : cMC p R s m args c A v RX5 cX5_clear 1 1 23 (xn res.2.1 - xn K0)) (hret : ∀ (b1 : Nat) (H1 : Heap) (locs1 : List Loc) (ls1 : Array Slot) (pc : Nat), cMW s A v a b1 K0 res.2.1 res.2.2 H1 locs1 → decode cX5_clear pc = .ok (.return_, 1) → W p l e R s m args below meth c H1 locs1 (xn res.2.1 - xn K0) (2 * (xn res.2.1 - xn K0)) Q (F0 m pc ls1 [])) (F : PF) (G : PG) (hm : cb_X5_clear_32 fu F G = some res) {b : Nat} {H : Heap} {locs : List Loc} (hw : cMW s A v a b K0 F G H locs) {ls : Array Slot} (hl : lv_has ls 1 [(0, .ref (a 205))]) : W p l e R s m args below meth c H locs (xn F - xn K0) (2 * (xn F - xn K0)) Q (F0 m 32 ls []) := by
  have hx := C.1
  have hb := C.2.1
  unfold cb_X5_clear_32 at hm
  refine lv_aload_n hx hb dX5_clear_32 rfl (lv_at hl 0 rfl) ?_
  refine lv_iconst (v := 1) hx hb dX5_clear_33 (by decide) ?_
  refine cp_X5_60 C hw (by decide) dX5_clear_34 (fun H locs hw => ?_)
  exact cw_X5_clear_37 fu C hret (fup F 47 (1 : Int32)) G hm hw (lv_sub hl [0] rfl)
theorem cn_X5_clear_27 (fu : Nat) {res : Int32 × PF × PG} (F : PF) (G : PG) (hm : cb_X5_clear_27 fu F G = some res) : xn F ≤ xn res.2.1 := by
  unfold cb_X5_clear_27 at hm
  exact Nat.le_trans (Nat.le_of_eq (xn_fup (by decide)).symm) (cn_X5_clear_32 fu (fup F 46 (0 : Int32)) G hm)
theorem cw_X5_clear_27 (fu : Nat) {res : Int32 × PF × PG} (C : cMC p R s m args c A v RX5 cX5_clear 1 1 23 (xn res.2.1 - xn K0)) (hret : ∀ (b1 : Nat) (H1 : Heap) (locs1 : List Loc) (ls1 : Array Slot) (pc : Nat), cMW s A v a b1 K0 res.2.1 res.2.2 H1 locs1 → decode cX5_clear pc = .ok (.return_, 1) → W p l e R s m args below meth c H1 locs1 (xn res.2.1 - xn K0) (2 * (xn res.2.1 - xn K0)) Q (F0 m pc ls1 [])) (F : PF) (G : PG) (hm : cb_X5_clear_27 fu F G = some res) {b : Nat} {H : Heap} {locs : List Loc} (hw : cMW s A v a b K0 F G H locs) {ls : Array Slot} (hl : lv_has ls 1 [(0, .ref (a 205))]) : W p l e R s m args below meth c H locs (xn F - xn K0) (2 * (xn F - xn K0)) Q (F0 m 27 ls []) := by
  have hx := C.1
  have hb := C.2.1
  unfold cb_X5_clear_27 at hm
  refine lv_aload_n hx hb dX5_clear_27 rfl (lv_at hl 0 rfl) ?_
  refine lv_iconst (v := 0) hx hb dX5_clear_28 (by decide) ?_
  refine cp_X5_57 C hw (by decide) dX5_clear_29 (fun H locs hw => ?_)
  exact cw_X5_clear_32 fu C hret (fup F 46 (0 : Int32)) G hm hw (lv_sub hl [0] rfl)
theorem cn_X5_clear_22 (fu : Nat) {res : Int32 × PF × PG} (F : PF) (G : PG) (hm : cb_X5_clear_22 fu F G = some res) : xn F ≤ xn res.2.1 := by
  unfold cb_X5_clear_22 at hm
  exact Nat.le_trans (Nat.le_of_eq (xn_fup (by decide)).symm) (cn_X5_clear_27 fu (fup F 45 (0 : Int32)) G hm)
theorem cw_X5_clear_22 (fu : Nat) {res : Int32 × PF × PG} (C : cMC p R s m args c A v RX5 cX5_clear 1 1 23 (xn res.2.1 - xn K0)) (hret : ∀ (b1 : Nat) (H1 : Heap) (locs1 : List Loc) (ls1 : Array Slot) (pc : Nat), cMW s A v a b1 K0 res.2.1 res.2.2 H1 locs1 → decode cX5_clear pc = .ok (.return_, 1) → W p l e R s m args below meth c H1 locs1 (xn res.2.1 - xn K0) (2 * (xn res.2.1 - xn K0)) Q (F0 m pc ls1 [])) (F : PF) (G : PG) (hm : cb_X5_clear_22 fu F G = some res) {b : Nat} {H : Heap} {locs : List Loc} (hw : cMW s A v a b K0 F G H locs) {ls : Array Slot} (hl : lv_has ls 1 [(0, .ref (a 205))]) : W p l e R s m args below meth c H locs (xn F - xn K0) (2 * (xn F - xn K0)) Q (F0 m 22 ls []) := by
  have hx := C.1
  have hb := C.2.1
  unfold cb_X5_clear_22 at hm
  refine lv_aload_n hx hb dX5_clear_22 rfl (lv_at hl 0 rfl) ?_
  refine lv_iconst (v := 0) hx hb dX5_clear_23 (by decide) ?_
  refine cp_X5_53 C hw (by decide) dX5_clear_24 (fun H locs hw => ?_)
  exact cw_X5_clear_27 fu C hret (fup F 45 (0 : Int32)) G hm hw (lv_sub hl [0] rfl)
theorem cn_X5_clear_17 (fu : Nat) {res : Int32 × PF × PG} (F : PF) (G : PG) (hm : cb_X5_clear_17 fu F G = some res) : xn F ≤ xn res.2.1 := by
  unfold cb_X5_clear_17 at hm
  exact Nat.le_trans (Nat.le_of_eq (xn_fup (by decide)).symm) (cn_X5_clear_22 fu (fup F 44 (0 : Int32)) G hm)
theorem cw_X5_clear_17 (fu : Nat) {res : Int32 × PF × PG} (C : cMC p R s m args c A v RX5 cX5_clear 1 1 23 (xn res.2.1 - xn K0)) (hret : ∀ (b1 : Nat) (H1 : Heap) (locs1 : List Loc) (ls1 : Array Slot) (pc : Nat), cMW s A v a b1 K0 res.2.1 res.2.2 H1 locs1 → decode cX5_clear pc = .ok (.return_, 1) → W p l e R s m args below meth c H1 locs1 (xn res.2.1 - xn K0) (2 * (xn res.2.1 - xn K0)) Q (F0 m pc ls1 [])) (F : PF) (G : PG) (hm : cb_X5_clear_17 fu F G = some res) {b : Nat} {H : Heap} {locs : List Loc} (hw : cMW s A v a b K0 F G H locs) {ls : Array Slot} (hl : lv_has ls 1 [(0, .ref (a 205))]) : W p l e R s m args below meth c H locs (xn F - xn K0) (2 * (xn F - xn K0)) Q (F0 m 17 ls []) := by
  have hx := C.1
  have hb := C.2.1
  unfold cb_X5_clear_17 at hm
  refine lv_aload_n hx hb dX5_clear_17 rfl (lv_at hl 0 rfl) ?_
  refine lv_iconst (v := 0) hx hb dX5_clear_18 (by decide) ?_
  refine cp_X5_50 C hw dX5_clear_19 (fun H locs hw => ?_)
  exact cw_X5_clear_22 fu C hret (fup F 44 (0 : Int32)) G hm hw (lv_sub hl [0] rfl)
theorem cn_X5_clear_10 (fu : Nat) {res : Int32 × PF × PG} (F : PF) (G : PG) (hm : cb_X5_clear_10 fu F G = some res) : xn F ≤ xn res.2.1 := by
  unfold cb_X5_clear_10 at hm
  exact Nat.le_trans (Nat.le_of_eq (xn_fup (by decide)).symm) (cn_X5_clear_17 fu (fup F 43 (4001 : Int32)) G hm)
theorem cw_X5_clear_10 (fu : Nat) {res : Int32 × PF × PG} (C : cMC p R s m args c A v RX5 cX5_clear 1 1 23 (xn res.2.1 - xn K0)) (hret : ∀ (b1 : Nat) (H1 : Heap) (locs1 : List Loc) (ls1 : Array Slot) (pc : Nat), cMW s A v a b1 K0 res.2.1 res.2.2 H1 locs1 → decode cX5_clear pc = .ok (.return_, 1) → W p l e R s m args below meth c H1 locs1 (xn res.2.1 - xn K0) (2 * (xn res.2.1 - xn K0)) Q (F0 m pc ls1 [])) (F : PF) (G : PG) (hm : cb_X5_clear_10 fu F G = some res) {b : Nat} {H : Heap} {locs : List Loc} (hw : cMW s A v a b K0 F G H locs) {ls : Array Slot} (hl : lv_has ls 1 [(0, .ref (a 205))]) : W p l e R s m args below meth c H locs (xn F - xn K0) (2 * (xn F - xn K0)) Q (F0 m 10 ls []) := by
  have hx := C.1
  have hb := C.2.1
  unfold cb_X5_clear_10 at hm
  refine lv_aload_n hx hb dX5_clear_10 rfl (lv_at hl 0 rfl) ?_
  refine lv_sipush (v := 4001) hx hb dX5_clear_11 (by decide) ?_
  refine cp_X5_47 C hw dX5_clear_14 (fun H locs hw => ?_)
  exact cw_X5_clear_17 fu C hret (fup F 43 (4001 : Int32)) G hm hw (lv_sub hl [0] rfl)
theorem cn_X5_clear_5 (fu : Nat) {res : Int32 × PF × PG} (F : PF) (G : PG) (hm : cb_X5_clear_5 fu F G = some res) : xn F ≤ xn res.2.1 := by
  unfold cb_X5_clear_5 at hm
  exact Nat.le_trans (Nat.le_of_eq (xn_fup (by decide)).symm) (cn_X5_clear_10 fu (fup F 42 (0 : Int32)) G hm)
theorem cw_X5_clear_5 (fu : Nat) {res : Int32 × PF × PG} (C : cMC p R s m args c A v RX5 cX5_clear 1 1 23 (xn res.2.1 - xn K0)) (hret : ∀ (b1 : Nat) (H1 : Heap) (locs1 : List Loc) (ls1 : Array Slot) (pc : Nat), cMW s A v a b1 K0 res.2.1 res.2.2 H1 locs1 → decode cX5_clear pc = .ok (.return_, 1) → W p l e R s m args below meth c H1 locs1 (xn res.2.1 - xn K0) (2 * (xn res.2.1 - xn K0)) Q (F0 m pc ls1 [])) (F : PF) (G : PG) (hm : cb_X5_clear_5 fu F G = some res) {b : Nat} {H : Heap} {locs : List Loc} (hw : cMW s A v a b K0 F G H locs) {ls : Array Slot} (hl : lv_has ls 1 [(0, .ref (a 205))]) : W p l e R s m args below meth c H locs (xn F - xn K0) (2 * (xn F - xn K0)) Q (F0 m 5 ls []) := by
  have hx := C.1
  have hb := C.2.1
  unfold cb_X5_clear_5 at hm
  refine lv_aload_n hx hb dX5_clear_5 rfl (lv_at hl 0 rfl) ?_
  refine lv_iconst (v := 0) hx hb dX5_clear_6 (by decide) ?_
  refine cp_X5_44 C hw dX5_clear_7 (fun H locs hw => ?_)
  exact cw_X5_clear_10 fu C hret (fup F 42 (0 : Int32)) G hm hw (lv_sub hl [0] rfl)
theorem cn_X5_clear_0 (fu : Nat) {res : Int32 × PF × PG} (F : PF) (G : PG) (hm : cb_X5_clear_0 fu F G = some res) : xn F ≤ xn res.2.1 := by
  unfold cb_X5_clear_0 at hm
  exact Nat.le_trans (Nat.le_of_eq (xn_fup (by decide)).symm) (cn_X5_clear_5 fu (fup F 41 (0 : Int32)) G hm)
theorem cw_X5_clear_0 (fu : Nat) {res : Int32 × PF × PG} (C : cMC p R s m args c A v RX5 cX5_clear 1 1 23 (xn res.2.1 - xn K0)) (hret : ∀ (b1 : Nat) (H1 : Heap) (locs1 : List Loc) (ls1 : Array Slot) (pc : Nat), cMW s A v a b1 K0 res.2.1 res.2.2 H1 locs1 → decode cX5_clear pc = .ok (.return_, 1) → W p l e R s m args below meth c H1 locs1 (xn res.2.1 - xn K0) (2 * (xn res.2.1 - xn K0)) Q (F0 m pc ls1 [])) (F : PF) (G : PG) (hm : cb_X5_clear_0 fu F G = some res) {b : Nat} {H : Heap} {locs : List Loc} (hw : cMW s A v a b K0 F G H locs) {ls : Array Slot} (hl : lv_has ls 1 [(0, .ref (a 205))]) : W p l e R s m args below meth c H locs (xn F - xn K0) (2 * (xn F - xn K0)) Q (F0 m 0 ls []) := by
  have hx := C.1
  have hb := C.2.1
  unfold cb_X5_clear_0 at hm
  refine lv_aload_n hx hb dX5_clear_0 rfl (lv_at hl 0 rfl) ?_
  refine lv_iconst (v := 0) hx hb dX5_clear_1 (by decide) ?_
  refine cp_X5_40 C hw dX5_clear_2 (fun H locs hw => ?_)
  exact cw_X5_clear_5 fu C hret (fup F 41 (0 : Int32)) G hm hw (lv_sub hl [0] rfl)
theorem cn_X5_clear (fu : Nat) (F : PF) (G : PG) (q : Int32 × PF × PG) (hm : cf_X5_clear fu F G = some q) : xn F ≤ xn q.2.1 := cn_X5_clear_0 fu F G hm
theorem ck_X5_clear (l : Launch) (v : EV) (a : Nat → Nat) (b sz : Nat) (fu : Nat) (F : PF) (G : PG) (r : Int32) (F1 : PF) (G1 : PG) (hm : cf_X5_clear fu F G = some (r, F1, G1)) : cMV l yX5_clear cX5_clear 1 1 23 v a b sz [.ref (a 205)] F G F1 G1 := cMV.of (by decide) (Nat.le_of_ble_eq_true rfl) (fun p e R s m args below meth c Q A H locs ls C hw hl hret => cw_X5_clear_0 fu (res := (r, F1, G1)) C hret F G hm hw hl)
def cb_X8_clear_33 (fu : Nat) (F : PF) (G : PG) : PR := some (0, F, G)
def cb_X8_clear_25 (fu : Nat) (F : PF) (G : PG) : PR := (cf_fill_86 fu 0 F G).bind (fun q => cb_X8_clear_33 fu q.2.1 q.2.2)
def cb_X8_clear_20 (fu : Nat) (F : PF) (G : PG) : PR := cb_X8_clear_25 fu (fup F 85 (0 : Int32)) G
def cb_X8_clear_15 (fu : Nat) (F : PF) (G : PG) : PR := cb_X8_clear_20 fu (fup F 76 (-1 : Int32)) G
def cb_X8_clear_10 (fu : Nat) (F : PF) (G : PG) : PR := cb_X8_clear_15 fu (fup F 75 (0 : Int32)) G
def cb_X8_clear_5 (fu : Nat) (F : PF) (G : PG) : PR := cb_X8_clear_10 fu (fup F 74 (0 : Int32)) G
def cb_X8_clear_0 (fu : Nat) (F : PF) (G : PG) : PR := cb_X8_clear_5 fu (fup F 73 (0 : Int32)) G
def cf_X8_clear (fu : Nat) (F : PF) (G : PG) : PR := cb_X8_clear_0 fu F G
theorem cn_X8_clear_33 (fu : Nat) {res : Int32 × PF × PG} (F : PF) (G : PG) (hm : cb_X8_clear_33 fu F G = some res) : xn F ≤ xn res.2.1 := by
  unfold cb_X8_clear_33 at hm
  obtain rfl := Option.some.inj hm
  exact Nat.le_refl _
theorem cw_X8_clear_33 (fu : Nat) {res : Int32 × PF × PG} (C : cMC p R s m args c A v RX8 cX8_clear 1 1 23 (xn res.2.1 - xn K0)) (hret : ∀ (b1 : Nat) (H1 : Heap) (locs1 : List Loc) (ls1 : Array Slot) (pc : Nat), cMW s A v a b1 K0 res.2.1 res.2.2 H1 locs1 → decode cX8_clear pc = .ok (.return_, 1) → W p l e R s m args below meth c H1 locs1 (xn res.2.1 - xn K0) (2 * (xn res.2.1 - xn K0)) Q (F0 m pc ls1 [])) (F : PF) (G : PG) (hm : cb_X8_clear_33 fu F G = some res) {b : Nat} {H : Heap} {locs : List Loc} (hw : cMW s A v a b K0 F G H locs) {ls : Array Slot} (hl : lv_has ls 1 []) : W p l e R s m args below meth c H locs (xn F - xn K0) (2 * (xn F - xn K0)) Q (F0 m 33 ls []) := by
  have hx := C.1
  have hb := C.2.1
  unfold cb_X8_clear_33 at hm
  obtain rfl := Option.some.inj hm
  exact hret _ _ _ _ _ hw dX8_clear_33
theorem cn_X8_clear_25 (fu : Nat) {res : Int32 × PF × PG} (F : PF) (G : PG) (hm : cb_X8_clear_25 fu F G = some res) : xn F ≤ xn res.2.1 := by
  unfold cb_X8_clear_25 at hm
  obtain ⟨⟨r1, F1, G1⟩, hc, hm⟩ := bind_elim hm
  exact Nat.le_trans (cn_fill_86 fu 0 F G _ hc) (cn_X8_clear_33 fu F1 G1 hm)
theorem cw_X8_clear_25 (fu : Nat) {res : Int32 × PF × PG} (C : cMC p R s m args c A v RX8 cX8_clear 1 1 23 (xn res.2.1 - xn K0)) (hret : ∀ (b1 : Nat) (H1 : Heap) (locs1 : List Loc) (ls1 : Array Slot) (pc : Nat), cMW s A v a b1 K0 res.2.1 res.2.2 H1 locs1 → decode cX8_clear pc = .ok (.return_, 1) → W p l e R s m args below meth c H1 locs1 (xn res.2.1 - xn K0) (2 * (xn res.2.1 - xn K0)) Q (F0 m pc ls1 [])) (F : PF) (G : PG) (hm : cb_X8_clear_25 fu F G = some res) {b : Nat} {H : Heap} {locs : List Loc} (hw : cMW s A v a b K0 F G H locs) {ls : Array Slot} (hl : lv_has ls 1 [(0, .ref (a 208))]) : W p l e R s m args below meth c H locs (xn F - xn K0) (2 * (xn F - xn K0)) Q (F0 m 25 ls []) := by
  have hx := C.1
  have hb := C.2.1
  unfold cb_X8_clear_25 at hm
  refine lv_aload_n hx hb dX8_clear_25 rfl (lv_at hl 0 rfl) ?_
  refine cg_X8_36 C hw dX8_clear_26 ?_
  refine lv_iconst (v := 0) hx hb dX8_clear_29 (by decide) ?_
  obtain ⟨⟨r1, F1, G1⟩, hc, hm⟩ := bind_elim hm
  refine ccallVS (n := 2) (As := [.ref (a 86), .int 0]) (rest := []) C hw (ck_fill_86 l v a _ _ fu 0 F G r1 F1 G1 hc) (cn_fill_86 fu 0 F G _ hc) (Nat.sub_le_sub_right (cn_X8_clear_33 fu F1 G1 hm) _) cm_262 cm_54 cm_55 cm_56 (by decide +kernel) rfl (by omega) (by omega) hl.1 rfl (Nat.le_of_ble_eq_true rfl) dX8_clear_30 (fun b H locs hw => ?_)
  exact cw_X8_clear_33 fu C hret F1 G1 hm hw (lv_sub hl [] rfl)
theorem cn_X8_clear_20 (fu : Nat) {res : Int32 × PF × PG} (F : PF) (G : PG) (hm : cb_X8_clear_20 fu F G = some res) : xn F ≤ xn res.2.1 := by
  unfold cb_X8_clear_20 at hm
  exact Nat.le_trans (Nat.le_of_eq (xn_fup (by decide)).symm) (cn_X8_clear_25 fu (fup F 85 (0 : Int32)) G hm)
theorem cw_X8_clear_20 (fu : Nat) {res : Int32 × PF × PG} (C : cMC p R s m args c A v RX8 cX8_clear 1 1 23 (xn res.2.1 - xn K0)) (hret : ∀ (b1 : Nat) (H1 : Heap) (locs1 : List Loc) (ls1 : Array Slot) (pc : Nat), cMW s A v a b1 K0 res.2.1 res.2.2 H1 locs1 → decode cX8_clear pc = .ok (.return_, 1) → W p l e R s m args below meth c H1 locs1 (xn res.2.1 - xn K0) (2 * (xn res.2.1 - xn K0)) Q (F0 m pc ls1 [])) (F : PF) (G : PG) (hm : cb_X8_clear_20 fu F G = some res) {b : Nat} {H : Heap} {locs : List Loc} (hw : cMW s A v a b K0 F G H locs) {ls : Array Slot} (hl : lv_has ls 1 [(0, .ref (a 208))]) : W p l e R s m args below meth c H locs (xn F - xn K0) (2 * (xn F - xn K0)) Q (F0 m 20 ls []) := by
  have hx := C.1
  have hb := C.2.1
  unfold cb_X8_clear_20 at hm
  refine lv_aload_n hx hb dX8_clear_20 rfl (lv_at hl 0 rfl) ?_
  refine lv_iconst (v := 0) hx hb dX8_clear_21 (by decide) ?_
  refine cp_X8_53 C hw dX8_clear_22 (fun H locs hw => ?_)
  exact cw_X8_clear_25 fu C hret (fup F 85 (0 : Int32)) G hm hw (lv_sub hl [0] rfl)
theorem cn_X8_clear_15 (fu : Nat) {res : Int32 × PF × PG} (F : PF) (G : PG) (hm : cb_X8_clear_15 fu F G = some res) : xn F ≤ xn res.2.1 := by
  unfold cb_X8_clear_15 at hm
  exact Nat.le_trans (Nat.le_of_eq (xn_fup (by decide)).symm) (cn_X8_clear_20 fu (fup F 76 (-1 : Int32)) G hm)
theorem cw_X8_clear_15 (fu : Nat) {res : Int32 × PF × PG} (C : cMC p R s m args c A v RX8 cX8_clear 1 1 23 (xn res.2.1 - xn K0)) (hret : ∀ (b1 : Nat) (H1 : Heap) (locs1 : List Loc) (ls1 : Array Slot) (pc : Nat), cMW s A v a b1 K0 res.2.1 res.2.2 H1 locs1 → decode cX8_clear pc = .ok (.return_, 1) → W p l e R s m args below meth c H1 locs1 (xn res.2.1 - xn K0) (2 * (xn res.2.1 - xn K0)) Q (F0 m pc ls1 [])) (F : PF) (G : PG) (hm : cb_X8_clear_15 fu F G = some res) {b : Nat} {H : Heap} {locs : List Loc} (hw : cMW s A v a b K0 F G H locs) {ls : Array Slot} (hl : lv_has ls 1 [(0, .ref (a 208))]) : W p l e R s m args below meth c H locs (xn F - xn K0) (2 * (xn F - xn K0)) Q (F0 m 15 ls []) := by
  have hx := C.1
  have hb := C.2.1
  unfold cb_X8_clear_15 at hm
  refine lv_aload_n hx hb dX8_clear_15 rfl (lv_at hl 0 rfl) ?_
  refine lv_iconst (v := (-1)) hx hb dX8_clear_16 (by decide) ?_
  refine cp_X8_50 C hw dX8_clear_17 (fun H locs hw => ?_)
  exact cw_X8_clear_20 fu C hret (fup F 76 (-1 : Int32)) G hm hw (lv_sub hl [0] rfl)
theorem cn_X8_clear_10 (fu : Nat) {res : Int32 × PF × PG} (F : PF) (G : PG) (hm : cb_X8_clear_10 fu F G = some res) : xn F ≤ xn res.2.1 := by
  unfold cb_X8_clear_10 at hm
  exact Nat.le_trans (Nat.le_of_eq (xn_fup (by decide)).symm) (cn_X8_clear_15 fu (fup F 75 (0 : Int32)) G hm)
theorem cw_X8_clear_10 (fu : Nat) {res : Int32 × PF × PG} (C : cMC p R s m args c A v RX8 cX8_clear 1 1 23 (xn res.2.1 - xn K0)) (hret : ∀ (b1 : Nat) (H1 : Heap) (locs1 : List Loc) (ls1 : Array Slot) (pc : Nat), cMW s A v a b1 K0 res.2.1 res.2.2 H1 locs1 → decode cX8_clear pc = .ok (.return_, 1) → W p l e R s m args below meth c H1 locs1 (xn res.2.1 - xn K0) (2 * (xn res.2.1 - xn K0)) Q (F0 m pc ls1 [])) (F : PF) (G : PG) (hm : cb_X8_clear_10 fu F G = some res) {b : Nat} {H : Heap} {locs : List Loc} (hw : cMW s A v a b K0 F G H locs) {ls : Array Slot} (hl : lv_has ls 1 [(0, .ref (a 208))]) : W p l e R s m args below meth c H locs (xn F - xn K0) (2 * (xn F - xn K0)) Q (F0 m 10 ls []) := by
  have hx := C.1
  have hb := C.2.1
  unfold cb_X8_clear_10 at hm
  refine lv_aload_n hx hb dX8_clear_10 rfl (lv_at hl 0 rfl) ?_
  refine lv_iconst (v := 0) hx hb dX8_clear_11 (by decide) ?_
  refine cp_X8_47 C hw dX8_clear_12 (fun H locs hw => ?_)
  exact cw_X8_clear_15 fu C hret (fup F 75 (0 : Int32)) G hm hw (lv_sub hl [0] rfl)
theorem cn_X8_clear_5 (fu : Nat) {res : Int32 × PF × PG} (F : PF) (G : PG) (hm : cb_X8_clear_5 fu F G = some res) : xn F ≤ xn res.2.1 := by
  unfold cb_X8_clear_5 at hm
  exact Nat.le_trans (Nat.le_of_eq (xn_fup (by decide)).symm) (cn_X8_clear_10 fu (fup F 74 (0 : Int32)) G hm)
theorem cw_X8_clear_5 (fu : Nat) {res : Int32 × PF × PG} (C : cMC p R s m args c A v RX8 cX8_clear 1 1 23 (xn res.2.1 - xn K0)) (hret : ∀ (b1 : Nat) (H1 : Heap) (locs1 : List Loc) (ls1 : Array Slot) (pc : Nat), cMW s A v a b1 K0 res.2.1 res.2.2 H1 locs1 → decode cX8_clear pc = .ok (.return_, 1) → W p l e R s m args below meth c H1 locs1 (xn res.2.1 - xn K0) (2 * (xn res.2.1 - xn K0)) Q (F0 m pc ls1 [])) (F : PF) (G : PG) (hm : cb_X8_clear_5 fu F G = some res) {b : Nat} {H : Heap} {locs : List Loc} (hw : cMW s A v a b K0 F G H locs) {ls : Array Slot} (hl : lv_has ls 1 [(0, .ref (a 208))]) : W p l e R s m args below meth c H locs (xn F - xn K0) (2 * (xn F - xn K0)) Q (F0 m 5 ls []) := by
  have hx := C.1
  have hb := C.2.1
  unfold cb_X8_clear_5 at hm
  refine lv_aload_n hx hb dX8_clear_5 rfl (lv_at hl 0 rfl) ?_
  refine lv_iconst (v := 0) hx hb dX8_clear_6 (by decide) ?_
  refine cp_X8_43 C hw dX8_clear_7 (fun H locs hw => ?_)
  exact cw_X8_clear_10 fu C hret (fup F 74 (0 : Int32)) G hm hw (lv_sub hl [0] rfl)
theorem cn_X8_clear_0 (fu : Nat) {res : Int32 × PF × PG} (F : PF) (G : PG) (hm : cb_X8_clear_0 fu F G = some res) : xn F ≤ xn res.2.1 := by
  unfold cb_X8_clear_0 at hm
  exact Nat.le_trans (Nat.le_of_eq (xn_fup (by decide)).symm) (cn_X8_clear_5 fu (fup F 73 (0 : Int32)) G hm)
theorem cw_X8_clear_0 (fu : Nat) {res : Int32 × PF × PG} (C : cMC p R s m args c A v RX8 cX8_clear 1 1 23 (xn res.2.1 - xn K0)) (hret : ∀ (b1 : Nat) (H1 : Heap) (locs1 : List Loc) (ls1 : Array Slot) (pc : Nat), cMW s A v a b1 K0 res.2.1 res.2.2 H1 locs1 → decode cX8_clear pc = .ok (.return_, 1) → W p l e R s m args below meth c H1 locs1 (xn res.2.1 - xn K0) (2 * (xn res.2.1 - xn K0)) Q (F0 m pc ls1 [])) (F : PF) (G : PG) (hm : cb_X8_clear_0 fu F G = some res) {b : Nat} {H : Heap} {locs : List Loc} (hw : cMW s A v a b K0 F G H locs) {ls : Array Slot} (hl : lv_has ls 1 [(0, .ref (a 208))]) : W p l e R s m args below meth c H locs (xn F - xn K0) (2 * (xn F - xn K0)) Q (F0 m 0 ls []) := by
  have hx := C.1
  have hb := C.2.1
  unfold cb_X8_clear_0 at hm
  refine lv_aload_n hx hb dX8_clear_0 rfl (lv_at hl 0 rfl) ?_
  refine lv_iconst (v := 0) hx hb dX8_clear_1 (by decide) ?_
  refine cp_X8_39 C hw (by decide) dX8_clear_2 (fun H locs hw => ?_)
  exact cw_X8_clear_5 fu C hret (fup F 73 (0 : Int32)) G hm hw (lv_sub hl [0] rfl)
theorem cn_X8_clear (fu : Nat) (F : PF) (G : PG) (q : Int32 × PF × PG) (hm : cf_X8_clear fu F G = some q) : xn F ≤ xn q.2.1 := cn_X8_clear_0 fu F G hm
theorem ck_X8_clear (l : Launch) (v : EV) (a : Nat → Nat) (b sz : Nat) (fu : Nat) (F : PF) (G : PG) (r : Int32) (F1 : PF) (G1 : PG) (hm : cf_X8_clear fu F G = some (r, F1, G1)) : cMV l yX8_clear cX8_clear 1 1 23 v a b sz [.ref (a 208)] F G F1 G1 := cMV.of (by decide) (Nat.le_of_ble_eq_true rfl) (fun p e R s m args below meth c Q A H locs ls C hw hl hret => cw_X8_clear_0 fu (res := (r, F1, G1)) C hret F G hm hw hl)
def cb_X4_clear_27 (fu : Nat) (F : PF) (G : PG) : PR := some (0, F, G)
def cb_X4_clear_19 (fu : Nat) (F : PF) (G : PG) : PR := cb_X4_clear_27 fu (fup F 6 (0 : Int32)) G
def cb_X4_clear_12 (fu : Nat) (F : PF) (G : PG) : PR := (cf_X5_clear fu F G).bind (fun q => cb_X4_clear_19 fu q.2.1 q.2.2)
def cb_X4_clear_5 (fu : Nat) (F : PF) (G : PG) : PR := (cf_X8_clear fu F G).bind (fun q => cb_X4_clear_12 fu q.2.1 q.2.2)
def cb_X4_clear_0 (fu : Nat) (x1 : Int32) (F : PF) (G : PG) : PR := cb_X4_clear_5 fu (fup F 27 x1) G
def cf_X4_clear (fu : Nat) (x1 : Int32) (F : PF) (G : PG) : PR := cb_X4_clear_0 fu x1 F G
theorem cn_X4_clear_27 (fu : Nat) {res : Int32 × PF × PG} (F : PF) (G : PG) (hm : cb_X4_clear_27 fu F G = some res) : xn F ≤ xn res.2.1 := by
  unfold cb_X4_clear_27 at hm
  obtain rfl := Option.some.inj hm
  exact Nat.le_refl _
theorem cw_X4_clear_27 (fu : Nat) {res : Int32 × PF × PG} (C : cMC p R s m args c A v RX4 cX4_clear 2 2 43 (xn res.2.1 - xn K0)) (hret : ∀ (b1 : Nat) (H1 : Heap) (locs1 : List Loc) (ls1 : Array Slot) (pc : Nat), cMW s A v a b1 K0 res.2.1 res.2.2 H1 locs1 → decode cX4_clear pc = .ok (.return_, 1) → W p l e R s m args below meth c H1 locs1 (xn res.2.1 - xn K0) (2 * (xn res.2.1 - xn K0)) Q (F0 m pc ls1 [])) (F : PF) (G : PG) (hm : cb_X4_clear_27 fu F G = some res) {b : Nat} {H : Heap} {locs : List Loc} (hw : cMW s A v a b K0 F G H locs) {ls : Array Slot} (hl : lv_has ls 2 []) : W p l e R s m args below meth c H locs (xn F - xn K0) (2 * (xn F - xn K0)) Q (F0 m 27 ls []) := by
  have hx := C.1
  have hb := C.2.1
  unfold cb_X4_clear_27 at hm
  obtain rfl := Option.some.inj hm
  exact hret _ _ _ _ _ hw dX4_clear_27
theorem cn_X4_clear_19 (fu : Nat) {res : Int32 × PF × PG} (F : PF) (G : PG) (hm : cb_X4_clear_19 fu F G = some res) : xn F ≤ xn res.2.1 := by
  unfold cb_X4_clear_19 at hm
  exact Nat.le_trans (Nat.le_of_eq (xn_fup (by decide)).symm) (cn_X4_clear_27 fu (fup F 6 (0 : Int32)) G hm)
theorem cw_X4_clear_19 (fu : Nat) {res : Int32 × PF × PG} (C : cMC p R s m args c A v RX4 cX4_clear 2 2 43 (xn res.2.1 - xn K0)) (hret : ∀ (b1 : Nat) (H1 : Heap) (locs1 : List Loc) (ls1 : Array Slot) (pc : Nat), cMW s A v a b1 K0 res.2.1 res.2.2 H1 locs1 → decode cX4_clear pc = .ok (.return_, 1) → W p l e R s m args below meth c H1 locs1 (xn res.2.1 - xn K0) (2 * (xn res.2.1 - xn K0)) Q (F0 m pc ls1 [])) (F : PF) (G : PG) (hm : cb_X4_clear_19 fu F G = some res) {b : Nat} {H : Heap} {locs : List Loc} (hw : cMW s A v a b K0 F G H locs) {ls : Array Slot} (hl : lv_has ls 2 [(0, .ref (a 204))]) : W p l e R s m args below meth c H locs (xn F - xn K0) (2 * (xn F - xn K0)) Q (F0 m 19 ls []) := by
  have hx := C.1
  have hb := C.2.1
  unfold cb_X4_clear_19 at hm
  refine lv_aload_n hx hb dX4_clear_19 rfl (lv_at hl 0 rfl) ?_
  refine cg_X4_19 C hw dX4_clear_20 ?_
  refine lv_iconst (v := 0) hx hb dX4_clear_23 (by decide) ?_
  refine cp_X4_43 C hw dX4_clear_24 (fun H locs hw => ?_)
  exact cw_X4_clear_27 fu C hret (fup F 6 (0 : Int32)) G hm hw (lv_sub hl [] rfl)
theorem cn_X4_clear_12 (fu : Nat) {res : Int32 × PF × PG} (F : PF) (G : PG) (hm : cb_X4_clear_12 fu F G = some res) : xn F ≤ xn res.2.1 := by
  unfold cb_X4_clear_12 at hm
  obtain ⟨⟨r1, F1, G1⟩, hc, hm⟩ := bind_elim hm
  exact Nat.le_trans (cn_X5_clear fu F G _ hc) (cn_X4_clear_19 fu F1 G1 hm)
theorem cw_X4_clear_12 (fu : Nat) {res : Int32 × PF × PG} (C : cMC p R s m args c A v RX4 cX4_clear 2 2 43 (xn res.2.1 - xn K0)) (hret : ∀ (b1 : Nat) (H1 : Heap) (locs1 : List Loc) (ls1 : Array Slot) (pc : Nat), cMW s A v a b1 K0 res.2.1 res.2.2 H1 locs1 → decode cX4_clear pc = .ok (.return_, 1) → W p l e R s m args below meth c H1 locs1 (xn res.2.1 - xn K0) (2 * (xn res.2.1 - xn K0)) Q (F0 m pc ls1 [])) (F : PF) (G : PG) (hm : cb_X4_clear_12 fu F G = some res) {b : Nat} {H : Heap} {locs : List Loc} (hw : cMW s A v a b K0 F G H locs) {ls : Array Slot} (hl : lv_has ls 2 [(0, .ref (a 204))]) : W p l e R s m args below meth c H locs (xn F - xn K0) (2 * (xn F - xn K0)) Q (F0 m 12 ls []) := by
  have hx := C.1
  have hb := C.2.1
  unfold cb_X4_clear_12 at hm
  refine lv_aload_n hx hb dX4_clear_12 rfl (lv_at hl 0 rfl) ?_
  refine cg_X4_15 C hw dX4_clear_13 ?_
  obtain ⟨⟨r1, F1, G1⟩, hc, hm⟩ := bind_elim hm
  refine ccallV (n := 0) (As := []) (rest := []) C hw (ck_X5_clear l v a _ _ fu F G r1 F1 G1 hc) (cn_X5_clear fu F G _ hc) (Nat.sub_le_sub_right (cn_X4_clear_19 fu F1 G1 hm) _) (crecv_X5 C hw) cm_263 cm_264 cm_265 cm_266 cm_267 (by decide +kernel) rfl (by omega) (by omega) hl.1 rfl (Nat.le_of_ble_eq_true rfl) dX4_clear_16 (fun b H locs hw => ?_)
  exact cw_X4_clear_19 fu C hret F1 G1 hm hw (lv_sub hl [0] rfl)
theorem cn_X4_clear_5 (fu : Nat) {res : Int32 × PF × PG} (F : PF) (G : PG) (hm : cb_X4_clear_5 fu F G = some res) : xn F ≤ xn res.2.1 := by
  unfold cb_X4_clear_5 at hm
  obtain ⟨⟨r1, F1, G1⟩, hc, hm⟩ := bind_elim hm
  exact Nat.le_trans (cn_X8_clear fu F G _ hc) (cn_X4_clear_12 fu F1 G1 hm)
theorem cw_X4_clear_5 (fu : Nat) {res : Int32 × PF × PG} (C : cMC p R s m args c A v RX4 cX4_clear 2 2 43 (xn res.2.1 - xn K0)) (hret : ∀ (b1 : Nat) (H1 : Heap) (locs1 : List Loc) (ls1 : Array Slot) (pc : Nat), cMW s A v a b1 K0 res.2.1 res.2.2 H1 locs1 → decode cX4_clear pc = .ok (.return_, 1) → W p l e R s m args below meth c H1 locs1 (xn res.2.1 - xn K0) (2 * (xn res.2.1 - xn K0)) Q (F0 m pc ls1 [])) (F : PF) (G : PG) (hm : cb_X4_clear_5 fu F G = some res) {b : Nat} {H : Heap} {locs : List Loc} (hw : cMW s A v a b K0 F G H locs) {ls : Array Slot} (hl : lv_has ls 2 [(0, .ref (a 204))]) : W p l e R s m args below meth c H locs (xn F - xn K0) (2 * (xn F - xn K0)) Q (F0 m 5 ls []) := by
  have hx := C.1
  have hb := C.2.1
  unfold cb_X4_clear_5 at hm
  refine lv_aload_n hx hb dX4_clear_5 rfl (lv_at hl 0 rfl) ?_
  refine cg_X4_23 C hw dX4_clear_6 ?_
  obtain ⟨⟨r1, F1, G1⟩, hc, hm⟩ := bind_elim hm
  refine ccallV (n := 0) (As := []) (rest := []) C hw (ck_X8_clear l v a _ _ fu F G r1 F1 G1 hc) (cn_X8_clear fu F G _ hc) (Nat.sub_le_sub_right (cn_X4_clear_12 fu F1 G1 hm) _) (crecv_X8 C hw) cm_251 cm_252 cm_253 cm_254 cm_255 (by decide +kernel) rfl (by omega) (by omega) hl.1 rfl (Nat.le_of_ble_eq_true rfl) dX4_clear_9 (fun b H locs hw => ?_)
  exact cw_X4_clear_12 fu C hret F1 G1 hm hw (lv_sub hl [0] rfl)
theorem cn_X4_clear_0 (fu : Nat) {res : Int32 × PF × PG} (x1 : Int32) (F : PF) (G : PG) (hm : cb_X4_clear_0 fu x1 F G = some res) : xn F ≤ xn res.2.1 := by
  unfold cb_X4_clear_0 at hm
  exact Nat.le_trans (Nat.le_of_eq (xn_fup (by decide)).symm) (cn_X4_clear_5 fu (fup F 27 x1) G hm)
theorem cw_X4_clear_0 (fu : Nat) {res : Int32 × PF × PG} (C : cMC p R s m args c A v RX4 cX4_clear 2 2 43 (xn res.2.1 - xn K0)) (hret : ∀ (b1 : Nat) (H1 : Heap) (locs1 : List Loc) (ls1 : Array Slot) (pc : Nat), cMW s A v a b1 K0 res.2.1 res.2.2 H1 locs1 → decode cX4_clear pc = .ok (.return_, 1) → W p l e R s m args below meth c H1 locs1 (xn res.2.1 - xn K0) (2 * (xn res.2.1 - xn K0)) Q (F0 m pc ls1 [])) (x1 : Int32) (F : PF) (G : PG) (hm : cb_X4_clear_0 fu x1 F G = some res) {b : Nat} {H : Heap} {locs : List Loc} (hw : cMW s A v a b K0 F G H locs) {ls : Array Slot} (hl : lv_has ls 2 [(0, .ref (a 204)), (1, .int x1)]) : W p l e R s m args below meth c H locs (xn F - xn K0) (2 * (xn F - xn K0)) Q (F0 m 0 ls []) := by
  have hx := C.1
  have hb := C.2.1
  unfold cb_X4_clear_0 at hm
  refine lv_aload_n hx hb dX4_clear_0 rfl (lv_at hl 0 rfl) ?_
  refine lv_iload_n hx hb dX4_clear_1 rfl (lv_at hl 1 rfl) ?_
  refine cp_X4_31 C hw dX4_clear_2 (fun H locs hw => ?_)
  exact cw_X4_clear_5 fu C hret (fup F 27 x1) G hm hw (lv_sub hl [0] rfl)
theorem cn_X4_clear (fu : Nat) (x1 : Int32) (F : PF) (G : PG) (q : Int32 × PF × PG) (hm : cf_X4_clear fu x1 F G = some q) : xn F ≤ xn q.2.1 := cn_X4_clear_0 fu x1 F G hm
theorem ck_X4_clear (l : Launch) (v : EV) (a : Nat → Nat) (b sz : Nat) (fu : Nat) (x1 : Int32) (F : PF) (G : PG) (r : Int32) (F1 : PF) (G1 : PG) (hm : cf_X4_clear fu x1 F G = some (r, F1, G1)) : cMV l yX4_clear cX4_clear 2 2 43 v a b sz [.ref (a 204), .int x1] F G F1 G1 := cMV.of (by decide) (Nat.le_of_ble_eq_true rfl) (fun p e R s m args below meth c Q A H locs ls C hw hl hret => cw_X4_clear_0 fu (res := (r, F1, G1)) C hret x1 F G hm hw hl)
def cb_X8_addFunction_96 (fu : Nat) (F : PF) (G : PG) : PR := some (0, F, G)
def cb_X8_addFunction_86 (fu : Nat) (F : PF) (G : PG) : PR := cb_X8_addFunction_96 fu (fup F 74 ((F 74) + (1 : Int32))) G
def cb_X8_addFunction_76 (fu : Nat) (F : PF) (G : PG) : PR := if ixb (F 74) 450 = true then (cb_X8_addFunction_86 fu F (gup G 80 (F 74).toNatClampNeg (0 : Int32))) else none
def cb_X8_addFunction_66 (fu : Nat) (F : PF) (G : PG) : PR := if ixb (F 74) 450 = true then (cb_X8_addFunction_76 fu F (gup G 79 (F 74).toNatClampNeg (4 : Int32))) else none
def cb_X8_addFunction_56 (fu : Nat) (F : PF) (G : PG) : PR := if ixb (F 74) 450 = true then (cb_X8_addFunction_66 fu F (gup G 81 (F 74).toNatClampNeg (0 : Int32))) else none
def cb_X8_addFunction_46 (fu : Nat) (F : PF) (G : PG) : PR := if ixb (F 74) 450 = true then (cb_X8_addFunction_56 fu F (gup G 78 (F 74).toNatClampNeg (0 : Int32))) else none
def cb_X8_addFunction_33 (fu : Nat) (F : PF) (G : PG) : PR := if ixb (F 74) 450 = true then (cb_X8_addFunction_46 fu F (gup G 83 (F 74).toNatClampNeg (F 85))) else none
def cb_X8_addFunction_32 (fu : Nat) (z0 : Int32) (z1 : Int32) (F : PF) (G : PG) : PR := if ixb z1 450 = true then (cb_X8_addFunction_33 fu F (gup G 82 z1.toNatClampNeg z0)) else none
def cb_X8_addFunction_20 (fu : Nat) (x2 : Int32) (F : PF) (G : PG) : PR := (cf_X11_truth fu x2 F G).bind (fun q => cb_X8_addFunction_32 fu q.1 (F 74) q.2.1 q.2.2)
def cb_X8_addFunction_10 (fu : Nat) (x1 : Int32) (x2 : Int32) (F : PF) (G : PG) : PR := if ixb (F 74) 450 = true then (cb_X8_addFunction_20 fu x2 F (gup G 77 (F 74).toNatClampNeg x1)) else none
def cb_X8_addFunction_0 (fu : Nat) (x1 : Int32) (x2 : Int32) (F : PF) (G : PG) : PR := if (450 : Int32) ≤ (F 74) then cb_X8_addFunction_96 fu F G else cb_X8_addFunction_10 fu x1 x2 F G
def cf_X8_addFunction (fu : Nat) (x1 : Int32) (x2 : Int32) (F : PF) (G : PG) : PR := cb_X8_addFunction_0 fu x1 x2 F G
theorem cn_X8_addFunction_96 (fu : Nat) {res : Int32 × PF × PG} (F : PF) (G : PG) (hm : cb_X8_addFunction_96 fu F G = some res) : xn F ≤ xn res.2.1 := by
  unfold cb_X8_addFunction_96 at hm
  obtain rfl := Option.some.inj hm
  exact Nat.le_refl _
theorem cw_X8_addFunction_96 (fu : Nat) {res : Int32 × PF × PG} (C : cMC p R s m args c A v RX8 cX8_addFunction 3 1 20 (xn res.2.1 - xn K0)) (hret : ∀ (b1 : Nat) (H1 : Heap) (locs1 : List Loc) (ls1 : Array Slot) (pc : Nat), cMW s A v a b1 K0 res.2.1 res.2.2 H1 locs1 → decode cX8_addFunction pc = .ok (.return_, 1) → W p l e R s m args below meth c H1 locs1 (xn res.2.1 - xn K0) (2 * (xn res.2.1 - xn K0)) Q (F0 m pc ls1 [])) (F : PF) (G : PG) (hm : cb_X8_addFunction_96 fu F G = some res) {b : Nat} {H : Heap} {locs : List Loc} (hw : cMW s A v a b K0 F G H locs) {ls : Array Slot} (hl : lv_has ls 3 []) : W p l e R s m args below meth c H locs (xn F - xn K0) (2 * (xn F - xn K0)) Q (F0 m 96 ls []) := by
  have hx := C.1
  have hb := C.2.1
  unfold cb_X8_addFunction_96 at hm
  obtain rfl := Option.some.inj hm
  exact hret _ _ _ _ _ hw dX8_addFunction_96
theorem cn_X8_addFunction_86 (fu : Nat) {res : Int32 × PF × PG} (F : PF) (G : PG) (hm : cb_X8_addFunction_86 fu F G = some res) : xn F ≤ xn res.2.1 := by
  unfold cb_X8_addFunction_86 at hm
  exact Nat.le_trans (Nat.le_of_eq (xn_fup (by decide)).symm) (cn_X8_addFunction_96 fu (fup F 74 ((F 74) + (1 : Int32))) G hm)
theorem cw_X8_addFunction_86 (fu : Nat) {res : Int32 × PF × PG} (C : cMC p R s m args c A v RX8 cX8_addFunction 3 1 20 (xn res.2.1 - xn K0)) (hret : ∀ (b1 : Nat) (H1 : Heap) (locs1 : List Loc) (ls1 : Array Slot) (pc : Nat), cMW s A v a b1 K0 res.2.1 res.2.2 H1 locs1 → decode cX8_addFunction pc = .ok (.return_, 1) → W p l e R s m args below meth c H1 locs1 (xn res.2.1 - xn K0) (2 * (xn res.2.1 - xn K0)) Q (F0 m pc ls1 [])) (F : PF) (G : PG) (hm : cb_X8_addFunction_86 fu F G = some res) {b : Nat} {H : Heap} {locs : List Loc} (hw : cMW s A v a b K0 F G H locs) {ls : Array Slot} (hl : lv_has ls 3 [(0, .ref (a 208))]) : W p l e R s m args below meth c H locs (xn F - xn K0) (2 * (xn F - xn K0)) Q (F0 m 86 ls []) := by
  have hx := C.1
  have hb := C.2.1
  unfold cb_X8_addFunction_86 at hm
  refine lv_aload_n hx hb dX8_addFunction_86 rfl (lv_at hl 0 rfl) ?_
  refine lv_dup hx hb dX8_addFunction_87 rfl ?_
  refine cg_X8_43 C hw dX8_addFunction_88 ?_
  refine lv_iconst (v := 1) hx hb dX8_addFunction_91 (by decide) ?_
  refine lv_iadd hx hb dX8_addFunction_92 ?_
  refine cp_X8_43 C hw dX8_addFunction_93 (fun H locs hw => ?_)
  exact cw_X8_addFunction_96 fu C hret (fup F 74 ((F 74) + (1 : Int32))) G hm hw (lv_sub hl [] rfl)
theorem cn_X8_addFunction_76 (fu : Nat) {res : Int32 × PF × PG} (F : PF) (G : PG) (hm : cb_X8_addFunction_76 fu F G = some res) : xn F ≤ xn res.2.1 := by
  unfold cb_X8_addFunction_76 at hm
  have hm := (ix_elim hm).2
  exact (cn_X8_addFunction_86 fu F (gup G 80 (F 74).toNatClampNeg (0 : Int32)) hm)
theorem cw_X8_addFunction_76 (fu : Nat) {res : Int32 × PF × PG} (C : cMC p R s m args c A v RX8 cX8_addFunction 3 1 20 (xn res.2.1 - xn K0)) (hret : ∀ (b1 : Nat) (H1 : Heap) (locs1 : List Loc) (ls1 : Array Slot) (pc : Nat), cMW s A v a b1 K0 res.2.1 res.2.2 H1 locs1 → decode cX8_addFunction pc = .ok (.return_, 1) → W p l e R s m args below meth c H1 locs1 (xn res.2.1 - xn K0) (2 * (xn res.2.1 - xn K0)) Q (F0 m pc ls1 [])) (F : PF) (G : PG) (hm : cb_X8_addFunction_76 fu F G = some res) {b : Nat} {H : Heap} {locs : List Loc} (hw : cMW s A v a b K0 F G H locs) {ls : Array Slot} (hl : lv_has ls 3 [(0, .ref (a 208))]) : W p l e R s m args below meth c H locs (xn F - xn K0) (2 * (xn F - xn K0)) Q (F0 m 76 ls []) := by
  have hx := C.1
  have hb := C.2.1
  unfold cb_X8_addFunction_76 at hm
  refine lv_aload_n hx hb dX8_addFunction_76 rfl (lv_at hl 0 rfl) ?_
  refine cg_X8_21 C hw dX8_addFunction_77 ?_
  refine lv_aload_n hx hb dX8_addFunction_80 rfl (lv_at hl 0 rfl) ?_
  refine cg_X8_43 C hw dX8_addFunction_81 ?_
  refine lv_iconst (v := 0) hx hb dX8_addFunction_84 (by decide) ?_
  obtain ⟨hi, hm⟩ := ix_elim hm
  refine cas_80 C hw hi dX8_addFunction_85 (fun H locs hw => ?_)
  exact cw_X8_addFunction_86 fu C hret F (gup G 80 (F 74).toNatClampNeg (0 : Int32)) hm hw (lv_sub hl [0] rfl)
theorem cn_X8_addFunction_66 (fu : Nat) {res : Int32 × PF × PG} (F : PF) (G : PG) (hm : cb_X8_addFunction_66 fu F G = some res) : xn F ≤ xn res.2.1 := by
  unfold cb_X8_addFunction_66 at hm
  have hm := (ix_elim hm).2
  exact (cn_X8_addFunction_76 fu F (gup G 79 (F 74).toNatClampNeg (4 : Int32)) hm)
theorem cw_X8_addFunction_66 (fu : Nat) {res : Int32 × PF × PG} (C : cMC p R s m args c A v RX8 cX8_addFunction 3 1 20 (xn res.2.1 - xn K0)) (hret : ∀ (b1 : Nat) (H1 : Heap) (locs1 : List Loc) (ls1 : Array Slot) (pc : Nat), cMW s A v a b1 K0 res.2.1 res.2.2 H1 locs1 → decode cX8_addFunction pc = .ok (.return_, 1) → W p l e R s m args below meth c H1 locs1 (xn res.2.1 - xn K0) (2 * (xn res.2.1 - xn K0)) Q (F0 m pc ls1 [])) (F : PF) (G : PG) (hm : cb_X8_addFunction_66 fu F G = some res) {b : Nat} {H : Heap} {locs : List Loc} (hw : cMW s A v a b K0 F G H locs) {ls : Array Slot} (hl : lv_has ls 3 [(0, .ref (a 208))]) : W p l e R s m args below meth c H locs (xn F - xn K0) (2 * (xn F - xn K0)) Q (F0 m 66 ls []) := by
  have hx := C.1
  have hb := C.2.1
  unfold cb_X8_addFunction_66 at hm
  refine lv_aload_n hx hb dX8_addFunction_66 rfl (lv_at hl 0 rfl) ?_
  refine cg_X8_18 C hw dX8_addFunction_67 ?_
  refine lv_aload_n hx hb dX8_addFunction_70 rfl (lv_at hl 0 rfl) ?_
  refine cg_X8_43 C hw dX8_addFunction_71 ?_
  refine lv_iconst (v := 4) hx hb dX8_addFunction_74 (by decide) ?_
  obtain ⟨hi, hm⟩ := ix_elim hm
  refine cas_79 C hw hi dX8_addFunction_75 (fun H locs hw => ?_)
  exact cw_X8_addFunction_76 fu C hret F (gup G 79 (F 74).toNatClampNeg (4 : Int32)) hm hw (lv_sub hl [0] rfl)
theorem cn_X8_addFunction_56 (fu : Nat) {res : Int32 × PF × PG} (F : PF) (G : PG) (hm : cb_X8_addFunction_56 fu F G = some res) : xn F ≤ xn res.2.1 := by
  unfold cb_X8_addFunction_56 at hm
  have hm := (ix_elim hm).2
  exact (cn_X8_addFunction_66 fu F (gup G 81 (F 74).toNatClampNeg (0 : Int32)) hm)
theorem cw_X8_addFunction_56 (fu : Nat) {res : Int32 × PF × PG} (C : cMC p R s m args c A v RX8 cX8_addFunction 3 1 20 (xn res.2.1 - xn K0)) (hret : ∀ (b1 : Nat) (H1 : Heap) (locs1 : List Loc) (ls1 : Array Slot) (pc : Nat), cMW s A v a b1 K0 res.2.1 res.2.2 H1 locs1 → decode cX8_addFunction pc = .ok (.return_, 1) → W p l e R s m args below meth c H1 locs1 (xn res.2.1 - xn K0) (2 * (xn res.2.1 - xn K0)) Q (F0 m pc ls1 [])) (F : PF) (G : PG) (hm : cb_X8_addFunction_56 fu F G = some res) {b : Nat} {H : Heap} {locs : List Loc} (hw : cMW s A v a b K0 F G H locs) {ls : Array Slot} (hl : lv_has ls 3 [(0, .ref (a 208))]) : W p l e R s m args below meth c H locs (xn F - xn K0) (2 * (xn F - xn K0)) Q (F0 m 56 ls []) := by
  have hx := C.1
  have hb := C.2.1
  unfold cb_X8_addFunction_56 at hm
  refine lv_aload_n hx hb dX8_addFunction_56 rfl (lv_at hl 0 rfl) ?_
  refine cg_X8_24 C hw dX8_addFunction_57 ?_
  refine lv_aload_n hx hb dX8_addFunction_60 rfl (lv_at hl 0 rfl) ?_
  refine cg_X8_43 C hw dX8_addFunction_61 ?_
  refine lv_iconst (v := 0) hx hb dX8_addFunction_64 (by decide) ?_
  obtain ⟨hi, hm⟩ := ix_elim hm
  refine cas_81 C hw hi dX8_addFunction_65 (fun H locs hw => ?_)
  exact cw_X8_addFunction_66 fu C hret F (gup G 81 (F 74).toNatClampNeg (0 : Int32)) hm hw (lv_sub hl [0] rfl)
theorem cn_X8_addFunction_46 (fu : Nat) {res : Int32 × PF × PG} (F : PF) (G : PG) (hm : cb_X8_addFunction_46 fu F G = some res) : xn F ≤ xn res.2.1 := by
  unfold cb_X8_addFunction_46 at hm
  have hm := (ix_elim hm).2
  exact (cn_X8_addFunction_56 fu F (gup G 78 (F 74).toNatClampNeg (0 : Int32)) hm)
theorem cw_X8_addFunction_46 (fu : Nat) {res : Int32 × PF × PG} (C : cMC p R s m args c A v RX8 cX8_addFunction 3 1 20 (xn res.2.1 - xn K0)) (hret : ∀ (b1 : Nat) (H1 : Heap) (locs1 : List Loc) (ls1 : Array Slot) (pc : Nat), cMW s A v a b1 K0 res.2.1 res.2.2 H1 locs1 → decode cX8_addFunction pc = .ok (.return_, 1) → W p l e R s m args below meth c H1 locs1 (xn res.2.1 - xn K0) (2 * (xn res.2.1 - xn K0)) Q (F0 m pc ls1 [])) (F : PF) (G : PG) (hm : cb_X8_addFunction_46 fu F G = some res) {b : Nat} {H : Heap} {locs : List Loc} (hw : cMW s A v a b K0 F G H locs) {ls : Array Slot} (hl : lv_has ls 3 [(0, .ref (a 208))]) : W p l e R s m args below meth c H locs (xn F - xn K0) (2 * (xn F - xn K0)) Q (F0 m 46 ls []) := by
  have hx := C.1
  have hb := C.2.1
  unfold cb_X8_addFunction_46 at hm
  refine lv_aload_n hx hb dX8_addFunction_46 rfl (lv_at hl 0 rfl) ?_
  refine cg_X8_15 C hw dX8_addFunction_47 ?_
  refine lv_aload_n hx hb dX8_addFunction_50 rfl (lv_at hl 0 rfl) ?_
  refine cg_X8_43 C hw dX8_addFunction_51 ?_
  refine lv_iconst (v := 0) hx hb dX8_addFunction_54 (by decide) ?_
  obtain ⟨hi, hm⟩ := ix_elim hm
  refine cas_78 C hw hi dX8_addFunction_55 (fun H locs hw => ?_)
  exact cw_X8_addFunction_56 fu C hret F (gup G 78 (F 74).toNatClampNeg (0 : Int32)) hm hw (lv_sub hl [0] rfl)
theorem cn_X8_addFunction_33 (fu : Nat) {res : Int32 × PF × PG} (F : PF) (G : PG) (hm : cb_X8_addFunction_33 fu F G = some res) : xn F ≤ xn res.2.1 := by
  unfold cb_X8_addFunction_33 at hm
  have hm := (ix_elim hm).2
  exact (cn_X8_addFunction_46 fu F (gup G 83 (F 74).toNatClampNeg (F 85)) hm)
theorem cw_X8_addFunction_33 (fu : Nat) {res : Int32 × PF × PG} (C : cMC p R s m args c A v RX8 cX8_addFunction 3 1 20 (xn res.2.1 - xn K0)) (hret : ∀ (b1 : Nat) (H1 : Heap) (locs1 : List Loc) (ls1 : Array Slot) (pc : Nat), cMW s A v a b1 K0 res.2.1 res.2.2 H1 locs1 → decode cX8_addFunction pc = .ok (.return_, 1) → W p l e R s m args below meth c H1 locs1 (xn res.2.1 - xn K0) (2 * (xn res.2.1 - xn K0)) Q (F0 m pc ls1 [])) (F : PF) (G : PG) (hm : cb_X8_addFunction_33 fu F G = some res) {b : Nat} {H : Heap} {locs : List Loc} (hw : cMW s A v a b K0 F G H locs) {ls : Array Slot} (hl : lv_has ls 3 [(0, .ref (a 208))]) : W p l e R s m args below meth c H locs (xn F - xn K0) (2 * (xn F - xn K0)) Q (F0 m 33 ls []) := by
  have hx := C.1
  have hb := C.2.1
  unfold cb_X8_addFunction_33 at hm
  refine lv_aload_n hx hb dX8_addFunction_33 rfl (lv_at hl 0 rfl) ?_
  refine cg_X8_30 C hw dX8_addFunction_34 ?_
  refine lv_aload_n hx hb dX8_addFunction_37 rfl (lv_at hl 0 rfl) ?_
  refine cg_X8_43 C hw dX8_addFunction_38 ?_
  refine lv_aload_n hx hb dX8_addFunction_41 rfl (lv_at hl 0 rfl) ?_
  refine cg_X8_53 C hw dX8_addFunction_42 ?_
  obtain ⟨hi, hm⟩ := ix_elim hm
  refine cas_83 C hw hi dX8_addFunction_45 (fun H locs hw => ?_)
  exact cw_X8_addFunction_46 fu C hret F (gup G 83 (F 74).toNatClampNeg (F 85)) hm hw (lv_sub hl [0] rfl)
theorem cn_X8_addFunction_32 (fu : Nat) {res : Int32 × PF × PG} (z0 : Int32) (z1 : Int32) (F : PF) (G : PG) (hm : cb_X8_addFunction_32 fu z0 z1 F G = some res) : xn F ≤ xn res.2.1 := by
  unfold cb_X8_addFunction_32 at hm
  have hm := (ix_elim hm).2
  exact (cn_X8_addFunction_33 fu F (gup G 82 z1.toNatClampNeg z0) hm)
theorem cw_X8_addFunction_32 (fu : Nat) {res : Int32 × PF × PG} (C : cMC p R s m args c A v RX8 cX8_addFunction 3 1 20 (xn res.2.1 - xn K0)) (hret : ∀ (b1 : Nat) (H1 : Heap) (locs1 : List Loc) (ls1 : Array Slot) (pc : Nat), cMW s A v a b1 K0 res.2.1 res.2.2 H1 locs1 → decode cX8_addFunction pc = .ok (.return_, 1) → W p l e R s m args below meth c H1 locs1 (xn res.2.1 - xn K0) (2 * (xn res.2.1 - xn K0)) Q (F0 m pc ls1 [])) (z0 : Int32) (z1 : Int32) (F : PF) (G : PG) (hm : cb_X8_addFunction_32 fu z0 z1 F G = some res) {b : Nat} {H : Heap} {locs : List Loc} (hw : cMW s A v a b K0 F G H locs) {ls : Array Slot} (hl : lv_has ls 3 [(0, .ref (a 208))]) : W p l e R s m args below meth c H locs (xn F - xn K0) (2 * (xn F - xn K0)) Q (F0 m 32 ls [.int z0, .int z1, .ref (a 82)]) := by
  have hx := C.1
  have hb := C.2.1
  unfold cb_X8_addFunction_32 at hm
  obtain ⟨hi, hm⟩ := ix_elim hm
  refine cas_82 C hw hi dX8_addFunction_32 (fun H locs hw => ?_)
  exact cw_X8_addFunction_33 fu C hret F (gup G 82 z1.toNatClampNeg z0) hm hw (lv_sub hl [0] rfl)
theorem cn_X8_addFunction_20 (fu : Nat) {res : Int32 × PF × PG} (x2 : Int32) (F : PF) (G : PG) (hm : cb_X8_addFunction_20 fu x2 F G = some res) : xn F ≤ xn res.2.1 := by
  unfold cb_X8_addFunction_20 at hm
  obtain ⟨⟨r1, F1, G1⟩, hc, hm⟩ := bind_elim hm
  exact Nat.le_trans (cn_X11_truth fu x2 F G _ hc) (cn_X8_addFunction_32 fu r1 (F 74) F1 G1 hm)
theorem cw_X8_addFunction_20 (fu : Nat) {res : Int32 × PF × PG} (C : cMC p R s m args c A v RX8 cX8_addFunction 3 1 20 (xn res.2.1 - xn K0)) (hret : ∀ (b1 : Nat) (H1 : Heap) (locs1 : List Loc) (ls1 : Array Slot) (pc : Nat), cMW s A v a b1 K0 res.2.1 res.2.2 H1 locs1 → decode cX8_addFunction pc = .ok (.return_, 1) → W p l e R s m args below meth c H1 locs1 (xn res.2.1 - xn K0) (2 * (xn res.2.1 - xn K0)) Q (F0 m pc ls1 [])) (x2 : Int32) (F : PF) (G : PG) (hm : cb_X8_addFunction_20 fu x2 F G = some res) {b : Nat} {H : Heap} {locs : List Loc} (hw : cMW s A v a b K0 F G H locs) {ls : Array Slot} (hl : lv_has ls 3 [(0, .ref (a 208)), (2, .int x2)]) : W p l e R s m args below meth c H locs (xn F - xn K0) (2 * (xn F - xn K0)) Q (F0 m 20 ls []) := by
  have hx := C.1
  have hb := C.2.1
  unfold cb_X8_addFunction_20 at hm
  refine lv_aload_n hx hb dX8_addFunction_20 rfl (lv_at hl 0 rfl) ?_
  refine cg_X8_27 C hw dX8_addFunction_21 ?_
  refine lv_aload_n hx hb dX8_addFunction_24 rfl (lv_at hl 0 rfl) ?_
  refine cg_X8_43 C hw dX8_addFunction_25 ?_
  refine lv_iload_n hx hb dX8_addFunction_28 rfl (lv_at hl 1 rfl) ?_
  obtain ⟨⟨r1, F1, G1⟩, hc, hm⟩ := bind_elim hm
  refine ccallIN (n := 1) (As := [.int x2]) (rest := [.int (F 74), .ref (a 82)]) C hw (ck_X11_truth l v a _ _ fu x2 F G r1 F1 G1 hc) (cn_X11_truth fu x2 F G _ hc) (Nat.sub_le_sub_right (cn_X8_addFunction_32 fu r1 (F 74) F1 G1 hm) _) C.2.2.2.2.2.2.2.2.2.1.2.2.2.2.2.2.2.2.2.2.2.2.2.2.2.2.2.2.2.2.2.2.2.2 cm_562 cm_563 cm_564 (by decide +kernel) rfl (by omega) (by omega) hl.1 rfl (Nat.le_of_ble_eq_true rfl) dX8_addFunction_29 (fun b H locs hw => ?_)
  exact cw_X8_addFunction_32 fu C hret r1 (F 74) F1 G1 hm hw (lv_sub hl [0] rfl)
theorem cn_X8_addFunction_10 (fu : Nat) {res : Int32 × PF × PG} (x1 : Int32) (x2 : Int32) (F : PF) (G : PG) (hm : cb_X8_addFunction_10 fu x1 x2 F G = some res) : xn F ≤ xn res.2.1 := by
  unfold cb_X8_addFunction_10 at hm
  have hm := (ix_elim hm).2
  exact (cn_X8_addFunction_20 fu x2 F (gup G 77 (F 74).toNatClampNeg x1) hm)
theorem cw_X8_addFunction_10 (fu : Nat) {res : Int32 × PF × PG} (C : cMC p R s m args c A v RX8 cX8_addFunction 3 1 20 (xn res.2.1 - xn K0)) (hret : ∀ (b1 : Nat) (H1 : Heap) (locs1 : List Loc) (ls1 : Array Slot) (pc : Nat), cMW s A v a b1 K0 res.2.1 res.2.2 H1 locs1 → decode cX8_addFunction pc = .ok (.return_, 1) → W p l e R s m args below meth c H1 locs1 (xn res.2.1 - xn K0) (2 * (xn res.2.1 - xn K0)) Q (F0 m pc ls1 [])) (x1 : Int32) (x2 : Int32) (F : PF) (G : PG) (hm : cb_X8_addFunction_10 fu x1 x2 F G = some res) {b : Nat} {H : Heap} {locs : List Loc} (hw : cMW s A v a b K0 F G H locs) {ls : Array Slot} (hl : lv_has ls 3 [(0, .ref (a 208)), (1, .int x1), (2, .int x2)]) : W p l e R s m args below meth c H locs (xn F - xn K0) (2 * (xn F - xn K0)) Q (F0 m 10 ls []) := by
  have hx := C.1
  have hb := C.2.1
  unfold cb_X8_addFunction_10 at hm
  refine lv_aload_n hx hb dX8_addFunction_10 rfl (lv_at hl 0 rfl) ?_
  refine cg_X8_11 C hw dX8_addFunction_11 ?_
  refine lv_aload_n hx hb dX8_addFunction_14 rfl (lv_at hl 0 rfl) ?_
  refine cg_X8_43 C hw dX8_addFunction_15 ?_
  refine lv_iload_n hx hb dX8_addFunction_18 rfl (lv_at hl 1 rfl) ?_
  obtain ⟨hi, hm⟩ := ix_elim hm
  refine cas_77 C hw hi dX8_addFunction_19 (fun H locs hw => ?_)
  exact cw_X8_addFunction_20 fu C hret x2 F (gup G 77 (F 74).toNatClampNeg x1) hm hw (lv_sub hl [0, 2] rfl)
theorem cn_X8_addFunction_0 (fu : Nat) {res : Int32 × PF × PG} (x1 : Int32) (x2 : Int32) (F : PF) (G : PG) (hm : cb_X8_addFunction_0 fu x1 x2 F G = some res) : xn F ≤ xn res.2.1 := by
  unfold cb_X8_addFunction_0 at hm
  by_cases c_1 : (450 : Int32) ≤ (F 74)
  · have hm := (if_pos c_1).symm.trans hm
    exact (cn_X8_addFunction_96 fu F G hm)
  · have hm := (if_neg c_1).symm.trans hm
    exact (cn_X8_addFunction_10 fu x1 x2 F G hm)
theorem cw_X8_addFunction_0 (fu : Nat) {res : Int32 × PF × PG} (C : cMC p R s m args c A v RX8 cX8_addFunction 3 1 20 (xn res.2.1 - xn K0)) (hret : ∀ (b1 : Nat) (H1 : Heap) (locs1 : List Loc) (ls1 : Array Slot) (pc : Nat), cMW s A v a b1 K0 res.2.1 res.2.2 H1 locs1 → decode cX8_addFunction pc = .ok (.return_, 1) → W p l e R s m args below meth c H1 locs1 (xn res.2.1 - xn K0) (2 * (xn res.2.1 - xn K0)) Q (F0 m pc ls1 [])) (x1 : Int32) (x2 : Int32) (F : PF) (G : PG) (hm : cb_X8_addFunction_0 fu x1 x2 F G = some res) {b : Nat} {H : Heap} {locs : List Loc} (hw : cMW s A v a b K0 F G H locs) {ls : Array Slot} (hl : lv_has ls 3 [(0, .ref (a 208)), (1, .int x1), (2, .int x2)]) : W p l e R s m args below meth c H locs (xn F - xn K0) (2 * (xn F - xn K0)) Q (F0 m 0 ls []) := by
  have hx := C.1
  have hb := C.2.1
  unfold cb_X8_addFunction_0 at hm
  refine lv_aload_n hx hb dX8_addFunction_0 rfl (lv_at hl 0 rfl) ?_
  refine cg_X8_43 C hw dX8_addFunction_1 ?_
  refine lv_sipush (v := 450) hx hb dX8_addFunction_4 (by decide) ?_
  refine lv_icmp_ge (tgt := 96) hx hb dX8_addFunction_7 (by decide) (fun c_1 => ?_) (fun c_1 => ?_)
  · have hm := (if_pos c_1).symm.trans hm
    exact cw_X8_addFunction_96 fu C hret F G hm hw (lv_sub hl [] rfl)
  · have hm := (if_neg c_1).symm.trans hm
    exact cw_X8_addFunction_10 fu C hret x1 x2 F G hm hw (lv_sub hl [0, 1, 2] rfl)
theorem cn_X8_addFunction (fu : Nat) (x1 : Int32) (x2 : Int32) (F : PF) (G : PG) (q : Int32 × PF × PG) (hm : cf_X8_addFunction fu x1 x2 F G = some q) : xn F ≤ xn q.2.1 := cn_X8_addFunction_0 fu x1 x2 F G hm
theorem ck_X8_addFunction (l : Launch) (v : EV) (a : Nat → Nat) (b sz : Nat) (fu : Nat) (x1 : Int32) (x2 : Int32) (F : PF) (G : PG) (r : Int32) (F1 : PF) (G1 : PG) (hm : cf_X8_addFunction fu x1 x2 F G = some (r, F1, G1)) : cMV l yX8_addFunction cX8_addFunction 3 1 20 v a b sz [.ref (a 208), .int x1, .int x2] F G F1 G1 := cMV.of (by decide) (Nat.le_of_ble_eq_true rfl) (fun p e R s m args below meth c Q A H locs ls C hw hl hret => cw_X8_addFunction_0 fu (res := (r, F1, G1)) C hret x1 x2 F G hm hw hl)
def cb_X5_tellFunction_46 (fu : Nat) (F : PF) (G : PG) : PR := some (0, F, G)
def cb_X5_tellFunction_39 (fu : Nat) (x2 : Int32) (F : PF) (G : PG) : PR := (cf_X5_note fu 8 x2 F G).bind (fun q => cb_X5_tellFunction_46 fu q.2.1 q.2.2)
def cb_X5_tellFunction_33 (fu : Nat) (x2 : Int32) (x3 : Int32) (F : PF) (G : PG) : PR := if x3 < (40 : Int32) then cb_X5_tellFunction_46 fu F G else cb_X5_tellFunction_39 fu x2 F G
def cb_X5_tellFunction_27 (fu : Nat) (x2 : Int32) (x3 : Int32) (F : PF) (G : PG) : PR := (cf_X5_note fu 1 x2 F G).bind (fun q => cb_X5_tellFunction_33 fu x2 x3 q.2.1 q.2.2)
def cb_X5_tellFunction_23 (fu : Nat) (x2 : Int32) (x3 : Int32) (z0 : Int32) (F : PF) (G : PG) : PR := if z0 = x3 then cb_X5_tellFunction_33 fu x2 x3 F G else cb_X5_tellFunction_27 fu x2 x3 F G
def cb_X5_tellFunction_17 (fu : Nat) (x2 : Int32) (x3 : Int32) (x4 : Int32) (F : PF) (G : PG) : PR := (cf_X5_value fu x4 F G).bind (fun q => cb_X5_tellFunction_23 fu x2 x3 q.1 q.2.1 q.2.2)
def cb_X5_tellFunction_13 (fu : Nat) (x2 : Int32) (x3 : Int32) (x4 : Int32) (z0 : Int32) (F : PF) (G : PG) : PR := if z0 = (4 : Int32) then cb_X5_tellFunction_17 fu x2 x3 x4 F G else cb_X5_tellFunction_27 fu x2 x3 F G
def cb_X5_tellFunction_5 (fu : Nat) (x2 : Int32) (x3 : Int32) (z0 : Int32) (F : PF) (G : PG) : PR := (cf_X5_kind fu z0 F G).bind (fun q => cb_X5_tellFunction_13 fu x2 x3 z0 q.1 q.2.1 q.2.2)
def cb_X5_tellFunction_0 (fu : Nat) (x1 : Int32) (x2 : Int32) (x3 : Int32) (F : PF) (G : PG) : PR := (cf_X5_known fu x1 F G).bind (fun q => cb_X5_tellFunction_5 fu x2 x3 q.1 q.2.1 q.2.2)
def cf_X5_tellFunction (fu : Nat) (x1 : Int32) (x2 : Int32) (x3 : Int32) (F : PF) (G : PG) : PR := cb_X5_tellFunction_0 fu x1 x2 x3 F G
theorem cn_X5_tellFunction_46 (fu : Nat) {res : Int32 × PF × PG} (F : PF) (G : PG) (hm : cb_X5_tellFunction_46 fu F G = some res) : xn F ≤ xn res.2.1 := by
  unfold cb_X5_tellFunction_46 at hm
  obtain rfl := Option.some.inj hm
  exact Nat.le_refl _
theorem cw_X5_tellFunction_46 (fu : Nat) {res : Int32 × PF × PG} (C : cMC p R s m args c A v RX5 cX5_tellFunction 5 1 22 (xn res.2.1 - xn K0)) (hret : ∀ (b1 : Nat) (H1 : Heap) (locs1 : List Loc) (ls1 : Array Slot) (pc : Nat), cMW s A v a b1 K0 res.2.1 res.2.2 H1 locs1 → decode cX5_tellFunction pc = .ok (.return_, 1) → W p l e R s m args below meth c H1 locs1 (xn res.2.1 - xn K0) (2 * (xn res.2.1 - xn K0)) Q (F0 m pc ls1 [])) (F : PF) (G : PG) (hm : cb_X5_tellFunction_46 fu F G = some res) {b : Nat} {H : Heap} {locs : List Loc} (hw : cMW s A v a b K0 F G H locs) {ls : Array Slot} (hl : lv_has ls 5 []) : W p l e R s m args below meth c H locs (xn F - xn K0) (2 * (xn F - xn K0)) Q (F0 m 46 ls []) := by
  have hx := C.1
  have hb := C.2.1
  unfold cb_X5_tellFunction_46 at hm
  obtain rfl := Option.some.inj hm
  exact hret _ _ _ _ _ hw dX5_tellFunction_46
theorem cn_X5_tellFunction_39 (fu : Nat) {res : Int32 × PF × PG} (x2 : Int32) (F : PF) (G : PG) (hm : cb_X5_tellFunction_39 fu x2 F G = some res) : xn F ≤ xn res.2.1 := by
  unfold cb_X5_tellFunction_39 at hm
  obtain ⟨⟨r1, F1, G1⟩, hc, hm⟩ := bind_elim hm
  exact Nat.le_trans (cn_X5_note fu 8 x2 F G _ hc) (cn_X5_tellFunction_46 fu F1 G1 hm)
theorem cw_X5_tellFunction_39 (fu : Nat) {res : Int32 × PF × PG} (C : cMC p R s m args c A v RX5 cX5_tellFunction 5 1 22 (xn res.2.1 - xn K0)) (hret : ∀ (b1 : Nat) (H1 : Heap) (locs1 : List Loc) (ls1 : Array Slot) (pc : Nat), cMW s A v a b1 K0 res.2.1 res.2.2 H1 locs1 → decode cX5_tellFunction pc = .ok (.return_, 1) → W p l e R s m args below meth c H1 locs1 (xn res.2.1 - xn K0) (2 * (xn res.2.1 - xn K0)) Q (F0 m pc ls1 [])) (x2 : Int32) (F : PF) (G : PG) (hm : cb_X5_tellFunction_39 fu x2 F G = some res) {b : Nat} {H : Heap} {locs : List Loc} (hw : cMW s A v a b K0 F G H locs) {ls : Array Slot} (hl : lv_has ls 5 [(0, .ref (a 205)), (2, .int x2)]) : W p l e R s m args below meth c H locs (xn F - xn K0) (2 * (xn F - xn K0)) Q (F0 m 39 ls []) := by
  have hx := C.1
  have hb := C.2.1
  unfold cb_X5_tellFunction_39 at hm
  refine lv_aload_n hx hb dX5_tellFunction_39 rfl (lv_at hl 0 rfl) ?_
  refine lv_bipush (v := 8) hx hb dX5_tellFunction_40 (by decide) ?_
  refine lv_iload_n hx hb dX5_tellFunction_42 rfl (lv_at hl 1 rfl) ?_
  obtain ⟨⟨r1, F1, G1⟩, hc, hm⟩ := bind_elim hm
  refine ccallV (n := 2) (As := [.int 8, .int x2]) (rest := []) C hw (ck_X5_note l v a _ _ fu 8 x2 F G r1 F1 G1 hc) (cn_X5_note fu 8 x2 F G _ hc) (Nat.sub_le_sub_right (cn_X5_tellFunction_46 fu F1 G1 hm) _) (crecv_X5 C hw) cm_424 cm_425 cm_426 cm_266 cm_427 (by decide +kernel) rfl (by omega) (by omega) hl.1 rfl (Nat.le_of_ble_eq_true rfl) dX5_tellFunction_43 (fun b H locs hw => ?_)
  exact cw_X5_tellFunction_46 fu C hret F1 G1 hm hw (lv_sub hl [] rfl)
theorem cn_X5_tellFunction_33 (fu : Nat) {res : Int32 × PF × PG} (x2 : Int32) (x3 : Int32) (F : PF) (G : PG) (hm : cb_X5_tellFunction_33 fu x2 x3 F G = some res) : xn F ≤ xn res.2.1 := by
  unfold cb_X5_tellFunction_33 at hm
  by_cases c_1 : x3 < (40 : Int32)
  · have hm := (if_pos c_1).symm.trans hm
    exact (cn_X5_tellFunction_46 fu F G hm)
  · have hm := (if_neg c_1).symm.trans hm
    exact (cn_X5_tellFunction_39 fu x2 F G hm)
theorem cw_X5_tellFunction_33 (fu : Nat) {res : Int32 × PF × PG} (C : cMC p R s m args c A v RX5 cX5_tellFunction 5 1 22 (xn res.2.1 - xn K0)) (hret : ∀ (b1 : Nat) (H1 : Heap) (locs1 : List Loc) (ls1 : Array Slot) (pc : Nat), cMW s A v a b1 K0 res.2.1 res.2.2 H1 locs1 → decode cX5_tellFunction pc = .ok (.return_, 1) → W p l e R s m args below meth c H1 locs1 (xn res.2.1 - xn K0) (2 * (xn res.2.1 - xn K0)) Q (F0 m pc ls1 [])) (x2 : Int32) (x3 : Int32) (F : PF) (G : PG) (hm : cb_X5_tellFunction_33 fu x2 x3 F G = some res) {b : Nat} {H : Heap} {locs : List Loc} (hw : cMW s A v a b K0 F G H locs) {ls : Array Slot} (hl : lv_has ls 5 [(0, .ref (a 205)), (2, .int x2), (3, .int x3)]) : W p l e R s m args below meth c H locs (xn F - xn K0) (2 * (xn F - xn K0)) Q (F0 m 33 ls []) := by
  have hx := C.1
  have hb := C.2.1
  unfold cb_X5_tellFunction_33 at hm
  refine lv_iload_n hx hb dX5_tellFunction_33 rfl (lv_at hl 2 rfl) ?_
  refine lv_bipush (v := 40) hx hb dX5_tellFunction_34 (by decide) ?_
  refine lv_icmp_lt (tgt := 46) hx hb dX5_tellFunction_36 (by decide) (fun c_1 => ?_) (fun c_1 => ?_)
  · have hm := (if_pos c_1).symm.trans hm
    exact cw_X5_tellFunction_46 fu C hret F G hm hw (lv_sub hl [] rfl)
  · have hm := (if_neg c_1).symm.trans hm
    exact cw_X5_tellFunction_39 fu C hret x2 F G hm hw (lv_sub hl [0, 1] rfl)
theorem cn_X5_tellFunction_27 (fu : Nat) {res : Int32 × PF × PG} (x2 : Int32) (x3 : Int32) (F : PF) (G : PG) (hm : cb_X5_tellFunction_27 fu x2 x3 F G = some res) : xn F ≤ xn res.2.1 := by
  unfold cb_X5_tellFunction_27 at hm
  obtain ⟨⟨r1, F1, G1⟩, hc, hm⟩ := bind_elim hm
  exact Nat.le_trans (cn_X5_note fu 1 x2 F G _ hc) (cn_X5_tellFunction_33 fu x2 x3 F1 G1 hm)
theorem cw_X5_tellFunction_27 (fu : Nat) {res : Int32 × PF × PG} (C : cMC p R s m args c A v RX5 cX5_tellFunction 5 1 22 (xn res.2.1 - xn K0)) (hret : ∀ (b1 : Nat) (H1 : Heap) (locs1 : List Loc) (ls1 : Array Slot) (pc : Nat), cMW s A v a b1 K0 res.2.1 res.2.2 H1 locs1 → decode cX5_tellFunction pc = .ok (.return_, 1) → W p l e R s m args below meth c H1 locs1 (xn res.2.1 - xn K0) (2 * (xn res.2.1 - xn K0)) Q (F0 m pc ls1 [])) (x2 : Int32) (x3 : Int32) (F : PF) (G : PG) (hm : cb_X5_tellFunction_27 fu x2 x3 F G = some res) {b : Nat} {H : Heap} {locs : List Loc} (hw : cMW s A v a b K0 F G H locs) {ls : Array Slot} (hl : lv_has ls 5 [(0, .ref (a 205)), (2, .int x2), (3, .int x3)]) : W p l e R s m args below meth c H locs (xn F - xn K0) (2 * (xn F - xn K0)) Q (F0 m 27 ls []) := by
  have hx := C.1
  have hb := C.2.1
  unfold cb_X5_tellFunction_27 at hm
  refine lv_aload_n hx hb dX5_tellFunction_27 rfl (lv_at hl 0 rfl) ?_
  refine lv_iconst (v := 1) hx hb dX5_tellFunction_28 (by decide) ?_
  refine lv_iload_n hx hb dX5_tellFunction_29 rfl (lv_at hl 1 rfl) ?_
  obtain ⟨⟨r1, F1, G1⟩, hc, hm⟩ := bind_elim hm
  refine ccallV (n := 2) (As := [.int 1, .int x2]) (rest := []) C hw (ck_X5_note l v a _ _ fu 1 x2 F G r1 F1 G1 hc) (cn_X5_note fu 1 x2 F G _ hc) (Nat.sub_le_sub_right (cn_X5_tellFunction_33 fu x2 x3 F1 G1 hm) _) (crecv_X5 C hw) cm_424 cm_425 cm_426 cm_266 cm_427 (by decide +kernel) rfl (by omega) (by omega) hl.1 rfl (Nat.le_of_ble_eq_true rfl) dX5_tellFunction_30 (fun b H locs hw => ?_)
  exact cw_X5_tellFunction_33 fu C hret x2 x3 F1 G1 hm hw (lv_sub hl [0, 1, 2] rfl)
theorem cn_X5_tellFunction_23 (fu : Nat) {res : Int32 × PF × PG} (x2 : Int32) (x3 : Int32) (z0 : Int32) (F : PF) (G : PG) (hm : cb_X5_tellFunction_23 fu x2 x3 z0 F G = some res) : xn F ≤ xn res.2.1 := by
  unfold cb_X5_tellFunction_23 at hm
  by_cases c_1 : z0 = x3
  · have hm := (if_pos c_1).symm.trans hm
    exact (cn_X5_tellFunction_33 fu x2 x3 F G hm)
  · have hm := (if_neg c_1).symm.trans hm
    exact (cn_X5_tellFunction_27 fu x2 x3 F G hm)
theorem cw_X5_tellFunction_23 (fu : Nat) {res : Int32 × PF × PG} (C : cMC p R s m args c A v RX5 cX5_tellFunction 5 1 22 (xn res.2.1 - xn K0)) (hret : ∀ (b1 : Nat) (H1 : Heap) (locs1 : List Loc) (ls1 : Array Slot) (pc : Nat), cMW s A v a b1 K0 res.2.1 res.2.2 H1 locs1 → decode cX5_tellFunction pc = .ok (.return_, 1) → W p l e R s m args below meth c H1 locs1 (xn res.2.1 - xn K0) (2 * (xn res.2.1 - xn K0)) Q (F0 m pc ls1 [])) (x2 : Int32) (x3 : Int32) (z0 : Int32) (F : PF) (G : PG) (hm : cb_X5_tellFunction_23 fu x2 x3 z0 F G = some res) {b : Nat} {H : Heap} {locs : List Loc} (hw : cMW s A v a b K0 F G H locs) {ls : Array Slot} (hl : lv_has ls 5 [(0, .ref (a 205)), (2, .int x2), (3, .int x3)]) : W p l e R s m args below meth c H locs (xn F - xn K0) (2 * (xn F - xn K0)) Q (F0 m 23 ls [.int z0]) := by
  have hx := C.1
  have hb := C.2.1
  unfold cb_X5_tellFunction_23 at hm
  refine lv_iload_n hx hb dX5_tellFunction_23 rfl (lv_at hl 2 rfl) ?_
  refine lv_icmp_eq (tgt := 33) hx hb dX5_tellFunction_24 (by decide) (fun c_1 => ?_) (fun c_1 => ?_)
  · have hm := (if_pos c_1).symm.trans hm
    exact cw_X5_tellFunction_33 fu C hret x2 x3 F G hm hw (lv_sub hl [0, 1, 2] rfl)
  · have hm := (if_neg c_1).symm.trans hm
    exact cw_X5_tellFunction_27 fu C hret x2 x3 F G hm hw (lv_sub hl [0, 1, 2] rfl)
theorem cn_X5_tellFunction_17 (fu : Nat) {res : Int32 × PF × PG} (x2 : Int32) (x3 : Int32) (x4 : Int32) (F : PF) (G : PG) (hm : cb_X5_tellFunction_17 fu x2 x3 x4 F G = some res) : xn F ≤ xn res.2.1 := by
  unfold cb_X5_tellFunction_17 at hm
  obtain ⟨⟨r1, F1, G1⟩, hc, hm⟩ := bind_elim hm
  exact Nat.le_trans (cn_X5_value fu x4 F G _ hc) (cn_X5_tellFunction_23 fu x2 x3 r1 F1 G1 hm)
theorem cw_X5_tellFunction_17 (fu : Nat) {res : Int32 × PF × PG} (C : cMC p R s m args c A v RX5 cX5_tellFunction 5 1 22 (xn res.2.1 - xn K0)) (hret : ∀ (b1 : Nat) (H1 : Heap) (locs1 : List Loc) (ls1 : Array Slot) (pc : Nat), cMW s A v a b1 K0 res.2.1 res.2.2 H1 locs1 → decode cX5_tellFunction pc = .ok (.return_, 1) → W p l e R s m args below meth c H1 locs1 (xn res.2.1 - xn K0) (2 * (xn res.2.1 - xn K0)) Q (F0 m pc ls1 [])) (x2 : Int32) (x3 : Int32) (x4 : Int32) (F : PF) (G : PG) (hm : cb_X5_tellFunction_17 fu x2 x3 x4 F G = some res) {b : Nat} {H : Heap} {locs : List Loc} (hw : cMW s A v a b K0 F G H locs) {ls : Array Slot} (hl : lv_has ls 5 [(0, .ref (a 205)), (2, .int x2), (3, .int x3), (4, .int x4)]) : W p l e R s m args below meth c H locs (xn F - xn K0) (2 * (xn F - xn K0)) Q (F0 m 17 ls []) := by
  have hx := C.1
  have hb := C.2.1
  unfold cb_X5_tellFunction_17 at hm
  refine lv_aload_n hx hb dX5_tellFunction_17 rfl (lv_at hl 0 rfl) ?_
  refine lv_iload hx hb dX5_tellFunction_18 (lv_at hl 3 rfl) ?_
  obtain ⟨⟨r1, F1, G1⟩, hc, hm⟩ := bind_elim hm
  refine ccallI (n := 1) (As := [.int x4]) (rest := []) C hw (ck_X5_value l v a _ _ fu x4 F G r1 F1 G1 hc) (cn_X5_value fu x4 F G _ hc) (Nat.sub_le_sub_right (cn_X5_tellFunction_23 fu x2 x3 r1 F1 G1 hm) _) (crecv_X5 C hw) cm_594 cm_393 cm_394 cm_266 cm_395 (by decide +kernel) rfl (by omega) (by omega) hl.1 rfl (Nat.le_of_ble_eq_true rfl) dX5_tellFunction_20 (fun b H locs hw => ?_)
  exact cw_X5_tellFunction_23 fu C hret x2 x3 r1 F1 G1 hm hw (lv_sub hl [0, 1, 2] rfl)
theorem cn_X5_tellFunction_13 (fu : Nat) {res : Int32 × PF × PG} (x2 : Int32) (x3 : Int32) (x4 : Int32) (z0 : Int32) (F : PF) (G : PG) (hm : cb_X5_tellFunction_13 fu x2 x3 x4 z0 F G = some res) : xn F ≤ xn res.2.1 := by
  unfold cb_X5_tellFunction_13 at hm
  by_cases c_1 : z0 = (4 : Int32)
  · have hm := (if_pos c_1).symm.trans hm
    exact (cn_X5_tellFunction_17 fu x2 x3 x4 F G hm)
  · have hm := (if_neg c_1).symm.trans hm
    exact (cn_X5_tellFunction_27 fu x2 x3 F G hm)
theorem cw_X5_tellFunction_13 (fu : Nat) {res : Int32 × PF × PG} (C : cMC p R s m args c A v RX5 cX5_tellFunction 5 1 22 (xn res.2.1 - xn K0)) (hret : ∀ (b1 : Nat) (H1 : Heap) (locs1 : List Loc) (ls1 : Array Slot) (pc : Nat), cMW s A v a b1 K0 res.2.1 res.2.2 H1 locs1 → decode cX5_tellFunction pc = .ok (.return_, 1) → W p l e R s m args below meth c H1 locs1 (xn res.2.1 - xn K0) (2 * (xn res.2.1 - xn K0)) Q (F0 m pc ls1 [])) (x2 : Int32) (x3 : Int32) (x4 : Int32) (z0 : Int32) (F : PF) (G : PG) (hm : cb_X5_tellFunction_13 fu x2 x3 x4 z0 F G = some res) {b : Nat} {H : Heap} {locs : List Loc} (hw : cMW s A v a b K0 F G H locs) {ls : Array Slot} (hl : lv_has ls 5 [(0, .ref (a 205)), (2, .int x2), (3, .int x3), (4, .int x4)]) : W p l e R s m args below meth c H locs (xn F - xn K0) (2 * (xn F - xn K0)) Q (F0 m 13 ls [.int z0]) := by
  have hx := C.1
  have hb := C.2.1
  unfold cb_X5_tellFunction_13 at hm
  refine lv_iconst (v := 4) hx hb dX5_tellFunction_13 (by decide) ?_
  refine lv_icmp_ne (tgt := 27) hx hb dX5_tellFunction_14 (by decide) (fun c_1 => ?_) (fun c_1 => ?_)
  · have hm := (if_neg c_1).symm.trans hm
    exact cw_X5_tellFunction_27 fu C hret x2 x3 F G hm hw (lv_sub hl [0, 1, 2] rfl)
  · have hm := (if_pos c_1).symm.trans hm
    exact cw_X5_tellFunction_17 fu C hret x2 x3 x4 F G hm hw (lv_sub hl [0, 1, 2, 3] rfl)
theorem cn_X5_tellFunction_5 (fu : Nat) {res : Int32 × PF × PG} (x2 : Int32) (x3 : Int32) (z0 : Int32) (F : PF) (G : PG) (hm : cb_X5_tellFunction_5 fu x2 x3 z0 F G = some res) : xn F ≤ xn res.2.1 := by
  unfold cb_X5_tellFunction_5 at hm
  obtain ⟨⟨r1, F1, G1⟩, hc, hm⟩ := bind_elim hm
  exact Nat.le_trans (cn_X5_kind fu z0 F G _ hc) (cn_X5_tellFunction_13 fu x2 x3 z0 r1 F1 G1 hm)
theorem cw_X5_tellFunction_5 (fu : Nat) {res : Int32 × PF × PG} (C : cMC p R s m args c A v RX5 cX5_tellFunction 5 1 22 (xn res.2.1 - xn K0)) (hret : ∀ (b1 : Nat) (H1 : Heap) (locs1 : List Loc) (ls1 : Array Slot) (pc : Nat), cMW s A v a b1 K0 res.2.1 res.2.2 H1 locs1 → decode cX5_tellFunction pc = .ok (.return_, 1) → W p l e R s m args below meth c H1 locs1 (xn res.2.1 - xn K0) (2 * (xn res.2.1 - xn K0)) Q (F0 m pc ls1 [])) (x2 : Int32) (x3 : Int32) (z0 : Int32) (F : PF) (G : PG) (hm : cb_X5_tellFunction_5 fu x2 x3 z0 F G = some res) {b : Nat} {H : Heap} {locs : List Loc} (hw : cMW s A v a b K0 F G H locs) {ls : Array Slot} (hl : lv_has ls 5 [(0, .ref (a 205)), (2, .int x2), (3, .int x3)]) : W p l e R s m args below meth c H locs (xn F - xn K0) (2 * (xn F - xn K0)) Q (F0 m 5 ls [.int z0]) := by
  have hx := C.1
  have hb := C.2.1
  unfold cb_X5_tellFunction_5 at hm
  refine lv_istore (lv' := [(4, .int z0), (0, .ref (a 205)), (2, .int x2), (3, .int x3)]) hx hb dX5_tellFunction_5 hl (by decide) rfl (fun ls hl => ?_)
  refine lv_aload_n hx hb dX5_tellFunction_7 rfl (lv_at hl 1 rfl) ?_
  refine lv_iload hx hb dX5_tellFunction_8 (lv_at hl 0 rfl) ?_
  obtain ⟨⟨r1, F1, G1⟩, hc, hm⟩ := bind_elim hm
  refine ccallI (n := 1) (As := [.int z0]) (rest := []) C hw (ck_X5_kind l v a _ _ fu z0 F G r1 F1 G1 hc) (cn_X5_kind fu z0 F G _ hc) (Nat.sub_le_sub_right (cn_X5_tellFunction_13 fu x2 x3 z0 r1 F1 G1 hm) _) (crecv_X5 C hw) cm_433 cm_388 cm_389 cm_266 cm_390 (by decide +kernel) rfl (by omega) (by omega) hl.1 rfl (Nat.le_of_ble_eq_true rfl) dX5_tellFunction_10 (fun b H locs hw => ?_)
  exact cw_X5_tellFunction_13 fu C hret x2 x3 z0 r1 F1 G1 hm hw (lv_sub hl [1, 2, 3, 0] rfl)
theorem cn_X5_tellFunction_0 (fu : Nat) {res : Int32 × PF × PG} (x1 : Int32) (x2 : Int32) (x3 : Int32) (F : PF) (G : PG) (hm : cb_X5_tellFunction_0 fu x1 x2 x3 F G = some res) : xn F ≤ xn res.2.1 := by
  unfold cb_X5_tellFunction_0 at hm
  obtain ⟨⟨r1, F1, G1⟩, hc, hm⟩ := bind_elim hm
  exact Nat.le_trans (cn_X5_known fu x1 F G _ hc) (cn_X5_tellFunction_5 fu x2 x3 r1 F1 G1 hm)
theorem cw_X5_tellFunction_0 (fu : Nat) {res : Int32 × PF × PG} (C : cMC p R s m args c A v RX5 cX5_tellFunction 5 1 22 (xn res.2.1 - xn K0)) (hret : ∀ (b1 : Nat) (H1 : Heap) (locs1 : List Loc) (ls1 : Array Slot) (pc : Nat), cMW s A v a b1 K0 res.2.1 res.2.2 H1 locs1 → decode cX5_tellFunction pc = .ok (.return_, 1) → W p l e R s m args below meth c H1 locs1 (xn res.2.1 - xn K0) (2 * (xn res.2.1 - xn K0)) Q (F0 m pc ls1 [])) (x1 : Int32) (x2 : Int32) (x3 : Int32) (F : PF) (G : PG) (hm : cb_X5_tellFunction_0 fu x1 x2 x3 F G = some res) {b : Nat} {H : Heap} {locs : List Loc} (hw : cMW s A v a b K0 F G H locs) {ls : Array Slot} (hl : lv_has ls 5 [(0, .ref (a 205)), (1, .int x1), (2, .int x2), (3, .int x3)]) : W p l e R s m args below meth c H locs (xn F - xn K0) (2 * (xn F - xn K0)) Q (F0 m 0 ls []) := by
  have hx := C.1
  have hb := C.2.1
  unfold cb_X5_tellFunction_0 at hm
  refine lv_aload_n hx hb dX5_tellFunction_0 rfl (lv_at hl 0 rfl) ?_
  refine lv_iload_n hx hb dX5_tellFunction_1 rfl (lv_at hl 1 rfl) ?_
  obtain ⟨⟨r1, F1, G1⟩, hc, hm⟩ := bind_elim hm
  refine ccallI (n := 1) (As := [.int x1]) (rest := []) C hw (ck_X5_known l v a _ _ fu x1 F G r1 F1 G1 hc) (cn_X5_known fu x1 F G _ hc) (Nat.sub_le_sub_right (cn_X5_tellFunction_5 fu x2 x3 r1 F1 G1 hm) _) (crecv_X5 C hw) cm_420 cm_421 cm_422 cm_266 cm_423 (by decide +kernel) rfl (by omega) (by omega) hl.1 rfl (Nat.le_of_ble_eq_true rfl) dX5_tellFunction_2 (fun b H locs hw => ?_)
  exact cw_X5_tellFunction_5 fu C hret x2 x3 r1 F1 G1 hm hw (lv_sub hl [0, 2, 3] rfl)
theorem cn_X5_tellFunction (fu : Nat) (x1 : Int32) (x2 : Int32) (x3 : Int32) (F : PF) (G : PG) (q : Int32 × PF × PG) (hm : cf_X5_tellFunction fu x1 x2 x3 F G = some q) : xn F ≤ xn q.2.1 := cn_X5_tellFunction_0 fu x1 x2 x3 F G hm
theorem ck_X5_tellFunction (l : Launch) (v : EV) (a : Nat → Nat) (b sz : Nat) (fu : Nat) (x1 : Int32) (x2 : Int32) (x3 : Int32) (F : PF) (G : PG) (r : Int32) (F1 : PF) (G1 : PG) (hm : cf_X5_tellFunction fu x1 x2 x3 F G = some (r, F1, G1)) : cMV l yX5_tellFunction cX5_tellFunction 5 1 22 v a b sz [.ref (a 205), .int x1, .int x2, .int x3] F G F1 G1 := cMV.of (by decide) (Nat.le_of_ble_eq_true rfl) (fun p e R s m args below meth c Q A H locs ls C hw hl hret => cw_X5_tellFunction_0 fu (res := (r, F1, G1)) C hret x1 x2 x3 F G hm hw hl)
def cb_X5_install_121 (fu : Nat) (F : PF) (G : PG) : PR := some (0, F, G)
def cb_X5_install_111 (fu : Nat) (F : PF) (G : PG) : PR := cb_X5_install_121 fu (fup F 41 ((F 41) + (1 : Int32))) G
def cb_X5_install_101 (fu : Nat) (x1 : Int32) (F : PF) (G : PG) : PR := if ixb x1 1408 = true then (cb_X5_install_111 fu F (gup G 40 x1.toNatClampNeg (F 41))) else none
def cb_X5_install_86 (fu : Nat) (x1 : Int32) (F : PF) (G : PG) : PR := if ixb x1 1408 = true then (if ixb (F 41) 700 = true then (cb_X5_install_101 fu x1 F (gup G 39 (F 41).toNatClampNeg (G 40 x1.toNatClampNeg))) else none) else none
def cb_X5_install_75 (fu : Nat) (x1 : Int32) (x5 : Int32) (F : PF) (G : PG) : PR := if ixb (F 41) 700 = true then (cb_X5_install_86 fu x1 F (gup G 38 (F 41).toNatClampNeg x5)) else none
def cb_X5_install_64 (fu : Nat) (x1 : Int32) (x4 : Int32) (x5 : Int32) (F : PF) (G : PG) : PR := if ixb (F 41) 700 = true then (cb_X5_install_75 fu x1 x5 F (gup G 37 (F 41).toNatClampNeg x4)) else none
def cb_X5_install_54 (fu : Nat) (x1 : Int32) (x2 : Int32) (x4 : Int32) (x5 : Int32) (F : PF) (G : PG) : PR := if ixb (F 41) 700 = true then (cb_X5_install_64 fu x1 x4 x5 F (gup G 36 (F 41).toNatClampNeg x2)) else none
def cb_X5_install_44 (fu : Nat) (x1 : Int32) (x2 : Int32) (x3 : Int32) (x4 : Int32) (x5 : Int32) (F : PF) (G : PG) : PR := if ixb (F 41) 700 = true then (cb_X5_install_54 fu x1 x2 x4 x5 F (gup G 35 (F 41).toNatClampNeg x3)) else none
def cb_X5_install_31 (fu : Nat) (x1 : Int32) (x2 : Int32) (x3 : Int32) (x4 : Int32) (x5 : Int32) (F : PF) (G : PG) : PR := if ixb (F 41) 700 = true then (cb_X5_install_44 fu x1 x2 x3 x4 x5 F (gup G 34 (F 41).toNatClampNeg (F 42))) else none
def cb_X5_install_21 (fu : Nat) (x1 : Int32) (x2 : Int32) (x3 : Int32) (x4 : Int32) (x5 : Int32) (F : PF) (G : PG) : PR := if ixb (F 41) 700 = true then (cb_X5_install_31 fu x1 x2 x3 x4 x5 F (gup G 33 (F 41).toNatClampNeg x1)) else none
def cb_X5_install_14 (fu : Nat) (x1 : Int32) (x2 : Int32) (x3 : Int32) (x4 : Int32) (x5 : Int32) (F : PF) (G : PG) : PR := if (1408 : Int32) ≤ x1 then cb_X5_install_121 fu F G else cb_X5_install_21 fu x1 x2 x3 x4 x5 F G
def cb_X5_install_10 (fu : Nat) (x1 : Int32) (x2 : Int32) (x3 : Int32) (x4 : Int32) (x5 : Int32) (F : PF) (G : PG) : PR := if x1 < (0 : Int32) then cb_X5_install_121 fu F G else cb_X5_install_14 fu x1 x2 x3 x4 x5 F G
def cb_X5_install_0 (fu : Nat) (x1 : Int32) (x2 : Int32) (x3 : Int32) (x4 : Int32) (x5 : Int32) (F : PF) (G : PG) : PR := if (700 : Int32) ≤ (F 41) then cb_X5_install_121 fu F G else cb_X5_install_10 fu x1 x2 x3 x4 x5 F G
def cf_X5_install (fu : Nat) (x1 : Int32) (x2 : Int32) (x3 : Int32) (x4 : Int32) (x5 : Int32) (F : PF) (G : PG) : PR := cb_X5_install_0 fu x1 x2 x3 x4 x5 F G
theorem cn_X5_install_121 (fu : Nat) {res : Int32 × PF × PG} (F : PF) (G : PG) (hm : cb_X5_install_121 fu F G = some res) : xn F ≤ xn res.2.1 := by
  unfold cb_X5_install_121 at hm
  obtain rfl := Option.some.inj hm
  exact Nat.le_refl _
theorem cw_X5_install_121 (fu : Nat) {res : Int32 × PF × PG} (C : cMC p R s m args c A v RX5 cX5_install 6 0 0 (xn res.2.1 - xn K0)) (hret : ∀ (b1 : Nat) (H1 : Heap) (locs1 : List Loc) (ls1 : Array Slot) (pc : Nat), cMW s A v a b1 K0 res.2.1 res.2.2 H1 locs1 → decode cX5_install pc = .ok (.return_, 1) → W p l e R s m args below meth c H1 locs1 (xn res.2.1 - xn K0) (2 * (xn res.2.1 - xn K0)) Q (F0 m pc ls1 [])) (F : PF) (G : PG) (hm : cb_X5_install_121 fu F G = some res) {b : Nat} {H : Heap} {locs : List Loc} (hw : cMW s A v a b K0 F G H locs) {ls : Array Slot} (hl : lv_has ls 6 []) : W p l e R s m args below meth c H locs (xn F - xn K0) (2 * (xn F - xn K0)) Q (F0 m 121 ls []) := by
  have hx := C.1
  have hb := C.2.1
  unfold cb_X5_install_121 at hm
  obtain rfl := Option.some.inj hm
  exact hret _ _ _ _ _ hw dX5_install_121
theorem cn_X5_install_111 (fu : Nat) {res : Int32 × PF × PG} (F : PF) (G : PG) (hm : cb_X5_install_111 fu F G = some res) : xn F ≤ xn res.2.1 := by
  unfold cb_X5_install_111 at hm
  exact Nat.le_trans (Nat.le_of_eq (xn_fup (by decide)).symm) (cn_X5_install_121 fu (fup F 41 ((F 41) + (1 : Int32))) G hm)
theorem cw_X5_install_111 (fu : Nat) {res : Int32 × PF × PG} (C : cMC p R s m args c A v RX5 cX5_install 6 0 0 (xn res.2.1 - xn K0)) (hret : ∀ (b1 : Nat) (H1 : Heap) (locs1 : List Loc) (ls1 : Array Slot) (pc : Nat), cMW s A v a b1 K0 res.2.1 res.2.2 H1 locs1 → decode cX5_install pc = .ok (.return_, 1) → W p l e R s m args below meth c H1 locs1 (xn res.2.1 - xn K0) (2 * (xn res.2.1 - xn K0)) Q (F0 m pc ls1 [])) (F : PF) (G : PG) (hm : cb_X5_install_111 fu F G = some res) {b : Nat} {H : Heap} {locs : List Loc} (hw : cMW s A v a b K0 F G H locs) {ls : Array Slot} (hl : lv_has ls 6 [(0, .ref (a 205))]) : W p l e R s m args below meth c H locs (xn F - xn K0) (2 * (xn F - xn K0)) Q (F0 m 111 ls []) := by
  have hx := C.1
  have hb := C.2.1
  unfold cb_X5_install_111 at hm
  refine lv_aload_n hx hb dX5_install_111 rfl (lv_at hl 0 rfl) ?_
  refine lv_dup hx hb dX5_install_112 rfl ?_
  refine cg_X5_40 C hw dX5_install_113 ?_
  refine lv_iconst (v := 1) hx hb dX5_install_116 (by decide) ?_
  refine lv_iadd hx hb dX5_install_117 ?_
  refine cp_X5_40 C hw dX5_install_118 (fun H locs hw => ?_)
  exact cw_X5_install_121 fu C hret (fup F 41 ((F 41) + (1 : Int32))) G hm hw (lv_sub hl [] rfl)
theorem cn_X5_install_101 (fu : Nat) {res : Int32 × PF × PG} (x1 : Int32) (F : PF) (G : PG) (hm : cb_X5_install_101 fu x1 F G = some res) : xn F ≤ xn res.2.1 := by
  unfold cb_X5_install_101 at hm
  have hm := (ix_elim hm).2
  exact (cn_X5_install_111 fu F (gup G 40 x1.toNatClampNeg (F 41)) hm)
theorem cw_X5_install_101 (fu : Nat) {res : Int32 × PF × PG} (C : cMC p R s m args c A v RX5 cX5_install 6 0 0 (xn res.2.1 - xn K0)) (hret : ∀ (b1 : Nat) (H1 : Heap) (locs1 : List Loc) (ls1 : Array Slot) (pc : Nat), cMW s A v a b1 K0 res.2.1 res.2.2 H1 locs1 → decode cX5_install pc = .ok (.return_, 1) → W p l e R s m args below meth c H1 locs1 (xn res.2.1 - xn K0) (2 * (xn res.2.1 - xn K0)) Q (F0 m pc ls1 [])) (x1 : Int32) (F : PF) (G : PG) (hm : cb_X5_install_101 fu x1 F G = some res) {b : Nat} {H : Heap} {locs : List Loc} (hw : cMW s A v a b K0 F G H locs) {ls : Array Slot} (hl : lv_has ls 6 [(0, .ref (a 205)), (1, .int x1)]) : W p l e R s m args below meth c H locs (xn F - xn K0) (2 * (xn F - xn K0)) Q (F0 m 101 ls []) := by
  have hx := C.1
  have hb := C.2.1
  unfold cb_X5_install_101 at hm
  refine lv_aload_n hx hb dX5_install_101 rfl (lv_at hl 0 rfl) ?_
  refine cg_X5_33 C hw dX5_install_102 ?_
  refine lv_iload_n hx hb dX5_install_105 rfl (lv_at hl 1 rfl) ?_
  refine lv_aload_n hx hb dX5_install_106 rfl (lv_at hl 0 rfl) ?_
  refine cg_X5_40 C hw dX5_install_107 ?_
  obtain ⟨hi, hm⟩ := ix_elim hm
  refine cas_40 C hw hi dX5_install_110 (fun H locs hw => ?_)
  exact cw_X5_install_111 fu C hret F (gup G 40 x1.toNatClampNeg (F 41)) hm hw (lv_sub hl [0] rfl)
theorem cn_X5_install_86 (fu : Nat) {res : Int32 × PF × PG} (x1 : Int32) (F : PF) (G : PG) (hm : cb_X5_install_86 fu x1 F G = some res) : xn F ≤ xn res.2.1 := by
  unfold cb_X5_install_86 at hm
  have hm := (ix_elim hm).2
  have hm := (ix_elim hm).2
  exact (cn_X5_install_101 fu x1 F (gup G 39 (F 41).toNatClampNeg (G 40 x1.toNatClampNeg)) hm)
theorem cw_X5_install_86 (fu : Nat) {res : Int32 × PF × PG} (C : cMC p R s m args c A v RX5 cX5_install 6 0 0 (xn res.2.1 - xn K0)) (hret : ∀ (b1 : Nat) (H1 : Heap) (locs1 : List Loc) (ls1 : Array Slot) (pc : Nat), cMW s A v a b1 K0 res.2.1 res.2.2 H1 locs1 → decode cX5_install pc = .ok (.return_, 1) → W p l e R s m args below meth c H1 locs1 (xn res.2.1 - xn K0) (2 * (xn res.2.1 - xn K0)) Q (F0 m pc ls1 [])) (x1 : Int32) (F : PF) (G : PG) (hm : cb_X5_install_86 fu x1 F G = some res) {b : Nat} {H : Heap} {locs : List Loc} (hw : cMW s A v a b K0 F G H locs) {ls : Array Slot} (hl : lv_has ls 6 [(0, .ref (a 205)), (1, .int x1)]) : W p l e R s m args below meth c H locs (xn F - xn K0) (2 * (xn F - xn K0)) Q (F0 m 86 ls []) := by
  have hx := C.1
  have hb := C.2.1
  unfold cb_X5_install_86 at hm
  refine lv_aload_n hx hb dX5_install_86 rfl (lv_at hl 0 rfl) ?_
  refine cg_X5_30 C hw dX5_install_87 ?_
  refine lv_aload_n hx hb dX5_install_90 rfl (lv_at hl 0 rfl) ?_
  refine cg_X5_40 C hw dX5_install_91 ?_
  refine lv_aload_n hx hb dX5_install_94 rfl (lv_at hl 0 rfl) ?_
  refine cg_X5_33 C hw dX5_install_95 ?_
  refine lv_iload_n hx hb dX5_install_98 rfl (lv_at hl 1 rfl) ?_
  obtain ⟨hi, hm⟩ := ix_elim hm
  refine cal_40 C hw hi dX5_install_99 ?_
  obtain ⟨hi, hm⟩ := ix_elim hm
  refine cas_39 C hw hi dX5_install_100 (fun H locs hw => ?_)
  exact cw_X5_install_101 fu C hret x1 F (gup G 39 (F 41).toNatClampNeg (G 40 x1.toNatClampNeg)) hm hw (lv_sub hl [0, 1] rfl)
theorem cn_X5_install_75 (fu : Nat) {res : Int32 × PF × PG} (x1 : Int32) (x5 : Int32) (F : PF) (G : PG) (hm : cb_X5_install_75 fu x1 x5 F G = some res) : xn F ≤ xn res.2.1 := by
  unfold cb_X5_install_75 at hm
  have hm := (ix_elim hm).2
  exact (cn_X5_install_86 fu x1 F (gup G 38 (F 41).toNatClampNeg x5) hm)
theorem cw_X5_install_75 (fu : Nat) {res : Int32 × PF × PG} (C : cMC p R s m args c A v RX5 cX5_install 6 0 0 (xn res.2.1 - xn K0)) (hret : ∀ (b1 : Nat) (H1 : Heap) (locs1 : List Loc) (ls1 : Array Slot) (pc : Nat), cMW s A v a b1 K0 res.2.1 res.2.2 H1 locs1 → decode cX5_install pc = .ok (.return_, 1) → W p l e R s m args below meth c H1 locs1 (xn res.2.1 - xn K0) (2 * (xn res.2.1 - xn K0)) Q (F0 m pc ls1 [])) (x1 : Int32) (x5 : Int32) (F : PF) (G : PG) (hm : cb_X5_install_75 fu x1 x5 F G = some res) {b : Nat} {H : Heap} {locs : List Loc} (hw : cMW s A v a b K0 F G H locs) {ls : Array Slot} (hl : lv_has ls 6 [(0, .ref (a 205)), (1, .int x1), (5, .int x5)]) : W p l e R s m args below meth c H locs (xn F - xn K0) (2 * (xn F - xn K0)) Q (F0 m 75 ls []) := by
  have hx := C.1
  have hb := C.2.1
  unfold cb_X5_install_75 at hm
  refine lv_aload_n hx hb dX5_install_75 rfl (lv_at hl 0 rfl) ?_
  refine cg_X5_27 C hw dX5_install_76 ?_
  refine lv_aload_n hx hb dX5_install_79 rfl (lv_at hl 0 rfl) ?_
  refine cg_X5_40 C hw dX5_install_80 ?_
  refine lv_iload hx hb dX5_install_83 (lv_at hl 2 rfl) ?_
  obtain ⟨hi, hm⟩ := ix_elim hm
  refine cas_38 C hw hi dX5_install_85 (fun H locs hw => ?_)
  exact cw_X5_install_86 fu C hret x1 F (gup G 38 (F 41).toNatClampNeg x5) hm hw (lv_sub hl [0, 1] rfl)
theorem cn_X5_install_64 (fu : Nat) {res : Int32 × PF × PG} (x1 : Int32) (x4 : Int32) (x5 : Int32) (F : PF) (G : PG) (hm : cb_X5_install_64 fu x1 x4 x5 F G = some res) : xn F ≤ xn res.2.1 := by
  unfold cb_X5_install_64 at hm
  have hm := (ix_elim hm).2
  exact (cn_X5_install_75 fu x1 x5 F (gup G 37 (F 41).toNatClampNeg x4) hm)
theorem cw_X5_install_64 (fu : Nat) {res : Int32 × PF × PG} (C : cMC p R s m args c A v RX5 cX5_install 6 0 0 (xn res.2.1 - xn K0)) (hret : ∀ (b1 : Nat) (H1 : Heap) (locs1 : List Loc) (ls1 : Array Slot) (pc : Nat), cMW s A v a b1 K0 res.2.1 res.2.2 H1 locs1 → decode cX5_install pc = .ok (.return_, 1) → W p l e R s m args below meth c H1 locs1 (xn res.2.1 - xn K0) (2 * (xn res.2.1 - xn K0)) Q (F0 m pc ls1 [])) (x1 : Int32) (x4 : Int32) (x5 : Int32) (F : PF) (G : PG) (hm : cb_X5_install_64 fu x1 x4 x5 F G = some res) {b : Nat} {H : Heap} {locs : List Loc} (hw : cMW s A v a b K0 F G H locs) {ls : Array Slot} (hl : lv_has ls 6 [(0, .ref (a 205)), (1, .int x1), (4, .int x4), (5, .int x5)]) : W p l e R s m args below meth c H locs (xn F - xn K0) (2 * (xn F - xn K0)) Q (F0 m 64 ls []) := by
  have hx := C.1
  have hb := C.2.1
  unfold cb_X5_install_64 at hm
  refine lv_aload_n hx hb dX5_install_64 rfl (lv_at hl 0 rfl) ?_
  refine cg_X5_24 C hw dX5_install_65 ?_
  refine lv_aload_n hx hb dX5_install_68 rfl (lv_at hl 0 rfl) ?_
  refine cg_X5_40 C hw dX5_install_69 ?_
  refine lv_iload hx hb dX5_install_72 (lv_at hl 2 rfl) ?_
  obtain ⟨hi, hm⟩ := ix_elim hm
  refine cas_37 C hw hi dX5_install_74 (fun H locs hw => ?_)
  exact cw_X5_install_75 fu C hret x1 x5 F (gup G 37 (F 41).toNatClampNeg x4) hm hw (lv_sub hl [0, 1, 3] rfl)
theorem cn_X5_install_54 (fu : Nat) {res : Int32 × PF × PG} (x1 : Int32) (x2 : Int32) (x4 : Int32) (x5 : Int32) (F : PF) (G : PG) (hm : cb_X5_install_54 fu x1 x2 x4 x5 F G = some res) : xn F ≤ xn res.2.1 := by
  unfold cb_X5_install_54 at hm
  have hm := (ix_elim hm).2
  exact (cn_X5_install_64 fu x1 x4 x5 F (gup G 36 (F 41).toNatClampNeg x2) hm)
theorem cw_X5_install_54 (fu : Nat) {res : Int32 × PF × PG} (C : cMC p R s m args c A v RX5 cX5_install 6 0 0 (xn res.2.1 - xn K0)) (hret : ∀ (b1 : Nat) (H1 : Heap) (locs1 : List Loc) (ls1 : Array Slot) (pc : Nat), cMW s A v a b1 K0 res.2.1 res.2.2 H1 locs1 → decode cX5_install pc = .ok (.return_, 1) → W p l e R s m args below meth c H1 locs1 (xn res.2.1 - xn K0) (2 * (xn res.2.1 - xn K0)) Q (F0 m pc ls1 [])) (x1 : Int32) (x2 : Int32) (x4 : Int32) (x5 : Int32) (F : PF) (G : PG) (hm : cb_X5_install_54 fu x1 x2 x4 x5 F G = some res) {b : Nat} {H : Heap} {locs : List Loc} (hw : cMW s A v a b K0 F G H locs) {ls : Array Slot} (hl : lv_has ls 6 [(0, .ref (a 205)), (1, .int x1), (2, .int x2), (4, .int x4), (5, .int x5)]) : W p l e R s m args below meth c H locs (xn F - xn K0) (2 * (xn F - xn K0)) Q (F0 m 54 ls []) := by
  have hx := C.1
  have hb := C.2.1
  unfold cb_X5_install_54 at hm
  refine lv_aload_n hx hb dX5_install_54 rfl (lv_at hl 0 rfl) ?_
  refine cg_X5_21 C hw dX5_install_55 ?_
  refine lv_aload_n hx hb dX5_install_58 rfl (lv_at hl 0 rfl) ?_
  refine cg_X5_40 C hw dX5_install_59 ?_
  refine lv_iload_n hx hb dX5_install_62 rfl (lv_at hl 2 rfl) ?_
  obtain ⟨hi, hm⟩ := ix_elim hm
  refine cas_36 C hw hi dX5_install_63 (fun H locs hw => ?_)
  exact cw_X5_install_64 fu C hret x1 x4 x5 F (gup G 36 (F 41).toNatClampNeg x2) hm hw (lv_sub hl [0, 1, 3, 4] rfl)
theorem cn_X5_install_44 (fu : Nat) {res : Int32 × PF × PG} (x1 : Int32) (x2 : Int32) (x3 : Int32) (x4 : Int32) (x5 : Int32) (F : PF) (G : PG) (hm : cb_X5_install_44 fu x1 x2 x3 x4 x5 F G = some res) : xn F ≤ xn res.2.1 := by
  unfold cb_X5_install_44 at hm
  have hm := (ix_elim hm).2
  exact (cn_X5_install_54 fu x1 x2 x4 x5 F (gup G 35 (F 41).toNatClampNeg x3) hm)
theorem cw_X5_install_44 (fu : Nat) {res : Int32 × PF × PG} (C : cMC p R s m args c A v RX5 cX5_install 6 0 0 (xn res.2.1 - xn K0)) (hret : ∀ (b1 : Nat) (H1 : Heap) (locs1 : List Loc) (ls1 : Array Slot) (pc : Nat), cMW s A v a b1 K0 res.2.1 res.2.2 H1 locs1 → decode cX5_install pc = .ok (.return_, 1) → W p l e R s m args below meth c H1 locs1 (xn res.2.1 - xn K0) (2 * (xn res.2.1 - xn K0)) Q (F0 m pc ls1 [])) (x1 : Int32) (x2 : Int32) (x3 : Int32) (x4 : Int32) (x5 : Int32) (F : PF) (G : PG) (hm : cb_X5_install_44 fu x1 x2 x3 x4 x5 F G = some res) {b : Nat} {H : Heap} {locs : List Loc} (hw : cMW s A v a b K0 F G H locs) {ls : Array Slot} (hl : lv_has ls 6 [(0, .ref (a 205)), (1, .int x1), (2, .int x2), (3, .int x3), (4, .int x4), (5, .int x5)]) : W p l e R s m args below meth c H locs (xn F - xn K0) (2 * (xn F - xn K0)) Q (F0 m 44 ls []) := by
  have hx := C.1
  have hb := C.2.1
  unfold cb_X5_install_44 at hm
  refine lv_aload_n hx hb dX5_install_44 rfl (lv_at hl 0 rfl) ?_
  refine cg_X5_18 C hw dX5_install_45 ?_
  refine lv_aload_n hx hb dX5_install_48 rfl (lv_at hl 0 rfl) ?_
  refine cg_X5_40 C hw dX5_install_49 ?_
  refine lv_iload_n hx hb dX5_install_52 rfl (lv_at hl 3 rfl) ?_
  obtain ⟨hi, hm⟩ := ix_elim hm
  refine cas_35 C hw hi dX5_install_53 (fun H locs hw => ?_)
  exact cw_X5_install_54 fu C hret x1 x2 x4 x5 F (gup G 35 (F 41).toNatClampNeg x3) hm hw (lv_sub hl [0, 1, 2, 4, 5] rfl)
theorem cn_X5_install_31 (fu : Nat) {res : Int32 × PF × PG} (x1 : Int32) (x2 : Int32) (x3 : Int32) (x4 : Int32) (x5 : Int32) (F : PF) (G : PG) (hm : cb_X5_install_31 fu x1 x2 x3 x4 x5 F G = some res) : xn F ≤ xn res.2.1 := by
  unfold cb_X5_install_31 at hm
  have hm := (ix_elim hm).2
  exact (cn_X5_install_44 fu x1 x2 x3 x4 x5 F (gup G 34 (F 41).toNatClampNeg (F 42)) hm)
theorem cw_X5_install_31 (fu : Nat) {res : Int32 × PF × PG} (C : cMC p R s m args c A v RX5 cX5_install 6 0 0 (xn res.2.1 - xn K0)) (hret : ∀ (b1 : Nat) (H1 : Heap) (locs1 : List Loc) (ls1 : Array Slot) (pc : Nat), cMW s A v a b1 K0 res.2.1 res.2.2 H1 locs1 → decode cX5_install pc = .ok (.return_, 1) → W p l e R s m args below meth c H1 locs1 (xn res.2.1 - xn K0) (2 * (xn res.2.1 - xn K0)) Q (F0 m pc ls1 [])) (x1 : Int32) (x2 : Int32) (x3 : Int32) (x4 : Int32) (x5 : Int32) (F : PF) (G : PG) (hm : cb_X5_install_31 fu x1 x2 x3 x4 x5 F G = some res) {b : Nat} {H : Heap} {locs : List Loc} (hw : cMW s A v a b K0 F G H locs) {ls : Array Slot} (hl : lv_has ls 6 [(0, .ref (a 205)), (1, .int x1), (2, .int x2), (3, .int x3), (4, .int x4), (5, .int x5)]) : W p l e R s m args below meth c H locs (xn F - xn K0) (2 * (xn F - xn K0)) Q (F0 m 31 ls []) := by
  have hx := C.1
  have hb := C.2.1
  unfold cb_X5_install_31 at hm
  refine lv_aload_n hx hb dX5_install_31 rfl (lv_at hl 0 rfl) ?_
  refine cg_X5_15 C hw dX5_install_32 ?_
  refine lv_aload_n hx hb dX5_install_35 rfl (lv_at hl 0 rfl) ?_
  refine cg_X5_40 C hw dX5_install_36 ?_
  refine lv_aload_n hx hb dX5_install_39 rfl (lv_at hl 0 rfl) ?_
  refine cg_X5_44 C hw dX5_install_40 ?_
  obtain ⟨hi, hm⟩ := ix_elim hm
  refine cas_34 C hw hi dX5_install_43 (fun H locs hw => ?_)
  exact cw_X5_install_44 fu C hret x1 x2 x3 x4 x5 F (gup G 34 (F 41).toNatClampNeg (F 42)) hm hw (lv_sub hl [0, 1, 2, 3, 4, 5] rfl)
theorem cn_X5_install_21 (fu : Nat) {res : Int32 × PF × PG} (x1 : Int32) (x2 : Int32) (x3 : Int32) (x4 : Int32) (x5 : Int32) (F : PF) (G : PG) (hm : cb_X5_install_21 fu x1 x2 x3 x4 x5 F G = some res) : xn F ≤ xn res.2.1 := by
  unfold cb_X5_install_21 at hm
  have hm := (ix_elim hm).2
  exact (cn_X5_install_31 fu x1 x2 x3 x4 x5 F (gup G 33 (F 41).toNatClampNeg x1) hm)
theorem cw_X5_install_21 (fu : Nat) {res : Int32 × PF × PG} (C : cMC p R s m args c A v RX5 cX5_install 6 0 0 (xn res.2.1 - xn K0)) (hret : ∀ (b1 : Nat) (H1 : Heap) (locs1 : List Loc) (ls1 : Array Slot) (pc : Nat), cMW s A v a b1 K0 res.2.1 res.2.2 H1 locs1 → decode cX5_install pc = .ok (.return_, 1) → W p l e R s m args below meth c H1 locs1 (xn res.2.1 - xn K0) (2 * (xn res.2.1 - xn K0)) Q (F0 m pc ls1 [])) (x1 : Int32) (x2 : Int32) (x3 : Int32) (x4 : Int32) (x5 : Int32) (F : PF) (G : PG) (hm : cb_X5_install_21 fu x1 x2 x3 x4 x5 F G = some res) {b : Nat} {H : Heap} {locs : List Loc} (hw : cMW s A v a b K0 F G H locs) {ls : Array Slot} (hl : lv_has ls 6 [(0, .ref (a 205)), (1, .int x1), (2, .int x2), (3, .int x3), (4, .int x4), (5, .int x5)]) : W p l e R s m args below meth c H locs (xn F - xn K0) (2 * (xn F - xn K0)) Q (F0 m 21 ls []) := by
  have hx := C.1
  have hb := C.2.1
  unfold cb_X5_install_21 at hm
  refine lv_aload_n hx hb dX5_install_21 rfl (lv_at hl 0 rfl) ?_
  refine cg_X5_11 C hw dX5_install_22 ?_
  refine lv_aload_n hx hb dX5_install_25 rfl (lv_at hl 0 rfl) ?_
  refine cg_X5_40 C hw dX5_install_26 ?_
  refine lv_iload_n hx hb dX5_install_29 rfl (lv_at hl 1 rfl) ?_
  obtain ⟨hi, hm⟩ := ix_elim hm
  refine cas_33 C hw hi dX5_install_30 (fun H locs hw => ?_)
  exact cw_X5_install_31 fu C hret x1 x2 x3 x4 x5 F (gup G 33 (F 41).toNatClampNeg x1) hm hw (lv_sub hl [0, 1, 2, 3, 4, 5] rfl)
theorem cn_X5_install_14 (fu : Nat) {res : Int32 × PF × PG} (x1 : Int32) (x2 : Int32) (x3 : Int32) (x4 : Int32) (x5 : Int32) (F : PF) (G : PG) (hm : cb_X5_install_14 fu x1 x2 x3 x4 x5 F G = some res) : xn F ≤ xn res.2.1 := by
  unfold cb_X5_install_14 at hm
  by_cases c_1 : (1408 : Int32) ≤ x1
  · have hm := (if_pos c_1).symm.trans hm
    exact (cn_X5_install_121 fu F G hm)
  · have hm := (if_neg c_1).symm.trans hm
    exact (cn_X5_install_21 fu x1 x2 x3 x4 x5 F G hm)
theorem cw_X5_install_14 (fu : Nat) {res : Int32 × PF × PG} (C : cMC p R s m args c A v RX5 cX5_install 6 0 0 (xn res.2.1 - xn K0)) (hret : ∀ (b1 : Nat) (H1 : Heap) (locs1 : List Loc) (ls1 : Array Slot) (pc : Nat), cMW s A v a b1 K0 res.2.1 res.2.2 H1 locs1 → decode cX5_install pc = .ok (.return_, 1) → W p l e R s m args below meth c H1 locs1 (xn res.2.1 - xn K0) (2 * (xn res.2.1 - xn K0)) Q (F0 m pc ls1 [])) (x1 : Int32) (x2 : Int32) (x3 : Int32) (x4 : Int32) (x5 : Int32) (F : PF) (G : PG) (hm : cb_X5_install_14 fu x1 x2 x3 x4 x5 F G = some res) {b : Nat} {H : Heap} {locs : List Loc} (hw : cMW s A v a b K0 F G H locs) {ls : Array Slot} (hl : lv_has ls 6 [(0, .ref (a 205)), (1, .int x1), (2, .int x2), (3, .int x3), (4, .int x4), (5, .int x5)]) : W p l e R s m args below meth c H locs (xn F - xn K0) (2 * (xn F - xn K0)) Q (F0 m 14 ls []) := by
  have hx := C.1
  have hb := C.2.1
  unfold cb_X5_install_14 at hm
  refine lv_iload_n hx hb dX5_install_14 rfl (lv_at hl 1 rfl) ?_
  refine lv_sipush (v := 1408) hx hb dX5_install_15 (by decide) ?_
  refine lv_icmp_ge (tgt := 121) hx hb dX5_install_18 (by decide) (fun c_1 => ?_) (fun c_1 => ?_)
  · have hm := (if_pos c_1).symm.trans hm
    exact cw_X5_install_121 fu C hret F G hm hw (lv_sub hl [] rfl)
  · have hm := (if_neg c_1).symm.trans hm
    exact cw_X5_install_21 fu C hret x1 x2 x3 x4 x5 F G hm hw (lv_sub hl [0, 1, 2, 3, 4, 5] rfl)
theorem cn_X5_install_10 (fu : Nat) {res : Int32 × PF × PG} (x1 : Int32) (x2 : Int32) (x3 : Int32) (x4 : Int32) (x5 : Int32) (F : PF) (G : PG) (hm : cb_X5_install_10 fu x1 x2 x3 x4 x5 F G = some res) : xn F ≤ xn res.2.1 := by
  unfold cb_X5_install_10 at hm
  by_cases c_1 : x1 < (0 : Int32)
  · have hm := (if_pos c_1).symm.trans hm
    exact (cn_X5_install_121 fu F G hm)
  · have hm := (if_neg c_1).symm.trans hm
    exact (cn_X5_install_14 fu x1 x2 x3 x4 x5 F G hm)
theorem cw_X5_install_10 (fu : Nat) {res : Int32 × PF × PG} (C : cMC p R s m args c A v RX5 cX5_install 6 0 0 (xn res.2.1 - xn K0)) (hret : ∀ (b1 : Nat) (H1 : Heap) (locs1 : List Loc) (ls1 : Array Slot) (pc : Nat), cMW s A v a b1 K0 res.2.1 res.2.2 H1 locs1 → decode cX5_install pc = .ok (.return_, 1) → W p l e R s m args below meth c H1 locs1 (xn res.2.1 - xn K0) (2 * (xn res.2.1 - xn K0)) Q (F0 m pc ls1 [])) (x1 : Int32) (x2 : Int32) (x3 : Int32) (x4 : Int32) (x5 : Int32) (F : PF) (G : PG) (hm : cb_X5_install_10 fu x1 x2 x3 x4 x5 F G = some res) {b : Nat} {H : Heap} {locs : List Loc} (hw : cMW s A v a b K0 F G H locs) {ls : Array Slot} (hl : lv_has ls 6 [(0, .ref (a 205)), (1, .int x1), (2, .int x2), (3, .int x3), (4, .int x4), (5, .int x5)]) : W p l e R s m args below meth c H locs (xn F - xn K0) (2 * (xn F - xn K0)) Q (F0 m 10 ls []) := by
  have hx := C.1
  have hb := C.2.1
  unfold cb_X5_install_10 at hm
  refine lv_iload_n hx hb dX5_install_10 rfl (lv_at hl 1 rfl) ?_
  refine lv_if_lt (tgt := 121) hx hb dX5_install_11 (by decide) (fun c_1 => ?_) (fun c_1 => ?_)
  · have hm := (if_pos c_1).symm.trans hm
    exact cw_X5_install_121 fu C hret F G hm hw (lv_sub hl [] rfl)
  · have hm := (if_neg c_1).symm.trans hm
    exact cw_X5_install_14 fu C hret x1 x2 x3 x4 x5 F G hm hw (lv_sub hl [0, 1, 2, 3, 4, 5] rfl)
theorem cn_X5_install_0 (fu : Nat) {res : Int32 × PF × PG} (x1 : Int32) (x2 : Int32) (x3 : Int32) (x4 : Int32) (x5 : Int32) (F : PF) (G : PG) (hm : cb_X5_install_0 fu x1 x2 x3 x4 x5 F G = some res) : xn F ≤ xn res.2.1 := by
  unfold cb_X5_install_0 at hm
  by_cases c_1 : (700 : Int32) ≤ (F 41)
  · have hm := (if_pos c_1).symm.trans hm
    exact (cn_X5_install_121 fu F G hm)
  · have hm := (if_neg c_1).symm.trans hm
    exact (cn_X5_install_10 fu x1 x2 x3 x4 x5 F G hm)
theorem cw_X5_install_0 (fu : Nat) {res : Int32 × PF × PG} (C : cMC p R s m args c A v RX5 cX5_install 6 0 0 (xn res.2.1 - xn K0)) (hret : ∀ (b1 : Nat) (H1 : Heap) (locs1 : List Loc) (ls1 : Array Slot) (pc : Nat), cMW s A v a b1 K0 res.2.1 res.2.2 H1 locs1 → decode cX5_install pc = .ok (.return_, 1) → W p l e R s m args below meth c H1 locs1 (xn res.2.1 - xn K0) (2 * (xn res.2.1 - xn K0)) Q (F0 m pc ls1 [])) (x1 : Int32) (x2 : Int32) (x3 : Int32) (x4 : Int32) (x5 : Int32) (F : PF) (G : PG) (hm : cb_X5_install_0 fu x1 x2 x3 x4 x5 F G = some res) {b : Nat} {H : Heap} {locs : List Loc} (hw : cMW s A v a b K0 F G H locs) {ls : Array Slot} (hl : lv_has ls 6 [(0, .ref (a 205)), (1, .int x1), (2, .int x2), (3, .int x3), (4, .int x4), (5, .int x5)]) : W p l e R s m args below meth c H locs (xn F - xn K0) (2 * (xn F - xn K0)) Q (F0 m 0 ls []) := by
  have hx := C.1
  have hb := C.2.1
  unfold cb_X5_install_0 at hm
  refine lv_aload_n hx hb dX5_install_0 rfl (lv_at hl 0 rfl) ?_
  refine cg_X5_40 C hw dX5_install_1 ?_
  refine lv_sipush (v := 700) hx hb dX5_install_4 (by decide) ?_
  refine lv_icmp_ge (tgt := 121) hx hb dX5_install_7 (by decide) (fun c_1 => ?_) (fun c_1 => ?_)
  · have hm := (if_pos c_1).symm.trans hm
    exact cw_X5_install_121 fu C hret F G hm hw (lv_sub hl [] rfl)
  · have hm := (if_neg c_1).symm.trans hm
    exact cw_X5_install_10 fu C hret x1 x2 x3 x4 x5 F G hm hw (lv_sub hl [0, 1, 2, 3, 4, 5] rfl)
theorem cn_X5_install (fu : Nat) (x1 : Int32) (x2 : Int32) (x3 : Int32) (x4 : Int32) (x5 : Int32) (F : PF) (G : PG) (q : Int32 × PF × PG) (hm : cf_X5_install fu x1 x2 x3 x4 x5 F G = some q) : xn F ≤ xn q.2.1 := cn_X5_install_0 fu x1 x2 x3 x4 x5 F G hm
theorem ck_X5_install (l : Launch) (v : EV) (a : Nat → Nat) (b sz : Nat) (fu : Nat) (x1 : Int32) (x2 : Int32) (x3 : Int32) (x4 : Int32) (x5 : Int32) (F : PF) (G : PG) (r : Int32) (F1 : PF) (G1 : PG) (hm : cf_X5_install fu x1 x2 x3 x4 x5 F G = some (r, F1, G1)) : cMV l yX5_install cX5_install 6 0 0 v a b sz [.ref (a 205), .int x1, .int x2, .int x3, .int x4, .int x5] F G F1 G1 := cMV.of (by decide) (Nat.le_of_ble_eq_true rfl) (fun p e R s m args below meth c Q A H locs ls C hw hl hret => cw_X5_install_0 fu (res := (r, F1, G1)) C hret x1 x2 x3 x4 x5 F G hm hw hl)
def cb_X5_announce_18 (fu : Nat) (F : PF) (G : PG) : PR := some (0, F, G)
def cb_X5_announce_9 (fu : Nat) (x1 : Int32) (x2 : Int32) (x3 : Int32) (F : PF) (G : PG) : PR := (cf_X5_install fu x1 x2 4 x3 0 F G).bind (fun q => cb_X5_announce_18 fu q.2.1 q.2.2)
def cb_X5_announce_5 (fu : Nat) (x1 : Int32) (x2 : Int32) (x3 : Int32) (z0 : Int32) (F : PF) (G : PG) : PR := if z0 = (-1 : Int32) then cb_X5_announce_9 fu x1 x2 x3 F G else cb_X5_announce_18 fu F G
def cb_X5_announce_0 (fu : Nat) (x1 : Int32) (x2 : Int32) (x3 : Int32) (F : PF) (G : PG) : PR := (cf_X5_known fu x1 F G).bind (fun q => cb_X5_announce_5 fu x1 x2 x3 q.1 q.2.1 q.2.2)
def cf_X5_announce (fu : Nat) (x1 : Int32) (x2 : Int32) (x3 : Int32) (F : PF) (G : PG) : PR := cb_X5_announce_0 fu x1 x2 x3 F G
theorem cn_X5_announce_18 (fu : Nat) {res : Int32 × PF × PG} (F : PF) (G : PG) (hm : cb_X5_announce_18 fu F G = some res) : xn F ≤ xn res.2.1 := by
  unfold cb_X5_announce_18 at hm
  obtain rfl := Option.some.inj hm
  exact Nat.le_refl _
theorem cw_X5_announce_18 (fu : Nat) {res : Int32 × PF × PG} (C : cMC p R s m args c A v RX5 cX5_announce 4 1 25 (xn res.2.1 - xn K0)) (hret : ∀ (b1 : Nat) (H1 : Heap) (locs1 : List Loc) (ls1 : Array Slot) (pc : Nat), cMW s A v a b1 K0 res.2.1 res.2.2 H1 locs1 → decode cX5_announce pc = .ok (.return_, 1) → W p l e R s m args below meth c H1 locs1 (xn res.2.1 - xn K0) (2 * (xn res.2.1 - xn K0)) Q (F0 m pc ls1 [])) (F : PF) (G : PG) (hm : cb_X5_announce_18 fu F G = some res) {b : Nat} {H : Heap} {locs : List Loc} (hw : cMW s A v a b K0 F G H locs) {ls : Array Slot} (hl : lv_has ls 4 []) : W p l e R s m args below meth c H locs (xn F - xn K0) (2 * (xn F - xn K0)) Q (F0 m 18 ls []) := by
  have hx := C.1
  have hb := C.2.1
  unfold cb_X5_announce_18 at hm
  obtain rfl := Option.some.inj hm
  exact hret _ _ _ _ _ hw dX5_announce_18
theorem cn_X5_announce_9 (fu : Nat) {res : Int32 × PF × PG} (x1 : Int32) (x2 : Int32) (x3 : Int32) (F : PF) (G : PG) (hm : cb_X5_announce_9 fu x1 x2 x3 F G = some res) : xn F ≤ xn res.2.1 := by
  unfold cb_X5_announce_9 at hm
  obtain ⟨⟨r1, F1, G1⟩, hc, hm⟩ := bind_elim hm
  exact Nat.le_trans (cn_X5_install fu x1 x2 4 x3 0 F G _ hc) (cn_X5_announce_18 fu F1 G1 hm)
theorem cw_X5_announce_9 (fu : Nat) {res : Int32 × PF × PG} (C : cMC p R s m args c A v RX5 cX5_announce 4 1 25 (xn res.2.1 - xn K0)) (hret : ∀ (b1 : Nat) (H1 : Heap) (locs1 : List Loc) (ls1 : Array Slot) (pc : Nat), cMW s A v a b1 K0 res.2.1 res.2.2 H1 locs1 → decode cX5_announce pc = .ok (.return_, 1) → W p l e R s m args below meth c H1 locs1 (xn res.2.1 - xn K0) (2 * (xn res.2.1 - xn K0)) Q (F0 m pc ls1 [])) (x1 : Int32) (x2 : Int32) (x3 : Int32) (F : PF) (G : PG) (hm : cb_X5_announce_9 fu x1 x2 x3 F G = some res) {b : Nat} {H : Heap} {locs : List Loc} (hw : cMW s A v a b K0 F G H locs) {ls : Array Slot} (hl : lv_has ls 4 [(0, .ref (a 205)), (1, .int x1), (2, .int x2), (3, .int x3)]) : W p l e R s m args below meth c H locs (xn F - xn K0) (2 * (xn F - xn K0)) Q (F0 m 9 ls []) := by
  have hx := C.1
  have hb := C.2.1
  unfold cb_X5_announce_9 at hm
  refine lv_aload_n hx hb dX5_announce_9 rfl (lv_at hl 0 rfl) ?_
  refine lv_iload_n hx hb dX5_announce_10 rfl (lv_at hl 1 rfl) ?_
  refine lv_iload_n hx hb dX5_announce_11 rfl (lv_at hl 2 rfl) ?_
  refine lv_iconst (v := 4) hx hb dX5_announce_12 (by decide) ?_
  refine lv_iload_n hx hb dX5_announce_13 rfl (lv_at hl 3 rfl) ?_
  refine lv_iconst (v := 0) hx hb dX5_announce_14 (by decide) ?_
  obtain ⟨⟨r1, F1, G1⟩, hc, hm⟩ := bind_elim hm
  refine ccallV (n := 5) (As := [.int x1, .int x2, .int 4, .int x3, .int 0]) (rest := []) C hw (ck_X5_install l v a _ _ fu x1 x2 4 x3 0 F G r1 F1 G1 hc) (cn_X5_install fu x1 x2 4 x3 0 F G _ hc) (Nat.sub_le_sub_right (cn_X5_announce_18 fu F1 G1 hm) _) (crecv_X5 C hw) cm_579 cm_580 cm_581 cm_266 cm_582 (by decide +kernel) rfl (by omega) (by omega) hl.1 rfl (Nat.le_of_ble_eq_true rfl) dX5_announce_15 (fun b H locs hw => ?_)
  exact cw_X5_announce_18 fu C hret F1 G1 hm hw (lv_sub hl [] rfl)
theorem cn_X5_announce_5 (fu : Nat) {res : Int32 × PF × PG} (x1 : Int32) (x2 : Int32) (x3 : Int32) (z0 : Int32) (F : PF) (G : PG) (hm : cb_X5_announce_5 fu x1 x2 x3 z0 F G = some res) : xn F ≤ xn res.2.1 := by
  unfold cb_X5_announce_5 at hm
  by_cases c_1 : z0 = (-1 : Int32)
  · have hm := (if_pos c_1).symm.trans hm
    exact (cn_X5_announce_9 fu x1 x2 x3 F G hm)
  · have hm := (if_neg c_1).symm.trans hm
    exact (cn_X5_announce_18 fu F G hm)
theorem cw_X5_announce_5 (fu : Nat) {res : Int32 × PF × PG} (C : cMC p R s m args c A v RX5 cX5_announce 4 1 25 (xn res.2.1 - xn K0)) (hret : ∀ (b1 : Nat) (H1 : Heap) (locs1 : List Loc) (ls1 : Array Slot) (pc : Nat), cMW s A v a b1 K0 res.2.1 res.2.2 H1 locs1 → decode cX5_announce pc = .ok (.return_, 1) → W p l e R s m args below meth c H1 locs1 (xn res.2.1 - xn K0) (2 * (xn res.2.1 - xn K0)) Q (F0 m pc ls1 [])) (x1 : Int32) (x2 : Int32) (x3 : Int32) (z0 : Int32) (F : PF) (G : PG) (hm : cb_X5_announce_5 fu x1 x2 x3 z0 F G = some res) {b : Nat} {H : Heap} {locs : List Loc} (hw : cMW s A v a b K0 F G H locs) {ls : Array Slot} (hl : lv_has ls 4 [(0, .ref (a 205)), (1, .int x1), (2, .int x2), (3, .int x3)]) : W p l e R s m args below meth c H locs (xn F - xn K0) (2 * (xn F - xn K0)) Q (F0 m 5 ls [.int z0]) := by
  have hx := C.1
  have hb := C.2.1
  unfold cb_X5_announce_5 at hm
  refine lv_iconst (v := (-1)) hx hb dX5_announce_5 (by decide) ?_
  refine lv_icmp_ne (tgt := 18) hx hb dX5_announce_6 (by decide) (fun c_1 => ?_) (fun c_1 => ?_)
  · have hm := (if_neg c_1).symm.trans hm
    exact cw_X5_announce_18 fu C hret F G hm hw (lv_sub hl [] rfl)
  · have hm := (if_pos c_1).symm.trans hm
    exact cw_X5_announce_9 fu C hret x1 x2 x3 F G hm hw (lv_sub hl [0, 1, 2, 3] rfl)
theorem cn_X5_announce_0 (fu : Nat) {res : Int32 × PF × PG} (x1 : Int32) (x2 : Int32) (x3 : Int32) (F : PF) (G : PG) (hm : cb_X5_announce_0 fu x1 x2 x3 F G = some res) : xn F ≤ xn res.2.1 := by
  unfold cb_X5_announce_0 at hm
  obtain ⟨⟨r1, F1, G1⟩, hc, hm⟩ := bind_elim hm
  exact Nat.le_trans (cn_X5_known fu x1 F G _ hc) (cn_X5_announce_5 fu x1 x2 x3 r1 F1 G1 hm)
theorem cw_X5_announce_0 (fu : Nat) {res : Int32 × PF × PG} (C : cMC p R s m args c A v RX5 cX5_announce 4 1 25 (xn res.2.1 - xn K0)) (hret : ∀ (b1 : Nat) (H1 : Heap) (locs1 : List Loc) (ls1 : Array Slot) (pc : Nat), cMW s A v a b1 K0 res.2.1 res.2.2 H1 locs1 → decode cX5_announce pc = .ok (.return_, 1) → W p l e R s m args below meth c H1 locs1 (xn res.2.1 - xn K0) (2 * (xn res.2.1 - xn K0)) Q (F0 m pc ls1 [])) (x1 : Int32) (x2 : Int32) (x3 : Int32) (F : PF) (G : PG) (hm : cb_X5_announce_0 fu x1 x2 x3 F G = some res) {b : Nat} {H : Heap} {locs : List Loc} (hw : cMW s A v a b K0 F G H locs) {ls : Array Slot} (hl : lv_has ls 4 [(0, .ref (a 205)), (1, .int x1), (2, .int x2), (3, .int x3)]) : W p l e R s m args below meth c H locs (xn F - xn K0) (2 * (xn F - xn K0)) Q (F0 m 0 ls []) := by
  have hx := C.1
  have hb := C.2.1
  unfold cb_X5_announce_0 at hm
  refine lv_aload_n hx hb dX5_announce_0 rfl (lv_at hl 0 rfl) ?_
  refine lv_iload_n hx hb dX5_announce_1 rfl (lv_at hl 1 rfl) ?_
  obtain ⟨⟨r1, F1, G1⟩, hc, hm⟩ := bind_elim hm
  refine ccallI (n := 1) (As := [.int x1]) (rest := []) C hw (ck_X5_known l v a _ _ fu x1 F G r1 F1 G1 hc) (cn_X5_known fu x1 F G _ hc) (Nat.sub_le_sub_right (cn_X5_announce_5 fu x1 x2 x3 r1 F1 G1 hm) _) (crecv_X5 C hw) cm_420 cm_421 cm_422 cm_266 cm_423 (by decide +kernel) rfl (by omega) (by omega) hl.1 rfl (Nat.le_of_ble_eq_true rfl) dX5_announce_2 (fun b H locs hw => ?_)
  exact cw_X5_announce_5 fu C hret x1 x2 x3 r1 F1 G1 hm hw (lv_sub hl [0, 1, 2, 3] rfl)
theorem cn_X5_announce (fu : Nat) (x1 : Int32) (x2 : Int32) (x3 : Int32) (F : PF) (G : PG) (q : Int32 × PF × PG) (hm : cf_X5_announce fu x1 x2 x3 F G = some q) : xn F ≤ xn q.2.1 := cn_X5_announce_0 fu x1 x2 x3 F G hm
theorem ck_X5_announce (l : Launch) (v : EV) (a : Nat → Nat) (b sz : Nat) (fu : Nat) (x1 : Int32) (x2 : Int32) (x3 : Int32) (F : PF) (G : PG) (r : Int32) (F1 : PF) (G1 : PG) (hm : cf_X5_announce fu x1 x2 x3 F G = some (r, F1, G1)) : cMV l yX5_announce cX5_announce 4 1 25 v a b sz [.ref (a 205), .int x1, .int x2, .int x3] F G F1 G1 := cMV.of (by decide) (Nat.le_of_ble_eq_true rfl) (fun p e R s m args below meth c Q A H locs ls C hw hl hret => cw_X5_announce_0 fu (res := (r, F1, G1)) C hret x1 x2 x3 F G hm hw hl)
def cb_X5_enter_10 (fu : Nat) (F : PF) (G : PG) : PR := some (0, F, G)
def cb_X5_enter_0 (fu : Nat) (F : PF) (G : PG) : PR := cb_X5_enter_10 fu (fup F 42 ((F 42) + (1 : Int32))) G
def cf_X5_enter (fu : Nat) (F : PF) (G : PG) : PR := cb_X5_enter_0 fu F G
theorem cn_X5_enter_10 (fu : Nat) {res : Int32 × PF × PG} (F : PF) (G : PG) (hm : cb_X5_enter_10 fu F G = some res) : xn F ≤ xn res.2.1 := by
  unfold cb_X5_enter_10 at hm
  obtain rfl := Option.some.inj hm
  exact Nat.le_refl _
theorem cw_X5_enter_10 (fu : Nat) {res : Int32 × PF × PG} (C : cMC p R s m args c A v RX5 cX5_enter 1 0 0 (xn res.2.1 - xn K0)) (hret : ∀ (b1 : Nat) (H1 : Heap) (locs1 : List Loc) (ls1 : Array Slot) (pc : Nat), cMW s A v a b1 K0 res.2.1 res.2.2 H1 locs1 → decode cX5_enter pc = .ok (.return_, 1) → W p l e R s m args below meth c H1 locs1 (xn res.2.1 - xn K0) (2 * (xn res.2.1 - xn K0)) Q (F0 m pc ls1 [])) (F : PF) (G : PG) (hm : cb_X5_enter_10 fu F G = some res) {b : Nat} {H : Heap} {locs : List Loc} (hw : cMW s A v a b K0 F G H locs) {ls : Array Slot} (hl : lv_has ls 1 []) : W p l e R s m args below meth c H locs (xn F - xn K0) (2 * (xn F - xn K0)) Q (F0 m 10 ls []) := by
  have hx := C.1
  have hb := C.2.1
  unfold cb_X5_enter_10 at hm
  obtain rfl := Option.some.inj hm
  exact hret _ _ _ _ _ hw dX5_enter_10
theorem cn_X5_enter_0 (fu : Nat) {res : Int32 × PF × PG} (F : PF) (G : PG) (hm : cb_X5_enter_0 fu F G = some res) : xn F ≤ xn res.2.1 := by
  unfold cb_X5_enter_0 at hm
  exact Nat.le_trans (Nat.le_of_eq (xn_fup (by decide)).symm) (cn_X5_enter_10 fu (fup F 42 ((F 42) + (1 : Int32))) G hm)
theorem cw_X5_enter_0 (fu : Nat) {res : Int32 × PF × PG} (C : cMC p R s m args c A v RX5 cX5_enter 1 0 0 (xn res.2.1 - xn K0)) (hret : ∀ (b1 : Nat) (H1 : Heap) (locs1 : List Loc) (ls1 : Array Slot) (pc : Nat), cMW s A v a b1 K0 res.2.1 res.2.2 H1 locs1 → decode cX5_enter pc = .ok (.return_, 1) → W p l e R s m args below meth c H1 locs1 (xn res.2.1 - xn K0) (2 * (xn res.2.1 - xn K0)) Q (F0 m pc ls1 [])) (F : PF) (G : PG) (hm : cb_X5_enter_0 fu F G = some res) {b : Nat} {H : Heap} {locs : List Loc} (hw : cMW s A v a b K0 F G H locs) {ls : Array Slot} (hl : lv_has ls 1 [(0, .ref (a 205))]) : W p l e R s m args below meth c H locs (xn F - xn K0) (2 * (xn F - xn K0)) Q (F0 m 0 ls []) := by
  have hx := C.1
  have hb := C.2.1
  unfold cb_X5_enter_0 at hm
  refine lv_aload_n hx hb dX5_enter_0 rfl (lv_at hl 0 rfl) ?_
  refine lv_dup hx hb dX5_enter_1 rfl ?_
  refine cg_X5_44 C hw dX5_enter_2 ?_
  refine lv_iconst (v := 1) hx hb dX5_enter_5 (by decide) ?_
  refine lv_iadd hx hb dX5_enter_6 ?_
  refine cp_X5_44 C hw dX5_enter_7 (fun H locs hw => ?_)
  exact cw_X5_enter_10 fu C hret (fup F 42 ((F 42) + (1 : Int32))) G hm hw (lv_sub hl [] rfl)
theorem cn_X5_enter (fu : Nat) (F : PF) (G : PG) (q : Int32 × PF × PG) (hm : cf_X5_enter fu F G = some q) : xn F ≤ xn q.2.1 := cn_X5_enter_0 fu F G hm
theorem ck_X5_enter (l : Launch) (v : EV) (a : Nat → Nat) (b sz : Nat) (fu : Nat) (F : PF) (G : PG) (r : Int32) (F1 : PF) (G1 : PG) (hm : cf_X5_enter fu F G = some (r, F1, G1)) : cMV l yX5_enter cX5_enter 1 0 0 v a b sz [.ref (a 205)] F G F1 G1 := cMV.of (by decide) (Nat.le_of_ble_eq_true rfl) (fun p e R s m args below meth c Q A H locs ls C hw hl hret => cw_X5_enter_0 fu (res := (r, F1, G1)) C hret F G hm hw hl)
def cb_X5_enterFunction_19 (fu : Nat) (F : PF) (G : PG) : PR := some (0, F, G)
def cb_X5_enterFunction_15 (fu : Nat) (F : PF) (G : PG) : PR := (cf_X5_enter fu F G).bind (fun q => cb_X5_enterFunction_19 fu q.2.1 q.2.2)
def cb_X5_enterFunction_10 (fu : Nat) (F : PF) (G : PG) : PR := cb_X5_enterFunction_15 fu (fup F 50 (0 : Int32)) G
def cb_X5_enterFunction_5 (fu : Nat) (F : PF) (G : PG) : PR := cb_X5_enterFunction_10 fu (fup F 49 (0 : Int32)) G
def cb_X5_enterFunction_0 (fu : Nat) (x1 : Int32) (F : PF) (G : PG) : PR := if b01 x1 = true then (cb_X5_enterFunction_5 fu (fup F 48 x1) G) else none
def cf_X5_enterFunction (fu : Nat) (x1 : Int32) (F : PF) (G : PG) : PR := cb_X5_enterFunction_0 fu x1 F G
theorem cn_X5_enterFunction_19 (fu : Nat) {res : Int32 × PF × PG} (F : PF) (G : PG) (hm : cb_X5_enterFunction_19 fu F G = some res) : xn F ≤ xn res.2.1 := by
  unfold cb_X5_enterFunction_19 at hm
  obtain rfl := Option.some.inj hm
  exact Nat.le_refl _
theorem cw_X5_enterFunction_19 (fu : Nat) {res : Int32 × PF × PG} (C : cMC p R s m args c A v RX5 cX5_enterFunction 2 1 20 (xn res.2.1 - xn K0)) (hret : ∀ (b1 : Nat) (H1 : Heap) (locs1 : List Loc) (ls1 : Array Slot) (pc : Nat), cMW s A v a b1 K0 res.2.1 res.2.2 H1 locs1 → decode cX5_enterFunction pc = .ok (.return_, 1) → W p l e R s m args below meth c H1 locs1 (xn res.2.1 - xn K0) (2 * (xn res.2.1 - xn K0)) Q (F0 m pc ls1 [])) (F : PF) (G : PG) (hm : cb_X5_enterFunction_19 fu F G = some res) {b : Nat} {H : Heap} {locs : List Loc} (hw : cMW s A v a b K0 F G H locs) {ls : Array Slot} (hl : lv_has ls 2 []) : W p l e R s m args below meth c H locs (xn F - xn K0) (2 * (xn F - xn K0)) Q (F0 m 19 ls []) := by
  have hx := C.1
  have hb := C.2.1
  unfold cb_X5_enterFunction_19 at hm
  obtain rfl := Option.some.inj hm
  exact hret _ _ _ _ _ hw dX5_enterFunction_19
theorem cn_X5_enterFunction_15 (fu : Nat) {res : Int32 × PF × PG} (F : PF) (G : PG) (hm : cb_X5_enterFunction_15 fu F G = some res) : xn F ≤ xn res.2.1 := by
  unfold cb_X5_enterFunction_15 at hm
  obtain ⟨⟨r1, F1, G1⟩, hc, hm⟩ := bind_elim hm
  exact Nat.le_trans (cn_X5_enter fu F G _ hc) (cn_X5_enterFunction_19 fu F1 G1 hm)
theorem cw_X5_enterFunction_15 (fu : Nat) {res : Int32 × PF × PG} (C : cMC p R s m args c A v RX5 cX5_enterFunction 2 1 20 (xn res.2.1 - xn K0)) (hret : ∀ (b1 : Nat) (H1 : Heap) (locs1 : List Loc) (ls1 : Array Slot) (pc : Nat), cMW s A v a b1 K0 res.2.1 res.2.2 H1 locs1 → decode cX5_enterFunction pc = .ok (.return_, 1) → W p l e R s m args below meth c H1 locs1 (xn res.2.1 - xn K0) (2 * (xn res.2.1 - xn K0)) Q (F0 m pc ls1 [])) (F : PF) (G : PG) (hm : cb_X5_enterFunction_15 fu F G = some res) {b : Nat} {H : Heap} {locs : List Loc} (hw : cMW s A v a b K0 F G H locs) {ls : Array Slot} (hl : lv_has ls 2 [(0, .ref (a 205))]) : W p l e R s m args below meth c H locs (xn F - xn K0) (2 * (xn F - xn K0)) Q (F0 m 15 ls []) := by
  have hx := C.1
  have hb := C.2.1
  unfold cb_X5_enterFunction_15 at hm
  refine lv_aload_n hx hb dX5_enterFunction_15 rfl (lv_at hl 0 rfl) ?_
  obtain ⟨⟨r1, F1, G1⟩, hc, hm⟩ := bind_elim hm
  refine ccallV (n := 0) (As := []) (rest := []) C hw (ck_X5_enter l v a _ _ fu F G r1 F1 G1 hc) (cn_X5_enter fu F G _ hc) (Nat.sub_le_sub_right (cn_X5_enterFunction_19 fu F1 G1 hm) _) (crecv_X5 C hw) cm_615 cm_616 cm_617 cm_266 cm_618 (by decide +kernel) rfl (by omega) (by omega) hl.1 rfl (Nat.le_of_ble_eq_true rfl) dX5_enterFunction_16 (fun b H locs hw => ?_)
  exact cw_X5_enterFunction_19 fu C hret F1 G1 hm hw (lv_sub hl [] rfl)
theorem cn_X5_enterFunction_10 (fu : Nat) {res : Int32 × PF × PG} (F : PF) (G : PG) (hm : cb_X5_enterFunction_10 fu F G = some res) : xn F ≤ xn res.2.1 := by
  unfold cb_X5_enterFunction_10 at hm
  exact Nat.le_trans (Nat.le_of_eq (xn_fup (by decide)).symm) (cn_X5_enterFunction_15 fu (fup F 50 (0 : Int32)) G hm)
theorem cw_X5_enterFunction_10 (fu : Nat) {res : Int32 × PF × PG} (C : cMC p R s m args c A v RX5 cX5_enterFunction 2 1 20 (xn res.2.1 - xn K0)) (hret : ∀ (b1 : Nat) (H1 : Heap) (locs1 : List Loc) (ls1 : Array Slot) (pc : Nat), cMW s A v a b1 K0 res.2.1 res.2.2 H1 locs1 → decode cX5_enterFunction pc = .ok (.return_, 1) → W p l e R s m args below meth c H1 locs1 (xn res.2.1 - xn K0) (2 * (xn res.2.1 - xn K0)) Q (F0 m pc ls1 [])) (F : PF) (G : PG) (hm : cb_X5_enterFunction_10 fu F G = some res) {b : Nat} {H : Heap} {locs : List Loc} (hw : cMW s A v a b K0 F G H locs) {ls : Array Slot} (hl : lv_has ls 2 [(0, .ref (a 205))]) : W p l e R s m args below meth c H locs (xn F - xn K0) (2 * (xn F - xn K0)) Q (F0 m 10 ls []) := by
  have hx := C.1
  have hb := C.2.1
  unfold cb_X5_enterFunction_10 at hm
  refine lv_aload_n hx hb dX5_enterFunction_10 rfl (lv_at hl 0 rfl) ?_
  refine lv_iconst (v := 0) hx hb dX5_enterFunction_11 (by decide) ?_
  refine cp_X5_96 C hw dX5_enterFunction_12 (fun H locs hw => ?_)
  exact cw_X5_enterFunction_15 fu C hret (fup F 50 (0 : Int32)) G hm hw (lv_sub hl [0] rfl)
theorem cn_X5_enterFunction_5 (fu : Nat) {res : Int32 × PF × PG} (F : PF) (G : PG) (hm : cb_X5_enterFunction_5 fu F G = some res) : xn F ≤ xn res.2.1 := by
  unfold cb_X5_enterFunction_5 at hm
  exact Nat.le_trans (Nat.le_of_eq (xn_fup (by decide)).symm) (cn_X5_enterFunction_10 fu (fup F 49 (0 : Int32)) G hm)
theorem cw_X5_enterFunction_5 (fu : Nat) {res : Int32 × PF × PG} (C : cMC p R s m args c A v RX5 cX5_enterFunction 2 1 20 (xn res.2.1 - xn K0)) (hret : ∀ (b1 : Nat) (H1 : Heap) (locs1 : List Loc) (ls1 : Array Slot) (pc : Nat), cMW s A v a b1 K0 res.2.1 res.2.2 H1 locs1 → decode cX5_enterFunction pc = .ok (.return_, 1) → W p l e R s m args below meth c H1 locs1 (xn res.2.1 - xn K0) (2 * (xn res.2.1 - xn K0)) Q (F0 m pc ls1 [])) (F : PF) (G : PG) (hm : cb_X5_enterFunction_5 fu F G = some res) {b : Nat} {H : Heap} {locs : List Loc} (hw : cMW s A v a b K0 F G H locs) {ls : Array Slot} (hl : lv_has ls 2 [(0, .ref (a 205))]) : W p l e R s m args below meth c H locs (xn F - xn K0) (2 * (xn F - xn K0)) Q (F0 m 5 ls []) := by
  have hx := C.1
  have hb := C.2.1
  unfold cb_X5_enterFunction_5 at hm
  refine lv_aload_n hx hb dX5_enterFunction_5 rfl (lv_at hl 0 rfl) ?_
  refine lv_iconst (v := 0) hx hb dX5_enterFunction_6 (by decide) ?_
  refine cp_X5_93 C hw dX5_enterFunction_7 (fun H locs hw => ?_)
  exact cw_X5_enterFunction_10 fu C hret (fup F 49 (0 : Int32)) G hm hw (lv_sub hl [0] rfl)
theorem cn_X5_enterFunction_0 (fu : Nat) {res : Int32 × PF × PG} (x1 : Int32) (F : PF) (G : PG) (hm : cb_X5_enterFunction_0 fu x1 F G = some res) : xn F ≤ xn res.2.1 := by
  unfold cb_X5_enterFunction_0 at hm
  have hm := (b01_elim hm).2
  exact Nat.le_trans (Nat.le_of_eq (xn_fup (by decide)).symm) (cn_X5_enterFunction_5 fu (fup F 48 x1) G hm)
theorem cw_X5_enterFunction_0 (fu : Nat) {res : Int32 × PF × PG} (C : cMC p R s m args c A v RX5 cX5_enterFunction 2 1 20 (xn res.2.1 - xn K0)) (hret : ∀ (b1 : Nat) (H1 : Heap) (locs1 : List Loc) (ls1 : Array Slot) (pc : Nat), cMW s A v a b1 K0 res.2.1 res.2.2 H1 locs1 → decode cX5_enterFunction pc = .ok (.return_, 1) → W p l e R s m args below meth c H1 locs1 (xn res.2.1 - xn K0) (2 * (xn res.2.1 - xn K0)) Q (F0 m pc ls1 [])) (x1 : Int32) (F : PF) (G : PG) (hm : cb_X5_enterFunction_0 fu x1 F G = some res) {b : Nat} {H : Heap} {locs : List Loc} (hw : cMW s A v a b K0 F G H locs) {ls : Array Slot} (hl : lv_has ls 2 [(0, .ref (a 205)), (1, .int x1)]) : W p l e R s m args below meth c H locs (xn F - xn K0) (2 * (xn F - xn K0)) Q (F0 m 0 ls []) := by
  have hx := C.1
  have hb := C.2.1
  unfold cb_X5_enterFunction_0 at hm
  refine lv_aload_n hx hb dX5_enterFunction_0 rfl (lv_at hl 0 rfl) ?_
  refine lv_iload_n hx hb dX5_enterFunction_1 rfl (lv_at hl 1 rfl) ?_
  obtain ⟨hz, hm⟩ := b01_elim hm
  refine cp_X5_90 C hw hz dX5_enterFunction_2 (fun H locs hw => ?_)
  exact cw_X5_enterFunction_5 fu C hret (fup F 48 x1) G hm hw (lv_sub hl [0] rfl)
theorem cn_X5_enterFunction (fu : Nat) (x1 : Int32) (F : PF) (G : PG) (q : Int32 × PF × PG) (hm : cf_X5_enterFunction fu x1 F G = some q) : xn F ≤ xn q.2.1 := cn_X5_enterFunction_0 fu x1 F G hm
theorem ck_X5_enterFunction (l : Launch) (v : EV) (a : Nat → Nat) (b sz : Nat) (fu : Nat) (x1 : Int32) (F : PF) (G : PG) (r : Int32) (F1 : PF) (G1 : PG) (hm : cf_X5_enterFunction fu x1 F G = some (r, F1, G1)) : cMV l yX5_enterFunction cX5_enterFunction 2 1 20 v a b sz [.ref (a 205), .int x1] F G F1 G1 := cMV.of (by decide) (Nat.le_of_ble_eq_true rfl) (fun p e R s m args below meth c Q A H locs ls C hw hl hret => cw_X5_enterFunction_0 fu (res := (r, F1, G1)) C hret x1 F G hm hw hl)
def cb_X4_startFunction_119 (fu : Nat) (F : PF) (G : PG) : PR := some (0, F, G)
def cb_X4_startFunction_111 (fu : Nat) (x3 : Int32) (F : PF) (G : PG) : PR := (cf_X5_enterFunction fu x3 F G).bind (fun q => cb_X4_startFunction_119 fu q.2.1 q.2.2)
def cb_X4_startFunction_92 (fu : Nat) (x3 : Int32) (F : PF) (G : PG) : PR := if ixb (F 28) 450 = true then (cb_X4_startFunction_111 fu x3 F (gup G 80 (F 28).toNatClampNeg (F 6))) else none
def cb_X4_startFunction_89 (fu : Nat) (x3 : Int32) (z0 : Int32) (F : PF) (G : PG) : PR := if z0 = (0 : Int32) then cb_X4_startFunction_111 fu x3 F G else cb_X4_startFunction_92 fu x3 F G
def cb_X4_startFunction_78 (fu : Nat) (x3 : Int32) (F : PF) (G : PG) : PR := (cf_X8_has fu (F 28) F G).bind (fun q => cb_X4_startFunction_89 fu x3 q.1 q.2.1 q.2.2)
def cb_X4_startFunction_67 (fu : Nat) (x3 : Int32) (F : PF) (G : PG) : PR := cb_X4_startFunction_78 fu x3 (fup F 76 (F 28)) G
def cb_X4_startFunction_56 (fu : Nat) (x3 : Int32) (F : PF) (G : PG) : PR := if (F 76) = (-1 : Int32) then cb_X4_startFunction_67 fu x3 F G else cb_X4_startFunction_78 fu x3 F G
def cb_X4_startFunction_48 (fu : Nat) (x1 : Int32) (x3 : Int32) (F : PF) (G : PG) : PR := if x1 = (F 27) then cb_X4_startFunction_56 fu x3 F G else cb_X4_startFunction_78 fu x3 F G
def cb_X4_startFunction_35 (fu : Nat) (x1 : Int32) (x2 : Int32) (x3 : Int32) (F : PF) (G : PG) : PR := (cf_X5_announce fu x1 x2 (F 28) F G).bind (fun q => cb_X4_startFunction_48 fu x1 x3 q.2.1 q.2.2)
def cb_X4_startFunction_26 (fu : Nat) (x1 : Int32) (x2 : Int32) (x3 : Int32) (F : PF) (G : PG) : PR := (cf_X8_addFunction fu x2 x3 F G).bind (fun q => cb_X4_startFunction_35 fu x1 x2 x3 q.2.1 q.2.2)
def cb_X4_startFunction_23 (fu : Nat) (x3 : Int32) (F : PF) (G : PG) : PR := cb_X4_startFunction_78 fu x3 F G
def cb_X4_startFunction_10 (fu : Nat) (x1 : Int32) (x2 : Int32) (x3 : Int32) (F : PF) (G : PG) : PR := (cf_X5_tellFunction fu x1 x2 (F 28) F G).bind (fun q => cb_X4_startFunction_23 fu x3 q.2.1 q.2.2)
def cb_X4_startFunction_0 (fu : Nat) (x1 : Int32) (x2 : Int32) (x3 : Int32) (F : PF) (G : PG) : PR := if (F 45) = (0 : Int32) then cb_X4_startFunction_26 fu x1 x2 x3 F G else cb_X4_startFunction_10 fu x1 x2 x3 F G
def cf_X4_startFunction (fu : Nat) (x1 : Int32) (x2 : Int32) (x3 : Int32) (F : PF) (G : PG) : PR := cb_X4_startFunction_0 fu x1 x2 x3 F G
theorem cn_X4_startFunction_119 (fu : Nat) {res : Int32 × PF × PG} (F : PF) (G : PG) (hm : cb_X4_startFunction_119 fu F G = some res) : xn F ≤ xn res.2.1 := by
  unfold cb_X4_startFunction_119 at hm
  obtain rfl := Option.some.inj hm
  exact Nat.le_refl _
theorem cw_X4_startFunction_119 (fu : Nat) {res : Int32 × PF × PG} (C : cMC p R s m args c A v RX4 cX4_startFunction 4 2 48 (xn res.2.1 - xn K0)) (hret : ∀ (b1 : Nat) (H1 : Heap) (locs1 : List Loc) (ls1 : Array Slot) (pc : Nat), cMW s A v a b1 K0 res.2.1 res.2.2 H1 locs1 → decode cX4_startFunction pc = .ok (.return_, 1) → W p l e R s m args below meth c H1 locs1 (xn res.2.1 - xn K0) (2 * (xn res.2.1 - xn K0)) Q (F0 m pc ls1 [])) (F : PF) (G : PG) (hm : cb_X4_startFunction_119 fu F G = some res) {b : Nat} {H : Heap} {locs : List Loc} (hw : cMW s A v a b K0 F G H locs) {ls : Array Slot} (hl : lv_has ls 4 []) : W p l e R s m args below meth c H locs (xn F - xn K0) (2 * (xn F - xn K0)) Q (F0 m 119 ls []) := by
  have hx := C.1
  have hb := C.2.1
  unfold cb_X4_startFunction_119 at hm
  obtain rfl := Option.some.inj hm
  exact hret _ _ _ _ _ hw dX4_startFunction_119
theorem cn_X4_startFunction_111 (fu : Nat) {res : Int32 × PF × PG} (x3 : Int32) (F : PF) (G : PG) (hm : cb_X4_startFunction_111 fu x3 F G = some res) : xn F ≤ xn res.2.1 := by
  unfold cb_X4_startFunction_111 at hm
  obtain ⟨⟨r1, F1, G1⟩, hc, hm⟩ := bind_elim hm
  exact Nat.le_trans (cn_X5_enterFunction fu x3 F G _ hc) (cn_X4_startFunction_119 fu F1 G1 hm)
theorem cw_X4_startFunction_111 (fu : Nat) {res : Int32 × PF × PG} (C : cMC p R s m args c A v RX4 cX4_startFunction 4 2 48 (xn res.2.1 - xn K0)) (hret : ∀ (b1 : Nat) (H1 : Heap) (locs1 : List Loc) (ls1 : Array Slot) (pc : Nat), cMW s A v a b1 K0 res.2.1 res.2.2 H1 locs1 → decode cX4_startFunction pc = .ok (.return_, 1) → W p l e R s m args below meth c H1 locs1 (xn res.2.1 - xn K0) (2 * (xn res.2.1 - xn K0)) Q (F0 m pc ls1 [])) (x3 : Int32) (F : PF) (G : PG) (hm : cb_X4_startFunction_111 fu x3 F G = some res) {b : Nat} {H : Heap} {locs : List Loc} (hw : cMW s A v a b K0 F G H locs) {ls : Array Slot} (hl : lv_has ls 4 [(0, .ref (a 204)), (3, .int x3)]) : W p l e R s m args below meth c H locs (xn F - xn K0) (2 * (xn F - xn K0)) Q (F0 m 111 ls []) := by
  have hx := C.1
  have hb := C.2.1
  unfold cb_X4_startFunction_111 at hm
  refine lv_aload_n hx hb dX4_startFunction_111 rfl (lv_at hl 0 rfl) ?_
  refine cg_X4_15 C hw dX4_startFunction_112 ?_
  refine lv_iload_n hx hb dX4_startFunction_115 rfl (lv_at hl 1 rfl) ?_
  obtain ⟨⟨r1, F1, G1⟩, hc, hm⟩ := bind_elim hm
  refine ccallV (n := 1) (As := [.int x3]) (rest := []) C hw (ck_X5_enterFunction l v a _ _ fu x3 F G r1 F1 G1 hc) (cn_X5_enterFunction fu x3 F G _ hc) (Nat.sub_le_sub_right (cn_X4_startFunction_119 fu F1 G1 hm) _) (crecv_X5 C hw) cm_608 cm_609 cm_610 cm_266 cm_611 (by decide +kernel) rfl (by omega) (by omega) hl.1 rfl (Nat.le_of_ble_eq_true rfl) dX4_startFunction_116 (fun b H locs hw => ?_)
  exact cw_X4_startFunction_119 fu C hret F1 G1 hm hw (lv_sub hl [] rfl)
theorem cn_X4_startFunction_92 (fu : Nat) {res : Int32 × PF × PG} (x3 : Int32) (F : PF) (G : PG) (hm : cb_X4_startFunction_92 fu x3 F G = some res) : xn F ≤ xn res.2.1 := by
  unfold cb_X4_startFunction_92 at hm
  have hm := (ix_elim hm).2
  exact (cn_X4_startFunction_111 fu x3 F (gup G 80 (F 28).toNatClampNeg (F 6)) hm)
theorem cw_X4_startFunction_92 (fu : Nat) {res : Int32 × PF × PG} (C : cMC p R s m args c A v RX4 cX4_startFunction 4 2 48 (xn res.2.1 - xn K0)) (hret : ∀ (b1 : Nat) (H1 : Heap) (locs1 : List Loc) (ls1 : Array Slot) (pc : Nat), cMW s A v a b1 K0 res.2.1 res.2.2 H1 locs1 → decode cX4_startFunction pc = .ok (.return_, 1) → W p l e R s m args below meth c H1 locs1 (xn res.2.1 - xn K0) (2 * (xn res.2.1 - xn K0)) Q (F0 m pc ls1 [])) (x3 : Int32) (F : PF) (G : PG) (hm : cb_X4_startFunction_92 fu x3 F G = some res) {b : Nat} {H : Heap} {locs : List Loc} (hw : cMW s A v a b K0 F G H locs) {ls : Array Slot} (hl : lv_has ls 4 [(0, .ref (a 204)), (3, .int x3)]) : W p l e R s m args below meth c H locs (xn F - xn K0) (2 * (xn F - xn K0)) Q (F0 m 92 ls []) := by
  have hx := C.1
  have hb := C.2.1
  unfold cb_X4_startFunction_92 at hm
  refine lv_aload_n hx hb dX4_startFunction_92 rfl (lv_at hl 0 rfl) ?_
  refine cg_X4_23 C hw dX4_startFunction_93 ?_
  refine cg_X4_184 C hw dX4_startFunction_96 ?_
  refine lv_aload_n hx hb dX4_startFunction_99 rfl (lv_at hl 0 rfl) ?_
  refine cg_X4_113 C hw dX4_startFunction_100 ?_
  refine lv_aload_n hx hb dX4_startFunction_103 rfl (lv_at hl 0 rfl) ?_
  refine cg_X4_19 C hw dX4_startFunction_104 ?_
  refine cg_X4_43 C hw dX4_startFunction_107 ?_
  obtain ⟨hi, hm⟩ := ix_elim hm
  refine cas_80 C hw hi dX4_startFunction_110 (fun H locs hw => ?_)
  exact cw_X4_startFunction_111 fu C hret x3 F (gup G 80 (F 28).toNatClampNeg (F 6)) hm hw (lv_sub hl [0, 1] rfl)
theorem cn_X4_startFunction_89 (fu : Nat) {res : Int32 × PF × PG} (x3 : Int32) (z0 : Int32) (F : PF) (G : PG) (hm : cb_X4_startFunction_89 fu x3 z0 F G = some res) : xn F ≤ xn res.2.1 := by
  unfold cb_X4_startFunction_89 at hm
  by_cases c_1 : z0 = (0 : Int32)
  · have hm := (if_pos c_1).symm.trans hm
    exact (cn_X4_startFunction_111 fu x3 F G hm)
  · have hm := (if_neg c_1).symm.trans hm
    exact (cn_X4_startFunction_92 fu x3 F G hm)
theorem cw_X4_startFunction_89 (fu : Nat) {res : Int32 × PF × PG} (C : cMC p R s m args c A v RX4 cX4_startFunction 4 2 48 (xn res.2.1 - xn K0)) (hret : ∀ (b1 : Nat) (H1 : Heap) (locs1 : List Loc) (ls1 : Array Slot) (pc : Nat), cMW s A v a b1 K0 res.2.1 res.2.2 H1 locs1 → decode cX4_startFunction pc = .ok (.return_, 1) → W p l e R s m args below meth c H1 locs1 (xn res.2.1 - xn K0) (2 * (xn res.2.1 - xn K0)) Q (F0 m pc ls1 [])) (x3 : Int32) (z0 : Int32) (F : PF) (G : PG) (hm : cb_X4_startFunction_89 fu x3 z0 F G = some res) {b : Nat} {H : Heap} {locs : List Loc} (hw : cMW s A v a b K0 F G H locs) {ls : Array Slot} (hl : lv_has ls 4 [(0, .ref (a 204)), (3, .int x3)]) : W p l e R s m args below meth c H locs (xn F - xn K0) (2 * (xn F - xn K0)) Q (F0 m 89 ls [.int z0]) := by
  have hx := C.1
  have hb := C.2.1
  unfold cb_X4_startFunction_89 at hm
  refine lv_if_eq (tgt := 111) hx hb dX4_startFunction_89 (by decide) (fun c_1 => ?_) (fun c_1 => ?_)
  · have hm := (if_pos c_1).symm.trans hm
    exact cw_X4_startFunction_111 fu C hret x3 F G hm hw (lv_sub hl [0, 1] rfl)
  · have hm := (if_neg c_1).symm.trans hm
    exact cw_X4_startFunction_92 fu C hret x3 F G hm hw (lv_sub hl [0, 1] rfl)
theorem cn_X4_startFunction_78 (fu : Nat) {res : Int32 × PF × PG} (x3 : Int32) (F : PF) (G : PG) (hm : cb_X4_startFunction_78 fu x3 F G = some res) : xn F ≤ xn res.2.1 := by
  unfold cb_X4_startFunction_78 at hm
  obtain ⟨⟨r1, F1, G1⟩, hc, hm⟩ := bind_elim hm
  exact Nat.le_trans (cn_X8_has fu (F 28) F G _ hc) (cn_X4_startFunction_89 fu x3 r1 F1 G1 hm)
theorem cw_X4_startFunction_78 (fu : Nat) {res : Int32 × PF × PG} (C : cMC p R s m args c A v RX4 cX4_startFunction 4 2 48 (xn res.2.1 - xn K0)) (hret : ∀ (b1 : Nat) (H1 : Heap) (locs1 : List Loc) (ls1 : Array Slot) (pc : Nat), cMW s A v a b1 K0 res.2.1 res.2.2 H1 locs1 → decode cX4_startFunction pc = .ok (.return_, 1) → W p l e R s m args below meth c H1 locs1 (xn res.2.1 - xn K0) (2 * (xn res.2.1 - xn K0)) Q (F0 m pc ls1 [])) (x3 : Int32) (F : PF) (G : PG) (hm : cb_X4_startFunction_78 fu x3 F G = some res) {b : Nat} {H : Heap} {locs : List Loc} (hw : cMW s A v a b K0 F G H locs) {ls : Array Slot} (hl : lv_has ls 4 [(0, .ref (a 204)), (3, .int x3)]) : W p l e R s m args below meth c H locs (xn F - xn K0) (2 * (xn F - xn K0)) Q (F0 m 78 ls []) := by
  have hx := C.1
  have hb := C.2.1
  unfold cb_X4_startFunction_78 at hm
  refine lv_aload_n hx hb dX4_startFunction_78 rfl (lv_at hl 0 rfl) ?_
  refine cg_X4_23 C hw dX4_startFunction_79 ?_
  refine lv_aload_n hx hb dX4_startFunction_82 rfl (lv_at hl 0 rfl) ?_
  refine cg_X4_113 C hw dX4_startFunction_83 ?_
  obtain ⟨⟨r1, F1, G1⟩, hc, hm⟩ := bind_elim hm
  refine ccallI (n := 1) (As := [.int (F 28)]) (rest := []) C hw (ck_X8_has l v a _ _ fu (F 28) F G r1 F1 G1 hc) (cn_X8_has fu (F 28) F G _ hc) (Nat.sub_le_sub_right (cn_X4_startFunction_89 fu x3 r1 F1 G1 hm) _) (crecv_X8 C hw) cm_607 cm_405 cm_406 cm_254 cm_407 (by decide +kernel) rfl (by omega) (by omega) hl.1 rfl (Nat.le_of_ble_eq_true rfl) dX4_startFunction_86 (fun b H locs hw => ?_)
  exact cw_X4_startFunction_89 fu C hret x3 r1 F1 G1 hm hw (lv_sub hl [0, 1] rfl)
theorem cn_X4_startFunction_67 (fu : Nat) {res : Int32 × PF × PG} (x3 : Int32) (F : PF) (G : PG) (hm : cb_X4_startFunction_67 fu x3 F G = some res) : xn F ≤ xn res.2.1 := by
  unfold cb_X4_startFunction_67 at hm
  exact Nat.le_trans (Nat.le_of_eq (xn_fup (by decide)).symm) (cn_X4_startFunction_78 fu x3 (fup F 76 (F 28)) G hm)
theorem cw_X4_startFunction_67 (fu : Nat) {res : Int32 × PF × PG} (C : cMC p R s m args c A v RX4 cX4_startFunction 4 2 48 (xn res.2.1 - xn K0)) (hret : ∀ (b1 : Nat) (H1 : Heap) (locs1 : List Loc) (ls1 : Array Slot) (pc : Nat), cMW s A v a b1 K0 res.2.1 res.2.2 H1 locs1 → decode cX4_startFunction pc = .ok (.return_, 1) → W p l e R s m args below meth c H1 locs1 (xn res.2.1 - xn K0) (2 * (xn res.2.1 - xn K0)) Q (F0 m pc ls1 [])) (x3 : Int32) (F : PF) (G : PG) (hm : cb_X4_startFunction_67 fu x3 F G = some res) {b : Nat} {H : Heap} {locs : List Loc} (hw : cMW s A v a b K0 F G H locs) {ls : Array Slot} (hl : lv_has ls 4 [(0, .ref (a 204)), (3, .int x3)]) : W p l e R s m args below meth c H locs (xn F - xn K0) (2 * (xn F - xn K0)) Q (F0 m 67 ls []) := by
  have hx := C.1
  have hb := C.2.1
  unfold cb_X4_startFunction_67 at hm
  refine lv_aload_n hx hb dX4_startFunction_67 rfl (lv_at hl 0 rfl) ?_
  refine cg_X4_23 C hw dX4_startFunction_68 ?_
  refine lv_aload_n hx hb dX4_startFunction_71 rfl (lv_at hl 0 rfl) ?_
  refine cg_X4_113 C hw dX4_startFunction_72 ?_
  refine cp_X4_101 C hw dX4_startFunction_75 (fun H locs hw => ?_)
  exact cw_X4_startFunction_78 fu C hret x3 (fup F 76 (F 28)) G hm hw (lv_sub hl [0, 1] rfl)
theorem cn_X4_startFunction_56 (fu : Nat) {res : Int32 × PF × PG} (x3 : Int32) (F : PF) (G : PG) (hm : cb_X4_startFunction_56 fu x3 F G = some res) : xn F ≤ xn res.2.1 := by
  unfold cb_X4_startFunction_56 at hm
  by_cases c_1 : (F 76) = (-1 : Int32)
  · have hm := (if_pos c_1).symm.trans hm
    exact (cn_X4_startFunction_67 fu x3 F G hm)
  · have hm := (if_neg c_1).symm.trans hm
    exact (cn_X4_startFunction_78 fu x3 F G hm)
theorem cw_X4_startFunction_56 (fu : Nat) {res : Int32 × PF × PG} (C : cMC p R s m args c A v RX4 cX4_startFunction 4 2 48 (xn res.2.1 - xn K0)) (hret : ∀ (b1 : Nat) (H1 : Heap) (locs1 : List Loc) (ls1 : Array Slot) (pc : Nat), cMW s A v a b1 K0 res.2.1 res.2.2 H1 locs1 → decode cX4_startFunction pc = .ok (.return_, 1) → W p l e R s m args below meth c H1 locs1 (xn res.2.1 - xn K0) (2 * (xn res.2.1 - xn K0)) Q (F0 m pc ls1 [])) (x3 : Int32) (F : PF) (G : PG) (hm : cb_X4_startFunction_56 fu x3 F G = some res) {b : Nat} {H : Heap} {locs : List Loc} (hw : cMW s A v a b K0 F G H locs) {ls : Array Slot} (hl : lv_has ls 4 [(0, .ref (a 204)), (3, .int x3)]) : W p l e R s m args below meth c H locs (xn F - xn K0) (2 * (xn F - xn K0)) Q (F0 m 56 ls []) := by
  have hx := C.1
  have hb := C.2.1
  unfold cb_X4_startFunction_56 at hm
  refine lv_aload_n hx hb dX4_startFunction_56 rfl (lv_at hl 0 rfl) ?_
  refine cg_X4_23 C hw dX4_startFunction_57 ?_
  refine cg_X4_101 C hw dX4_startFunction_60 ?_
  refine lv_iconst (v := (-1)) hx hb dX4_startFunction_63 (by decide) ?_
  refine lv_icmp_ne (tgt := 78) hx hb dX4_startFunction_64 (by decide) (fun c_1 => ?_) (fun c_1 => ?_)
  · have hm := (if_neg c_1).symm.trans hm
    exact cw_X4_startFunction_78 fu C hret x3 F G hm hw (lv_sub hl [0, 1] rfl)
  · have hm := (if_pos c_1).symm.trans hm
    exact cw_X4_startFunction_67 fu C hret x3 F G hm hw (lv_sub hl [0, 1] rfl)
theorem cn_X4_startFunction_48 (fu : Nat) {res : Int32 × PF × PG} (x1 : Int32) (x3 : Int32) (F : PF) (G : PG) (hm : cb_X4_startFunction_48 fu x1 x3 F G = some res) : xn F ≤ xn res.2.1 := by
  unfold cb_X4_startFunction_48 at hm
  by_cases c_1 : x1 = (F 27)
  · have hm := (if_pos c_1).symm.trans hm
    exact (cn_X4_startFunction_56 fu x3 F G hm)
  · have hm := (if_neg c_1).symm.trans hm
    exact (cn_X4_startFunction_78 fu x3 F G hm)
theorem cw_X4_startFunction_48 (fu : Nat) {res : Int32 × PF × PG} (C : cMC p R s m args c A v RX4 cX4_startFunction 4 2 48 (xn res.2.1 - xn K0)) (hret : ∀ (b1 : Nat) (H1 : Heap) (locs1 : List Loc) (ls1 : Array Slot) (pc : Nat), cMW s A v a b1 K0 res.2.1 res.2.2 H1 locs1 → decode cX4_startFunction pc = .ok (.return_, 1) → W p l e R s m args below meth c H1 locs1 (xn res.2.1 - xn K0) (2 * (xn res.2.1 - xn K0)) Q (F0 m pc ls1 [])) (x1 : Int32) (x3 : Int32) (F : PF) (G : PG) (hm : cb_X4_startFunction_48 fu x1 x3 F G = some res) {b : Nat} {H : Heap} {locs : List Loc} (hw : cMW s A v a b K0 F G H locs) {ls : Array Slot} (hl : lv_has ls 4 [(0, .ref (a 204)), (1, .int x1), (3, .int x3)]) : W p l e R s m args below meth c H locs (xn F - xn K0) (2 * (xn F - xn K0)) Q (F0 m 48 ls []) := by
  have hx := C.1
  have hb := C.2.1
  unfold cb_X4_startFunction_48 at hm
  refine lv_iload_n hx hb dX4_startFunction_48 rfl (lv_at hl 1 rfl) ?_
  refine lv_aload_n hx hb dX4_startFunction_49 rfl (lv_at hl 0 rfl) ?_
  refine cg_X4_31 C hw dX4_startFunction_50 ?_
  refine lv_icmp_ne (tgt := 78) hx hb dX4_startFunction_53 (by decide) (fun c_1 => ?_) (fun c_1 => ?_)
  · have hm := (if_neg c_1).symm.trans hm
    exact cw_X4_startFunction_78 fu C hret x3 F G hm hw (lv_sub hl [0, 2] rfl)
  · have hm := (if_pos c_1).symm.trans hm
    exact cw_X4_startFunction_56 fu C hret x3 F G hm hw (lv_sub hl [0, 2] rfl)
theorem cn_X4_startFunction_35 (fu : Nat) {res : Int32 × PF × PG} (x1 : Int32) (x2 : Int32) (x3 : Int32) (F : PF) (G : PG) (hm : cb_X4_startFunction_35 fu x1 x2 x3 F G = some res) : xn F ≤ xn res.2.1 := by
  unfold cb_X4_startFunction_35 at hm
  obtain ⟨⟨r1, F1, G1⟩, hc, hm⟩ := bind_elim hm
  exact Nat.le_trans (cn_X5_announce fu x1 x2 (F 28) F G _ hc) (cn_X4_startFunction_48 fu x1 x3 F1 G1 hm)
theorem cw_X4_startFunction_35 (fu : Nat) {res : Int32 × PF × PG} (C : cMC p R s m args c A v RX4 cX4_startFunction 4 2 48 (xn res.2.1 - xn K0)) (hret : ∀ (b1 : Nat) (H1 : Heap) (locs1 : List Loc) (ls1 : Array Slot) (pc : Nat), cMW s A v a b1 K0 res.2.1 res.2.2 H1 locs1 → decode cX4_startFunction pc = .ok (.return_, 1) → W p l e R s m args below meth c H1 locs1 (xn res.2.1 - xn K0) (2 * (xn res.2.1 - xn K0)) Q (F0 m pc ls1 [])) (x1 : Int32) (x2 : Int32) (x3 : Int32) (F : PF) (G : PG) (hm : cb_X4_startFunction_35 fu x1 x2 x3 F G = some res) {b : Nat} {H : Heap} {locs : List Loc} (hw : cMW s A v a b K0 F G H locs) {ls : Array Slot} (hl : lv_has ls 4 [(0, .ref (a 204)), (1, .int x1), (2, .int x2), (3, .int x3)]) : W p l e R s m args below meth c H locs (xn F - xn K0) (2 * (xn F - xn K0)) Q (F0 m 35 ls []) := by
  have hx := C.1
  have hb := C.2.1
  unfold cb_X4_startFunction_35 at hm
  refine lv_aload_n hx hb dX4_startFunction_35 rfl (lv_at hl 0 rfl) ?_
  refine cg_X4_15 C hw dX4_startFunction_36 ?_
  refine lv_iload_n hx hb dX4_startFunction_39 rfl (lv_at hl 1 rfl) ?_
  refine lv_iload_n hx hb dX4_startFunction_40 rfl (lv_at hl 2 rfl) ?_
  refine lv_aload_n hx hb dX4_startFunction_41 rfl (lv_at hl 0 rfl) ?_
  refine cg_X4_113 C hw dX4_startFunction_42 ?_
  obtain ⟨⟨r1, F1, G1⟩, hc, hm⟩ := bind_elim hm
  refine ccallV (n := 3) (As := [.int x1, .int x2, .int (F 28)]) (rest := []) C hw (ck_X5_announce l v a _ _ fu x1 x2 (F 28) F G r1 F1 G1 hc) (cn_X5_announce fu x1 x2 (F 28) F G _ hc) (Nat.sub_le_sub_right (cn_X4_startFunction_48 fu x1 x3 F1 G1 hm) _) (crecv_X5 C hw) cm_603 cm_604 cm_605 cm_266 cm_606 (by decide +kernel) rfl (by omega) (by omega) hl.1 rfl (Nat.le_of_ble_eq_true rfl) dX4_startFunction_45 (fun b H locs hw => ?_)
  exact cw_X4_startFunction_48 fu C hret x1 x3 F1 G1 hm hw (lv_sub hl [0, 1, 3] rfl)
theorem cn_X4_startFunction_26 (fu : Nat) {res : Int32 × PF × PG} (x1 : Int32) (x2 : Int32) (x3 : Int32) (F : PF) (G : PG) (hm : cb_X4_startFunction_26 fu x1 x2 x3 F G = some res) : xn F ≤ xn res.2.1 := by
  unfold cb_X4_startFunction_26 at hm
  obtain ⟨⟨r1, F1, G1⟩, hc, hm⟩ := bind_elim hm
  exact Nat.le_trans (cn_X8_addFunction fu x2 x3 F G _ hc) (cn_X4_startFunction_35 fu x1 x2 x3 F1 G1 hm)
theorem cw_X4_startFunction_26 (fu : Nat) {res : Int32 × PF × PG} (C : cMC p R s m args c A v RX4 cX4_startFunction 4 2 48 (xn res.2.1 - xn K0)) (hret : ∀ (b1 : Nat) (H1 : Heap) (locs1 : List Loc) (ls1 : Array Slot) (pc : Nat), cMW s A v a b1 K0 res.2.1 res.2.2 H1 locs1 → decode cX4_startFunction pc = .ok (.return_, 1) → W p l e R s m args below meth c H1 locs1 (xn res.2.1 - xn K0) (2 * (xn res.2.1 - xn K0)) Q (F0 m pc ls1 [])) (x1 : Int32) (x2 : Int32) (x3 : Int32) (F : PF) (G : PG) (hm : cb_X4_startFunction_26 fu x1 x2 x3 F G = some res) {b : Nat} {H : Heap} {locs : List Loc} (hw : cMW s A v a b K0 F G H locs) {ls : Array Slot} (hl : lv_has ls 4 [(0, .ref (a 204)), (1, .int x1), (2, .int x2), (3, .int x3)]) : W p l e R s m args below meth c H locs (xn F - xn K0) (2 * (xn F - xn K0)) Q (F0 m 26 ls []) := by
  have hx := C.1
  have hb := C.2.1
  unfold cb_X4_startFunction_26 at hm
  refine lv_aload_n hx hb dX4_startFunction_26 rfl (lv_at hl 0 rfl) ?_
  refine cg_X4_23 C hw dX4_startFunction_27 ?_
  refine lv_iload_n hx hb dX4_startFunction_30 rfl (lv_at hl 2 rfl) ?_
  refine lv_iload_n hx hb dX4_startFunction_31 rfl (lv_at hl 3 rfl) ?_
  obtain ⟨⟨r1, F1, G1⟩, hc, hm⟩ := bind_elim hm
  refine ccallV (n := 2) (As := [.int x2, .int x3]) (rest := []) C hw (ck_X8_addFunction l v a _ _ fu x2 x3 F G r1 F1 G1 hc) (cn_X8_addFunction fu x2 x3 F G _ hc) (Nat.sub_le_sub_right (cn_X4_startFunction_35 fu x1 x2 x3 F1 G1 hm) _) (crecv_X8 C hw) cm_595 cm_596 cm_597 cm_254 cm_598 (by decide +kernel) rfl (by omega) (by omega) hl.1 rfl (Nat.le_of_ble_eq_true rfl) dX4_startFunction_32 (fun b H locs hw => ?_)
  exact cw_X4_startFunction_35 fu C hret x1 x2 x3 F1 G1 hm hw (lv_sub hl [0, 1, 2, 3] rfl)
theorem cn_X4_startFunction_23 (fu : Nat) {res : Int32 × PF × PG} (x3 : Int32) (F : PF) (G : PG) (hm : cb_X4_startFunction_23 fu x3 F G = some res) : xn F ≤ xn res.2.1 := by
  unfold cb_X4_startFunction_23 at hm
  exact (cn_X4_startFunction_78 fu x3 F G hm)
theorem cw_X4_startFunction_23 (fu : Nat) {res : Int32 × PF × PG} (C : cMC p R s m args c A v RX4 cX4_startFunction 4 2 48 (xn res.2.1 - xn K0)) (hret : ∀ (b1 : Nat) (H1 : Heap) (locs1 : List Loc) (ls1 : Array Slot) (pc : Nat), cMW s A v a b1 K0 res.2.1 res.2.2 H1 locs1 → decode cX4_startFunction pc = .ok (.return_, 1) → W p l e R s m args below meth c H1 locs1 (xn res.2.1 - xn K0) (2 * (xn res.2.1 - xn K0)) Q (F0 m pc ls1 [])) (x3 : Int32) (F : PF) (G : PG) (hm : cb_X4_startFunction_23 fu x3 F G = some res) {b : Nat} {H : Heap} {locs : List Loc} (hw : cMW s A v a b K0 F G H locs) {ls : Array Slot} (hl : lv_has ls 4 [(0, .ref (a 204)), (3, .int x3)]) : W p l e R s m args below meth c H locs (xn F - xn K0) (2 * (xn F - xn K0)) Q (F0 m 23 ls []) := by
  have hx := C.1
  have hb := C.2.1
  unfold cb_X4_startFunction_23 at hm
  refine lv_goto (tgt := 78) hx hb dX4_startFunction_23 (by decide) ?_
  exact cw_X4_startFunction_78 fu C hret x3 F G hm hw (lv_sub hl [0, 1] rfl)
theorem cn_X4_startFunction_10 (fu : Nat) {res : Int32 × PF × PG} (x1 : Int32) (x2 : Int32) (x3 : Int32) (F : PF) (G : PG) (hm : cb_X4_startFunction_10 fu x1 x2 x3 F G = some res) : xn F ≤ xn res.2.1 := by
  unfold cb_X4_startFunction_10 at hm
  obtain ⟨⟨r1, F1, G1⟩, hc, hm⟩ := bind_elim hm
  exact Nat.le_trans (cn_X5_tellFunction fu x1 x2 (F 28) F G _ hc) (cn_X4_startFunction_23 fu x3 F1 G1 hm)
theorem cw_X4_startFunction_10 (fu : Nat) {res : Int32 × PF × PG} (C : cMC p R s m args c A v RX4 cX4_startFunction 4 2 48 (xn res.2.1 - xn K0)) (hret : ∀ (b1 : Nat) (H1 : Heap) (locs1 : List Loc) (ls1 : Array Slot) (pc : Nat), cMW s A v a b1 K0 res.2.1 res.2.2 H1 locs1 → decode cX4_startFunction pc = .ok (.return_, 1) → W p l e R s m args below meth c H1 locs1 (xn res.2.1 - xn K0) (2 * (xn res.2.1 - xn K0)) Q (F0 m pc ls1 [])) (x1 : Int32) (x2 : Int32) (x3 : Int32) (F : PF) (G : PG) (hm : cb_X4_startFunction_10 fu x1 x2 x3 F G = some res) {b : Nat} {H : Heap} {locs : List Loc} (hw : cMW s A v a b K0 F G H locs) {ls : Array Slot} (hl : lv_has ls 4 [(0, .ref (a 204)), (1, .int x1), (2, .int x2), (3, .int x3)]) : W p l e R s m args below meth c H locs (xn F - xn K0) (2 * (xn F - xn K0)) Q (F0 m 10 ls []) := by
  have hx := C.1
  have hb := C.2.1
  unfold cb_X4_startFunction_10 at hm
  refine lv_aload_n hx hb dX4_startFunction_10 rfl (lv_at hl 0 rfl) ?_
  refine cg_X4_15 C hw dX4_startFunction_11 ?_
  refine lv_iload_n hx hb dX4_startFunction_14 rfl (lv_at hl 1 rfl) ?_
  refine lv_iload_n hx hb dX4_startFunction_15 rfl (lv_at hl 2 rfl) ?_
  refine lv_aload_n hx hb dX4_startFunction_16 rfl (lv_at hl 0 rfl) ?_
  refine cg_X4_113 C hw dX4_startFunction_17 ?_
  obtain ⟨⟨r1, F1, G1⟩, hc, hm⟩ := bind_elim hm
  refine ccallV (n := 3) (As := [.int x1, .int x2, .int (F 28)]) (rest := []) C hw (ck_X5_tellFunction l v a _ _ fu x1 x2 (F 28) F G r1 F1 G1 hc) (cn_X5_tellFunction fu x1 x2 (F 28) F G _ hc) (Nat.sub_le_sub_right (cn_X4_startFunction_23 fu x3 F1 G1 hm) _) (crecv_X5 C hw) cm_590 cm_591 cm_592 cm_266 cm_593 (by decide +kernel) rfl (by omega) (by omega) hl.1 rfl (Nat.le_of_ble_eq_true rfl) dX4_startFunction_20 (fun b H locs hw => ?_)
  exact cw_X4_startFunction_23 fu C hret x3 F1 G1 hm hw (lv_sub hl [0, 3] rfl)
theorem cn_X4_startFunction_0 (fu : Nat) {res : Int32 × PF × PG} (x1 : Int32) (x2 : Int32) (x3 : Int32) (F : PF) (G : PG) (hm : cb_X4_startFunction_0 fu x1 x2 x3 F G = some res) : xn F ≤ xn res.2.1 := by
  unfold cb_X4_startFunction_0 at hm
  by_cases c_1 : (F 45) = (0 : Int32)
  · have hm := (if_pos c_1).symm.trans hm
    exact (cn_X4_startFunction_26 fu x1 x2 x3 F G hm)
  · have hm := (if_neg c_1).symm.trans hm
    exact (cn_X4_startFunction_10 fu x1 x2 x3 F G hm)
theorem cw_X4_startFunction_0 (fu : Nat) {res : Int32 × PF × PG} (C : cMC p R s m args c A v RX4 cX4_startFunction 4 2 48 (xn res.2.1 - xn K0)) (hret : ∀ (b1 : Nat) (H1 : Heap) (locs1 : List Loc) (ls1 : Array Slot) (pc : Nat), cMW s A v a b1 K0 res.2.1 res.2.2 H1 locs1 → decode cX4_startFunction pc = .ok (.return_, 1) → W p l e R s m args below meth c H1 locs1 (xn res.2.1 - xn K0) (2 * (xn res.2.1 - xn K0)) Q (F0 m pc ls1 [])) (x1 : Int32) (x2 : Int32) (x3 : Int32) (F : PF) (G : PG) (hm : cb_X4_startFunction_0 fu x1 x2 x3 F G = some res) {b : Nat} {H : Heap} {locs : List Loc} (hw : cMW s A v a b K0 F G H locs) {ls : Array Slot} (hl : lv_has ls 4 [(0, .ref (a 204)), (1, .int x1), (2, .int x2), (3, .int x3)]) : W p l e R s m args below meth c H locs (xn F - xn K0) (2 * (xn F - xn K0)) Q (F0 m 0 ls []) := by
  have hx := C.1
  have hb := C.2.1
  unfold cb_X4_startFunction_0 at hm
  refine lv_aload_n hx hb dX4_startFunction_0 rfl (lv_at hl 0 rfl) ?_
  refine cg_X4_15 C hw dX4_startFunction_1 ?_
  refine cg_X4_128 C hw dX4_startFunction_4 ?_
  refine lv_if_eq (tgt := 26) hx hb dX4_startFunction_7 (by decide) (fun c_1 => ?_) (fun c_1 => ?_)
  · have hm := (if_pos c_1).symm.trans hm
    exact cw_X4_startFunction_26 fu C hret x1 x2 x3 F G hm hw (lv_sub hl [0, 1, 2, 3] rfl)
  · have hm := (if_neg c_1).symm.trans hm
    exact cw_X4_startFunction_10 fu C hret x1 x2 x3 F G hm hw (lv_sub hl [0, 1, 2, 3] rfl)
theorem cn_X4_startFunction (fu : Nat) (x1 : Int32) (x2 : Int32) (x3 : Int32) (F : PF) (G : PG) (q : Int32 × PF × PG) (hm : cf_X4_startFunction fu x1 x2 x3 F G = some q) : xn F ≤ xn q.2.1 := cn_X4_startFunction_0 fu x1 x2 x3 F G hm
theorem ck_X4_startFunction (l : Launch) (v : EV) (a : Nat → Nat) (b sz : Nat) (fu : Nat) (x1 : Int32) (x2 : Int32) (x3 : Int32) (F : PF) (G : PG) (r : Int32) (F1 : PF) (G1 : PG) (hm : cf_X4_startFunction fu x1 x2 x3 F G = some (r, F1, G1)) : cMV l yX4_startFunction cX4_startFunction 4 2 48 v a b sz [.ref (a 204), .int x1, .int x2, .int x3] F G F1 G1 := cMV.of (by decide) (Nat.le_of_ble_eq_true rfl) (fun p e R s m args below meth c Q A H locs ls C hw hl hret => cw_X4_startFunction_0 fu (res := (r, F1, G1)) C hret x1 x2 x3 F G hm hw hl)
def cb_X8_tellInt_18 (fu : Nat) (F : PF) (G : PG) : PR := some (0, F, G)
def cb_X8_tellInt_11 (fu : Nat) (x1 : Int32) (x2 : Int32) (F : PF) (G : PG) : PR := if ixb x1 2000 = true then (cb_X8_tellInt_18 fu F (gup G 86 x1.toNatClampNeg x2)) else none
def cb_X8_tellInt_4 (fu : Nat) (x1 : Int32) (x2 : Int32) (F : PF) (G : PG) : PR := if (2000 : Int32) ≤ x1 then cb_X8_tellInt_18 fu F G else cb_X8_tellInt_11 fu x1 x2 F G
def cb_X8_tellInt_0 (fu : Nat) (x1 : Int32) (x2 : Int32) (F : PF) (G : PG) : PR := if x1 < (0 : Int32) then cb_X8_tellInt_18 fu F G else cb_X8_tellInt_4 fu x1 x2 F G
def cf_X8_tellInt (fu : Nat) (x1 : Int32) (x2 : Int32) (F : PF) (G : PG) : PR := cb_X8_tellInt_0 fu x1 x2 F G
theorem cn_X8_tellInt_18 (fu : Nat) {res : Int32 × PF × PG} (F : PF) (G : PG) (hm : cb_X8_tellInt_18 fu F G = some res) : xn F ≤ xn res.2.1 := by
  unfold cb_X8_tellInt_18 at hm
  obtain rfl := Option.some.inj hm
  exact Nat.le_refl _
theorem cw_X8_tellInt_18 (fu : Nat) {res : Int32 × PF × PG} (C : cMC p R s m args c A v RX8 cX8_tellInt 3 0 0 (xn res.2.1 - xn K0)) (hret : ∀ (b1 : Nat) (H1 : Heap) (locs1 : List Loc) (ls1 : Array Slot) (pc : Nat), cMW s A v a b1 K0 res.2.1 res.2.2 H1 locs1 → decode cX8_tellInt pc = .ok (.return_, 1) → W p l e R s m args below meth c H1 locs1 (xn res.2.1 - xn K0) (2 * (xn res.2.1 - xn K0)) Q (F0 m pc ls1 [])) (F : PF) (G : PG) (hm : cb_X8_tellInt_18 fu F G = some res) {b : Nat} {H : Heap} {locs : List Loc} (hw : cMW s A v a b K0 F G H locs) {ls : Array Slot} (hl : lv_has ls 3 []) : W p l e R s m args below meth c H locs (xn F - xn K0) (2 * (xn F - xn K0)) Q (F0 m 18 ls []) := by
  have hx := C.1
  have hb := C.2.1
  unfold cb_X8_tellInt_18 at hm
  obtain rfl := Option.some.inj hm
  exact hret _ _ _ _ _ hw dX8_tellInt_18
theorem cn_X8_tellInt_11 (fu : Nat) {res : Int32 × PF × PG} (x1 : Int32) (x2 : Int32) (F : PF) (G : PG) (hm : cb_X8_tellInt_11 fu x1 x2 F G = some res) : xn F ≤ xn res.2.1 := by
  unfold cb_X8_tellInt_11 at hm
  have hm := (ix_elim hm).2
  exact (cn_X8_tellInt_18 fu F (gup G 86 x1.toNatClampNeg x2) hm)
theorem cw_X8_tellInt_11 (fu : Nat) {res : Int32 × PF × PG} (C : cMC p R s m args c A v RX8 cX8_tellInt 3 0 0 (xn res.2.1 - xn K0)) (hret : ∀ (b1 : Nat) (H1 : Heap) (locs1 : List Loc) (ls1 : Array Slot) (pc : Nat), cMW s A v a b1 K0 res.2.1 res.2.2 H1 locs1 → decode cX8_tellInt pc = .ok (.return_, 1) → W p l e R s m args below meth c H1 locs1 (xn res.2.1 - xn K0) (2 * (xn res.2.1 - xn K0)) Q (F0 m pc ls1 [])) (x1 : Int32) (x2 : Int32) (F : PF) (G : PG) (hm : cb_X8_tellInt_11 fu x1 x2 F G = some res) {b : Nat} {H : Heap} {locs : List Loc} (hw : cMW s A v a b K0 F G H locs) {ls : Array Slot} (hl : lv_has ls 3 [(0, .ref (a 208)), (1, .int x1), (2, .int x2)]) : W p l e R s m args below meth c H locs (xn F - xn K0) (2 * (xn F - xn K0)) Q (F0 m 11 ls []) := by
  have hx := C.1
  have hb := C.2.1
  unfold cb_X8_tellInt_11 at hm
  refine lv_aload_n hx hb dX8_tellInt_11 rfl (lv_at hl 0 rfl) ?_
  refine cg_X8_36 C hw dX8_tellInt_12 ?_
  refine lv_iload_n hx hb dX8_tellInt_15 rfl (lv_at hl 1 rfl) ?_
  refine lv_iload_n hx hb dX8_tellInt_16 rfl (lv_at hl 2 rfl) ?_
  obtain ⟨hi, hm⟩ := ix_elim hm
  refine cas_86 C hw hi dX8_tellInt_17 (fun H locs hw => ?_)
  exact cw_X8_tellInt_18 fu C hret F (gup G 86 x1.toNatClampNeg x2) hm hw (lv_sub hl [] rfl)
theorem cn_X8_tellInt_4 (fu : Nat) {res : Int32 × PF × PG} (x1 : Int32) (x2 : Int32) (F : PF) (G : PG) (hm : cb_X8_tellInt_4 fu x1 x2 F G = some res) : xn F ≤ xn res.2.1 := by
  unfold cb_X8_tellInt_4 at hm
  by_cases c_1 : (2000 : Int32) ≤ x1
  · have hm := (if_pos c_1).symm.trans hm
    exact (cn_X8_tellInt_18 fu F G hm)
  · have hm := (if_neg c_1).symm.trans hm
    exact (cn_X8_tellInt_11 fu x1 x2 F G hm)
theorem cw_X8_tellInt_4 (fu : Nat) {res : Int32 × PF × PG} (C : cMC p R s m args c A v RX8 cX8_tellInt 3 0 0 (xn res.2.1 - xn K0)) (hret : ∀ (b1 : Nat) (H1 : Heap) (locs1 : List Loc) (ls1 : Array Slot) (pc : Nat), cMW s A v a b1 K0 res.2.1 res.2.2 H1 locs1 → decode cX8_tellInt pc = .ok (.return_, 1) → W p l e R s m args below meth c H1 locs1 (xn res.2.1 - xn K0) (2 * (xn res.2.1 - xn K0)) Q (F0 m pc ls1 [])) (x1 : Int32) (x2 : Int32) (F : PF) (G : PG) (hm : cb_X8_tellInt_4 fu x1 x2 F G = some res) {b : Nat} {H : Heap} {locs : List Loc} (hw : cMW s A v a b K0 F G H locs) {ls : Array Slot} (hl : lv_has ls 3 [(0, .ref (a 208)), (1, .int x1), (2, .int x2)]) : W p l e R s m args below meth c H locs (xn F - xn K0) (2 * (xn F - xn K0)) Q (F0 m 4 ls []) := by
  have hx := C.1
  have hb := C.2.1
  unfold cb_X8_tellInt_4 at hm
  refine lv_iload_n hx hb dX8_tellInt_4 rfl (lv_at hl 1 rfl) ?_
  refine lv_sipush (v := 2000) hx hb dX8_tellInt_5 (by decide) ?_
  refine lv_icmp_ge (tgt := 18) hx hb dX8_tellInt_8 (by decide) (fun c_1 => ?_) (fun c_1 => ?_)
  · have hm := (if_pos c_1).symm.trans hm
    exact cw_X8_tellInt_18 fu C hret F G hm hw (lv_sub hl [] rfl)
  · have hm := (if_neg c_1).symm.trans hm
    exact cw_X8_tellInt_11 fu C hret x1 x2 F G hm hw (lv_sub hl [0, 1, 2] rfl)
theorem cn_X8_tellInt_0 (fu : Nat) {res : Int32 × PF × PG} (x1 : Int32) (x2 : Int32) (F : PF) (G : PG) (hm : cb_X8_tellInt_0 fu x1 x2 F G = some res) : xn F ≤ xn res.2.1 := by
  unfold cb_X8_tellInt_0 at hm
  by_cases c_1 : x1 < (0 : Int32)
  · have hm := (if_pos c_1).symm.trans hm
    exact (cn_X8_tellInt_18 fu F G hm)
  · have hm := (if_neg c_1).symm.trans hm
    exact (cn_X8_tellInt_4 fu x1 x2 F G hm)
theorem cw_X8_tellInt_0 (fu : Nat) {res : Int32 × PF × PG} (C : cMC p R s m args c A v RX8 cX8_tellInt 3 0 0 (xn res.2.1 - xn K0)) (hret : ∀ (b1 : Nat) (H1 : Heap) (locs1 : List Loc) (ls1 : Array Slot) (pc : Nat), cMW s A v a b1 K0 res.2.1 res.2.2 H1 locs1 → decode cX8_tellInt pc = .ok (.return_, 1) → W p l e R s m args below meth c H1 locs1 (xn res.2.1 - xn K0) (2 * (xn res.2.1 - xn K0)) Q (F0 m pc ls1 [])) (x1 : Int32) (x2 : Int32) (F : PF) (G : PG) (hm : cb_X8_tellInt_0 fu x1 x2 F G = some res) {b : Nat} {H : Heap} {locs : List Loc} (hw : cMW s A v a b K0 F G H locs) {ls : Array Slot} (hl : lv_has ls 3 [(0, .ref (a 208)), (1, .int x1), (2, .int x2)]) : W p l e R s m args below meth c H locs (xn F - xn K0) (2 * (xn F - xn K0)) Q (F0 m 0 ls []) := by
  have hx := C.1
  have hb := C.2.1
  unfold cb_X8_tellInt_0 at hm
  refine lv_iload_n hx hb dX8_tellInt_0 rfl (lv_at hl 1 rfl) ?_
  refine lv_if_lt (tgt := 18) hx hb dX8_tellInt_1 (by decide) (fun c_1 => ?_) (fun c_1 => ?_)
  · have hm := (if_pos c_1).symm.trans hm
    exact cw_X8_tellInt_18 fu C hret F G hm hw (lv_sub hl [] rfl)
  · have hm := (if_neg c_1).symm.trans hm
    exact cw_X8_tellInt_4 fu C hret x1 x2 F G hm hw (lv_sub hl [0, 1, 2] rfl)
theorem cn_X8_tellInt (fu : Nat) (x1 : Int32) (x2 : Int32) (F : PF) (G : PG) (q : Int32 × PF × PG) (hm : cf_X8_tellInt fu x1 x2 F G = some q) : xn F ≤ xn q.2.1 := cn_X8_tellInt_0 fu x1 x2 F G hm
theorem ck_X8_tellInt (l : Launch) (v : EV) (a : Nat → Nat) (b sz : Nat) (fu : Nat) (x1 : Int32) (x2 : Int32) (F : PF) (G : PG) (r : Int32) (F1 : PF) (G1 : PG) (hm : cf_X8_tellInt fu x1 x2 F G = some (r, F1, G1)) : cMV l yX8_tellInt cX8_tellInt 3 0 0 v a b sz [.ref (a 208), .int x1, .int x2] F G F1 G1 := cMV.of (by decide) (Nat.le_of_ble_eq_true rfl) (fun p e R s m args below meth c Q A H locs ls C hw hl hret => cw_X8_tellInt_0 fu (res := (r, F1, G1)) C hret x1 x2 F G hm hw hl)
def cb_X8_firstWord_21 (fu : Nat) (z0 : Int32) (F : PF) (G : PG) : PR := some (z0, F, G)
def cb_X8_firstWord_11 (fu : Nat) (F : PF) (G : PG) : PR := cb_X8_firstWord_21 fu 0 F G
def cb_X8_firstWord_15 (fu : Nat) (x1 : Int32) (F : PF) (G : PG) : PR := if ixb x1 2000 = true then (cb_X8_firstWord_21 fu (G 86 x1.toNatClampNeg) F G) else none
def cb_X8_firstWord_4 (fu : Nat) (x1 : Int32) (F : PF) (G : PG) : PR := if x1 < (2000 : Int32) then cb_X8_firstWord_15 fu x1 F G else cb_X8_firstWord_11 fu F G
def cb_X8_firstWord_0 (fu : Nat) (x1 : Int32) (F : PF) (G : PG) : PR := if x1 < (0 : Int32) then cb_X8_firstWord_11 fu F G else cb_X8_firstWord_4 fu x1 F G
def cf_X8_firstWord (fu : Nat) (x1 : Int32) (F : PF) (G : PG) : PR := cb_X8_firstWord_0 fu x1 F G
theorem cn_X8_firstWord_21 (fu : Nat) {res : Int32 × PF × PG} (z0 : Int32) (F : PF) (G : PG) (hm : cb_X8_firstWord_21 fu z0 F G = some res) : xn F ≤ xn res.2.1 := by
  unfold cb_X8_firstWord_21 at hm
  obtain rfl := Option.some.inj hm
  exact Nat.le_refl _
theorem cw_X8_firstWord_21 (fu : Nat) {res : Int32 × PF × PG} (C : cMC p R s m args c A v RX8 cX8_firstWord 2 0 0 (xn res.2.1 - xn K0)) (hret : ∀ (b1 : Nat) (H1 : Heap) (locs1 : List Loc) (ls1 : Array Slot) (pc : Nat), cMW s A v a b1 K0 res.2.1 res.2.2 H1 locs1 → narrow .int (.int res.1) = .int res.1 → decode cX8_firstWord pc = .ok (.ireturn, 1) → W p l e R s m args below meth c H1 locs1 (xn res.2.1 - xn K0) (2 * (xn res.2.1 - xn K0)) Q (F0 m pc ls1 [.int res.1])) (z0 : Int32) (F : PF) (G : PG) (hm : cb_X8_firstWord_21 fu z0 F G = some res) {b : Nat} {H : Heap} {locs : List Loc} (hw : cMW s A v a b K0 F G H locs) {ls : Array Slot} (hl : lv_has ls 2 []) : W p l e R s m args below meth c H locs (xn F - xn K0) (2 * (xn F - xn K0)) Q (F0 m 21 ls [.int z0]) := by
  have hx := C.1
  have hb := C.2.1
  unfold cb_X8_firstWord_21 at hm
  obtain rfl := Option.some.inj hm
  exact hret _ _ _ _ _ hw rfl dX8_firstWord_21
theorem cn_X8_firstWord_11 (fu : Nat) {res : Int32 × PF × PG} (F : PF) (G : PG) (hm : cb_X8_firstWord_11 fu F G = some res) : xn F ≤ xn res.2.1 := by
  unfold cb_X8_firstWord_11 at hm
  exact (cn_X8_firstWord_21 fu 0 F G hm)
theorem cw_X8_firstWord_11 (fu : Nat) {res : Int32 × PF × PG} (C : cMC p R s m args c A v RX8 cX8_firstWord 2 0 0 (xn res.2.1 - xn K0)) (hret : ∀ (b1 : Nat) (H1 : Heap) (locs1 : List Loc) (ls1 : Array Slot) (pc : Nat), cMW s A v a b1 K0 res.2.1 res.2.2 H1 locs1 → narrow .int (.int res.1) = .int res.1 → decode cX8_firstWord pc = .ok (.ireturn, 1) → W p l e R s m args below meth c H1 locs1 (xn res.2.1 - xn K0) (2 * (xn res.2.1 - xn K0)) Q (F0 m pc ls1 [.int res.1])) (F : PF) (G : PG) (hm : cb_X8_firstWord_11 fu F G = some res) {b : Nat} {H : Heap} {locs : List Loc} (hw : cMW s A v a b K0 F G H locs) {ls : Array Slot} (hl : lv_has ls 2 []) : W p l e R s m args below meth c H locs (xn F - xn K0) (2 * (xn F - xn K0)) Q (F0 m 11 ls []) := by
  have hx := C.1
  have hb := C.2.1
  unfold cb_X8_firstWord_11 at hm
  refine lv_iconst (v := 0) hx hb dX8_firstWord_11 (by decide) ?_
  refine lv_goto (tgt := 21) hx hb dX8_firstWord_12 (by decide) ?_
  exact cw_X8_firstWord_21 fu C hret 0 F G hm hw (lv_sub hl [] rfl)
theorem cn_X8_firstWord_15 (fu : Nat) {res : Int32 × PF × PG} (x1 : Int32) (F : PF) (G : PG) (hm : cb_X8_firstWord_15 fu x1 F G = some res) : xn F ≤ xn res.2.1 := by
  unfold cb_X8_firstWord_15 at hm
  have hm := (ix_elim hm).2
  exact (cn_X8_firstWord_21 fu (G 86 x1.toNatClampNeg) F G hm)
theorem cw_X8_firstWord_15 (fu : Nat) {res : Int32 × PF × PG} (C : cMC p R s m args c A v RX8 cX8_firstWord 2 0 0 (xn res.2.1 - xn K0)) (hret : ∀ (b1 : Nat) (H1 : Heap) (locs1 : List Loc) (ls1 : Array Slot) (pc : Nat), cMW s A v a b1 K0 res.2.1 res.2.2 H1 locs1 → narrow .int (.int res.1) = .int res.1 → decode cX8_firstWord pc = .ok (.ireturn, 1) → W p l e R s m args below meth c H1 locs1 (xn res.2.1 - xn K0) (2 * (xn res.2.1 - xn K0)) Q (F0 m pc ls1 [.int res.1])) (x1 : Int32) (F : PF) (G : PG) (hm : cb_X8_firstWord_15 fu x1 F G = some res) {b : Nat} {H : Heap} {locs : List Loc} (hw : cMW s A v a b K0 F G H locs) {ls : Array Slot} (hl : lv_has ls 2 [(0, .ref (a 208)), (1, .int x1)]) : W p l e R s m args below meth c H locs (xn F - xn K0) (2 * (xn F - xn K0)) Q (F0 m 15 ls []) := by
  have hx := C.1
  have hb := C.2.1
  unfold cb_X8_firstWord_15 at hm
  refine lv_aload_n hx hb dX8_firstWord_15 rfl (lv_at hl 0 rfl) ?_
  refine cg_X8_36 C hw dX8_firstWord_16 ?_
  refine lv_iload_n hx hb dX8_firstWord_19 rfl (lv_at hl 1 rfl) ?_
  obtain ⟨hi, hm⟩ := ix_elim hm
  refine cal_86 C hw hi dX8_firstWord_20 ?_
  exact cw_X8_firstWord_21 fu C hret (G 86 x1.toNatClampNeg) F G hm hw (lv_sub hl [] rfl)
theorem cn_X8_firstWord_4 (fu : Nat) {res : Int32 × PF × PG} (x1 : Int32) (F : PF) (G : PG) (hm : cb_X8_firstWord_4 fu x1 F G = some res) : xn F ≤ xn res.2.1 := by
  unfold cb_X8_firstWord_4 at hm
  by_cases c_1 : x1 < (2000 : Int32)
  · have hm := (if_pos c_1).symm.trans hm
    exact (cn_X8_firstWord_15 fu x1 F G hm)
  · have hm := (if_neg c_1).symm.trans hm
    exact (cn_X8_firstWord_11 fu F G hm)
theorem cw_X8_firstWord_4 (fu : Nat) {res : Int32 × PF × PG} (C : cMC p R s m args c A v RX8 cX8_firstWord 2 0 0 (xn res.2.1 - xn K0)) (hret : ∀ (b1 : Nat) (H1 : Heap) (locs1 : List Loc) (ls1 : Array Slot) (pc : Nat), cMW s A v a b1 K0 res.2.1 res.2.2 H1 locs1 → narrow .int (.int res.1) = .int res.1 → decode cX8_firstWord pc = .ok (.ireturn, 1) → W p l e R s m args below meth c H1 locs1 (xn res.2.1 - xn K0) (2 * (xn res.2.1 - xn K0)) Q (F0 m pc ls1 [.int res.1])) (x1 : Int32) (F : PF) (G : PG) (hm : cb_X8_firstWord_4 fu x1 F G = some res) {b : Nat} {H : Heap} {locs : List Loc} (hw : cMW s A v a b K0 F G H locs) {ls : Array Slot} (hl : lv_has ls 2 [(0, .ref (a 208)), (1, .int x1)]) : W p l e R s m args below meth c H locs (xn F - xn K0) (2 * (xn F - xn K0)) Q (F0 m 4 ls []) := by
  have hx := C.1
  have hb := C.2.1
  unfold cb_X8_firstWord_4 at hm
  refine lv_iload_n hx hb dX8_firstWord_4 rfl (lv_at hl 1 rfl) ?_
  refine lv_sipush (v := 2000) hx hb dX8_firstWord_5 (by decide) ?_
  refine lv_icmp_lt (tgt := 15) hx hb dX8_firstWord_8 (by decide) (fun c_1 => ?_) (fun c_1 => ?_)
  · have hm := (if_pos c_1).symm.trans hm
    exact cw_X8_firstWord_15 fu C hret x1 F G hm hw (lv_sub hl [0, 1] rfl)
  · have hm := (if_neg c_1).symm.trans hm
    exact cw_X8_firstWord_11 fu C hret F G hm hw (lv_sub hl [] rfl)
theorem cn_X8_firstWord_0 (fu : Nat) {res : Int32 × PF × PG} (x1 : Int32) (F : PF) (G : PG) (hm : cb_X8_firstWord_0 fu x1 F G = some res) : xn F ≤ xn res.2.1 := by
  unfold cb_X8_firstWord_0 at hm
  by_cases c_1 : x1 < (0 : Int32)
  · have hm := (if_pos c_1).symm.trans hm
    exact (cn_X8_firstWord_11 fu F G hm)
  · have hm := (if_neg c_1).symm.trans hm
    exact (cn_X8_firstWord_4 fu x1 F G hm)
theorem cw_X8_firstWord_0 (fu : Nat) {res : Int32 × PF × PG} (C : cMC p R s m args c A v RX8 cX8_firstWord 2 0 0 (xn res.2.1 - xn K0)) (hret : ∀ (b1 : Nat) (H1 : Heap) (locs1 : List Loc) (ls1 : Array Slot) (pc : Nat), cMW s A v a b1 K0 res.2.1 res.2.2 H1 locs1 → narrow .int (.int res.1) = .int res.1 → decode cX8_firstWord pc = .ok (.ireturn, 1) → W p l e R s m args below meth c H1 locs1 (xn res.2.1 - xn K0) (2 * (xn res.2.1 - xn K0)) Q (F0 m pc ls1 [.int res.1])) (x1 : Int32) (F : PF) (G : PG) (hm : cb_X8_firstWord_0 fu x1 F G = some res) {b : Nat} {H : Heap} {locs : List Loc} (hw : cMW s A v a b K0 F G H locs) {ls : Array Slot} (hl : lv_has ls 2 [(0, .ref (a 208)), (1, .int x1)]) : W p l e R s m args below meth c H locs (xn F - xn K0) (2 * (xn F - xn K0)) Q (F0 m 0 ls []) := by
  have hx := C.1
  have hb := C.2.1
  unfold cb_X8_firstWord_0 at hm
  refine lv_iload_n hx hb dX8_firstWord_0 rfl (lv_at hl 1 rfl) ?_
  refine lv_if_lt (tgt := 11) hx hb dX8_firstWord_1 (by decide) (fun c_1 => ?_) (fun c_1 => ?_)
  · have hm := (if_pos c_1).symm.trans hm
    exact cw_X8_firstWord_11 fu C hret F G hm hw (lv_sub hl [] rfl)
  · have hm := (if_neg c_1).symm.trans hm
    exact cw_X8_firstWord_4 fu C hret x1 F G hm hw (lv_sub hl [0, 1] rfl)
theorem cn_X8_firstWord (fu : Nat) (x1 : Int32) (F : PF) (G : PG) (q : Int32 × PF × PG) (hm : cf_X8_firstWord fu x1 F G = some q) : xn F ≤ xn q.2.1 := cn_X8_firstWord_0 fu x1 F G hm
theorem ck_X8_firstWord (l : Launch) (v : EV) (a : Nat → Nat) (b sz : Nat) (fu : Nat) (x1 : Int32) (F : PF) (G : PG) (r : Int32) (F1 : PF) (G1 : PG) (hm : cf_X8_firstWord fu x1 F G = some (r, F1, G1)) : cMI l yX8_firstWord cX8_firstWord 2 (some .int) 0 0 v a b sz [.ref (a 208), .int x1] F G r F1 G1 := cMI.of (ty := .int) (by decide) rfl (Nat.le_of_ble_eq_true rfl) (fun p e R s m args below meth c Q A H locs ls C hw hl hret => cw_X8_firstWord_0 fu (res := (r, F1, G1)) C hret x1 F G hm hw hl)
def cb_X8_tellByte_45 (fu : Nat) (F : PF) (G : PG) : PR := some (0, F, G)
def cb_X8_tellByte_24 (fu : Nat) (x3 : Int32) (x5 : Int32) (z0 : Int32) (z1 : Int32) (F : PF) (G : PG) : PR := (cf_X8_tellInt fu z1 ((z0 &&& (((255 : Int32) <<< (x5 &&& 31)) ^^^ (-1 : Int32))) ||| ((x3 &&& (255 : Int32)) <<< (x5 &&& 31))) F G).bind (fun q => cb_X8_tellByte_45 fu q.2.1 q.2.2)
def cb_X8_tellByte_0 (fu : Nat) (x1 : Int32) (x2 : Int32) (x3 : Int32) (F : PF) (G : PG) : PR := (cf_X8_firstWord fu (x1 + (x2 >>> ((2 : Int32) &&& 31))) F G).bind (fun q => cb_X8_tellByte_24 fu x3 ((x2 &&& (3 : Int32)) * (8 : Int32)) q.1 (x1 + (x2 >>> ((2 : Int32) &&& 31))) q.2.1 q.2.2)
def cf_X8_tellByte (fu : Nat) (x1 : Int32) (x2 : Int32) (x3 : Int32) (F : PF) (G : PG) : PR := cb_X8_tellByte_0 fu x1 x2 x3 F G
theorem cn_X8_tellByte_45 (fu : Nat) {res : Int32 × PF × PG} (F : PF) (G : PG) (hm : cb_X8_tellByte_45 fu F G = some res) : xn F ≤ xn res.2.1 := by
  unfold cb_X8_tellByte_45 at hm
  obtain rfl := Option.some.inj hm
  exact Nat.le_refl _
theorem cw_X8_tellByte_45 (fu : Nat) {res : Int32 × PF × PG} (C : cMC p R s m args c A v RX8 cX8_tellByte 6 1 22 (xn res.2.1 - xn K0)) (hret : ∀ (b1 : Nat) (H1 : Heap) (locs1 : List Loc) (ls1 : Array Slot) (pc : Nat), cMW s A v a b1 K0 res.2.1 res.2.2 H1 locs1 → decode cX8_tellByte pc = .ok (.return_, 1) → W p l e R s m args below meth c H1 locs1 (xn res.2.1 - xn K0) (2 * (xn res.2.1 - xn K0)) Q (F0 m pc ls1 [])) (F : PF) (G : PG) (hm : cb_X8_tellByte_45 fu F G = some res) {b : Nat} {H : Heap} {locs : List Loc} (hw : cMW s A v a b K0 F G H locs) {ls : Array Slot} (hl : lv_has ls 6 []) : W p l e R s m args below meth c H locs (xn F - xn K0) (2 * (xn F - xn K0)) Q (F0 m 45 ls []) := by
  have hx := C.1
  have hb := C.2.1
  unfold cb_X8_tellByte_45 at hm
  obtain rfl := Option.some.inj hm
  exact hret _ _ _ _ _ hw dX8_tellByte_45
theorem cn_X8_tellByte_24 (fu : Nat) {res : Int32 × PF × PG} (x3 : Int32) (x5 : Int32) (z0 : Int32) (z1 : Int32) (F : PF) (G : PG) (hm : cb_X8_tellByte_24 fu x3 x5 z0 z1 F G = some res) : xn F ≤ xn res.2.1 := by
  unfold cb_X8_tellByte_24 at hm
  obtain ⟨⟨r1, F1, G1⟩, hc, hm⟩ := bind_elim hm
  exact Nat.le_trans (cn_X8_tellInt fu z1 ((z0 &&& (((255 : Int32) <<< (x5 &&& 31)) ^^^ (-1 : Int32))) ||| ((x3 &&& (255 : Int32)) <<< (x5 &&& 31))) F G _ hc) (cn_X8_tellByte_45 fu F1 G1 hm)
theorem cw_X8_tellByte_24 (fu : Nat) {res : Int32 × PF × PG} (C : cMC p R s m args c A v RX8 cX8_tellByte 6 1 22 (xn res.2.1 - xn K0)) (hret : ∀ (b1 : Nat) (H1 : Heap) (locs1 : List Loc) (ls1 : Array Slot) (pc : Nat), cMW s A v a b1 K0 res.2.1 res.2.2 H1 locs1 → decode cX8_tellByte pc = .ok (.return_, 1) → W p l e R s m args below meth c H1 locs1 (xn res.2.1 - xn K0) (2 * (xn res.2.1 - xn K0)) Q (F0 m pc ls1 [])) (x3 : Int32) (x5 : Int32) (z0 : Int32) (z1 : Int32) (F : PF) (G : PG) (hm : cb_X8_tellByte_24 fu x3 x5 z0 z1 F G = some res) {b : Nat} {H : Heap} {locs : List Loc} (hw : cMW s A v a b K0 F G H locs) {ls : Array Slot} (hl : lv_has ls 6 [(3, .int x3), (5, .int x5)]) : W p l e R s m args below meth c H locs (xn F - xn K0) (2 * (xn F - xn K0)) Q (F0 m 24 ls [.int z0, .int z1, .ref (a 208)]) := by
  have hx := C.1
  have hb := C.2.1
  unfold cb_X8_tellByte_24 at hm
  refine lv_sipush (v := 255) hx hb dX8_tellByte_24 (by decide) ?_
  refine lv_iload hx hb dX8_tellByte_27 (lv_at hl 1 rfl) ?_
  refine lv_ishl hx hb dX8_tellByte_29 ?_
  refine lv_iconst (v := (-1)) hx hb dX8_tellByte_30 (by decide) ?_
  refine lv_ixor hx hb dX8_tellByte_31 ?_
  refine lv_iand hx hb dX8_tellByte_32 ?_
  refine lv_iload_n hx hb dX8_tellByte_33 rfl (lv_at hl 0 rfl) ?_
  refine lv_sipush (v := 255) hx hb dX8_tellByte_34 (by decide) ?_
  refine lv_iand hx hb dX8_tellByte_37 ?_
  refine lv_iload hx hb dX8_tellByte_38 (lv_at hl 1 rfl) ?_
  refine lv_ishl hx hb dX8_tellByte_40 ?_
  refine lv_ior hx hb dX8_tellByte_41 ?_
  obtain ⟨⟨r1, F1, G1⟩, hc, hm⟩ := bind_elim hm
  refine ccallV (n := 2) (As := [.int z1, .int ((z0 &&& (((255 : Int32) <<< (x5 &&& 31)) ^^^ (-1 : Int32))) ||| ((x3 &&& (255 : Int32)) <<< (x5 &&& 31)))]) (rest := []) C hw (ck_X8_tellInt l v a _ _ fu z1 ((z0 &&& (((255 : Int32) <<< (x5 &&& 31)) ^^^ (-1 : Int32))) ||| ((x3 &&& (255 : Int32)) <<< (x5 &&& 31))) F G r1 F1 G1 hc) (cn_X8_tellInt fu z1 ((z0 &&& (((255 : Int32) <<< (x5 &&& 31)) ^^^ (-1 : Int32))) ||| ((x3 &&& (255 : Int32)) <<< (x5 &&& 31))) F G _ hc) (Nat.sub_le_sub_right (cn_X8_tellByte_45 fu F1 G1 hm) _) (crecv_X8 C hw) cm_787 cm_776 cm_777 cm_254 cm_778 (by decide +kernel) rfl (by omega) (by omega) hl.1 rfl (Nat.le_of_ble_eq_true rfl) dX8_tellByte_42 (fun b H locs hw => ?_)
  exact cw_X8_tellByte_45 fu C hret F1 G1 hm hw (lv_sub hl [] rfl)
theorem cn_X8_tellByte_0 (fu : Nat) {res : Int32 × PF × PG} (x1 : Int32) (x2 : Int32) (x3 : Int32) (F : PF) (G : PG) (hm : cb_X8_tellByte_0 fu x1 x2 x3 F G = some res) : xn F ≤ xn res.2.1 := by
  unfold cb_X8_tellByte_0 at hm
  obtain ⟨⟨r1, F1, G1⟩, hc, hm⟩ := bind_elim hm
  exact Nat.le_trans (cn_X8_firstWord fu (x1 + (x2 >>> ((2 : Int32) &&& 31))) F G _ hc) (cn_X8_tellByte_24 fu x3 ((x2 &&& (3 : Int32)) * (8 : Int32)) r1 (x1 + (x2 >>> ((2 : Int32) &&& 31))) F1 G1 hm)
theorem cw_X8_tellByte_0 (fu : Nat) {res : Int32 × PF × PG} (C : cMC p R s m args c A v RX8 cX8_tellByte 6 1 22 (xn res.2.1 - xn K0)) (hret : ∀ (b1 : Nat) (H1 : Heap) (locs1 : List Loc) (ls1 : Array Slot) (pc : Nat), cMW s A v a b1 K0 res.2.1 res.2.2 H1 locs1 → decode cX8_tellByte pc = .ok (.return_, 1) → W p l e R s m args below meth c H1 locs1 (xn res.2.1 - xn K0) (2 * (xn res.2.1 - xn K0)) Q (F0 m pc ls1 [])) (x1 : Int32) (x2 : Int32) (x3 : Int32) (F : PF) (G : PG) (hm : cb_X8_tellByte_0 fu x1 x2 x3 F G = some res) {b : Nat} {H : Heap} {locs : List Loc} (hw : cMW s A v a b K0 F G H locs) {ls : Array Slot} (hl : lv_has ls 6 [(0, .ref (a 208)), (1, .int x1), (2, .int x2), (3, .int x3)]) : W p l e R s m args below meth c H locs (xn F - xn K0) (2 * (xn F - xn K0)) Q (F0 m 0 ls []) := by
  have hx := C.1
  have hb := C.2.1
  unfold cb_X8_tellByte_0 at hm
  refine lv_iload_n hx hb dX8_tellByte_0 rfl (lv_at hl 1 rfl) ?_
  refine lv_iload_n hx hb dX8_tellByte_1 rfl (lv_at hl 2 rfl) ?_
  refine lv_iconst (v := 2) hx hb dX8_tellByte_2 (by decide) ?_
  refine lv_ishr hx hb dX8_tellByte_3 ?_
  refine lv_iadd hx hb dX8_tellByte_4 ?_
  refine lv_istore (lv' := [(4, .int (x1 + (x2 >>> ((2 : Int32) &&& 31)))), (0, .ref (a 208)), (1, .int x1), (2, .int x2), (3, .int x3)]) hx hb dX8_tellByte_5 hl (by decide) rfl (fun ls hl => ?_)
  refine lv_iload_n hx hb dX8_tellByte_7 rfl (lv_at hl 3 rfl) ?_
  refine lv_iconst (v := 3) hx hb dX8_tellByte_8 (by decide) ?_
  refine lv_iand hx hb dX8_tellByte_9 ?_
  refine lv_bipush (v := 8) hx hb dX8_tellByte_10 (by decide) ?_
  refine lv_imul hx hb dX8_tellByte_12 ?_
  refine lv_istore (lv' := [(5, .int ((x2 &&& (3 : Int32)) * (8 : Int32))), (4, .int (x1 + (x2 >>> ((2 : Int32) &&& 31)))), (0, .ref (a 208)), (1, .int x1), (2, .int x2), (3, .int x3)]) hx hb dX8_tellByte_13 hl (by decide) rfl (fun ls hl => ?_)
  refine lv_aload_n hx hb dX8_tellByte_15 rfl (lv_at hl 2 rfl) ?_
  refine lv_iload hx hb dX8_tellByte_16 (lv_at hl 1 rfl) ?_
  refine lv_aload_n hx hb dX8_tellByte_18 rfl (lv_at hl 2 rfl) ?_
  refine lv_iload hx hb dX8_tellByte_19 (lv_at hl 1 rfl) ?_
  obtain ⟨⟨r1, F1, G1⟩, hc, hm⟩ := bind_elim hm
  refine ccallI (n := 1) (As := [.int (x1 + (x2 >>> ((2 : Int32) &&& 31)))]) (rest := [.int (x1 + (x2 >>> ((2 : Int32) &&& 31))), .ref (a 208)]) C hw (ck_X8_firstWord l v a _ _ fu (x1 + (x2 >>> ((2 : Int32) &&& 31))) F G r1 F1 G1 hc) (cn_X8_firstWord fu (x1 + (x2 >>> ((2 : Int32) &&& 31))) F G _ hc) (Nat.sub_le_sub_right (cn_X8_tellByte_24 fu x3 ((x2 &&& (3 : Int32)) * (8 : Int32)) r1 (x1 + (x2 >>> ((2 : Int32) &&& 31))) F1 G1 hm) _) (crecv_X8 C hw) cm_783 cm_784 cm_785 cm_254 cm_786 (by decide +kernel) rfl (by omega) (by omega) hl.1 rfl (Nat.le_of_ble_eq_true rfl) dX8_tellByte_21 (fun b H locs hw => ?_)
  exact cw_X8_tellByte_24 fu C hret x3 ((x2 &&& (3 : Int32)) * (8 : Int32)) r1 (x1 + (x2 >>> ((2 : Int32) &&& 31))) F1 G1 hm hw (lv_sub hl [5, 0] rfl)
theorem cn_X8_tellByte (fu : Nat) (x1 : Int32) (x2 : Int32) (x3 : Int32) (F : PF) (G : PG) (q : Int32 × PF × PG) (hm : cf_X8_tellByte fu x1 x2 x3 F G = some q) : xn F ≤ xn q.2.1 := cn_X8_tellByte_0 fu x1 x2 x3 F G hm
theorem ck_X8_tellByte (l : Launch) (v : EV) (a : Nat → Nat) (b sz : Nat) (fu : Nat) (x1 : Int32) (x2 : Int32) (x3 : Int32) (F : PF) (G : PG) (r : Int32) (F1 : PF) (G1 : PG) (hm : cf_X8_tellByte fu x1 x2 x3 F G = some (r, F1, G1)) : cMV l yX8_tellByte cX8_tellByte 6 1 22 v a b sz [.ref (a 208), .int x1, .int x2, .int x3] F G F1 G1 := cMV.of (by decide) (Nat.le_of_ble_eq_true rfl) (fun p e R s m args below meth c Q A H locs ls C hw hl hret => cw_X8_tellByte_0 fu (res := (r, F1, G1)) C hret x1 x2 x3 F G hm hw hl)
def cb_X4_elements_149 (fu : Nat) (F : PF) (G : PG) : PR := some (0, F, G)
def cb_X4_elements_140 (fu : Nat) (F : PF) (G : PG) : PR := (cf_X2_closesWith fu 24 F G).bind (fun q => cb_X4_elements_149 fu q.2.1 q.2.2)
def cb_X4_elements_134 (fu : Nat) (ag_19 : Int32 → Int32 → Int32 → Int32 → Int32 → PF → PG → PR) (x1 : Int32) (x2 : Int32) (x3 : Int32) (x4 : Int32) (x5 : Int32) (F : PF) (G : PG) : PR := ag_19 x1 x2 x3 x4 (x5 + 1) F G
def cb_X4_elements_127 (fu : Nat) (ag_19 : Int32 → Int32 → Int32 → Int32 → Int32 → PF → PG → PR) (x1 : Int32) (x2 : Int32) (x3 : Int32) (x4 : Int32) (x5 : Int32) (F : PF) (G : PG) : PR := (cf_X2_next fu F G).bind (fun q => cb_X4_elements_134 fu ag_19 x1 x2 x3 x4 x5 q.2.1 q.2.2)
def cb_X4_elements_120 (fu : Nat) (ag_19 : Int32 → Int32 → Int32 → Int32 → Int32 → PF → PG → PR) (x1 : Int32) (x2 : Int32) (x3 : Int32) (x5 : Int32) (z0 : Int32) (F : PF) (G : PG) : PR := if z0 = (0 : Int32) then cb_X4_elements_134 fu ag_19 x1 x2 x3 z0 x5 F G else cb_X4_elements_127 fu ag_19 x1 x2 x3 z0 x5 F G
def cb_X4_elements_119 (fu : Nat) (ag_19 : Int32 → Int32 → Int32 → Int32 → Int32 → PF → PG → PR) (x1 : Int32) (x2 : Int32) (x3 : Int32) (x5 : Int32) (F : PF) (G : PG) : PR := cb_X4_elements_120 fu ag_19 x1 x2 x3 x5 0 F G
def cb_X4_elements_115 (fu : Nat) (ag_19 : Int32 → Int32 → Int32 → Int32 → Int32 → PF → PG → PR) (x1 : Int32) (x2 : Int32) (x3 : Int32) (x5 : Int32) (F : PF) (G : PG) : PR := cb_X4_elements_120 fu ag_19 x1 x2 x3 x5 1 F G
def cb_X4_elements_103 (fu : Nat) (ag_19 : Int32 → Int32 → Int32 → Int32 → Int32 → PF → PG → PR) (x1 : Int32) (x2 : Int32) (x3 : Int32) (x5 : Int32) (F : PF) (G : PG) : PR := if (F 11) = (25 : Int32) then cb_X4_elements_115 fu ag_19 x1 x2 x3 x5 F G else cb_X4_elements_119 fu ag_19 x1 x2 x3 x5 F G
def cb_X4_elements_91 (fu : Nat) (ag_19 : Int32 → Int32 → Int32 → Int32 → Int32 → PF → PG → PR) (x1 : Int32) (x2 : Int32) (x3 : Int32) (x5 : Int32) (x7 : Int32) (F : PF) (G : PG) : PR := (cf_X8_tellByte fu x2 x5 x7 F G).bind (fun q => cb_X4_elements_103 fu ag_19 x1 x2 x3 x5 q.2.1 q.2.2)
def cb_X4_elements_88 (fu : Nat) (ag_19 : Int32 → Int32 → Int32 → Int32 → Int32 → PF → PG → PR) (x1 : Int32) (x2 : Int32) (x3 : Int32) (x5 : Int32) (F : PF) (G : PG) : PR := cb_X4_elements_103 fu ag_19 x1 x2 x3 x5 F G
def cb_X4_elements_75 (fu : Nat) (ag_19 : Int32 → Int32 → Int32 → Int32 → Int32 → PF → PG → PR) (x1 : Int32) (x2 : Int32) (x3 : Int32) (x5 : Int32) (x7 : Int32) (F : PF) (G : PG) : PR := (cf_X8_tellInt fu (x2 + x5) x7 F G).bind (fun q => cb_X4_elements_88 fu ag_19 x1 x2 x3 x5 q.2.1 q.2.2)
def cb_X4_elements_70 (fu : Nat) (ag_19 : Int32 → Int32 → Int32 → Int32 → Int32 → PF → PG → PR) (x1 : Int32) (x2 : Int32) (x3 : Int32) (x5 : Int32) (x7 : Int32) (F : PF) (G : PG) : PR := if x1 = (2 : Int32) then cb_X4_elements_75 fu ag_19 x1 x2 x3 x5 x7 F G else cb_X4_elements_91 fu ag_19 x1 x2 x3 x5 x7 F G
def cb_X4_elements_67 (fu : Nat) (ag_19 : Int32 → Int32 → Int32 → Int32 → Int32 → PF → PG → PR) (x1 : Int32) (x2 : Int32) (x3 : Int32) (x5 : Int32) (F : PF) (G : PG) : PR := cb_X4_elements_103 fu ag_19 x1 x2 x3 x5 F G
def cb_X4_elements_56 (fu : Nat) (ag_19 : Int32 → Int32 → Int32 → Int32 → Int32 → PF → PG → PR) (x1 : Int32) (x2 : Int32) (x3 : Int32) (x5 : Int32) (x6 : Int32) (F : PF) (G : PG) : PR := (cf_X5_note fu 7 x6 F G).bind (fun q => cb_X4_elements_67 fu ag_19 x1 x2 x3 x5 q.2.1 q.2.2)
def cb_X4_elements_48 (fu : Nat) (ag_19 : Int32 → Int32 → Int32 → Int32 → Int32 → PF → PG → PR) (x1 : Int32) (x2 : Int32) (x3 : Int32) (x5 : Int32) (x6 : Int32) (z0 : Int32) (F : PF) (G : PG) : PR := if x5 < x3 then cb_X4_elements_70 fu ag_19 x1 x2 x3 x5 z0 F G else cb_X4_elements_56 fu ag_19 x1 x2 x3 x5 x6 F G
def cb_X4_elements_32 (fu : Nat) (ag_19 : Int32 → Int32 → Int32 → Int32 → Int32 → PF → PG → PR) (x1 : Int32) (x2 : Int32) (x3 : Int32) (x5 : Int32) (F : PF) (G : PG) : PR := (cf_X3_constant fu F G).bind (fun q => cb_X4_elements_48 fu ag_19 x1 x2 x3 x5 (F 13) q.1 q.2.1 q.2.2)
def cb_X4_elements_27 (fu : Nat) (ag_19 : Int32 → Int32 → Int32 → Int32 → Int32 → PF → PG → PR) (x1 : Int32) (x2 : Int32) (x3 : Int32) (x4 : Int32) (x5 : Int32) (F : PF) (G : PG) : PR := if x4 = (0 : Int32) then cb_X4_elements_140 fu F G else cb_X4_elements_32 fu ag_19 x1 x2 x3 x5 F G
def cb_X4_elements_19 (fu : Nat) (ag_19 : Int32 → Int32 → Int32 → Int32 → Int32 → PF → PG → PR) (x1 : Int32) (x2 : Int32) (x3 : Int32) (x4 : Int32) (x5 : Int32) (F : PF) (G : PG) : PR := if (4001 : Int32) ≤ x5 then cb_X4_elements_140 fu F G else cb_X4_elements_27 fu ag_19 x1 x2 x3 x4 x5 F G
def cl_X4_elements_19 (fu : Nat) : Nat → Int32 → Int32 → Int32 → Int32 → Int32 → PF → PG → PR
  | 0 => fun _ _ _ _ _ _ _ => none
  | n + 1 => fun x1 x2 x3 x4 x5 F G => cb_X4_elements_19 fu (cl_X4_elements_19 fu n) x1 x2 x3 x4 x5 F G
def cb_X4_elements_13 (fu : Nat) (x1 : Int32) (x2 : Int32) (x3 : Int32) (F : PF) (G : PG) : PR := cl_X4_elements_19 fu fu x1 x2 x3 1 0 F G
def cb_X4_elements_12 (fu : Nat) (F : PF) (G : PG) : PR := some (0, F, G)
def cb_X4_elements_9 (fu : Nat) (x1 : Int32) (x2 : Int32) (x3 : Int32) (z0 : Int32) (F : PF) (G : PG) : PR := if z0 = (0 : Int32) then cb_X4_elements_12 fu F G else cb_X4_elements_13 fu x1 x2 x3 F G
def cb_X4_elements_0 (fu : Nat) (x1 : Int32) (x2 : Int32) (x3 : Int32) (F : PF) (G : PG) : PR := (cf_X2_opens fu 23 F G).bind (fun q => cb_X4_elements_9 fu x1 x2 x3 q.1 q.2.1 q.2.2)
def cf_X4_elements (fu : Nat) (x1 : Int32) (x2 : Int32) (x3 : Int32) (F : PF) (G : PG) : PR := cb_X4_elements_0 fu x1 x2 x3 F G
theorem cn_X4_elements_149 (fu : Nat) {res : Int32 × PF × PG} (F : PF) (G : PG) (hm : cb_X4_elements_149 fu F G = some res) : xn F ≤ xn res.2.1 := by
  unfold cb_X4_elements_149 at hm
  obtain rfl := Option.some.inj hm
  exact Nat.le_refl _
theorem cw_X4_elements_149 (fu : Nat) {res : Int32 × PF × PG} (C : cMC p R s m args c A v RX4 cX4_elements 8 304 18093 (xn res.2.1 - xn K0)) (hret : ∀ (b1 : Nat) (H1 : Heap) (locs1 : List Loc) (ls1 : Array Slot) (pc : Nat), cMW s A v a b1 K0 res.2.1 res.2.2 H1 locs1 → decode cX4_elements pc = .ok (.return_, 1) → W p l e R s m args below meth c H1 locs1 (xn res.2.1 - xn K0) (2 * (xn res.2.1 - xn K0)) Q (F0 m pc ls1 [])) (F : PF) (G : PG) (hm : cb_X4_elements_149 fu F G = some res) {b : Nat} {H : Heap} {locs : List Loc} (hw : cMW s A v a b K0 F G H locs) {ls : Array Slot} (hl : lv_has ls 8 []) : W p l e R s m args below meth c H locs (xn F - xn K0) (2 * (xn F - xn K0)) Q (F0 m 149 ls []) := by
  have hx := C.1
  have hb := C.2.1
  unfold cb_X4_elements_149 at hm
  obtain rfl := Option.some.inj hm
  exact hret _ _ _ _ _ hw dX4_elements_149
theorem cn_X4_elements_140 (fu : Nat) {res : Int32 × PF × PG} (F : PF) (G : PG) (hm : cb_X4_elements_140 fu F G = some res) : xn F ≤ xn res.2.1 := by
  unfold cb_X4_elements_140 at hm
  obtain ⟨⟨r1, F1, G1⟩, hc, hm⟩ := bind_elim hm
  exact Nat.le_trans (cn_X2_closesWith fu 24 F G _ hc) (cn_X4_elements_149 fu F1 G1 hm)
theorem cw_X4_elements_140 (fu : Nat) {res : Int32 × PF × PG} (C : cMC p R s m args c A v RX4 cX4_elements 8 304 18093 (xn res.2.1 - xn K0)) (hret : ∀ (b1 : Nat) (H1 : Heap) (locs1 : List Loc) (ls1 : Array Slot) (pc : Nat), cMW s A v a b1 K0 res.2.1 res.2.2 H1 locs1 → decode cX4_elements pc = .ok (.return_, 1) → W p l e R s m args below meth c H1 locs1 (xn res.2.1 - xn K0) (2 * (xn res.2.1 - xn K0)) Q (F0 m pc ls1 [])) (F : PF) (G : PG) (hm : cb_X4_elements_140 fu F G = some res) {b : Nat} {H : Heap} {locs : List Loc} (hw : cMW s A v a b K0 F G H locs) {ls : Array Slot} (hl : lv_has ls 8 [(0, .ref (a 204))]) : W p l e R s m args below meth c H locs (xn F - xn K0) (2 * (xn F - xn K0)) Q (F0 m 140 ls []) := by
  have hx := C.1
  have hb := C.2.1
  unfold cb_X4_elements_140 at hm
  refine lv_aload_n hx hb dX4_elements_140 rfl (lv_at hl 0 rfl) ?_
  refine cg_X4_9 C hw dX4_elements_141 ?_
  refine lv_bipush (v := 24) hx hb dX4_elements_144 (by decide) ?_
  obtain ⟨⟨r1, F1, G1⟩, hc, hm⟩ := bind_elim hm
  refine ccallV (n := 1) (As := [.int 24]) (rest := []) C hw (ck_X2_closesWith l v a _ _ fu 24 F G r1 F1 G1 hc) (cn_X2_closesWith fu 24 F G _ hc) (Nat.sub_le_sub_right (cn_X4_elements_149 fu F1 G1 hm) _) (crecv_X2 C hw) cm_629 cm_459 cm_460 cm_307 cm_461 (by decide +kernel) rfl (by omega) (by omega) hl.1 rfl (Nat.le_of_ble_eq_true rfl) dX4_elements_146 (fun b H locs hw => ?_)
  exact cw_X4_elements_149 fu C hret F1 G1 hm hw (lv_sub hl [] rfl)
theorem cn_X4_elements_134 (fu : Nat) {res : Int32 × PF × PG} (ag_19 : Int32 → Int32 → Int32 → Int32 → Int32 → PF → PG → PR) (hagn_19 : ∀ (x1 : Int32) (x2 : Int32) (x3 : Int32) (x4 : Int32) (x5 : Int32) (F : PF) (G : PG), ag_19 x1 x2 x3 x4 x5 F G = some res → xn F ≤ xn res.2.1) (x1 : Int32) (x2 : Int32) (x3 : Int32) (x4 : Int32) (x5 : Int32) (F : PF) (G : PG) (hm : cb_X4_elements_134 fu ag_19 x1 x2 x3 x4 x5 F G = some res) : xn F ≤ xn res.2.1 := by
  unfold cb_X4_elements_134 at hm
  exact (hagn_19 x1 x2 x3 x4 (x5 + 1) F G hm)
theorem cw_X4_elements_134 (fu : Nat) {res : Int32 × PF × PG} (C : cMC p R s m args c A v RX4 cX4_elements 8 304 18093 (xn res.2.1 - xn K0)) (hret : ∀ (b1 : Nat) (H1 : Heap) (locs1 : List Loc) (ls1 : Array Slot) (pc : Nat), cMW s A v a b1 K0 res.2.1 res.2.2 H1 locs1 → decode cX4_elements pc = .ok (.return_, 1) → W p l e R s m args below meth c H1 locs1 (xn res.2.1 - xn K0) (2 * (xn res.2.1 - xn K0)) Q (F0 m pc ls1 [])) (ag_19 : Int32 → Int32 → Int32 → Int32 → Int32 → PF → PG → PR) (hag_19 : ∀ (x1 : Int32) (x2 : Int32) (x3 : Int32) (x4 : Int32) (x5 : Int32) (F : PF) (G : PG), ag_19 x1 x2 x3 x4 x5 F G = some res → ∀ (b : Nat) (H : Heap) (locs : List Loc) (ls : Array Slot), cMW s A v a b K0 F G H locs → lv_has ls 8 [(0, .ref (a 204)), (1, .int x1), (2, .int x2), (3, .int x3), (4, .int x4), (5, .int x5)] → W p l e R s m args below meth c H locs (xn F - xn K0) (2 * (xn F - xn K0)) Q (F0 m 19 ls [])) (hagn_19 : ∀ (x1 : Int32) (x2 : Int32) (x3 : Int32) (x4 : Int32) (x5 : Int32) (F : PF) (G : PG), ag_19 x1 x2 x3 x4 x5 F G = some res → xn F ≤ xn res.2.1) (x1 : Int32) (x2 : Int32) (x3 : Int32) (x4 : Int32) (x5 : Int32) (F : PF) (G : PG) (hm : cb_X4_elements_134 fu ag_19 x1 x2 x3 x4 x5 F G = some res) {b : Nat} {H : Heap} {locs : List Loc} (hw : cMW s A v a b K0 F G H locs) {ls : Array Slot} (hl : lv_has ls 8 [(0, .ref (a 204)), (1, .int x1), (2, .int x2), (3, .int x3), (4, .int x4), (5, .int x5)]) : W p l e R s m args below meth c H locs (xn F - xn K0) (2 * (xn F - xn K0)) Q (F0 m 134 ls []) := by
  have hx := C.1
  have hb := C.2.1
  unfold cb_X4_elements_134 at hm
  refine lv_iinc (v := (x5 + 1)) (lv' := [(5, .int (x5 + 1)), (0, .ref (a 204)), (1, .int x1), (2, .int x2), (3, .int x3), (4, .int x4)]) hx hb dX4_elements_134 hl (k := 5) rfl (by rfl) (by decide) rfl (fun ls hl => ?_)
  refine lv_goto (tgt := 19) hx hb dX4_elements_137 (by decide) ?_
  exact hag_19 x1 x2 x3 x4 (x5 + 1) F G hm _ _ _ _ hw (lv_sub hl [1, 2, 3, 4, 5, 0] rfl)
theorem cn_X4_elements_127 (fu : Nat) {res : Int32 × PF × PG} (ag_19 : Int32 → Int32 → Int32 → Int32 → Int32 → PF → PG → PR) (hagn_19 : ∀ (x1 : Int32) (x2 : Int32) (x3 : Int32) (x4 : Int32) (x5 : Int32) (F : PF) (G : PG), ag_19 x1 x2 x3 x4 x5 F G = some res → xn F ≤ xn res.2.1) (x1 : Int32) (x2 : Int32) (x3 : Int32) (x4 : Int32) (x5 : Int32) (F : PF) (G : PG) (hm : cb_X4_elements_127 fu ag_19 x1 x2 x3 x4 x5 F G = some res) : xn F ≤ xn res.2.1 := by
  unfold cb_X4_elements_127 at hm
  obtain ⟨⟨r1, F1, G1⟩, hc, hm⟩ := bind_elim hm
  exact Nat.le_trans (cn_X2_next fu F G _ hc) (cn_X4_elements_134 fu ag_19 hagn_19 x1 x2 x3 x4 x5 F1 G1 hm)
theorem cw_X4_elements_127 (fu : Nat) {res : Int32 × PF × PG} (C : cMC p R s m args c A v RX4 cX4_elements 8 304 18093 (xn res.2.1 - xn K0)) (hret : ∀ (b1 : Nat) (H1 : Heap) (locs1 : List Loc) (ls1 : Array Slot) (pc : Nat), cMW s A v a b1 K0 res.2.1 res.2.2 H1 locs1 → decode cX4_elements pc = .ok (.return_, 1) → W p l e R s m args below meth c H1 locs1 (xn res.2.1 - xn K0) (2 * (xn res.2.1 - xn K0)) Q (F0 m pc ls1 [])) (ag_19 : Int32 → Int32 → Int32 → Int32 → Int32 → PF → PG → PR) (hag_19 : ∀ (x1 : Int32) (x2 : Int32) (x3 : Int32) (x4 : Int32) (x5 : Int32) (F : PF) (G : PG), ag_19 x1 x2 x3 x4 x5 F G = some res → ∀ (b : Nat) (H : Heap) (locs : List Loc) (ls : Array Slot), cMW s A v a b K0 F G H locs → lv_has ls 8 [(0, .ref (a 204)), (1, .int x1), (2, .int x2), (3, .int x3), (4, .int x4), (5, .int x5)] → W p l e R s m args below meth c H locs (xn F - xn K0) (2 * (xn F - xn K0)) Q (F0 m 19 ls [])) (hagn_19 : ∀ (x1 : Int32) (x2 : Int32) (x3 : Int32) (x4 : Int32) (x5 : Int32) (F : PF) (G : PG), ag_19 x1 x2 x3 x4 x5 F G = some res → xn F ≤ xn res.2.1) (x1 : Int32) (x2 : Int32) (x3 : Int32) (x4 : Int32) (x5 : Int32) (F : PF) (G : PG) (hm : cb_X4_elements_127 fu ag_19 x1 x2 x3 x4 x5 F G = some res) {b : Nat} {H : Heap} {locs : List Loc} (hw : cMW s A v a b K0 F G H locs) {ls : Array Slot} (hl : lv_has ls 8 [(0, .ref (a 204)), (1, .int x1), (2, .int x2), (3, .int x3), (4, .int x4), (5, .int x5)]) : W p l e R s m args below meth c H locs (xn F - xn K0) (2 * (xn F - xn K0)) Q (F0 m 127 ls []) := by
  have hx := C.1
  have hb := C.2.1
  unfold cb_X4_elements_127 at hm
  refine lv_aload_n hx hb dX4_elements_127 rfl (lv_at hl 0 rfl) ?_
  refine cg_X4_9 C hw dX4_elements_128 ?_
  obtain ⟨⟨r1, F1, G1⟩, hc, hm⟩ := bind_elim hm
  refine ccallV (n := 0) (As := []) (rest := []) C hw (ck_X2_next l v a _ _ fu F G r1 F1 G1 hc) (cn_X2_next fu F G _ hc) (Nat.sub_le_sub_right (cn_X4_elements_134 fu ag_19 hagn_19 x1 x2 x3 x4 x5 F1 G1 hm) _) (crecv_X2 C hw) cm_320 cm_321 cm_322 cm_307 cm_323 (by decide +kernel) rfl (by omega) (by omega) hl.1 rfl (Nat.le_of_ble_eq_true rfl) dX4_elements_131 (fun b H locs hw => ?_)
  exact cw_X4_elements_134 fu C hret ag_19 hag_19 hagn_19 x1 x2 x3 x4 x5 F1 G1 hm hw (lv_sub hl [0, 1, 2, 3, 4, 5] rfl)
theorem cn_X4_elements_120 (fu : Nat) {res : Int32 × PF × PG} (ag_19 : Int32 → Int32 → Int32 → Int32 → Int32 → PF → PG → PR) (hagn_19 : ∀ (x1 : Int32) (x2 : Int32) (x3 : Int32) (x4 : Int32) (x5 : Int32) (F : PF) (G : PG), ag_19 x1 x2 x3 x4 x5 F G = some res → xn F ≤ xn res.2.1) (x1 : Int32) (x2 : Int32) (x3 : Int32) (x5 : Int32) (z0 : Int32) (F : PF) (G : PG) (hm : cb_X4_elements_120 fu ag_19 x1 x2 x3 x5 z0 F G = some res) : xn F ≤ xn res.2.1 := by
  unfold cb_X4_elements_120 at hm
  by_cases c_1 : z0 = (0 : Int32)
  · have hm := (if_pos c_1).symm.trans hm
    exact (cn_X4_elements_134 fu ag_19 hagn_19 x1 x2 x3 z0 x5 F G hm)
  · have hm := (if_neg c_1).symm.trans hm
    exact (cn_X4_elements_127 fu ag_19 hagn_19 x1 x2 x3 z0 x5 F G hm)
theorem cw_X4_elements_120 (fu : Nat) {res : Int32 × PF × PG} (C : cMC p R s m args c A v RX4 cX4_elements 8 304 18093 (xn res.2.1 - xn K0)) (hret : ∀ (b1 : Nat) (H1 : Heap) (locs1 : List Loc) (ls1 : Array Slot) (pc : Nat), cMW s A v a b1 K0 res.2.1 res.2.2 H1 locs1 → decode cX4_elements pc = .ok (.return_, 1) → W p l e R s m args below meth c H1 locs1 (xn res.2.1 - xn K0) (2 * (xn res.2.1 - xn K0)) Q (F0 m pc ls1 [])) (ag_19 : Int32 → Int32 → Int32 → Int32 → Int32 → PF → PG → PR) (hag_19 : ∀ (x1 : Int32) (x2 : Int32) (x3 : Int32) (x4 : Int32) (x5 : Int32) (F : PF) (G : PG), ag_19 x1 x2 x3 x4 x5 F G = some res → ∀ (b : Nat) (H : Heap) (locs : List Loc) (ls : Array Slot), cMW s A v a b K0 F G H locs → lv_has ls 8 [(0, .ref (a 204)), (1, .int x1), (2, .int x2), (3, .int x3), (4, .int x4), (5, .int x5)] → W p l e R s m args below meth c H locs (xn F - xn K0) (2 * (xn F - xn K0)) Q (F0 m 19 ls [])) (hagn_19 : ∀ (x1 : Int32) (x2 : Int32) (x3 : Int32) (x4 : Int32) (x5 : Int32) (F : PF) (G : PG), ag_19 x1 x2 x3 x4 x5 F G = some res → xn F ≤ xn res.2.1) (x1 : Int32) (x2 : Int32) (x3 : Int32) (x5 : Int32) (z0 : Int32) (F : PF) (G : PG) (hm : cb_X4_elements_120 fu ag_19 x1 x2 x3 x5 z0 F G = some res) {b : Nat} {H : Heap} {locs : List Loc} (hw : cMW s A v a b K0 F G H locs) {ls : Array Slot} (hl : lv_has ls 8 [(0, .ref (a 204)), (1, .int x1), (2, .int x2), (3, .int x3), (5, .int x5)]) : W p l e R s m args below meth c H locs (xn F - xn K0) (2 * (xn F - xn K0)) Q (F0 m 120 ls [.int z0]) := by
  have hx := C.1
  have hb := C.2.1
  unfold cb_X4_elements_120 at hm
  refine lv_istore (lv' := [(4, .int z0), (0, .ref (a 204)), (1, .int x1), (2, .int x2), (3, .int x3), (5, .int x5)]) hx hb dX4_elements_120 hl (by decide) rfl (fun ls hl => ?_)
  refine lv_iload hx hb dX4_elements_122 (lv_at hl 0 rfl) ?_
  refine lv_if_eq (tgt := 134) hx hb dX4_elements_124 (by decide) (fun c_1 => ?_) (fun c_1 => ?_)
  · have hm := (if_pos c_1).symm.trans hm
    exact cw_X4_elements_134 fu C hret ag_19 hag_19 hagn_19 x1 x2 x3 z0 x5 F G hm hw (lv_sub hl [1, 2, 3, 4, 0, 5] rfl)
  · have hm := (if_neg c_1).symm.trans hm
    exact cw_X4_elements_127 fu C hret ag_19 hag_19 hagn_19 x1 x2 x3 z0 x5 F G hm hw (lv_sub hl [1, 2, 3, 4, 0, 5] rfl)
theorem cn_X4_elements_119 (fu : Nat) {res : Int32 × PF × PG} (ag_19 : Int32 → Int32 → Int32 → Int32 → Int32 → PF → PG → PR) (hagn_19 : ∀ (x1 : Int32) (x2 : Int32) (x3 : Int32) (x4 : Int32) (x5 : Int32) (F : PF) (G : PG), ag_19 x1 x2 x3 x4 x5 F G = some res → xn F ≤ xn res.2.1) (x1 : Int32) (x2 : Int32) (x3 : Int32) (x5 : Int32) (F : PF) (G : PG) (hm : cb_X4_elements_119 fu ag_19 x1 x2 x3 x5 F G = some res) : xn F ≤ xn res.2.1 := by
  unfold cb_X4_elements_119 at hm
  exact (cn_X4_elements_120 fu ag_19 hagn_19 x1 x2 x3 x5 0 F G hm)
theorem cw_X4_elements_119 (fu : Nat) {res : Int32 × PF × PG} (C : cMC p R s m args c A v RX4 cX4_elements 8 304 18093 (xn res.2.1 - xn K0)) (hret : ∀ (b1 : Nat) (H1 : Heap) (locs1 : List Loc) (ls1 : Array Slot) (pc : Nat), cMW s A v a b1 K0 res.2.1 res.2.2 H1 locs1 → decode cX4_elements pc = .ok (.return_, 1) → W p l e R s m args below meth c H1 locs1 (xn res.2.1 - xn K0) (2 * (xn res.2.1 - xn K0)) Q (F0 m pc ls1 [])) (ag_19 : Int32 → Int32 → Int32 → Int32 → Int32 → PF → PG → PR) (hag_19 : ∀ (x1 : Int32) (x2 : Int32) (x3 : Int32) (x4 : Int32) (x5 : Int32) (F : PF) (G : PG), ag_19 x1 x2 x3 x4 x5 F G = some res → ∀ (b : Nat) (H : Heap) (locs : List Loc) (ls : Array Slot), cMW s A v a b K0 F G H locs → lv_has ls 8 [(0, .ref (a 204)), (1, .int x1), (2, .int x2), (3, .int x3), (4, .int x4), (5, .int x5)] → W p l e R s m args below meth c H locs (xn F - xn K0) (2 * (xn F - xn K0)) Q (F0 m 19 ls [])) (hagn_19 : ∀ (x1 : Int32) (x2 : Int32) (x3 : Int32) (x4 : Int32) (x5 : Int32) (F : PF) (G : PG), ag_19 x1 x2 x3 x4 x5 F G = some res → xn F ≤ xn res.2.1) (x1 : Int32) (x2 : Int32) (x3 : Int32) (x5 : Int32) (F : PF) (G : PG) (hm : cb_X4_elements_119 fu ag_19 x1 x2 x3 x5 F G = some res) {b : Nat} {H : Heap} {locs : List Loc} (hw : cMW s A v a b K0 F G H locs) {ls : Array Slot} (hl : lv_has ls 8 [(0, .ref (a 204)), (1, .int x1), (2, .int x2), (3, .int x3), (5, .int x5)]) : W p l e R s m args below meth c H locs (xn F - xn K0) (2 * (xn F - xn K0)) Q (F0 m 119 ls []) := by
  have hx := C.1
  have hb := C.2.1
  unfold cb_X4_elements_119 at hm
  refine lv_iconst (v := 0) hx hb dX4_elements_119 (by decide) ?_
  exact cw_X4_elements_120 fu C hret ag_19 hag_19 hagn_19 x1 x2 x3 x5 0 F G hm hw (lv_sub hl [0, 1, 2, 3, 4] rfl)
theorem cn_X4_elements_115 (fu : Nat) {res : Int32 × PF × PG} (ag_19 : Int32 → Int32 → Int32 → Int32 → Int32 → PF → PG → PR) (hagn_19 : ∀ (x1 : Int32) (x2 : Int32) (x3 : Int32) (x4 : Int32) (x5 : Int32) (F : PF) (G : PG), ag_19 x1 x2 x3 x4 x5 F G = some res → xn F ≤ xn res.2.1) (x1 : Int32) (x2 : Int32) (x3 : Int32) (x5 : Int32) (F : PF) (G : PG) (hm : cb_X4_elements_115 fu ag_19 x1 x2 x3 x5 F G = some res) : xn F ≤ xn res.2.1 := by
  unfold cb_X4_elements_115 at hm
  exact (cn_X4_elements_120 fu ag_19 hagn_19 x1 x2 x3 x5 1 F G hm)
theorem cw_X4_elements_115 (fu : Nat) {res : Int32 × PF × PG} (C : cMC p R s m args c A v RX4 cX4_elements 8 304 18093 (xn res.2.1 - xn K0)) (hret : ∀ (b1 : Nat) (H1 : Heap) (locs1 : List Loc) (ls1 : Array Slot) (pc : Nat), cMW s A v a b1 K0 res.2.1 res.2.2 H1 locs1 → decode cX4_elements pc = .ok (.return_, 1) → W p l e R s m args below meth c H1 locs1 (xn res.2.1 - xn K0) (2 * (xn res.2.1 - xn K0)) Q (F0 m pc ls1 [])) (ag_19 : Int32 → Int32 → Int32 → Int32 → Int32 → PF → PG → PR) (hag_19 : ∀ (x1 : Int32) (x2 : Int32) (x3 : Int32) (x4 : Int32) (x5 : Int32) (F : PF) (G : PG), ag_19 x1 x2 x3 x4 x5 F G = some res → ∀ (b : Nat) (H : Heap) (locs : List Loc) (ls : Array Slot), cMW s A v a b K0 F G H locs → lv_has ls 8 [(0, .ref (a 204)), (1, .int x1), (2, .int x2), (3, .int x3), (4, .int x4), (5, .int x5)] → W p l e R s m args below meth c H locs (xn F - xn K0) (2 * (xn F - xn K0)) Q (F0 m 19 ls [])) (hagn_19 : ∀ (x1 : Int32) (x2 : Int32) (x3 : Int32) (x4 : Int32) (x5 : Int32) (F : PF) (G : PG), ag_19 x1 x2 x3 x4 x5 F G = some res → xn F ≤ xn res.2.1) (x1 : Int32) (x2 : Int32) (x3 : Int32) (x5 : Int32) (F : PF) (G : PG) (hm : cb_X4_elements_115 fu ag_19 x1 x2 x3 x5 F G = some res) {b : Nat} {H : Heap} {locs : List Loc} (hw : cMW s A v a b K0 F G H locs) {ls : Array Slot} (hl : lv_has ls 8 [(0, .ref (a 204)), (1, .int x1), (2, .int x2), (3, .int x3), (5, .int x5)]) : W p l e R s m args below meth c H locs (xn F - xn K0) (2 * (xn F - xn K0)) Q (F0 m 115 ls []) := by
  have hx := C.1
  have hb := C.2.1
  unfold cb_X4_elements_115 at hm
  refine lv_iconst (v := 1) hx hb dX4_elements_115 (by decide) ?_
  refine lv_goto (tgt := 120) hx hb dX4_elements_116 (by decide) ?_
  exact cw_X4_elements_120 fu C hret ag_19 hag_19 hagn_19 x1 x2 x3 x5 1 F G hm hw (lv_sub hl [0, 1, 2, 3, 4] rfl)
theorem cn_X4_elements_103 (fu : Nat) {res : Int32 × PF × PG} (ag_19 : Int32 → Int32 → Int32 → Int32 → Int32 → PF → PG → PR) (hagn_19 : ∀ (x1 : Int32) (x2 : Int32) (x3 : Int32) (x4 : Int32) (x5 : Int32) (F : PF) (G : PG), ag_19 x1 x2 x3 x4 x5 F G = some res → xn F ≤ xn res.2.1) (x1 : Int32) (x2 : Int32) (x3 : Int32) (x5 : Int32) (F : PF) (G : PG) (hm : cb_X4_elements_103 fu ag_19 x1 x2 x3 x5 F G = some res) : xn F ≤ xn res.2.1 := by
  unfold cb_X4_elements_103 at hm
  by_cases c_1 : (F 11) = (25 : Int32)
  · have hm := (if_pos c_1).symm.trans hm
    exact (cn_X4_elements_115 fu ag_19 hagn_19 x1 x2 x3 x5 F G hm)
  · have hm := (if_neg c_1).symm.trans hm
    exact (cn_X4_elements_119 fu ag_19 hagn_19 x1 x2 x3 x5 F G hm)
theorem cw_X4_elements_103 (fu : Nat) {res : Int32 × PF × PG} (C : cMC p R s m args c A v RX4 cX4_elements 8 304 18093 (xn res.2.1 - xn K0)) (hret : ∀ (b1 : Nat) (H1 : Heap) (locs1 : List Loc) (ls1 : Array Slot) (pc : Nat), cMW s A v a b1 K0 res.2.1 res.2.2 H1 locs1 → decode cX4_elements pc = .ok (.return_, 1) → W p l e R s m args below meth c H1 locs1 (xn res.2.1 - xn K0) (2 * (xn res.2.1 - xn K0)) Q (F0 m pc ls1 [])) (ag_19 : Int32 → Int32 → Int32 → Int32 → Int32 → PF → PG → PR) (hag_19 : ∀ (x1 : Int32) (x2 : Int32) (x3 : Int32) (x4 : Int32) (x5 : Int32) (F : PF) (G : PG), ag_19 x1 x2 x3 x4 x5 F G = some res → ∀ (b : Nat) (H : Heap) (locs : List Loc) (ls : Array Slot), cMW s A v a b K0 F G H locs → lv_has ls 8 [(0, .ref (a 204)), (1, .int x1), (2, .int x2), (3, .int x3), (4, .int x4), (5, .int x5)] → W p l e R s m args below meth c H locs (xn F - xn K0) (2 * (xn F - xn K0)) Q (F0 m 19 ls [])) (hagn_19 : ∀ (x1 : Int32) (x2 : Int32) (x3 : Int32) (x4 : Int32) (x5 : Int32) (F : PF) (G : PG), ag_19 x1 x2 x3 x4 x5 F G = some res → xn F ≤ xn res.2.1) (x1 : Int32) (x2 : Int32) (x3 : Int32) (x5 : Int32) (F : PF) (G : PG) (hm : cb_X4_elements_103 fu ag_19 x1 x2 x3 x5 F G = some res) {b : Nat} {H : Heap} {locs : List Loc} (hw : cMW s A v a b K0 F G H locs) {ls : Array Slot} (hl : lv_has ls 8 [(0, .ref (a 204)), (1, .int x1), (2, .int x2), (3, .int x3), (5, .int x5)]) : W p l e R s m args below meth c H locs (xn F - xn K0) (2 * (xn F - xn K0)) Q (F0 m 103 ls []) := by
  have hx := C.1
  have hb := C.2.1
  unfold cb_X4_elements_103 at hm
  refine lv_aload_n hx hb dX4_elements_103 rfl (lv_at hl 0 rfl) ?_
  refine cg_X4_9 C hw dX4_elements_104 ?_
  refine cg_X4_52 C hw dX4_elements_107 ?_
  refine lv_bipush (v := 25) hx hb dX4_elements_110 (by decide) ?_
  refine lv_icmp_ne (tgt := 119) hx hb dX4_elements_112 (by decide) (fun c_1 => ?_) (fun c_1 => ?_)
  · have hm := (if_neg c_1).symm.trans hm
    exact cw_X4_elements_119 fu C hret ag_19 hag_19 hagn_19 x1 x2 x3 x5 F G hm hw (lv_sub hl [0, 1, 2, 3, 4] rfl)
  · have hm := (if_pos c_1).symm.trans hm
    exact cw_X4_elements_115 fu C hret ag_19 hag_19 hagn_19 x1 x2 x3 x5 F G hm hw (lv_sub hl [0, 1, 2, 3, 4] rfl)
theorem cn_X4_elements_91 (fu : Nat) {res : Int32 × PF × PG} (ag_19 : Int32 → Int32 → Int32 → Int32 → Int32 → PF → PG → PR) (hagn_19 : ∀ (x1 : Int32) (x2 : Int32) (x3 : Int32) (x4 : Int32) (x5 : Int32) (F : PF) (G : PG), ag_19 x1 x2 x3 x4 x5 F G = some res → xn F ≤ xn res.2.1) (x1 : Int32) (x2 : Int32) (x3 : Int32) (x5 : Int32) (x7 : Int32) (F : PF) (G : PG) (hm : cb_X4_elements_91 fu ag_19 x1 x2 x3 x5 x7 F G = some res) : xn F ≤ xn res.2.1 := by
  unfold cb_X4_elements_91 at hm
  obtain ⟨⟨r1, F1, G1⟩, hc, hm⟩ := bind_elim hm
  exact Nat.le_trans (cn_X8_tellByte fu x2 x5 x7 F G _ hc) (cn_X4_elements_103 fu ag_19 hagn_19 x1 x2 x3 x5 F1 G1 hm)
theorem cw_X4_elements_91 (fu : Nat) {res : Int32 × PF × PG} (C : cMC p R s m args c A v RX4 cX4_elements 8 304 18093 (xn res.2.1 - xn K0)) (hret : ∀ (b1 : Nat) (H1 : Heap) (locs1 : List Loc) (ls1 : Array Slot) (pc : Nat), cMW s A v a b1 K0 res.2.1 res.2.2 H1 locs1 → decode cX4_elements pc = .ok (.return_, 1) → W p l e R s m args below meth c H1 locs1 (xn res.2.1 - xn K0) (2 * (xn res.2.1 - xn K0)) Q (F0 m pc ls1 [])) (ag_19 : Int32 → Int32 → Int32 → Int32 → Int32 → PF → PG → PR) (hag_19 : ∀ (x1 : Int32) (x2 : Int32) (x3 : Int32) (x4 : Int32) (x5 : Int32) (F : PF) (G : PG), ag_19 x1 x2 x3 x4 x5 F G = some res → ∀ (b : Nat) (H : Heap) (locs : List Loc) (ls : Array Slot), cMW s A v a b K0 F G H locs → lv_has ls 8 [(0, .ref (a 204)), (1, .int x1), (2, .int x2), (3, .int x3), (4, .int x4), (5, .int x5)] → W p l e R s m args below meth c H locs (xn F - xn K0) (2 * (xn F - xn K0)) Q (F0 m 19 ls [])) (hagn_19 : ∀ (x1 : Int32) (x2 : Int32) (x3 : Int32) (x4 : Int32) (x5 : Int32) (F : PF) (G : PG), ag_19 x1 x2 x3 x4 x5 F G = some res → xn F ≤ xn res.2.1) (x1 : Int32) (x2 : Int32) (x3 : Int32) (x5 : Int32) (x7 : Int32) (F : PF) (G : PG) (hm : cb_X4_elements_91 fu ag_19 x1 x2 x3 x5 x7 F G = some res) {b : Nat} {H : Heap} {locs : List Loc} (hw : cMW s A v a b K0 F G H locs) {ls : Array Slot} (hl : lv_has ls 8 [(0, .ref (a 204)), (1, .int x1), (2, .int x2), (3, .int x3), (5, .int x5), (7, .int x7)]) : W p l e R s m args below meth c H locs (xn F - xn K0) (2 * (xn F - xn K0)) Q (F0 m 91 ls []) := by
  have hx := C.1
  have hb := C.2.1
  unfold cb_X4_elements_91 at hm
  refine lv_aload_n hx hb dX4_elements_91 rfl (lv_at hl 0 rfl) ?_
  refine cg_X4_23 C hw dX4_elements_92 ?_
  refine lv_iload_n hx hb dX4_elements_95 rfl (lv_at hl 2 rfl) ?_
  refine lv_iload hx hb dX4_elements_96 (lv_at hl 4 rfl) ?_
  refine lv_iload hx hb dX4_elements_98 (lv_at hl 5 rfl) ?_
  obtain ⟨⟨r1, F1, G1⟩, hc, hm⟩ := bind_elim hm
  refine ccallV (n := 3) (As := [.int x2, .int x5, .int x7]) (rest := []) C hw (ck_X8_tellByte l v a _ _ fu x2 x5 x7 F G r1 F1 G1 hc) (cn_X8_tellByte fu x2 x5 x7 F G _ hc) (Nat.sub_le_sub_right (cn_X4_elements_103 fu ag_19 hagn_19 x1 x2 x3 x5 F1 G1 hm) _) (crecv_X8 C hw) cm_779 cm_780 cm_781 cm_254 cm_782 (by decide +kernel) rfl (by omega) (by omega) hl.1 rfl (Nat.le_of_ble_eq_true rfl) dX4_elements_100 (fun b H locs hw => ?_)
  exact cw_X4_elements_103 fu C hret ag_19 hag_19 hagn_19 x1 x2 x3 x5 F1 G1 hm hw (lv_sub hl [0, 1, 2, 3, 4] rfl)
theorem cn_X4_elements_88 (fu : Nat) {res : Int32 × PF × PG} (ag_19 : Int32 → Int32 → Int32 → Int32 → Int32 → PF → PG → PR) (hagn_19 : ∀ (x1 : Int32) (x2 : Int32) (x3 : Int32) (x4 : Int32) (x5 : Int32) (F : PF) (G : PG), ag_19 x1 x2 x3 x4 x5 F G = some res → xn F ≤ xn res.2.1) (x1 : Int32) (x2 : Int32) (x3 : Int32) (x5 : Int32) (F : PF) (G : PG) (hm : cb_X4_elements_88 fu ag_19 x1 x2 x3 x5 F G = some res) : xn F ≤ xn res.2.1 := by
  unfold cb_X4_elements_88 at hm
  exact (cn_X4_elements_103 fu ag_19 hagn_19 x1 x2 x3 x5 F G hm)
theorem cw_X4_elements_88 (fu : Nat) {res : Int32 × PF × PG} (C : cMC p R s m args c A v RX4 cX4_elements 8 304 18093 (xn res.2.1 - xn K0)) (hret : ∀ (b1 : Nat) (H1 : Heap) (locs1 : List Loc) (ls1 : Array Slot) (pc : Nat), cMW s A v a b1 K0 res.2.1 res.2.2 H1 locs1 → decode cX4_elements pc = .ok (.return_, 1) → W p l e R s m args below meth c H1 locs1 (xn res.2.1 - xn K0) (2 * (xn res.2.1 - xn K0)) Q (F0 m pc ls1 [])) (ag_19 : Int32 → Int32 → Int32 → Int32 → Int32 → PF → PG → PR) (hag_19 : ∀ (x1 : Int32) (x2 : Int32) (x3 : Int32) (x4 : Int32) (x5 : Int32) (F : PF) (G : PG), ag_19 x1 x2 x3 x4 x5 F G = some res → ∀ (b : Nat) (H : Heap) (locs : List Loc) (ls : Array Slot), cMW s A v a b K0 F G H locs → lv_has ls 8 [(0, .ref (a 204)), (1, .int x1), (2, .int x2), (3, .int x3), (4, .int x4), (5, .int x5)] → W p l e R s m args below meth c H locs (xn F - xn K0) (2 * (xn F - xn K0)) Q (F0 m 19 ls [])) (hagn_19 : ∀ (x1 : Int32) (x2 : Int32) (x3 : Int32) (x4 : Int32) (x5 : Int32) (F : PF) (G : PG), ag_19 x1 x2 x3 x4 x5 F G = some res → xn F ≤ xn res.2.1) (x1 : Int32) (x2 : Int32) (x3 : Int32) (x5 : Int32) (F : PF) (G : PG) (hm : cb_X4_elements_88 fu ag_19 x1 x2 x3 x5 F G = some res) {b : Nat} {H : Heap} {locs : List Loc} (hw : cMW s A v a b K0 F G H locs) {ls : Array Slot} (hl : lv_has ls 8 [(0, .ref (a 204)), (1, .int x1), (2, .int x2), (3, .int x3), (5, .int x5)]) : W p l e R s m args below meth c H locs (xn F - xn K0) (2 * (xn F - xn K0)) Q (F0 m 88 ls []) := by
  have hx := C.1
  have hb := C.2.1
  unfold cb_X4_elements_88 at hm
  refine lv_goto (tgt := 103) hx hb dX4_elements_88 (by decide) ?_
  exact cw_X4_elements_103 fu C hret ag_19 hag_19 hagn_19 x1 x2 x3 x5 F G hm hw (lv_sub hl [0, 1, 2, 3, 4] rfl)
theorem cn_X4_elements_75 (fu : Nat) {res : Int32 × PF × PG} (ag_19 : Int32 → Int32 → Int32 → Int32 → Int32 → PF → PG → PR) (hagn_19 : ∀ (x1 : Int32) (x2 : Int32) (x3 : Int32) (x4 : Int32) (x5 : Int32) (F : PF) (G : PG), ag_19 x1 x2 x3 x4 x5 F G = some res → xn F ≤ xn res.2.1) (x1 : Int32) (x2 : Int32) (x3 : Int32) (x5 : Int32) (x7 : Int32) (F : PF) (G : PG) (hm : cb_X4_elements_75 fu ag_19 x1 x2 x3 x5 x7 F G = some res) : xn F ≤ xn res.2.1 := by
  unfold cb_X4_elements_75 at hm
  obtain ⟨⟨r1, F1, G1⟩, hc, hm⟩ := bind_elim hm
  exact Nat.le_trans (cn_X8_tellInt fu (x2 + x5) x7 F G _ hc) (cn_X4_elements_88 fu ag_19 hagn_19 x1 x2 x3 x5 F1 G1 hm)
theorem cw_X4_elements_75 (fu : Nat) {res : Int32 × PF × PG} (C : cMC p R s m args c A v RX4 cX4_elements 8 304 18093 (xn res.2.1 - xn K0)) (hret : ∀ (b1 : Nat) (H1 : Heap) (locs1 : List Loc) (ls1 : Array Slot) (pc : Nat), cMW s A v a b1 K0 res.2.1 res.2.2 H1 locs1 → decode cX4_elements pc = .ok (.return_, 1) → W p l e R s m args below meth c H1 locs1 (xn res.2.1 - xn K0) (2 * (xn res.2.1 - xn K0)) Q (F0 m pc ls1 [])) (ag_19 : Int32 → Int32 → Int32 → Int32 → Int32 → PF → PG → PR) (hag_19 : ∀ (x1 : Int32) (x2 : Int32) (x3 : Int32) (x4 : Int32) (x5 : Int32) (F : PF) (G : PG), ag_19 x1 x2 x3 x4 x5 F G = some res → ∀ (b : Nat) (H : Heap) (locs : List Loc) (ls : Array Slot), cMW s A v a b K0 F G H locs → lv_has ls 8 [(0, .ref (a 204)), (1, .int x1), (2, .int x2), (3, .int x3), (4, .int x4), (5, .int x5)] → W p l e R s m args below meth c H locs (xn F - xn K0) (2 * (xn F - xn K0)) Q (F0 m 19 ls [])) (hagn_19 : ∀ (x1 : Int32) (x2 : Int32) (x3 : Int32) (x4 : Int32) (x5 : Int32) (F : PF) (G : PG), ag_19 x1 x2 x3 x4 x5 F G = some res → xn F ≤ xn res.2.1) (x1 : Int32) (x2 : Int32) (x3 : Int32) (x5 : Int32) (x7 : Int32) (F : PF) (G : PG) (hm : cb_X4_elements_75 fu ag_19 x1 x2 x3 x5 x7 F G = some res) {b : Nat} {H : Heap} {locs : List Loc} (hw : cMW s A v a b K0 F G H locs) {ls : Array Slot} (hl : lv_has ls 8 [(0, .ref (a 204)), (1, .int x1), (2, .int x2), (3, .int x3), (5, .int x5), (7, .int x7)]) : W p l e R s m args below meth c H locs (xn F - xn K0) (2 * (xn F - xn K0)) Q (F0 m 75 ls []) := by
  have hx := C.1
  have hb := C.2.1
  unfold cb_X4_elements_75 at hm
  refine lv_aload_n hx hb dX4_elements_75 rfl (lv_at hl 0 rfl) ?_
  refine cg_X4_23 C hw dX4_elements_76 ?_
  refine lv_iload_n hx hb dX4_elements_79 rfl (lv_at hl 2 rfl) ?_
  refine lv_iload hx hb dX4_elements_80 (lv_at hl 4 rfl) ?_
  refine lv_iadd hx hb dX4_elements_82 ?_
  refine lv_iload hx hb dX4_elements_83 (lv_at hl 5 rfl) ?_
  obtain ⟨⟨r1, F1, G1⟩, hc, hm⟩ := bind_elim hm
  refine ccallV (n := 2) (As := [.int (x2 + x5), .int x7]) (rest := []) C hw (ck_X8_tellInt l v a _ _ fu (x2 + x5) x7 F G r1 F1 G1 hc) (cn_X8_tellInt fu (x2 + x5) x7 F G _ hc) (Nat.sub_le_sub_right (cn_X4_elements_88 fu ag_19 hagn_19 x1 x2 x3 x5 F1 G1 hm) _) (crecv_X8 C hw) cm_775 cm_776 cm_777 cm_254 cm_778 (by decide +kernel) rfl (by omega) (by omega) hl.1 rfl (Nat.le_of_ble_eq_true rfl) dX4_elements_85 (fun b H locs hw => ?_)
  exact cw_X4_elements_88 fu C hret ag_19 hag_19 hagn_19 x1 x2 x3 x5 F1 G1 hm hw (lv_sub hl [0, 1, 2, 3, 4] rfl)
theorem cn_X4_elements_70 (fu : Nat) {res : Int32 × PF × PG} (ag_19 : Int32 → Int32 → Int32 → Int32 → Int32 → PF → PG → PR) (hagn_19 : ∀ (x1 : Int32) (x2 : Int32) (x3 : Int32) (x4 : Int32) (x5 : Int32) (F : PF) (G : PG), ag_19 x1 x2 x3 x4 x5 F G = some res → xn F ≤ xn res.2.1) (x1 : Int32) (x2 : Int32) (x3 : Int32) (x5 : Int32) (x7 : Int32) (F : PF) (G : PG) (hm : cb_X4_elements_70 fu ag_19 x1 x2 x3 x5 x7 F G = some res) : xn F ≤ xn res.2.1 := by
  unfold cb_X4_elements_70 at hm
  by_cases c_1 : x1 = (2 : Int32)
  · have hm := (if_pos c_1).symm.trans hm
    exact (cn_X4_elements_75 fu ag_19 hagn_19 x1 x2 x3 x5 x7 F G hm)
  · have hm := (if_neg c_1).symm.trans hm
    exact (cn_X4_elements_91 fu ag_19 hagn_19 x1 x2 x3 x5 x7 F G hm)
theorem cw_X4_elements_70 (fu : Nat) {res : Int32 × PF × PG} (C : cMC p R s m args c A v RX4 cX4_elements 8 304 18093 (xn res.2.1 - xn K0)) (hret : ∀ (b1 : Nat) (H1 : Heap) (locs1 : List Loc) (ls1 : Array Slot) (pc : Nat), cMW s A v a b1 K0 res.2.1 res.2.2 H1 locs1 → decode cX4_elements pc = .ok (.return_, 1) → W p l e R s m args below meth c H1 locs1 (xn res.2.1 - xn K0) (2 * (xn res.2.1 - xn K0)) Q (F0 m pc ls1 [])) (ag_19 : Int32 → Int32 → Int32 → Int32 → Int32 → PF → PG → PR) (hag_19 : ∀ (x1 : Int32) (x2 : Int32) (x3 : Int32) (x4 : Int32) (x5 : Int32) (F : PF) (G : PG), ag_19 x1 x2 x3 x4 x5 F G = some res → ∀ (b : Nat) (H : Heap) (locs : List Loc) (ls : Array Slot), cMW s A v a b K0 F G H locs → lv_has ls 8 [(0, .ref (a 204)), (1, .int x1), (2, .int x2), (3, .int x3), (4, .int x4), (5, .int x5)] → W p l e R s m args below meth c H locs (xn F - xn K0) (2 * (xn F - xn K0)) Q (F0 m 19 ls [])) (hagn_19 : ∀ (x1 : Int32) (x2 : Int32) (x3 : Int32) (x4 : Int32) (x5 : Int32) (F : PF) (G : PG), ag_19 x1 x2 x3 x4 x5 F G = some res → xn F ≤ xn res.2.1) (x1 : Int32) (x2 : Int32) (x3 : Int32) (x5 : Int32) (x7 : Int32) (F : PF) (G : PG) (hm : cb_X4_elements_70 fu ag_19 x1 x2 x3 x5 x7 F G = some res) {b : Nat} {H : Heap} {locs : List Loc} (hw : cMW s A v a b K0 F G H locs) {ls : Array Slot} (hl : lv_has ls 8 [(0, .ref (a 204)), (1, .int x1), (2, .int x2), (3, .int x3), (5, .int x5), (7, .int x7)]) : W p l e R s m args below meth c H locs (xn F - xn K0) (2 * (xn F - xn K0)) Q (F0 m 70 ls []) := by
  have hx := C.1
  have hb := C.2.1
  unfold cb_X4_elements_70 at hm
  refine lv_iload_n hx hb dX4_elements_70 rfl (lv_at hl 1 rfl) ?_
  refine lv_iconst (v := 2) hx hb dX4_elements_71 (by decide) ?_
  refine lv_icmp_ne (tgt := 91) hx hb dX4_elements_72 (by decide) (fun c_1 => ?_) (fun c_1 => ?_)
  · have hm := (if_neg c_1).symm.trans hm
    exact cw_X4_elements_91 fu C hret ag_19 hag_19 hagn_19 x1 x2 x3 x5 x7 F G hm hw (lv_sub hl [0, 1, 2, 3, 4, 5] rfl)
  · have hm := (if_pos c_1).symm.trans hm
    exact cw_X4_elements_75 fu C hret ag_19 hag_19 hagn_19 x1 x2 x3 x5 x7 F G hm hw (lv_sub hl [0, 1, 2, 3, 4, 5] rfl)
theorem cn_X4_elements_67 (fu : Nat) {res : Int32 × PF × PG} (ag_19 : Int32 → Int32 → Int32 → Int32 → Int32 → PF → PG → PR) (hagn_19 : ∀ (x1 : Int32) (x2 : Int32) (x3 : Int32) (x4 : Int32) (x5 : Int32) (F : PF) (G : PG), ag_19 x1 x2 x3 x4 x5 F G = some res → xn F ≤ xn res.2.1) (x1 : Int32) (x2 : Int32) (x3 : Int32) (x5 : Int32) (F : PF) (G : PG) (hm : cb_X4_elements_67 fu ag_19 x1 x2 x3 x5 F G = some res) : xn F ≤ xn res.2.1 := by
  unfold cb_X4_elements_67 at hm
  exact (cn_X4_elements_103 fu ag_19 hagn_19 x1 x2 x3 x5 F G hm)
theorem cw_X4_elements_67 (fu : Nat) {res : Int32 × PF × PG} (C : cMC p R s m args c A v RX4 cX4_elements 8 304 18093 (xn res.2.1 - xn K0)) (hret : ∀ (b1 : Nat) (H1 : Heap) (locs1 : List Loc) (ls1 : Array Slot) (pc : Nat), cMW s A v a b1 K0 res.2.1 res.2.2 H1 locs1 → decode cX4_elements pc = .ok (.return_, 1) → W p l e R s m args below meth c H1 locs1 (xn res.2.1 - xn K0) (2 * (xn res.2.1 - xn K0)) Q (F0 m pc ls1 [])) (ag_19 : Int32 → Int32 → Int32 → Int32 → Int32 → PF → PG → PR) (hag_19 : ∀ (x1 : Int32) (x2 : Int32) (x3 : Int32) (x4 : Int32) (x5 : Int32) (F : PF) (G : PG), ag_19 x1 x2 x3 x4 x5 F G = some res → ∀ (b : Nat) (H : Heap) (locs : List Loc) (ls : Array Slot), cMW s A v a b K0 F G H locs → lv_has ls 8 [(0, .ref (a 204)), (1, .int x1), (2, .int x2), (3, .int x3), (4, .int x4), (5, .int x5)] → W p l e R s m args below meth c H locs (xn F - xn K0) (2 * (xn F - xn K0)) Q (F0 m 19 ls [])) (hagn_19 : ∀ (x1 : Int32) (x2 : Int32) (x3 : Int32) (x4 : Int32) (x5 : Int32) (F : PF) (G : PG), ag_19 x1 x2 x3 x4 x5 F G = some res → xn F ≤ xn res.2.1) (x1 : Int32) (x2 : Int32) (x3 : Int32) (x5 : Int32) (F : PF) (G : PG) (hm : cb_X4_elements_67 fu ag_19 x1 x2 x3 x5 F G = some res) {b : Nat} {H : Heap} {locs : List Loc} (hw : cMW s A v a b K0 F G H locs) {ls : Array Slot} (hl : lv_has ls 8 [(0, .ref (a 204)), (1, .int x1), (2, .int x2), (3, .int x3), (5, .int x5)]) : W p l e R s m args below meth c H locs (xn F - xn K0) (2 * (xn F - xn K0)) Q (F0 m 67 ls []) := by
  have hx := C.1
  have hb := C.2.1
  unfold cb_X4_elements_67 at hm
  refine lv_goto (tgt := 103) hx hb dX4_elements_67 (by decide) ?_
  exact cw_X4_elements_103 fu C hret ag_19 hag_19 hagn_19 x1 x2 x3 x5 F G hm hw (lv_sub hl [0, 1, 2, 3, 4] rfl)
theorem cn_X4_elements_56 (fu : Nat) {res : Int32 × PF × PG} (ag_19 : Int32 → Int32 → Int32 → Int32 → Int32 → PF → PG → PR) (hagn_19 : ∀ (x1 : Int32) (x2 : Int32) (x3 : Int32) (x4 : Int32) (x5 : Int32) (F : PF) (G : PG), ag_19 x1 x2 x3 x4 x5 F G = some res → xn F ≤ xn res.2.1) (x1 : Int32) (x2 : Int32) (x3 : Int32) (x5 : Int32) (x6 : Int32) (F : PF) (G : PG) (hm : cb_X4_elements_56 fu ag_19 x1 x2 x3 x5 x6 F G = some res) : xn F ≤ xn res.2.1 := by
  unfold cb_X4_elements_56 at hm
  obtain ⟨⟨r1, F1, G1⟩, hc, hm⟩ := bind_elim hm
  exact Nat.le_trans (cn_X5_note fu 7 x6 F G _ hc) (cn_X4_elements_67 fu ag_19 hagn_19 x1 x2 x3 x5 F1 G1 hm)
theorem cw_X4_elements_56 (fu : Nat) {res : Int32 × PF × PG} (C : cMC p R s m args c A v RX4 cX4_elements 8 304 18093 (xn res.2.1 - xn K0)) (hret : ∀ (b1 : Nat) (H1 : Heap) (locs1 : List Loc) (ls1 : Array Slot) (pc : Nat), cMW s A v a b1 K0 res.2.1 res.2.2 H1 locs1 → decode cX4_elements pc = .ok (.return_, 1) → W p l e R s m args below meth c H1 locs1 (xn res.2.1 - xn K0) (2 * (xn res.2.1 - xn K0)) Q (F0 m pc ls1 [])) (ag_19 : Int32 → Int32 → Int32 → Int32 → Int32 → PF → PG → PR) (hag_19 : ∀ (x1 : Int32) (x2 : Int32) (x3 : Int32) (x4 : Int32) (x5 : Int32) (F : PF) (G : PG), ag_19 x1 x2 x3 x4 x5 F G = some res → ∀ (b : Nat) (H : Heap) (locs : List Loc) (ls : Array Slot), cMW s A v a b K0 F G H locs → lv_has ls 8 [(0, .ref (a 204)), (1, .int x1), (2, .int x2), (3, .int x3), (4, .int x4), (5, .int x5)] → W p l e R s m args below meth c H locs (xn F - xn K0) (2 * (xn F - xn K0)) Q (F0 m 19 ls [])) (hagn_19 : ∀ (x1 : Int32) (x2 : Int32) (x3 : Int32) (x4 : Int32) (x5 : Int32) (F : PF) (G : PG), ag_19 x1 x2 x3 x4 x5 F G = some res → xn F ≤ xn res.2.1) (x1 : Int32) (x2 : Int32) (x3 : Int32) (x5 : Int32) (x6 : Int32) (F : PF) (G : PG) (hm : cb_X4_elements_56 fu ag_19 x1 x2 x3 x5 x6 F G = some res) {b : Nat} {H : Heap} {locs : List Loc} (hw : cMW s A v a b K0 F G H locs) {ls : Array Slot} (hl : lv_has ls 8 [(0, .ref (a 204)), (1, .int x1), (2, .int x2), (3, .int x3), (5, .int x5), (6, .int x6)]) : W p l e R s m args below meth c H locs (xn F - xn K0) (2 * (xn F - xn K0)) Q (F0 m 56 ls []) := by
  have hx := C.1
  have hb := C.2.1
  unfold cb_X4_elements_56 at hm
  refine lv_aload_n hx hb dX4_elements_56 rfl (lv_at hl 0 rfl) ?_
  refine cg_X4_15 C hw dX4_elements_57 ?_
  refine lv_bipush (v := 7) hx hb dX4_elements_60 (by decide) ?_
  refine lv_iload hx hb dX4_elements_62 (lv_at hl 5 rfl) ?_
  obtain ⟨⟨r1, F1, G1⟩, hc, hm⟩ := bind_elim hm
  refine ccallV (n := 2) (As := [.int 7, .int x6]) (rest := []) C hw (ck_X5_note l v a _ _ fu 7 x6 F G r1 F1 G1 hc) (cn_X5_note fu 7 x6 F G _ hc) (Nat.sub_le_sub_right (cn_X4_elements_67 fu ag_19 hagn_19 x1 x2 x3 x5 F1 G1 hm) _) (crecv_X5 C hw) cm_628 cm_425 cm_426 cm_266 cm_427 (by decide +kernel) rfl (by omega) (by omega) hl.1 rfl (Nat.le_of_ble_eq_true rfl) dX4_elements_64 (fun b H locs hw => ?_)
  exact cw_X4_elements_67 fu C hret ag_19 hag_19 hagn_19 x1 x2 x3 x5 F1 G1 hm hw (lv_sub hl [0, 1, 2, 3, 4] rfl)
theorem cn_X4_elements_48 (fu : Nat) {res : Int32 × PF × PG} (ag_19 : Int32 → Int32 → Int32 → Int32 → Int32 → PF → PG → PR) (hagn_19 : ∀ (x1 : Int32) (x2 : Int32) (x3 : Int32) (x4 : Int32) (x5 : Int32) (F : PF) (G : PG), ag_19 x1 x2 x3 x4 x5 F G = some res → xn F ≤ xn res.2.1) (x1 : Int32) (x2 : Int32) (x3 : Int32) (x5 : Int32) (x6 : Int32) (z0 : Int32) (F : PF) (G : PG) (hm : cb_X4_elements_48 fu ag_19 x1 x2 x3 x5 x6 z0 F G = some res) : xn F ≤ xn res.2.1 := by
  unfold cb_X4_elements_48 at hm
  by_cases c_1 : x5 < x3
  · have hm := (if_pos c_1).symm.trans hm
    exact (cn_X4_elements_70 fu ag_19 hagn_19 x1 x2 x3 x5 z0 F G hm)
  · have hm := (if_neg c_1).symm.trans hm
    exact (cn_X4_elements_56 fu ag_19 hagn_19 x1 x2 x3 x5 x6 F G hm)
theorem cw_X4_elements_48 (fu : Nat) {res : Int32 × PF × PG} (C : cMC p R s m args c A v RX4 cX4_elements 8 304 18093 (xn res.2.1 - xn K0)) (hret : ∀ (b1 : Nat) (H1 : Heap) (locs1 : List Loc) (ls1 : Array Slot) (pc : Nat), cMW s A v a b1 K0 res.2.1 res.2.2 H1 locs1 → decode cX4_elements pc = .ok (.return_, 1) → W p l e R s m args below meth c H1 locs1 (xn res.2.1 - xn K0) (2 * (xn res.2.1 - xn K0)) Q (F0 m pc ls1 [])) (ag_19 : Int32 → Int32 → Int32 → Int32 → Int32 → PF → PG → PR) (hag_19 : ∀ (x1 : Int32) (x2 : Int32) (x3 : Int32) (x4 : Int32) (x5 : Int32) (F : PF) (G : PG), ag_19 x1 x2 x3 x4 x5 F G = some res → ∀ (b : Nat) (H : Heap) (locs : List Loc) (ls : Array Slot), cMW s A v a b K0 F G H locs → lv_has ls 8 [(0, .ref (a 204)), (1, .int x1), (2, .int x2), (3, .int x3), (4, .int x4), (5, .int x5)] → W p l e R s m args below meth c H locs (xn F - xn K0) (2 * (xn F - xn K0)) Q (F0 m 19 ls [])) (hagn_19 : ∀ (x1 : Int32) (x2 : Int32) (x3 : Int32) (x4 : Int32) (x5 : Int32) (F : PF) (G : PG), ag_19 x1 x2 x3 x4 x5 F G = some res → xn F ≤ xn res.2.1) (x1 : Int32) (x2 : Int32) (x3 : Int32) (x5 : Int32) (x6 : Int32) (z0 : Int32) (F : PF) (G : PG) (hm : cb_X4_elements_48 fu ag_19 x1 x2 x3 x5 x6 z0 F G = some res) {b : Nat} {H : Heap} {locs : List Loc} (hw : cMW s A v a b K0 F G H locs) {ls : Array Slot} (hl : lv_has ls 8 [(0, .ref (a 204)), (1, .int x1), (2, .int x2), (3, .int x3), (5, .int x5), (6, .int x6)]) : W p l e R s m args below meth c H locs (xn F - xn K0) (2 * (xn F - xn K0)) Q (F0 m 48 ls [.int z0]) := by
  have hx := C.1
  have hb := C.2.1
  unfold cb_X4_elements_48 at hm
  refine lv_istore (lv' := [(7, .int z0), (0, .ref (a 204)), (1, .int x1), (2, .int x2), (3, .int x3), (5, .int x5), (6, .int x6)]) hx hb dX4_elements_48 hl (by decide) rfl (fun ls hl => ?_)
  refine lv_iload hx hb dX4_elements_50 (lv_at hl 5 rfl) ?_
  refine lv_iload_n hx hb dX4_elements_52 rfl (lv_at hl 4 rfl) ?_
  refine lv_icmp_lt (tgt := 70) hx hb dX4_elements_53 (by decide) (fun c_1 => ?_) (fun c_1 => ?_)
  · have hm := (if_pos c_1).symm.trans hm
    exact cw_X4_elements_70 fu C hret ag_19 hag_19 hagn_19 x1 x2 x3 x5 z0 F G hm hw (lv_sub hl [1, 2, 3, 4, 5, 0] rfl)
  · have hm := (if_neg c_1).symm.trans hm
    exact cw_X4_elements_56 fu C hret ag_19 hag_19 hagn_19 x1 x2 x3 x5 x6 F G hm hw (lv_sub hl [1, 2, 3, 4, 5, 6] rfl)
theorem cn_X4_elements_32 (fu : Nat) {res : Int32 × PF × PG} (ag_19 : Int32 → Int32 → Int32 → Int32 → Int32 → PF → PG → PR) (hagn_19 : ∀ (x1 : Int32) (x2 : Int32) (x3 : Int32) (x4 : Int32) (x5 : Int32) (F : PF) (G : PG), ag_19 x1 x2 x3 x4 x5 F G = some res → xn F ≤ xn res.2.1) (x1 : Int32) (x2 : Int32) (x3 : Int32) (x5 : Int32) (F : PF) (G : PG) (hm : cb_X4_elements_32 fu ag_19 x1 x2 x3 x5 F G = some res) : xn F ≤ xn res.2.1 := by
  unfold cb_X4_elements_32 at hm
  obtain ⟨⟨r1, F1, G1⟩, hc, hm⟩ := bind_elim hm
  exact Nat.le_trans (cn_X3_constant fu F G _ hc) (cn_X4_elements_48 fu ag_19 hagn_19 x1 x2 x3 x5 (F 13) r1 F1 G1 hm)
theorem cw_X4_elements_32 (fu : Nat) {res : Int32 × PF × PG} (C : cMC p R s m args c A v RX4 cX4_elements 8 304 18093 (xn res.2.1 - xn K0)) (hret : ∀ (b1 : Nat) (H1 : Heap) (locs1 : List Loc) (ls1 : Array Slot) (pc : Nat), cMW s A v a b1 K0 res.2.1 res.2.2 H1 locs1 → decode cX4_elements pc = .ok (.return_, 1) → W p l e R s m args below meth c H1 locs1 (xn res.2.1 - xn K0) (2 * (xn res.2.1 - xn K0)) Q (F0 m pc ls1 [])) (ag_19 : Int32 → Int32 → Int32 → Int32 → Int32 → PF → PG → PR) (hag_19 : ∀ (x1 : Int32) (x2 : Int32) (x3 : Int32) (x4 : Int32) (x5 : Int32) (F : PF) (G : PG), ag_19 x1 x2 x3 x4 x5 F G = some res → ∀ (b : Nat) (H : Heap) (locs : List Loc) (ls : Array Slot), cMW s A v a b K0 F G H locs → lv_has ls 8 [(0, .ref (a 204)), (1, .int x1), (2, .int x2), (3, .int x3), (4, .int x4), (5, .int x5)] → W p l e R s m args below meth c H locs (xn F - xn K0) (2 * (xn F - xn K0)) Q (F0 m 19 ls [])) (hagn_19 : ∀ (x1 : Int32) (x2 : Int32) (x3 : Int32) (x4 : Int32) (x5 : Int32) (F : PF) (G : PG), ag_19 x1 x2 x3 x4 x5 F G = some res → xn F ≤ xn res.2.1) (x1 : Int32) (x2 : Int32) (x3 : Int32) (x5 : Int32) (F : PF) (G : PG) (hm : cb_X4_elements_32 fu ag_19 x1 x2 x3 x5 F G = some res) {b : Nat} {H : Heap} {locs : List Loc} (hw : cMW s A v a b K0 F G H locs) {ls : Array Slot} (hl : lv_has ls 8 [(0, .ref (a 204)), (1, .int x1), (2, .int x2), (3, .int x3), (5, .int x5)]) : W p l e R s m args below meth c H locs (xn F - xn K0) (2 * (xn F - xn K0)) Q (F0 m 32 ls []) := by
  have hx := C.1
  have hb := C.2.1
  unfold cb_X4_elements_32 at hm
  refine lv_aload_n hx hb dX4_elements_32 rfl (lv_at hl 0 rfl) ?_
  refine cg_X4_9 C hw dX4_elements_33 ?_
  refine cg_X4_67 C hw dX4_elements_36 ?_
  refine lv_istore (lv' := [(6, .int (F 13)), (0, .ref (a 204)), (1, .int x1), (2, .int x2), (3, .int x3), (5, .int x5)]) hx hb dX4_elements_39 hl (by decide) rfl (fun ls hl => ?_)
  refine lv_aload_n hx hb dX4_elements_41 rfl (lv_at hl 1 rfl) ?_
  refine cg_X4_27 C hw dX4_elements_42 ?_
  obtain ⟨⟨r1, F1, G1⟩, hc, hm⟩ := bind_elim hm
  refine ccallI (n := 0) (As := []) (rest := []) C hw (ck_X3_constant l v a _ _ fu F G r1 F1 G1 hc) (cn_X3_constant fu F G _ hc) (Nat.sub_le_sub_right (cn_X4_elements_48 fu ag_19 hagn_19 x1 x2 x3 x5 (F 13) r1 F1 G1 hm) _) (crecv_X3 C hw) cm_341 cm_342 cm_343 cm_301 cm_344 (by decide +kernel) rfl (by omega) (by omega) hl.1 rfl (Nat.le_of_ble_eq_true rfl) dX4_elements_45 (fun b H locs hw => ?_)
  exact cw_X4_elements_48 fu C hret ag_19 hag_19 hagn_19 x1 x2 x3 x5 (F 13) r1 F1 G1 hm hw (lv_sub hl [1, 2, 3, 4, 5, 0] rfl)
theorem cn_X4_elements_27 (fu : Nat) {res : Int32 × PF × PG} (ag_19 : Int32 → Int32 → Int32 → Int32 → Int32 → PF → PG → PR) (hagn_19 : ∀ (x1 : Int32) (x2 : Int32) (x3 : Int32) (x4 : Int32) (x5 : Int32) (F : PF) (G : PG), ag_19 x1 x2 x3 x4 x5 F G = some res → xn F ≤ xn res.2.1) (x1 : Int32) (x2 : Int32) (x3 : Int32) (x4 : Int32) (x5 : Int32) (F : PF) (G : PG) (hm : cb_X4_elements_27 fu ag_19 x1 x2 x3 x4 x5 F G = some res) : xn F ≤ xn res.2.1 := by
  unfold cb_X4_elements_27 at hm
  by_cases c_1 : x4 = (0 : Int32)
  · have hm := (if_pos c_1).symm.trans hm
    exact (cn_X4_elements_140 fu F G hm)
  · have hm := (if_neg c_1).symm.trans hm
    exact (cn_X4_elements_32 fu ag_19 hagn_19 x1 x2 x3 x5 F G hm)
theorem cw_X4_elements_27 (fu : Nat) {res : Int32 × PF × PG} (C : cMC p R s m args c A v RX4 cX4_elements 8 304 18093 (xn res.2.1 - xn K0)) (hret : ∀ (b1 : Nat) (H1 : Heap) (locs1 : List Loc) (ls1 : Array Slot) (pc : Nat), cMW s A v a b1 K0 res.2.1 res.2.2 H1 locs1 → decode cX4_elements pc = .ok (.return_, 1) → W p l e R s m args below meth c H1 locs1 (xn res.2.1 - xn K0) (2 * (xn res.2.1 - xn K0)) Q (F0 m pc ls1 [])) (ag_19 : Int32 → Int32 → Int32 → Int32 → Int32 → PF → PG → PR) (hag_19 : ∀ (x1 : Int32) (x2 : Int32) (x3 : Int32) (x4 : Int32) (x5 : Int32) (F : PF) (G : PG), ag_19 x1 x2 x3 x4 x5 F G = some res → ∀ (b : Nat) (H : Heap) (locs : List Loc) (ls : Array Slot), cMW s A v a b K0 F G H locs → lv_has ls 8 [(0, .ref (a 204)), (1, .int x1), (2, .int x2), (3, .int x3), (4, .int x4), (5, .int x5)] → W p l e R s m args below meth c H locs (xn F - xn K0) (2 * (xn F - xn K0)) Q (F0 m 19 ls [])) (hagn_19 : ∀ (x1 : Int32) (x2 : Int32) (x3 : Int32) (x4 : Int32) (x5 : Int32) (F : PF) (G : PG), ag_19 x1 x2 x3 x4 x5 F G = some res → xn F ≤ xn res.2.1) (x1 : Int32) (x2 : Int32) (x3 : Int32) (x4 : Int32) (x5 : Int32) (F : PF) (G : PG) (hm : cb_X4_elements_27 fu ag_19 x1 x2 x3 x4 x5 F G = some res) {b : Nat} {H : Heap} {locs : List Loc} (hw : cMW s A v a b K0 F G H locs) {ls : Array Slot} (hl : lv_has ls 8 [(0, .ref (a 204)), (1, .int x1), (2, .int x2), (3, .int x3), (4, .int x4), (5, .int x5)]) : W p l e R s m args below meth c H locs (xn F - xn K0) (2 * (xn F - xn K0)) Q (F0 m 27 ls []) := by
  have hx := C.1
  have hb := C.2.1
  unfold cb_X4_elements_27 at hm
  refine lv_iload hx hb dX4_elements_27 (lv_at hl 4 rfl) ?_
  refine lv_if_eq (tgt := 140) hx hb dX4_elements_29 (by decide) (fun c_1 => ?_) (fun c_1 => ?_)
  · have hm := (if_pos c_1).symm.trans hm
    exact cw_X4_elements_140 fu C hret F G hm hw (lv_sub hl [0] rfl)
  · have hm := (if_neg c_1).symm.trans hm
    exact cw_X4_elements_32 fu C hret ag_19 hag_19 hagn_19 x1 x2 x3 x5 F G hm hw (lv_sub hl [0, 1, 2, 3, 5] rfl)
theorem cn_X4_elements_19 (fu : Nat) {res : Int32 × PF × PG} (ag_19 : Int32 → Int32 → Int32 → Int32 → Int32 → PF → PG → PR) (hagn_19 : ∀ (x1 : Int32) (x2 : Int32) (x3 : Int32) (x4 : Int32) (x5 : Int32) (F : PF) (G : PG), ag_19 x1 x2 x3 x4 x5 F G = some res → xn F ≤ xn res.2.1) (x1 : Int32) (x2 : Int32) (x3 : Int32) (x4 : Int32) (x5 : Int32) (F : PF) (G : PG) (hm : cb_X4_elements_19 fu ag_19 x1 x2 x3 x4 x5 F G = some res) : xn F ≤ xn res.2.1 := by
  unfold cb_X4_elements_19 at hm
  by_cases c_1 : (4001 : Int32) ≤ x5
  · have hm := (if_pos c_1).symm.trans hm
    exact (cn_X4_elements_140 fu F G hm)
  · have hm := (if_neg c_1).symm.trans hm
    exact (cn_X4_elements_27 fu ag_19 hagn_19 x1 x2 x3 x4 x5 F G hm)
theorem cw_X4_elements_19 (fu : Nat) {res : Int32 × PF × PG} (C : cMC p R s m args c A v RX4 cX4_elements 8 304 18093 (xn res.2.1 - xn K0)) (hret : ∀ (b1 : Nat) (H1 : Heap) (locs1 : List Loc) (ls1 : Array Slot) (pc : Nat), cMW s A v a b1 K0 res.2.1 res.2.2 H1 locs1 → decode cX4_elements pc = .ok (.return_, 1) → W p l e R s m args below meth c H1 locs1 (xn res.2.1 - xn K0) (2 * (xn res.2.1 - xn K0)) Q (F0 m pc ls1 [])) (ag_19 : Int32 → Int32 → Int32 → Int32 → Int32 → PF → PG → PR) (hag_19 : ∀ (x1 : Int32) (x2 : Int32) (x3 : Int32) (x4 : Int32) (x5 : Int32) (F : PF) (G : PG), ag_19 x1 x2 x3 x4 x5 F G = some res → ∀ (b : Nat) (H : Heap) (locs : List Loc) (ls : Array Slot), cMW s A v a b K0 F G H locs → lv_has ls 8 [(0, .ref (a 204)), (1, .int x1), (2, .int x2), (3, .int x3), (4, .int x4), (5, .int x5)] → W p l e R s m args below meth c H locs (xn F - xn K0) (2 * (xn F - xn K0)) Q (F0 m 19 ls [])) (hagn_19 : ∀ (x1 : Int32) (x2 : Int32) (x3 : Int32) (x4 : Int32) (x5 : Int32) (F : PF) (G : PG), ag_19 x1 x2 x3 x4 x5 F G = some res → xn F ≤ xn res.2.1) (x1 : Int32) (x2 : Int32) (x3 : Int32) (x4 : Int32) (x5 : Int32) (F : PF) (G : PG) (hm : cb_X4_elements_19 fu ag_19 x1 x2 x3 x4 x5 F G = some res) {b : Nat} {H : Heap} {locs : List Loc} (hw : cMW s A v a b K0 F G H locs) {ls : Array Slot} (hl : lv_has ls 8 [(0, .ref (a 204)), (1, .int x1), (2, .int x2), (3, .int x3), (4, .int x4), (5, .int x5)]) : W p l e R s m args below meth c H locs (xn F - xn K0) (2 * (xn F - xn K0)) Q (F0 m 19 ls []) := by
  have hx := C.1
  have hb := C.2.1
  unfold cb_X4_elements_19 at hm
  refine lv_iload hx hb dX4_elements_19 (lv_at hl 5 rfl) ?_
  refine lv_sipush (v := 4001) hx hb dX4_elements_21 (by decide) ?_
  refine lv_icmp_ge (tgt := 140) hx hb dX4_elements_24 (by decide) (fun c_1 => ?_) (fun c_1 => ?_)
  · have hm := (if_pos c_1).symm.trans hm
    exact cw_X4_elements_140 fu C hret F G hm hw (lv_sub hl [0] rfl)
  · have hm := (if_neg c_1).symm.trans hm
    exact cw_X4_elements_27 fu C hret ag_19 hag_19 hagn_19 x1 x2 x3 x4 x5 F G hm hw (lv_sub hl [0, 1, 2, 3, 4, 5] rfl)
theorem cnl_X4_elements_19 (fu : Nat) {res : Int32 × PF × PG} : ∀ (n : Nat) (x1 : Int32) (x2 : Int32) (x3 : Int32) (x4 : Int32) (x5 : Int32) (F : PF) (G : PG) (hm : cl_X4_elements_19 fu n x1 x2 x3 x4 x5 F G = some res), xn F ≤ xn res.2.1 := by
  intro n
  induction n with
  | zero =>
    intro x1 x2 x3 x4 x5 F G hm
    exact no_elim (show (none : PR) = some res from hm)
  | succ n ih =>
    intro x1 x2 x3 x4 x5 F G hm
    exact cn_X4_elements_19 fu (cl_X4_elements_19 fu n) (fun x1 x2 x3 x4 x5 F G hm => ih x1 x2 x3 x4 x5 F G hm) x1 x2 x3 x4 x5 F G hm
theorem cwl_X4_elements_19 (fu : Nat) {res : Int32 × PF × PG} (C : cMC p R s m args c A v RX4 cX4_elements 8 304 18093 (xn res.2.1 - xn K0)) (hret : ∀ (b1 : Nat) (H1 : Heap) (locs1 : List Loc) (ls1 : Array Slot) (pc : Nat), cMW s A v a b1 K0 res.2.1 res.2.2 H1 locs1 → decode cX4_elements pc = .ok (.return_, 1) → W p l e R s m args below meth c H1 locs1 (xn res.2.1 - xn K0) (2 * (xn res.2.1 - xn K0)) Q (F0 m pc ls1 [])) : ∀ (n : Nat) (x1 : Int32) (x2 : Int32) (x3 : Int32) (x4 : Int32) (x5 : Int32) (F : PF) (G : PG) (hm : cl_X4_elements_19 fu n x1 x2 x3 x4 x5 F G = some res) {b : Nat} {H : Heap} {locs : List Loc} (hw : cMW s A v a b K0 F G H locs) {ls : Array Slot} (hl : lv_has ls 8 [(0, .ref (a 204)), (1, .int x1), (2, .int x2), (3, .int x3), (4, .int x4), (5, .int x5)]), W p l e R s m args below meth c H locs (xn F - xn K0) (2 * (xn F - xn K0)) Q (F0 m 19 ls []) := by
  intro n
  induction n with
  | zero =>
    intro x1 x2 x3 x4 x5 F G hm
    exact no_elim (show (none : PR) = some res from hm)
  | succ n ih =>
    intro x1 x2 x3 x4 x5 F G hm b H locs hw ls hl
    exact cw_X4_elements_19 fu C hret (cl_X4_elements_19 fu n) (fun x1 x2 x3 x4 x5 F G hm b H locs ls hw hl => ih x1 x2 x3 x4 x5 F G hm hw hl) (fun x1 x2 x3 x4 x5 F G hm => cnl_X4_elements_19 fu n x1 x2 x3 x4 x5 F G hm) x1 x2 x3 x4 x5 F G hm hw hl
theorem cn_X4_elements_13 (fu : Nat) {res : Int32 × PF × PG} (x1 : Int32) (x2 : Int32) (x3 : Int32) (F : PF) (G : PG) (hm : cb_X4_elements_13 fu x1 x2 x3 F G = some res) : xn F ≤ xn res.2.1 := by
  unfold cb_X4_elements_13 at hm
  exact (cnl_X4_elements_19 fu fu x1 x2 x3 1 0 F G hm)
theorem cw_X4_elements_13 (fu : Nat) {res : Int32 × PF × PG} (C : cMC p R s m args c A v RX4 cX4_elements 8 304 18093 (xn res.2.1 - xn K0)) (hret : ∀ (b1 : Nat) (H1 : Heap) (locs1 : List Loc) (ls1 : Array Slot) (pc : Nat), cMW s A v a b1 K0 res.2.1 res.2.2 H1 locs1 → decode cX4_elements pc = .ok (.return_, 1) → W p l e R s m args below meth c H1 locs1 (xn res.2.1 - xn K0) (2 * (xn res.2.1 - xn K0)) Q (F0 m pc ls1 [])) (x1 : Int32) (x2 : Int32) (x3 : Int32) (F : PF) (G : PG) (hm : cb_X4_elements_13 fu x1 x2 x3 F G = some res) {b : Nat} {H : Heap} {locs : List Loc} (hw : cMW s A v a b K0 F G H locs) {ls : Array Slot} (hl : lv_has ls 8 [(0, .ref (a 204)), (1, .int x1), (2, .int x2), (3, .int x3)]) : W p l e R s m args below meth c H locs (xn F - xn K0) (2 * (xn F - xn K0)) Q (F0 m 13 ls []) := by
  have hx := C.1
  have hb := C.2.1
  unfold cb_X4_elements_13 at hm
  refine lv_iconst (v := 1) hx hb dX4_elements_13 (by decide) ?_
  refine lv_istore (lv' := [(4, .int 1), (0, .ref (a 204)), (1, .int x1), (2, .int x2), (3, .int x3)]) hx hb dX4_elements_14 hl (by decide) rfl (fun ls hl => ?_)
  refine lv_iconst (v := 0) hx hb dX4_elements_16 (by decide) ?_
  refine lv_istore (lv' := [(5, .int 0), (4, .int 1), (0, .ref (a 204)), (1, .int x1), (2, .int x2), (3, .int x3)]) hx hb dX4_elements_17 hl (by decide) rfl (fun ls hl => ?_)
  exact cwl_X4_elements_19 fu C hret fu x1 x2 x3 1 0 F G hm hw (lv_sub hl [2, 3, 4, 5, 1, 0] rfl)
theorem cn_X4_elements_12 (fu : Nat) {res : Int32 × PF × PG} (F : PF) (G : PG) (hm : cb_X4_elements_12 fu F G = some res) : xn F ≤ xn res.2.1 := by
  unfold cb_X4_elements_12 at hm
  obtain rfl := Option.some.inj hm
  exact Nat.le_refl _
theorem cw_X4_elements_12 (fu : Nat) {res : Int32 × PF × PG} (C : cMC p R s m args c A v RX4 cX4_elements 8 304 18093 (xn res.2.1 - xn K0)) (hret : ∀ (b1 : Nat) (H1 : Heap) (locs1 : List Loc) (ls1 : Array Slot) (pc : Nat), cMW s A v a b1 K0 res.2.1 res.2.2 H1 locs1 → decode cX4_elements pc = .ok (.return_, 1) → W p l e R s m args below meth c H1 locs1 (xn res.2.1 - xn K0) (2 * (xn res.2.1 - xn K0)) Q (F0 m pc ls1 [])) (F : PF) (G : PG) (hm : cb_X4_elements_12 fu F G = some res) {b : Nat} {H : Heap} {locs : List Loc} (hw : cMW s A v a b K0 F G H locs) {ls : Array Slot} (hl : lv_has ls 8 []) : W p l e R s m args below meth c H locs (xn F - xn K0) (2 * (xn F - xn K0)) Q (F0 m 12 ls []) := by
  have hx := C.1
  have hb := C.2.1
  unfold cb_X4_elements_12 at hm
  obtain rfl := Option.some.inj hm
  exact hret _ _ _ _ _ hw dX4_elements_12
theorem cn_X4_elements_9 (fu : Nat) {res : Int32 × PF × PG} (x1 : Int32) (x2 : Int32) (x3 : Int32) (z0 : Int32) (F : PF) (G : PG) (hm : cb_X4_elements_9 fu x1 x2 x3 z0 F G = some res) : xn F ≤ xn res.2.1 := by
  unfold cb_X4_elements_9 at hm
  by_cases c_1 : z0 = (0 : Int32)
  · have hm := (if_pos c_1).symm.trans hm
    exact (cn_X4_elements_12 fu F G hm)
  · have hm := (if_neg c_1).symm.trans hm
    exact (cn_X4_elements_13 fu x1 x2 x3 F G hm)
theorem cw_X4_elements_9 (fu : Nat) {res : Int32 × PF × PG} (C : cMC p R s m args c A v RX4 cX4_elements 8 304 18093 (xn res.2.1 - xn K0)) (hret : ∀ (b1 : Nat) (H1 : Heap) (locs1 : List Loc) (ls1 : Array Slot) (pc : Nat), cMW s A v a b1 K0 res.2.1 res.2.2 H1 locs1 → decode cX4_elements pc = .ok (.return_, 1) → W p l e R s m args below meth c H1 locs1 (xn res.2.1 - xn K0) (2 * (xn res.2.1 - xn K0)) Q (F0 m pc ls1 [])) (x1 : Int32) (x2 : Int32) (x3 : Int32) (z0 : Int32) (F : PF) (G : PG) (hm : cb_X4_elements_9 fu x1 x2 x3 z0 F G = some res) {b : Nat} {H : Heap} {locs : List Loc} (hw : cMW s A v a b K0 F G H locs) {ls : Array Slot} (hl : lv_has ls 8 [(0, .ref (a 204)), (1, .int x1), (2, .int x2), (3, .int x3)]) : W p l e R s m args below meth c H locs (xn F - xn K0) (2 * (xn F - xn K0)) Q (F0 m 9 ls [.int z0]) := by
  have hx := C.1
  have hb := C.2.1
  unfold cb_X4_elements_9 at hm
  refine lv_if_ne (tgt := 13) hx hb dX4_elements_9 (by decide) (fun c_1 => ?_) (fun c_1 => ?_)
  · have hm := (if_neg c_1).symm.trans hm
    exact cw_X4_elements_13 fu C hret x1 x2 x3 F G hm hw (lv_sub hl [0, 1, 2, 3] rfl)
  · have hm := (if_pos c_1).symm.trans hm
    exact cw_X4_elements_12 fu C hret F G hm hw (lv_sub hl [] rfl)
theorem cn_X4_elements_0 (fu : Nat) {res : Int32 × PF × PG} (x1 : Int32) (x2 : Int32) (x3 : Int32) (F : PF) (G : PG) (hm : cb_X4_elements_0 fu x1 x2 x3 F G = some res) : xn F ≤ xn res.2.1 := by
  unfold cb_X4_elements_0 at hm
  obtain ⟨⟨r1, F1, G1⟩, hc, hm⟩ := bind_elim hm
  exact Nat.le_trans (cn_X2_opens fu 23 F G _ hc) (cn_X4_elements_9 fu x1 x2 x3 r1 F1 G1 hm)
theorem cw_X4_elements_0 (fu : Nat) {res : Int32 × PF × PG} (C : cMC p R s m args c A v RX4 cX4_elements 8 304 18093 (xn res.2.1 - xn K0)) (hret : ∀ (b1 : Nat) (H1 : Heap) (locs1 : List Loc) (ls1 : Array Slot) (pc : Nat), cMW s A v a b1 K0 res.2.1 res.2.2 H1 locs1 → decode cX4_elements pc = .ok (.return_, 1) → W p l e R s m args below meth c H1 locs1 (xn res.2.1 - xn K0) (2 * (xn res.2.1 - xn K0)) Q (F0 m pc ls1 [])) (x1 : Int32) (x2 : Int32) (x3 : Int32) (F : PF) (G : PG) (hm : cb_X4_elements_0 fu x1 x2 x3 F G = some res) {b : Nat} {H : Heap} {locs : List Loc} (hw : cMW s A v a b K0 F G H locs) {ls : Array Slot} (hl : lv_has ls 8 [(0, .ref (a 204)), (1, .int x1), (2, .int x2), (3, .int x3)]) : W p l e R s m args below meth c H locs (xn F - xn K0) (2 * (xn F - xn K0)) Q (F0 m 0 ls []) := by
  have hx := C.1
  have hb := C.2.1
  unfold cb_X4_elements_0 at hm
  refine lv_aload_n hx hb dX4_elements_0 rfl (lv_at hl 0 rfl) ?_
  refine cg_X4_9 C hw dX4_elements_1 ?_
  refine lv_bipush (v := 23) hx hb dX4_elements_4 (by decide) ?_
  obtain ⟨⟨r1, F1, G1⟩, hc, hm⟩ := bind_elim hm
  refine ccallI (n := 1) (As := [.int 23]) (rest := []) C hw (ck_X2_opens l v a _ _ fu 23 F G r1 F1 G1 hc) (cn_X2_opens fu 23 F G _ hc) (Nat.sub_le_sub_right (cn_X4_elements_9 fu x1 x2 x3 r1 F1 G1 hm) _) (crecv_X2 C hw) cm_623 cm_363 cm_364 cm_307 cm_365 (by decide +kernel) rfl (by omega) (by omega) hl.1 rfl (Nat.le_of_ble_eq_true rfl) dX4_elements_6 (fun b H locs hw => ?_)
  exact cw_X4_elements_9 fu C hret x1 x2 x3 r1 F1 G1 hm hw (lv_sub hl [0, 1, 2, 3] rfl)
theorem cn_X4_elements (fu : Nat) (x1 : Int32) (x2 : Int32) (x3 : Int32) (F : PF) (G : PG) (q : Int32 × PF × PG) (hm : cf_X4_elements fu x1 x2 x3 F G = some q) : xn F ≤ xn q.2.1 := cn_X4_elements_0 fu x1 x2 x3 F G hm
theorem ck_X4_elements (l : Launch) (v : EV) (a : Nat → Nat) (b sz : Nat) (fu : Nat) (x1 : Int32) (x2 : Int32) (x3 : Int32) (F : PF) (G : PG) (r : Int32) (F1 : PF) (G1 : PG) (hm : cf_X4_elements fu x1 x2 x3 F G = some (r, F1, G1)) : cMV l yX4_elements cX4_elements 8 304 18093 v a b sz [.ref (a 204), .int x1, .int x2, .int x3] F G F1 G1 := cMV.of (by decide) (Nat.le_of_ble_eq_true rfl) (fun p e R s m args below meth c Q A H locs ls C hw hl hret => cw_X4_elements_0 fu (res := (r, F1, G1)) C hret x1 x2 x3 F G hm hw hl)
end MB
