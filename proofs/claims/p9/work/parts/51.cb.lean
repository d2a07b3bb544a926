section MB
variable {p : Program} {l : Launch} {e : Env} {R : Room} {s : State} {m : MethodId} {args : Array Value} {below : List Frame} {meth : Method} {c : Code} {H : Heap} {locs : List Loc} {Q : State → Prop} {A : Nat → Prop} {v : EV} {a : Nat → Nat} {b ce : Nat} {own : String} {cc : ByteArray} {nL fr lo : Nat} {K0 : PF}
def cb_X6_forget_42 (fu : Nat) (F : PF) (G : PG) : PR := some (0, F, G)
def cb_X6_forget_37 (fu : Nat) (F : PF) (G : PG) : PR := cb_X6_forget_42 fu (fup F 60 (0 : Int32)) G
def cb_X6_forget_30 (fu : Nat) (F : PF) (G : PG) : PR := cb_X6_forget_37 fu (fup F 59 (2000 : Int32)) G
def cb_X6_forget_25 (fu : Nat) (F : PF) (G : PG) : PR := cb_X6_forget_30 fu (fup F 56 (0 : Int32)) G
def cb_X6_forget_20 (fu : Nat) (F : PF) (G : PG) : PR := cb_X6_forget_25 fu (fup F 67 (0 : Int32)) G
def cb_X6_forget_15 (fu : Nat) (F : PF) (G : PG) : PR := cb_X6_forget_20 fu (fup F 66 (-1 : Int32)) G
def cb_X6_forget_10 (fu : Nat) (F : PF) (G : PG) : PR := cb_X6_forget_15 fu (fup F 65 (0 : Int32)) G
def cb_X6_forget_5 (fu : Nat) (F : PF) (G : PG) : PR := cb_X6_forget_10 fu (fup F 64 (0 : Int32)) G
def cb_X6_forget_0 (fu : Nat) (F : PF) (G : PG) : PR := cb_X6_forget_5 fu (fup F 63 (0 : Int32)) G
def cf_X6_forget (fu : Nat) (F : PF) (G : PG) : PR := cb_X6_forget_0 fu F G
theorem cn_X6_forget_42 (fu : Nat) {res : Int32 × PF × PG} (F : PF) (G : PG) (hm : cb_X6_forget_42 fu F G = some res) : xn F ≤ xn res.2.1 := by
  unfold cb_X6_forget_42 at hm
  obtain rfl := Option.some.inj hm
  exact Nat.le_refl _
theorem cw_X6_forget_42 (fu : Nat) {res : Int32 × PF × PG} (C : cMC p R s m args c A v RX6 cX6_forget 1 0 0 (xn res.2.1 - xn K0)) (hret : ∀ (b1 : Nat) (H1 : Heap) (locs1 : List Loc) (ls1 : Array Slot) (pc : Nat), cMW s A v a b1 K0 res.2.1 res.2.2 H1 locs1 → decode cX6_forget pc = .ok (.return_, 1) → W p l e R s m args below meth c H1 locs1 (xn res.2.1 - xn K0) (2 * (xn res.2.1 - xn K0)) Q (F0 m pc ls1 [])) (F : PF) (G : PG) (hm : cb_X6_forget_42 fu F G = some res) {b : Nat} {H : Heap} {locs : List Loc} (hw : cMW s A v a b K0 F G H locs) {ls : Array Slot} (hl : lv_has ls 1 []) : W p l e R s m args below meth c H locs (xn F - xn K0) (2 * (xn F - xn K0)) Q (F0 m 42 ls []) := by
  have hx := C.1
  have hb := C.2.1
  unfold cb_X6_forget_42 at hm
  obtain rfl := Option.some.inj hm
  exact hret _ _ _ _ _ hw dX6_forget_42
theorem cn_X6_forget_37 (fu : Nat) {res : Int32 × PF × PG} (F : PF) (G : PG) (hm : cb_X6_forget_37 fu F G = some res) : xn F ≤ xn res.2.1 := by
  unfold cb_X6_forget_37 at hm
  exact Nat.le_trans (Nat.le_of_eq (xn_fup (by decide)).symm) (cn_X6_forget_42 fu (fup F 60 (0 : Int32)) G hm)
theorem cw_X6_forget_37 (fu : Nat) {res : Int32 × PF × PG} (C : cMC p R s m args c A v RX6 cX6_forget 1 0 0 (xn res.2.1 - xn K0)) (hret : ∀ (b1 : Nat) (H1 : Heap) (locs1 : List Loc) (ls1 : Array Slot) (pc : Nat), cMW s A v a b1 K0 res.2.1 res.2.2 H1 locs1 → decode cX6_forget pc = .ok (.return_, 1) → W p l e R s m args below meth c H1 locs1 (xn res.2.1 - xn K0) (2 * (xn res.2.1 - xn K0)) Q (F0 m pc ls1 [])) (F : PF) (G : PG) (hm : cb_X6_forget_37 fu F G = some res) {b : Nat} {H : Heap} {locs : List Loc} (hw : cMW s A v a b K0 F G H locs) {ls : Array Slot} (hl : lv_has ls 1 [(0, .ref (a 206))]) : W p l e R s m args below meth c H locs (xn F - xn K0) (2 * (xn F - xn K0)) Q (F0 m 37 ls []) := by
  have hx := C.1
  have hb := C.2.1
  unfold cb_X6_forget_37 at hm
  refine lv_aload_n hx hb dX6_forget_37 rfl (lv_at hl 0 rfl) ?_
  refine lv_iconst (v := 0) hx hb dX6_forget_38 (by decide) ?_
  refine cp_X6_52 C hw (by decide) dX6_forget_39 (fun H locs hw => ?_)
  exact cw_X6_forget_42 fu C hret (fup F 60 (0 : Int32)) G hm hw (lv_sub hl [] rfl)
theorem cn_X6_forget_30 (fu : Nat) {res : Int32 × PF × PG} (F : PF) (G : PG) (hm : cb_X6_forget_30 fu F G = some res) : xn F ≤ xn res.2.1 := by
  unfold cb_X6_forget_30 at hm
  exact Nat.le_trans (Nat.le_of_eq (xn_fup (by decide)).symm) (cn_X6_forget_37 fu (fup F 59 (2000 : Int32)) G hm)
theorem cw_X6_forget_30 (fu : Nat) {res : Int32 × PF × PG} (C : cMC p R s m args c A v RX6 cX6_forget 1 0 0 (xn res.2.1 - xn K0)) (hret : ∀ (b1 : Nat) (H1 : Heap) (locs1 : List Loc) (ls1 : Array Slot) (pc : Nat), cMW s A v a b1 K0 res.2.1 res.2.2 H1 locs1 → decode cX6_forget pc = .ok (.return_, 1) → W p l e R s m args below meth c H1 locs1 (xn res.2.1 - xn K0) (2 * (xn res.2.1 - xn K0)) Q (F0 m pc ls1 [])) (F : PF) (G : PG) (hm : cb_X6_forget_30 fu F G = some res) {b : Nat} {H : Heap} {locs : List Loc} (hw : cMW s A v a b K0 F G H locs) {ls : Array Slot} (hl : lv_has ls 1 [(0, .ref (a 206))]) : W p l e R s m args below meth c H locs (xn F - xn K0) (2 * (xn F - xn K0)) Q (F0 m 30 ls []) := by
  have hx := C.1
  have hb := C.2.1
  unfold cb_X6_forget_30 at hm
  refine lv_aload_n hx hb dX6_forget_30 rfl (lv_at hl 0 rfl) ?_
  refine lv_sipush (v := 2000) hx hb dX6_forget_31 (by decide) ?_
  refine cp_X6_34 C hw dX6_forget_34 (fun H locs hw => ?_)
  exact cw_X6_forget_37 fu C hret (fup F 59 (2000 : Int32)) G hm hw (lv_sub hl [0] rfl)
theorem cn_X6_forget_25 (fu : Nat) {res : Int32 × PF × PG} (F : PF) (G : PG) (hm : cb_X6_forget_25 fu F G = some res) : xn F ≤ xn res.2.1 := by
  unfold cb_X6_forget_25 at hm
  exact Nat.le_trans (Nat.le_of_eq (xn_fup (by decide)).symm) (cn_X6_forget_30 fu (fup F 56 (0 : Int32)) G hm)
theorem cw_X6_forget_25 (fu : Nat) {res : Int32 × PF × PG} (C : cMC p R s m args c A v RX6 cX6_forget 1 0 0 (xn res.2.1 - xn K0)) (hret : ∀ (b1 : Nat) (H1 : Heap) (locs1 : List Loc) (ls1 : Array Slot) (pc : Nat), cMW s A v a b1 K0 res.2.1 res.2.2 H1 locs1 → decode cX6_forget pc = .ok (.return_, 1) → W p l e R s m args below meth c H1 locs1 (xn res.2.1 - xn K0) (2 * (xn res.2.1 - xn K0)) Q (F0 m pc ls1 [])) (F : PF) (G : PG) (hm : cb_X6_forget_25 fu F G = some res) {b : Nat} {H : Heap} {locs : List Loc} (hw : cMW s A v a b K0 F G H locs) {ls : Array Slot} (hl : lv_has ls 1 [(0, .ref (a 206))]) : W p l e R s m args below meth c H locs (xn F - xn K0) (2 * (xn F - xn K0)) Q (F0 m 25 ls []) := by
  have hx := C.1
  have hb := C.2.1
  unfold cb_X6_forget_25 at hm
  refine lv_aload_n hx hb dX6_forget_25 rfl (lv_at hl 0 rfl) ?_
  refine lv_iconst (v := 0) hx hb dX6_forget_26 (by decide) ?_
  refine cp_X6_49 C hw dX6_forget_27 (fun H locs hw => ?_)
  exact cw_X6_forget_30 fu C hret (fup F 56 (0 : Int32)) G hm hw (lv_sub hl [0] rfl)
theorem cn_X6_forget_20 (fu : Nat) {res : Int32 × PF × PG} (F : PF) (G : PG) (hm : cb_X6_forget_20 fu F G = some res) : xn F ≤ xn res.2.1 := by
  unfold cb_X6_forget_20 at hm
  exact Nat.le_trans (Nat.le_of_eq (xn_fup (by decide)).symm) (cn_X6_forget_25 fu (fup F 67 (0 : Int32)) G hm)
theorem cw_X6_forget_20 (fu : Nat) {res : Int32 × PF × PG} (C : cMC p R s m args c A v RX6 cX6_forget 1 0 0 (xn res.2.1 - xn K0)) (hret : ∀ (b1 : Nat) (H1 : Heap) (locs1 : List Loc) (ls1 : Array Slot) (pc : Nat), cMW s A v a b1 K0 res.2.1 res.2.2 H1 locs1 → decode cX6_forget pc = .ok (.return_, 1) → W p l e R s m args below meth c H1 locs1 (xn res.2.1 - xn K0) (2 * (xn res.2.1 - xn K0)) Q (F0 m pc ls1 [])) (F : PF) (G : PG) (hm : cb_X6_forget_20 fu F G = some res) {b : Nat} {H : Heap} {locs : List Loc} (hw : cMW s A v a b K0 F G H locs) {ls : Array Slot} (hl : lv_has ls 1 [(0, .ref (a 206))]) : W p l e R s m args below meth c H locs (xn F - xn K0) (2 * (xn F - xn K0)) Q (F0 m 20 ls []) := by
  have hx := C.1
  have hb := C.2.1
  unfold cb_X6_forget_20 at hm
  refine lv_aload_n hx hb dX6_forget_20 rfl (lv_at hl 0 rfl) ?_
  refine lv_iconst (v := 0) hx hb dX6_forget_21 (by decide) ?_
  refine cp_X6_46 C hw dX6_forget_22 (fun H locs hw => ?_)
  exact cw_X6_forget_25 fu C hret (fup F 67 (0 : Int32)) G hm hw (lv_sub hl [0] rfl)
theorem cn_X6_forget_15 (fu : Nat) {res : Int32 × PF × PG} (F : PF) (G : PG) (hm : cb_X6_forget_15 fu F G = some res) : xn F ≤ xn res.2.1 := by
  unfold cb_X6_forget_15 at hm
  exact Nat.le_trans (Nat.le_of_eq (xn_fup (by decide)).symm) (cn_X6_forget_20 fu (fup F 66 (-1 : Int32)) G hm)
theorem cw_X6_forget_15 (fu : Nat) {res : Int32 × PF × PG} (C : cMC p R s m args c A v RX6 cX6_forget 1 0 0 (xn res.2.1 - xn K0)) (hret : ∀ (b1 : Nat) (H1 : Heap) (locs1 : List Loc) (ls1 : Array Slot) (pc : Nat), cMW s A v a b1 K0 res.2.1 res.2.2 H1 locs1 → decode cX6_forget pc = .ok (.return_, 1) → W p l e R s m args below meth c H1 locs1 (xn res.2.1 - xn K0) (2 * (xn res.2.1 - xn K0)) Q (F0 m pc ls1 [])) (F : PF) (G : PG) (hm : cb_X6_forget_15 fu F G = some res) {b : Nat} {H : Heap} {locs : List Loc} (hw : cMW s A v a b K0 F G H locs) {ls : Array Slot} (hl : lv_has ls 1 [(0, .ref (a 206))]) : W p l e R s m args below meth c H locs (xn F - xn K0) (2 * (xn F - xn K0)) Q (F0 m 15 ls []) := by
  have hx := C.1
  have hb := C.2.1
  unfold cb_X6_forget_15 at hm
  refine lv_aload_n hx hb dX6_forget_15 rfl (lv_at hl 0 rfl) ?_
  refine lv_iconst (v := (-1)) hx hb dX6_forget_16 (by decide) ?_
  refine cp_X6_30 C hw dX6_forget_17 (fun H locs hw => ?_)
  exact cw_X6_forget_20 fu C hret (fup F 66 (-1 : Int32)) G hm hw (lv_sub hl [0] rfl)
theorem cn_X6_forget_10 (fu : Nat) {res : Int32 × PF × PG} (F : PF) (G : PG) (hm : cb_X6_forget_10 fu F G = some res) : xn F ≤ xn res.2.1 := by
  unfold cb_X6_forget_10 at hm
  exact Nat.le_trans (Nat.le_of_eq (xn_fup (by decide)).symm) (cn_X6_forget_15 fu (fup F 65 (0 : Int32)) G hm)
theorem cw_X6_forget_10 (fu : Nat) {res : Int32 × PF × PG} (C : cMC p R s m args c A v RX6 cX6_forget 1 0 0 (xn res.2.1 - xn K0)) (hret : ∀ (b1 : Nat) (H1 : Heap) (locs1 : List Loc) (ls1 : Array Slot) (pc : Nat), cMW s A v a b1 K0 res.2.1 res.2.2 H1 locs1 → decode cX6_forget pc = .ok (.return_, 1) → W p l e R s m args below meth c H1 locs1 (xn res.2.1 - xn K0) (2 * (xn res.2.1 - xn K0)) Q (F0 m pc ls1 [])) (F : PF) (G : PG) (hm : cb_X6_forget_10 fu F G = some res) {b : Nat} {H : Heap} {locs : List Loc} (hw : cMW s A v a b K0 F G H locs) {ls : Array Slot} (hl : lv_has ls 1 [(0, .ref (a 206))]) : W p l e R s m args below meth c H locs (xn F - xn K0) (2 * (xn F - xn K0)) Q (F0 m 10 ls []) := by
  have hx := C.1
  have hb := C.2.1
  unfold cb_X6_forget_10 at hm
  refine lv_aload_n hx hb dX6_forget_10 rfl (lv_at hl 0 rfl) ?_
  refine lv_iconst (v := 0) hx hb dX6_forget_11 (by decide) ?_
  refine cp_X6_43 C hw dX6_forget_12 (fun H locs hw => ?_)
  exact cw_X6_forget_15 fu C hret (fup F 65 (0 : Int32)) G hm hw (lv_sub hl [0] rfl)
theorem cn_X6_forget_5 (fu : Nat) {res : Int32 × PF × PG} (F : PF) (G : PG) (hm : cb_X6_forget_5 fu F G = some res) : xn F ≤ xn res.2.1 := by
  unfold cb_X6_forget_5 at hm
  exact Nat.le_trans (Nat.le_of_eq (xn_fup (by decide)).symm) (cn_X6_forget_10 fu (fup F 64 (0 : Int32)) G hm)
theorem cw_X6_forget_5 (fu : Nat) {res : Int32 × PF × PG} (C : cMC p R s m args c A v RX6 cX6_forget 1 0 0 (xn res.2.1 - xn K0)) (hret : ∀ (b1 : Nat) (H1 : Heap) (locs1 : List Loc) (ls1 : Array Slot) (pc : Nat), cMW s A v a b1 K0 res.2.1 res.2.2 H1 locs1 → decode cX6_forget pc = .ok (.return_, 1) → W p l e R s m args below meth c H1 locs1 (xn res.2.1 - xn K0) (2 * (xn res.2.1 - xn K0)) Q (F0 m pc ls1 [])) (F : PF) (G : PG) (hm : cb_X6_forget_5 fu F G = some res) {b : Nat} {H : Heap} {locs : List Loc} (hw : cMW s A v a b K0 F G H locs) {ls : Array Slot} (hl : lv_has ls 1 [(0, .ref (a 206))]) : W p l e R s m args below meth c H locs (xn F - xn K0) (2 * (xn F - xn K0)) Q (F0 m 5 ls []) := by
  have hx := C.1
  have hb := C.2.1
  unfold cb_X6_forget_5 at hm
  refine lv_aload_n hx hb dX6_forget_5 rfl (lv_at hl 0 rfl) ?_
  refine lv_iconst (v := 0) hx hb dX6_forget_6 (by decide) ?_
  refine cp_X6_40 C hw dX6_forget_7 (fun H locs hw => ?_)
  exact cw_X6_forget_10 fu C hret (fup F 64 (0 : Int32)) G hm hw (lv_sub hl [0] rfl)
theorem cn_X6_forget_0 (fu : Nat) {res : Int32 × PF × PG} (F : PF) (G : PG) (hm : cb_X6_forget_0 fu F G = some res) : xn F ≤ xn res.2.1 := by
  unfold cb_X6_forget_0 at hm
  exact Nat.le_trans (Nat.le_of_eq (xn_fup (by decide)).symm) (cn_X6_forget_5 fu (fup F 63 (0 : Int32)) G hm)
theorem cw_X6_forget_0 (fu : Nat) {res : Int32 × PF × PG} (C : cMC p R s m args c A v RX6 cX6_forget 1 0 0 (xn res.2.1 - xn K0)) (hret : ∀ (b1 : Nat) (H1 : Heap) (locs1 : List Loc) (ls1 : Array Slot) (pc : Nat), cMW s A v a b1 K0 res.2.1 res.2.2 H1 locs1 → decode cX6_forget pc = .ok (.return_, 1) → W p l e R s m args below meth c H1 locs1 (xn res.2.1 - xn K0) (2 * (xn res.2.1 - xn K0)) Q (F0 m pc ls1 [])) (F : PF) (G : PG) (hm : cb_X6_forget_0 fu F G = some res) {b : Nat} {H : Heap} {locs : List Loc} (hw : cMW s A v a b K0 F G H locs) {ls : Array Slot} (hl : lv_has ls 1 [(0, .ref (a 206))]) : W p l e R s m args below meth c H locs (xn F - xn K0) (2 * (xn F - xn K0)) Q (F0 m 0 ls []) := by
  have hx := C.1
  have hb := C.2.1
  unfold cb_X6_forget_0 at hm
  refine lv_aload_n hx hb dX6_forget_0 rfl (lv_at hl 0 rfl) ?_
  refine lv_iconst (v := 0) hx hb dX6_forget_1 (by decide) ?_
  refine cp_X6_37 C hw dX6_forget_2 (fun H locs hw => ?_)
  exact cw_X6_forget_5 fu C hret (fup F 63 (0 : Int32)) G hm hw (lv_sub hl [0] rfl)
theorem cn_X6_forget (fu : Nat) (F : PF) (G : PG) (q : Int32 × PF × PG) (hm : cf_X6_forget fu F G = some q) : xn F ≤ xn q.2.1 := cn_X6_forget_0 fu F G hm
theorem ck_X6_forget (l : Launch) (v : EV) (a : Nat → Nat) (b sz : Nat) (fu : Nat) (F : PF) (G : PG) (r : Int32) (F1 : PF) (G1 : PG) (hm : cf_X6_forget fu F G = some (r, F1, G1)) : cMV l yX6_forget cX6_forget 1 0 0 v a b sz [.ref (a 206)] F G F1 G1 := cMV.of (by decide) (Nat.le_of_ble_eq_true rfl) (fun p e R s m args below meth c Q A H locs ls C hw hl hret => cw_X6_forget_0 fu (res := (r, F1, G1)) C hret F G hm hw hl)
def cb_X6_startAnew_33 (fu : Nat) (F : PF) (G : PG) : PR := some (0, F, G)
def cb_X6_startAnew_14 (fu : Nat) (F : PF) (G : PG) : PR := cb_X6_startAnew_33 fu F (gcp G 86 54)
def cb_X6_startAnew_9 (fu : Nat) (x1 : Int32) (F : PF) (G : PG) : PR := cb_X6_startAnew_14 fu (fup F 67 x1) G
def cb_X6_startAnew_4 (fu : Nat) (x1 : Int32) (F : PF) (G : PG) : PR := cb_X6_startAnew_9 fu x1 (fup F 63 (1 : Int32)) G
def cb_X6_startAnew_0 (fu : Nat) (x1 : Int32) (F : PF) (G : PG) : PR := (cf_X6_forget fu F G).bind (fun q => cb_X6_startAnew_4 fu x1 q.2.1 q.2.2)
def cf_X6_startAnew (fu : Nat) (x1 : Int32) (F : PF) (G : PG) : PR := cb_X6_startAnew_0 fu x1 F G
theorem cn_X6_startAnew_33 (fu : Nat) {res : Int32 × PF × PG} (F : PF) (G : PG) (hm : cb_X6_startAnew_33 fu F G = some res) : xn F ≤ xn res.2.1 := by
  unfold cb_X6_startAnew_33 at hm
  obtain rfl := Option.some.inj hm
  exact Nat.le_refl _
theorem cw_X6_startAnew_33 (fu : Nat) {res : Int32 × PF × PG} (C : cMC p R s m args c A v RX6 cX6_startAnew 2 1 60 (xn res.2.1 - xn K0)) (hret : ∀ (b1 : Nat) (H1 : Heap) (locs1 : List Loc) (ls1 : Array Slot) (pc : Nat), cMW s A v a b1 K0 res.2.1 res.2.2 H1 locs1 → decode cX6_startAnew pc = .ok (.return_, 1) → W p l e R s m args below meth c H1 locs1 (xn res.2.1 - xn K0) (2 * (xn res.2.1 - xn K0)) Q (F0 m pc ls1 [])) (F : PF) (G : PG) (hm : cb_X6_startAnew_33 fu F G = some res) {b : Nat} {H : Heap} {locs : List Loc} (hw : cMW s A v a b K0 F G H locs) {ls : Array Slot} (hl : lv_has ls 2 []) : W p l e R s m args below meth c H locs (xn F - xn K0) (2 * (xn F - xn K0)) Q (F0 m 33 ls []) := by
  have hx := C.1
  have hb := C.2.1
  unfold cb_X6_startAnew_33 at hm
  obtain rfl := Option.some.inj hm
  exact hret _ _ _ _ _ hw dX6_startAnew_33
theorem cn_X6_startAnew_14 (fu : Nat) {res : Int32 × PF × PG} (F : PF) (G : PG) (hm : cb_X6_startAnew_14 fu F G = some res) : xn F ≤ xn res.2.1 := by
  unfold cb_X6_startAnew_14 at hm
  exact (cn_X6_startAnew_33 fu F (gcp G 86 54) hm)
theorem cw_X6_startAnew_14 (fu : Nat) {res : Int32 × PF × PG} (C : cMC p R s m args c A v RX6 cX6_startAnew 2 1 60 (xn res.2.1 - xn K0)) (hret : ∀ (b1 : Nat) (H1 : Heap) (locs1 : List Loc) (ls1 : Array Slot) (pc : Nat), cMW s A v a b1 K0 res.2.1 res.2.2 H1 locs1 → decode cX6_startAnew pc = .ok (.return_, 1) → W p l e R s m args below meth c H1 locs1 (xn res.2.1 - xn K0) (2 * (xn res.2.1 - xn K0)) Q (F0 m pc ls1 [])) (F : PF) (G : PG) (hm : cb_X6_startAnew_14 fu F G = some res) {b : Nat} {H : Heap} {locs : List Loc} (hw : cMW s A v a b K0 F G H locs) {ls : Array Slot} (hl : lv_has ls 2 [(0, .ref (a 206))]) : W p l e R s m args below meth c H locs (xn F - xn K0) (2 * (xn F - xn K0)) Q (F0 m 14 ls []) := by
  have hx := C.1
  have hb := C.2.1
  unfold cb_X6_startAnew_14 at hm
  refine lv_aload_n hx hb dX6_startAnew_14 rfl (lv_at hl 0 rfl) ?_
  refine cg_X6_22 C hw dX6_startAnew_15 ?_
  refine cg_X6_59 C hw dX6_startAnew_18 ?_
  refine lv_iconst (v := 0) hx hb dX6_startAnew_21 (by decide) ?_
  refine lv_aload_n hx hb dX6_startAnew_22 rfl (lv_at hl 0 rfl) ?_
  refine cg_X6_11 C hw dX6_startAnew_23 ?_
  refine lv_iconst (v := 0) hx hb dX6_startAnew_26 (by decide) ?_
  refine lv_sipush (v := 2000) hx hb dX6_startAnew_27 (by decide) ?_
  refine va_copyi hx hb (C.2.2.1.trans hl.1.symm) C.2.2.2.1 (C.2.2.2.2.1 _ cm_817) (C.2.2.2.2.1 _ cm_551) (C.2.2.2.2.1 _ cm_552) (C.2.2.2.2.1 _ cm_553) C.2.2.2.2.2.2.1 hw.1 hw.2.1 hw.2.2.1 36 24 0 0 rfl rfl rfl rfl rfl (by decide) (by decide) (by decide) (by decide) (by decide) (fun _ _ => rfl) (Nat.le_trans (by omega) C.2.2.2.2.2.2.2.1) (Nat.le_trans (by decide) C.2.2.2.2.2.2.2.2.1) dX6_startAnew_30 (fun H locs hP1 hD1 hS1 => ?_)
  have hw : cMW s A v a b K0 F (gcp G 86 54) H locs := ⟨hP1, hD1, hS1, hw.2.2.2⟩
  exact cw_X6_startAnew_33 fu C hret F (gcp G 86 54) hm hw (lv_sub hl [] rfl)
theorem cn_X6_startAnew_9 (fu : Nat) {res : Int32 × PF × PG} (x1 : Int32) (F : PF) (G : PG) (hm : cb_X6_startAnew_9 fu x1 F G = some res) : xn F ≤ xn res.2.1 := by
  unfold cb_X6_startAnew_9 at hm
  exact Nat.le_trans (Nat.le_of_eq (xn_fup (by decide)).symm) (cn_X6_startAnew_14 fu (fup F 67 x1) G hm)
theorem cw_X6_startAnew_9 (fu : Nat) {res : Int32 × PF × PG} (C : cMC p R s m args c A v RX6 cX6_startAnew 2 1 60 (xn res.2.1 - xn K0)) (hret : ∀ (b1 : Nat) (H1 : Heap) (locs1 : List Loc) (ls1 : Array Slot) (pc : Nat), cMW s A v a b1 K0 res.2.1 res.2.2 H1 locs1 → decode cX6_startAnew pc = .ok (.return_, 1) → W p l e R s m args below meth c H1 locs1 (xn res.2.1 - xn K0) (2 * (xn res.2.1 - xn K0)) Q (F0 m pc ls1 [])) (x1 : Int32) (F : PF) (G : PG) (hm : cb_X6_startAnew_9 fu x1 F G = some res) {b : Nat} {H : Heap} {locs : List Loc} (hw : cMW s A v a b K0 F G H locs) {ls : Array Slot} (hl : lv_has ls 2 [(0, .ref (a 206)), (1, .int x1)]) : W p l e R s m args below meth c H locs (xn F - xn K0) (2 * (xn F - xn K0)) Q (F0 m 9 ls []) := by
  have hx := C.1
  have hb := C.2.1
  unfold cb_X6_startAnew_9 at hm
  refine lv_aload_n hx hb dX6_startAnew_9 rfl (lv_at hl 0 rfl) ?_
  refine lv_iload_n hx hb dX6_startAnew_10 rfl (lv_at hl 1 rfl) ?_
  refine cp_X6_46 C hw dX6_startAnew_11 (fun H locs hw => ?_)
  exact cw_X6_startAnew_14 fu C hret (fup F 67 x1) G hm hw (lv_sub hl [0] rfl)
theorem cn_X6_startAnew_4 (fu : Nat) {res : Int32 × PF × PG} (x1 : Int32) (F : PF) (G : PG) (hm : cb_X6_startAnew_4 fu x1 F G = some res) : xn F ≤ xn res.2.1 := by
  unfold cb_X6_startAnew_4 at hm
  exact Nat.le_trans (Nat.le_of_eq (xn_fup (by decide)).symm) (cn_X6_startAnew_9 fu x1 (fup F 63 (1 : Int32)) G hm)
theorem cw_X6_startAnew_4 (fu : Nat) {res : Int32 × PF × PG} (C : cMC p R s m args c A v RX6 cX6_startAnew 2 1 60 (xn res.2.1 - xn K0)) (hret : ∀ (b1 : Nat) (H1 : Heap) (locs1 : List Loc) (ls1 : Array Slot) (pc : Nat), cMW s A v a b1 K0 res.2.1 res.2.2 H1 locs1 → decode cX6_startAnew pc = .ok (.return_, 1) → W p l e R s m args below meth c H1 locs1 (xn res.2.1 - xn K0) (2 * (xn res.2.1 - xn K0)) Q (F0 m pc ls1 [])) (x1 : Int32) (F : PF) (G : PG) (hm : cb_X6_startAnew_4 fu x1 F G = some res) {b : Nat} {H : Heap} {locs : List Loc} (hw : cMW s A v a b K0 F G H locs) {ls : Array Slot} (hl : lv_has ls 2 [(0, .ref (a 206)), (1, .int x1)]) : W p l e R s m args below meth c H locs (xn F - xn K0) (2 * (xn F - xn K0)) Q (F0 m 4 ls []) := by
  have hx := C.1
  have hb := C.2.1
  unfold cb_X6_startAnew_4 at hm
  refine lv_aload_n hx hb dX6_startAnew_4 rfl (lv_at hl 0 rfl) ?_
  refine lv_iconst (v := 1) hx hb dX6_startAnew_5 (by decide) ?_
  refine cp_X6_37 C hw dX6_startAnew_6 (fun H locs hw => ?_)
  exact cw_X6_startAnew_9 fu C hret x1 (fup F 63 (1 : Int32)) G hm hw (lv_sub hl [0, 1] rfl)
theorem cn_X6_startAnew_0 (fu : Nat) {res : Int32 × PF × PG} (x1 : Int32) (F : PF) (G : PG) (hm : cb_X6_startAnew_0 fu x1 F G = some res) : xn F ≤ xn res.2.1 := by
  unfold cb_X6_startAnew_0 at hm
  obtain ⟨⟨r1, F1, G1⟩, hc, hm⟩ := bind_elim hm
  exact Nat.le_trans (cn_X6_forget fu F G _ hc) (cn_X6_startAnew_4 fu x1 F1 G1 hm)
theorem cw_X6_startAnew_0 (fu : Nat) {res : Int32 × PF × PG} (C : cMC p R s m args c A v RX6 cX6_startAnew 2 1 60 (xn res.2.1 - xn K0)) (hret : ∀ (b1 : Nat) (H1 : Heap) (locs1 : List Loc) (ls1 : Array Slot) (pc : Nat), cMW s A v a b1 K0 res.2.1 res.2.2 H1 locs1 → decode cX6_startAnew pc = .ok (.return_, 1) → W p l e R s m args below meth c H1 locs1 (xn res.2.1 - xn K0) (2 * (xn res.2.1 - xn K0)) Q (F0 m pc ls1 [])) (x1 : Int32) (F : PF) (G : PG) (hm : cb_X6_startAnew_0 fu x1 F G = some res) {b : Nat} {H : Heap} {locs : List Loc} (hw : cMW s A v a b K0 F G H locs) {ls : Array Slot} (hl : lv_has ls 2 [(0, .ref (a 206)), (1, .int x1)]) : W p l e R s m args below meth c H locs (xn F - xn K0) (2 * (xn F - xn K0)) Q (F0 m 0 ls []) := by
  have hx := C.1
  have hb := C.2.1
  unfold cb_X6_startAnew_0 at hm
  refine lv_aload_n hx hb dX6_startAnew_0 rfl (lv_at hl 0 rfl) ?_
  obtain ⟨⟨r1, F1, G1⟩, hc, hm⟩ := bind_elim hm
  refine ccallV (n := 0) (As := []) (rest := []) C hw (ck_X6_forget l v a _ _ fu F G r1 F1 G1 hc) (cn_X6_forget fu F G _ hc) (Nat.sub_le_sub_right (cn_X6_startAnew_4 fu x1 F1 G1 hm) _) (crecv_X6 C hw) cm_818 cm_19 cm_20 cm_21 cm_22 (by decide +kernel) rfl (by omega) (by omega) hl.1 rfl (Nat.le_of_ble_eq_true rfl) dX6_startAnew_1 (fun b H locs hw => ?_)
  exact cw_X6_startAnew_4 fu C hret x1 F1 G1 hm hw (lv_sub hl [0, 1] rfl)
theorem cn_X6_startAnew (fu : Nat) (x1 : Int32) (F : PF) (G : PG) (q : Int32 × PF × PG) (hm : cf_X6_startAnew fu x1 F G = some q) : xn F ≤ xn q.2.1 := cn_X6_startAnew_0 fu x1 F G hm
theorem ck_X6_startAnew (l : Launch) (v : EV) (a : Nat → Nat) (b sz : Nat) (fu : Nat) (x1 : Int32) (F : PF) (G : PG) (r : Int32) (F1 : PF) (G1 : PG) (hm : cf_X6_startAnew fu x1 F G = some (r, F1, G1)) : cMV l yX6_startAnew cX6_startAnew 2 1 60 v a b sz [.ref (a 206), .int x1] F G F1 G1 := cMV.of (by decide) (Nat.le_of_ble_eq_true rfl) (fun p e R s m args below meth c Q A H locs ls C hw hl hret => cw_X6_startAnew_0 fu (res := (r, F1, G1)) C hret x1 F G hm hw hl)
def cb_X6_depth_0 (fu : Nat) (F : PF) (G : PG) : PR := some (((F 59) - (2000 : Int32)), F, G)
def cf_X6_depth (fu : Nat) (F : PF) (G : PG) : PR := cb_X6_depth_0 fu F G
theorem cn_X6_depth_0 (fu : Nat) {res : Int32 × PF × PG} (F : PF) (G : PG) (hm : cb_X6_depth_0 fu F G = some res) : xn F ≤ xn res.2.1 := by
  unfold cb_X6_depth_0 at hm
  obtain rfl := Option.some.inj hm
  exact Nat.le_refl _
theorem cw_X6_depth_0 (fu : Nat) {res : Int32 × PF × PG} (C : cMC p R s m args c A v RX6 cX6_depth 1 0 0 (xn res.2.1 - xn K0)) (hret : ∀ (b1 : Nat) (H1 : Heap) (locs1 : List Loc) (ls1 : Array Slot) (pc : Nat), cMW s A v a b1 K0 res.2.1 res.2.2 H1 locs1 → narrow .int (.int res.1) = .int res.1 → decode cX6_depth pc = .ok (.ireturn, 1) → W p l e R s m args below meth c H1 locs1 (xn res.2.1 - xn K0) (2 * (xn res.2.1 - xn K0)) Q (F0 m pc ls1 [.int res.1])) (F : PF) (G : PG) (hm : cb_X6_depth_0 fu F G = some res) {b : Nat} {H : Heap} {locs : List Loc} (hw : cMW s A v a b K0 F G H locs) {ls : Array Slot} (hl : lv_has ls 1 [(0, .ref (a 206))]) : W p l e R s m args below meth c H locs (xn F - xn K0) (2 * (xn F - xn K0)) Q (F0 m 0 ls []) := by
  have hx := C.1
  have hb := C.2.1
  unfold cb_X6_depth_0 at hm
  refine lv_aload_n hx hb dX6_depth_0 rfl (lv_at hl 0 rfl) ?_
  refine cg_X6_34 C hw dX6_depth_1 ?_
  refine lv_sipush (v := 2000) hx hb dX6_depth_4 (by decide) ?_
  refine lv_isub hx hb dX6_depth_7 ?_
  obtain rfl := Option.some.inj hm
  exact hret _ _ _ _ _ hw rfl dX6_depth_8
theorem cn_X6_depth (fu : Nat) (F : PF) (G : PG) (q : Int32 × PF × PG) (hm : cf_X6_depth fu F G = some q) : xn F ≤ xn q.2.1 := cn_X6_depth_0 fu F G hm
theorem ck_X6_depth (l : Launch) (v : EV) (a : Nat → Nat) (b sz : Nat) (fu : Nat) (F : PF) (G : PG) (r : Int32) (F1 : PF) (G1 : PG) (hm : cf_X6_depth fu F G = some (r, F1, G1)) : cMI l yX6_depth cX6_depth 1 (some .int) 0 0 v a b sz [.ref (a 206)] F G r F1 G1 := cMI.of (ty := .int) (by decide) rfl (Nat.le_of_ble_eq_true rfl) (fun p e R s m args below meth c Q A H locs ls C hw hl hret => cw_X6_depth_0 fu (res := (r, F1, G1)) C hret F G hm hw hl)
def cb_X6_held_21 (fu : Nat) (z0 : Int32) (F : PF) (G : PG) : PR := some (z0, F, G)
def cb_X6_held_11 (fu : Nat) (F : PF) (G : PG) : PR := cb_X6_held_21 fu 0 F G
def cb_X6_held_15 (fu : Nat) (x1 : Int32) (F : PF) (G : PG) : PR := if ixb x1 4000 = true then (cb_X6_held_21 fu (G 54 x1.toNatClampNeg) F G) else none
def cb_X6_held_4 (fu : Nat) (x1 : Int32) (F : PF) (G : PG) : PR := if x1 < (4000 : Int32) then cb_X6_held_15 fu x1 F G else cb_X6_held_11 fu F G
def cb_X6_held_0 (fu : Nat) (x1 : Int32) (F : PF) (G : PG) : PR := if x1 < (0 : Int32) then cb_X6_held_11 fu F G else cb_X6_held_4 fu x1 F G
def cf_X6_held (fu : Nat) (x1 : Int32) (F : PF) (G : PG) : PR := cb_X6_held_0 fu x1 F G
theorem cn_X6_held_21 (fu : Nat) {res : Int32 × PF × PG} (z0 : Int32) (F : PF) (G : PG) (hm : cb_X6_held_21 fu z0 F G = some res) : xn F ≤ xn res.2.1 := by
  unfold cb_X6_held_21 at hm
  obtain rfl := Option.some.inj hm
  exact Nat.le_refl _
theorem cw_X6_held_21 (fu : Nat) {res : Int32 × PF × PG} (C : cMC p R s m args c A v RX6 cX6_held 2 0 0 (xn res.2.1 - xn K0)) (hret : ∀ (b1 : Nat) (H1 : Heap) (locs1 : List Loc) (ls1 : Array Slot) (pc : Nat), cMW s A v a b1 K0 res.2.1 res.2.2 H1 locs1 → narrow .int (.int res.1) = .int res.1 → decode cX6_held pc = .ok (.ireturn, 1) → W p l e R s m args below meth c H1 locs1 (xn res.2.1 - xn K0) (2 * (xn res.2.1 - xn K0)) Q (F0 m pc ls1 [.int res.1])) (z0 : Int32) (F : PF) (G : PG) (hm : cb_X6_held_21 fu z0 F G = some res) {b : Nat} {H : Heap} {locs : List Loc} (hw : cMW s A v a b K0 F G H locs) {ls : Array Slot} (hl : lv_has ls 2 []) : W p l e R s m args below meth c H locs (xn F - xn K0) (2 * (xn F - xn K0)) Q (F0 m 21 ls [.int z0]) := by
  have hx := C.1
  have hb := C.2.1
  unfold cb_X6_held_21 at hm
  obtain rfl := Option.some.inj hm
  exact hret _ _ _ _ _ hw rfl dX6_held_21
theorem cn_X6_held_11 (fu : Nat) {res : Int32 × PF × PG} (F : PF) (G : PG) (hm : cb_X6_held_11 fu F G = some res) : xn F ≤ xn res.2.1 := by
  unfold cb_X6_held_11 at hm
  exact (cn_X6_held_21 fu 0 F G hm)
theorem cw_X6_held_11 (fu : Nat) {res : Int32 × PF × PG} (C : cMC p R s m args c A v RX6 cX6_held 2 0 0 (xn res.2.1 - xn K0)) (hret : ∀ (b1 : Nat) (H1 : Heap) (locs1 : List Loc) (ls1 : Array Slot) (pc : Nat), cMW s A v a b1 K0 res.2.1 res.2.2 H1 locs1 → narrow .int (.int res.1) = .int res.1 → decode cX6_held pc = .ok (.ireturn, 1) → W p l e R s m args below meth c H1 locs1 (xn res.2.1 - xn K0) (2 * (xn res.2.1 - xn K0)) Q (F0 m pc ls1 [.int res.1])) (F : PF) (G : PG) (hm : cb_X6_held_11 fu F G = some res) {b : Nat} {H : Heap} {locs : List Loc} (hw : cMW s A v a b K0 F G H locs) {ls : Array Slot} (hl : lv_has ls 2 []) : W p l e R s m args below meth c H locs (xn F - xn K0) (2 * (xn F - xn K0)) Q (F0 m 11 ls []) := by
  have hx := C.1
  have hb := C.2.1
  unfold cb_X6_held_11 at hm
  refine lv_iconst (v := 0) hx hb dX6_held_11 (by decide) ?_
  refine lv_goto (tgt := 21) hx hb dX6_held_12 (by decide) ?_
  exact cw_X6_held_21 fu C hret 0 F G hm hw (lv_sub hl [] rfl)
theorem cn_X6_held_15 (fu : Nat) {res : Int32 × PF × PG} (x1 : Int32) (F : PF) (G : PG) (hm : cb_X6_held_15 fu x1 F G = some res) : xn F ≤ xn res.2.1 := by
  unfold cb_X6_held_15 at hm
  have hm := (ix_elim hm).2
  exact (cn_X6_held_21 fu (G 54 x1.toNatClampNeg) F G hm)
theorem cw_X6_held_15 (fu : Nat) {res : Int32 × PF × PG} (C : cMC p R s m args c A v RX6 cX6_held 2 0 0 (xn res.2.1 - xn K0)) (hret : ∀ (b1 : Nat) (H1 : Heap) (locs1 : List Loc) (ls1 : Array Slot) (pc : Nat), cMW s A v a b1 K0 res.2.1 res.2.2 H1 locs1 → narrow .int (.int res.1) = .int res.1 → decode cX6_held pc = .ok (.ireturn, 1) → W p l e R s m args below meth c H1 locs1 (xn res.2.1 - xn K0) (2 * (xn res.2.1 - xn K0)) Q (F0 m pc ls1 [.int res.1])) (x1 : Int32) (F : PF) (G : PG) (hm : cb_X6_held_15 fu x1 F G = some res) {b : Nat} {H : Heap} {locs : List Loc} (hw : cMW s A v a b K0 F G H locs) {ls : Array Slot} (hl : lv_has ls 2 [(0, .ref (a 206)), (1, .int x1)]) : W p l e R s m args below meth c H locs (xn F - xn K0) (2 * (xn F - xn K0)) Q (F0 m 15 ls []) := by
  have hx := C.1
  have hb := C.2.1
  unfold cb_X6_held_15 at hm
  refine lv_aload_n hx hb dX6_held_15 rfl (lv_at hl 0 rfl) ?_
  refine cg_X6_11 C hw dX6_held_16 ?_
  refine lv_iload_n hx hb dX6_held_19 rfl (lv_at hl 1 rfl) ?_
  obtain ⟨hi, hm⟩ := ix_elim hm
  refine cal_54 C hw hi dX6_held_20 ?_
  exact cw_X6_held_21 fu C hret (G 54 x1.toNatClampNeg) F G hm hw (lv_sub hl [] rfl)
theorem cn_X6_held_4 (fu : Nat) {res : Int32 × PF × PG} (x1 : Int32) (F : PF) (G : PG) (hm : cb_X6_held_4 fu x1 F G = some res) : xn F ≤ xn res.2.1 := by
  unfold cb_X6_held_4 at hm
  by_cases c_1 : x1 < (4000 : Int32)
  · have hm := (if_pos c_1).symm.trans hm
    exact (cn_X6_held_15 fu x1 F G hm)
  · have hm := (if_neg c_1).symm.trans hm
    exact (cn_X6_held_11 fu F G hm)
theorem cw_X6_held_4 (fu : Nat) {res : Int32 × PF × PG} (C : cMC p R s m args c A v RX6 cX6_held 2 0 0 (xn res.2.1 - xn K0)) (hret : ∀ (b1 : Nat) (H1 : Heap) (locs1 : List Loc) (ls1 : Array Slot) (pc : Nat), cMW s A v a b1 K0 res.2.1 res.2.2 H1 locs1 → narrow .int (.int res.1) = .int res.1 → decode cX6_held pc = .ok (.ireturn, 1) → W p l e R s m args below meth c H1 locs1 (xn res.2.1 - xn K0) (2 * (xn res.2.1 - xn K0)) Q (F0 m pc ls1 [.int res.1])) (x1 : Int32) (F : PF) (G : PG) (hm : cb_X6_held_4 fu x1 F G = some res) {b : Nat} {H : Heap} {locs : List Loc} (hw : cMW s A v a b K0 F G H locs) {ls : Array Slot} (hl : lv_has ls 2 [(0, .ref (a 206)), (1, .int x1)]) : W p l e R s m args below meth c H locs (xn F - xn K0) (2 * (xn F - xn K0)) Q (F0 m 4 ls []) := by
  have hx := C.1
  have hb := C.2.1
  unfold cb_X6_held_4 at hm
  refine lv_iload_n hx hb dX6_held_4 rfl (lv_at hl 1 rfl) ?_
  refine lv_sipush (v := 4000) hx hb dX6_held_5 (by decide) ?_
  refine lv_icmp_lt (tgt := 15) hx hb dX6_held_8 (by decide) (fun c_1 => ?_) (fun c_1 => ?_)
  · have hm := (if_pos c_1).symm.trans hm
    exact cw_X6_held_15 fu C hret x1 F G hm hw (lv_sub hl [0, 1] rfl)
  · have hm := (if_neg c_1).symm.trans hm
    exact cw_X6_held_11 fu C hret F G hm hw (lv_sub hl [] rfl)
theorem cn_X6_held_0 (fu : Nat) {res : Int32 × PF × PG} (x1 : Int32) (F : PF) (G : PG) (hm : cb_X6_held_0 fu x1 F G = some res) : xn F ≤ xn res.2.1 := by
  unfold cb_X6_held_0 at hm
  by_cases c_1 : x1 < (0 : Int32)
  · have hm := (if_pos c_1).symm.trans hm
    exact (cn_X6_held_11 fu F G hm)
  · have hm := (if_neg c_1).symm.trans hm
    exact (cn_X6_held_4 fu x1 F G hm)
theorem cw_X6_held_0 (fu : Nat) {res : Int32 × PF × PG} (C : cMC p R s m args c A v RX6 cX6_held 2 0 0 (xn res.2.1 - xn K0)) (hret : ∀ (b1 : Nat) (H1 : Heap) (locs1 : List Loc) (ls1 : Array Slot) (pc : Nat), cMW s A v a b1 K0 res.2.1 res.2.2 H1 locs1 → narrow .int (.int res.1) = .int res.1 → decode cX6_held pc = .ok (.ireturn, 1) → W p l e R s m args below meth c H1 locs1 (xn res.2.1 - xn K0) (2 * (xn res.2.1 - xn K0)) Q (F0 m pc ls1 [.int res.1])) (x1 : Int32) (F : PF) (G : PG) (hm : cb_X6_held_0 fu x1 F G = some res) {b : Nat} {H : Heap} {locs : List Loc} (hw : cMW s A v a b K0 F G H locs) {ls : Array Slot} (hl : lv_has ls 2 [(0, .ref (a 206)), (1, .int x1)]) : W p l e R s m args below meth c H locs (xn F - xn K0) (2 * (xn F - xn K0)) Q (F0 m 0 ls []) := by
  have hx := C.1
  have hb := C.2.1
  unfold cb_X6_held_0 at hm
  refine lv_iload_n hx hb dX6_held_0 rfl (lv_at hl 1 rfl) ?_
  refine lv_if_lt (tgt := 11) hx hb dX6_held_1 (by decide) (fun c_1 => ?_) (fun c_1 => ?_)
  · have hm := (if_pos c_1).symm.trans hm
    exact cw_X6_held_11 fu C hret F G hm hw (lv_sub hl [] rfl)
  · have hm := (if_neg c_1).symm.trans hm
    exact cw_X6_held_4 fu C hret x1 F G hm hw (lv_sub hl [0, 1] rfl)
theorem cn_X6_held (fu : Nat) (x1 : Int32) (F : PF) (G : PG) (q : Int32 × PF × PG) (hm : cf_X6_held fu x1 F G = some q) : xn F ≤ xn q.2.1 := cn_X6_held_0 fu x1 F G hm
theorem ck_X6_held (l : Launch) (v : EV) (a : Nat → Nat) (b sz : Nat) (fu : Nat) (x1 : Int32) (F : PF) (G : PG) (r : Int32) (F1 : PF) (G1 : PG) (hm : cf_X6_held fu x1 F G = some (r, F1, G1)) : cMI l yX6_held cX6_held 2 (some .int) 0 0 v a b sz [.ref (a 206), .int x1] F G r F1 G1 := cMI.of (ty := .int) (by decide) rfl (Nat.le_of_ble_eq_true rfl) (fun p e R s m args below meth c Q A H locs ls C hw hl hret => cw_X6_held_0 fu (res := (r, F1, G1)) C hret x1 F G hm hw hl)
def cb_X6_hold_18 (fu : Nat) (F : PF) (G : PG) : PR := some (0, F, G)
def cb_X6_hold_11 (fu : Nat) (x1 : Int32) (x2 : Int32) (F : PF) (G : PG) : PR := if ixb x1 4000 = true then (cb_X6_hold_18 fu F (gup G 54 x1.toNatClampNeg x2)) else none
def cb_X6_hold_4 (fu : Nat) (x1 : Int32) (x2 : Int32) (F : PF) (G : PG) : PR := if (4000 : Int32) ≤ x1 then cb_X6_hold_18 fu F G else cb_X6_hold_11 fu x1 x2 F G
def cb_X6_hold_0 (fu : Nat) (x1 : Int32) (x2 : Int32) (F : PF) (G : PG) : PR := if x1 < (0 : Int32) then cb_X6_hold_18 fu F G else cb_X6_hold_4 fu x1 x2 F G
def cf_X6_hold (fu : Nat) (x1 : Int32) (x2 : Int32) (F : PF) (G : PG) : PR := cb_X6_hold_0 fu x1 x2 F G
theorem cn_X6_hold_18 (fu : Nat) {res : Int32 × PF × PG} (F : PF) (G : PG) (hm : cb_X6_hold_18 fu F G = some res) : xn F ≤ xn res.2.1 := by
  unfold cb_X6_hold_18 at hm
  obtain rfl := Option.some.inj hm
  exact Nat.le_refl _
theorem cw_X6_hold_18 (fu : Nat) {res : Int32 × PF × PG} (C : cMC p R s m args c A v RX6 cX6_hold 3 0 0 (xn res.2.1 - xn K0)) (hret : ∀ (b1 : Nat) (H1 : Heap) (locs1 : List Loc) (ls1 : Array Slot) (pc : Nat), cMW s A v a b1 K0 res.2.1 res.2.2 H1 locs1 → decode cX6_hold pc = .ok (.return_, 1) → W p l e R s m args below meth c H1 locs1 (xn res.2.1 - xn K0) (2 * (xn res.2.1 - xn K0)) Q (F0 m pc ls1 [])) (F : PF) (G : PG) (hm : cb_X6_hold_18 fu F G = some res) {b : Nat} {H : Heap} {locs : List Loc} (hw : cMW s A v a b K0 F G H locs) {ls : Array Slot} (hl : lv_has ls 3 []) : W p l e R s m args below meth c H locs (xn F - xn K0) (2 * (xn F - xn K0)) Q (F0 m 18 ls []) := by
  have hx := C.1
  have hb := C.2.1
  unfold cb_X6_hold_18 at hm
  obtain rfl := Option.some.inj hm
  exact hret _ _ _ _ _ hw dX6_hold_18
theorem cn_X6_hold_11 (fu : Nat) {res : Int32 × PF × PG} (x1 : Int32) (x2 : Int32) (F : PF) (G : PG) (hm : cb_X6_hold_11 fu x1 x2 F G = some res) : xn F ≤ xn res.2.1 := by
  unfold cb_X6_hold_11 at hm
  have hm := (ix_elim hm).2
  exact (cn_X6_hold_18 fu F (gup G 54 x1.toNatClampNeg x2) hm)
theorem cw_X6_hold_11 (fu : Nat) {res : Int32 × PF × PG} (C : cMC p R s m args c A v RX6 cX6_hold 3 0 0 (xn res.2.1 - xn K0)) (hret : ∀ (b1 : Nat) (H1 : Heap) (locs1 : List Loc) (ls1 : Array Slot) (pc : Nat), cMW s A v a b1 K0 res.2.1 res.2.2 H1 locs1 → decode cX6_hold pc = .ok (.return_, 1) → W p l e R s m args below meth c H1 locs1 (xn res.2.1 - xn K0) (2 * (xn res.2.1 - xn K0)) Q (F0 m pc ls1 [])) (x1 : Int32) (x2 : Int32) (F : PF) (G : PG) (hm : cb_X6_hold_11 fu x1 x2 F G = some res) {b : Nat} {H : Heap} {locs : List Loc} (hw : cMW s A v a b K0 F G H locs) {ls : Array Slot} (hl : lv_has ls 3 [(0, .ref (a 206)), (1, .int x1), (2, .int x2)]) : W p l e R s m args below meth c H locs (xn F - xn K0) (2 * (xn F - xn K0)) Q (F0 m 11 ls []) := by
  have hx := C.1
  have hb := C.2.1
  unfold cb_X6_hold_11 at hm
  refine lv_aload_n hx hb dX6_hold_11 rfl (lv_at hl 0 rfl) ?_
  refine cg_X6_11 C hw dX6_hold_12 ?_
  refine lv_iload_n hx hb dX6_hold_15 rfl (lv_at hl 1 rfl) ?_
  refine lv_iload_n hx hb dX6_hold_16 rfl (lv_at hl 2 rfl) ?_
  obtain ⟨hi, hm⟩ := ix_elim hm
  refine cas_54 C hw hi dX6_hold_17 (fun H locs hw => ?_)
  exact cw_X6_hold_18 fu C hret F (gup G 54 x1.toNatClampNeg x2) hm hw (lv_sub hl [] rfl)
theorem cn_X6_hold_4 (fu : Nat) {res : Int32 × PF × PG} (x1 : Int32) (x2 : Int32) (F : PF) (G : PG) (hm : cb_X6_hold_4 fu x1 x2 F G = some res) : xn F ≤ xn res.2.1 := by
  unfold cb_X6_hold_4 at hm
  by_cases c_1 : (4000 : Int32) ≤ x1
  · have hm := (if_pos c_1).symm.trans hm
    exact (cn_X6_hold_18 fu F G hm)
  · have hm := (if_neg c_1).symm.trans hm
    exact (cn_X6_hold_11 fu x1 x2 F G hm)
theorem cw_X6_hold_4 (fu : Nat) {res : Int32 × PF × PG} (C : cMC p R s m args c A v RX6 cX6_hold 3 0 0 (xn res.2.1 - xn K0)) (hret : ∀ (b1 : Nat) (H1 : Heap) (locs1 : List Loc) (ls1 : Array Slot) (pc : Nat), cMW s A v a b1 K0 res.2.1 res.2.2 H1 locs1 → decode cX6_hold pc = .ok (.return_, 1) → W p l e R s m args below meth c H1 locs1 (xn res.2.1 - xn K0) (2 * (xn res.2.1 - xn K0)) Q (F0 m pc ls1 [])) (x1 : Int32) (x2 : Int32) (F : PF) (G : PG) (hm : cb_X6_hold_4 fu x1 x2 F G = some res) {b : Nat} {H : Heap} {locs : List Loc} (hw : cMW s A v a b K0 F G H locs) {ls : Array Slot} (hl : lv_has ls 3 [(0, .ref (a 206)), (1, .int x1), (2, .int x2)]) : W p l e R s m args below meth c H locs (xn F - xn K0) (2 * (xn F - xn K0)) Q (F0 m 4 ls []) := by
  have hx := C.1
  have hb := C.2.1
  unfold cb_X6_hold_4 at hm
  refine lv_iload_n hx hb dX6_hold_4 rfl (lv_at hl 1 rfl) ?_
  refine lv_sipush (v := 4000) hx hb dX6_hold_5 (by decide) ?_
  refine lv_icmp_ge (tgt := 18) hx hb dX6_hold_8 (by decide) (fun c_1 => ?_) (fun c_1 => ?_)
  · have hm := (if_pos c_1).symm.trans hm
    exact cw_X6_hold_18 fu C hret F G hm hw (lv_sub hl [] rfl)
  · have hm := (if_neg c_1).symm.trans hm
    exact cw_X6_hold_11 fu C hret x1 x2 F G hm hw (lv_sub hl [0, 1, 2] rfl)
theorem cn_X6_hold_0 (fu : Nat) {res : Int32 × PF × PG} (x1 : Int32) (x2 : Int32) (F : PF) (G : PG) (hm : cb_X6_hold_0 fu x1 x2 F G = some res) : xn F ≤ xn res.2.1 := by
  unfold cb_X6_hold_0 at hm
  by_cases c_1 : x1 < (0 : Int32)
  · have hm := (if_pos c_1).symm.trans hm
    exact (cn_X6_hold_18 fu F G hm)
  · have hm := (if_neg c_1).symm.trans hm
    exact (cn_X6_hold_4 fu x1 x2 F G hm)
theorem cw_X6_hold_0 (fu : Nat) {res : Int32 × PF × PG} (C : cMC p R s m args c A v RX6 cX6_hold 3 0 0 (xn res.2.1 - xn K0)) (hret : ∀ (b1 : Nat) (H1 : Heap) (locs1 : List Loc) (ls1 : Array Slot) (pc : Nat), cMW s A v a b1 K0 res.2.1 res.2.2 H1 locs1 → decode cX6_hold pc = .ok (.return_, 1) → W p l e R s m args below meth c H1 locs1 (xn res.2.1 - xn K0) (2 * (xn res.2.1 - xn K0)) Q (F0 m pc ls1 [])) (x1 : Int32) (x2 : Int32) (F : PF) (G : PG) (hm : cb_X6_hold_0 fu x1 x2 F G = some res) {b : Nat} {H : Heap} {locs : List Loc} (hw : cMW s A v a b K0 F G H locs) {ls : Array Slot} (hl : lv_has ls 3 [(0, .ref (a 206)), (1, .int x1), (2, .int x2)]) : W p l e R s m args below meth c H locs (xn F - xn K0) (2 * (xn F - xn K0)) Q (F0 m 0 ls []) := by
  have hx := C.1
  have hb := C.2.1
  unfold cb_X6_hold_0 at hm
  refine lv_iload_n hx hb dX6_hold_0 rfl (lv_at hl 1 rfl) ?_
  refine lv_if_lt (tgt := 18) hx hb dX6_hold_1 (by decide) (fun c_1 => ?_) (fun c_1 => ?_)
  · have hm := (if_pos c_1).symm.trans hm
    exact cw_X6_hold_18 fu C hret F G hm hw (lv_sub hl [] rfl)
  · have hm := (if_neg c_1).symm.trans hm
    exact cw_X6_hold_4 fu C hret x1 x2 F G hm hw (lv_sub hl [0, 1, 2] rfl)
theorem cn_X6_hold (fu : Nat) (x1 : Int32) (x2 : Int32) (F : PF) (G : PG) (q : Int32 × PF × PG) (hm : cf_X6_hold fu x1 x2 F G = some q) : xn F ≤ xn q.2.1 := cn_X6_hold_0 fu x1 x2 F G hm
theorem ck_X6_hold (l : Launch) (v : EV) (a : Nat → Nat) (b sz : Nat) (fu : Nat) (x1 : Int32) (x2 : Int32) (F : PF) (G : PG) (r : Int32) (F1 : PF) (G1 : PG) (hm : cf_X6_hold fu x1 x2 F G = some (r, F1, G1)) : cMV l yX6_hold cX6_hold 3 0 0 v a b sz [.ref (a 206), .int x1, .int x2] F G F1 G1 := cMV.of (by decide) (Nat.le_of_ble_eq_true rfl) (fun p e R s m args below meth c Q A H locs ls C hw hl hret => cw_X6_hold_0 fu (res := (r, F1, G1)) C hret x1 x2 F G hm hw hl)
def cb_X6_over_10 (fu : Nat) (F : PF) (G : PG) : PR := some (0, F, G)
def cb_X6_over_5 (fu : Nat) (F : PF) (G : PG) : PR := cb_X6_over_10 fu (fup F 61 (0 : Int32)) G
def cb_X6_over_0 (fu : Nat) (x1 : Int32) (F : PF) (G : PG) : PR := cb_X6_over_5 fu (fup F 63 x1) G
def cf_X6_over (fu : Nat) (x1 : Int32) (F : PF) (G : PG) : PR := cb_X6_over_0 fu x1 F G
theorem cn_X6_over_10 (fu : Nat) {res : Int32 × PF × PG} (F : PF) (G : PG) (hm : cb_X6_over_10 fu F G = some res) : xn F ≤ xn res.2.1 := by
  unfold cb_X6_over_10 at hm
  obtain rfl := Option.some.inj hm
  exact Nat.le_refl _
theorem cw_X6_over_10 (fu : Nat) {res : Int32 × PF × PG} (C : cMC p R s m args c A v RX6 cX6_over 2 0 0 (xn res.2.1 - xn K0)) (hret : ∀ (b1 : Nat) (H1 : Heap) (locs1 : List Loc) (ls1 : Array Slot) (pc : Nat), cMW s A v a b1 K0 res.2.1 res.2.2 H1 locs1 → decode cX6_over pc = .ok (.return_, 1) → W p l e R s m args below meth c H1 locs1 (xn res.2.1 - xn K0) (2 * (xn res.2.1 - xn K0)) Q (F0 m pc ls1 [])) (F : PF) (G : PG) (hm : cb_X6_over_10 fu F G = some res) {b : Nat} {H : Heap} {locs : List Loc} (hw : cMW s A v a b K0 F G H locs) {ls : Array Slot} (hl : lv_has ls 2 []) : W p l e R s m args below meth c H locs (xn F - xn K0) (2 * (xn F - xn K0)) Q (F0 m 10 ls []) := by
  have hx := C.1
  have hb := C.2.1
  unfold cb_X6_over_10 at hm
  obtain rfl := Option.some.inj hm
  exact hret _ _ _ _ _ hw dX6_over_10
theorem cn_X6_over_5 (fu : Nat) {res : Int32 × PF × PG} (F : PF) (G : PG) (hm : cb_X6_over_5 fu F G = some res) : xn F ≤ xn res.2.1 := by
  unfold cb_X6_over_5 at hm
  exact Nat.le_trans (Nat.le_of_eq (xn_fup (by decide)).symm) (cn_X6_over_10 fu (fup F 61 (0 : Int32)) G hm)
theorem cw_X6_over_5 (fu : Nat) {res : Int32 × PF × PG} (C : cMC p R s m args c A v RX6 cX6_over 2 0 0 (xn res.2.1 - xn K0)) (hret : ∀ (b1 : Nat) (H1 : Heap) (locs1 : List Loc) (ls1 : Array Slot) (pc : Nat), cMW s A v a b1 K0 res.2.1 res.2.2 H1 locs1 → decode cX6_over pc = .ok (.return_, 1) → W p l e R s m args below meth c H1 locs1 (xn res.2.1 - xn K0) (2 * (xn res.2.1 - xn K0)) Q (F0 m pc ls1 [])) (F : PF) (G : PG) (hm : cb_X6_over_5 fu F G = some res) {b : Nat} {H : Heap} {locs : List Loc} (hw : cMW s A v a b K0 F G H locs) {ls : Array Slot} (hl : lv_has ls 2 [(0, .ref (a 206))]) : W p l e R s m args below meth c H locs (xn F - xn K0) (2 * (xn F - xn K0)) Q (F0 m 5 ls []) := by
  have hx := C.1
  have hb := C.2.1
  unfold cb_X6_over_5 at hm
  refine lv_aload_n hx hb dX6_over_5 rfl (lv_at hl 0 rfl) ?_
  refine lv_iconst (v := 0) hx hb dX6_over_6 (by decide) ?_
  refine cp_X6_105 C hw (by decide) dX6_over_7 (fun H locs hw => ?_)
  exact cw_X6_over_10 fu C hret (fup F 61 (0 : Int32)) G hm hw (lv_sub hl [] rfl)
theorem cn_X6_over_0 (fu : Nat) {res : Int32 × PF × PG} (x1 : Int32) (F : PF) (G : PG) (hm : cb_X6_over_0 fu x1 F G = some res) : xn F ≤ xn res.2.1 := by
  unfold cb_X6_over_0 at hm
  exact Nat.le_trans (Nat.le_of_eq (xn_fup (by decide)).symm) (cn_X6_over_5 fu (fup F 63 x1) G hm)
theorem cw_X6_over_0 (fu : Nat) {res : Int32 × PF × PG} (C : cMC p R s m args c A v RX6 cX6_over 2 0 0 (xn res.2.1 - xn K0)) (hret : ∀ (b1 : Nat) (H1 : Heap) (locs1 : List Loc) (ls1 : Array Slot) (pc : Nat), cMW s A v a b1 K0 res.2.1 res.2.2 H1 locs1 → decode cX6_over pc = .ok (.return_, 1) → W p l e R s m args below meth c H1 locs1 (xn res.2.1 - xn K0) (2 * (xn res.2.1 - xn K0)) Q (F0 m pc ls1 [])) (x1 : Int32) (F : PF) (G : PG) (hm : cb_X6_over_0 fu x1 F G = some res) {b : Nat} {H : Heap} {locs : List Loc} (hw : cMW s A v a b K0 F G H locs) {ls : Array Slot} (hl : lv_has ls 2 [(0, .ref (a 206)), (1, .int x1)]) : W p l e R s m args below meth c H locs (xn F - xn K0) (2 * (xn F - xn K0)) Q (F0 m 0 ls []) := by
  have hx := C.1
  have hb := C.2.1
  unfold cb_X6_over_0 at hm
  refine lv_aload_n hx hb dX6_over_0 rfl (lv_at hl 0 rfl) ?_
  refine lv_iload_n hx hb dX6_over_1 rfl (lv_at hl 1 rfl) ?_
  refine cp_X6_37 C hw dX6_over_2 (fun H locs hw => ?_)
  exact cw_X6_over_5 fu C hret (fup F 63 x1) G hm hw (lv_sub hl [0] rfl)
theorem cn_X6_over (fu : Nat) (x1 : Int32) (F : PF) (G : PG) (q : Int32 × PF × PG) (hm : cf_X6_over fu x1 F G = some q) : xn F ≤ xn q.2.1 := cn_X6_over_0 fu x1 F G hm
theorem ck_X6_over (l : Launch) (v : EV) (a : Nat → Nat) (b sz : Nat) (fu : Nat) (x1 : Int32) (F : PF) (G : PG) (r : Int32) (F1 : PF) (G1 : PG) (hm : cf_X6_over fu x1 F G = some (r, F1, G1)) : cMV l yX6_over cX6_over 2 0 0 v a b sz [.ref (a 206), .int x1] F G F1 G1 := cMV.of (by decide) (Nat.le_of_ble_eq_true rfl) (fun p e R s m args below meth c Q A H locs ls C hw hl hret => cw_X6_over_0 fu (res := (r, F1, G1)) C hret x1 F G hm hw hl)
def cb_X6_element_52 (fu : Nat) (F : PF) (G : PG) : PR := some (0, F, G)
def cb_X6_element_39 (fu : Nat) (F : PF) (G : PG) : PR := cb_X6_element_52 fu F G
def cb_X6_element_34 (fu : Nat) (F : PF) (G : PG) : PR := (cf_X6_over fu 5 F G).bind (fun q => cb_X6_element_39 fu q.2.1 q.2.2)
def cb_X6_element_28 (fu : Nat) (x4 : Int32) (F : PF) (G : PG) : PR := cb_X6_element_34 fu (fup F 66 x4) G
def cb_X6_element_42 (fu : Nat) (x1 : Int32) (x3 : Int32) (x5 : Int32) (F : PF) (G : PG) : PR := (cf_X6_push fu ((x1 <<< (x3 &&& 31)) + x5) F G).bind (fun q => cb_X6_element_52 fu q.2.1 q.2.2)
def cb_X6_element_22 (fu : Nat) (x1 : Int32) (x2 : Int32) (x3 : Int32) (x4 : Int32) (x5 : Int32) (F : PF) (G : PG) : PR := if x5 < x2 then cb_X6_element_42 fu x1 x3 x5 F G else cb_X6_element_28 fu x4 F G
def cb_X6_element_15 (fu : Nat) (x1 : Int32) (x2 : Int32) (x3 : Int32) (x4 : Int32) (z0 : Int32) (F : PF) (G : PG) : PR := if z0 < (0 : Int32) then cb_X6_element_28 fu x4 F G else cb_X6_element_22 fu x1 x2 x3 x4 z0 F G
def cb_X6_element_9 (fu : Nat) (x1 : Int32) (x2 : Int32) (x3 : Int32) (z0 : Int32) (F : PF) (G : PG) : PR := (cf_X6_pop fu F G).bind (fun q => cb_X6_element_15 fu x1 x2 x3 z0 q.1 q.2.1 q.2.2)
def cb_X6_element_4 (fu : Nat) (x1 : Int32) (x2 : Int32) (z0 : Int32) (F : PF) (G : PG) : PR := (cf_X6_next fu F G).bind (fun q => cb_X6_element_9 fu x1 x2 z0 q.1 q.2.1 q.2.2)
def cb_X6_element_0 (fu : Nat) (x1 : Int32) (x2 : Int32) (F : PF) (G : PG) : PR := (cf_X6_next fu F G).bind (fun q => cb_X6_element_4 fu x1 x2 q.1 q.2.1 q.2.2)
def cf_X6_element (fu : Nat) (x1 : Int32) (x2 : Int32) (F : PF) (G : PG) : PR := cb_X6_element_0 fu x1 x2 F G
theorem cn_X6_element_52 (fu : Nat) {res : Int32 × PF × PG} (F : PF) (G : PG) (hm : cb_X6_element_52 fu F G = some res) : xn F ≤ xn res.2.1 := by
  unfold cb_X6_element_52 at hm
  obtain rfl := Option.some.inj hm
  exact Nat.le_refl _
theorem cw_X6_element_52 (fu : Nat) {res : Int32 × PF × PG} (C : cMC p R s m args c A v RX6 cX6_element 6 3 111 (xn res.2.1 - xn K0)) (hret : ∀ (b1 : Nat) (H1 : Heap) (locs1 : List Loc) (ls1 : Array Slot) (pc : Nat), cMW s A v a b1 K0 res.2.1 res.2.2 H1 locs1 → decode cX6_element pc = .ok (.return_, 1) → W p l e R s m args below meth c H1 locs1 (xn res.2.1 - xn K0) (2 * (xn res.2.1 - xn K0)) Q (F0 m pc ls1 [])) (F : PF) (G : PG) (hm : cb_X6_element_52 fu F G = some res) {b : Nat} {H : Heap} {locs : List Loc} (hw : cMW s A v a b K0 F G H locs) {ls : Array Slot} (hl : lv_has ls 6 []) : W p l e R s m args below meth c H locs (xn F - xn K0) (2 * (xn F - xn K0)) Q (F0 m 52 ls []) := by
  have hx := C.1
  have hb := C.2.1
  unfold cb_X6_element_52 at hm
  obtain rfl := Option.some.inj hm
  exact hret _ _ _ _ _ hw dX6_element_52
theorem cn_X6_element_39 (fu : Nat) {res : Int32 × PF × PG} (F : PF) (G : PG) (hm : cb_X6_element_39 fu F G = some res) : xn F ≤ xn res.2.1 := by
  unfold cb_X6_element_39 at hm
  exact (cn_X6_element_52 fu F G hm)
theorem cw_X6_element_39 (fu : Nat) {res : Int32 × PF × PG} (C : cMC p R s m args c A v RX6 cX6_element 6 3 111 (xn res.2.1 - xn K0)) (hret : ∀ (b1 : Nat) (H1 : Heap) (locs1 : List Loc) (ls1 : Array Slot) (pc : Nat), cMW s A v a b1 K0 res.2.1 res.2.2 H1 locs1 → decode cX6_element pc = .ok (.return_, 1) → W p l e R s m args below meth c H1 locs1 (xn res.2.1 - xn K0) (2 * (xn res.2.1 - xn K0)) Q (F0 m pc ls1 [])) (F : PF) (G : PG) (hm : cb_X6_element_39 fu F G = some res) {b : Nat} {H : Heap} {locs : List Loc} (hw : cMW s A v a b K0 F G H locs) {ls : Array Slot} (hl : lv_has ls 6 []) : W p l e R s m args below meth c H locs (xn F - xn K0) (2 * (xn F - xn K0)) Q (F0 m 39 ls []) := by
  have hx := C.1
  have hb := C.2.1
  unfold cb_X6_element_39 at hm
  refine lv_goto (tgt := 52) hx hb dX6_element_39 (by decide) ?_
  exact cw_X6_element_52 fu C hret F G hm hw (lv_sub hl [] rfl)
theorem cn_X6_element_34 (fu : Nat) {res : Int32 × PF × PG} (F : PF) (G : PG) (hm : cb_X6_element_34 fu F G = some res) : xn F ≤ xn res.2.1 := by
  unfold cb_X6_element_34 at hm
  obtain ⟨⟨r1, F1, G1⟩, hc, hm⟩ := bind_elim hm
  exact Nat.le_trans (cn_X6_over fu 5 F G _ hc) (cn_X6_element_39 fu F1 G1 hm)
theorem cw_X6_element_34 (fu : Nat) {res : Int32 × PF × PG} (C : cMC p R s m args c A v RX6 cX6_element 6 3 111 (xn res.2.1 - xn K0)) (hret : ∀ (b1 : Nat) (H1 : Heap) (locs1 : List Loc) (ls1 : Array Slot) (pc : Nat), cMW s A v a b1 K0 res.2.1 res.2.2 H1 locs1 → decode cX6_element pc = .ok (.return_, 1) → W p l e R s m args below meth c H1 locs1 (xn res.2.1 - xn K0) (2 * (xn res.2.1 - xn K0)) Q (F0 m pc ls1 [])) (F : PF) (G : PG) (hm : cb_X6_element_34 fu F G = some res) {b : Nat} {H : Heap} {locs : List Loc} (hw : cMW s A v a b K0 F G H locs) {ls : Array Slot} (hl : lv_has ls 6 [(0, .ref (a 206))]) : W p l e R s m args below meth c H locs (xn F - xn K0) (2 * (xn F - xn K0)) Q (F0 m 34 ls []) := by
  have hx := C.1
  have hb := C.2.1
  unfold cb_X6_element_34 at hm
  refine lv_aload_n hx hb dX6_element_34 rfl (lv_at hl 0 rfl) ?_
  refine lv_iconst (v := 5) hx hb dX6_element_35 (by decide) ?_
  obtain ⟨⟨r1, F1, G1⟩, hc, hm⟩ := bind_elim hm
  refine ccallV (n := 1) (As := [.int 5]) (rest := []) C hw (ck_X6_over l v a _ _ fu 5 F G r1 F1 G1 hc) (cn_X6_over fu 5 F G _ hc) (Nat.sub_le_sub_right (cn_X6_element_39 fu F1 G1 hm) _) (crecv_X6 C hw) cm_834 cm_835 cm_836 cm_21 cm_837 (by decide +kernel) rfl (by omega) (by omega) hl.1 rfl (Nat.le_of_ble_eq_true rfl) dX6_element_36 (fun b H locs hw => ?_)
  exact cw_X6_element_39 fu C hret F1 G1 hm hw (lv_sub hl [] rfl)
theorem cn_X6_element_28 (fu : Nat) {res : Int32 × PF × PG} (x4 : Int32) (F : PF) (G : PG) (hm : cb_X6_element_28 fu x4 F G = some res) : xn F ≤ xn res.2.1 := by
  unfold cb_X6_element_28 at hm
  exact Nat.le_trans (Nat.le_of_eq (xn_fup (by decide)).symm) (cn_X6_element_34 fu (fup F 66 x4) G hm)
theorem cw_X6_element_28 (fu : Nat) {res : Int32 × PF × PG} (C : cMC p R s m args c A v RX6 cX6_element 6 3 111 (xn res.2.1 - xn K0)) (hret : ∀ (b1 : Nat) (H1 : Heap) (locs1 : List Loc) (ls1 : Array Slot) (pc : Nat), cMW s A v a b1 K0 res.2.1 res.2.2 H1 locs1 → decode cX6_element pc = .ok (.return_, 1) → W p l e R s m args below meth c H1 locs1 (xn res.2.1 - xn K0) (2 * (xn res.2.1 - xn K0)) Q (F0 m pc ls1 [])) (x4 : Int32) (F : PF) (G : PG) (hm : cb_X6_element_28 fu x4 F G = some res) {b : Nat} {H : Heap} {locs : List Loc} (hw : cMW s A v a b K0 F G H locs) {ls : Array Slot} (hl : lv_has ls 6 [(0, .ref (a 206)), (4, .int x4)]) : W p l e R s m args below meth c H locs (xn F - xn K0) (2 * (xn F - xn K0)) Q (F0 m 28 ls []) := by
  have hx := C.1
  have hb := C.2.1
  unfold cb_X6_element_28 at hm
  refine lv_aload_n hx hb dX6_element_28 rfl (lv_at hl 0 rfl) ?_
  refine lv_iload hx hb dX6_element_29 (lv_at hl 1 rfl) ?_
  refine cp_X6_30 C hw dX6_element_31 (fun H locs hw => ?_)
  exact cw_X6_element_34 fu C hret (fup F 66 x4) G hm hw (lv_sub hl [0] rfl)
theorem cn_X6_element_42 (fu : Nat) {res : Int32 × PF × PG} (x1 : Int32) (x3 : Int32) (x5 : Int32) (F : PF) (G : PG) (hm : cb_X6_element_42 fu x1 x3 x5 F G = some res) : xn F ≤ xn res.2.1 := by
  unfold cb_X6_element_42 at hm
  obtain ⟨⟨r1, F1, G1⟩, hc, hm⟩ := bind_elim hm
  exact Nat.le_trans (cn_X6_push fu ((x1 <<< (x3 &&& 31)) + x5) F G _ hc) (cn_X6_element_52 fu F1 G1 hm)
theorem cw_X6_element_42 (fu : Nat) {res : Int32 × PF × PG} (C : cMC p R s m args c A v RX6 cX6_element 6 3 111 (xn res.2.1 - xn K0)) (hret : ∀ (b1 : Nat) (H1 : Heap) (locs1 : List Loc) (ls1 : Array Slot) (pc : Nat), cMW s A v a b1 K0 res.2.1 res.2.2 H1 locs1 → decode cX6_element pc = .ok (.return_, 1) → W p l e R s m args below meth c H1 locs1 (xn res.2.1 - xn K0) (2 * (xn res.2.1 - xn K0)) Q (F0 m pc ls1 [])) (x1 : Int32) (x3 : Int32) (x5 : Int32) (F : PF) (G : PG) (hm : cb_X6_element_42 fu x1 x3 x5 F G = some res) {b : Nat} {H : Heap} {locs : List Loc} (hw : cMW s A v a b K0 F G H locs) {ls : Array Slot} (hl : lv_has ls 6 [(0, .ref (a 206)), (1, .int x1), (3, .int x3), (5, .int x5)]) : W p l e R s m args below meth c H locs (xn F - xn K0) (2 * (xn F - xn K0)) Q (F0 m 42 ls []) := by
  have hx := C.1
  have hb := C.2.1
  unfold cb_X6_element_42 at hm
  refine lv_aload_n hx hb dX6_element_42 rfl (lv_at hl 0 rfl) ?_
  refine lv_iload_n hx hb dX6_element_43 rfl (lv_at hl 1 rfl) ?_
  refine lv_iload_n hx hb dX6_element_44 rfl (lv_at hl 2 rfl) ?_
  refine lv_ishl hx hb dX6_element_45 ?_
  refine lv_iload hx hb dX6_element_46 (lv_at hl 3 rfl) ?_
  refine lv_iadd hx hb dX6_element_48 ?_
  obtain ⟨⟨r1, F1, G1⟩, hc, hm⟩ := bind_elim hm
  refine ccallV (n := 1) (As := [.int ((x1 <<< (x3 &&& 31)) + x5)]) (rest := []) C hw (ck_X6_push l v a _ _ fu ((x1 <<< (x3 &&& 31)) + x5) F G r1 F1 G1 hc) (cn_X6_push fu ((x1 <<< (x3 &&& 31)) + x5) F G _ hc) (Nat.sub_le_sub_right (cn_X6_element_52 fu F1 G1 hm) _) (crecv_X6 C hw) cm_533 cm_534 cm_535 cm_21 cm_536 (by decide +kernel) rfl (by omega) (by omega) hl.1 rfl (Nat.le_of_ble_eq_true rfl) dX6_element_49 (fun b H locs hw => ?_)
  exact cw_X6_element_52 fu C hret F1 G1 hm hw (lv_sub hl [] rfl)
theorem cn_X6_element_22 (fu : Nat) {res : Int32 × PF × PG} (x1 : Int32) (x2 : Int32) (x3 : Int32) (x4 : Int32) (x5 : Int32) (F : PF) (G : PG) (hm : cb_X6_element_22 fu x1 x2 x3 x4 x5 F G = some res) : xn F ≤ xn res.2.1 := by
  unfold cb_X6_element_22 at hm
  by_cases c_1 : x5 < x2
  · have hm := (if_pos c_1).symm.trans hm
    exact (cn_X6_element_42 fu x1 x3 x5 F G hm)
  · have hm := (if_neg c_1).symm.trans hm
    exact (cn_X6_element_28 fu x4 F G hm)
theorem cw_X6_element_22 (fu : Nat) {res : Int32 × PF × PG} (C : cMC p R s m args c A v RX6 cX6_element 6 3 111 (xn res.2.1 - xn K0)) (hret : ∀ (b1 : Nat) (H1 : Heap) (locs1 : List Loc) (ls1 : Array Slot) (pc : Nat), cMW s A v a b1 K0 res.2.1 res.2.2 H1 locs1 → decode cX6_element pc = .ok (.return_, 1) → W p l e R s m args below meth c H1 locs1 (xn res.2.1 - xn K0) (2 * (xn res.2.1 - xn K0)) Q (F0 m pc ls1 [])) (x1 : Int32) (x2 : Int32) (x3 : Int32) (x4 : Int32) (x5 : Int32) (F : PF) (G : PG) (hm : cb_X6_element_22 fu x1 x2 x3 x4 x5 F G = some res) {b : Nat} {H : Heap} {locs : List Loc} (hw : cMW s A v a b K0 F G H locs) {ls : Array Slot} (hl : lv_has ls 6 [(0, .ref (a 206)), (1, .int x1), (2, .int x2), (3, .int x3), (4, .int x4), (5, .int x5)]) : W p l e R s m args below meth c H locs (xn F - xn K0) (2 * (xn F - xn K0)) Q (F0 m 22 ls []) := by
  have hx := C.1
  have hb := C.2.1
  unfold cb_X6_element_22 at hm
  refine lv_iload hx hb dX6_element_22 (lv_at hl 5 rfl) ?_
  refine lv_iload_n hx hb dX6_element_24 rfl (lv_at hl 2 rfl) ?_
  refine lv_icmp_lt (tgt := 42) hx hb dX6_element_25 (by decide) (fun c_1 => ?_) (fun c_1 => ?_)
  · have hm := (if_pos c_1).symm.trans hm
    exact cw_X6_element_42 fu C hret x1 x3 x5 F G hm hw (lv_sub hl [0, 1, 3, 5] rfl)
  · have hm := (if_neg c_1).symm.trans hm
    exact cw_X6_element_28 fu C hret x4 F G hm hw (lv_sub hl [0, 4] rfl)
theorem cn_X6_element_15 (fu : Nat) {res : Int32 × PF × PG} (x1 : Int32) (x2 : Int32) (x3 : Int32) (x4 : Int32) (z0 : Int32) (F : PF) (G : PG) (hm : cb_X6_element_15 fu x1 x2 x3 x4 z0 F G = some res) : xn F ≤ xn res.2.1 := by
  unfold cb_X6_element_15 at hm
  by_cases c_1 : z0 < (0 : Int32)
  · have hm := (if_pos c_1).symm.trans hm
    exact (cn_X6_element_28 fu x4 F G hm)
  · have hm := (if_neg c_1).symm.trans hm
    exact (cn_X6_element_22 fu x1 x2 x3 x4 z0 F G hm)
theorem cw_X6_element_15 (fu : Nat) {res : Int32 × PF × PG} (C : cMC p R s m args c A v RX6 cX6_element 6 3 111 (xn res.2.1 - xn K0)) (hret : ∀ (b1 : Nat) (H1 : Heap) (locs1 : List Loc) (ls1 : Array Slot) (pc : Nat), cMW s A v a b1 K0 res.2.1 res.2.2 H1 locs1 → decode cX6_element pc = .ok (.return_, 1) → W p l e R s m args below meth c H1 locs1 (xn res.2.1 - xn K0) (2 * (xn res.2.1 - xn K0)) Q (F0 m pc ls1 [])) (x1 : Int32) (x2 : Int32) (x3 : Int32) (x4 : Int32) (z0 : Int32) (F : PF) (G : PG) (hm : cb_X6_element_15 fu x1 x2 x3 x4 z0 F G = some res) {b : Nat} {H : Heap} {locs : List Loc} (hw : cMW s A v a b K0 F G H locs) {ls : Array Slot} (hl : lv_has ls 6 [(0, .ref (a 206)), (1, .int x1), (2, .int x2), (3, .int x3), (4, .int x4)]) : W p l e R s m args below meth c H locs (xn F - xn K0) (2 * (xn F - xn K0)) Q (F0 m 15 ls [.int z0]) := by
  have hx := C.1
  have hb := C.2.1
  unfold cb_X6_element_15 at hm
  refine lv_istore (lv' := [(5, .int z0), (0, .ref (a 206)), (1, .int x1), (2, .int x2), (3, .int x3), (4, .int x4)]) hx hb dX6_element_15 hl (by decide) rfl (fun ls hl => ?_)
  refine lv_iload hx hb dX6_element_17 (lv_at hl 0 rfl) ?_
  refine lv_if_lt (tgt := 28) hx hb dX6_element_19 (by decide) (fun c_1 => ?_) (fun c_1 => ?_)
  · have hm := (if_pos c_1).symm.trans hm
    exact cw_X6_element_28 fu C hret x4 F G hm hw (lv_sub hl [1, 5] rfl)
  · have hm := (if_neg c_1).symm.trans hm
    exact cw_X6_element_22 fu C hret x1 x2 x3 x4 z0 F G hm hw (lv_sub hl [1, 2, 3, 4, 5, 0] rfl)
theorem cn_X6_element_9 (fu : Nat) {res : Int32 × PF × PG} (x1 : Int32) (x2 : Int32) (x3 : Int32) (z0 : Int32) (F : PF) (G : PG) (hm : cb_X6_element_9 fu x1 x2 x3 z0 F G = some res) : xn F ≤ xn res.2.1 := by
  unfold cb_X6_element_9 at hm
  obtain ⟨⟨r1, F1, G1⟩, hc, hm⟩ := bind_elim hm
  exact Nat.le_trans (cn_X6_pop fu F G _ hc) (cn_X6_element_15 fu x1 x2 x3 z0 r1 F1 G1 hm)
theorem cw_X6_element_9 (fu : Nat) {res : Int32 × PF × PG} (C : cMC p R s m args c A v RX6 cX6_element 6 3 111 (xn res.2.1 - xn K0)) (hret : ∀ (b1 : Nat) (H1 : Heap) (locs1 : List Loc) (ls1 : Array Slot) (pc : Nat), cMW s A v a b1 K0 res.2.1 res.2.2 H1 locs1 → decode cX6_element pc = .ok (.return_, 1) → W p l e R s m args below meth c H1 locs1 (xn res.2.1 - xn K0) (2 * (xn res.2.1 - xn K0)) Q (F0 m pc ls1 [])) (x1 : Int32) (x2 : Int32) (x3 : Int32) (z0 : Int32) (F : PF) (G : PG) (hm : cb_X6_element_9 fu x1 x2 x3 z0 F G = some res) {b : Nat} {H : Heap} {locs : List Loc} (hw : cMW s A v a b K0 F G H locs) {ls : Array Slot} (hl : lv_has ls 6 [(0, .ref (a 206)), (1, .int x1), (2, .int x2), (3, .int x3)]) : W p l e R s m args below meth c H locs (xn F - xn K0) (2 * (xn F - xn K0)) Q (F0 m 9 ls [.int z0]) := by
  have hx := C.1
  have hb := C.2.1
  unfold cb_X6_element_9 at hm
  refine lv_istore (lv' := [(4, .int z0), (0, .ref (a 206)), (1, .int x1), (2, .int x2), (3, .int x3)]) hx hb dX6_element_9 hl (by decide) rfl (fun ls hl => ?_)
  refine lv_aload_n hx hb dX6_element_11 rfl (lv_at hl 1 rfl) ?_
  obtain ⟨⟨r1, F1, G1⟩, hc, hm⟩ := bind_elim hm
  refine ccallI (n := 0) (As := []) (rest := []) C hw (ck_X6_pop l v a _ _ fu F G r1 F1 G1 hc) (cn_X6_pop fu F G _ hc) (Nat.sub_le_sub_right (cn_X6_element_15 fu x1 x2 x3 z0 r1 F1 G1 hm) _) (crecv_X6 C hw) cm_558 cm_559 cm_560 cm_21 cm_561 (by decide +kernel) rfl (by omega) (by omega) hl.1 rfl (Nat.le_of_ble_eq_true rfl) dX6_element_12 (fun b H locs hw => ?_)
  exact cw_X6_element_15 fu C hret x1 x2 x3 z0 r1 F1 G1 hm hw (lv_sub hl [1, 2, 3, 4, 0] rfl)
theorem cn_X6_element_4 (fu : Nat) {res : Int32 × PF × PG} (x1 : Int32) (x2 : Int32) (z0 : Int32) (F : PF) (G : PG) (hm : cb_X6_element_4 fu x1 x2 z0 F G = some res) : xn F ≤ xn res.2.1 := by
  unfold cb_X6_element_4 at hm
  obtain ⟨⟨r1, F1, G1⟩, hc, hm⟩ := bind_elim hm
  exact Nat.le_trans (cn_X6_next fu F G _ hc) (cn_X6_element_9 fu x1 x2 z0 r1 F1 G1 hm)
theorem cw_X6_element_4 (fu : Nat) {res : Int32 × PF × PG} (C : cMC p R s m args c A v RX6 cX6_element 6 3 111 (xn res.2.1 - xn K0)) (hret : ∀ (b1 : Nat) (H1 : Heap) (locs1 : List Loc) (ls1 : Array Slot) (pc : Nat), cMW s A v a b1 K0 res.2.1 res.2.2 H1 locs1 → decode cX6_element pc = .ok (.return_, 1) → W p l e R s m args below meth c H1 locs1 (xn res.2.1 - xn K0) (2 * (xn res.2.1 - xn K0)) Q (F0 m pc ls1 [])) (x1 : Int32) (x2 : Int32) (z0 : Int32) (F : PF) (G : PG) (hm : cb_X6_element_4 fu x1 x2 z0 F G = some res) {b : Nat} {H : Heap} {locs : List Loc} (hw : cMW s A v a b K0 F G H locs) {ls : Array Slot} (hl : lv_has ls 6 [(0, .ref (a 206)), (1, .int x1), (2, .int x2)]) : W p l e R s m args below meth c H locs (xn F - xn K0) (2 * (xn F - xn K0)) Q (F0 m 4 ls [.int z0]) := by
  have hx := C.1
  have hb := C.2.1
  unfold cb_X6_element_4 at hm
  refine lv_istore_n (lv' := [(3, .int z0), (0, .ref (a 206)), (1, .int x1), (2, .int x2)]) hx hb dX6_element_4 rfl hl (by decide) rfl (fun ls hl => ?_)
  refine lv_aload_n hx hb dX6_element_5 rfl (lv_at hl 1 rfl) ?_
  obtain ⟨⟨r1, F1, G1⟩, hc, hm⟩ := bind_elim hm
  refine ccallI (n := 0) (As := []) (rest := []) C hw (ck_X6_next l v a _ _ fu F G r1 F1 G1 hc) (cn_X6_next fu F G _ hc) (Nat.sub_le_sub_right (cn_X6_element_9 fu x1 x2 z0 r1 F1 G1 hm) _) (crecv_X6 C hw) cm_529 cm_530 cm_531 cm_21 cm_532 (by decide +kernel) rfl (by omega) (by omega) hl.1 rfl (Nat.le_of_ble_eq_true rfl) dX6_element_6 (fun b H locs hw => ?_)
  exact cw_X6_element_9 fu C hret x1 x2 z0 r1 F1 G1 hm hw (lv_sub hl [1, 2, 3, 0] rfl)
theorem cn_X6_element_0 (fu : Nat) {res : Int32 × PF × PG} (x1 : Int32) (x2 : Int32) (F : PF) (G : PG) (hm : cb_X6_element_0 fu x1 x2 F G = some res) : xn F ≤ xn res.2.1 := by
  unfold cb_X6_element_0 at hm
  obtain ⟨⟨r1, F1, G1⟩, hc, hm⟩ := bind_elim hm
  exact Nat.le_trans (cn_X6_next fu F G _ hc) (cn_X6_element_4 fu x1 x2 r1 F1 G1 hm)
theorem cw_X6_element_0 (fu : Nat) {res : Int32 × PF × PG} (C : cMC p R s m args c A v RX6 cX6_element 6 3 111 (xn res.2.1 - xn K0)) (hret : ∀ (b1 : Nat) (H1 : Heap) (locs1 : List Loc) (ls1 : Array Slot) (pc : Nat), cMW s A v a b1 K0 res.2.1 res.2.2 H1 locs1 → decode cX6_element pc = .ok (.return_, 1) → W p l e R s m args below meth c H1 locs1 (xn res.2.1 - xn K0) (2 * (xn res.2.1 - xn K0)) Q (F0 m pc ls1 [])) (x1 : Int32) (x2 : Int32) (F : PF) (G : PG) (hm : cb_X6_element_0 fu x1 x2 F G = some res) {b : Nat} {H : Heap} {locs : List Loc} (hw : cMW s A v a b K0 F G H locs) {ls : Array Slot} (hl : lv_has ls 6 [(0, .ref (a 206)), (1, .int x1), (2, .int x2)]) : W p l e R s m args below meth c H locs (xn F - xn K0) (2 * (xn F - xn K0)) Q (F0 m 0 ls []) := by
  have hx := C.1
  have hb := C.2.1
  unfold cb_X6_element_0 at hm
  refine lv_aload_n hx hb dX6_element_0 rfl (lv_at hl 0 rfl) ?_
  obtain ⟨⟨r1, F1, G1⟩, hc, hm⟩ := bind_elim hm
  refine ccallI (n := 0) (As := []) (rest := []) C hw (ck_X6_next l v a _ _ fu F G r1 F1 G1 hc) (cn_X6_next fu F G _ hc) (Nat.sub_le_sub_right (cn_X6_element_4 fu x1 x2 r1 F1 G1 hm) _) (crecv_X6 C hw) cm_529 cm_530 cm_531 cm_21 cm_532 (by decide +kernel) rfl (by omega) (by omega) hl.1 rfl (Nat.le_of_ble_eq_true rfl) dX6_element_1 (fun b H locs hw => ?_)
  exact cw_X6_element_4 fu C hret x1 x2 r1 F1 G1 hm hw (lv_sub hl [0, 1, 2] rfl)
theorem cn_X6_element (fu : Nat) (x1 : Int32) (x2 : Int32) (F : PF) (G : PG) (q : Int32 × PF × PG) (hm : cf_X6_element fu x1 x2 F G = some q) : xn F ≤ xn q.2.1 := cn_X6_element_0 fu x1 x2 F G hm
theorem ck_X6_element (l : Launch) (v : EV) (a : Nat → Nat) (b sz : Nat) (fu : Nat) (x1 : Int32) (x2 : Int32) (F : PF) (G : PG) (r : Int32) (F1 : PF) (G1 : PG) (hm : cf_X6_element fu x1 x2 F G = some (r, F1, G1)) : cMV l yX6_element cX6_element 6 3 111 v a b sz [.ref (a 206), .int x1, .int x2] F G F1 G1 := cMV.of (by decide) (Nat.le_of_ble_eq_true rfl) (fun p e R s m args below meth c Q A H locs ls C hw hl hret => cw_X6_element_0 fu (res := (r, F1, G1)) C hret x1 x2 F G hm hw hl)
def cb_X6_keepByte_36 (fu : Nat) (F : PF) (G : PG) : PR := some (0, F, G)
def cb_X6_keepByte_19 (fu : Nat) (x2 : Int32) (x4 : Int32) (z0 : Int32) (z1 : Int32) (F : PF) (G : PG) : PR := (cf_X6_hold fu z1 ((z0 &&& (((255 : Int32) <<< (x4 &&& 31)) ^^^ (-1 : Int32))) ||| (x2 <<< (x4 &&& 31))) F G).bind (fun q => cb_X6_keepByte_36 fu q.2.1 q.2.2)
def cb_X6_keepByte_0 (fu : Nat) (x1 : Int32) (x2 : Int32) (F : PF) (G : PG) : PR := (cf_X6_held fu (x1 >>> ((2 : Int32) &&& 31)) F G).bind (fun q => cb_X6_keepByte_19 fu x2 ((x1 &&& (3 : Int32)) * (8 : Int32)) q.1 (x1 >>> ((2 : Int32) &&& 31)) q.2.1 q.2.2)
def cf_X6_keepByte (fu : Nat) (x1 : Int32) (x2 : Int32) (F : PF) (G : PG) : PR := cb_X6_keepByte_0 fu x1 x2 F G
theorem cn_X6_keepByte_36 (fu : Nat) {res : Int32 × PF × PG} (F : PF) (G : PG) (hm : cb_X6_keepByte_36 fu F G = some res) : xn F ≤ xn res.2.1 := by
  unfold cb_X6_keepByte_36 at hm
  obtain rfl := Option.some.inj hm
  exact Nat.le_refl _
theorem cw_X6_keepByte_36 (fu : Nat) {res : Int32 × PF × PG} (C : cMC p R s m args c A v RX6 cX6_keepByte 5 1 22 (xn res.2.1 - xn K0)) (hret : ∀ (b1 : Nat) (H1 : Heap) (locs1 : List Loc) (ls1 : Array Slot) (pc : Nat), cMW s A v a b1 K0 res.2.1 res.2.2 H1 locs1 → decode cX6_keepByte pc = .ok (.return_, 1) → W p l e R s m args below meth c H1 locs1 (xn res.2.1 - xn K0) (2 * (xn res.2.1 - xn K0)) Q (F0 m pc ls1 [])) (F : PF) (G : PG) (hm : cb_X6_keepByte_36 fu F G = some res) {b : Nat} {H : Heap} {locs : List Loc} (hw : cMW s A v a b K0 F G H locs) {ls : Array Slot} (hl : lv_has ls 5 []) : W p l e R s m args below meth c H locs (xn F - xn K0) (2 * (xn F - xn K0)) Q (F0 m 36 ls []) := by
  have hx := C.1
  have hb := C.2.1
  unfold cb_X6_keepByte_36 at hm
  obtain rfl := Option.some.inj hm
  exact hret _ _ _ _ _ hw dX6_keepByte_36
theorem cn_X6_keepByte_19 (fu : Nat) {res : Int32 × PF × PG} (x2 : Int32) (x4 : Int32) (z0 : Int32) (z1 : Int32) (F : PF) (G : PG) (hm : cb_X6_keepByte_19 fu x2 x4 z0 z1 F G = some res) : xn F ≤ xn res.2.1 := by
  unfold cb_X6_keepByte_19 at hm
  obtain ⟨⟨r1, F1, G1⟩, hc, hm⟩ := bind_elim hm
  exact Nat.le_trans (cn_X6_hold fu z1 ((z0 &&& (((255 : Int32) <<< (x4 &&& 31)) ^^^ (-1 : Int32))) ||| (x2 <<< (x4 &&& 31))) F G _ hc) (cn_X6_keepByte_36 fu F1 G1 hm)
theorem cw_X6_keepByte_19 (fu : Nat) {res : Int32 × PF × PG} (C : cMC p R s m args c A v RX6 cX6_keepByte 5 1 22 (xn res.2.1 - xn K0)) (hret : ∀ (b1 : Nat) (H1 : Heap) (locs1 : List Loc) (ls1 : Array Slot) (pc : Nat), cMW s A v a b1 K0 res.2.1 res.2.2 H1 locs1 → decode cX6_keepByte pc = .ok (.return_, 1) → W p l e R s m args below meth c H1 locs1 (xn res.2.1 - xn K0) (2 * (xn res.2.1 - xn K0)) Q (F0 m pc ls1 [])) (x2 : Int32) (x4 : Int32) (z0 : Int32) (z1 : Int32) (F : PF) (G : PG) (hm : cb_X6_keepByte_19 fu x2 x4 z0 z1 F G = some res) {b : Nat} {H : Heap} {locs : List Loc} (hw : cMW s A v a b K0 F G H locs) {ls : Array Slot} (hl : lv_has ls 5 [(2, .int x2), (4, .int x4)]) : W p l e R s m args below meth c H locs (xn F - xn K0) (2 * (xn F - xn K0)) Q (F0 m 19 ls [.int z0, .int z1, .ref (a 206)]) := by
  have hx := C.1
  have hb := C.2.1
  unfold cb_X6_keepByte_19 at hm
  refine lv_sipush (v := 255) hx hb dX6_keepByte_19 (by decide) ?_
  refine lv_iload hx hb dX6_keepByte_22 (lv_at hl 1 rfl) ?_
  refine lv_ishl hx hb dX6_keepByte_24 ?_
  refine lv_iconst (v := (-1)) hx hb dX6_keepByte_25 (by decide) ?_
  refine lv_ixor hx hb dX6_keepByte_26 ?_
  refine lv_iand hx hb dX6_keepByte_27 ?_
  refine lv_iload_n hx hb dX6_keepByte_28 rfl (lv_at hl 0 rfl) ?_
  refine lv_iload hx hb dX6_keepByte_29 (lv_at hl 1 rfl) ?_
  refine lv_ishl hx hb dX6_keepByte_31 ?_
  refine lv_ior hx hb dX6_keepByte_32 ?_
  obtain ⟨⟨r1, F1, G1⟩, hc, hm⟩ := bind_elim hm
  refine ccallV (n := 2) (As := [.int z1, .int ((z0 &&& (((255 : Int32) <<< (x4 &&& 31)) ^^^ (-1 : Int32))) ||| (x2 <<< (x4 &&& 31)))]) (rest := []) C hw (ck_X6_hold l v a _ _ fu z1 ((z0 &&& (((255 : Int32) <<< (x4 &&& 31)) ^^^ (-1 : Int32))) ||| (x2 <<< (x4 &&& 31))) F G r1 F1 G1 hc) (cn_X6_hold fu z1 ((z0 &&& (((255 : Int32) <<< (x4 &&& 31)) ^^^ (-1 : Int32))) ||| (x2 <<< (x4 &&& 31))) F G _ hc) (Nat.sub_le_sub_right (cn_X6_keepByte_36 fu F1 G1 hm) _) (crecv_X6 C hw) cm_850 cm_851 cm_852 cm_21 cm_853 (by decide +kernel) rfl (by omega) (by omega) hl.1 rfl (Nat.le_of_ble_eq_true rfl) dX6_keepByte_33 (fun b H locs hw => ?_)
  exact cw_X6_keepByte_36 fu C hret F1 G1 hm hw (lv_sub hl [] rfl)
theorem cn_X6_keepByte_0 (fu : Nat) {res : Int32 × PF × PG} (x1 : Int32) (x2 : Int32) (F : PF) (G : PG) (hm : cb_X6_keepByte_0 fu x1 x2 F G = some res) : xn F ≤ xn res.2.1 := by
  unfold cb_X6_keepByte_0 at hm
  obtain ⟨⟨r1, F1, G1⟩, hc, hm⟩ := bind_elim hm
  exact Nat.le_trans (cn_X6_held fu (x1 >>> ((2 : Int32) &&& 31)) F G _ hc) (cn_X6_keepByte_19 fu x2 ((x1 &&& (3 : Int32)) * (8 : Int32)) r1 (x1 >>> ((2 : Int32) &&& 31)) F1 G1 hm)
theorem cw_X6_keepByte_0 (fu : Nat) {res : Int32 × PF × PG} (C : cMC p R s m args c A v RX6 cX6_keepByte 5 1 22 (xn res.2.1 - xn K0)) (hret : ∀ (b1 : Nat) (H1 : Heap) (locs1 : List Loc) (ls1 : Array Slot) (pc : Nat), cMW s A v a b1 K0 res.2.1 res.2.2 H1 locs1 → decode cX6_keepByte pc = .ok (.return_, 1) → W p l e R s m args below meth c H1 locs1 (xn res.2.1 - xn K0) (2 * (xn res.2.1 - xn K0)) Q (F0 m pc ls1 [])) (x1 : Int32) (x2 : Int32) (F : PF) (G : PG) (hm : cb_X6_keepByte_0 fu x1 x2 F G = some res) {b : Nat} {H : Heap} {locs : List Loc} (hw : cMW s A v a b K0 F G H locs) {ls : Array Slot} (hl : lv_has ls 5 [(0, .ref (a 206)), (1, .int x1), (2, .int x2)]) : W p l e R s m args below meth c H locs (xn F - xn K0) (2 * (xn F - xn K0)) Q (F0 m 0 ls []) := by
  have hx := C.1
  have hb := C.2.1
  unfold cb_X6_keepByte_0 at hm
  refine lv_iload_n hx hb dX6_keepByte_0 rfl (lv_at hl 1 rfl) ?_
  refine lv_iconst (v := 2) hx hb dX6_keepByte_1 (by decide) ?_
  refine lv_ishr hx hb dX6_keepByte_2 ?_
  refine lv_istore_n (lv' := [(3, .int (x1 >>> ((2 : Int32) &&& 31))), (0, .ref (a 206)), (1, .int x1), (2, .int x2)]) hx hb dX6_keepByte_3 rfl hl (by decide) rfl (fun ls hl => ?_)
  refine lv_iload_n hx hb dX6_keepByte_4 rfl (lv_at hl 2 rfl) ?_
  refine lv_iconst (v := 3) hx hb dX6_keepByte_5 (by decide) ?_
  refine lv_iand hx hb dX6_keepByte_6 ?_
  refine lv_bipush (v := 8) hx hb dX6_keepByte_7 (by decide) ?_
  refine lv_imul hx hb dX6_keepByte_9 ?_
  refine lv_istore (lv' := [(4, .int ((x1 &&& (3 : Int32)) * (8 : Int32))), (3, .int (x1 >>> ((2 : Int32) &&& 31))), (0, .ref (a 206)), (1, .int x1), (2, .int x2)]) hx hb dX6_keepByte_10 hl (by decide) rfl (fun ls hl => ?_)
  refine lv_aload_n hx hb dX6_keepByte_12 rfl (lv_at hl 2 rfl) ?_
  refine lv_iload_n hx hb dX6_keepByte_13 rfl (lv_at hl 1 rfl) ?_
  refine lv_aload_n hx hb dX6_keepByte_14 rfl (lv_at hl 2 rfl) ?_
  refine lv_iload_n hx hb dX6_keepByte_15 rfl (lv_at hl 1 rfl) ?_
  obtain ⟨⟨r1, F1, G1⟩, hc, hm⟩ := bind_elim hm
  refine ccallI (n := 1) (As := [.int (x1 >>> ((2 : Int32) &&& 31))]) (rest := [.int (x1 >>> ((2 : Int32) &&& 31)), .ref (a 206)]) C hw (ck_X6_held l v a _ _ fu (x1 >>> ((2 : Int32) &&& 31)) F G r1 F1 G1 hc) (cn_X6_held fu (x1 >>> ((2 : Int32) &&& 31)) F G _ hc) (Nat.sub_le_sub_right (cn_X6_keepByte_19 fu x2 ((x1 &&& (3 : Int32)) * (8 : Int32)) r1 (x1 >>> ((2 : Int32) &&& 31)) F1 G1 hm) _) (crecv_X6 C hw) cm_862 cm_863 cm_864 cm_21 cm_865 (by decide +kernel) rfl (by omega) (by omega) hl.1 rfl (Nat.le_of_ble_eq_true rfl) dX6_keepByte_16 (fun b H locs hw => ?_)
  exact cw_X6_keepByte_19 fu C hret x2 ((x1 &&& (3 : Int32)) * (8 : Int32)) r1 (x1 >>> ((2 : Int32) &&& 31)) F1 G1 hm hw (lv_sub hl [4, 0] rfl)
theorem cn_X6_keepByte (fu : Nat) (x1 : Int32) (x2 : Int32) (F : PF) (G : PG) (q : Int32 × PF × PG) (hm : cf_X6_keepByte fu x1 x2 F G = some q) : xn F ≤ xn q.2.1 := cn_X6_keepByte_0 fu x1 x2 F G hm
theorem ck_X6_keepByte (l : Launch) (v : EV) (a : Nat → Nat) (b sz : Nat) (fu : Nat) (x1 : Int32) (x2 : Int32) (F : PF) (G : PG) (r : Int32) (F1 : PF) (G1 : PG) (hm : cf_X6_keepByte fu x1 x2 F G = some (r, F1, G1)) : cMV l yX6_keepByte cX6_keepByte 5 1 22 v a b sz [.ref (a 206), .int x1, .int x2] F G F1 G1 := cMV.of (by decide) (Nat.le_of_ble_eq_true rfl) (fun p e R s m args below meth c Q A H locs ls C hw hl hret => cw_X6_keepByte_0 fu (res := (r, F1, G1)) C hret x1 x2 F G hm hw hl)
def cb_X6_pass_64 (fu : Nat) (F : PF) (G : PG) : PR := some (0, F, G)
def cb_X6_pass_59 (fu : Nat) (x3 : Int32) (F : PF) (G : PG) : PR := (cf_X6_push fu x3 F G).bind (fun q => cb_X6_pass_64 fu q.2.1 q.2.2)
def cb_X6_pass_56 (fu : Nat) (x3 : Int32) (z0 : Int32) (F : PF) (G : PG) : PR := (cf_X6_push fu z0 F G).bind (fun q => cb_X6_pass_59 fu x3 q.2.1 q.2.2)
def cb_X6_pass_50 (fu : Nat) (x2 : Int32) (x3 : Int32) (F : PF) (G : PG) : PR := cb_X6_pass_56 fu x3 ((F 58) + x2) F G
def cb_X6_pass_46 (fu : Nat) (x2 : Int32) (x3 : Int32) (F : PF) (G : PG) : PR := cb_X6_pass_56 fu x3 x2 F G
def cb_X6_pass_39 (fu : Nat) (x1 : Int32) (x2 : Int32) (x3 : Int32) (F : PF) (G : PG) : PR := if x1 = (81 : Int32) then cb_X6_pass_46 fu x2 x3 F G else cb_X6_pass_50 fu x2 x3 F G
def cb_X6_pass_36 (fu : Nat) (F : PF) (G : PG) : PR := cb_X6_pass_64 fu F G
def cb_X6_pass_33 (fu : Nat) (z0 : Int32) (F : PF) (G : PG) : PR := (cf_X6_push fu z0 F G).bind (fun q => cb_X6_pass_36 fu q.2.1 q.2.2)
def cb_X6_pass_20 (fu : Nat) (x2 : Int32) (F : PF) (G : PG) : PR := (cf_X6_held fu (((F 58) + x2) + (1 : Int32)) F G).bind (fun q => cb_X6_pass_33 fu q.1 q.2.1 q.2.2)
def cb_X6_pass_17 (fu : Nat) (x2 : Int32) (z0 : Int32) (F : PF) (G : PG) : PR := (cf_X6_push fu z0 F G).bind (fun q => cb_X6_pass_20 fu x2 q.2.1 q.2.2)
def cb_X6_pass_6 (fu : Nat) (x2 : Int32) (F : PF) (G : PG) : PR := (cf_X6_held fu ((F 58) + x2) F G).bind (fun q => cb_X6_pass_17 fu x2 q.1 q.2.1 q.2.2)
def cb_X6_pass_0 (fu : Nat) (x1 : Int32) (x2 : Int32) (x3 : Int32) (F : PF) (G : PG) : PR := if x1 = (83 : Int32) then cb_X6_pass_6 fu x2 F G else cb_X6_pass_39 fu x1 x2 x3 F G
def cf_X6_pass (fu : Nat) (x1 : Int32) (x2 : Int32) (x3 : Int32) (F : PF) (G : PG) : PR := cb_X6_pass_0 fu x1 x2 x3 F G
theorem cn_X6_pass_64 (fu : Nat) {res : Int32 × PF × PG} (F : PF) (G : PG) (hm : cb_X6_pass_64 fu F G = some res) : xn F ≤ xn res.2.1 := by
  unfold cb_X6_pass_64 at hm
  obtain rfl := Option.some.inj hm
  exact Nat.le_refl _
theorem cw_X6_pass_64 (fu : Nat) {res : Int32 × PF × PG} (C : cMC p R s m args c A v RX6 cX6_pass 4 3 111 (xn res.2.1 - xn K0)) (hret : ∀ (b1 : Nat) (H1 : Heap) (locs1 : List Loc) (ls1 : Array Slot) (pc : Nat), cMW s A v a b1 K0 res.2.1 res.2.2 H1 locs1 → decode cX6_pass pc = .ok (.return_, 1) → W p l e R s m args below meth c H1 locs1 (xn res.2.1 - xn K0) (2 * (xn res.2.1 - xn K0)) Q (F0 m pc ls1 [])) (F : PF) (G : PG) (hm : cb_X6_pass_64 fu F G = some res) {b : Nat} {H : Heap} {locs : List Loc} (hw : cMW s A v a b K0 F G H locs) {ls : Array Slot} (hl : lv_has ls 4 []) : W p l e R s m args below meth c H locs (xn F - xn K0) (2 * (xn F - xn K0)) Q (F0 m 64 ls []) := by
  have hx := C.1
  have hb := C.2.1
  unfold cb_X6_pass_64 at hm
  obtain rfl := Option.some.inj hm
  exact hret _ _ _ _ _ hw dX6_pass_64
theorem cn_X6_pass_59 (fu : Nat) {res : Int32 × PF × PG} (x3 : Int32) (F : PF) (G : PG) (hm : cb_X6_pass_59 fu x3 F G = some res) : xn F ≤ xn res.2.1 := by
  unfold cb_X6_pass_59 at hm
  obtain ⟨⟨r1, F1, G1⟩, hc, hm⟩ := bind_elim hm
  exact Nat.le_trans (cn_X6_push fu x3 F G _ hc) (cn_X6_pass_64 fu F1 G1 hm)
theorem cw_X6_pass_59 (fu : Nat) {res : Int32 × PF × PG} (C : cMC p R s m args c A v RX6 cX6_pass 4 3 111 (xn res.2.1 - xn K0)) (hret : ∀ (b1 : Nat) (H1 : Heap) (locs1 : List Loc) (ls1 : Array Slot) (pc : Nat), cMW s A v a b1 K0 res.2.1 res.2.2 H1 locs1 → decode cX6_pass pc = .ok (.return_, 1) → W p l e R s m args below meth c H1 locs1 (xn res.2.1 - xn K0) (2 * (xn res.2.1 - xn K0)) Q (F0 m pc ls1 [])) (x3 : Int32) (F : PF) (G : PG) (hm : cb_X6_pass_59 fu x3 F G = some res) {b : Nat} {H : Heap} {locs : List Loc} (hw : cMW s A v a b K0 F G H locs) {ls : Array Slot} (hl : lv_has ls 4 [(0, .ref (a 206)), (3, .int x3)]) : W p l e R s m args below meth c H locs (xn F - xn K0) (2 * (xn F - xn K0)) Q (F0 m 59 ls []) := by
  have hx := C.1
  have hb := C.2.1
  unfold cb_X6_pass_59 at hm
  refine lv_aload_n hx hb dX6_pass_59 rfl (lv_at hl 0 rfl) ?_
  refine lv_iload_n hx hb dX6_pass_60 rfl (lv_at hl 1 rfl) ?_
  obtain ⟨⟨r1, F1, G1⟩, hc, hm⟩ := bind_elim hm
  refine ccallV (n := 1) (As := [.int x3]) (rest := []) C hw (ck_X6_push l v a _ _ fu x3 F G r1 F1 G1 hc) (cn_X6_push fu x3 F G _ hc) (Nat.sub_le_sub_right (cn_X6_pass_64 fu F1 G1 hm) _) (crecv_X6 C hw) cm_533 cm_534 cm_535 cm_21 cm_536 (by decide +kernel) rfl (by omega) (by omega) hl.1 rfl (Nat.le_of_ble_eq_true rfl) dX6_pass_61 (fun b H locs hw => ?_)
  exact cw_X6_pass_64 fu C hret F1 G1 hm hw (lv_sub hl [] rfl)
theorem cn_X6_pass_56 (fu : Nat) {res : Int32 × PF × PG} (x3 : Int32) (z0 : Int32) (F : PF) (G : PG) (hm : cb_X6_pass_56 fu x3 z0 F G = some res) : xn F ≤ xn res.2.1 := by
  unfold cb_X6_pass_56 at hm
  obtain ⟨⟨r1, F1, G1⟩, hc, hm⟩ := bind_elim hm
  exact Nat.le_trans (cn_X6_push fu z0 F G _ hc) (cn_X6_pass_59 fu x3 F1 G1 hm)
theorem cw_X6_pass_56 (fu : Nat) {res : Int32 × PF × PG} (C : cMC p R s m args c A v RX6 cX6_pass 4 3 111 (xn res.2.1 - xn K0)) (hret : ∀ (b1 : Nat) (H1 : Heap) (locs1 : List Loc) (ls1 : Array Slot) (pc : Nat), cMW s A v a b1 K0 res.2.1 res.2.2 H1 locs1 → decode cX6_pass pc = .ok (.return_, 1) → W p l e R s m args below meth c H1 locs1 (xn res.2.1 - xn K0) (2 * (xn res.2.1 - xn K0)) Q (F0 m pc ls1 [])) (x3 : Int32) (z0 : Int32) (F : PF) (G : PG) (hm : cb_X6_pass_56 fu x3 z0 F G = some res) {b : Nat} {H : Heap} {locs : List Loc} (hw : cMW s A v a b K0 F G H locs) {ls : Array Slot} (hl : lv_has ls 4 [(0, .ref (a 206)), (3, .int x3)]) : W p l e R s m args below meth c H locs (xn F - xn K0) (2 * (xn F - xn K0)) Q (F0 m 56 ls [.int z0, .ref (a 206)]) := by
  have hx := C.1
  have hb := C.2.1
  unfold cb_X6_pass_56 at hm
  obtain ⟨⟨r1, F1, G1⟩, hc, hm⟩ := bind_elim hm
  refine ccallV (n := 1) (As := [.int z0]) (rest := []) C hw (ck_X6_push l v a _ _ fu z0 F G r1 F1 G1 hc) (cn_X6_push fu z0 F G _ hc) (Nat.sub_le_sub_right (cn_X6_pass_59 fu x3 F1 G1 hm) _) (crecv_X6 C hw) cm_533 cm_534 cm_535 cm_21 cm_536 (by decide +kernel) rfl (by omega) (by omega) hl.1 rfl (Nat.le_of_ble_eq_true rfl) dX6_pass_56 (fun b H locs hw => ?_)
  exact cw_X6_pass_59 fu C hret x3 F1 G1 hm hw (lv_sub hl [0, 1] rfl)
theorem cn_X6_pass_50 (fu : Nat) {res : Int32 × PF × PG} (x2 : Int32) (x3 : Int32) (F : PF) (G : PG) (hm : cb_X6_pass_50 fu x2 x3 F G = some res) : xn F ≤ xn res.2.1 := by
  unfold cb_X6_pass_50 at hm
  exact (cn_X6_pass_56 fu x3 ((F 58) + x2) F G hm)
theorem cw_X6_pass_50 (fu : Nat) {res : Int32 × PF × PG} (C : cMC p R s m args c A v RX6 cX6_pass 4 3 111 (xn res.2.1 - xn K0)) (hret : ∀ (b1 : Nat) (H1 : Heap) (locs1 : List Loc) (ls1 : Array Slot) (pc : Nat), cMW s A v a b1 K0 res.2.1 res.2.2 H1 locs1 → decode cX6_pass pc = .ok (.return_, 1) → W p l e R s m args below meth c H1 locs1 (xn res.2.1 - xn K0) (2 * (xn res.2.1 - xn K0)) Q (F0 m pc ls1 [])) (x2 : Int32) (x3 : Int32) (F : PF) (G : PG) (hm : cb_X6_pass_50 fu x2 x3 F G = some res) {b : Nat} {H : Heap} {locs : List Loc} (hw : cMW s A v a b K0 F G H locs) {ls : Array Slot} (hl : lv_has ls 4 [(0, .ref (a 206)), (2, .int x2), (3, .int x3)]) : W p l e R s m args below meth c H locs (xn F - xn K0) (2 * (xn F - xn K0)) Q (F0 m 50 ls [.ref (a 206)]) := by
  have hx := C.1
  have hb := C.2.1
  unfold cb_X6_pass_50 at hm
  refine lv_aload_n hx hb dX6_pass_50 rfl (lv_at hl 0 rfl) ?_
  refine cg_X6_140 C hw dX6_pass_51 ?_
  refine lv_iload_n hx hb dX6_pass_54 rfl (lv_at hl 1 rfl) ?_
  refine lv_iadd hx hb dX6_pass_55 ?_
  exact cw_X6_pass_56 fu C hret x3 ((F 58) + x2) F G hm hw (lv_sub hl [0, 2] rfl)
theorem cn_X6_pass_46 (fu : Nat) {res : Int32 × PF × PG} (x2 : Int32) (x3 : Int32) (F : PF) (G : PG) (hm : cb_X6_pass_46 fu x2 x3 F G = some res) : xn F ≤ xn res.2.1 := by
  unfold cb_X6_pass_46 at hm
  exact (cn_X6_pass_56 fu x3 x2 F G hm)
theorem cw_X6_pass_46 (fu : Nat) {res : Int32 × PF × PG} (C : cMC p R s m args c A v RX6 cX6_pass 4 3 111 (xn res.2.1 - xn K0)) (hret : ∀ (b1 : Nat) (H1 : Heap) (locs1 : List Loc) (ls1 : Array Slot) (pc : Nat), cMW s A v a b1 K0 res.2.1 res.2.2 H1 locs1 → decode cX6_pass pc = .ok (.return_, 1) → W p l e R s m args below meth c H1 locs1 (xn res.2.1 - xn K0) (2 * (xn res.2.1 - xn K0)) Q (F0 m pc ls1 [])) (x2 : Int32) (x3 : Int32) (F : PF) (G : PG) (hm : cb_X6_pass_46 fu x2 x3 F G = some res) {b : Nat} {H : Heap} {locs : List Loc} (hw : cMW s A v a b K0 F G H locs) {ls : Array Slot} (hl : lv_has ls 4 [(0, .ref (a 206)), (2, .int x2), (3, .int x3)]) : W p l e R s m args below meth c H locs (xn F - xn K0) (2 * (xn F - xn K0)) Q (F0 m 46 ls [.ref (a 206)]) := by
  have hx := C.1
  have hb := C.2.1
  unfold cb_X6_pass_46 at hm
  refine lv_iload_n hx hb dX6_pass_46 rfl (lv_at hl 1 rfl) ?_
  refine lv_goto (tgt := 56) hx hb dX6_pass_47 (by decide) ?_
  exact cw_X6_pass_56 fu C hret x3 x2 F G hm hw (lv_sub hl [0, 2] rfl)
theorem cn_X6_pass_39 (fu : Nat) {res : Int32 × PF × PG} (x1 : Int32) (x2 : Int32) (x3 : Int32) (F : PF) (G : PG) (hm : cb_X6_pass_39 fu x1 x2 x3 F G = some res) : xn F ≤ xn res.2.1 := by
  unfold cb_X6_pass_39 at hm
  by_cases c_1 : x1 = (81 : Int32)
  · have hm := (if_pos c_1).symm.trans hm
    exact (cn_X6_pass_46 fu x2 x3 F G hm)
  · have hm := (if_neg c_1).symm.trans hm
    exact (cn_X6_pass_50 fu x2 x3 F G hm)
theorem cw_X6_pass_39 (fu : Nat) {res : Int32 × PF × PG} (C : cMC p R s m args c A v RX6 cX6_pass 4 3 111 (xn res.2.1 - xn K0)) (hret : ∀ (b1 : Nat) (H1 : Heap) (locs1 : List Loc) (ls1 : Array Slot) (pc : Nat), cMW s A v a b1 K0 res.2.1 res.2.2 H1 locs1 → decode cX6_pass pc = .ok (.return_, 1) → W p l e R s m args below meth c H1 locs1 (xn res.2.1 - xn K0) (2 * (xn res.2.1 - xn K0)) Q (F0 m pc ls1 [])) (x1 : Int32) (x2 : Int32) (x3 : Int32) (F : PF) (G : PG) (hm : cb_X6_pass_39 fu x1 x2 x3 F G = some res) {b : Nat} {H : Heap} {locs : List Loc} (hw : cMW s A v a b K0 F G H locs) {ls : Array Slot} (hl : lv_has ls 4 [(0, .ref (a 206)), (1, .int x1), (2, .int x2), (3, .int x3)]) : W p l e R s m args below meth c H locs (xn F - xn K0) (2 * (xn F - xn K0)) Q (F0 m 39 ls []) := by
  have hx := C.1
  have hb := C.2.1
  unfold cb_X6_pass_39 at hm
  refine lv_aload_n hx hb dX6_pass_39 rfl (lv_at hl 0 rfl) ?_
  refine lv_iload_n hx hb dX6_pass_40 rfl (lv_at hl 1 rfl) ?_
  refine lv_bipush (v := 81) hx hb dX6_pass_41 (by decide) ?_
  refine lv_icmp_ne (tgt := 50) hx hb dX6_pass_43 (by decide) (fun c_1 => ?_) (fun c_1 => ?_)
  · have hm := (if_neg c_1).symm.trans hm
    exact cw_X6_pass_50 fu C hret x2 x3 F G hm hw (lv_sub hl [0, 2, 3] rfl)
  · have hm := (if_pos c_1).symm.trans hm
    exact cw_X6_pass_46 fu C hret x2 x3 F G hm hw (lv_sub hl [0, 2, 3] rfl)
theorem cn_X6_pass_36 (fu : Nat) {res : Int32 × PF × PG} (F : PF) (G : PG) (hm : cb_X6_pass_36 fu F G = some res) : xn F ≤ xn res.2.1 := by
  unfold cb_X6_pass_36 at hm
  exact (cn_X6_pass_64 fu F G hm)
theorem cw_X6_pass_36 (fu : Nat) {res : Int32 × PF × PG} (C : cMC p R s m args c A v RX6 cX6_pass 4 3 111 (xn res.2.1 - xn K0)) (hret : ∀ (b1 : Nat) (H1 : Heap) (locs1 : List Loc) (ls1 : Array Slot) (pc : Nat), cMW s A v a b1 K0 res.2.1 res.2.2 H1 locs1 → decode cX6_pass pc = .ok (.return_, 1) → W p l e R s m args below meth c H1 locs1 (xn res.2.1 - xn K0) (2 * (xn res.2.1 - xn K0)) Q (F0 m pc ls1 [])) (F : PF) (G : PG) (hm : cb_X6_pass_36 fu F G = some res) {b : Nat} {H : Heap} {locs : List Loc} (hw : cMW s A v a b K0 F G H locs) {ls : Array Slot} (hl : lv_has ls 4 []) : W p l e R s m args below meth c H locs (xn F - xn K0) (2 * (xn F - xn K0)) Q (F0 m 36 ls []) := by
  have hx := C.1
  have hb := C.2.1
  unfold cb_X6_pass_36 at hm
  refine lv_goto (tgt := 64) hx hb dX6_pass_36 (by decide) ?_
  exact cw_X6_pass_64 fu C hret F G hm hw (lv_sub hl [] rfl)
theorem cn_X6_pass_33 (fu : Nat) {res : Int32 × PF × PG} (z0 : Int32) (F : PF) (G : PG) (hm : cb_X6_pass_33 fu z0 F G = some res) : xn F ≤ xn res.2.1 := by
  unfold cb_X6_pass_33 at hm
  obtain ⟨⟨r1, F1, G1⟩, hc, hm⟩ := bind_elim hm
  exact Nat.le_trans (cn_X6_push fu z0 F G _ hc) (cn_X6_pass_36 fu F1 G1 hm)
theorem cw_X6_pass_33 (fu : Nat) {res : Int32 × PF × PG} (C : cMC p R s m args c A v RX6 cX6_pass 4 3 111 (xn res.2.1 - xn K0)) (hret : ∀ (b1 : Nat) (H1 : Heap) (locs1 : List Loc) (ls1 : Array Slot) (pc : Nat), cMW s A v a b1 K0 res.2.1 res.2.2 H1 locs1 → decode cX6_pass pc = .ok (.return_, 1) → W p l e R s m args below meth c H1 locs1 (xn res.2.1 - xn K0) (2 * (xn res.2.1 - xn K0)) Q (F0 m pc ls1 [])) (z0 : Int32) (F : PF) (G : PG) (hm : cb_X6_pass_33 fu z0 F G = some res) {b : Nat} {H : Heap} {locs : List Loc} (hw : cMW s A v a b K0 F G H locs) {ls : Array Slot} (hl : lv_has ls 4 []) : W p l e R s m args below meth c H locs (xn F - xn K0) (2 * (xn F - xn K0)) Q (F0 m 33 ls [.int z0, .ref (a 206)]) := by
  have hx := C.1
  have hb := C.2.1
  unfold cb_X6_pass_33 at hm
  obtain ⟨⟨r1, F1, G1⟩, hc, hm⟩ := bind_elim hm
  refine ccallV (n := 1) (As := [.int z0]) (rest := []) C hw (ck_X6_push l v a _ _ fu z0 F G r1 F1 G1 hc) (cn_X6_push fu z0 F G _ hc) (Nat.sub_le_sub_right (cn_X6_pass_36 fu F1 G1 hm) _) (crecv_X6 C hw) cm_533 cm_534 cm_535 cm_21 cm_536 (by decide +kernel) rfl (by omega) (by omega) hl.1 rfl (Nat.le_of_ble_eq_true rfl) dX6_pass_33 (fun b H locs hw => ?_)
  exact cw_X6_pass_36 fu C hret F1 G1 hm hw (lv_sub hl [] rfl)
theorem cn_X6_pass_20 (fu : Nat) {res : Int32 × PF × PG} (x2 : Int32) (F : PF) (G : PG) (hm : cb_X6_pass_20 fu x2 F G = some res) : xn F ≤ xn res.2.1 := by
  unfold cb_X6_pass_20 at hm
  obtain ⟨⟨r1, F1, G1⟩, hc, hm⟩ := bind_elim hm
  exact Nat.le_trans (cn_X6_held fu (((F 58) + x2) + (1 : Int32)) F G _ hc) (cn_X6_pass_33 fu r1 F1 G1 hm)
theorem cw_X6_pass_20 (fu : Nat) {res : Int32 × PF × PG} (C : cMC p R s m args c A v RX6 cX6_pass 4 3 111 (xn res.2.1 - xn K0)) (hret : ∀ (b1 : Nat) (H1 : Heap) (locs1 : List Loc) (ls1 : Array Slot) (pc : Nat), cMW s A v a b1 K0 res.2.1 res.2.2 H1 locs1 → decode cX6_pass pc = .ok (.return_, 1) → W p l e R s m args below meth c H1 locs1 (xn res.2.1 - xn K0) (2 * (xn res.2.1 - xn K0)) Q (F0 m pc ls1 [])) (x2 : Int32) (F : PF) (G : PG) (hm : cb_X6_pass_20 fu x2 F G = some res) {b : Nat} {H : Heap} {locs : List Loc} (hw : cMW s A v a b K0 F G H locs) {ls : Array Slot} (hl : lv_has ls 4 [(0, .ref (a 206)), (2, .int x2)]) : W p l e R s m args below meth c H locs (xn F - xn K0) (2 * (xn F - xn K0)) Q (F0 m 20 ls []) := by
  have hx := C.1
  have hb := C.2.1
  unfold cb_X6_pass_20 at hm
  refine lv_aload_n hx hb dX6_pass_20 rfl (lv_at hl 0 rfl) ?_
  refine lv_aload_n hx hb dX6_pass_21 rfl (lv_at hl 0 rfl) ?_
  refine lv_aload_n hx hb dX6_pass_22 rfl (lv_at hl 0 rfl) ?_
  refine cg_X6_140 C hw dX6_pass_23 ?_
  refine lv_iload_n hx hb dX6_pass_26 rfl (lv_at hl 1 rfl) ?_
  refine lv_iadd hx hb dX6_pass_27 ?_
  refine lv_iconst (v := 1) hx hb dX6_pass_28 (by decide) ?_
  refine lv_iadd hx hb dX6_pass_29 ?_
  obtain ⟨⟨r1, F1, G1⟩, hc, hm⟩ := bind_elim hm
  refine ccallI (n := 1) (As := [.int (((F 58) + x2) + (1 : Int32))]) (rest := [.ref (a 206)]) C hw (ck_X6_held l v a _ _ fu (((F 58) + x2) + (1 : Int32)) F G r1 F1 G1 hc) (cn_X6_held fu (((F 58) + x2) + (1 : Int32)) F G _ hc) (Nat.sub_le_sub_right (cn_X6_pass_33 fu r1 F1 G1 hm) _) (crecv_X6 C hw) cm_862 cm_863 cm_864 cm_21 cm_865 (by decide +kernel) rfl (by omega) (by omega) hl.1 rfl (Nat.le_of_ble_eq_true rfl) dX6_pass_30 (fun b H locs hw => ?_)
  exact cw_X6_pass_33 fu C hret r1 F1 G1 hm hw (lv_sub hl [] rfl)
theorem cn_X6_pass_17 (fu : Nat) {res : Int32 × PF × PG} (x2 : Int32) (z0 : Int32) (F : PF) (G : PG) (hm : cb_X6_pass_17 fu x2 z0 F G = some res) : xn F ≤ xn res.2.1 := by
  unfold cb_X6_pass_17 at hm
  obtain ⟨⟨r1, F1, G1⟩, hc, hm⟩ := bind_elim hm
  exact Nat.le_trans (cn_X6_push fu z0 F G _ hc) (cn_X6_pass_20 fu x2 F1 G1 hm)
theorem cw_X6_pass_17 (fu : Nat) {res : Int32 × PF × PG} (C : cMC p R s m args c A v RX6 cX6_pass 4 3 111 (xn res.2.1 - xn K0)) (hret : ∀ (b1 : Nat) (H1 : Heap) (locs1 : List Loc) (ls1 : Array Slot) (pc : Nat), cMW s A v a b1 K0 res.2.1 res.2.2 H1 locs1 → decode cX6_pass pc = .ok (.return_, 1) → W p l e R s m args below meth c H1 locs1 (xn res.2.1 - xn K0) (2 * (xn res.2.1 - xn K0)) Q (F0 m pc ls1 [])) (x2 : Int32) (z0 : Int32) (F : PF) (G : PG) (hm : cb_X6_pass_17 fu x2 z0 F G = some res) {b : Nat} {H : Heap} {locs : List Loc} (hw : cMW s A v a b K0 F G H locs) {ls : Array Slot} (hl : lv_has ls 4 [(0, .ref (a 206)), (2, .int x2)]) : W p l e R s m args below meth c H locs (xn F - xn K0) (2 * (xn F - xn K0)) Q (F0 m 17 ls [.int z0, .ref (a 206)]) := by
  have hx := C.1
  have hb := C.2.1
  unfold cb_X6_pass_17 at hm
  obtain ⟨⟨r1, F1, G1⟩, hc, hm⟩ := bind_elim hm
  refine ccallV (n := 1) (As := [.int z0]) (rest := []) C hw (ck_X6_push l v a _ _ fu z0 F G r1 F1 G1 hc) (cn_X6_push fu z0 F G _ hc) (Nat.sub_le_sub_right (cn_X6_pass_20 fu x2 F1 G1 hm) _) (crecv_X6 C hw) cm_533 cm_534 cm_535 cm_21 cm_536 (by decide +kernel) rfl (by omega) (by omega) hl.1 rfl (Nat.le_of_ble_eq_true rfl) dX6_pass_17 (fun b H locs hw => ?_)
  exact cw_X6_pass_20 fu C hret x2 F1 G1 hm hw (lv_sub hl [0, 1] rfl)
theorem cn_X6_pass_6 (fu : Nat) {res : Int32 × PF × PG} (x2 : Int32) (F : PF) (G : PG) (hm : cb_X6_pass_6 fu x2 F G = some res) : xn F ≤ xn res.2.1 := by
  unfold cb_X6_pass_6 at hm
  obtain ⟨⟨r1, F1, G1⟩, hc, hm⟩ := bind_elim hm
  exact Nat.le_trans (cn_X6_held fu ((F 58) + x2) F G _ hc) (cn_X6_pass_17 fu x2 r1 F1 G1 hm)
theorem cw_X6_pass_6 (fu : Nat) {res : Int32 × PF × PG} (C : cMC p R s m args c A v RX6 cX6_pass 4 3 111 (xn res.2.1 - xn K0)) (hret : ∀ (b1 : Nat) (H1 : Heap) (locs1 : List Loc) (ls1 : Array Slot) (pc : Nat), cMW s A v a b1 K0 res.2.1 res.2.2 H1 locs1 → decode cX6_pass pc = .ok (.return_, 1) → W p l e R s m args below meth c H1 locs1 (xn res.2.1 - xn K0) (2 * (xn res.2.1 - xn K0)) Q (F0 m pc ls1 [])) (x2 : Int32) (F : PF) (G : PG) (hm : cb_X6_pass_6 fu x2 F G = some res) {b : Nat} {H : Heap} {locs : List Loc} (hw : cMW s A v a b K0 F G H locs) {ls : Array Slot} (hl : lv_has ls 4 [(0, .ref (a 206)), (2, .int x2)]) : W p l e R s m args below meth c H locs (xn F - xn K0) (2 * (xn F - xn K0)) Q (F0 m 6 ls []) := by
  have hx := C.1
  have hb := C.2.1
  unfold cb_X6_pass_6 at hm
  refine lv_aload_n hx hb dX6_pass_6 rfl (lv_at hl 0 rfl) ?_
  refine lv_aload_n hx hb dX6_pass_7 rfl (lv_at hl 0 rfl) ?_
  refine lv_aload_n hx hb dX6_pass_8 rfl (lv_at hl 0 rfl) ?_
  refine cg_X6_140 C hw dX6_pass_9 ?_
  refine lv_iload_n hx hb dX6_pass_12 rfl (lv_at hl 1 rfl) ?_
  refine lv_iadd hx hb dX6_pass_13 ?_
  obtain ⟨⟨r1, F1, G1⟩, hc, hm⟩ := bind_elim hm
  refine ccallI (n := 1) (As := [.int ((F 58) + x2)]) (rest := [.ref (a 206)]) C hw (ck_X6_held l v a _ _ fu ((F 58) + x2) F G r1 F1 G1 hc) (cn_X6_held fu ((F 58) + x2) F G _ hc) (Nat.sub_le_sub_right (cn_X6_pass_17 fu x2 r1 F1 G1 hm) _) (crecv_X6 C hw) cm_862 cm_863 cm_864 cm_21 cm_865 (by decide +kernel) rfl (by omega) (by omega) hl.1 rfl (Nat.le_of_ble_eq_true rfl) dX6_pass_14 (fun b H locs hw => ?_)
  exact cw_X6_pass_17 fu C hret x2 r1 F1 G1 hm hw (lv_sub hl [0, 1] rfl)
theorem cn_X6_pass_0 (fu : Nat) {res : Int32 × PF × PG} (x1 : Int32) (x2 : Int32) (x3 : Int32) (F : PF) (G : PG) (hm : cb_X6_pass_0 fu x1 x2 x3 F G = some res) : xn F ≤ xn res.2.1 := by
  unfold cb_X6_pass_0 at hm
  by_cases c_1 : x1 = (83 : Int32)
  · have hm := (if_pos c_1).symm.trans hm
    exact (cn_X6_pass_6 fu x2 F G hm)
  · have hm := (if_neg c_1).symm.trans hm
    exact (cn_X6_pass_39 fu x1 x2 x3 F G hm)
theorem cw_X6_pass_0 (fu : Nat) {res : Int32 × PF × PG} (C : cMC p R s m args c A v RX6 cX6_pass 4 3 111 (xn res.2.1 - xn K0)) (hret : ∀ (b1 : Nat) (H1 : Heap) (locs1 : List Loc) (ls1 : Array Slot) (pc : Nat), cMW s A v a b1 K0 res.2.1 res.2.2 H1 locs1 → decode cX6_pass pc = .ok (.return_, 1) → W p l e R s m args below meth c H1 locs1 (xn res.2.1 - xn K0) (2 * (xn res.2.1 - xn K0)) Q (F0 m pc ls1 [])) (x1 : Int32) (x2 : Int32) (x3 : Int32) (F : PF) (G : PG) (hm : cb_X6_pass_0 fu x1 x2 x3 F G = some res) {b : Nat} {H : Heap} {locs : List Loc} (hw : cMW s A v a b K0 F G H locs) {ls : Array Slot} (hl : lv_has ls 4 [(0, .ref (a 206)), (1, .int x1), (2, .int x2), (3, .int x3)]) : W p l e R s m args below meth c H locs (xn F - xn K0) (2 * (xn F - xn K0)) Q (F0 m 0 ls []) := by
  have hx := C.1
  have hb := C.2.1
  unfold cb_X6_pass_0 at hm
  refine lv_iload_n hx hb dX6_pass_0 rfl (lv_at hl 1 rfl) ?_
  refine lv_bipush (v := 83) hx hb dX6_pass_1 (by decide) ?_
  refine lv_icmp_ne (tgt := 39) hx hb dX6_pass_3 (by decide) (fun c_1 => ?_) (fun c_1 => ?_)
  · have hm := (if_neg c_1).symm.trans hm
    exact cw_X6_pass_39 fu C hret x1 x2 x3 F G hm hw (lv_sub hl [0, 1, 2, 3] rfl)
  · have hm := (if_pos c_1).symm.trans hm
    exact cw_X6_pass_6 fu C hret x2 F G hm hw (lv_sub hl [0, 2] rfl)
theorem cn_X6_pass (fu : Nat) (x1 : Int32) (x2 : Int32) (x3 : Int32) (F : PF) (G : PG) (q : Int32 × PF × PG) (hm : cf_X6_pass fu x1 x2 x3 F G = some q) : xn F ≤ xn q.2.1 := cn_X6_pass_0 fu x1 x2 x3 F G hm
theorem ck_X6_pass (l : Launch) (v : EV) (a : Nat → Nat) (b sz : Nat) (fu : Nat) (x1 : Int32) (x2 : Int32) (x3 : Int32) (F : PF) (G : PG) (r : Int32) (F1 : PF) (G1 : PG) (hm : cf_X6_pass fu x1 x2 x3 F G = some (r, F1, G1)) : cMV l yX6_pass cX6_pass 4 3 111 v a b sz [.ref (a 206), .int x1, .int x2, .int x3] F G F1 G1 := cMV.of (by decide) (Nat.le_of_ble_eq_true rfl) (fun p e R s m args below meth c Q A H locs ls C hw hl hret => cw_X6_pass_0 fu (res := (r, F1, G1)) C hret x1 x2 x3 F G hm hw hl)
def cb_X6_reach_213 (fu : Nat) (F : PF) (G : PG) : PR := some (0, F, G)
def cb_X6_reach_56 (fu : Nat) (F : PF) (G : PG) : PR := cb_X6_reach_213 fu F G
def cb_X6_reach_53 (fu : Nat) (z0 : Int32) (z1 : Int32) (F : PF) (G : PG) : PR := (cf_X6_element fu z1 z0 F G).bind (fun q => cb_X6_reach_56 fu q.2.1 q.2.2)
def cb_X6_reach_49 (fu : Nat) (z0 : Int32) (F : PF) (G : PG) : PR := (cf_X6_next fu F G).bind (fun q => cb_X6_reach_53 fu q.1 z0 q.2.1 q.2.2)
def cb_X6_reach_44 (fu : Nat) (F : PF) (G : PG) : PR := (cf_X6_next fu F G).bind (fun q => cb_X6_reach_49 fu q.1 q.2.1 q.2.2)
def cb_X6_reach_76 (fu : Nat) (F : PF) (G : PG) : PR := cb_X6_reach_213 fu F G
def cb_X6_reach_73 (fu : Nat) (z0 : Int32) (z1 : Int32) (F : PF) (G : PG) : PR := (cf_X6_element fu z1 z0 F G).bind (fun q => cb_X6_reach_76 fu q.2.1 q.2.2)
def cb_X6_reach_68 (fu : Nat) (z0 : Int32) (z1 : Int32) (F : PF) (G : PG) : PR := (cf_X6_next fu F G).bind (fun q => cb_X6_reach_73 fu q.1 (z1 + z0) q.2.1 q.2.2)
def cb_X6_reach_59 (fu : Nat) (F : PF) (G : PG) : PR := (cf_X6_next fu F G).bind (fun q => cb_X6_reach_68 fu q.1 (F 58) q.2.1 q.2.2)
def cb_X6_reach_110 (fu : Nat) (F : PF) (G : PG) : PR := cb_X6_reach_213 fu F G
def cb_X6_reach_107 (fu : Nat) (z0 : Int32) (z1 : Int32) (F : PF) (G : PG) : PR := (cf_X6_element fu z1 z0 F G).bind (fun q => cb_X6_reach_110 fu q.2.1 q.2.2)
def cb_X6_reach_100 (fu : Nat) (x2 : Int32) (z0 : Int32) (F : PF) (G : PG) : PR := (cf_X6_held fu (x2 + (1 : Int32)) F G).bind (fun q => cb_X6_reach_107 fu q.1 z0 q.2.1 q.2.2)
def cb_X6_reach_93 (fu : Nat) (x2 : Int32) (z0 : Int32) (F : PF) (G : PG) : PR := (cf_X6_held fu x2 F G).bind (fun q => cb_X6_reach_100 fu x2 q.1 q.2.1 q.2.2)
def cb_X6_reach_87 (fu : Nat) (z0 : Int32) (z1 : Int32) (F : PF) (G : PG) : PR := (cf_X6_next fu F G).bind (fun q => cb_X6_reach_93 fu (z1 + z0) q.1 q.2.1 q.2.2)
def cb_X6_reach_79 (fu : Nat) (F : PF) (G : PG) : PR := (cf_X6_next fu F G).bind (fun q => cb_X6_reach_87 fu q.1 (F 58) q.2.1 q.2.2)
def cb_X6_reach_125 (fu : Nat) (F : PF) (G : PG) : PR := cb_X6_reach_213 fu F G
def cb_X6_reach_122 (fu : Nat) (z0 : Int32) (F : PF) (G : PG) : PR := (cf_X6_push fu z0 F G).bind (fun q => cb_X6_reach_125 fu q.2.1 q.2.2)
def cb_X6_reach_119 (fu : Nat) (z0 : Int32) (F : PF) (G : PG) : PR := (cf_X6_held fu z0 F G).bind (fun q => cb_X6_reach_122 fu q.1 q.2.1 q.2.2)
def cb_X6_reach_113 (fu : Nat) (F : PF) (G : PG) : PR := (cf_X6_pop fu F G).bind (fun q => cb_X6_reach_119 fu q.1 q.2.1 q.2.2)
def cb_X6_reach_155 (fu : Nat) (F : PF) (G : PG) : PR := cb_X6_reach_213 fu F G
def cb_X6_reach_141 (fu : Nat) (x3 : Int32) (z0 : Int32) (F : PF) (G : PG) : PR := (cf_X6_push fu (((z0.toUInt32 >>> (((x3 &&& (3 : Int32)) * (8 : Int32)).toUInt32 &&& Int32.toUInt32 31)).toInt32) &&& (255 : Int32)) F G).bind (fun q => cb_X6_reach_155 fu q.2.1 q.2.2)
def cb_X6_reach_132 (fu : Nat) (z0 : Int32) (F : PF) (G : PG) : PR := (cf_X6_held fu (z0 >>> ((2 : Int32) &&& 31)) F G).bind (fun q => cb_X6_reach_141 fu z0 q.1 q.2.1 q.2.2)
def cb_X6_reach_128 (fu : Nat) (F : PF) (G : PG) : PR := (cf_X6_pop fu F G).bind (fun q => cb_X6_reach_132 fu q.1 q.2.1 q.2.2)
def cb_X6_reach_174 (fu : Nat) (F : PF) (G : PG) : PR := cb_X6_reach_213 fu F G
def cb_X6_reach_169 (fu : Nat) (x4 : Int32) (z0 : Int32) (F : PF) (G : PG) : PR := (cf_X6_hold fu z0 x4 F G).bind (fun q => cb_X6_reach_174 fu q.2.1 q.2.2)
def cb_X6_reach_162 (fu : Nat) (z0 : Int32) (F : PF) (G : PG) : PR := (cf_X6_pop fu F G).bind (fun q => cb_X6_reach_169 fu z0 q.1 q.2.1 q.2.2)
def cb_X6_reach_158 (fu : Nat) (F : PF) (G : PG) : PR := (cf_X6_pop fu F G).bind (fun q => cb_X6_reach_162 fu q.1 q.2.1 q.2.2)
def cb_X6_reach_197 (fu : Nat) (F : PF) (G : PG) : PR := cb_X6_reach_213 fu F G
def cb_X6_reach_188 (fu : Nat) (x5 : Int32) (z0 : Int32) (F : PF) (G : PG) : PR := (cf_X6_keepByte fu z0 (x5 &&& (255 : Int32)) F G).bind (fun q => cb_X6_reach_197 fu q.2.1 q.2.2)
def cb_X6_reach_181 (fu : Nat) (z0 : Int32) (F : PF) (G : PG) : PR := (cf_X6_pop fu F G).bind (fun q => cb_X6_reach_188 fu z0 q.1 q.2.1 q.2.2)
def cb_X6_reach_177 (fu : Nat) (F : PF) (G : PG) : PR := (cf_X6_pop fu F G).bind (fun q => cb_X6_reach_181 fu q.1 q.2.1 q.2.2)
def cb_X6_reach_210 (fu : Nat) (z0 : Int32) (z1 : Int32) (z2 : Int32) (F : PF) (G : PG) : PR := (cf_X6_pass fu z2 z1 z0 F G).bind (fun q => cb_X6_reach_213 fu q.2.1 q.2.2)
def cb_X6_reach_206 (fu : Nat) (z0 : Int32) (z1 : Int32) (F : PF) (G : PG) : PR := (cf_X6_next fu F G).bind (fun q => cb_X6_reach_210 fu q.1 z0 z1 q.2.1 q.2.2)
def cb_X6_reach_200 (fu : Nat) (x1 : Int32) (F : PF) (G : PG) : PR := (cf_X6_next fu F G).bind (fun q => cb_X6_reach_206 fu q.1 x1 q.2.1 q.2.2)
def cb_X6_reach_0 (fu : Nat) (x1 : Int32) (F : PF) (G : PG) : PR := if x1.toInt < 74 ∨ 80 < x1.toInt then cb_X6_reach_200 fu x1 F G else if x1 = 74 then cb_X6_reach_44 fu F G else if x1 = 75 then cb_X6_reach_59 fu F G else if x1 = 76 then cb_X6_reach_79 fu F G else if x1 = 77 then cb_X6_reach_113 fu F G else if x1 = 78 then cb_X6_reach_128 fu F G else if x1 = 79 then cb_X6_reach_158 fu F G else cb_X6_reach_177 fu F G
def cf_X6_reach (fu : Nat) (x1 : Int32) (F : PF) (G : PG) : PR := cb_X6_reach_0 fu x1 F G
theorem cn_X6_reach_213 (fu : Nat) {res : Int32 × PF × PG} (F : PF) (G : PG) (hm : cb_X6_reach_213 fu F G = some res) : xn F ≤ xn res.2.1 := by
  unfold cb_X6_reach_213 at hm
  obtain rfl := Option.some.inj hm
  exact Nat.le_refl _
theorem cw_X6_reach_213 (fu : Nat) {res : Int32 × PF × PG} (C : cMC p R s m args c A v RX6 cX6_reach 6 4 136 (xn res.2.1 - xn K0)) (hret : ∀ (b1 : Nat) (H1 : Heap) (locs1 : List Loc) (ls1 : Array Slot) (pc : Nat), cMW s A v a b1 K0 res.2.1 res.2.2 H1 locs1 → decode cX6_reach pc = .ok (.return_, 1) → W p l e R s m args below meth c H1 locs1 (xn res.2.1 - xn K0) (2 * (xn res.2.1 - xn K0)) Q (F0 m pc ls1 [])) (F : PF) (G : PG) (hm : cb_X6_reach_213 fu F G = some res) {b : Nat} {H : Heap} {locs : List Loc} (hw : cMW s A v a b K0 F G H locs) {ls : Array Slot} (hl : lv_has ls 6 []) : W p l e R s m args below meth c H locs (xn F - xn K0) (2 * (xn F - xn K0)) Q (F0 m 213 ls []) := by
  have hx := C.1
  have hb := C.2.1
  unfold cb_X6_reach_213 at hm
  obtain rfl := Option.some.inj hm
  exact hret _ _ _ _ _ hw dX6_reach_213
theorem cn_X6_reach_56 (fu : Nat) {res : Int32 × PF × PG} (F : PF) (G : PG) (hm : cb_X6_reach_56 fu F G = some res) : xn F ≤ xn res.2.1 := by
  unfold cb_X6_reach_56 at hm
  exact (cn_X6_reach_213 fu F G hm)
theorem cw_X6_reach_56 (fu : Nat) {res : Int32 × PF × PG} (C : cMC p R s m args c A v RX6 cX6_reach 6 4 136 (xn res.2.1 - xn K0)) (hret : ∀ (b1 : Nat) (H1 : Heap) (locs1 : List Loc) (ls1 : Array Slot) (pc : Nat), cMW s A v a b1 K0 res.2.1 res.2.2 H1 locs1 → decode cX6_reach pc = .ok (.return_, 1) → W p l e R s m args below meth c H1 locs1 (xn res.2.1 - xn K0) (2 * (xn res.2.1 - xn K0)) Q (F0 m pc ls1 [])) (F : PF) (G : PG) (hm : cb_X6_reach_56 fu F G = some res) {b : Nat} {H : Heap} {locs : List Loc} (hw : cMW s A v a b K0 F G H locs) {ls : Array Slot} (hl : lv_has ls 6 []) : W p l e R s m args below meth c H locs (xn F - xn K0) (2 * (xn F - xn K0)) Q (F0 m 56 ls []) := by
  have hx := C.1
  have hb := C.2.1
  unfold cb_X6_reach_56 at hm
  refine lv_goto (tgt := 213) hx hb dX6_reach_56 (by decide) ?_
  exact cw_X6_reach_213 fu C hret F G hm hw (lv_sub hl [] rfl)
theorem cn_X6_reach_53 (fu : Nat) {res : Int32 × PF × PG} (z0 : Int32) (z1 : Int32) (F : PF) (G : PG) (hm : cb_X6_reach_53 fu z0 z1 F G = some res) : xn F ≤ xn res.2.1 := by
  unfold cb_X6_reach_53 at hm
  obtain ⟨⟨r1, F1, G1⟩, hc, hm⟩ := bind_elim hm
  exact Nat.le_trans (cn_X6_element fu z1 z0 F G _ hc) (cn_X6_reach_56 fu F1 G1 hm)
theorem cw_X6_reach_53 (fu : Nat) {res : Int32 × PF × PG} (C : cMC p R s m args c A v RX6 cX6_reach 6 4 136 (xn res.2.1 - xn K0)) (hret : ∀ (b1 : Nat) (H1 : Heap) (locs1 : List Loc) (ls1 : Array Slot) (pc : Nat), cMW s A v a b1 K0 res.2.1 res.2.2 H1 locs1 → decode cX6_reach pc = .ok (.return_, 1) → W p l e R s m args below meth c H1 locs1 (xn res.2.1 - xn K0) (2 * (xn res.2.1 - xn K0)) Q (F0 m pc ls1 [])) (z0 : Int32) (z1 : Int32) (F : PF) (G : PG) (hm : cb_X6_reach_53 fu z0 z1 F G = some res) {b : Nat} {H : Heap} {locs : List Loc} (hw : cMW s A v a b K0 F G H locs) {ls : Array Slot} (hl : lv_has ls 6 []) : W p l e R s m args below meth c H locs (xn F - xn K0) (2 * (xn F - xn K0)) Q (F0 m 53 ls [.int z0, .int z1, .ref (a 206)]) := by
  have hx := C.1
  have hb := C.2.1
  unfold cb_X6_reach_53 at hm
  obtain ⟨⟨r1, F1, G1⟩, hc, hm⟩ := bind_elim hm
  refine ccallV (n := 2) (As := [.int z1, .int z0]) (rest := []) C hw (ck_X6_element l v a _ _ fu z1 z0 F G r1 F1 G1 hc) (cn_X6_element fu z1 z0 F G _ hc) (Nat.sub_le_sub_right (cn_X6_reach_56 fu F1 G1 hm) _) (crecv_X6 C hw) cm_874 cm_875 cm_876 cm_21 cm_877 (by decide +kernel) rfl (by omega) (by omega) hl.1 rfl (Nat.le_of_ble_eq_true rfl) dX6_reach_53 (fun b H locs hw => ?_)
  exact cw_X6_reach_56 fu C hret F1 G1 hm hw (lv_sub hl [] rfl)
theorem cn_X6_reach_49 (fu : Nat) {res : Int32 × PF × PG} (z0 : Int32) (F : PF) (G : PG) (hm : cb_X6_reach_49 fu z0 F G = some res) : xn F ≤ xn res.2.1 := by
  unfold cb_X6_reach_49 at hm
  obtain ⟨⟨r1, F1, G1⟩, hc, hm⟩ := bind_elim hm
  exact Nat.le_trans (cn_X6_next fu F G _ hc) (cn_X6_reach_53 fu r1 z0 F1 G1 hm)
theorem cw_X6_reach_49 (fu : Nat) {res : Int32 × PF × PG} (C : cMC p R s m args c A v RX6 cX6_reach 6 4 136 (xn res.2.1 - xn K0)) (hret : ∀ (b1 : Nat) (H1 : Heap) (locs1 : List Loc) (ls1 : Array Slot) (pc : Nat), cMW s A v a b1 K0 res.2.1 res.2.2 H1 locs1 → decode cX6_reach pc = .ok (.return_, 1) → W p l e R s m args below meth c H1 locs1 (xn res.2.1 - xn K0) (2 * (xn res.2.1 - xn K0)) Q (F0 m pc ls1 [])) (z0 : Int32) (F : PF) (G : PG) (hm : cb_X6_reach_49 fu z0 F G = some res) {b : Nat} {H : Heap} {locs : List Loc} (hw : cMW s A v a b K0 F G H locs) {ls : Array Slot} (hl : lv_has ls 6 [(0, .ref (a 206))]) : W p l e R s m args below meth c H locs (xn F - xn K0) (2 * (xn F - xn K0)) Q (F0 m 49 ls [.int z0, .ref (a 206)]) := by
  have hx := C.1
  have hb := C.2.1
  unfold cb_X6_reach_49 at hm
  refine lv_aload_n hx hb dX6_reach_49 rfl (lv_at hl 0 rfl) ?_
  obtain ⟨⟨r1, F1, G1⟩, hc, hm⟩ := bind_elim hm
  refine ccallI (n := 0) (As := []) (rest := [.int z0, .ref (a 206)]) C hw (ck_X6_next l v a _ _ fu F G r1 F1 G1 hc) (cn_X6_next fu F G _ hc) (Nat.sub_le_sub_right (cn_X6_reach_53 fu r1 z0 F1 G1 hm) _) (crecv_X6 C hw) cm_529 cm_530 cm_531 cm_21 cm_532 (by decide +kernel) rfl (by omega) (by omega) hl.1 rfl (Nat.le_of_ble_eq_true rfl) dX6_reach_50 (fun b H locs hw => ?_)
  exact cw_X6_reach_53 fu C hret r1 z0 F1 G1 hm hw (lv_sub hl [] rfl)
theorem cn_X6_reach_44 (fu : Nat) {res : Int32 × PF × PG} (F : PF) (G : PG) (hm : cb_X6_reach_44 fu F G = some res) : xn F ≤ xn res.2.1 := by
  unfold cb_X6_reach_44 at hm
  obtain ⟨⟨r1, F1, G1⟩, hc, hm⟩ := bind_elim hm
  exact Nat.le_trans (cn_X6_next fu F G _ hc) (cn_X6_reach_49 fu r1 F1 G1 hm)
theorem cw_X6_reach_44 (fu : Nat) {res : Int32 × PF × PG} (C : cMC p R s m args c A v RX6 cX6_reach 6 4 136 (xn res.2.1 - xn K0)) (hret : ∀ (b1 : Nat) (H1 : Heap) (locs1 : List Loc) (ls1 : Array Slot) (pc : Nat), cMW s A v a b1 K0 res.2.1 res.2.2 H1 locs1 → decode cX6_reach pc = .ok (.return_, 1) → W p l e R s m args below meth c H1 locs1 (xn res.2.1 - xn K0) (2 * (xn res.2.1 - xn K0)) Q (F0 m pc ls1 [])) (F : PF) (G : PG) (hm : cb_X6_reach_44 fu F G = some res) {b : Nat} {H : Heap} {locs : List Loc} (hw : cMW s A v a b K0 F G H locs) {ls : Array Slot} (hl : lv_has ls 6 [(0, .ref (a 206))]) : W p l e R s m args below meth c H locs (xn F - xn K0) (2 * (xn F - xn K0)) Q (F0 m 44 ls []) := by
  have hx := C.1
  have hb := C.2.1
  unfold cb_X6_reach_44 at hm
  refine lv_aload_n hx hb dX6_reach_44 rfl (lv_at hl 0 rfl) ?_
  refine lv_aload_n hx hb dX6_reach_45 rfl (lv_at hl 0 rfl) ?_
  obtain ⟨⟨r1, F1, G1⟩, hc, hm⟩ := bind_elim hm
  refine ccallI (n := 0) (As := []) (rest := [.ref (a 206)]) C hw (ck_X6_next l v a _ _ fu F G r1 F1 G1 hc) (cn_X6_next fu F G _ hc) (Nat.sub_le_sub_right (cn_X6_reach_49 fu r1 F1 G1 hm) _) (crecv_X6 C hw) cm_529 cm_530 cm_531 cm_21 cm_532 (by decide +kernel) rfl (by omega) (by omega) hl.1 rfl (Nat.le_of_ble_eq_true rfl) dX6_reach_46 (fun b H locs hw => ?_)
  exact cw_X6_reach_49 fu C hret r1 F1 G1 hm hw (lv_sub hl [0] rfl)
theorem cn_X6_reach_76 (fu : Nat) {res : Int32 × PF × PG} (F : PF) (G : PG) (hm : cb_X6_reach_76 fu F G = some res) : xn F ≤ xn res.2.1 := by
  unfold cb_X6_reach_76 at hm
  exact (cn_X6_reach_213 fu F G hm)
theorem cw_X6_reach_76 (fu : Nat) {res : Int32 × PF × PG} (C : cMC p R s m args c A v RX6 cX6_reach 6 4 136 (xn res.2.1 - xn K0)) (hret : ∀ (b1 : Nat) (H1 : Heap) (locs1 : List Loc) (ls1 : Array Slot) (pc : Nat), cMW s A v a b1 K0 res.2.1 res.2.2 H1 locs1 → decode cX6_reach pc = .ok (.return_, 1) → W p l e R s m args below meth c H1 locs1 (xn res.2.1 - xn K0) (2 * (xn res.2.1 - xn K0)) Q (F0 m pc ls1 [])) (F : PF) (G : PG) (hm : cb_X6_reach_76 fu F G = some res) {b : Nat} {H : Heap} {locs : List Loc} (hw : cMW s A v a b K0 F G H locs) {ls : Array Slot} (hl : lv_has ls 6 []) : W p l e R s m args below meth c H locs (xn F - xn K0) (2 * (xn F - xn K0)) Q (F0 m 76 ls []) := by
  have hx := C.1
  have hb := C.2.1
  unfold cb_X6_reach_76 at hm
  refine lv_goto (tgt := 213) hx hb dX6_reach_76 (by decide) ?_
  exact cw_X6_reach_213 fu C hret F G hm hw (lv_sub hl [] rfl)
theorem cn_X6_reach_73 (fu : Nat) {res : Int32 × PF × PG} (z0 : Int32) (z1 : Int32) (F : PF) (G : PG) (hm : cb_X6_reach_73 fu z0 z1 F G = some res) : xn F ≤ xn res.2.1 := by
  unfold cb_X6_reach_73 at hm
  obtain ⟨⟨r1, F1, G1⟩, hc, hm⟩ := bind_elim hm
  exact Nat.le_trans (cn_X6_element fu z1 z0 F G _ hc) (cn_X6_reach_76 fu F1 G1 hm)
theorem cw_X6_reach_73 (fu : Nat) {res : Int32 × PF × PG} (C : cMC p R s m args c A v RX6 cX6_reach 6 4 136 (xn res.2.1 - xn K0)) (hret : ∀ (b1 : Nat) (H1 : Heap) (locs1 : List Loc) (ls1 : Array Slot) (pc : Nat), cMW s A v a b1 K0 res.2.1 res.2.2 H1 locs1 → decode cX6_reach pc = .ok (.return_, 1) → W p l e R s m args below meth c H1 locs1 (xn res.2.1 - xn K0) (2 * (xn res.2.1 - xn K0)) Q (F0 m pc ls1 [])) (z0 : Int32) (z1 : Int32) (F : PF) (G : PG) (hm : cb_X6_reach_73 fu z0 z1 F G = some res) {b : Nat} {H : Heap} {locs : List Loc} (hw : cMW s A v a b K0 F G H locs) {ls : Array Slot} (hl : lv_has ls 6 []) : W p l e R s m args below meth c H locs (xn F - xn K0) (2 * (xn F - xn K0)) Q (F0 m 73 ls [.int z0, .int z1, .ref (a 206)]) := by
  have hx := C.1
  have hb := C.2.1
  unfold cb_X6_reach_73 at hm
  obtain ⟨⟨r1, F1, G1⟩, hc, hm⟩ := bind_elim hm
  refine ccallV (n := 2) (As := [.int z1, .int z0]) (rest := []) C hw (ck_X6_element l v a _ _ fu z1 z0 F G r1 F1 G1 hc) (cn_X6_element fu z1 z0 F G _ hc) (Nat.sub_le_sub_right (cn_X6_reach_76 fu F1 G1 hm) _) (crecv_X6 C hw) cm_874 cm_875 cm_876 cm_21 cm_877 (by decide +kernel) rfl (by omega) (by omega) hl.1 rfl (Nat.le_of_ble_eq_true rfl) dX6_reach_73 (fun b H locs hw => ?_)
  exact cw_X6_reach_76 fu C hret F1 G1 hm hw (lv_sub hl [] rfl)
theorem cn_X6_reach_68 (fu : Nat) {res : Int32 × PF × PG} (z0 : Int32) (z1 : Int32) (F : PF) (G : PG) (hm : cb_X6_reach_68 fu z0 z1 F G = some res) : xn F ≤ xn res.2.1 := by
  unfold cb_X6_reach_68 at hm
  obtain ⟨⟨r1, F1, G1⟩, hc, hm⟩ := bind_elim hm
  exact Nat.le_trans (cn_X6_next fu F G _ hc) (cn_X6_reach_73 fu r1 (z1 + z0) F1 G1 hm)
theorem cw_X6_reach_68 (fu : Nat) {res : Int32 × PF × PG} (C : cMC p R s m args c A v RX6 cX6_reach 6 4 136 (xn res.2.1 - xn K0)) (hret : ∀ (b1 : Nat) (H1 : Heap) (locs1 : List Loc) (ls1 : Array Slot) (pc : Nat), cMW s A v a b1 K0 res.2.1 res.2.2 H1 locs1 → decode cX6_reach pc = .ok (.return_, 1) → W p l e R s m args below meth c H1 locs1 (xn res.2.1 - xn K0) (2 * (xn res.2.1 - xn K0)) Q (F0 m pc ls1 [])) (z0 : Int32) (z1 : Int32) (F : PF) (G : PG) (hm : cb_X6_reach_68 fu z0 z1 F G = some res) {b : Nat} {H : Heap} {locs : List Loc} (hw : cMW s A v a b K0 F G H locs) {ls : Array Slot} (hl : lv_has ls 6 [(0, .ref (a 206))]) : W p l e R s m args below meth c H locs (xn F - xn K0) (2 * (xn F - xn K0)) Q (F0 m 68 ls [.int z0, .int z1, .ref (a 206)]) := by
  have hx := C.1
  have hb := C.2.1
  unfold cb_X6_reach_68 at hm
  refine lv_iadd hx hb dX6_reach_68 ?_
  refine lv_aload_n hx hb dX6_reach_69 rfl (lv_at hl 0 rfl) ?_
  obtain ⟨⟨r1, F1, G1⟩, hc, hm⟩ := bind_elim hm
  refine ccallI (n := 0) (As := []) (rest := [.int (z1 + z0), .ref (a 206)]) C hw (ck_X6_next l v a _ _ fu F G r1 F1 G1 hc) (cn_X6_next fu F G _ hc) (Nat.sub_le_sub_right (cn_X6_reach_73 fu r1 (z1 + z0) F1 G1 hm) _) (crecv_X6 C hw) cm_529 cm_530 cm_531 cm_21 cm_532 (by decide +kernel) rfl (by omega) (by omega) hl.1 rfl (Nat.le_of_ble_eq_true rfl) dX6_reach_70 (fun b H locs hw => ?_)
  exact cw_X6_reach_73 fu C hret r1 (z1 + z0) F1 G1 hm hw (lv_sub hl [] rfl)
theorem cn_X6_reach_59 (fu : Nat) {res : Int32 × PF × PG} (F : PF) (G : PG) (hm : cb_X6_reach_59 fu F G = some res) : xn F ≤ xn res.2.1 := by
  unfold cb_X6_reach_59 at hm
  obtain ⟨⟨r1, F1, G1⟩, hc, hm⟩ := bind_elim hm
  exact Nat.le_trans (cn_X6_next fu F G _ hc) (cn_X6_reach_68 fu r1 (F 58) F1 G1 hm)
theorem cw_X6_reach_59 (fu : Nat) {res : Int32 × PF × PG} (C : cMC p R s m args c A v RX6 cX6_reach 6 4 136 (xn res.2.1 - xn K0)) (hret : ∀ (b1 : Nat) (H1 : Heap) (locs1 : List Loc) (ls1 : Array Slot) (pc : Nat), cMW s A v a b1 K0 res.2.1 res.2.2 H1 locs1 → decode cX6_reach pc = .ok (.return_, 1) → W p l e R s m args below meth c H1 locs1 (xn res.2.1 - xn K0) (2 * (xn res.2.1 - xn K0)) Q (F0 m pc ls1 [])) (F : PF) (G : PG) (hm : cb_X6_reach_59 fu F G = some res) {b : Nat} {H : Heap} {locs : List Loc} (hw : cMW s A v a b K0 F G H locs) {ls : Array Slot} (hl : lv_has ls 6 [(0, .ref (a 206))]) : W p l e R s m args below meth c H locs (xn F - xn K0) (2 * (xn F - xn K0)) Q (F0 m 59 ls []) := by
  have hx := C.1
  have hb := C.2.1
  unfold cb_X6_reach_59 at hm
  refine lv_aload_n hx hb dX6_reach_59 rfl (lv_at hl 0 rfl) ?_
  refine lv_aload_n hx hb dX6_reach_60 rfl (lv_at hl 0 rfl) ?_
  refine cg_X6_140 C hw dX6_reach_61 ?_
  refine lv_aload_n hx hb dX6_reach_64 rfl (lv_at hl 0 rfl) ?_
  obtain ⟨⟨r1, F1, G1⟩, hc, hm⟩ := bind_elim hm
  refine ccallI (n := 0) (As := []) (rest := [.int (F 58), .ref (a 206)]) C hw (ck_X6_next l v a _ _ fu F G r1 F1 G1 hc) (cn_X6_next fu F G _ hc) (Nat.sub_le_sub_right (cn_X6_reach_68 fu r1 (F 58) F1 G1 hm) _) (crecv_X6 C hw) cm_529 cm_530 cm_531 cm_21 cm_532 (by decide +kernel) rfl (by omega) (by omega) hl.1 rfl (Nat.le_of_ble_eq_true rfl) dX6_reach_65 (fun b H locs hw => ?_)
  exact cw_X6_reach_68 fu C hret r1 (F 58) F1 G1 hm hw (lv_sub hl [0] rfl)
theorem cn_X6_reach_110 (fu : Nat) {res : Int32 × PF × PG} (F : PF) (G : PG) (hm : cb_X6_reach_110 fu F G = some res) : xn F ≤ xn res.2.1 := by
  unfold cb_X6_reach_110 at hm
  exact (cn_X6_reach_213 fu F G hm)
theorem cw_X6_reach_110 (fu : Nat) {res : Int32 × PF × PG} (C : cMC p R s m args c A v RX6 cX6_reach 6 4 136 (xn res.2.1 - xn K0)) (hret : ∀ (b1 : Nat) (H1 : Heap) (locs1 : List Loc) (ls1 : Array Slot) (pc : Nat), cMW s A v a b1 K0 res.2.1 res.2.2 H1 locs1 → decode cX6_reach pc = .ok (.return_, 1) → W p l e R s m args below meth c H1 locs1 (xn res.2.1 - xn K0) (2 * (xn res.2.1 - xn K0)) Q (F0 m pc ls1 [])) (F : PF) (G : PG) (hm : cb_X6_reach_110 fu F G = some res) {b : Nat} {H : Heap} {locs : List Loc} (hw : cMW s A v a b K0 F G H locs) {ls : Array Slot} (hl : lv_has ls 6 []) : W p l e R s m args below meth c H locs (xn F - xn K0) (2 * (xn F - xn K0)) Q (F0 m 110 ls []) := by
  have hx := C.1
  have hb := C.2.1
  unfold cb_X6_reach_110 at hm
  refine lv_goto (tgt := 213) hx hb dX6_reach_110 (by decide) ?_
  exact cw_X6_reach_213 fu C hret F G hm hw (lv_sub hl [] rfl)
theorem cn_X6_reach_107 (fu : Nat) {res : Int32 × PF × PG} (z0 : Int32) (z1 : Int32) (F : PF) (G : PG) (hm : cb_X6_reach_107 fu z0 z1 F G = some res) : xn F ≤ xn res.2.1 := by
  unfold cb_X6_reach_107 at hm
  obtain ⟨⟨r1, F1, G1⟩, hc, hm⟩ := bind_elim hm
  exact Nat.le_trans (cn_X6_element fu z1 z0 F G _ hc) (cn_X6_reach_110 fu F1 G1 hm)
theorem cw_X6_reach_107 (fu : Nat) {res : Int32 × PF × PG} (C : cMC p R s m args c A v RX6 cX6_reach 6 4 136 (xn res.2.1 - xn K0)) (hret : ∀ (b1 : Nat) (H1 : Heap) (locs1 : List Loc) (ls1 : Array Slot) (pc : Nat), cMW s A v a b1 K0 res.2.1 res.2.2 H1 locs1 → decode cX6_reach pc = .ok (.return_, 1) → W p l e R s m args below meth c H1 locs1 (xn res.2.1 - xn K0) (2 * (xn res.2.1 - xn K0)) Q (F0 m pc ls1 [])) (z0 : Int32) (z1 : Int32) (F : PF) (G : PG) (hm : cb_X6_reach_107 fu z0 z1 F G = some res) {b : Nat} {H : Heap} {locs : List Loc} (hw : cMW s A v a b K0 F G H locs) {ls : Array Slot} (hl : lv_has ls 6 []) : W p l e R s m args below meth c H locs (xn F - xn K0) (2 * (xn F - xn K0)) Q (F0 m 107 ls [.int z0, .int z1, .ref (a 206)]) := by
  have hx := C.1
  have hb := C.2.1
  unfold cb_X6_reach_107 at hm
  obtain ⟨⟨r1, F1, G1⟩, hc, hm⟩ := bind_elim hm
  refine ccallV (n := 2) (As := [.int z1, .int z0]) (rest := []) C hw (ck_X6_element l v a _ _ fu z1 z0 F G r1 F1 G1 hc) (cn_X6_element fu z1 z0 F G _ hc) (Nat.sub_le_sub_right (cn_X6_reach_110 fu F1 G1 hm) _) (crecv_X6 C hw) cm_874 cm_875 cm_876 cm_21 cm_877 (by decide +kernel) rfl (by omega) (by omega) hl.1 rfl (Nat.le_of_ble_eq_true rfl) dX6_reach_107 (fun b H locs hw => ?_)
  exact cw_X6_reach_110 fu C hret F1 G1 hm hw (lv_sub hl [] rfl)
theorem cn_X6_reach_100 (fu : Nat) {res : Int32 × PF × PG} (x2 : Int32) (z0 : Int32) (F : PF) (G : PG) (hm : cb_X6_reach_100 fu x2 z0 F G = some res) : xn F ≤ xn res.2.1 := by
  unfold cb_X6_reach_100 at hm
  obtain ⟨⟨r1, F1, G1⟩, hc, hm⟩ := bind_elim hm
  exact Nat.le_trans (cn_X6_held fu (x2 + (1 : Int32)) F G _ hc) (cn_X6_reach_107 fu r1 z0 F1 G1 hm)
theorem cw_X6_reach_100 (fu : Nat) {res : Int32 × PF × PG} (C : cMC p R s m args c A v RX6 cX6_reach 6 4 136 (xn res.2.1 - xn K0)) (hret : ∀ (b1 : Nat) (H1 : Heap) (locs1 : List Loc) (ls1 : Array Slot) (pc : Nat), cMW s A v a b1 K0 res.2.1 res.2.2 H1 locs1 → decode cX6_reach pc = .ok (.return_, 1) → W p l e R s m args below meth c H1 locs1 (xn res.2.1 - xn K0) (2 * (xn res.2.1 - xn K0)) Q (F0 m pc ls1 [])) (x2 : Int32) (z0 : Int32) (F : PF) (G : PG) (hm : cb_X6_reach_100 fu x2 z0 F G = some res) {b : Nat} {H : Heap} {locs : List Loc} (hw : cMW s A v a b K0 F G H locs) {ls : Array Slot} (hl : lv_has ls 6 [(0, .ref (a 206)), (2, .int x2)]) : W p l e R s m args below meth c H locs (xn F - xn K0) (2 * (xn F - xn K0)) Q (F0 m 100 ls [.int z0, .ref (a 206)]) := by
  have hx := C.1
  have hb := C.2.1
  unfold cb_X6_reach_100 at hm
  refine lv_aload_n hx hb dX6_reach_100 rfl (lv_at hl 0 rfl) ?_
  refine lv_iload_n hx hb dX6_reach_101 rfl (lv_at hl 1 rfl) ?_
  refine lv_iconst (v := 1) hx hb dX6_reach_102 (by decide) ?_
  refine lv_iadd hx hb dX6_reach_103 ?_
  obtain ⟨⟨r1, F1, G1⟩, hc, hm⟩ := bind_elim hm
  refine ccallI (n := 1) (As := [.int (x2 + (1 : Int32))]) (rest := [.int z0, .ref (a 206)]) C hw (ck_X6_held l v a _ _ fu (x2 + (1 : Int32)) F G r1 F1 G1 hc) (cn_X6_held fu (x2 + (1 : Int32)) F G _ hc) (Nat.sub_le_sub_right (cn_X6_reach_107 fu r1 z0 F1 G1 hm) _) (crecv_X6 C hw) cm_862 cm_863 cm_864 cm_21 cm_865 (by decide +kernel) rfl (by omega) (by omega) hl.1 rfl (Nat.le_of_ble_eq_true rfl) dX6_reach_104 (fun b H locs hw => ?_)
  exact cw_X6_reach_107 fu C hret r1 z0 F1 G1 hm hw (lv_sub hl [] rfl)
theorem cn_X6_reach_93 (fu : Nat) {res : Int32 × PF × PG} (x2 : Int32) (z0 : Int32) (F : PF) (G : PG) (hm : cb_X6_reach_93 fu x2 z0 F G = some res) : xn F ≤ xn res.2.1 := by
  unfold cb_X6_reach_93 at hm
  obtain ⟨⟨r1, F1, G1⟩, hc, hm⟩ := bind_elim hm
  exact Nat.le_trans (cn_X6_held fu x2 F G _ hc) (cn_X6_reach_100 fu x2 r1 F1 G1 hm)
theorem cw_X6_reach_93 (fu : Nat) {res : Int32 × PF × PG} (C : cMC p R s m args c A v RX6 cX6_reach 6 4 136 (xn res.2.1 - xn K0)) (hret : ∀ (b1 : Nat) (H1 : Heap) (locs1 : List Loc) (ls1 : Array Slot) (pc : Nat), cMW s A v a b1 K0 res.2.1 res.2.2 H1 locs1 → decode cX6_reach pc = .ok (.return_, 1) → W p l e R s m args below meth c H1 locs1 (xn res.2.1 - xn K0) (2 * (xn res.2.1 - xn K0)) Q (F0 m pc ls1 [])) (x2 : Int32) (z0 : Int32) (F : PF) (G : PG) (hm : cb_X6_reach_93 fu x2 z0 F G = some res) {b : Nat} {H : Heap} {locs : List Loc} (hw : cMW s A v a b K0 F G H locs) {ls : Array Slot} (hl : lv_has ls 6 [(0, .ref (a 206)), (2, .int x2)]) : W p l e R s m args below meth c H locs (xn F - xn K0) (2 * (xn F - xn K0)) Q (F0 m 93 ls [.int z0]) := by
  have hx := C.1
  have hb := C.2.1
  unfold cb_X6_reach_93 at hm
  refine lv_pop hx hb dX6_reach_93 rfl ?_
  refine lv_aload_n hx hb dX6_reach_94 rfl (lv_at hl 0 rfl) ?_
  refine lv_aload_n hx hb dX6_reach_95 rfl (lv_at hl 0 rfl) ?_
  refine lv_iload_n hx hb dX6_reach_96 rfl (lv_at hl 1 rfl) ?_
  obtain ⟨⟨r1, F1, G1⟩, hc, hm⟩ := bind_elim hm
  refine ccallI (n := 1) (As := [.int x2]) (rest := [.ref (a 206)]) C hw (ck_X6_held l v a _ _ fu x2 F G r1 F1 G1 hc) (cn_X6_held fu x2 F G _ hc) (Nat.sub_le_sub_right (cn_X6_reach_100 fu x2 r1 F1 G1 hm) _) (crecv_X6 C hw) cm_862 cm_863 cm_864 cm_21 cm_865 (by decide +kernel) rfl (by omega) (by omega) hl.1 rfl (Nat.le_of_ble_eq_true rfl) dX6_reach_97 (fun b H locs hw => ?_)
  exact cw_X6_reach_100 fu C hret x2 r1 F1 G1 hm hw (lv_sub hl [0, 1] rfl)
theorem cn_X6_reach_87 (fu : Nat) {res : Int32 × PF × PG} (z0 : Int32) (z1 : Int32) (F : PF) (G : PG) (hm : cb_X6_reach_87 fu z0 z1 F G = some res) : xn F ≤ xn res.2.1 := by
  unfold cb_X6_reach_87 at hm
  obtain ⟨⟨r1, F1, G1⟩, hc, hm⟩ := bind_elim hm
  exact Nat.le_trans (cn_X6_next fu F G _ hc) (cn_X6_reach_93 fu (z1 + z0) r1 F1 G1 hm)
theorem cw_X6_reach_87 (fu : Nat) {res : Int32 × PF × PG} (C : cMC p R s m args c A v RX6 cX6_reach 6 4 136 (xn res.2.1 - xn K0)) (hret : ∀ (b1 : Nat) (H1 : Heap) (locs1 : List Loc) (ls1 : Array Slot) (pc : Nat), cMW s A v a b1 K0 res.2.1 res.2.2 H1 locs1 → decode cX6_reach pc = .ok (.return_, 1) → W p l e R s m args below meth c H1 locs1 (xn res.2.1 - xn K0) (2 * (xn res.2.1 - xn K0)) Q (F0 m pc ls1 [])) (z0 : Int32) (z1 : Int32) (F : PF) (G : PG) (hm : cb_X6_reach_87 fu z0 z1 F G = some res) {b : Nat} {H : Heap} {locs : List Loc} (hw : cMW s A v a b K0 F G H locs) {ls : Array Slot} (hl : lv_has ls 6 [(0, .ref (a 206))]) : W p l e R s m args below meth c H locs (xn F - xn K0) (2 * (xn F - xn K0)) Q (F0 m 87 ls [.int z0, .int z1]) := by
  have hx := C.1
  have hb := C.2.1
  unfold cb_X6_reach_87 at hm
  refine lv_iadd hx hb dX6_reach_87 ?_
  refine lv_istore_n (lv' := [(2, .int (z1 + z0)), (0, .ref (a 206))]) hx hb dX6_reach_88 rfl hl (by decide) rfl (fun ls hl => ?_)
  refine lv_aload_n hx hb dX6_reach_89 rfl (lv_at hl 1 rfl) ?_
  obtain ⟨⟨r1, F1, G1⟩, hc, hm⟩ := bind_elim hm
  refine ccallI (n := 0) (As := []) (rest := []) C hw (ck_X6_next l v a _ _ fu F G r1 F1 G1 hc) (cn_X6_next fu F G _ hc) (Nat.sub_le_sub_right (cn_X6_reach_93 fu (z1 + z0) r1 F1 G1 hm) _) (crecv_X6 C hw) cm_529 cm_530 cm_531 cm_21 cm_532 (by decide +kernel) rfl (by omega) (by omega) hl.1 rfl (Nat.le_of_ble_eq_true rfl) dX6_reach_90 (fun b H locs hw => ?_)
  exact cw_X6_reach_93 fu C hret (z1 + z0) r1 F1 G1 hm hw (lv_sub hl [1, 0] rfl)
theorem cn_X6_reach_79 (fu : Nat) {res : Int32 × PF × PG} (F : PF) (G : PG) (hm : cb_X6_reach_79 fu F G = some res) : xn F ≤ xn res.2.1 := by
  unfold cb_X6_reach_79 at hm
  obtain ⟨⟨r1, F1, G1⟩, hc, hm⟩ := bind_elim hm
  exact Nat.le_trans (cn_X6_next fu F G _ hc) (cn_X6_reach_87 fu r1 (F 58) F1 G1 hm)
theorem cw_X6_reach_79 (fu : Nat) {res : Int32 × PF × PG} (C : cMC p R s m args c A v RX6 cX6_reach 6 4 136 (xn res.2.1 - xn K0)) (hret : ∀ (b1 : Nat) (H1 : Heap) (locs1 : List Loc) (ls1 : Array Slot) (pc : Nat), cMW s A v a b1 K0 res.2.1 res.2.2 H1 locs1 → decode cX6_reach pc = .ok (.return_, 1) → W p l e R s m args below meth c H1 locs1 (xn res.2.1 - xn K0) (2 * (xn res.2.1 - xn K0)) Q (F0 m pc ls1 [])) (F : PF) (G : PG) (hm : cb_X6_reach_79 fu F G = some res) {b : Nat} {H : Heap} {locs : List Loc} (hw : cMW s A v a b K0 F G H locs) {ls : Array Slot} (hl : lv_has ls 6 [(0, .ref (a 206))]) : W p l e R s m args below meth c H locs (xn F - xn K0) (2 * (xn F - xn K0)) Q (F0 m 79 ls []) := by
  have hx := C.1
  have hb := C.2.1
  unfold cb_X6_reach_79 at hm
  refine lv_aload_n hx hb dX6_reach_79 rfl (lv_at hl 0 rfl) ?_
  refine cg_X6_140 C hw dX6_reach_80 ?_
  refine lv_aload_n hx hb dX6_reach_83 rfl (lv_at hl 0 rfl) ?_
  obtain ⟨⟨r1, F1, G1⟩, hc, hm⟩ := bind_elim hm
  refine ccallI (n := 0) (As := []) (rest := [.int (F 58)]) C hw (ck_X6_next l v a _ _ fu F G r1 F1 G1 hc) (cn_X6_next fu F G _ hc) (Nat.sub_le_sub_right (cn_X6_reach_87 fu r1 (F 58) F1 G1 hm) _) (crecv_X6 C hw) cm_529 cm_530 cm_531 cm_21 cm_532 (by decide +kernel) rfl (by omega) (by omega) hl.1 rfl (Nat.le_of_ble_eq_true rfl) dX6_reach_84 (fun b H locs hw => ?_)
  exact cw_X6_reach_87 fu C hret r1 (F 58) F1 G1 hm hw (lv_sub hl [0] rfl)
theorem cn_X6_reach_125 (fu : Nat) {res : Int32 × PF × PG} (F : PF) (G : PG) (hm : cb_X6_reach_125 fu F G = some res) : xn F ≤ xn res.2.1 := by
  unfold cb_X6_reach_125 at hm
  exact (cn_X6_reach_213 fu F G hm)
theorem cw_X6_reach_125 (fu : Nat) {res : Int32 × PF × PG} (C : cMC p R s m args c A v RX6 cX6_reach 6 4 136 (xn res.2.1 - xn K0)) (hret : ∀ (b1 : Nat) (H1 : Heap) (locs1 : List Loc) (ls1 : Array Slot) (pc : Nat), cMW s A v a b1 K0 res.2.1 res.2.2 H1 locs1 → decode cX6_reach pc = .ok (.return_, 1) → W p l e R s m args below meth c H1 locs1 (xn res.2.1 - xn K0) (2 * (xn res.2.1 - xn K0)) Q (F0 m pc ls1 [])) (F : PF) (G : PG) (hm : cb_X6_reach_125 fu F G = some res) {b : Nat} {H : Heap} {locs : List Loc} (hw : cMW s A v a b K0 F G H locs) {ls : Array Slot} (hl : lv_has ls 6 []) : W p l e R s m args below meth c H locs (xn F - xn K0) (2 * (xn F - xn K0)) Q (F0 m 125 ls []) := by
  have hx := C.1
  have hb := C.2.1
  unfold cb_X6_reach_125 at hm
  refine lv_goto (tgt := 213) hx hb dX6_reach_125 (by decide) ?_
  exact cw_X6_reach_213 fu C hret F G hm hw (lv_sub hl [] rfl)
theorem cn_X6_reach_122 (fu : Nat) {res : Int32 × PF × PG} (z0 : Int32) (F : PF) (G : PG) (hm : cb_X6_reach_122 fu z0 F G = some res) : xn F ≤ xn res.2.1 := by
  unfold cb_X6_reach_122 at hm
  obtain ⟨⟨r1, F1, G1⟩, hc, hm⟩ := bind_elim hm
  exact Nat.le_trans (cn_X6_push fu z0 F G _ hc) (cn_X6_reach_125 fu F1 G1 hm)
theorem cw_X6_reach_122 (fu : Nat) {res : Int32 × PF × PG} (C : cMC p R s m args c A v RX6 cX6_reach 6 4 136 (xn res.2.1 - xn K0)) (hret : ∀ (b1 : Nat) (H1 : Heap) (locs1 : List Loc) (ls1 : Array Slot) (pc : Nat), cMW s A v a b1 K0 res.2.1 res.2.2 H1 locs1 → decode cX6_reach pc = .ok (.return_, 1) → W p l e R s m args below meth c H1 locs1 (xn res.2.1 - xn K0) (2 * (xn res.2.1 - xn K0)) Q (F0 m pc ls1 [])) (z0 : Int32) (F : PF) (G : PG) (hm : cb_X6_reach_122 fu z0 F G = some res) {b : Nat} {H : Heap} {locs : List Loc} (hw : cMW s A v a b K0 F G H locs) {ls : Array Slot} (hl : lv_has ls 6 []) : W p l e R s m args below meth c H locs (xn F - xn K0) (2 * (xn F - xn K0)) Q (F0 m 122 ls [.int z0, .ref (a 206)]) := by
  have hx := C.1
  have hb := C.2.1
  unfold cb_X6_reach_122 at hm
  obtain ⟨⟨r1, F1, G1⟩, hc, hm⟩ := bind_elim hm
  refine ccallV (n := 1) (As := [.int z0]) (rest := []) C hw (ck_X6_push l v a _ _ fu z0 F G r1 F1 G1 hc) (cn_X6_push fu z0 F G _ hc) (Nat.sub_le_sub_right (cn_X6_reach_125 fu F1 G1 hm) _) (crecv_X6 C hw) cm_533 cm_534 cm_535 cm_21 cm_536 (by decide +kernel) rfl (by omega) (by omega) hl.1 rfl (Nat.le_of_ble_eq_true rfl) dX6_reach_122 (fun b H locs hw => ?_)
  exact cw_X6_reach_125 fu C hret F1 G1 hm hw (lv_sub hl [] rfl)
theorem cn_X6_reach_119 (fu : Nat) {res : Int32 × PF × PG} (z0 : Int32) (F : PF) (G : PG) (hm : cb_X6_reach_119 fu z0 F G = some res) : xn F ≤ xn res.2.1 := by
  unfold cb_X6_reach_119 at hm
  obtain ⟨⟨r1, F1, G1⟩, hc, hm⟩ := bind_elim hm
  exact Nat.le_trans (cn_X6_held fu z0 F G _ hc) (cn_X6_reach_122 fu r1 F1 G1 hm)
theorem cw_X6_reach_119 (fu : Nat) {res : Int32 × PF × PG} (C : cMC p R s m args c A v RX6 cX6_reach 6 4 136 (xn res.2.1 - xn K0)) (hret : ∀ (b1 : Nat) (H1 : Heap) (locs1 : List Loc) (ls1 : Array Slot) (pc : Nat), cMW s A v a b1 K0 res.2.1 res.2.2 H1 locs1 → decode cX6_reach pc = .ok (.return_, 1) → W p l e R s m args below meth c H1 locs1 (xn res.2.1 - xn K0) (2 * (xn res.2.1 - xn K0)) Q (F0 m pc ls1 [])) (z0 : Int32) (F : PF) (G : PG) (hm : cb_X6_reach_119 fu z0 F G = some res) {b : Nat} {H : Heap} {locs : List Loc} (hw : cMW s A v a b K0 F G H locs) {ls : Array Slot} (hl : lv_has ls 6 []) : W p l e R s m args below meth c H locs (xn F - xn K0) (2 * (xn F - xn K0)) Q (F0 m 119 ls [.int z0, .ref (a 206), .ref (a 206)]) := by
  have hx := C.1
  have hb := C.2.1
  unfold cb_X6_reach_119 at hm
  obtain ⟨⟨r1, F1, G1⟩, hc, hm⟩ := bind_elim hm
  refine ccallI (n := 1) (As := [.int z0]) (rest := [.ref (a 206)]) C hw (ck_X6_held l v a _ _ fu z0 F G r1 F1 G1 hc) (cn_X6_held fu z0 F G _ hc) (Nat.sub_le_sub_right (cn_X6_reach_122 fu r1 F1 G1 hm) _) (crecv_X6 C hw) cm_862 cm_863 cm_864 cm_21 cm_865 (by decide +kernel) rfl (by omega) (by omega) hl.1 rfl (Nat.le_of_ble_eq_true rfl) dX6_reach_119 (fun b H locs hw => ?_)
  exact cw_X6_reach_122 fu C hret r1 F1 G1 hm hw (lv_sub hl [] rfl)
theorem cn_X6_reach_113 (fu : Nat) {res : Int32 × PF × PG} (F : PF) (G : PG) (hm : cb_X6_reach_113 fu F G = some res) : xn F ≤ xn res.2.1 := by
  unfold cb_X6_reach_113 at hm
  obtain ⟨⟨r1, F1, G1⟩, hc, hm⟩ := bind_elim hm
  exact Nat.le_trans (cn_X6_pop fu F G _ hc) (cn_X6_reach_119 fu r1 F1 G1 hm)
theorem cw_X6_reach_113 (fu : Nat) {res : Int32 × PF × PG} (C : cMC p R s m args c A v RX6 cX6_reach 6 4 136 (xn res.2.1 - xn K0)) (hret : ∀ (b1 : Nat) (H1 : Heap) (locs1 : List Loc) (ls1 : Array Slot) (pc : Nat), cMW s A v a b1 K0 res.2.1 res.2.2 H1 locs1 → decode cX6_reach pc = .ok (.return_, 1) → W p l e R s m args below meth c H1 locs1 (xn res.2.1 - xn K0) (2 * (xn res.2.1 - xn K0)) Q (F0 m pc ls1 [])) (F : PF) (G : PG) (hm : cb_X6_reach_113 fu F G = some res) {b : Nat} {H : Heap} {locs : List Loc} (hw : cMW s A v a b K0 F G H locs) {ls : Array Slot} (hl : lv_has ls 6 [(0, .ref (a 206))]) : W p l e R s m args below meth c H locs (xn F - xn K0) (2 * (xn F - xn K0)) Q (F0 m 113 ls []) := by
  have hx := C.1
  have hb := C.2.1
  unfold cb_X6_reach_113 at hm
  refine lv_aload_n hx hb dX6_reach_113 rfl (lv_at hl 0 rfl) ?_
  refine lv_aload_n hx hb dX6_reach_114 rfl (lv_at hl 0 rfl) ?_
  refine lv_aload_n hx hb dX6_reach_115 rfl (lv_at hl 0 rfl) ?_
  obtain ⟨⟨r1, F1, G1⟩, hc, hm⟩ := bind_elim hm
  refine ccallI (n := 0) (As := []) (rest := [.ref (a 206), .ref (a 206)]) C hw (ck_X6_pop l v a _ _ fu F G r1 F1 G1 hc) (cn_X6_pop fu F G _ hc) (Nat.sub_le_sub_right (cn_X6_reach_119 fu r1 F1 G1 hm) _) (crecv_X6 C hw) cm_558 cm_559 cm_560 cm_21 cm_561 (by decide +kernel) rfl (by omega) (by omega) hl.1 rfl (Nat.le_of_ble_eq_true rfl) dX6_reach_116 (fun b H locs hw => ?_)
  exact cw_X6_reach_119 fu C hret r1 F1 G1 hm hw (lv_sub hl [] rfl)
theorem cn_X6_reach_155 (fu : Nat) {res : Int32 × PF × PG} (F : PF) (G : PG) (hm : cb_X6_reach_155 fu F G = some res) : xn F ≤ xn res.2.1 := by
  unfold cb_X6_reach_155 at hm
  exact (cn_X6_reach_213 fu F G hm)
theorem cw_X6_reach_155 (fu : Nat) {res : Int32 × PF × PG} (C : cMC p R s m args c A v RX6 cX6_reach 6 4 136 (xn res.2.1 - xn K0)) (hret : ∀ (b1 : Nat) (H1 : Heap) (locs1 : List Loc) (ls1 : Array Slot) (pc : Nat), cMW s A v a b1 K0 res.2.1 res.2.2 H1 locs1 → decode cX6_reach pc = .ok (.return_, 1) → W p l e R s m args below meth c H1 locs1 (xn res.2.1 - xn K0) (2 * (xn res.2.1 - xn K0)) Q (F0 m pc ls1 [])) (F : PF) (G : PG) (hm : cb_X6_reach_155 fu F G = some res) {b : Nat} {H : Heap} {locs : List Loc} (hw : cMW s A v a b K0 F G H locs) {ls : Array Slot} (hl : lv_has ls 6 []) : W p l e R s m args below meth c H locs (xn F - xn K0) (2 * (xn F - xn K0)) Q (F0 m 155 ls []) := by
  have hx := C.1
  have hb := C.2.1
  unfold cb_X6_reach_155 at hm
  refine lv_goto (tgt := 213) hx hb dX6_reach_155 (by decide) ?_
  exact cw_X6_reach_213 fu C hret F G hm hw (lv_sub hl [] rfl)
theorem cn_X6_reach_141 (fu : Nat) {res : Int32 × PF × PG} (x3 : Int32) (z0 : Int32) (F : PF) (G : PG) (hm : cb_X6_reach_141 fu x3 z0 F G = some res) : xn F ≤ xn res.2.1 := by
  unfold cb_X6_reach_141 at hm
  obtain ⟨⟨r1, F1, G1⟩, hc, hm⟩ := bind_elim hm
  exact Nat.le_trans (cn_X6_push fu (((z0.toUInt32 >>> (((x3 &&& (3 : Int32)) * (8 : Int32)).toUInt32 &&& Int32.toUInt32 31)).toInt32) &&& (255 : Int32)) F G _ hc) (cn_X6_reach_155 fu F1 G1 hm)
theorem cw_X6_reach_141 (fu : Nat) {res : Int32 × PF × PG} (C : cMC p R s m args c A v RX6 cX6_reach 6 4 136 (xn res.2.1 - xn K0)) (hret : ∀ (b1 : Nat) (H1 : Heap) (locs1 : List Loc) (ls1 : Array Slot) (pc : Nat), cMW s A v a b1 K0 res.2.1 res.2.2 H1 locs1 → decode cX6_reach pc = .ok (.return_, 1) → W p l e R s m args below meth c H1 locs1 (xn res.2.1 - xn K0) (2 * (xn res.2.1 - xn K0)) Q (F0 m pc ls1 [])) (x3 : Int32) (z0 : Int32) (F : PF) (G : PG) (hm : cb_X6_reach_141 fu x3 z0 F G = some res) {b : Nat} {H : Heap} {locs : List Loc} (hw : cMW s A v a b K0 F G H locs) {ls : Array Slot} (hl : lv_has ls 6 [(3, .int x3)]) : W p l e R s m args below meth c H locs (xn F - xn K0) (2 * (xn F - xn K0)) Q (F0 m 141 ls [.int z0, .ref (a 206)]) := by
  have hx := C.1
  have hb := C.2.1
  unfold cb_X6_reach_141 at hm
  refine lv_iload_n hx hb dX6_reach_141 rfl (lv_at hl 0 rfl) ?_
  refine lv_iconst (v := 3) hx hb dX6_reach_142 (by decide) ?_
  refine lv_iand hx hb dX6_reach_143 ?_
  refine lv_bipush (v := 8) hx hb dX6_reach_144 (by decide) ?_
  refine lv_imul hx hb dX6_reach_146 ?_
  refine lv_iushr hx hb dX6_reach_147 rfl ?_
  refine lv_sipush (v := 255) hx hb dX6_reach_148 (by decide) ?_
  refine lv_iand hx hb dX6_reach_151 ?_
  obtain ⟨⟨r1, F1, G1⟩, hc, hm⟩ := bind_elim hm
  refine ccallV (n := 1) (As := [.int (((z0.toUInt32 >>> (((x3 &&& (3 : Int32)) * (8 : Int32)).toUInt32 &&& Int32.toUInt32 31)).toInt32) &&& (255 : Int32))]) (rest := []) C hw (ck_X6_push l v a _ _ fu (((z0.toUInt32 >>> (((x3 &&& (3 : Int32)) * (8 : Int32)).toUInt32 &&& Int32.toUInt32 31)).toInt32) &&& (255 : Int32)) F G r1 F1 G1 hc) (cn_X6_push fu (((z0.toUInt32 >>> (((x3 &&& (3 : Int32)) * (8 : Int32)).toUInt32 &&& Int32.toUInt32 31)).toInt32) &&& (255 : Int32)) F G _ hc) (Nat.sub_le_sub_right (cn_X6_reach_155 fu F1 G1 hm) _) (crecv_X6 C hw) cm_533 cm_534 cm_535 cm_21 cm_536 (by decide +kernel) rfl (by omega) (by omega) hl.1 rfl (Nat.le_of_ble_eq_true rfl) dX6_reach_152 (fun b H locs hw => ?_)
  exact cw_X6_reach_155 fu C hret F1 G1 hm hw (lv_sub hl [] rfl)
theorem cn_X6_reach_132 (fu : Nat) {res : Int32 × PF × PG} (z0 : Int32) (F : PF) (G : PG) (hm : cb_X6_reach_132 fu z0 F G = some res) : xn F ≤ xn res.2.1 := by
  unfold cb_X6_reach_132 at hm
  obtain ⟨⟨r1, F1, G1⟩, hc, hm⟩ := bind_elim hm
  exact Nat.le_trans (cn_X6_held fu (z0 >>> ((2 : Int32) &&& 31)) F G _ hc) (cn_X6_reach_141 fu z0 r1 F1 G1 hm)
theorem cw_X6_reach_132 (fu : Nat) {res : Int32 × PF × PG} (C : cMC p R s m args c A v RX6 cX6_reach 6 4 136 (xn res.2.1 - xn K0)) (hret : ∀ (b1 : Nat) (H1 : Heap) (locs1 : List Loc) (ls1 : Array Slot) (pc : Nat), cMW s A v a b1 K0 res.2.1 res.2.2 H1 locs1 → decode cX6_reach pc = .ok (.return_, 1) → W p l e R s m args below meth c H1 locs1 (xn res.2.1 - xn K0) (2 * (xn res.2.1 - xn K0)) Q (F0 m pc ls1 [])) (z0 : Int32) (F : PF) (G : PG) (hm : cb_X6_reach_132 fu z0 F G = some res) {b : Nat} {H : Heap} {locs : List Loc} (hw : cMW s A v a b K0 F G H locs) {ls : Array Slot} (hl : lv_has ls 6 [(0, .ref (a 206))]) : W p l e R s m args below meth c H locs (xn F - xn K0) (2 * (xn F - xn K0)) Q (F0 m 132 ls [.int z0]) := by
  have hx := C.1
  have hb := C.2.1
  unfold cb_X6_reach_132 at hm
  refine lv_istore_n (lv' := [(3, .int z0), (0, .ref (a 206))]) hx hb dX6_reach_132 rfl hl (by decide) rfl (fun ls hl => ?_)
  refine lv_aload_n hx hb dX6_reach_133 rfl (lv_at hl 1 rfl) ?_
  refine lv_aload_n hx hb dX6_reach_134 rfl (lv_at hl 1 rfl) ?_
  refine lv_iload_n hx hb dX6_reach_135 rfl (lv_at hl 0 rfl) ?_
  refine lv_iconst (v := 2) hx hb dX6_reach_136 (by decide) ?_
  refine lv_ishr hx hb dX6_reach_137 ?_
  obtain ⟨⟨r1, F1, G1⟩, hc, hm⟩ := bind_elim hm
  refine ccallI (n := 1) (As := [.int (z0 >>> ((2 : Int32) &&& 31))]) (rest := [.ref (a 206)]) C hw (ck_X6_held l v a _ _ fu (z0 >>> ((2 : Int32) &&& 31)) F G r1 F1 G1 hc) (cn_X6_held fu (z0 >>> ((2 : Int32) &&& 31)) F G _ hc) (Nat.sub_le_sub_right (cn_X6_reach_141 fu z0 r1 F1 G1 hm) _) (crecv_X6 C hw) cm_862 cm_863 cm_864 cm_21 cm_865 (by decide +kernel) rfl (by omega) (by omega) hl.1 rfl (Nat.le_of_ble_eq_true rfl) dX6_reach_138 (fun b H locs hw => ?_)
  exact cw_X6_reach_141 fu C hret z0 r1 F1 G1 hm hw (lv_sub hl [0] rfl)
theorem cn_X6_reach_128 (fu : Nat) {res : Int32 × PF × PG} (F : PF) (G : PG) (hm : cb_X6_reach_128 fu F G = some res) : xn F ≤ xn res.2.1 := by
  unfold cb_X6_reach_128 at hm
  obtain ⟨⟨r1, F1, G1⟩, hc, hm⟩ := bind_elim hm
  exact Nat.le_trans (cn_X6_pop fu F G _ hc) (cn_X6_reach_132 fu r1 F1 G1 hm)
theorem cw_X6_reach_128 (fu : Nat) {res : Int32 × PF × PG} (C : cMC p R s m args c A v RX6 cX6_reach 6 4 136 (xn res.2.1 - xn K0)) (hret : ∀ (b1 : Nat) (H1 : Heap) (locs1 : List Loc) (ls1 : Array Slot) (pc : Nat), cMW s A v a b1 K0 res.2.1 res.2.2 H1 locs1 → decode cX6_reach pc = .ok (.return_, 1) → W p l e R s m args below meth c H1 locs1 (xn res.2.1 - xn K0) (2 * (xn res.2.1 - xn K0)) Q (F0 m pc ls1 [])) (F : PF) (G : PG) (hm : cb_X6_reach_128 fu F G = some res) {b : Nat} {H : Heap} {locs : List Loc} (hw : cMW s A v a b K0 F G H locs) {ls : Array Slot} (hl : lv_has ls 6 [(0, .ref (a 206))]) : W p l e R s m args below meth c H locs (xn F - xn K0) (2 * (xn F - xn K0)) Q (F0 m 128 ls []) := by
  have hx := C.1
  have hb := C.2.1
  unfold cb_X6_reach_128 at hm
  refine lv_aload_n hx hb dX6_reach_128 rfl (lv_at hl 0 rfl) ?_
  obtain ⟨⟨r1, F1, G1⟩, hc, hm⟩ := bind_elim hm
  refine ccallI (n := 0) (As := []) (rest := []) C hw (ck_X6_pop l v a _ _ fu F G r1 F1 G1 hc) (cn_X6_pop fu F G _ hc) (Nat.sub_le_sub_right (cn_X6_reach_132 fu r1 F1 G1 hm) _) (crecv_X6 C hw) cm_558 cm_559 cm_560 cm_21 cm_561 (by decide +kernel) rfl (by omega) (by omega) hl.1 rfl (Nat.le_of_ble_eq_true rfl) dX6_reach_129 (fun b H locs hw => ?_)
  exact cw_X6_reach_132 fu C hret r1 F1 G1 hm hw (lv_sub hl [0] rfl)
theorem cn_X6_reach_174 (fu : Nat) {res : Int32 × PF × PG} (F : PF) (G : PG) (hm : cb_X6_reach_174 fu F G = some res) : xn F ≤ xn res.2.1 := by
  unfold cb_X6_reach_174 at hm
  exact (cn_X6_reach_213 fu F G hm)
theorem cw_X6_reach_174 (fu : Nat) {res : Int32 × PF × PG} (C : cMC p R s m args c A v RX6 cX6_reach 6 4 136 (xn res.2.1 - xn K0)) (hret : ∀ (b1 : Nat) (H1 : Heap) (locs1 : List Loc) (ls1 : Array Slot) (pc : Nat), cMW s A v a b1 K0 res.2.1 res.2.2 H1 locs1 → decode cX6_reach pc = .ok (.return_, 1) → W p l e R s m args below meth c H1 locs1 (xn res.2.1 - xn K0) (2 * (xn res.2.1 - xn K0)) Q (F0 m pc ls1 [])) (F : PF) (G : PG) (hm : cb_X6_reach_174 fu F G = some res) {b : Nat} {H : Heap} {locs : List Loc} (hw : cMW s A v a b K0 F G H locs) {ls : Array Slot} (hl : lv_has ls 6 []) : W p l e R s m args below meth c H locs (xn F - xn K0) (2 * (xn F - xn K0)) Q (F0 m 174 ls []) := by
  have hx := C.1
  have hb := C.2.1
  unfold cb_X6_reach_174 at hm
  refine lv_goto (tgt := 213) hx hb dX6_reach_174 (by decide) ?_
  exact cw_X6_reach_213 fu C hret F G hm hw (lv_sub hl [] rfl)
theorem cn_X6_reach_169 (fu : Nat) {res : Int32 × PF × PG} (x4 : Int32) (z0 : Int32) (F : PF) (G : PG) (hm : cb_X6_reach_169 fu x4 z0 F G = some res) : xn F ≤ xn res.2.1 := by
  unfold cb_X6_reach_169 at hm
  obtain ⟨⟨r1, F1, G1⟩, hc, hm⟩ := bind_elim hm
  exact Nat.le_trans (cn_X6_hold fu z0 x4 F G _ hc) (cn_X6_reach_174 fu F1 G1 hm)
theorem cw_X6_reach_169 (fu : Nat) {res : Int32 × PF × PG} (C : cMC p R s m args c A v RX6 cX6_reach 6 4 136 (xn res.2.1 - xn K0)) (hret : ∀ (b1 : Nat) (H1 : Heap) (locs1 : List Loc) (ls1 : Array Slot) (pc : Nat), cMW s A v a b1 K0 res.2.1 res.2.2 H1 locs1 → decode cX6_reach pc = .ok (.return_, 1) → W p l e R s m args below meth c H1 locs1 (xn res.2.1 - xn K0) (2 * (xn res.2.1 - xn K0)) Q (F0 m pc ls1 [])) (x4 : Int32) (z0 : Int32) (F : PF) (G : PG) (hm : cb_X6_reach_169 fu x4 z0 F G = some res) {b : Nat} {H : Heap} {locs : List Loc} (hw : cMW s A v a b K0 F G H locs) {ls : Array Slot} (hl : lv_has ls 6 [(4, .int x4)]) : W p l e R s m args below meth c H locs (xn F - xn K0) (2 * (xn F - xn K0)) Q (F0 m 169 ls [.int z0, .ref (a 206)]) := by
  have hx := C.1
  have hb := C.2.1
  unfold cb_X6_reach_169 at hm
  refine lv_iload hx hb dX6_reach_169 (lv_at hl 0 rfl) ?_
  obtain ⟨⟨r1, F1, G1⟩, hc, hm⟩ := bind_elim hm
  refine ccallV (n := 2) (As := [.int z0, .int x4]) (rest := []) C hw (ck_X6_hold l v a _ _ fu z0 x4 F G r1 F1 G1 hc) (cn_X6_hold fu z0 x4 F G _ hc) (Nat.sub_le_sub_right (cn_X6_reach_174 fu F1 G1 hm) _) (crecv_X6 C hw) cm_850 cm_851 cm_852 cm_21 cm_853 (by decide +kernel) rfl (by omega) (by omega) hl.1 rfl (Nat.le_of_ble_eq_true rfl) dX6_reach_171 (fun b H locs hw => ?_)
  exact cw_X6_reach_174 fu C hret F1 G1 hm hw (lv_sub hl [] rfl)
theorem cn_X6_reach_162 (fu : Nat) {res : Int32 × PF × PG} (z0 : Int32) (F : PF) (G : PG) (hm : cb_X6_reach_162 fu z0 F G = some res) : xn F ≤ xn res.2.1 := by
  unfold cb_X6_reach_162 at hm
  obtain ⟨⟨r1, F1, G1⟩, hc, hm⟩ := bind_elim hm
  exact Nat.le_trans (cn_X6_pop fu F G _ hc) (cn_X6_reach_169 fu z0 r1 F1 G1 hm)
theorem cw_X6_reach_162 (fu : Nat) {res : Int32 × PF × PG} (C : cMC p R s m args c A v RX6 cX6_reach 6 4 136 (xn res.2.1 - xn K0)) (hret : ∀ (b1 : Nat) (H1 : Heap) (locs1 : List Loc) (ls1 : Array Slot) (pc : Nat), cMW s A v a b1 K0 res.2.1 res.2.2 H1 locs1 → decode cX6_reach pc = .ok (.return_, 1) → W p l e R s m args below meth c H1 locs1 (xn res.2.1 - xn K0) (2 * (xn res.2.1 - xn K0)) Q (F0 m pc ls1 [])) (z0 : Int32) (F : PF) (G : PG) (hm : cb_X6_reach_162 fu z0 F G = some res) {b : Nat} {H : Heap} {locs : List Loc} (hw : cMW s A v a b K0 F G H locs) {ls : Array Slot} (hl : lv_has ls 6 [(0, .ref (a 206))]) : W p l e R s m args below meth c H locs (xn F - xn K0) (2 * (xn F - xn K0)) Q (F0 m 162 ls [.int z0]) := by
  have hx := C.1
  have hb := C.2.1
  unfold cb_X6_reach_162 at hm
  refine lv_istore (lv' := [(4, .int z0), (0, .ref (a 206))]) hx hb dX6_reach_162 hl (by decide) rfl (fun ls hl => ?_)
  refine lv_aload_n hx hb dX6_reach_164 rfl (lv_at hl 1 rfl) ?_
  refine lv_aload_n hx hb dX6_reach_165 rfl (lv_at hl 1 rfl) ?_
  obtain ⟨⟨r1, F1, G1⟩, hc, hm⟩ := bind_elim hm
  refine ccallI (n := 0) (As := []) (rest := [.ref (a 206)]) C hw (ck_X6_pop l v a _ _ fu F G r1 F1 G1 hc) (cn_X6_pop fu F G _ hc) (Nat.sub_le_sub_right (cn_X6_reach_169 fu z0 r1 F1 G1 hm) _) (crecv_X6 C hw) cm_558 cm_559 cm_560 cm_21 cm_561 (by decide +kernel) rfl (by omega) (by omega) hl.1 rfl (Nat.le_of_ble_eq_true rfl) dX6_reach_166 (fun b H locs hw => ?_)
  exact cw_X6_reach_169 fu C hret z0 r1 F1 G1 hm hw (lv_sub hl [0] rfl)
theorem cn_X6_reach_158 (fu : Nat) {res : Int32 × PF × PG} (F : PF) (G : PG) (hm : cb_X6_reach_158 fu F G = some res) : xn F ≤ xn res.2.1 := by
  unfold cb_X6_reach_158 at hm
  obtain ⟨⟨r1, F1, G1⟩, hc, hm⟩ := bind_elim hm
  exact Nat.le_trans (cn_X6_pop fu F G _ hc) (cn_X6_reach_162 fu r1 F1 G1 hm)
theorem cw_X6_reach_158 (fu : Nat) {res : Int32 × PF × PG} (C : cMC p R s m args c A v RX6 cX6_reach 6 4 136 (xn res.2.1 - xn K0)) (hret : ∀ (b1 : Nat) (H1 : Heap) (locs1 : List Loc) (ls1 : Array Slot) (pc : Nat), cMW s A v a b1 K0 res.2.1 res.2.2 H1 locs1 → decode cX6_reach pc = .ok (.return_, 1) → W p l e R s m args below meth c H1 locs1 (xn res.2.1 - xn K0) (2 * (xn res.2.1 - xn K0)) Q (F0 m pc ls1 [])) (F : PF) (G : PG) (hm : cb_X6_reach_158 fu F G = some res) {b : Nat} {H : Heap} {locs : List Loc} (hw : cMW s A v a b K0 F G H locs) {ls : Array Slot} (hl : lv_has ls 6 [(0, .ref (a 206))]) : W p l e R s m args below meth c H locs (xn F - xn K0) (2 * (xn F - xn K0)) Q (F0 m 158 ls []) := by
  have hx := C.1
  have hb := C.2.1
  unfold cb_X6_reach_158 at hm
  refine lv_aload_n hx hb dX6_reach_158 rfl (lv_at hl 0 rfl) ?_
  obtain ⟨⟨r1, F1, G1⟩, hc, hm⟩ := bind_elim hm
  refine ccallI (n := 0) (As := []) (rest := []) C hw (ck_X6_pop l v a _ _ fu F G r1 F1 G1 hc) (cn_X6_pop fu F G _ hc) (Nat.sub_le_sub_right (cn_X6_reach_162 fu r1 F1 G1 hm) _) (crecv_X6 C hw) cm_558 cm_559 cm_560 cm_21 cm_561 (by decide +kernel) rfl (by omega) (by omega) hl.1 rfl (Nat.le_of_ble_eq_true rfl) dX6_reach_159 (fun b H locs hw => ?_)
  exact cw_X6_reach_162 fu C hret r1 F1 G1 hm hw (lv_sub hl [0] rfl)
theorem cn_X6_reach_197 (fu : Nat) {res : Int32 × PF × PG} (F : PF) (G : PG) (hm : cb_X6_reach_197 fu F G = some res) : xn F ≤ xn res.2.1 := by
  unfold cb_X6_reach_197 at hm
  exact (cn_X6_reach_213 fu F G hm)
theorem cw_X6_reach_197 (fu : Nat) {res : Int32 × PF × PG} (C : cMC p R s m args c A v RX6 cX6_reach 6 4 136 (xn res.2.1 - xn K0)) (hret : ∀ (b1 : Nat) (H1 : Heap) (locs1 : List Loc) (ls1 : Array Slot) (pc : Nat), cMW s A v a b1 K0 res.2.1 res.2.2 H1 locs1 → decode cX6_reach pc = .ok (.return_, 1) → W p l e R s m args below meth c H1 locs1 (xn res.2.1 - xn K0) (2 * (xn res.2.1 - xn K0)) Q (F0 m pc ls1 [])) (F : PF) (G : PG) (hm : cb_X6_reach_197 fu F G = some res) {b : Nat} {H : Heap} {locs : List Loc} (hw : cMW s A v a b K0 F G H locs) {ls : Array Slot} (hl : lv_has ls 6 []) : W p l e R s m args below meth c H locs (xn F - xn K0) (2 * (xn F - xn K0)) Q (F0 m 197 ls []) := by
  have hx := C.1
  have hb := C.2.1
  unfold cb_X6_reach_197 at hm
  refine lv_goto (tgt := 213) hx hb dX6_reach_197 (by decide) ?_
  exact cw_X6_reach_213 fu C hret F G hm hw (lv_sub hl [] rfl)
theorem cn_X6_reach_188 (fu : Nat) {res : Int32 × PF × PG} (x5 : Int32) (z0 : Int32) (F : PF) (G : PG) (hm : cb_X6_reach_188 fu x5 z0 F G = some res) : xn F ≤ xn res.2.1 := by
  unfold cb_X6_reach_188 at hm
  obtain ⟨⟨r1, F1, G1⟩, hc, hm⟩ := bind_elim hm
  exact Nat.le_trans (cn_X6_keepByte fu z0 (x5 &&& (255 : Int32)) F G _ hc) (cn_X6_reach_197 fu F1 G1 hm)
theorem cw_X6_reach_188 (fu : Nat) {res : Int32 × PF × PG} (C : cMC p R s m args c A v RX6 cX6_reach 6 4 136 (xn res.2.1 - xn K0)) (hret : ∀ (b1 : Nat) (H1 : Heap) (locs1 : List Loc) (ls1 : Array Slot) (pc : Nat), cMW s A v a b1 K0 res.2.1 res.2.2 H1 locs1 → decode cX6_reach pc = .ok (.return_, 1) → W p l e R s m args below meth c H1 locs1 (xn res.2.1 - xn K0) (2 * (xn res.2.1 - xn K0)) Q (F0 m pc ls1 [])) (x5 : Int32) (z0 : Int32) (F : PF) (G : PG) (hm : cb_X6_reach_188 fu x5 z0 F G = some res) {b : Nat} {H : Heap} {locs : List Loc} (hw : cMW s A v a b K0 F G H locs) {ls : Array Slot} (hl : lv_has ls 6 [(5, .int x5)]) : W p l e R s m args below meth c H locs (xn F - xn K0) (2 * (xn F - xn K0)) Q (F0 m 188 ls [.int z0, .ref (a 206)]) := by
  have hx := C.1
  have hb := C.2.1
  unfold cb_X6_reach_188 at hm
  refine lv_iload hx hb dX6_reach_188 (lv_at hl 0 rfl) ?_
  refine lv_sipush (v := 255) hx hb dX6_reach_190 (by decide) ?_
  refine lv_iand hx hb dX6_reach_193 ?_
  obtain ⟨⟨r1, F1, G1⟩, hc, hm⟩ := bind_elim hm
  refine ccallV (n := 2) (As := [.int z0, .int (x5 &&& (255 : Int32))]) (rest := []) C hw (ck_X6_keepByte l v a _ _ fu z0 (x5 &&& (255 : Int32)) F G r1 F1 G1 hc) (cn_X6_keepByte fu z0 (x5 &&& (255 : Int32)) F G _ hc) (Nat.sub_le_sub_right (cn_X6_reach_197 fu F1 G1 hm) _) (crecv_X6 C hw) cm_878 cm_879 cm_880 cm_21 cm_881 (by decide +kernel) rfl (by omega) (by omega) hl.1 rfl (Nat.le_of_ble_eq_true rfl) dX6_reach_194 (fun b H locs hw => ?_)
  exact cw_X6_reach_197 fu C hret F1 G1 hm hw (lv_sub hl [] rfl)
theorem cn_X6_reach_181 (fu : Nat) {res : Int32 × PF × PG} (z0 : Int32) (F : PF) (G : PG) (hm : cb_X6_reach_181 fu z0 F G = some res) : xn F ≤ xn res.2.1 := by
  unfold cb_X6_reach_181 at hm
  obtain ⟨⟨r1, F1, G1⟩, hc, hm⟩ := bind_elim hm
  exact Nat.le_trans (cn_X6_pop fu F G _ hc) (cn_X6_reach_188 fu z0 r1 F1 G1 hm)
theorem cw_X6_reach_181 (fu : Nat) {res : Int32 × PF × PG} (C : cMC p R s m args c A v RX6 cX6_reach 6 4 136 (xn res.2.1 - xn K0)) (hret : ∀ (b1 : Nat) (H1 : Heap) (locs1 : List Loc) (ls1 : Array Slot) (pc : Nat), cMW s A v a b1 K0 res.2.1 res.2.2 H1 locs1 → decode cX6_reach pc = .ok (.return_, 1) → W p l e R s m args below meth c H1 locs1 (xn res.2.1 - xn K0) (2 * (xn res.2.1 - xn K0)) Q (F0 m pc ls1 [])) (z0 : Int32) (F : PF) (G : PG) (hm : cb_X6_reach_181 fu z0 F G = some res) {b : Nat} {H : Heap} {locs : List Loc} (hw : cMW s A v a b K0 F G H locs) {ls : Array Slot} (hl : lv_has ls 6 [(0, .ref (a 206))]) : W p l e R s m args below meth c H locs (xn F - xn K0) (2 * (xn F - xn K0)) Q (F0 m 181 ls [.int z0]) := by
  have hx := C.1
  have hb := C.2.1
  unfold cb_X6_reach_181 at hm
  refine lv_istore (lv' := [(5, .int z0), (0, .ref (a 206))]) hx hb dX6_reach_181 hl (by decide) rfl (fun ls hl => ?_)
  refine lv_aload_n hx hb dX6_reach_183 rfl (lv_at hl 1 rfl) ?_
  refine lv_aload_n hx hb dX6_reach_184 rfl (lv_at hl 1 rfl) ?_
  obtain ⟨⟨r1, F1, G1⟩, hc, hm⟩ := bind_elim hm
  refine ccallI (n := 0) (As := []) (rest := [.ref (a 206)]) C hw (ck_X6_pop l v a _ _ fu F G r1 F1 G1 hc) (cn_X6_pop fu F G _ hc) (Nat.sub_le_sub_right (cn_X6_reach_188 fu z0 r1 F1 G1 hm) _) (crecv_X6 C hw) cm_558 cm_559 cm_560 cm_21 cm_561 (by decide +kernel) rfl (by omega) (by omega) hl.1 rfl (Nat.le_of_ble_eq_true rfl) dX6_reach_185 (fun b H locs hw => ?_)
  exact cw_X6_reach_188 fu C hret z0 r1 F1 G1 hm hw (lv_sub hl [0] rfl)
theorem cn_X6_reach_177 (fu : Nat) {res : Int32 × PF × PG} (F : PF) (G : PG) (hm : cb_X6_reach_177 fu F G = some res) : xn F ≤ xn res.2.1 := by
  unfold cb_X6_reach_177 at hm
  obtain ⟨⟨r1, F1, G1⟩, hc, hm⟩ := bind_elim hm
  exact Nat.le_trans (cn_X6_pop fu F G _ hc) (cn_X6_reach_181 fu r1 F1 G1 hm)
theorem cw_X6_reach_177 (fu : Nat) {res : Int32 × PF × PG} (C : cMC p R s m args c A v RX6 cX6_reach 6 4 136 (xn res.2.1 - xn K0)) (hret : ∀ (b1 : Nat) (H1 : Heap) (locs1 : List Loc) (ls1 : Array Slot) (pc : Nat), cMW s A v a b1 K0 res.2.1 res.2.2 H1 locs1 → decode cX6_reach pc = .ok (.return_, 1) → W p l e R s m args below meth c H1 locs1 (xn res.2.1 - xn K0) (2 * (xn res.2.1 - xn K0)) Q (F0 m pc ls1 [])) (F : PF) (G : PG) (hm : cb_X6_reach_177 fu F G = some res) {b : Nat} {H : Heap} {locs : List Loc} (hw : cMW s A v a b K0 F G H locs) {ls : Array Slot} (hl : lv_has ls 6 [(0, .ref (a 206))]) : W p l e R s m args below meth c H locs (xn F - xn K0) (2 * (xn F - xn K0)) Q (F0 m 177 ls []) := by
  have hx := C.1
  have hb := C.2.1
  unfold cb_X6_reach_177 at hm
  refine lv_aload_n hx hb dX6_reach_177 rfl (lv_at hl 0 rfl) ?_
  obtain ⟨⟨r1, F1, G1⟩, hc, hm⟩ := bind_elim hm
  refine ccallI (n := 0) (As := []) (rest := []) C hw (ck_X6_pop l v a _ _ fu F G r1 F1 G1 hc) (cn_X6_pop fu F G _ hc) (Nat.sub_le_sub_right (cn_X6_reach_181 fu r1 F1 G1 hm) _) (crecv_X6 C hw) cm_558 cm_559 cm_560 cm_21 cm_561 (by decide +kernel) rfl (by omega) (by omega) hl.1 rfl (Nat.le_of_ble_eq_true rfl) dX6_reach_178 (fun b H locs hw => ?_)
  exact cw_X6_reach_181 fu C hret r1 F1 G1 hm hw (lv_sub hl [0] rfl)
theorem cn_X6_reach_210 (fu : Nat) {res : Int32 × PF × PG} (z0 : Int32) (z1 : Int32) (z2 : Int32) (F : PF) (G : PG) (hm : cb_X6_reach_210 fu z0 z1 z2 F G = some res) : xn F ≤ xn res.2.1 := by
  unfold cb_X6_reach_210 at hm
  obtain ⟨⟨r1, F1, G1⟩, hc, hm⟩ := bind_elim hm
  exact Nat.le_trans (cn_X6_pass fu z2 z1 z0 F G _ hc) (cn_X6_reach_213 fu F1 G1 hm)
theorem cw_X6_reach_210 (fu : Nat) {res : Int32 × PF × PG} (C : cMC p R s m args c A v RX6 cX6_reach 6 4 136 (xn res.2.1 - xn K0)) (hret : ∀ (b1 : Nat) (H1 : Heap) (locs1 : List Loc) (ls1 : Array Slot) (pc : Nat), cMW s A v a b1 K0 res.2.1 res.2.2 H1 locs1 → decode cX6_reach pc = .ok (.return_, 1) → W p l e R s m args below meth c H1 locs1 (xn res.2.1 - xn K0) (2 * (xn res.2.1 - xn K0)) Q (F0 m pc ls1 [])) (z0 : Int32) (z1 : Int32) (z2 : Int32) (F : PF) (G : PG) (hm : cb_X6_reach_210 fu z0 z1 z2 F G = some res) {b : Nat} {H : Heap} {locs : List Loc} (hw : cMW s A v a b K0 F G H locs) {ls : Array Slot} (hl : lv_has ls 6 []) : W p l e R s m args below meth c H locs (xn F - xn K0) (2 * (xn F - xn K0)) Q (F0 m 210 ls [.int z0, .int z1, .int z2, .ref (a 206)]) := by
  have hx := C.1
  have hb := C.2.1
  unfold cb_X6_reach_210 at hm
  obtain ⟨⟨r1, F1, G1⟩, hc, hm⟩ := bind_elim hm
  refine ccallV (n := 3) (As := [.int z2, .int z1, .int z0]) (rest := []) C hw (ck_X6_pass l v a _ _ fu z2 z1 z0 F G r1 F1 G1 hc) (cn_X6_pass fu z2 z1 z0 F G _ hc) (Nat.sub_le_sub_right (cn_X6_reach_213 fu F1 G1 hm) _) (crecv_X6 C hw) cm_882 cm_883 cm_884 cm_21 cm_885 (by decide +kernel) rfl (by omega) (by omega) hl.1 rfl (Nat.le_of_ble_eq_true rfl) dX6_reach_210 (fun b H locs hw => ?_)
  exact cw_X6_reach_213 fu C hret F1 G1 hm hw (lv_sub hl [] rfl)
theorem cn_X6_reach_206 (fu : Nat) {res : Int32 × PF × PG} (z0 : Int32) (z1 : Int32) (F : PF) (G : PG) (hm : cb_X6_reach_206 fu z0 z1 F G = some res) : xn F ≤ xn res.2.1 := by
  unfold cb_X6_reach_206 at hm
  obtain ⟨⟨r1, F1, G1⟩, hc, hm⟩ := bind_elim hm
  exact Nat.le_trans (cn_X6_next fu F G _ hc) (cn_X6_reach_210 fu r1 z0 z1 F1 G1 hm)
theorem cw_X6_reach_206 (fu : Nat) {res : Int32 × PF × PG} (C : cMC p R s m args c A v RX6 cX6_reach 6 4 136 (xn res.2.1 - xn K0)) (hret : ∀ (b1 : Nat) (H1 : Heap) (locs1 : List Loc) (ls1 : Array Slot) (pc : Nat), cMW s A v a b1 K0 res.2.1 res.2.2 H1 locs1 → decode cX6_reach pc = .ok (.return_, 1) → W p l e R s m args below meth c H1 locs1 (xn res.2.1 - xn K0) (2 * (xn res.2.1 - xn K0)) Q (F0 m pc ls1 [])) (z0 : Int32) (z1 : Int32) (F : PF) (G : PG) (hm : cb_X6_reach_206 fu z0 z1 F G = some res) {b : Nat} {H : Heap} {locs : List Loc} (hw : cMW s A v a b K0 F G H locs) {ls : Array Slot} (hl : lv_has ls 6 [(0, .ref (a 206))]) : W p l e R s m args below meth c H locs (xn F - xn K0) (2 * (xn F - xn K0)) Q (F0 m 206 ls [.int z0, .int z1, .ref (a 206)]) := by
  have hx := C.1
  have hb := C.2.1
  unfold cb_X6_reach_206 at hm
  refine lv_aload_n hx hb dX6_reach_206 rfl (lv_at hl 0 rfl) ?_
  obtain ⟨⟨r1, F1, G1⟩, hc, hm⟩ := bind_elim hm
  refine ccallI (n := 0) (As := []) (rest := [.int z0, .int z1, .ref (a 206)]) C hw (ck_X6_next l v a _ _ fu F G r1 F1 G1 hc) (cn_X6_next fu F G _ hc) (Nat.sub_le_sub_right (cn_X6_reach_210 fu r1 z0 z1 F1 G1 hm) _) (crecv_X6 C hw) cm_529 cm_530 cm_531 cm_21 cm_532 (by decide +kernel) rfl (by omega) (by omega) hl.1 rfl (Nat.le_of_ble_eq_true rfl) dX6_reach_207 (fun b H locs hw => ?_)
  exact cw_X6_reach_210 fu C hret r1 z0 z1 F1 G1 hm hw (lv_sub hl [] rfl)
theorem cn_X6_reach_200 (fu : Nat) {res : Int32 × PF × PG} (x1 : Int32) (F : PF) (G : PG) (hm : cb_X6_reach_200 fu x1 F G = some res) : xn F ≤ xn res.2.1 := by
  unfold cb_X6_reach_200 at hm
  obtain ⟨⟨r1, F1, G1⟩, hc, hm⟩ := bind_elim hm
  exact Nat.le_trans (cn_X6_next fu F G _ hc) (cn_X6_reach_206 fu r1 x1 F1 G1 hm)
theorem cw_X6_reach_200 (fu : Nat) {res : Int32 × PF × PG} (C : cMC p R s m args c A v RX6 cX6_reach 6 4 136 (xn res.2.1 - xn K0)) (hret : ∀ (b1 : Nat) (H1 : Heap) (locs1 : List Loc) (ls1 : Array Slot) (pc : Nat), cMW s A v a b1 K0 res.2.1 res.2.2 H1 locs1 → decode cX6_reach pc = .ok (.return_, 1) → W p l e R s m args below meth c H1 locs1 (xn res.2.1 - xn K0) (2 * (xn res.2.1 - xn K0)) Q (F0 m pc ls1 [])) (x1 : Int32) (F : PF) (G : PG) (hm : cb_X6_reach_200 fu x1 F G = some res) {b : Nat} {H : Heap} {locs : List Loc} (hw : cMW s A v a b K0 F G H locs) {ls : Array Slot} (hl : lv_has ls 6 [(0, .ref (a 206)), (1, .int x1)]) : W p l e R s m args below meth c H locs (xn F - xn K0) (2 * (xn F - xn K0)) Q (F0 m 200 ls []) := by
  have hx := C.1
  have hb := C.2.1
  unfold cb_X6_reach_200 at hm
  refine lv_aload_n hx hb dX6_reach_200 rfl (lv_at hl 0 rfl) ?_
  refine lv_iload_n hx hb dX6_reach_201 rfl (lv_at hl 1 rfl) ?_
  refine lv_aload_n hx hb dX6_reach_202 rfl (lv_at hl 0 rfl) ?_
  obtain ⟨⟨r1, F1, G1⟩, hc, hm⟩ := bind_elim hm
  refine ccallI (n := 0) (As := []) (rest := [.int x1, .ref (a 206)]) C hw (ck_X6_next l v a _ _ fu F G r1 F1 G1 hc) (cn_X6_next fu F G _ hc) (Nat.sub_le_sub_right (cn_X6_reach_206 fu r1 x1 F1 G1 hm) _) (crecv_X6 C hw) cm_529 cm_530 cm_531 cm_21 cm_532 (by decide +kernel) rfl (by omega) (by omega) hl.1 rfl (Nat.le_of_ble_eq_true rfl) dX6_reach_203 (fun b H locs hw => ?_)
  exact cw_X6_reach_206 fu C hret r1 x1 F1 G1 hm hw (lv_sub hl [0] rfl)
theorem cn_X6_reach_0 (fu : Nat) {res : Int32 × PF × PG} (x1 : Int32) (F : PF) (G : PG) (hm : cb_X6_reach_0 fu x1 F G = some res) : xn F ≤ xn res.2.1 := by
  unfold cb_X6_reach_0 at hm
  by_cases c_0 : x1.toInt < 74 ∨ 80 < x1.toInt
  · have hm := (if_pos c_0).symm.trans hm
    exact (cn_X6_reach_200 fu x1 F G hm)
  have hm := (if_neg c_0).symm.trans hm
  by_cases c_1 : x1 = 74
  · have hm := (if_pos c_1).symm.trans hm
    exact (cn_X6_reach_44 fu F G hm)
  have hm := (if_neg c_1).symm.trans hm
  clear c_1
  by_cases c_1 : x1 = 75
  · have hm := (if_pos c_1).symm.trans hm
    exact (cn_X6_reach_59 fu F G hm)
  have hm := (if_neg c_1).symm.trans hm
  clear c_1
  by_cases c_1 : x1 = 76
  · have hm := (if_pos c_1).symm.trans hm
    exact (cn_X6_reach_79 fu F G hm)
  have hm := (if_neg c_1).symm.trans hm
  clear c_1
  by_cases c_1 : x1 = 77
  · have hm := (if_pos c_1).symm.trans hm
    exact (cn_X6_reach_113 fu F G hm)
  have hm := (if_neg c_1).symm.trans hm
  clear c_1
  by_cases c_1 : x1 = 78
  · have hm := (if_pos c_1).symm.trans hm
    exact (cn_X6_reach_128 fu F G hm)
  have hm := (if_neg c_1).symm.trans hm
  clear c_1
  by_cases c_1 : x1 = 79
  · have hm := (if_pos c_1).symm.trans hm
    exact (cn_X6_reach_158 fu F G hm)
  have hm := (if_neg c_1).symm.trans hm
  clear c_1
  exact (cn_X6_reach_177 fu F G hm)
theorem cw_X6_reach_0 (fu : Nat) {res : Int32 × PF × PG} (C : cMC p R s m args c A v RX6 cX6_reach 6 4 136 (xn res.2.1 - xn K0)) (hret : ∀ (b1 : Nat) (H1 : Heap) (locs1 : List Loc) (ls1 : Array Slot) (pc : Nat), cMW s A v a b1 K0 res.2.1 res.2.2 H1 locs1 → decode cX6_reach pc = .ok (.return_, 1) → W p l e R s m args below meth c H1 locs1 (xn res.2.1 - xn K0) (2 * (xn res.2.1 - xn K0)) Q (F0 m pc ls1 [])) (x1 : Int32) (F : PF) (G : PG) (hm : cb_X6_reach_0 fu x1 F G = some res) {b : Nat} {H : Heap} {locs : List Loc} (hw : cMW s A v a b K0 F G H locs) {ls : Array Slot} (hl : lv_has ls 6 [(0, .ref (a 206)), (1, .int x1)]) : W p l e R s m args below meth c H locs (xn F - xn K0) (2 * (xn F - xn K0)) Q (F0 m 0 ls []) := by
  have hx := C.1
  have hb := C.2.1
  unfold cb_X6_reach_0 at hm
  refine lv_iload_n hx hb dX6_reach_0 rfl (lv_at hl 1 rfl) ?_
  by_cases c_0 : x1.toInt < 74 ∨ 80 < x1.toInt
  · have hm := (if_pos c_0).symm.trans hm
    refine lv_tableOut (tgt := 200) hx hb dX6_reach_1 c_0 (by decide) ?_
    exact cw_X6_reach_200 fu C hret x1 F G hm hw (lv_sub hl [0, 1] rfl)
  have hm := (if_neg c_0).symm.trans hm
  by_cases c_1 : x1 = 74
  · have hm := (if_pos c_1).symm.trans hm
    refine my_top 74 c_1 ?_
    refine lv_tableIn (off := 43) (tgt := 44) hx hb dX6_reach_1 (by decide) (by decide) (by decide) (by decide) ?_
    exact cw_X6_reach_44 fu C hret F G hm hw (lv_sub hl [0] rfl)
  have hm := (if_neg c_1).symm.trans hm
  have n_0 := c_1
  clear c_1
  by_cases c_1 : x1 = 75
  · have hm := (if_pos c_1).symm.trans hm
    refine my_top 75 c_1 ?_
    refine lv_tableIn (off := 58) (tgt := 59) hx hb dX6_reach_1 (by decide) (by decide) (by decide) (by decide) ?_
    exact cw_X6_reach_59 fu C hret F G hm hw (lv_sub hl [0] rfl)
  have hm := (if_neg c_1).symm.trans hm
  have n_1 := c_1
  clear c_1
  by_cases c_1 : x1 = 76
  · have hm := (if_pos c_1).symm.trans hm
    refine my_top 76 c_1 ?_
    refine lv_tableIn (off := 78) (tgt := 79) hx hb dX6_reach_1 (by decide) (by decide) (by decide) (by decide) ?_
    exact cw_X6_reach_79 fu C hret F G hm hw (lv_sub hl [0] rfl)
  have hm := (if_neg c_1).symm.trans hm
  have n_2 := c_1
  clear c_1
  by_cases c_1 : x1 = 77
  · have hm := (if_pos c_1).symm.trans hm
    refine my_top 77 c_1 ?_
    refine lv_tableIn (off := 112) (tgt := 113) hx hb dX6_reach_1 (by decide) (by decide) (by decide) (by decide) ?_
    exact cw_X6_reach_113 fu C hret F G hm hw (lv_sub hl [0] rfl)
  have hm := (if_neg c_1).symm.trans hm
  have n_3 := c_1
  clear c_1
  by_cases c_1 : x1 = 78
  · have hm := (if_pos c_1).symm.trans hm
    refine my_top 78 c_1 ?_
    refine lv_tableIn (off := 127) (tgt := 128) hx hb dX6_reach_1 (by decide) (by decide) (by decide) (by decide) ?_
    exact cw_X6_reach_128 fu C hret F G hm hw (lv_sub hl [0] rfl)
  have hm := (if_neg c_1).symm.trans hm
  have n_4 := c_1
  clear c_1
  by_cases c_1 : x1 = 79
  · have hm := (if_pos c_1).symm.trans hm
    refine my_top 79 c_1 ?_
    refine lv_tableIn (off := 157) (tgt := 158) hx hb dX6_reach_1 (by decide) (by decide) (by decide) (by decide) ?_
    exact cw_X6_reach_158 fu C hret F G hm hw (lv_sub hl [0] rfl)
  have hm := (if_neg c_1).symm.trans hm
  have n_5 := c_1
  clear c_1
  have c_1 : x1 = 80 := my_last (l := 74) (k := 6) c_0 (by decide) (fun j hj => match j, hj with | 0, _ => fun h9 => n_0 (Int32.toInt_inj.mp (h9.trans (by decide))) | 1, _ => fun h9 => n_1 (Int32.toInt_inj.mp (h9.trans (by decide))) | 2, _ => fun h9 => n_2 (Int32.toInt_inj.mp (h9.trans (by decide))) | 3, _ => fun h9 => n_3 (Int32.toInt_inj.mp (h9.trans (by decide))) | 4, _ => fun h9 => n_4 (Int32.toInt_inj.mp (h9.trans (by decide))) | 5, _ => fun h9 => n_5 (Int32.toInt_inj.mp (h9.trans (by decide))) | q + 6, h => absurd h (by omega)) (by decide)
  refine my_top 80 c_1 ?_
  refine lv_tableIn (off := 176) (tgt := 177) hx hb dX6_reach_1 (by decide) (by decide) (by decide) (by decide) ?_
  exact cw_X6_reach_177 fu C hret F G hm hw (lv_sub hl [0] rfl)
theorem cn_X6_reach (fu : Nat) (x1 : Int32) (F : PF) (G : PG) (q : Int32 × PF × PG) (hm : cf_X6_reach fu x1 F G = some q) : xn F ≤ xn q.2.1 := cn_X6_reach_0 fu x1 F G hm
theorem ck_X6_reach (l : Launch) (v : EV) (a : Nat → Nat) (b sz : Nat) (fu : Nat) (x1 : Int32) (F : PF) (G : PG) (r : Int32) (F1 : PF) (G1 : PG) (hm : cf_X6_reach fu x1 F G = some (r, F1, G1)) : cMV l yX6_reach cX6_reach 6 4 136 v a b sz [.ref (a 206), .int x1] F G F1 G1 := cMV.of (by decide) (Nat.le_of_ble_eq_true rfl) (fun p e R s m args below meth c Q A H locs ls C hw hl hret => cw_X6_reach_0 fu (res := (r, F1, G1)) C hret x1 F G hm hw hl)
def cb_X6_clear_28 (fu : Nat) (F : PF) (G : PG) : PR := some (0, F, G)
def cb_X6_clear_22 (fu : Nat) (ag_2 : Int32 → Int32 → Int32 → PF → PG → PR) (x1 : Int32) (x2 : Int32) (x3 : Int32) (F : PF) (G : PG) : PR := ag_2 x1 x2 (x3 + 1) F G
def cb_X6_clear_14 (fu : Nat) (ag_2 : Int32 → Int32 → Int32 → PF → PG → PR) (x1 : Int32) (x2 : Int32) (x3 : Int32) (F : PF) (G : PG) : PR := (cf_X6_hold fu (x1 + x3) 0 F G).bind (fun q => cb_X6_clear_22 fu ag_2 x1 x2 x3 q.2.1 q.2.2)
def cb_X6_clear_7 (fu : Nat) (ag_2 : Int32 → Int32 → Int32 → PF → PG → PR) (x1 : Int32) (x2 : Int32) (x3 : Int32) (F : PF) (G : PG) : PR := if (200 : Int32) ≤ x3 then cb_X6_clear_28 fu F G else cb_X6_clear_14 fu ag_2 x1 x2 x3 F G
def cb_X6_clear_2 (fu : Nat) (ag_2 : Int32 → Int32 → Int32 → PF → PG → PR) (x1 : Int32) (x2 : Int32) (x3 : Int32) (F : PF) (G : PG) : PR := if x2 ≤ x3 then cb_X6_clear_28 fu F G else cb_X6_clear_7 fu ag_2 x1 x2 x3 F G
def cl_X6_clear_2 (fu : Nat) : Nat → Int32 → Int32 → Int32 → PF → PG → PR
  | 0 => fun _ _ _ _ _ => none
  | n + 1 => fun x1 x2 x3 F G => cb_X6_clear_2 fu (cl_X6_clear_2 fu n) x1 x2 x3 F G
def cb_X6_clear_0 (fu : Nat) (x1 : Int32) (x2 : Int32) (F : PF) (G : PG) : PR := cl_X6_clear_2 fu fu x1 x2 0 F G
def cf_X6_clear (fu : Nat) (x1 : Int32) (x2 : Int32) (F : PF) (G : PG) : PR := cb_X6_clear_0 fu x1 x2 F G
theorem cn_X6_clear_28 (fu : Nat) {res : Int32 × PF × PG} (F : PF) (G : PG) (hm : cb_X6_clear_28 fu F G = some res) : xn F ≤ xn res.2.1 := by
  unfold cb_X6_clear_28 at hm
  obtain rfl := Option.some.inj hm
  exact Nat.le_refl _
theorem cw_X6_clear_28 (fu : Nat) {res : Int32 × PF × PG} (C : cMC p R s m args c A v RX6 cX6_clear 4 1 22 (xn res.2.1 - xn K0)) (hret : ∀ (b1 : Nat) (H1 : Heap) (locs1 : List Loc) (ls1 : Array Slot) (pc : Nat), cMW s A v a b1 K0 res.2.1 res.2.2 H1 locs1 → decode cX6_clear pc = .ok (.return_, 1) → W p l e R s m args below meth c H1 locs1 (xn res.2.1 - xn K0) (2 * (xn res.2.1 - xn K0)) Q (F0 m pc ls1 [])) (F : PF) (G : PG) (hm : cb_X6_clear_28 fu F G = some res) {b : Nat} {H : Heap} {locs : List Loc} (hw : cMW s A v a b K0 F G H locs) {ls : Array Slot} (hl : lv_has ls 4 []) : W p l e R s m args below meth c H locs (xn F - xn K0) (2 * (xn F - xn K0)) Q (F0 m 28 ls []) := by
  have hx := C.1
  have hb := C.2.1
  unfold cb_X6_clear_28 at hm
  obtain rfl := Option.some.inj hm
  exact hret _ _ _ _ _ hw dX6_clear_28
theorem cn_X6_clear_22 (fu : Nat) {res : Int32 × PF × PG} (ag_2 : Int32 → Int32 → Int32 → PF → PG → PR) (hagn_2 : ∀ (x1 : Int32) (x2 : Int32) (x3 : Int32) (F : PF) (G : PG), ag_2 x1 x2 x3 F G = some res → xn F ≤ xn res.2.1) (x1 : Int32) (x2 : Int32) (x3 : Int32) (F : PF) (G : PG) (hm : cb_X6_clear_22 fu ag_2 x1 x2 x3 F G = some res) : xn F ≤ xn res.2.1 := by
  unfold cb_X6_clear_22 at hm
  exact (hagn_2 x1 x2 (x3 + 1) F G hm)
theorem cw_X6_clear_22 (fu : Nat) {res : Int32 × PF × PG} (C : cMC p R s m args c A v RX6 cX6_clear 4 1 22 (xn res.2.1 - xn K0)) (hret : ∀ (b1 : Nat) (H1 : Heap) (locs1 : List Loc) (ls1 : Array Slot) (pc : Nat), cMW s A v a b1 K0 res.2.1 res.2.2 H1 locs1 → decode cX6_clear pc = .ok (.return_, 1) → W p l e R s m args below meth c H1 locs1 (xn res.2.1 - xn K0) (2 * (xn res.2.1 - xn K0)) Q (F0 m pc ls1 [])) (ag_2 : Int32 → Int32 → Int32 → PF → PG → PR) (hag_2 : ∀ (x1 : Int32) (x2 : Int32) (x3 : Int32) (F : PF) (G : PG), ag_2 x1 x2 x3 F G = some res → ∀ (b : Nat) (H : Heap) (locs : List Loc) (ls : Array Slot), cMW s A v a b K0 F G H locs → lv_has ls 4 [(0, .ref (a 206)), (1, .int x1), (2, .int x2), (3, .int x3)] → W p l e R s m args below meth c H locs (xn F - xn K0) (2 * (xn F - xn K0)) Q (F0 m 2 ls [])) (hagn_2 : ∀ (x1 : Int32) (x2 : Int32) (x3 : Int32) (F : PF) (G : PG), ag_2 x1 x2 x3 F G = some res → xn F ≤ xn res.2.1) (x1 : Int32) (x2 : Int32) (x3 : Int32) (F : PF) (G : PG) (hm : cb_X6_clear_22 fu ag_2 x1 x2 x3 F G = some res) {b : Nat} {H : Heap} {locs : List Loc} (hw : cMW s A v a b K0 F G H locs) {ls : Array Slot} (hl : lv_has ls 4 [(0, .ref (a 206)), (1, .int x1), (2, .int x2), (3, .int x3)]) : W p l e R s m args below meth c H locs (xn F - xn K0) (2 * (xn F - xn K0)) Q (F0 m 22 ls []) := by
  have hx := C.1
  have hb := C.2.1
  unfold cb_X6_clear_22 at hm
  refine lv_iinc (v := (x3 + 1)) (lv' := [(3, .int (x3 + 1)), (0, .ref (a 206)), (1, .int x1), (2, .int x2)]) hx hb dX6_clear_22 hl (k := 3) rfl (by rfl) (by decide) rfl (fun ls hl => ?_)
  refine lv_goto (tgt := 2) hx hb dX6_clear_25 (by decide) ?_
  exact hag_2 x1 x2 (x3 + 1) F G hm _ _ _ _ hw (lv_sub hl [1, 2, 3, 0] rfl)
theorem cn_X6_clear_14 (fu : Nat) {res : Int32 × PF × PG} (ag_2 : Int32 → Int32 → Int32 → PF → PG → PR) (hagn_2 : ∀ (x1 : Int32) (x2 : Int32) (x3 : Int32) (F : PF) (G : PG), ag_2 x1 x2 x3 F G = some res → xn F ≤ xn res.2.1) (x1 : Int32) (x2 : Int32) (x3 : Int32) (F : PF) (G : PG) (hm : cb_X6_clear_14 fu ag_2 x1 x2 x3 F G = some res) : xn F ≤ xn res.2.1 := by
  unfold cb_X6_clear_14 at hm
  obtain ⟨⟨r1, F1, G1⟩, hc, hm⟩ := bind_elim hm
  exact Nat.le_trans (cn_X6_hold fu (x1 + x3) 0 F G _ hc) (cn_X6_clear_22 fu ag_2 hagn_2 x1 x2 x3 F1 G1 hm)
theorem cw_X6_clear_14 (fu : Nat) {res : Int32 × PF × PG} (C : cMC p R s m args c A v RX6 cX6_clear 4 1 22 (xn res.2.1 - xn K0)) (hret : ∀ (b1 : Nat) (H1 : Heap) (locs1 : List Loc) (ls1 : Array Slot) (pc : Nat), cMW s A v a b1 K0 res.2.1 res.2.2 H1 locs1 → decode cX6_clear pc = .ok (.return_, 1) → W p l e R s m args below meth c H1 locs1 (xn res.2.1 - xn K0) (2 * (xn res.2.1 - xn K0)) Q (F0 m pc ls1 [])) (ag_2 : Int32 → Int32 → Int32 → PF → PG → PR) (hag_2 : ∀ (x1 : Int32) (x2 : Int32) (x3 : Int32) (F : PF) (G : PG), ag_2 x1 x2 x3 F G = some res → ∀ (b : Nat) (H : Heap) (locs : List Loc) (ls : Array Slot), cMW s A v a b K0 F G H locs → lv_has ls 4 [(0, .ref (a 206)), (1, .int x1), (2, .int x2), (3, .int x3)] → W p l e R s m args below meth c H locs (xn F - xn K0) (2 * (xn F - xn K0)) Q (F0 m 2 ls [])) (hagn_2 : ∀ (x1 : Int32) (x2 : Int32) (x3 : Int32) (F : PF) (G : PG), ag_2 x1 x2 x3 F G = some res → xn F ≤ xn res.2.1) (x1 : Int32) (x2 : Int32) (x3 : Int32) (F : PF) (G : PG) (hm : cb_X6_clear_14 fu ag_2 x1 x2 x3 F G = some res) {b : Nat} {H : Heap} {locs : List Loc} (hw : cMW s A v a b K0 F G H locs) {ls : Array Slot} (hl : lv_has ls 4 [(0, .ref (a 206)), (1, .int x1), (2, .int x2), (3, .int x3)]) : W p l e R s m args below meth c H locs (xn F - xn K0) (2 * (xn F - xn K0)) Q (F0 m 14 ls []) := by
  have hx := C.1
  have hb := C.2.1
  unfold cb_X6_clear_14 at hm
  refine lv_aload_n hx hb dX6_clear_14 rfl (lv_at hl 0 rfl) ?_
  refine lv_iload_n hx hb dX6_clear_15 rfl (lv_at hl 1 rfl) ?_
  refine lv_iload_n hx hb dX6_clear_16 rfl (lv_at hl 3 rfl) ?_
  refine lv_iadd hx hb dX6_clear_17 ?_
  refine lv_iconst (v := 0) hx hb dX6_clear_18 (by decide) ?_
  obtain ⟨⟨r1, F1, G1⟩, hc, hm⟩ := bind_elim hm
  refine ccallV (n := 2) (As := [.int (x1 + x3), .int 0]) (rest := []) C hw (ck_X6_hold l v a _ _ fu (x1 + x3) 0 F G r1 F1 G1 hc) (cn_X6_hold fu (x1 + x3) 0 F G _ hc) (Nat.sub_le_sub_right (cn_X6_clear_22 fu ag_2 hagn_2 x1 x2 x3 F1 G1 hm) _) (crecv_X6 C hw) cm_850 cm_851 cm_852 cm_21 cm_853 (by decide +kernel) rfl (by omega) (by omega) hl.1 rfl (Nat.le_of_ble_eq_true rfl) dX6_clear_19 (fun b H locs hw => ?_)
  exact cw_X6_clear_22 fu C hret ag_2 hag_2 hagn_2 x1 x2 x3 F1 G1 hm hw (lv_sub hl [0, 1, 2, 3] rfl)
theorem cn_X6_clear_7 (fu : Nat) {res : Int32 × PF × PG} (ag_2 : Int32 → Int32 → Int32 → PF → PG → PR) (hagn_2 : ∀ (x1 : Int32) (x2 : Int32) (x3 : Int32) (F : PF) (G : PG), ag_2 x1 x2 x3 F G = some res → xn F ≤ xn res.2.1) (x1 : Int32) (x2 : Int32) (x3 : Int32) (F : PF) (G : PG) (hm : cb_X6_clear_7 fu ag_2 x1 x2 x3 F G = some res) : xn F ≤ xn res.2.1 := by
  unfold cb_X6_clear_7 at hm
  by_cases c_1 : (200 : Int32) ≤ x3
  · have hm := (if_pos c_1).symm.trans hm
    exact (cn_X6_clear_28 fu F G hm)
  · have hm := (if_neg c_1).symm.trans hm
    exact (cn_X6_clear_14 fu ag_2 hagn_2 x1 x2 x3 F G hm)
theorem cw_X6_clear_7 (fu : Nat) {res : Int32 × PF × PG} (C : cMC p R s m args c A v RX6 cX6_clear 4 1 22 (xn res.2.1 - xn K0)) (hret : ∀ (b1 : Nat) (H1 : Heap) (locs1 : List Loc) (ls1 : Array Slot) (pc : Nat), cMW s A v a b1 K0 res.2.1 res.2.2 H1 locs1 → decode cX6_clear pc = .ok (.return_, 1) → W p l e R s m args below meth c H1 locs1 (xn res.2.1 - xn K0) (2 * (xn res.2.1 - xn K0)) Q (F0 m pc ls1 [])) (ag_2 : Int32 → Int32 → Int32 → PF → PG → PR) (hag_2 : ∀ (x1 : Int32) (x2 : Int32) (x3 : Int32) (F : PF) (G : PG), ag_2 x1 x2 x3 F G = some res → ∀ (b : Nat) (H : Heap) (locs : List Loc) (ls : Array Slot), cMW s A v a b K0 F G H locs → lv_has ls 4 [(0, .ref (a 206)), (1, .int x1), (2, .int x2), (3, .int x3)] → W p l e R s m args below meth c H locs (xn F - xn K0) (2 * (xn F - xn K0)) Q (F0 m 2 ls [])) (hagn_2 : ∀ (x1 : Int32) (x2 : Int32) (x3 : Int32) (F : PF) (G : PG), ag_2 x1 x2 x3 F G = some res → xn F ≤ xn res.2.1) (x1 : Int32) (x2 : Int32) (x3 : Int32) (F : PF) (G : PG) (hm : cb_X6_clear_7 fu ag_2 x1 x2 x3 F G = some res) {b : Nat} {H : Heap} {locs : List Loc} (hw : cMW s A v a b K0 F G H locs) {ls : Array Slot} (hl : lv_has ls 4 [(0, .ref (a 206)), (1, .int x1), (2, .int x2), (3, .int x3)]) : W p l e R s m args below meth c H locs (xn F - xn K0) (2 * (xn F - xn K0)) Q (F0 m 7 ls []) := by
  have hx := C.1
  have hb := C.2.1
  unfold cb_X6_clear_7 at hm
  refine lv_iload_n hx hb dX6_clear_7 rfl (lv_at hl 3 rfl) ?_
  refine lv_sipush (v := 200) hx hb dX6_clear_8 (by decide) ?_
  refine lv_icmp_ge (tgt := 28) hx hb dX6_clear_11 (by decide) (fun c_1 => ?_) (fun c_1 => ?_)
  · have hm := (if_pos c_1).symm.trans hm
    exact cw_X6_clear_28 fu C hret F G hm hw (lv_sub hl [] rfl)
  · have hm := (if_neg c_1).symm.trans hm
    exact cw_X6_clear_14 fu C hret ag_2 hag_2 hagn_2 x1 x2 x3 F G hm hw (lv_sub hl [0, 1, 2, 3] rfl)
theorem cn_X6_clear_2 (fu : Nat) {res : Int32 × PF × PG} (ag_2 : Int32 → Int32 → Int32 → PF → PG → PR) (hagn_2 : ∀ (x1 : Int32) (x2 : Int32) (x3 : Int32) (F : PF) (G : PG), ag_2 x1 x2 x3 F G = some res → xn F ≤ xn res.2.1) (x1 : Int32) (x2 : Int32) (x3 : Int32) (F : PF) (G : PG) (hm : cb_X6_clear_2 fu ag_2 x1 x2 x3 F G = some res) : xn F ≤ xn res.2.1 := by
  unfold cb_X6_clear_2 at hm
  by_cases c_1 : x2 ≤ x3
  · have hm := (if_pos c_1).symm.trans hm
    exact (cn_X6_clear_28 fu F G hm)
  · have hm := (if_neg c_1).symm.trans hm
    exact (cn_X6_clear_7 fu ag_2 hagn_2 x1 x2 x3 F G hm)
theorem cw_X6_clear_2 (fu : Nat) {res : Int32 × PF × PG} (C : cMC p R s m args c A v RX6 cX6_clear 4 1 22 (xn res.2.1 - xn K0)) (hret : ∀ (b1 : Nat) (H1 : Heap) (locs1 : List Loc) (ls1 : Array Slot) (pc : Nat), cMW s A v a b1 K0 res.2.1 res.2.2 H1 locs1 → decode cX6_clear pc = .ok (.return_, 1) → W p l e R s m args below meth c H1 locs1 (xn res.2.1 - xn K0) (2 * (xn res.2.1 - xn K0)) Q (F0 m pc ls1 [])) (ag_2 : Int32 → Int32 → Int32 → PF → PG → PR) (hag_2 : ∀ (x1 : Int32) (x2 : Int32) (x3 : Int32) (F : PF) (G : PG), ag_2 x1 x2 x3 F G = some res → ∀ (b : Nat) (H : Heap) (locs : List Loc) (ls : Array Slot), cMW s A v a b K0 F G H locs → lv_has ls 4 [(0, .ref (a 206)), (1, .int x1), (2, .int x2), (3, .int x3)] → W p l e R s m args below meth c H locs (xn F - xn K0) (2 * (xn F - xn K0)) Q (F0 m 2 ls [])) (hagn_2 : ∀ (x1 : Int32) (x2 : Int32) (x3 : Int32) (F : PF) (G : PG), ag_2 x1 x2 x3 F G = some res → xn F ≤ xn res.2.1) (x1 : Int32) (x2 : Int32) (x3 : Int32) (F : PF) (G : PG) (hm : cb_X6_clear_2 fu ag_2 x1 x2 x3 F G = some res) {b : Nat} {H : Heap} {locs : List Loc} (hw : cMW s A v a b K0 F G H locs) {ls : Array Slot} (hl : lv_has ls 4 [(0, .ref (a 206)), (1, .int x1), (2, .int x2), (3, .int x3)]) : W p l e R s m args below meth c H locs (xn F - xn K0) (2 * (xn F - xn K0)) Q (F0 m 2 ls []) := by
  have hx := C.1
  have hb := C.2.1
  unfold cb_X6_clear_2 at hm
  refine lv_iload_n hx hb dX6_clear_2 rfl (lv_at hl 3 rfl) ?_
  refine lv_iload_n hx hb dX6_clear_3 rfl (lv_at hl 2 rfl) ?_
  refine lv_icmp_ge (tgt := 28) hx hb dX6_clear_4 (by decide) (fun c_1 => ?_) (fun c_1 => ?_)
  · have hm := (if_pos c_1).symm.trans hm
    exact cw_X6_clear_28 fu C hret F G hm hw (lv_sub hl [] rfl)
  · have hm := (if_neg c_1).symm.trans hm
    exact cw_X6_clear_7 fu C hret ag_2 hag_2 hagn_2 x1 x2 x3 F G hm hw (lv_sub hl [0, 1, 2, 3] rfl)
theorem cnl_X6_clear_2 (fu : Nat) {res : Int32 × PF × PG} : ∀ (n : Nat) (x1 : Int32) (x2 : Int32) (x3 : Int32) (F : PF) (G : PG) (hm : cl_X6_clear_2 fu n x1 x2 x3 F G = some res), xn F ≤ xn res.2.1 := by
  intro n
  induction n with
  | zero =>
    intro x1 x2 x3 F G hm
    exact no_elim (show (none : PR) = some res from hm)
  | succ n ih =>
    intro x1 x2 x3 F G hm
    exact cn_X6_clear_2 fu (cl_X6_clear_2 fu n) (fun x1 x2 x3 F G hm => ih x1 x2 x3 F G hm) x1 x2 x3 F G hm
theorem cwl_X6_clear_2 (fu : Nat) {res : Int32 × PF × PG} (C : cMC p R s m args c A v RX6 cX6_clear 4 1 22 (xn res.2.1 - xn K0)) (hret : ∀ (b1 : Nat) (H1 : Heap) (locs1 : List Loc) (ls1 : Array Slot) (pc : Nat), cMW s A v a b1 K0 res.2.1 res.2.2 H1 locs1 → decode cX6_clear pc = .ok (.return_, 1) → W p l e R s m args below meth c H1 locs1 (xn res.2.1 - xn K0) (2 * (xn res.2.1 - xn K0)) Q (F0 m pc ls1 [])) : ∀ (n : Nat) (x1 : Int32) (x2 : Int32) (x3 : Int32) (F : PF) (G : PG) (hm : cl_X6_clear_2 fu n x1 x2 x3 F G = some res) {b : Nat} {H : Heap} {locs : List Loc} (hw : cMW s A v a b K0 F G H locs) {ls : Array Slot} (hl : lv_has ls 4 [(0, .ref (a 206)), (1, .int x1), (2, .int x2), (3, .int x3)]), W p l e R s m args below meth c H locs (xn F - xn K0) (2 * (xn F - xn K0)) Q (F0 m 2 ls []) := by
  intro n
  induction n with
  | zero =>
    intro x1 x2 x3 F G hm
    exact no_elim (show (none : PR) = some res from hm)
  | succ n ih =>
    intro x1 x2 x3 F G hm b H locs hw ls hl
    exact cw_X6_clear_2 fu C hret (cl_X6_clear_2 fu n) (fun x1 x2 x3 F G hm b H locs ls hw hl => ih x1 x2 x3 F G hm hw hl) (fun x1 x2 x3 F G hm => cnl_X6_clear_2 fu n x1 x2 x3 F G hm) x1 x2 x3 F G hm hw hl
theorem cn_X6_clear_0 (fu : Nat) {res : Int32 × PF × PG} (x1 : Int32) (x2 : Int32) (F : PF) (G : PG) (hm : cb_X6_clear_0 fu x1 x2 F G = some res) : xn F ≤ xn res.2.1 := by
  unfold cb_X6_clear_0 at hm
  exact (cnl_X6_clear_2 fu fu x1 x2 0 F G hm)
theorem cw_X6_clear_0 (fu : Nat) {res : Int32 × PF × PG} (C : cMC p R s m args c A v RX6 cX6_clear 4 1 22 (xn res.2.1 - xn K0)) (hret : ∀ (b1 : Nat) (H1 : Heap) (locs1 : List Loc) (ls1 : Array Slot) (pc : Nat), cMW s A v a b1 K0 res.2.1 res.2.2 H1 locs1 → decode cX6_clear pc = .ok (.return_, 1) → W p l e R s m args below meth c H1 locs1 (xn res.2.1 - xn K0) (2 * (xn res.2.1 - xn K0)) Q (F0 m pc ls1 [])) (x1 : Int32) (x2 : Int32) (F : PF) (G : PG) (hm : cb_X6_clear_0 fu x1 x2 F G = some res) {b : Nat} {H : Heap} {locs : List Loc} (hw : cMW s A v a b K0 F G H locs) {ls : Array Slot} (hl : lv_has ls 4 [(0, .ref (a 206)), (1, .int x1), (2, .int x2)]) : W p l e R s m args below meth c H locs (xn F - xn K0) (2 * (xn F - xn K0)) Q (F0 m 0 ls []) := by
  have hx := C.1
  have hb := C.2.1
  unfold cb_X6_clear_0 at hm
  refine lv_iconst (v := 0) hx hb dX6_clear_0 (by decide) ?_
  refine lv_istore_n (lv' := [(3, .int 0), (0, .ref (a 206)), (1, .int x1), (2, .int x2)]) hx hb dX6_clear_1 rfl hl (by decide) rfl (fun ls hl => ?_)
  exact cwl_X6_clear_2 fu C hret fu x1 x2 0 F G hm hw (lv_sub hl [1, 2, 3, 0] rfl)
theorem cn_X6_clear (fu : Nat) (x1 : Int32) (x2 : Int32) (F : PF) (G : PG) (q : Int32 × PF × PG) (hm : cf_X6_clear fu x1 x2 F G = some q) : xn F ≤ xn q.2.1 := cn_X6_clear_0 fu x1 x2 F G hm
theorem ck_X6_clear (l : Launch) (v : EV) (a : Nat → Nat) (b sz : Nat) (fu : Nat) (x1 : Int32) (x2 : Int32) (F : PF) (G : PG) (r : Int32) (F1 : PF) (G1 : PG) (hm : cf_X6_clear fu x1 x2 F G = some (r, F1, G1)) : cMV l yX6_clear cX6_clear 4 1 22 v a b sz [.ref (a 206), .int x1, .int x2] F G F1 G1 := cMV.of (by decide) (Nat.le_of_ble_eq_true rfl) (fun p e R s m args below meth c Q A H locs ls C hw hl hret => cw_X6_clear_0 fu (res := (r, F1, G1)) C hret x1 x2 F G hm hw hl)
def cb_X6_move_168 (fu : Nat) (F : PF) (G : PG) : PR := some (0, F, G)
def cb_X6_move_52 (fu : Nat) (F : PF) (G : PG) : PR := cb_X6_move_168 fu F G
def cb_X6_move_49 (fu : Nat) (z0 : Int32) (F : PF) (G : PG) : PR := (cf_X6_push fu z0 F G).bind (fun q => cb_X6_move_52 fu q.2.1 q.2.2)
def cb_X6_move_44 (fu : Nat) (F : PF) (G : PG) : PR := (cf_X6_next fu F G).bind (fun q => cb_X6_move_49 fu q.1 q.2.1 q.2.2)
def cb_X6_move_70 (fu : Nat) (F : PF) (G : PG) : PR := cb_X6_move_168 fu F G
def cb_X6_move_65 (fu : Nat) (x2 : Int32) (F : PF) (G : PG) : PR := (cf_X6_push fu x2 F G).bind (fun q => cb_X6_move_70 fu q.2.1 q.2.2)
def cb_X6_move_59 (fu : Nat) (z0 : Int32) (F : PF) (G : PG) : PR := (cf_X6_push fu z0 F G).bind (fun q => cb_X6_move_65 fu z0 q.2.1 q.2.2)
def cb_X6_move_55 (fu : Nat) (F : PF) (G : PG) : PR := (cf_X6_pop fu F G).bind (fun q => cb_X6_move_59 fu q.1 q.2.1 q.2.2)
def cb_X6_move_77 (fu : Nat) (z0 : Int32) (F : PF) (G : PG) : PR := cb_X6_move_168 fu F G
def cb_X6_move_73 (fu : Nat) (F : PF) (G : PG) : PR := (cf_X6_pop fu F G).bind (fun q => cb_X6_move_77 fu q.1 q.2.1 q.2.2)
def cb_X6_move_93 (fu : Nat) (F : PF) (G : PG) : PR := cb_X6_move_168 fu F G
def cb_X6_move_90 (fu : Nat) (z0 : Int32) (F : PF) (G : PG) : PR := (cf_X6_push fu z0 F G).bind (fun q => cb_X6_move_93 fu q.2.1 q.2.2)
def cb_X6_move_87 (fu : Nat) (z0 : Int32) (F : PF) (G : PG) : PR := (cf_X6_held fu z0 F G).bind (fun q => cb_X6_move_90 fu q.1 q.2.1 q.2.2)
def cb_X6_move_81 (fu : Nat) (F : PF) (G : PG) : PR := (cf_X6_next fu F G).bind (fun q => cb_X6_move_87 fu q.1 q.2.1 q.2.2)
def cb_X6_move_113 (fu : Nat) (F : PF) (G : PG) : PR := cb_X6_move_168 fu F G
def cb_X6_move_110 (fu : Nat) (z0 : Int32) (F : PF) (G : PG) : PR := (cf_X6_push fu z0 F G).bind (fun q => cb_X6_move_113 fu q.2.1 q.2.2)
def cb_X6_move_106 (fu : Nat) (z0 : Int32) (z1 : Int32) (F : PF) (G : PG) : PR := (cf_X6_held fu (z1 + z0) F G).bind (fun q => cb_X6_move_110 fu q.1 q.2.1 q.2.2)
def cb_X6_move_96 (fu : Nat) (F : PF) (G : PG) : PR := (cf_X6_next fu F G).bind (fun q => cb_X6_move_106 fu q.1 (F 58) q.2.1 q.2.2)
def cb_X6_move_128 (fu : Nat) (F : PF) (G : PG) : PR := cb_X6_move_168 fu F G
def cb_X6_move_125 (fu : Nat) (z0 : Int32) (z1 : Int32) (F : PF) (G : PG) : PR := (cf_X6_hold fu z1 z0 F G).bind (fun q => cb_X6_move_128 fu q.2.1 q.2.2)
def cb_X6_move_121 (fu : Nat) (z0 : Int32) (F : PF) (G : PG) : PR := (cf_X6_pop fu F G).bind (fun q => cb_X6_move_125 fu q.1 z0 q.2.1 q.2.2)
def cb_X6_move_116 (fu : Nat) (F : PF) (G : PG) : PR := (cf_X6_next fu F G).bind (fun q => cb_X6_move_121 fu q.1 q.2.1 q.2.2)
def cb_X6_move_148 (fu : Nat) (F : PF) (G : PG) : PR := cb_X6_move_168 fu F G
def cb_X6_move_145 (fu : Nat) (z0 : Int32) (z1 : Int32) (F : PF) (G : PG) : PR := (cf_X6_hold fu z1 z0 F G).bind (fun q => cb_X6_move_148 fu q.2.1 q.2.2)
def cb_X6_move_140 (fu : Nat) (z0 : Int32) (z1 : Int32) (F : PF) (G : PG) : PR := (cf_X6_pop fu F G).bind (fun q => cb_X6_move_145 fu q.1 (z1 + z0) q.2.1 q.2.2)
def cb_X6_move_131 (fu : Nat) (F : PF) (G : PG) : PR := (cf_X6_next fu F G).bind (fun q => cb_X6_move_140 fu q.1 (F 58) q.2.1 q.2.2)
def cb_X6_move_165 (fu : Nat) (z0 : Int32) (z1 : Int32) (F : PF) (G : PG) : PR := (cf_X6_clear fu z1 z0 F G).bind (fun q => cb_X6_move_168 fu q.2.1 q.2.2)
def cb_X6_move_160 (fu : Nat) (z0 : Int32) (z1 : Int32) (F : PF) (G : PG) : PR := (cf_X6_next fu F G).bind (fun q => cb_X6_move_165 fu q.1 (z1 + z0) q.2.1 q.2.2)
def cb_X6_move_151 (fu : Nat) (F : PF) (G : PG) : PR := (cf_X6_next fu F G).bind (fun q => cb_X6_move_160 fu q.1 (F 58) q.2.1 q.2.2)
def cb_X6_move_0 (fu : Nat) (x1 : Int32) (F : PF) (G : PG) : PR := if x1.toInt < 66 ∨ 72 < x1.toInt then cb_X6_move_151 fu F G else if x1 = 66 then cb_X6_move_44 fu F G else if x1 = 67 then cb_X6_move_55 fu F G else if x1 = 68 then cb_X6_move_73 fu F G else if x1 = 69 then cb_X6_move_81 fu F G else if x1 = 70 then cb_X6_move_96 fu F G else if x1 = 71 then cb_X6_move_116 fu F G else cb_X6_move_131 fu F G
def cf_X6_move (fu : Nat) (x1 : Int32) (F : PF) (G : PG) : PR := cb_X6_move_0 fu x1 F G
theorem cn_X6_move_168 (fu : Nat) {res : Int32 × PF × PG} (F : PF) (G : PG) (hm : cb_X6_move_168 fu F G = some res) : xn F ≤ xn res.2.1 := by
  unfold cb_X6_move_168 at hm
  obtain rfl := Option.some.inj hm
  exact Nat.le_refl _
theorem cw_X6_move_168 (fu : Nat) {res : Int32 × PF × PG} (C : cMC p R s m args c A v RX6 cX6_move 3 3 111 (xn res.2.1 - xn K0)) (hret : ∀ (b1 : Nat) (H1 : Heap) (locs1 : List Loc) (ls1 : Array Slot) (pc : Nat), cMW s A v a b1 K0 res.2.1 res.2.2 H1 locs1 → decode cX6_move pc = .ok (.return_, 1) → W p l e R s m args below meth c H1 locs1 (xn res.2.1 - xn K0) (2 * (xn res.2.1 - xn K0)) Q (F0 m pc ls1 [])) (F : PF) (G : PG) (hm : cb_X6_move_168 fu F G = some res) {b : Nat} {H : Heap} {locs : List Loc} (hw : cMW s A v a b K0 F G H locs) {ls : Array Slot} (hl : lv_has ls 3 []) : W p l e R s m args below meth c H locs (xn F - xn K0) (2 * (xn F - xn K0)) Q (F0 m 168 ls []) := by
  have hx := C.1
  have hb := C.2.1
  unfold cb_X6_move_168 at hm
  obtain rfl := Option.some.inj hm
  exact hret _ _ _ _ _ hw dX6_move_168
theorem cn_X6_move_52 (fu : Nat) {res : Int32 × PF × PG} (F : PF) (G : PG) (hm : cb_X6_move_52 fu F G = some res) : xn F ≤ xn res.2.1 := by
  unfold cb_X6_move_52 at hm
  exact (cn_X6_move_168 fu F G hm)
theorem cw_X6_move_52 (fu : Nat) {res : Int32 × PF × PG} (C : cMC p R s m args c A v RX6 cX6_move 3 3 111 (xn res.2.1 - xn K0)) (hret : ∀ (b1 : Nat) (H1 : Heap) (locs1 : List Loc) (ls1 : Array Slot) (pc : Nat), cMW s A v a b1 K0 res.2.1 res.2.2 H1 locs1 → decode cX6_move pc = .ok (.return_, 1) → W p l e R s m args below meth c H1 locs1 (xn res.2.1 - xn K0) (2 * (xn res.2.1 - xn K0)) Q (F0 m pc ls1 [])) (F : PF) (G : PG) (hm : cb_X6_move_52 fu F G = some res) {b : Nat} {H : Heap} {locs : List Loc} (hw : cMW s A v a b K0 F G H locs) {ls : Array Slot} (hl : lv_has ls 3 []) : W p l e R s m args below meth c H locs (xn F - xn K0) (2 * (xn F - xn K0)) Q (F0 m 52 ls []) := by
  have hx := C.1
  have hb := C.2.1
  unfold cb_X6_move_52 at hm
  refine lv_goto (tgt := 168) hx hb dX6_move_52 (by decide) ?_
  exact cw_X6_move_168 fu C hret F G hm hw (lv_sub hl [] rfl)
theorem cn_X6_move_49 (fu : Nat) {res : Int32 × PF × PG} (z0 : Int32) (F : PF) (G : PG) (hm : cb_X6_move_49 fu z0 F G = some res) : xn F ≤ xn res.2.1 := by
  unfold cb_X6_move_49 at hm
  obtain ⟨⟨r1, F1, G1⟩, hc, hm⟩ := bind_elim hm
  exact Nat.le_trans (cn_X6_push fu z0 F G _ hc) (cn_X6_move_52 fu F1 G1 hm)
theorem cw_X6_move_49 (fu : Nat) {res : Int32 × PF × PG} (C : cMC p R s m args c A v RX6 cX6_move 3 3 111 (xn res.2.1 - xn K0)) (hret : ∀ (b1 : Nat) (H1 : Heap) (locs1 : List Loc) (ls1 : Array Slot) (pc : Nat), cMW s A v a b1 K0 res.2.1 res.2.2 H1 locs1 → decode cX6_move pc = .ok (.return_, 1) → W p l e R s m args below meth c H1 locs1 (xn res.2.1 - xn K0) (2 * (xn res.2.1 - xn K0)) Q (F0 m pc ls1 [])) (z0 : Int32) (F : PF) (G : PG) (hm : cb_X6_move_49 fu z0 F G = some res) {b : Nat} {H : Heap} {locs : List Loc} (hw : cMW s A v a b K0 F G H locs) {ls : Array Slot} (hl : lv_has ls 3 []) : W p l e R s m args below meth c H locs (xn F - xn K0) (2 * (xn F - xn K0)) Q (F0 m 49 ls [.int z0, .ref (a 206)]) := by
  have hx := C.1
  have hb := C.2.1
  unfold cb_X6_move_49 at hm
  obtain ⟨⟨r1, F1, G1⟩, hc, hm⟩ := bind_elim hm
  refine ccallV (n := 1) (As := [.int z0]) (rest := []) C hw (ck_X6_push l v a _ _ fu z0 F G r1 F1 G1 hc) (cn_X6_push fu z0 F G _ hc) (Nat.sub_le_sub_right (cn_X6_move_52 fu F1 G1 hm) _) (crecv_X6 C hw) cm_533 cm_534 cm_535 cm_21 cm_536 (by decide +kernel) rfl (by omega) (by omega) hl.1 rfl (Nat.le_of_ble_eq_true rfl) dX6_move_49 (fun b H locs hw => ?_)
  exact cw_X6_move_52 fu C hret F1 G1 hm hw (lv_sub hl [] rfl)
theorem cn_X6_move_44 (fu : Nat) {res : Int32 × PF × PG} (F : PF) (G : PG) (hm : cb_X6_move_44 fu F G = some res) : xn F ≤ xn res.2.1 := by
  unfold cb_X6_move_44 at hm
  obtain ⟨⟨r1, F1, G1⟩, hc, hm⟩ := bind_elim hm
  exact Nat.le_trans (cn_X6_next fu F G _ hc) (cn_X6_move_49 fu r1 F1 G1 hm)
theorem cw_X6_move_44 (fu : Nat) {res : Int32 × PF × PG} (C : cMC p R s m args c A v RX6 cX6_move 3 3 111 (xn res.2.1 - xn K0)) (hret : ∀ (b1 : Nat) (H1 : Heap) (locs1 : List Loc) (ls1 : Array Slot) (pc : Nat), cMW s A v a b1 K0 res.2.1 res.2.2 H1 locs1 → decode cX6_move pc = .ok (.return_, 1) → W p l e R s m args below meth c H1 locs1 (xn res.2.1 - xn K0) (2 * (xn res.2.1 - xn K0)) Q (F0 m pc ls1 [])) (F : PF) (G : PG) (hm : cb_X6_move_44 fu F G = some res) {b : Nat} {H : Heap} {locs : List Loc} (hw : cMW s A v a b K0 F G H locs) {ls : Array Slot} (hl : lv_has ls 3 [(0, .ref (a 206))]) : W p l e R s m args below meth c H locs (xn F - xn K0) (2 * (xn F - xn K0)) Q (F0 m 44 ls []) := by
  have hx := C.1
  have hb := C.2.1
  unfold cb_X6_move_44 at hm
  refine lv_aload_n hx hb dX6_move_44 rfl (lv_at hl 0 rfl) ?_
  refine lv_aload_n hx hb dX6_move_45 rfl (lv_at hl 0 rfl) ?_
  obtain ⟨⟨r1, F1, G1⟩, hc, hm⟩ := bind_elim hm
  refine ccallI (n := 0) (As := []) (rest := [.ref (a 206)]) C hw (ck_X6_next l v a _ _ fu F G r1 F1 G1 hc) (cn_X6_next fu F G _ hc) (Nat.sub_le_sub_right (cn_X6_move_49 fu r1 F1 G1 hm) _) (crecv_X6 C hw) cm_529 cm_530 cm_531 cm_21 cm_532 (by decide +kernel) rfl (by omega) (by omega) hl.1 rfl (Nat.le_of_ble_eq_true rfl) dX6_move_46 (fun b H locs hw => ?_)
  exact cw_X6_move_49 fu C hret r1 F1 G1 hm hw (lv_sub hl [] rfl)
theorem cn_X6_move_70 (fu : Nat) {res : Int32 × PF × PG} (F : PF) (G : PG) (hm : cb_X6_move_70 fu F G = some res) : xn F ≤ xn res.2.1 := by
  unfold cb_X6_move_70 at hm
  exact (cn_X6_move_168 fu F G hm)
theorem cw_X6_move_70 (fu : Nat) {res : Int32 × PF × PG} (C : cMC p R s m args c A v RX6 cX6_move 3 3 111 (xn res.2.1 - xn K0)) (hret : ∀ (b1 : Nat) (H1 : Heap) (locs1 : List Loc) (ls1 : Array Slot) (pc : Nat), cMW s A v a b1 K0 res.2.1 res.2.2 H1 locs1 → decode cX6_move pc = .ok (.return_, 1) → W p l e R s m args below meth c H1 locs1 (xn res.2.1 - xn K0) (2 * (xn res.2.1 - xn K0)) Q (F0 m pc ls1 [])) (F : PF) (G : PG) (hm : cb_X6_move_70 fu F G = some res) {b : Nat} {H : Heap} {locs : List Loc} (hw : cMW s A v a b K0 F G H locs) {ls : Array Slot} (hl : lv_has ls 3 []) : W p l e R s m args below meth c H locs (xn F - xn K0) (2 * (xn F - xn K0)) Q (F0 m 70 ls []) := by
  have hx := C.1
  have hb := C.2.1
  unfold cb_X6_move_70 at hm
  refine lv_goto (tgt := 168) hx hb dX6_move_70 (by decide) ?_
  exact cw_X6_move_168 fu C hret F G hm hw (lv_sub hl [] rfl)
theorem cn_X6_move_65 (fu : Nat) {res : Int32 × PF × PG} (x2 : Int32) (F : PF) (G : PG) (hm : cb_X6_move_65 fu x2 F G = some res) : xn F ≤ xn res.2.1 := by
  unfold cb_X6_move_65 at hm
  obtain ⟨⟨r1, F1, G1⟩, hc, hm⟩ := bind_elim hm
  exact Nat.le_trans (cn_X6_push fu x2 F G _ hc) (cn_X6_move_70 fu F1 G1 hm)
theorem cw_X6_move_65 (fu : Nat) {res : Int32 × PF × PG} (C : cMC p R s m args c A v RX6 cX6_move 3 3 111 (xn res.2.1 - xn K0)) (hret : ∀ (b1 : Nat) (H1 : Heap) (locs1 : List Loc) (ls1 : Array Slot) (pc : Nat), cMW s A v a b1 K0 res.2.1 res.2.2 H1 locs1 → decode cX6_move pc = .ok (.return_, 1) → W p l e R s m args below meth c H1 locs1 (xn res.2.1 - xn K0) (2 * (xn res.2.1 - xn K0)) Q (F0 m pc ls1 [])) (x2 : Int32) (F : PF) (G : PG) (hm : cb_X6_move_65 fu x2 F G = some res) {b : Nat} {H : Heap} {locs : List Loc} (hw : cMW s A v a b K0 F G H locs) {ls : Array Slot} (hl : lv_has ls 3 [(0, .ref (a 206)), (2, .int x2)]) : W p l e R s m args below meth c H locs (xn F - xn K0) (2 * (xn F - xn K0)) Q (F0 m 65 ls []) := by
  have hx := C.1
  have hb := C.2.1
  unfold cb_X6_move_65 at hm
  refine lv_aload_n hx hb dX6_move_65 rfl (lv_at hl 0 rfl) ?_
  refine lv_iload_n hx hb dX6_move_66 rfl (lv_at hl 1 rfl) ?_
  obtain ⟨⟨r1, F1, G1⟩, hc, hm⟩ := bind_elim hm
  refine ccallV (n := 1) (As := [.int x2]) (rest := []) C hw (ck_X6_push l v a _ _ fu x2 F G r1 F1 G1 hc) (cn_X6_push fu x2 F G _ hc) (Nat.sub_le_sub_right (cn_X6_move_70 fu F1 G1 hm) _) (crecv_X6 C hw) cm_533 cm_534 cm_535 cm_21 cm_536 (by decide +kernel) rfl (by omega) (by omega) hl.1 rfl (Nat.le_of_ble_eq_true rfl) dX6_move_67 (fun b H locs hw => ?_)
  exact cw_X6_move_70 fu C hret F1 G1 hm hw (lv_sub hl [] rfl)
theorem cn_X6_move_59 (fu : Nat) {res : Int32 × PF × PG} (z0 : Int32) (F : PF) (G : PG) (hm : cb_X6_move_59 fu z0 F G = some res) : xn F ≤ xn res.2.1 := by
  unfold cb_X6_move_59 at hm
  obtain ⟨⟨r1, F1, G1⟩, hc, hm⟩ := bind_elim hm
  exact Nat.le_trans (cn_X6_push fu z0 F G _ hc) (cn_X6_move_65 fu z0 F1 G1 hm)
theorem cw_X6_move_59 (fu : Nat) {res : Int32 × PF × PG} (C : cMC p R s m args c A v RX6 cX6_move 3 3 111 (xn res.2.1 - xn K0)) (hret : ∀ (b1 : Nat) (H1 : Heap) (locs1 : List Loc) (ls1 : Array Slot) (pc : Nat), cMW s A v a b1 K0 res.2.1 res.2.2 H1 locs1 → decode cX6_move pc = .ok (.return_, 1) → W p l e R s m args below meth c H1 locs1 (xn res.2.1 - xn K0) (2 * (xn res.2.1 - xn K0)) Q (F0 m pc ls1 [])) (z0 : Int32) (F : PF) (G : PG) (hm : cb_X6_move_59 fu z0 F G = some res) {b : Nat} {H : Heap} {locs : List Loc} (hw : cMW s A v a b K0 F G H locs) {ls : Array Slot} (hl : lv_has ls 3 [(0, .ref (a 206))]) : W p l e R s m args below meth c H locs (xn F - xn K0) (2 * (xn F - xn K0)) Q (F0 m 59 ls [.int z0]) := by
  have hx := C.1
  have hb := C.2.1
  unfold cb_X6_move_59 at hm
  refine lv_istore_n (lv' := [(2, .int z0), (0, .ref (a 206))]) hx hb dX6_move_59 rfl hl (by decide) rfl (fun ls hl => ?_)
  refine lv_aload_n hx hb dX6_move_60 rfl (lv_at hl 1 rfl) ?_
  refine lv_iload_n hx hb dX6_move_61 rfl (lv_at hl 0 rfl) ?_
  obtain ⟨⟨r1, F1, G1⟩, hc, hm⟩ := bind_elim hm
  refine ccallV (n := 1) (As := [.int z0]) (rest := []) C hw (ck_X6_push l v a _ _ fu z0 F G r1 F1 G1 hc) (cn_X6_push fu z0 F G _ hc) (Nat.sub_le_sub_right (cn_X6_move_65 fu z0 F1 G1 hm) _) (crecv_X6 C hw) cm_533 cm_534 cm_535 cm_21 cm_536 (by decide +kernel) rfl (by omega) (by omega) hl.1 rfl (Nat.le_of_ble_eq_true rfl) dX6_move_62 (fun b H locs hw => ?_)
  exact cw_X6_move_65 fu C hret z0 F1 G1 hm hw (lv_sub hl [1, 0] rfl)
theorem cn_X6_move_55 (fu : Nat) {res : Int32 × PF × PG} (F : PF) (G : PG) (hm : cb_X6_move_55 fu F G = some res) : xn F ≤ xn res.2.1 := by
  unfold cb_X6_move_55 at hm
  obtain ⟨⟨r1, F1, G1⟩, hc, hm⟩ := bind_elim hm
  exact Nat.le_trans (cn_X6_pop fu F G _ hc) (cn_X6_move_59 fu r1 F1 G1 hm)
theorem cw_X6_move_55 (fu : Nat) {res : Int32 × PF × PG} (C : cMC p R s m args c A v RX6 cX6_move 3 3 111 (xn res.2.1 - xn K0)) (hret : ∀ (b1 : Nat) (H1 : Heap) (locs1 : List Loc) (ls1 : Array Slot) (pc : Nat), cMW s A v a b1 K0 res.2.1 res.2.2 H1 locs1 → decode cX6_move pc = .ok (.return_, 1) → W p l e R s m args below meth c H1 locs1 (xn res.2.1 - xn K0) (2 * (xn res.2.1 - xn K0)) Q (F0 m pc ls1 [])) (F : PF) (G : PG) (hm : cb_X6_move_55 fu F G = some res) {b : Nat} {H : Heap} {locs : List Loc} (hw : cMW s A v a b K0 F G H locs) {ls : Array Slot} (hl : lv_has ls 3 [(0, .ref (a 206))]) : W p l e R s m args below meth c H locs (xn F - xn K0) (2 * (xn F - xn K0)) Q (F0 m 55 ls []) := by
  have hx := C.1
  have hb := C.2.1
  unfold cb_X6_move_55 at hm
  refine lv_aload_n hx hb dX6_move_55 rfl (lv_at hl 0 rfl) ?_
  obtain ⟨⟨r1, F1, G1⟩, hc, hm⟩ := bind_elim hm
  refine ccallI (n := 0) (As := []) (rest := []) C hw (ck_X6_pop l v a _ _ fu F G r1 F1 G1 hc) (cn_X6_pop fu F G _ hc) (Nat.sub_le_sub_right (cn_X6_move_59 fu r1 F1 G1 hm) _) (crecv_X6 C hw) cm_558 cm_559 cm_560 cm_21 cm_561 (by decide +kernel) rfl (by omega) (by omega) hl.1 rfl (Nat.le_of_ble_eq_true rfl) dX6_move_56 (fun b H locs hw => ?_)
  exact cw_X6_move_59 fu C hret r1 F1 G1 hm hw (lv_sub hl [0] rfl)
theorem cn_X6_move_77 (fu : Nat) {res : Int32 × PF × PG} (z0 : Int32) (F : PF) (G : PG) (hm : cb_X6_move_77 fu z0 F G = some res) : xn F ≤ xn res.2.1 := by
  unfold cb_X6_move_77 at hm
  exact (cn_X6_move_168 fu F G hm)
theorem cw_X6_move_77 (fu : Nat) {res : Int32 × PF × PG} (C : cMC p R s m args c A v RX6 cX6_move 3 3 111 (xn res.2.1 - xn K0)) (hret : ∀ (b1 : Nat) (H1 : Heap) (locs1 : List Loc) (ls1 : Array Slot) (pc : Nat), cMW s A v a b1 K0 res.2.1 res.2.2 H1 locs1 → decode cX6_move pc = .ok (.return_, 1) → W p l e R s m args below meth c H1 locs1 (xn res.2.1 - xn K0) (2 * (xn res.2.1 - xn K0)) Q (F0 m pc ls1 [])) (z0 : Int32) (F : PF) (G : PG) (hm : cb_X6_move_77 fu z0 F G = some res) {b : Nat} {H : Heap} {locs : List Loc} (hw : cMW s A v a b K0 F G H locs) {ls : Array Slot} (hl : lv_has ls 3 []) : W p l e R s m args below meth c H locs (xn F - xn K0) (2 * (xn F - xn K0)) Q (F0 m 77 ls [.int z0]) := by
  have hx := C.1
  have hb := C.2.1
  unfold cb_X6_move_77 at hm
  refine lv_pop hx hb dX6_move_77 rfl ?_
  refine lv_goto (tgt := 168) hx hb dX6_move_78 (by decide) ?_
  exact cw_X6_move_168 fu C hret F G hm hw (lv_sub hl [] rfl)
theorem cn_X6_move_73 (fu : Nat) {res : Int32 × PF × PG} (F : PF) (G : PG) (hm : cb_X6_move_73 fu F G = some res) : xn F ≤ xn res.2.1 := by
  unfold cb_X6_move_73 at hm
  obtain ⟨⟨r1, F1, G1⟩, hc, hm⟩ := bind_elim hm
  exact Nat.le_trans (cn_X6_pop fu F G _ hc) (cn_X6_move_77 fu r1 F1 G1 hm)
theorem cw_X6_move_73 (fu : Nat) {res : Int32 × PF × PG} (C : cMC p R s m args c A v RX6 cX6_move 3 3 111 (xn res.2.1 - xn K0)) (hret : ∀ (b1 : Nat) (H1 : Heap) (locs1 : List Loc) (ls1 : Array Slot) (pc : Nat), cMW s A v a b1 K0 res.2.1 res.2.2 H1 locs1 → decode cX6_move pc = .ok (.return_, 1) → W p l e R s m args below meth c H1 locs1 (xn res.2.1 - xn K0) (2 * (xn res.2.1 - xn K0)) Q (F0 m pc ls1 [])) (F : PF) (G : PG) (hm : cb_X6_move_73 fu F G = some res) {b : Nat} {H : Heap} {locs : List Loc} (hw : cMW s A v a b K0 F G H locs) {ls : Array Slot} (hl : lv_has ls 3 [(0, .ref (a 206))]) : W p l e R s m args below meth c H locs (xn F - xn K0) (2 * (xn F - xn K0)) Q (F0 m 73 ls []) := by
  have hx := C.1
  have hb := C.2.1
  unfold cb_X6_move_73 at hm
  refine lv_aload_n hx hb dX6_move_73 rfl (lv_at hl 0 rfl) ?_
  obtain ⟨⟨r1, F1, G1⟩, hc, hm⟩ := bind_elim hm
  refine ccallI (n := 0) (As := []) (rest := []) C hw (ck_X6_pop l v a _ _ fu F G r1 F1 G1 hc) (cn_X6_pop fu F G _ hc) (Nat.sub_le_sub_right (cn_X6_move_77 fu r1 F1 G1 hm) _) (crecv_X6 C hw) cm_558 cm_559 cm_560 cm_21 cm_561 (by decide +kernel) rfl (by omega) (by omega) hl.1 rfl (Nat.le_of_ble_eq_true rfl) dX6_move_74 (fun b H locs hw => ?_)
  exact cw_X6_move_77 fu C hret r1 F1 G1 hm hw (lv_sub hl [] rfl)
theorem cn_X6_move_93 (fu : Nat) {res : Int32 × PF × PG} (F : PF) (G : PG) (hm : cb_X6_move_93 fu F G = some res) : xn F ≤ xn res.2.1 := by
  unfold cb_X6_move_93 at hm
  exact (cn_X6_move_168 fu F G hm)
theorem cw_X6_move_93 (fu : Nat) {res : Int32 × PF × PG} (C : cMC p R s m args c A v RX6 cX6_move 3 3 111 (xn res.2.1 - xn K0)) (hret : ∀ (b1 : Nat) (H1 : Heap) (locs1 : List Loc) (ls1 : Array Slot) (pc : Nat), cMW s A v a b1 K0 res.2.1 res.2.2 H1 locs1 → decode cX6_move pc = .ok (.return_, 1) → W p l e R s m args below meth c H1 locs1 (xn res.2.1 - xn K0) (2 * (xn res.2.1 - xn K0)) Q (F0 m pc ls1 [])) (F : PF) (G : PG) (hm : cb_X6_move_93 fu F G = some res) {b : Nat} {H : Heap} {locs : List Loc} (hw : cMW s A v a b K0 F G H locs) {ls : Array Slot} (hl : lv_has ls 3 []) : W p l e R s m args below meth c H locs (xn F - xn K0) (2 * (xn F - xn K0)) Q (F0 m 93 ls []) := by
  have hx := C.1
  have hb := C.2.1
  unfold cb_X6_move_93 at hm
  refine lv_goto (tgt := 168) hx hb dX6_move_93 (by decide) ?_
  exact cw_X6_move_168 fu C hret F G hm hw (lv_sub hl [] rfl)
theorem cn_X6_move_90 (fu : Nat) {res : Int32 × PF × PG} (z0 : Int32) (F : PF) (G : PG) (hm : cb_X6_move_90 fu z0 F G = some res) : xn F ≤ xn res.2.1 := by
  unfold cb_X6_move_90 at hm
  obtain ⟨⟨r1, F1, G1⟩, hc, hm⟩ := bind_elim hm
  exact Nat.le_trans (cn_X6_push fu z0 F G _ hc) (cn_X6_move_93 fu F1 G1 hm)
theorem cw_X6_move_90 (fu : Nat) {res : Int32 × PF × PG} (C : cMC p R s m args c A v RX6 cX6_move 3 3 111 (xn res.2.1 - xn K0)) (hret : ∀ (b1 : Nat) (H1 : Heap) (locs1 : List Loc) (ls1 : Array Slot) (pc : Nat), cMW s A v a b1 K0 res.2.1 res.2.2 H1 locs1 → decode cX6_move pc = .ok (.return_, 1) → W p l e R s m args below meth c H1 locs1 (xn res.2.1 - xn K0) (2 * (xn res.2.1 - xn K0)) Q (F0 m pc ls1 [])) (z0 : Int32) (F : PF) (G : PG) (hm : cb_X6_move_90 fu z0 F G = some res) {b : Nat} {H : Heap} {locs : List Loc} (hw : cMW s A v a b K0 F G H locs) {ls : Array Slot} (hl : lv_has ls 3 []) : W p l e R s m args below meth c H locs (xn F - xn K0) (2 * (xn F - xn K0)) Q (F0 m 90 ls [.int z0, .ref (a 206)]) := by
  have hx := C.1
  have hb := C.2.1
  unfold cb_X6_move_90 at hm
  obtain ⟨⟨r1, F1, G1⟩, hc, hm⟩ := bind_elim hm
  refine ccallV (n := 1) (As := [.int z0]) (rest := []) C hw (ck_X6_push l v a _ _ fu z0 F G r1 F1 G1 hc) (cn_X6_push fu z0 F G _ hc) (Nat.sub_le_sub_right (cn_X6_move_93 fu F1 G1 hm) _) (crecv_X6 C hw) cm_533 cm_534 cm_535 cm_21 cm_536 (by decide +kernel) rfl (by omega) (by omega) hl.1 rfl (Nat.le_of_ble_eq_true rfl) dX6_move_90 (fun b H locs hw => ?_)
  exact cw_X6_move_93 fu C hret F1 G1 hm hw (lv_sub hl [] rfl)
theorem cn_X6_move_87 (fu : Nat) {res : Int32 × PF × PG} (z0 : Int32) (F : PF) (G : PG) (hm : cb_X6_move_87 fu z0 F G = some res) : xn F ≤ xn res.2.1 := by
  unfold cb_X6_move_87 at hm
  obtain ⟨⟨r1, F1, G1⟩, hc, hm⟩ := bind_elim hm
  exact Nat.le_trans (cn_X6_held fu z0 F G _ hc) (cn_X6_move_90 fu r1 F1 G1 hm)
theorem cw_X6_move_87 (fu : Nat) {res : Int32 × PF × PG} (C : cMC p R s m args c A v RX6 cX6_move 3 3 111 (xn res.2.1 - xn K0)) (hret : ∀ (b1 : Nat) (H1 : Heap) (locs1 : List Loc) (ls1 : Array Slot) (pc : Nat), cMW s A v a b1 K0 res.2.1 res.2.2 H1 locs1 → decode cX6_move pc = .ok (.return_, 1) → W p l e R s m args below meth c H1 locs1 (xn res.2.1 - xn K0) (2 * (xn res.2.1 - xn K0)) Q (F0 m pc ls1 [])) (z0 : Int32) (F : PF) (G : PG) (hm : cb_X6_move_87 fu z0 F G = some res) {b : Nat} {H : Heap} {locs : List Loc} (hw : cMW s A v a b K0 F G H locs) {ls : Array Slot} (hl : lv_has ls 3 []) : W p l e R s m args below meth c H locs (xn F - xn K0) (2 * (xn F - xn K0)) Q (F0 m 87 ls [.int z0, .ref (a 206), .ref (a 206)]) := by
  have hx := C.1
  have hb := C.2.1
  unfold cb_X6_move_87 at hm
  obtain ⟨⟨r1, F1, G1⟩, hc, hm⟩ := bind_elim hm
  refine ccallI (n := 1) (As := [.int z0]) (rest := [.ref (a 206)]) C hw (ck_X6_held l v a _ _ fu z0 F G r1 F1 G1 hc) (cn_X6_held fu z0 F G _ hc) (Nat.sub_le_sub_right (cn_X6_move_90 fu r1 F1 G1 hm) _) (crecv_X6 C hw) cm_862 cm_863 cm_864 cm_21 cm_865 (by decide +kernel) rfl (by omega) (by omega) hl.1 rfl (Nat.le_of_ble_eq_true rfl) dX6_move_87 (fun b H locs hw => ?_)
  exact cw_X6_move_90 fu C hret r1 F1 G1 hm hw (lv_sub hl [] rfl)
theorem cn_X6_move_81 (fu : Nat) {res : Int32 × PF × PG} (F : PF) (G : PG) (hm : cb_X6_move_81 fu F G = some res) : xn F ≤ xn res.2.1 := by
  unfold cb_X6_move_81 at hm
  obtain ⟨⟨r1, F1, G1⟩, hc, hm⟩ := bind_elim hm
  exact Nat.le_trans (cn_X6_next fu F G _ hc) (cn_X6_move_87 fu r1 F1 G1 hm)
theorem cw_X6_move_81 (fu : Nat) {res : Int32 × PF × PG} (C : cMC p R s m args c A v RX6 cX6_move 3 3 111 (xn res.2.1 - xn K0)) (hret : ∀ (b1 : Nat) (H1 : Heap) (locs1 : List Loc) (ls1 : Array Slot) (pc : Nat), cMW s A v a b1 K0 res.2.1 res.2.2 H1 locs1 → decode cX6_move pc = .ok (.return_, 1) → W p l e R s m args below meth c H1 locs1 (xn res.2.1 - xn K0) (2 * (xn res.2.1 - xn K0)) Q (F0 m pc ls1 [])) (F : PF) (G : PG) (hm : cb_X6_move_81 fu F G = some res) {b : Nat} {H : Heap} {locs : List Loc} (hw : cMW s A v a b K0 F G H locs) {ls : Array Slot} (hl : lv_has ls 3 [(0, .ref (a 206))]) : W p l e R s m args below meth c H locs (xn F - xn K0) (2 * (xn F - xn K0)) Q (F0 m 81 ls []) := by
  have hx := C.1
  have hb := C.2.1
  unfold cb_X6_move_81 at hm
  refine lv_aload_n hx hb dX6_move_81 rfl (lv_at hl 0 rfl) ?_
  refine lv_aload_n hx hb dX6_move_82 rfl (lv_at hl 0 rfl) ?_
  refine lv_aload_n hx hb dX6_move_83 rfl (lv_at hl 0 rfl) ?_
  obtain ⟨⟨r1, F1, G1⟩, hc, hm⟩ := bind_elim hm
  refine ccallI (n := 0) (As := []) (rest := [.ref (a 206), .ref (a 206)]) C hw (ck_X6_next l v a _ _ fu F G r1 F1 G1 hc) (cn_X6_next fu F G _ hc) (Nat.sub_le_sub_right (cn_X6_move_87 fu r1 F1 G1 hm) _) (crecv_X6 C hw) cm_529 cm_530 cm_531 cm_21 cm_532 (by decide +kernel) rfl (by omega) (by omega) hl.1 rfl (Nat.le_of_ble_eq_true rfl) dX6_move_84 (fun b H locs hw => ?_)
  exact cw_X6_move_87 fu C hret r1 F1 G1 hm hw (lv_sub hl [] rfl)
theorem cn_X6_move_113 (fu : Nat) {res : Int32 × PF × PG} (F : PF) (G : PG) (hm : cb_X6_move_113 fu F G = some res) : xn F ≤ xn res.2.1 := by
  unfold cb_X6_move_113 at hm
  exact (cn_X6_move_168 fu F G hm)
theorem cw_X6_move_113 (fu : Nat) {res : Int32 × PF × PG} (C : cMC p R s m args c A v RX6 cX6_move 3 3 111 (xn res.2.1 - xn K0)) (hret : ∀ (b1 : Nat) (H1 : Heap) (locs1 : List Loc) (ls1 : Array Slot) (pc : Nat), cMW s A v a b1 K0 res.2.1 res.2.2 H1 locs1 → decode cX6_move pc = .ok (.return_, 1) → W p l e R s m args below meth c H1 locs1 (xn res.2.1 - xn K0) (2 * (xn res.2.1 - xn K0)) Q (F0 m pc ls1 [])) (F : PF) (G : PG) (hm : cb_X6_move_113 fu F G = some res) {b : Nat} {H : Heap} {locs : List Loc} (hw : cMW s A v a b K0 F G H locs) {ls : Array Slot} (hl : lv_has ls 3 []) : W p l e R s m args below meth c H locs (xn F - xn K0) (2 * (xn F - xn K0)) Q (F0 m 113 ls []) := by
  have hx := C.1
  have hb := C.2.1
  unfold cb_X6_move_113 at hm
  refine lv_goto (tgt := 168) hx hb dX6_move_113 (by decide) ?_
  exact cw_X6_move_168 fu C hret F G hm hw (lv_sub hl [] rfl)
theorem cn_X6_move_110 (fu : Nat) {res : Int32 × PF × PG} (z0 : Int32) (F : PF) (G : PG) (hm : cb_X6_move_110 fu z0 F G = some res) : xn F ≤ xn res.2.1 := by
  unfold cb_X6_move_110 at hm
  obtain ⟨⟨r1, F1, G1⟩, hc, hm⟩ := bind_elim hm
  exact Nat.le_trans (cn_X6_push fu z0 F G _ hc) (cn_X6_move_113 fu F1 G1 hm)
theorem cw_X6_move_110 (fu : Nat) {res : Int32 × PF × PG} (C : cMC p R s m args c A v RX6 cX6_move 3 3 111 (xn res.2.1 - xn K0)) (hret : ∀ (b1 : Nat) (H1 : Heap) (locs1 : List Loc) (ls1 : Array Slot) (pc : Nat), cMW s A v a b1 K0 res.2.1 res.2.2 H1 locs1 → decode cX6_move pc = .ok (.return_, 1) → W p l e R s m args below meth c H1 locs1 (xn res.2.1 - xn K0) (2 * (xn res.2.1 - xn K0)) Q (F0 m pc ls1 [])) (z0 : Int32) (F : PF) (G : PG) (hm : cb_X6_move_110 fu z0 F G = some res) {b : Nat} {H : Heap} {locs : List Loc} (hw : cMW s A v a b K0 F G H locs) {ls : Array Slot} (hl : lv_has ls 3 []) : W p l e R s m args below meth c H locs (xn F - xn K0) (2 * (xn F - xn K0)) Q (F0 m 110 ls [.int z0, .ref (a 206)]) := by
  have hx := C.1
  have hb := C.2.1
  unfold cb_X6_move_110 at hm
  obtain ⟨⟨r1, F1, G1⟩, hc, hm⟩ := bind_elim hm
  refine ccallV (n := 1) (As := [.int z0]) (rest := []) C hw (ck_X6_push l v a _ _ fu z0 F G r1 F1 G1 hc) (cn_X6_push fu z0 F G _ hc) (Nat.sub_le_sub_right (cn_X6_move_113 fu F1 G1 hm) _) (crecv_X6 C hw) cm_533 cm_534 cm_535 cm_21 cm_536 (by decide +kernel) rfl (by omega) (by omega) hl.1 rfl (Nat.le_of_ble_eq_true rfl) dX6_move_110 (fun b H locs hw => ?_)
  exact cw_X6_move_113 fu C hret F1 G1 hm hw (lv_sub hl [] rfl)
theorem cn_X6_move_106 (fu : Nat) {res : Int32 × PF × PG} (z0 : Int32) (z1 : Int32) (F : PF) (G : PG) (hm : cb_X6_move_106 fu z0 z1 F G = some res) : xn F ≤ xn res.2.1 := by
  unfold cb_X6_move_106 at hm
  obtain ⟨⟨r1, F1, G1⟩, hc, hm⟩ := bind_elim hm
  exact Nat.le_trans (cn_X6_held fu (z1 + z0) F G _ hc) (cn_X6_move_110 fu r1 F1 G1 hm)
theorem cw_X6_move_106 (fu : Nat) {res : Int32 × PF × PG} (C : cMC p R s m args c A v RX6 cX6_move 3 3 111 (xn res.2.1 - xn K0)) (hret : ∀ (b1 : Nat) (H1 : Heap) (locs1 : List Loc) (ls1 : Array Slot) (pc : Nat), cMW s A v a b1 K0 res.2.1 res.2.2 H1 locs1 → decode cX6_move pc = .ok (.return_, 1) → W p l e R s m args below meth c H1 locs1 (xn res.2.1 - xn K0) (2 * (xn res.2.1 - xn K0)) Q (F0 m pc ls1 [])) (z0 : Int32) (z1 : Int32) (F : PF) (G : PG) (hm : cb_X6_move_106 fu z0 z1 F G = some res) {b : Nat} {H : Heap} {locs : List Loc} (hw : cMW s A v a b K0 F G H locs) {ls : Array Slot} (hl : lv_has ls 3 []) : W p l e R s m args below meth c H locs (xn F - xn K0) (2 * (xn F - xn K0)) Q (F0 m 106 ls [.int z0, .int z1, .ref (a 206), .ref (a 206)]) := by
  have hx := C.1
  have hb := C.2.1
  unfold cb_X6_move_106 at hm
  refine lv_iadd hx hb dX6_move_106 ?_
  obtain ⟨⟨r1, F1, G1⟩, hc, hm⟩ := bind_elim hm
  refine ccallI (n := 1) (As := [.int (z1 + z0)]) (rest := [.ref (a 206)]) C hw (ck_X6_held l v a _ _ fu (z1 + z0) F G r1 F1 G1 hc) (cn_X6_held fu (z1 + z0) F G _ hc) (Nat.sub_le_sub_right (cn_X6_move_110 fu r1 F1 G1 hm) _) (crecv_X6 C hw) cm_862 cm_863 cm_864 cm_21 cm_865 (by decide +kernel) rfl (by omega) (by omega) hl.1 rfl (Nat.le_of_ble_eq_true rfl) dX6_move_107 (fun b H locs hw => ?_)
  exact cw_X6_move_110 fu C hret r1 F1 G1 hm hw (lv_sub hl [] rfl)
theorem cn_X6_move_96 (fu : Nat) {res : Int32 × PF × PG} (F : PF) (G : PG) (hm : cb_X6_move_96 fu F G = some res) : xn F ≤ xn res.2.1 := by
  unfold cb_X6_move_96 at hm
  obtain ⟨⟨r1, F1, G1⟩, hc, hm⟩ := bind_elim hm
  exact Nat.le_trans (cn_X6_next fu F G _ hc) (cn_X6_move_106 fu r1 (F 58) F1 G1 hm)
theorem cw_X6_move_96 (fu : Nat) {res : Int32 × PF × PG} (C : cMC p R s m args c A v RX6 cX6_move 3 3 111 (xn res.2.1 - xn K0)) (hret : ∀ (b1 : Nat) (H1 : Heap) (locs1 : List Loc) (ls1 : Array Slot) (pc : Nat), cMW s A v a b1 K0 res.2.1 res.2.2 H1 locs1 → decode cX6_move pc = .ok (.return_, 1) → W p l e R s m args below meth c H1 locs1 (xn res.2.1 - xn K0) (2 * (xn res.2.1 - xn K0)) Q (F0 m pc ls1 [])) (F : PF) (G : PG) (hm : cb_X6_move_96 fu F G = some res) {b : Nat} {H : Heap} {locs : List Loc} (hw : cMW s A v a b K0 F G H locs) {ls : Array Slot} (hl : lv_has ls 3 [(0, .ref (a 206))]) : W p l e R s m args below meth c H locs (xn F - xn K0) (2 * (xn F - xn K0)) Q (F0 m 96 ls []) := by
  have hx := C.1
  have hb := C.2.1
  unfold cb_X6_move_96 at hm
  refine lv_aload_n hx hb dX6_move_96 rfl (lv_at hl 0 rfl) ?_
  refine lv_aload_n hx hb dX6_move_97 rfl (lv_at hl 0 rfl) ?_
  refine lv_aload_n hx hb dX6_move_98 rfl (lv_at hl 0 rfl) ?_
  refine cg_X6_140 C hw dX6_move_99 ?_
  refine lv_aload_n hx hb dX6_move_102 rfl (lv_at hl 0 rfl) ?_
  obtain ⟨⟨r1, F1, G1⟩, hc, hm⟩ := bind_elim hm
  refine ccallI (n := 0) (As := []) (rest := [.int (F 58), .ref (a 206), .ref (a 206)]) C hw (ck_X6_next l v a _ _ fu F G r1 F1 G1 hc) (cn_X6_next fu F G _ hc) (Nat.sub_le_sub_right (cn_X6_move_106 fu r1 (F 58) F1 G1 hm) _) (crecv_X6 C hw) cm_529 cm_530 cm_531 cm_21 cm_532 (by decide +kernel) rfl (by omega) (by omega) hl.1 rfl (Nat.le_of_ble_eq_true rfl) dX6_move_103 (fun b H locs hw => ?_)
  exact cw_X6_move_106 fu C hret r1 (F 58) F1 G1 hm hw (lv_sub hl [] rfl)
theorem cn_X6_move_128 (fu : Nat) {res : Int32 × PF × PG} (F : PF) (G : PG) (hm : cb_X6_move_128 fu F G = some res) : xn F ≤ xn res.2.1 := by
  unfold cb_X6_move_128 at hm
  exact (cn_X6_move_168 fu F G hm)
theorem cw_X6_move_128 (fu : Nat) {res : Int32 × PF × PG} (C : cMC p R s m args c A v RX6 cX6_move 3 3 111 (xn res.2.1 - xn K0)) (hret : ∀ (b1 : Nat) (H1 : Heap) (locs1 : List Loc) (ls1 : Array Slot) (pc : Nat), cMW s A v a b1 K0 res.2.1 res.2.2 H1 locs1 → decode cX6_move pc = .ok (.return_, 1) → W p l e R s m args below meth c H1 locs1 (xn res.2.1 - xn K0) (2 * (xn res.2.1 - xn K0)) Q (F0 m pc ls1 [])) (F : PF) (G : PG) (hm : cb_X6_move_128 fu F G = some res) {b : Nat} {H : Heap} {locs : List Loc} (hw : cMW s A v a b K0 F G H locs) {ls : Array Slot} (hl : lv_has ls 3 []) : W p l e R s m args below meth c H locs (xn F - xn K0) (2 * (xn F - xn K0)) Q (F0 m 128 ls []) := by
  have hx := C.1
  have hb := C.2.1
  unfold cb_X6_move_128 at hm
  refine lv_goto (tgt := 168) hx hb dX6_move_128 (by decide) ?_
  exact cw_X6_move_168 fu C hret F G hm hw (lv_sub hl [] rfl)
theorem cn_X6_move_125 (fu : Nat) {res : Int32 × PF × PG} (z0 : Int32) (z1 : Int32) (F : PF) (G : PG) (hm : cb_X6_move_125 fu z0 z1 F G = some res) : xn F ≤ xn res.2.1 := by
  unfold cb_X6_move_125 at hm
  obtain ⟨⟨r1, F1, G1⟩, hc, hm⟩ := bind_elim hm
  exact Nat.le_trans (cn_X6_hold fu z1 z0 F G _ hc) (cn_X6_move_128 fu F1 G1 hm)
theorem cw_X6_move_125 (fu : Nat) {res : Int32 × PF × PG} (C : cMC p R s m args c A v RX6 cX6_move 3 3 111 (xn res.2.1 - xn K0)) (hret : ∀ (b1 : Nat) (H1 : Heap) (locs1 : List Loc) (ls1 : Array Slot) (pc : Nat), cMW s A v a b1 K0 res.2.1 res.2.2 H1 locs1 → decode cX6_move pc = .ok (.return_, 1) → W p l e R s m args below meth c H1 locs1 (xn res.2.1 - xn K0) (2 * (xn res.2.1 - xn K0)) Q (F0 m pc ls1 [])) (z0 : Int32) (z1 : Int32) (F : PF) (G : PG) (hm : cb_X6_move_125 fu z0 z1 F G = some res) {b : Nat} {H : Heap} {locs : List Loc} (hw : cMW s A v a b K0 F G H locs) {ls : Array Slot} (hl : lv_has ls 3 []) : W p l e R s m args below meth c H locs (xn F - xn K0) (2 * (xn F - xn K0)) Q (F0 m 125 ls [.int z0, .int z1, .ref (a 206)]) := by
  have hx := C.1
  have hb := C.2.1
  unfold cb_X6_move_125 at hm
  obtain ⟨⟨r1, F1, G1⟩, hc, hm⟩ := bind_elim hm
  refine ccallV (n := 2) (As := [.int z1, .int z0]) (rest := []) C hw (ck_X6_hold l v a _ _ fu z1 z0 F G r1 F1 G1 hc) (cn_X6_hold fu z1 z0 F G _ hc) (Nat.sub_le_sub_right (cn_X6_move_128 fu F1 G1 hm) _) (crecv_X6 C hw) cm_850 cm_851 cm_852 cm_21 cm_853 (by decide +kernel) rfl (by omega) (by omega) hl.1 rfl (Nat.le_of_ble_eq_true rfl) dX6_move_125 (fun b H locs hw => ?_)
  exact cw_X6_move_128 fu C hret F1 G1 hm hw (lv_sub hl [] rfl)
theorem cn_X6_move_121 (fu : Nat) {res : Int32 × PF × PG} (z0 : Int32) (F : PF) (G : PG) (hm : cb_X6_move_121 fu z0 F G = some res) : xn F ≤ xn res.2.1 := by
  unfold cb_X6_move_121 at hm
  obtain ⟨⟨r1, F1, G1⟩, hc, hm⟩ := bind_elim hm
  exact Nat.le_trans (cn_X6_pop fu F G _ hc) (cn_X6_move_125 fu r1 z0 F1 G1 hm)
theorem cw_X6_move_121 (fu : Nat) {res : Int32 × PF × PG} (C : cMC p R s m args c A v RX6 cX6_move 3 3 111 (xn res.2.1 - xn K0)) (hret : ∀ (b1 : Nat) (H1 : Heap) (locs1 : List Loc) (ls1 : Array Slot) (pc : Nat), cMW s A v a b1 K0 res.2.1 res.2.2 H1 locs1 → decode cX6_move pc = .ok (.return_, 1) → W p l e R s m args below meth c H1 locs1 (xn res.2.1 - xn K0) (2 * (xn res.2.1 - xn K0)) Q (F0 m pc ls1 [])) (z0 : Int32) (F : PF) (G : PG) (hm : cb_X6_move_121 fu z0 F G = some res) {b : Nat} {H : Heap} {locs : List Loc} (hw : cMW s A v a b K0 F G H locs) {ls : Array Slot} (hl : lv_has ls 3 [(0, .ref (a 206))]) : W p l e R s m args below meth c H locs (xn F - xn K0) (2 * (xn F - xn K0)) Q (F0 m 121 ls [.int z0, .ref (a 206)]) := by
  have hx := C.1
  have hb := C.2.1
  unfold cb_X6_move_121 at hm
  refine lv_aload_n hx hb dX6_move_121 rfl (lv_at hl 0 rfl) ?_
  obtain ⟨⟨r1, F1, G1⟩, hc, hm⟩ := bind_elim hm
  refine ccallI (n := 0) (As := []) (rest := [.int z0, .ref (a 206)]) C hw (ck_X6_pop l v a _ _ fu F G r1 F1 G1 hc) (cn_X6_pop fu F G _ hc) (Nat.sub_le_sub_right (cn_X6_move_125 fu r1 z0 F1 G1 hm) _) (crecv_X6 C hw) cm_558 cm_559 cm_560 cm_21 cm_561 (by decide +kernel) rfl (by omega) (by omega) hl.1 rfl (Nat.le_of_ble_eq_true rfl) dX6_move_122 (fun b H locs hw => ?_)
  exact cw_X6_move_125 fu C hret r1 z0 F1 G1 hm hw (lv_sub hl [] rfl)
theorem cn_X6_move_116 (fu : Nat) {res : Int32 × PF × PG} (F : PF) (G : PG) (hm : cb_X6_move_116 fu F G = some res) : xn F ≤ xn res.2.1 := by
  unfold cb_X6_move_116 at hm
  obtain ⟨⟨r1, F1, G1⟩, hc, hm⟩ := bind_elim hm
  exact Nat.le_trans (cn_X6_next fu F G _ hc) (cn_X6_move_121 fu r1 F1 G1 hm)
theorem cw_X6_move_116 (fu : Nat) {res : Int32 × PF × PG} (C : cMC p R s m args c A v RX6 cX6_move 3 3 111 (xn res.2.1 - xn K0)) (hret : ∀ (b1 : Nat) (H1 : Heap) (locs1 : List Loc) (ls1 : Array Slot) (pc : Nat), cMW s A v a b1 K0 res.2.1 res.2.2 H1 locs1 → decode cX6_move pc = .ok (.return_, 1) → W p l e R s m args below meth c H1 locs1 (xn res.2.1 - xn K0) (2 * (xn res.2.1 - xn K0)) Q (F0 m pc ls1 [])) (F : PF) (G : PG) (hm : cb_X6_move_116 fu F G = some res) {b : Nat} {H : Heap} {locs : List Loc} (hw : cMW s A v a b K0 F G H locs) {ls : Array Slot} (hl : lv_has ls 3 [(0, .ref (a 206))]) : W p l e R s m args below meth c H locs (xn F - xn K0) (2 * (xn F - xn K0)) Q (F0 m 116 ls []) := by
  have hx := C.1
  have hb := C.2.1
  unfold cb_X6_move_116 at hm
  refine lv_aload_n hx hb dX6_move_116 rfl (lv_at hl 0 rfl) ?_
  refine lv_aload_n hx hb dX6_move_117 rfl (lv_at hl 0 rfl) ?_
  obtain ⟨⟨r1, F1, G1⟩, hc, hm⟩ := bind_elim hm
  refine ccallI (n := 0) (As := []) (rest := [.ref (a 206)]) C hw (ck_X6_next l v a _ _ fu F G r1 F1 G1 hc) (cn_X6_next fu F G _ hc) (Nat.sub_le_sub_right (cn_X6_move_121 fu r1 F1 G1 hm) _) (crecv_X6 C hw) cm_529 cm_530 cm_531 cm_21 cm_532 (by decide +kernel) rfl (by omega) (by omega) hl.1 rfl (Nat.le_of_ble_eq_true rfl) dX6_move_118 (fun b H locs hw => ?_)
  exact cw_X6_move_121 fu C hret r1 F1 G1 hm hw (lv_sub hl [0] rfl)
theorem cn_X6_move_148 (fu : Nat) {res : Int32 × PF × PG} (F : PF) (G : PG) (hm : cb_X6_move_148 fu F G = some res) : xn F ≤ xn res.2.1 := by
  unfold cb_X6_move_148 at hm
  exact (cn_X6_move_168 fu F G hm)
theorem cw_X6_move_148 (fu : Nat) {res : Int32 × PF × PG} (C : cMC p R s m args c A v RX6 cX6_move 3 3 111 (xn res.2.1 - xn K0)) (hret : ∀ (b1 : Nat) (H1 : Heap) (locs1 : List Loc) (ls1 : Array Slot) (pc : Nat), cMW s A v a b1 K0 res.2.1 res.2.2 H1 locs1 → decode cX6_move pc = .ok (.return_, 1) → W p l e R s m args below meth c H1 locs1 (xn res.2.1 - xn K0) (2 * (xn res.2.1 - xn K0)) Q (F0 m pc ls1 [])) (F : PF) (G : PG) (hm : cb_X6_move_148 fu F G = some res) {b : Nat} {H : Heap} {locs : List Loc} (hw : cMW s A v a b K0 F G H locs) {ls : Array Slot} (hl : lv_has ls 3 []) : W p l e R s m args below meth c H locs (xn F - xn K0) (2 * (xn F - xn K0)) Q (F0 m 148 ls []) := by
  have hx := C.1
  have hb := C.2.1
  unfold cb_X6_move_148 at hm
  refine lv_goto (tgt := 168) hx hb dX6_move_148 (by decide) ?_
  exact cw_X6_move_168 fu C hret F G hm hw (lv_sub hl [] rfl)
theorem cn_X6_move_145 (fu : Nat) {res : Int32 × PF × PG} (z0 : Int32) (z1 : Int32) (F : PF) (G : PG) (hm : cb_X6_move_145 fu z0 z1 F G = some res) : xn F ≤ xn res.2.1 := by
  unfold cb_X6_move_145 at hm
  obtain ⟨⟨r1, F1, G1⟩, hc, hm⟩ := bind_elim hm
  exact Nat.le_trans (cn_X6_hold fu z1 z0 F G _ hc) (cn_X6_move_148 fu F1 G1 hm)
theorem cw_X6_move_145 (fu : Nat) {res : Int32 × PF × PG} (C : cMC p R s m args c A v RX6 cX6_move 3 3 111 (xn res.2.1 - xn K0)) (hret : ∀ (b1 : Nat) (H1 : Heap) (locs1 : List Loc) (ls1 : Array Slot) (pc : Nat), cMW s A v a b1 K0 res.2.1 res.2.2 H1 locs1 → decode cX6_move pc = .ok (.return_, 1) → W p l e R s m args below meth c H1 locs1 (xn res.2.1 - xn K0) (2 * (xn res.2.1 - xn K0)) Q (F0 m pc ls1 [])) (z0 : Int32) (z1 : Int32) (F : PF) (G : PG) (hm : cb_X6_move_145 fu z0 z1 F G = some res) {b : Nat} {H : Heap} {locs : List Loc} (hw : cMW s A v a b K0 F G H locs) {ls : Array Slot} (hl : lv_has ls 3 []) : W p l e R s m args below meth c H locs (xn F - xn K0) (2 * (xn F - xn K0)) Q (F0 m 145 ls [.int z0, .int z1, .ref (a 206)]) := by
  have hx := C.1
  have hb := C.2.1
  unfold cb_X6_move_145 at hm
  obtain ⟨⟨r1, F1, G1⟩, hc, hm⟩ := bind_elim hm
  refine ccallV (n := 2) (As := [.int z1, .int z0]) (rest := []) C hw (ck_X6_hold l v a _ _ fu z1 z0 F G r1 F1 G1 hc) (cn_X6_hold fu z1 z0 F G _ hc) (Nat.sub_le_sub_right (cn_X6_move_148 fu F1 G1 hm) _) (crecv_X6 C hw) cm_850 cm_851 cm_852 cm_21 cm_853 (by decide +kernel) rfl (by omega) (by omega) hl.1 rfl (Nat.le_of_ble_eq_true rfl) dX6_move_145 (fun b H locs hw => ?_)
  exact cw_X6_move_148 fu C hret F1 G1 hm hw (lv_sub hl [] rfl)
theorem cn_X6_move_140 (fu : Nat) {res : Int32 × PF × PG} (z0 : Int32) (z1 : Int32) (F : PF) (G : PG) (hm : cb_X6_move_140 fu z0 z1 F G = some res) : xn F ≤ xn res.2.1 := by
  unfold cb_X6_move_140 at hm
  obtain ⟨⟨r1, F1, G1⟩, hc, hm⟩ := bind_elim hm
  exact Nat.le_trans (cn_X6_pop fu F G _ hc) (cn_X6_move_145 fu r1 (z1 + z0) F1 G1 hm)
theorem cw_X6_move_140 (fu : Nat) {res : Int32 × PF × PG} (C : cMC p R s m args c A v RX6 cX6_move 3 3 111 (xn res.2.1 - xn K0)) (hret : ∀ (b1 : Nat) (H1 : Heap) (locs1 : List Loc) (ls1 : Array Slot) (pc : Nat), cMW s A v a b1 K0 res.2.1 res.2.2 H1 locs1 → decode cX6_move pc = .ok (.return_, 1) → W p l e R s m args below meth c H1 locs1 (xn res.2.1 - xn K0) (2 * (xn res.2.1 - xn K0)) Q (F0 m pc ls1 [])) (z0 : Int32) (z1 : Int32) (F : PF) (G : PG) (hm : cb_X6_move_140 fu z0 z1 F G = some res) {b : Nat} {H : Heap} {locs : List Loc} (hw : cMW s A v a b K0 F G H locs) {ls : Array Slot} (hl : lv_has ls 3 [(0, .ref (a 206))]) : W p l e R s m args below meth c H locs (xn F - xn K0) (2 * (xn F - xn K0)) Q (F0 m 140 ls [.int z0, .int z1, .ref (a 206)]) := by
  have hx := C.1
  have hb := C.2.1
  unfold cb_X6_move_140 at hm
  refine lv_iadd hx hb dX6_move_140 ?_
  refine lv_aload_n hx hb dX6_move_141 rfl (lv_at hl 0 rfl) ?_
  obtain ⟨⟨r1, F1, G1⟩, hc, hm⟩ := bind_elim hm
  refine ccallI (n := 0) (As := []) (rest := [.int (z1 + z0), .ref (a 206)]) C hw (ck_X6_pop l v a _ _ fu F G r1 F1 G1 hc) (cn_X6_pop fu F G _ hc) (Nat.sub_le_sub_right (cn_X6_move_145 fu r1 (z1 + z0) F1 G1 hm) _) (crecv_X6 C hw) cm_558 cm_559 cm_560 cm_21 cm_561 (by decide +kernel) rfl (by omega) (by omega) hl.1 rfl (Nat.le_of_ble_eq_true rfl) dX6_move_142 (fun b H locs hw => ?_)
  exact cw_X6_move_145 fu C hret r1 (z1 + z0) F1 G1 hm hw (lv_sub hl [] rfl)
theorem cn_X6_move_131 (fu : Nat) {res : Int32 × PF × PG} (F : PF) (G : PG) (hm : cb_X6_move_131 fu F G = some res) : xn F ≤ xn res.2.1 := by
  unfold cb_X6_move_131 at hm
  obtain ⟨⟨r1, F1, G1⟩, hc, hm⟩ := bind_elim hm
  exact Nat.le_trans (cn_X6_next fu F G _ hc) (cn_X6_move_140 fu r1 (F 58) F1 G1 hm)
theorem cw_X6_move_131 (fu : Nat) {res : Int32 × PF × PG} (C : cMC p R s m args c A v RX6 cX6_move 3 3 111 (xn res.2.1 - xn K0)) (hret : ∀ (b1 : Nat) (H1 : Heap) (locs1 : List Loc) (ls1 : Array Slot) (pc : Nat), cMW s A v a b1 K0 res.2.1 res.2.2 H1 locs1 → decode cX6_move pc = .ok (.return_, 1) → W p l e R s m args below meth c H1 locs1 (xn res.2.1 - xn K0) (2 * (xn res.2.1 - xn K0)) Q (F0 m pc ls1 [])) (F : PF) (G : PG) (hm : cb_X6_move_131 fu F G = some res) {b : Nat} {H : Heap} {locs : List Loc} (hw : cMW s A v a b K0 F G H locs) {ls : Array Slot} (hl : lv_has ls 3 [(0, .ref (a 206))]) : W p l e R s m args below meth c H locs (xn F - xn K0) (2 * (xn F - xn K0)) Q (F0 m 131 ls []) := by
  have hx := C.1
  have hb := C.2.1
  unfold cb_X6_move_131 at hm
  refine lv_aload_n hx hb dX6_move_131 rfl (lv_at hl 0 rfl) ?_
  refine lv_aload_n hx hb dX6_move_132 rfl (lv_at hl 0 rfl) ?_
  refine cg_X6_140 C hw dX6_move_133 ?_
  refine lv_aload_n hx hb dX6_move_136 rfl (lv_at hl 0 rfl) ?_
  obtain ⟨⟨r1, F1, G1⟩, hc, hm⟩ := bind_elim hm
  refine ccallI (n := 0) (As := []) (rest := [.int (F 58), .ref (a 206)]) C hw (ck_X6_next l v a _ _ fu F G r1 F1 G1 hc) (cn_X6_next fu F G _ hc) (Nat.sub_le_sub_right (cn_X6_move_140 fu r1 (F 58) F1 G1 hm) _) (crecv_X6 C hw) cm_529 cm_530 cm_531 cm_21 cm_532 (by decide +kernel) rfl (by omega) (by omega) hl.1 rfl (Nat.le_of_ble_eq_true rfl) dX6_move_137 (fun b H locs hw => ?_)
  exact cw_X6_move_140 fu C hret r1 (F 58) F1 G1 hm hw (lv_sub hl [0] rfl)
theorem cn_X6_move_165 (fu : Nat) {res : Int32 × PF × PG} (z0 : Int32) (z1 : Int32) (F : PF) (G : PG) (hm : cb_X6_move_165 fu z0 z1 F G = some res) : xn F ≤ xn res.2.1 := by
  unfold cb_X6_move_165 at hm
  obtain ⟨⟨r1, F1, G1⟩, hc, hm⟩ := bind_elim hm
  exact Nat.le_trans (cn_X6_clear fu z1 z0 F G _ hc) (cn_X6_move_168 fu F1 G1 hm)
theorem cw_X6_move_165 (fu : Nat) {res : Int32 × PF × PG} (C : cMC p R s m args c A v RX6 cX6_move 3 3 111 (xn res.2.1 - xn K0)) (hret : ∀ (b1 : Nat) (H1 : Heap) (locs1 : List Loc) (ls1 : Array Slot) (pc : Nat), cMW s A v a b1 K0 res.2.1 res.2.2 H1 locs1 → decode cX6_move pc = .ok (.return_, 1) → W p l e R s m args below meth c H1 locs1 (xn res.2.1 - xn K0) (2 * (xn res.2.1 - xn K0)) Q (F0 m pc ls1 [])) (z0 : Int32) (z1 : Int32) (F : PF) (G : PG) (hm : cb_X6_move_165 fu z0 z1 F G = some res) {b : Nat} {H : Heap} {locs : List Loc} (hw : cMW s A v a b K0 F G H locs) {ls : Array Slot} (hl : lv_has ls 3 []) : W p l e R s m args below meth c H locs (xn F - xn K0) (2 * (xn F - xn K0)) Q (F0 m 165 ls [.int z0, .int z1, .ref (a 206)]) := by
  have hx := C.1
  have hb := C.2.1
  unfold cb_X6_move_165 at hm
  obtain ⟨⟨r1, F1, G1⟩, hc, hm⟩ := bind_elim hm
  refine ccallV (n := 2) (As := [.int z1, .int z0]) (rest := []) C hw (ck_X6_clear l v a _ _ fu z1 z0 F G r1 F1 G1 hc) (cn_X6_clear fu z1 z0 F G _ hc) (Nat.sub_le_sub_right (cn_X6_move_168 fu F1 G1 hm) _) (crecv_X6 C hw) cm_866 cm_867 cm_868 cm_21 cm_869 (by decide +kernel) rfl (by omega) (by omega) hl.1 rfl (Nat.le_of_ble_eq_true rfl) dX6_move_165 (fun b H locs hw => ?_)
  exact cw_X6_move_168 fu C hret F1 G1 hm hw (lv_sub hl [] rfl)
theorem cn_X6_move_160 (fu : Nat) {res : Int32 × PF × PG} (z0 : Int32) (z1 : Int32) (F : PF) (G : PG) (hm : cb_X6_move_160 fu z0 z1 F G = some res) : xn F ≤ xn res.2.1 := by
  unfold cb_X6_move_160 at hm
  obtain ⟨⟨r1, F1, G1⟩, hc, hm⟩ := bind_elim hm
  exact Nat.le_trans (cn_X6_next fu F G _ hc) (cn_X6_move_165 fu r1 (z1 + z0) F1 G1 hm)
theorem cw_X6_move_160 (fu : Nat) {res : Int32 × PF × PG} (C : cMC p R s m args c A v RX6 cX6_move 3 3 111 (xn res.2.1 - xn K0)) (hret : ∀ (b1 : Nat) (H1 : Heap) (locs1 : List Loc) (ls1 : Array Slot) (pc : Nat), cMW s A v a b1 K0 res.2.1 res.2.2 H1 locs1 → decode cX6_move pc = .ok (.return_, 1) → W p l e R s m args below meth c H1 locs1 (xn res.2.1 - xn K0) (2 * (xn res.2.1 - xn K0)) Q (F0 m pc ls1 [])) (z0 : Int32) (z1 : Int32) (F : PF) (G : PG) (hm : cb_X6_move_160 fu z0 z1 F G = some res) {b : Nat} {H : Heap} {locs : List Loc} (hw : cMW s A v a b K0 F G H locs) {ls : Array Slot} (hl : lv_has ls 3 [(0, .ref (a 206))]) : W p l e R s m args below meth c H locs (xn F - xn K0) (2 * (xn F - xn K0)) Q (F0 m 160 ls [.int z0, .int z1, .ref (a 206)]) := by
  have hx := C.1
  have hb := C.2.1
  unfold cb_X6_move_160 at hm
  refine lv_iadd hx hb dX6_move_160 ?_
  refine lv_aload_n hx hb dX6_move_161 rfl (lv_at hl 0 rfl) ?_
  obtain ⟨⟨r1, F1, G1⟩, hc, hm⟩ := bind_elim hm
  refine ccallI (n := 0) (As := []) (rest := [.int (z1 + z0), .ref (a 206)]) C hw (ck_X6_next l v a _ _ fu F G r1 F1 G1 hc) (cn_X6_next fu F G _ hc) (Nat.sub_le_sub_right (cn_X6_move_165 fu r1 (z1 + z0) F1 G1 hm) _) (crecv_X6 C hw) cm_529 cm_530 cm_531 cm_21 cm_532 (by decide +kernel) rfl (by omega) (by omega) hl.1 rfl (Nat.le_of_ble_eq_true rfl) dX6_move_162 (fun b H locs hw => ?_)
  exact cw_X6_move_165 fu C hret r1 (z1 + z0) F1 G1 hm hw (lv_sub hl [] rfl)
theorem cn_X6_move_151 (fu : Nat) {res : Int32 × PF × PG} (F : PF) (G : PG) (hm : cb_X6_move_151 fu F G = some res) : xn F ≤ xn res.2.1 := by
  unfold cb_X6_move_151 at hm
  obtain ⟨⟨r1, F1, G1⟩, hc, hm⟩ := bind_elim hm
  exact Nat.le_trans (cn_X6_next fu F G _ hc) (cn_X6_move_160 fu r1 (F 58) F1 G1 hm)
theorem cw_X6_move_151 (fu : Nat) {res : Int32 × PF × PG} (C : cMC p R s m args c A v RX6 cX6_move 3 3 111 (xn res.2.1 - xn K0)) (hret : ∀ (b1 : Nat) (H1 : Heap) (locs1 : List Loc) (ls1 : Array Slot) (pc : Nat), cMW s A v a b1 K0 res.2.1 res.2.2 H1 locs1 → decode cX6_move pc = .ok (.return_, 1) → W p l e R s m args below meth c H1 locs1 (xn res.2.1 - xn K0) (2 * (xn res.2.1 - xn K0)) Q (F0 m pc ls1 [])) (F : PF) (G : PG) (hm : cb_X6_move_151 fu F G = some res) {b : Nat} {H : Heap} {locs : List Loc} (hw : cMW s A v a b K0 F G H locs) {ls : Array Slot} (hl : lv_has ls 3 [(0, .ref (a 206))]) : W p l e R s m args below meth c H locs (xn F - xn K0) (2 * (xn F - xn K0)) Q (F0 m 151 ls []) := by
  have hx := C.1
  have hb := C.2.1
  unfold cb_X6_move_151 at hm
  refine lv_aload_n hx hb dX6_move_151 rfl (lv_at hl 0 rfl) ?_
  refine lv_aload_n hx hb dX6_move_152 rfl (lv_at hl 0 rfl) ?_
  refine cg_X6_140 C hw dX6_move_153 ?_
  refine lv_aload_n hx hb dX6_move_156 rfl (lv_at hl 0 rfl) ?_
  obtain ⟨⟨r1, F1, G1⟩, hc, hm⟩ := bind_elim hm
  refine ccallI (n := 0) (As := []) (rest := [.int (F 58), .ref (a 206)]) C hw (ck_X6_next l v a _ _ fu F G r1 F1 G1 hc) (cn_X6_next fu F G _ hc) (Nat.sub_le_sub_right (cn_X6_move_160 fu r1 (F 58) F1 G1 hm) _) (crecv_X6 C hw) cm_529 cm_530 cm_531 cm_21 cm_532 (by decide +kernel) rfl (by omega) (by omega) hl.1 rfl (Nat.le_of_ble_eq_true rfl) dX6_move_157 (fun b H locs hw => ?_)
  exact cw_X6_move_160 fu C hret r1 (F 58) F1 G1 hm hw (lv_sub hl [0] rfl)
theorem cn_X6_move_0 (fu : Nat) {res : Int32 × PF × PG} (x1 : Int32) (F : PF) (G : PG) (hm : cb_X6_move_0 fu x1 F G = some res) : xn F ≤ xn res.2.1 := by
  unfold cb_X6_move_0 at hm
  by_cases c_0 : x1.toInt < 66 ∨ 72 < x1.toInt
  · have hm := (if_pos c_0).symm.trans hm
    exact (cn_X6_move_151 fu F G hm)
  have hm := (if_neg c_0).symm.trans hm
  by_cases c_1 : x1 = 66
  · have hm := (if_pos c_1).symm.trans hm
    exact (cn_X6_move_44 fu F G hm)
  have hm := (if_neg c_1).symm.trans hm
  clear c_1
  by_cases c_1 : x1 = 67
  · have hm := (if_pos c_1).symm.trans hm
    exact (cn_X6_move_55 fu F G hm)
  have hm := (if_neg c_1).symm.trans hm
  clear c_1
  by_cases c_1 : x1 = 68
  · have hm := (if_pos c_1).symm.trans hm
    exact (cn_X6_move_73 fu F G hm)
  have hm := (if_neg c_1).symm.trans hm
  clear c_1
  by_cases c_1 : x1 = 69
  · have hm := (if_pos c_1).symm.trans hm
    exact (cn_X6_move_81 fu F G hm)
  have hm := (if_neg c_1).symm.trans hm
  clear c_1
  by_cases c_1 : x1 = 70
  · have hm := (if_pos c_1).symm.trans hm
    exact (cn_X6_move_96 fu F G hm)
  have hm := (if_neg c_1).symm.trans hm
  clear c_1
  by_cases c_1 : x1 = 71
  · have hm := (if_pos c_1).symm.trans hm
    exact (cn_X6_move_116 fu F G hm)
  have hm := (if_neg c_1).symm.trans hm
  clear c_1
  exact (cn_X6_move_131 fu F G hm)
theorem cw_X6_move_0 (fu : Nat) {res : Int32 × PF × PG} (C : cMC p R s m args c A v RX6 cX6_move 3 3 111 (xn res.2.1 - xn K0)) (hret : ∀ (b1 : Nat) (H1 : Heap) (locs1 : List Loc) (ls1 : Array Slot) (pc : Nat), cMW s A v a b1 K0 res.2.1 res.2.2 H1 locs1 → decode cX6_move pc = .ok (.return_, 1) → W p l e R s m args below meth c H1 locs1 (xn res.2.1 - xn K0) (2 * (xn res.2.1 - xn K0)) Q (F0 m pc ls1 [])) (x1 : Int32) (F : PF) (G : PG) (hm : cb_X6_move_0 fu x1 F G = some res) {b : Nat} {H : Heap} {locs : List Loc} (hw : cMW s A v a b K0 F G H locs) {ls : Array Slot} (hl : lv_has ls 3 [(0, .ref (a 206)), (1, .int x1)]) : W p l e R s m args below meth c H locs (xn F - xn K0) (2 * (xn F - xn K0)) Q (F0 m 0 ls []) := by
  have hx := C.1
  have hb := C.2.1
  unfold cb_X6_move_0 at hm
  refine lv_iload_n hx hb dX6_move_0 rfl (lv_at hl 1 rfl) ?_
  by_cases c_0 : x1.toInt < 66 ∨ 72 < x1.toInt
  · have hm := (if_pos c_0).symm.trans hm
    refine lv_tableOut (tgt := 151) hx hb dX6_move_1 c_0 (by decide) ?_
    exact cw_X6_move_151 fu C hret F G hm hw (lv_sub hl [0] rfl)
  have hm := (if_neg c_0).symm.trans hm
  by_cases c_1 : x1 = 66
  · have hm := (if_pos c_1).symm.trans hm
    refine my_top 66 c_1 ?_
    refine lv_tableIn (off := 43) (tgt := 44) hx hb dX6_move_1 (by decide) (by decide) (by decide) (by decide) ?_
    exact cw_X6_move_44 fu C hret F G hm hw (lv_sub hl [0] rfl)
  have hm := (if_neg c_1).symm.trans hm
  have n_0 := c_1
  clear c_1
  by_cases c_1 : x1 = 67
  · have hm := (if_pos c_1).symm.trans hm
    refine my_top 67 c_1 ?_
    refine lv_tableIn (off := 54) (tgt := 55) hx hb dX6_move_1 (by decide) (by decide) (by decide) (by decide) ?_
    exact cw_X6_move_55 fu C hret F G hm hw (lv_sub hl [0] rfl)
  have hm := (if_neg c_1).symm.trans hm
  have n_1 := c_1
  clear c_1
  by_cases c_1 : x1 = 68
  · have hm := (if_pos c_1).symm.trans hm
    refine my_top 68 c_1 ?_
    refine lv_tableIn (off := 72) (tgt := 73) hx hb dX6_move_1 (by decide) (by decide) (by decide) (by decide) ?_
    exact cw_X6_move_73 fu C hret F G hm hw (lv_sub hl [0] rfl)
  have hm := (if_neg c_1).symm.trans hm
  have n_2 := c_1
  clear c_1
  by_cases c_1 : x1 = 69
  · have hm := (if_pos c_1).symm.trans hm
    refine my_top 69 c_1 ?_
    refine lv_tableIn (off := 80) (tgt := 81) hx hb dX6_move_1 (by decide) (by decide) (by decide) (by decide) ?_
    exact cw_X6_move_81 fu C hret F G hm hw (lv_sub hl [0] rfl)
  have hm := (if_neg c_1).symm.trans hm
  have n_3 := c_1
  clear c_1
  by_cases c_1 : x1 = 70
  · have hm := (if_pos c_1).symm.trans hm
    refine my_top 70 c_1 ?_
    refine lv_tableIn (off := 95) (tgt := 96) hx hb dX6_move_1 (by decide) (by decide) (by decide) (by decide) ?_
    exact cw_X6_move_96 fu C hret F G hm hw (lv_sub hl [0] rfl)
  have hm := (if_neg c_1).symm.trans hm
  have n_4 := c_1
  clear c_1
  by_cases c_1 : x1 = 71
  · have hm := (if_pos c_1).symm.trans hm
    refine my_top 71 c_1 ?_
    refine lv_tableIn (off := 115) (tgt := 116) hx hb dX6_move_1 (by decide) (by decide) (by decide) (by decide) ?_
    exact cw_X6_move_116 fu C hret F G hm hw (lv_sub hl [0] rfl)
  have hm := (if_neg c_1).symm.trans hm
  have n_5 := c_1
  clear c_1
  have c_1 : x1 = 72 := my_last (l := 66) (k := 6) c_0 (by decide) (fun j hj => match j, hj with | 0, _ => fun h9 => n_0 (Int32.toInt_inj.mp (h9.trans (by decide))) | 1, _ => fun h9 => n_1 (Int32.toInt_inj.mp (h9.trans (by decide))) | 2, _ => fun h9 => n_2 (Int32.toInt_inj.mp (h9.trans (by decide))) | 3, _ => fun h9 => n_3 (Int32.toInt_inj.mp (h9.trans (by decide))) | 4, _ => fun h9 => n_4 (Int32.toInt_inj.mp (h9.trans (by decide))) | 5, _ => fun h9 => n_5 (Int32.toInt_inj.mp (h9.trans (by decide))) | q + 6, h => absurd h (by omega)) (by decide)
  refine my_top 72 c_1 ?_
  refine lv_tableIn (off := 130) (tgt := 131) hx hb dX6_move_1 (by decide) (by decide) (by decide) (by decide) ?_
  exact cw_X6_move_131 fu C hret F G hm hw (lv_sub hl [0] rfl)
theorem cn_X6_move (fu : Nat) (x1 : Int32) (F : PF) (G : PG) (q : Int32 × PF × PG) (hm : cf_X6_move fu x1 F G = some q) : xn F ≤ xn q.2.1 := cn_X6_move_0 fu x1 F G hm
theorem ck_X6_move (l : Launch) (v : EV) (a : Nat → Nat) (b sz : Nat) (fu : Nat) (x1 : Int32) (F : PF) (G : PG) (r : Int32) (F1 : PF) (G1 : PG) (hm : cf_X6_move fu x1 F G = some (r, F1, G1)) : cMV l yX6_move cX6_move 3 3 111 v a b sz [.ref (a 206), .int x1] F G F1 G1 := cMV.of (by decide) (Nat.le_of_ble_eq_true rfl) (fun p e R s m args below meth c Q A H locs ls C hw hl hret => cw_X6_move_0 fu (res := (r, F1, G1)) C hret x1 F G hm hw hl)
def cb_X6_enters_134 (fu : Nat) (F : PF) (G : PG) : PR := some (1, F, G)
def cb_X6_enters_121 (fu : Nat) (x1 : Int32) (F : PF) (G : PG) : PR := if ixb x1 450 = true then (cb_X6_enters_134 fu (fup F 57 (G 80 x1.toNatClampNeg)) G) else none
def cb_X6_enters_111 (fu : Nat) (x1 : Int32) (x3 : Int32) (F : PF) (G : PG) : PR := cb_X6_enters_121 fu x1 (fup F 59 ((F 59) + x3)) G
def cb_X6_enters_103 (fu : Nat) (x1 : Int32) (x3 : Int32) (F : PF) (G : PG) : PR := cb_X6_enters_111 fu x1 x3 (fup F 58 (F 59)) G
def cb_X6_enters_97 (fu : Nat) (ag_75 : Int32 → Int32 → Int32 → PF → PG → PR) (x1 : Int32) (x3 : Int32) (x4 : Int32) (F : PF) (G : PG) : PR := ag_75 x1 x3 (x4 + (-1)) F G
def cb_X6_enters_94 (fu : Nat) (ag_75 : Int32 → Int32 → Int32 → PF → PG → PR) (x1 : Int32) (x3 : Int32) (x4 : Int32) (z0 : Int32) (z1 : Int32) (F : PF) (G : PG) : PR := (cf_X6_hold fu z1 z0 F G).bind (fun q => cb_X6_enters_97 fu ag_75 x1 x3 x4 q.2.1 q.2.2)
def cb_X6_enters_80 (fu : Nat) (ag_75 : Int32 → Int32 → Int32 → PF → PG → PR) (x1 : Int32) (x3 : Int32) (x4 : Int32) (F : PF) (G : PG) : PR := (cf_X6_pop fu F G).bind (fun q => cb_X6_enters_94 fu ag_75 x1 x3 x4 q.1 (((F 59) + (4 : Int32)) + x4) q.2.1 q.2.2)
def cb_X6_enters_75 (fu : Nat) (ag_75 : Int32 → Int32 → Int32 → PF → PG → PR) (x1 : Int32) (x3 : Int32) (x4 : Int32) (F : PF) (G : PG) : PR := if x4 < (0 : Int32) then cb_X6_enters_103 fu x1 x3 F G else cb_X6_enters_80 fu ag_75 x1 x3 x4 F G
def cl_X6_enters_75 (fu : Nat) : Nat → Int32 → Int32 → Int32 → PF → PG → PR
  | 0 => fun _ _ _ _ _ => none
  | n + 1 => fun x1 x3 x4 F G => cb_X6_enters_75 fu (cl_X6_enters_75 fu n) x1 x3 x4 F G
def cb_X6_enters_62 (fu : Nat) (x1 : Int32) (x3 : Int32) (F : PF) (G : PG) : PR := if ixb x1 450 = true then (cl_X6_enters_75 fu fu x1 x3 ((G 81 x1.toNatClampNeg) - (1 : Int32)) F G) else none
def cb_X6_enters_48 (fu : Nat) (x1 : Int32) (x3 : Int32) (F : PF) (G : PG) : PR := (cf_X6_hold fu ((F 59) + (1 : Int32)) (F 58) F G).bind (fun q => cb_X6_enters_62 fu x1 x3 q.2.1 q.2.2)
def cb_X6_enters_36 (fu : Nat) (x1 : Int32) (x3 : Int32) (F : PF) (G : PG) : PR := (cf_X6_hold fu (F 59) (F 57) F G).bind (fun q => cb_X6_enters_48 fu x1 x3 q.2.1 q.2.2)
def cb_X6_enters_34 (fu : Nat) (F : PF) (G : PG) : PR := some (0, F, G)
def cb_X6_enters_28 (fu : Nat) (F : PF) (G : PG) : PR := (cf_X6_over fu 6 F G).bind (fun q => cb_X6_enters_34 fu q.2.1 q.2.2)
def cb_X6_enters_23 (fu : Nat) (x2 : Int32) (F : PF) (G : PG) : PR := cb_X6_enters_28 fu (fup F 66 x2) G
def cb_X6_enters_14 (fu : Nat) (x1 : Int32) (x2 : Int32) (x3 : Int32) (z0 : Int32) (F : PF) (G : PG) : PR := if (z0 + x3) ≤ (F 67) then cb_X6_enters_36 fu x1 x3 F G else cb_X6_enters_23 fu x2 F G
def cb_X6_enters_0 (fu : Nat) (x1 : Int32) (x2 : Int32) (F : PF) (G : PG) : PR := if ixb x1 450 = true then ((cf_X6_depth fu F G).bind (fun q => cb_X6_enters_14 fu x1 x2 (G 79 x1.toNatClampNeg) q.1 q.2.1 q.2.2)) else none
def cf_X6_enters (fu : Nat) (x1 : Int32) (x2 : Int32) (F : PF) (G : PG) : PR := cb_X6_enters_0 fu x1 x2 F G
theorem cn_X6_enters_134 (fu : Nat) {res : Int32 × PF × PG} (F : PF) (G : PG) (hm : cb_X6_enters_134 fu F G = some res) : xn F ≤ xn res.2.1 := by
  unfold cb_X6_enters_134 at hm
  obtain rfl := Option.some.inj hm
  exact Nat.le_refl _
theorem cw_X6_enters_134 (fu : Nat) {res : Int32 × PF × PG} (C : cMC p R s m args c A v RX6 cX6_enters 5 1 22 (xn res.2.1 - xn K0)) (hret : ∀ (b1 : Nat) (H1 : Heap) (locs1 : List Loc) (ls1 : Array Slot) (pc : Nat), cMW s A v a b1 K0 res.2.1 res.2.2 H1 locs1 → narrow .boolean (.int res.1) = .int res.1 → decode cX6_enters pc = .ok (.ireturn, 1) → W p l e R s m args below meth c H1 locs1 (xn res.2.1 - xn K0) (2 * (xn res.2.1 - xn K0)) Q (F0 m pc ls1 [.int res.1])) (F : PF) (G : PG) (hm : cb_X6_enters_134 fu F G = some res) {b : Nat} {H : Heap} {locs : List Loc} (hw : cMW s A v a b K0 F G H locs) {ls : Array Slot} (hl : lv_has ls 5 []) : W p l e R s m args below meth c H locs (xn F - xn K0) (2 * (xn F - xn K0)) Q (F0 m 134 ls []) := by
  have hx := C.1
  have hb := C.2.1
  unfold cb_X6_enters_134 at hm
  refine lv_iconst (v := 1) hx hb dX6_enters_134 (by decide) ?_
  obtain rfl := Option.some.inj hm
  exact hret _ _ _ _ _ hw (b01_nar (v := 1) (Or.inr rfl)) dX6_enters_135
theorem cn_X6_enters_121 (fu : Nat) {res : Int32 × PF × PG} (x1 : Int32) (F : PF) (G : PG) (hm : cb_X6_enters_121 fu x1 F G = some res) : xn F ≤ xn res.2.1 := by
  unfold cb_X6_enters_121 at hm
  have hm := (ix_elim hm).2
  exact Nat.le_trans (Nat.le_of_eq (xn_fup (by decide)).symm) (cn_X6_enters_134 fu (fup F 57 (G 80 x1.toNatClampNeg)) G hm)
theorem cw_X6_enters_121 (fu : Nat) {res : Int32 × PF × PG} (C : cMC p R s m args c A v RX6 cX6_enters 5 1 22 (xn res.2.1 - xn K0)) (hret : ∀ (b1 : Nat) (H1 : Heap) (locs1 : List Loc) (ls1 : Array Slot) (pc : Nat), cMW s A v a b1 K0 res.2.1 res.2.2 H1 locs1 → narrow .boolean (.int res.1) = .int res.1 → decode cX6_enters pc = .ok (.ireturn, 1) → W p l e R s m args below meth c H1 locs1 (xn res.2.1 - xn K0) (2 * (xn res.2.1 - xn K0)) Q (F0 m pc ls1 [.int res.1])) (x1 : Int32) (F : PF) (G : PG) (hm : cb_X6_enters_121 fu x1 F G = some res) {b : Nat} {H : Heap} {locs : List Loc} (hw : cMW s A v a b K0 F G H locs) {ls : Array Slot} (hl : lv_has ls 5 [(0, .ref (a 206)), (1, .int x1)]) : W p l e R s m args below meth c H locs (xn F - xn K0) (2 * (xn F - xn K0)) Q (F0 m 121 ls []) := by
  have hx := C.1
  have hb := C.2.1
  unfold cb_X6_enters_121 at hm
  refine lv_aload_n hx hb dX6_enters_121 rfl (lv_at hl 0 rfl) ?_
  refine lv_aload_n hx hb dX6_enters_122 rfl (lv_at hl 0 rfl) ?_
  refine cg_X6_22 C hw dX6_enters_123 ?_
  refine cg_X6_146 C hw dX6_enters_126 ?_
  refine lv_iload_n hx hb dX6_enters_129 rfl (lv_at hl 1 rfl) ?_
  obtain ⟨hi, hm⟩ := ix_elim hm
  refine cal_80 C hw hi dX6_enters_130 ?_
  refine cp_X6_70 C hw dX6_enters_131 (fun H locs hw => ?_)
  exact cw_X6_enters_134 fu C hret (fup F 57 (G 80 x1.toNatClampNeg)) G hm hw (lv_sub hl [] rfl)
theorem cn_X6_enters_111 (fu : Nat) {res : Int32 × PF × PG} (x1 : Int32) (x3 : Int32) (F : PF) (G : PG) (hm : cb_X6_enters_111 fu x1 x3 F G = some res) : xn F ≤ xn res.2.1 := by
  unfold cb_X6_enters_111 at hm
  exact Nat.le_trans (Nat.le_of_eq (xn_fup (by decide)).symm) (cn_X6_enters_121 fu x1 (fup F 59 ((F 59) + x3)) G hm)
theorem cw_X6_enters_111 (fu : Nat) {res : Int32 × PF × PG} (C : cMC p R s m args c A v RX6 cX6_enters 5 1 22 (xn res.2.1 - xn K0)) (hret : ∀ (b1 : Nat) (H1 : Heap) (locs1 : List Loc) (ls1 : Array Slot) (pc : Nat), cMW s A v a b1 K0 res.2.1 res.2.2 H1 locs1 → narrow .boolean (.int res.1) = .int res.1 → decode cX6_enters pc = .ok (.ireturn, 1) → W p l e R s m args below meth c H1 locs1 (xn res.2.1 - xn K0) (2 * (xn res.2.1 - xn K0)) Q (F0 m pc ls1 [.int res.1])) (x1 : Int32) (x3 : Int32) (F : PF) (G : PG) (hm : cb_X6_enters_111 fu x1 x3 F G = some res) {b : Nat} {H : Heap} {locs : List Loc} (hw : cMW s A v a b K0 F G H locs) {ls : Array Slot} (hl : lv_has ls 5 [(0, .ref (a 206)), (1, .int x1), (3, .int x3)]) : W p l e R s m args below meth c H locs (xn F - xn K0) (2 * (xn F - xn K0)) Q (F0 m 111 ls []) := by
  have hx := C.1
  have hb := C.2.1
  unfold cb_X6_enters_111 at hm
  refine lv_aload_n hx hb dX6_enters_111 rfl (lv_at hl 0 rfl) ?_
  refine lv_dup hx hb dX6_enters_112 rfl ?_
  refine cg_X6_34 C hw dX6_enters_113 ?_
  refine lv_iload_n hx hb dX6_enters_116 rfl (lv_at hl 2 rfl) ?_
  refine lv_iadd hx hb dX6_enters_117 ?_
  refine cp_X6_34 C hw dX6_enters_118 (fun H locs hw => ?_)
  exact cw_X6_enters_121 fu C hret x1 (fup F 59 ((F 59) + x3)) G hm hw (lv_sub hl [0, 1] rfl)
theorem cn_X6_enters_103 (fu : Nat) {res : Int32 × PF × PG} (x1 : Int32) (x3 : Int32) (F : PF) (G : PG) (hm : cb_X6_enters_103 fu x1 x3 F G = some res) : xn F ≤ xn res.2.1 := by
  unfold cb_X6_enters_103 at hm
  exact Nat.le_trans (Nat.le_of_eq (xn_fup (by decide)).symm) (cn_X6_enters_111 fu x1 x3 (fup F 58 (F 59)) G hm)
theorem cw_X6_enters_103 (fu : Nat) {res : Int32 × PF × PG} (C : cMC p R s m args c A v RX6 cX6_enters 5 1 22 (xn res.2.1 - xn K0)) (hret : ∀ (b1 : Nat) (H1 : Heap) (locs1 : List Loc) (ls1 : Array Slot) (pc : Nat), cMW s A v a b1 K0 res.2.1 res.2.2 H1 locs1 → narrow .boolean (.int res.1) = .int res.1 → decode cX6_enters pc = .ok (.ireturn, 1) → W p l e R s m args below meth c H1 locs1 (xn res.2.1 - xn K0) (2 * (xn res.2.1 - xn K0)) Q (F0 m pc ls1 [.int res.1])) (x1 : Int32) (x3 : Int32) (F : PF) (G : PG) (hm : cb_X6_enters_103 fu x1 x3 F G = some res) {b : Nat} {H : Heap} {locs : List Loc} (hw : cMW s A v a b K0 F G H locs) {ls : Array Slot} (hl : lv_has ls 5 [(0, .ref (a 206)), (1, .int x1), (3, .int x3)]) : W p l e R s m args below meth c H locs (xn F - xn K0) (2 * (xn F - xn K0)) Q (F0 m 103 ls []) := by
  have hx := C.1
  have hb := C.2.1
  unfold cb_X6_enters_103 at hm
  refine lv_aload_n hx hb dX6_enters_103 rfl (lv_at hl 0 rfl) ?_
  refine lv_aload_n hx hb dX6_enters_104 rfl (lv_at hl 0 rfl) ?_
  refine cg_X6_34 C hw dX6_enters_105 ?_
  refine cp_X6_140 C hw dX6_enters_108 (fun H locs hw => ?_)
  exact cw_X6_enters_111 fu C hret x1 x3 (fup F 58 (F 59)) G hm hw (lv_sub hl [0, 1, 2] rfl)
theorem cn_X6_enters_97 (fu : Nat) {res : Int32 × PF × PG} (ag_75 : Int32 → Int32 → Int32 → PF → PG → PR) (hagn_75 : ∀ (x1 : Int32) (x3 : Int32) (x4 : Int32) (F : PF) (G : PG), ag_75 x1 x3 x4 F G = some res → xn F ≤ xn res.2.1) (x1 : Int32) (x3 : Int32) (x4 : Int32) (F : PF) (G : PG) (hm : cb_X6_enters_97 fu ag_75 x1 x3 x4 F G = some res) : xn F ≤ xn res.2.1 := by
  unfold cb_X6_enters_97 at hm
  exact (hagn_75 x1 x3 (x4 + (-1)) F G hm)
theorem cw_X6_enters_97 (fu : Nat) {res : Int32 × PF × PG} (C : cMC p R s m args c A v RX6 cX6_enters 5 1 22 (xn res.2.1 - xn K0)) (hret : ∀ (b1 : Nat) (H1 : Heap) (locs1 : List Loc) (ls1 : Array Slot) (pc : Nat), cMW s A v a b1 K0 res.2.1 res.2.2 H1 locs1 → narrow .boolean (.int res.1) = .int res.1 → decode cX6_enters pc = .ok (.ireturn, 1) → W p l e R s m args below meth c H1 locs1 (xn res.2.1 - xn K0) (2 * (xn res.2.1 - xn K0)) Q (F0 m pc ls1 [.int res.1])) (ag_75 : Int32 → Int32 → Int32 → PF → PG → PR) (hag_75 : ∀ (x1 : Int32) (x3 : Int32) (x4 : Int32) (F : PF) (G : PG), ag_75 x1 x3 x4 F G = some res → ∀ (b : Nat) (H : Heap) (locs : List Loc) (ls : Array Slot), cMW s A v a b K0 F G H locs → lv_has ls 5 [(0, .ref (a 206)), (1, .int x1), (3, .int x3), (4, .int x4)] → W p l e R s m args below meth c H locs (xn F - xn K0) (2 * (xn F - xn K0)) Q (F0 m 75 ls [])) (hagn_75 : ∀ (x1 : Int32) (x3 : Int32) (x4 : Int32) (F : PF) (G : PG), ag_75 x1 x3 x4 F G = some res → xn F ≤ xn res.2.1) (x1 : Int32) (x3 : Int32) (x4 : Int32) (F : PF) (G : PG) (hm : cb_X6_enters_97 fu ag_75 x1 x3 x4 F G = some res) {b : Nat} {H : Heap} {locs : List Loc} (hw : cMW s A v a b K0 F G H locs) {ls : Array Slot} (hl : lv_has ls 5 [(0, .ref (a 206)), (1, .int x1), (3, .int x3), (4, .int x4)]) : W p l e R s m args below meth c H locs (xn F - xn K0) (2 * (xn F - xn K0)) Q (F0 m 97 ls []) := by
  have hx := C.1
  have hb := C.2.1
  unfold cb_X6_enters_97 at hm
  refine lv_iinc (v := (x4 + (-1))) (lv' := [(4, .int (x4 + (-1))), (0, .ref (a 206)), (1, .int x1), (3, .int x3)]) hx hb dX6_enters_97 hl (k := 3) rfl (by rfl) (by decide) rfl (fun ls hl => ?_)
  refine lv_goto (tgt := 75) hx hb dX6_enters_100 (by decide) ?_
  exact hag_75 x1 x3 (x4 + (-1)) F G hm _ _ _ _ hw (lv_sub hl [1, 2, 3, 0] rfl)
theorem cn_X6_enters_94 (fu : Nat) {res : Int32 × PF × PG} (ag_75 : Int32 → Int32 → Int32 → PF → PG → PR) (hagn_75 : ∀ (x1 : Int32) (x3 : Int32) (x4 : Int32) (F : PF) (G : PG), ag_75 x1 x3 x4 F G = some res → xn F ≤ xn res.2.1) (x1 : Int32) (x3 : Int32) (x4 : Int32) (z0 : Int32) (z1 : Int32) (F : PF) (G : PG) (hm : cb_X6_enters_94 fu ag_75 x1 x3 x4 z0 z1 F G = some res) : xn F ≤ xn res.2.1 := by
  unfold cb_X6_enters_94 at hm
  obtain ⟨⟨r1, F1, G1⟩, hc, hm⟩ := bind_elim hm
  exact Nat.le_trans (cn_X6_hold fu z1 z0 F G _ hc) (cn_X6_enters_97 fu ag_75 hagn_75 x1 x3 x4 F1 G1 hm)
theorem cw_X6_enters_94 (fu : Nat) {res : Int32 × PF × PG} (C : cMC p R s m args c A v RX6 cX6_enters 5 1 22 (xn res.2.1 - xn K0)) (hret : ∀ (b1 : Nat) (H1 : Heap) (locs1 : List Loc) (ls1 : Array Slot) (pc : Nat), cMW s A v a b1 K0 res.2.1 res.2.2 H1 locs1 → narrow .boolean (.int res.1) = .int res.1 → decode cX6_enters pc = .ok (.ireturn, 1) → W p l e R s m args below meth c H1 locs1 (xn res.2.1 - xn K0) (2 * (xn res.2.1 - xn K0)) Q (F0 m pc ls1 [.int res.1])) (ag_75 : Int32 → Int32 → Int32 → PF → PG → PR) (hag_75 : ∀ (x1 : Int32) (x3 : Int32) (x4 : Int32) (F : PF) (G : PG), ag_75 x1 x3 x4 F G = some res → ∀ (b : Nat) (H : Heap) (locs : List Loc) (ls : Array Slot), cMW s A v a b K0 F G H locs → lv_has ls 5 [(0, .ref (a 206)), (1, .int x1), (3, .int x3), (4, .int x4)] → W p l e R s m args below meth c H locs (xn F - xn K0) (2 * (xn F - xn K0)) Q (F0 m 75 ls [])) (hagn_75 : ∀ (x1 : Int32) (x3 : Int32) (x4 : Int32) (F : PF) (G : PG), ag_75 x1 x3 x4 F G = some res → xn F ≤ xn res.2.1) (x1 : Int32) (x3 : Int32) (x4 : Int32) (z0 : Int32) (z1 : Int32) (F : PF) (G : PG) (hm : cb_X6_enters_94 fu ag_75 x1 x3 x4 z0 z1 F G = some res) {b : Nat} {H : Heap} {locs : List Loc} (hw : cMW s A v a b K0 F G H locs) {ls : Array Slot} (hl : lv_has ls 5 [(0, .ref (a 206)), (1, .int x1), (3, .int x3), (4, .int x4)]) : W p l e R s m args below meth c H locs (xn F - xn K0) (2 * (xn F - xn K0)) Q (F0 m 94 ls [.int z0, .int z1, .ref (a 206)]) := by
  have hx := C.1
  have hb := C.2.1
  unfold cb_X6_enters_94 at hm
  obtain ⟨⟨r1, F1, G1⟩, hc, hm⟩ := bind_elim hm
  refine ccallV (n := 2) (As := [.int z1, .int z0]) (rest := []) C hw (ck_X6_hold l v a _ _ fu z1 z0 F G r1 F1 G1 hc) (cn_X6_hold fu z1 z0 F G _ hc) (Nat.sub_le_sub_right (cn_X6_enters_97 fu ag_75 hagn_75 x1 x3 x4 F1 G1 hm) _) (crecv_X6 C hw) cm_850 cm_851 cm_852 cm_21 cm_853 (by decide +kernel) rfl (by omega) (by omega) hl.1 rfl (Nat.le_of_ble_eq_true rfl) dX6_enters_94 (fun b H locs hw => ?_)
  exact cw_X6_enters_97 fu C hret ag_75 hag_75 hagn_75 x1 x3 x4 F1 G1 hm hw (lv_sub hl [0, 1, 2, 3] rfl)
theorem cn_X6_enters_80 (fu : Nat) {res : Int32 × PF × PG} (ag_75 : Int32 → Int32 → Int32 → PF → PG → PR) (hagn_75 : ∀ (x1 : Int32) (x3 : Int32) (x4 : Int32) (F : PF) (G : PG), ag_75 x1 x3 x4 F G = some res → xn F ≤ xn res.2.1) (x1 : Int32) (x3 : Int32) (x4 : Int32) (F : PF) (G : PG) (hm : cb_X6_enters_80 fu ag_75 x1 x3 x4 F G = some res) : xn F ≤ xn res.2.1 := by
  unfold cb_X6_enters_80 at hm
  obtain ⟨⟨r1, F1, G1⟩, hc, hm⟩ := bind_elim hm
  exact Nat.le_trans (cn_X6_pop fu F G _ hc) (cn_X6_enters_94 fu ag_75 hagn_75 x1 x3 x4 r1 (((F 59) + (4 : Int32)) + x4) F1 G1 hm)
theorem cw_X6_enters_80 (fu : Nat) {res : Int32 × PF × PG} (C : cMC p R s m args c A v RX6 cX6_enters 5 1 22 (xn res.2.1 - xn K0)) (hret : ∀ (b1 : Nat) (H1 : Heap) (locs1 : List Loc) (ls1 : Array Slot) (pc : Nat), cMW s A v a b1 K0 res.2.1 res.2.2 H1 locs1 → narrow .boolean (.int res.1) = .int res.1 → decode cX6_enters pc = .ok (.ireturn, 1) → W p l e R s m args below meth c H1 locs1 (xn res.2.1 - xn K0) (2 * (xn res.2.1 - xn K0)) Q (F0 m pc ls1 [.int res.1])) (ag_75 : Int32 → Int32 → Int32 → PF → PG → PR) (hag_75 : ∀ (x1 : Int32) (x3 : Int32) (x4 : Int32) (F : PF) (G : PG), ag_75 x1 x3 x4 F G = some res → ∀ (b : Nat) (H : Heap) (locs : List Loc) (ls : Array Slot), cMW s A v a b K0 F G H locs → lv_has ls 5 [(0, .ref (a 206)), (1, .int x1), (3, .int x3), (4, .int x4)] → W p l e R s m args below meth c H locs (xn F - xn K0) (2 * (xn F - xn K0)) Q (F0 m 75 ls [])) (hagn_75 : ∀ (x1 : Int32) (x3 : Int32) (x4 : Int32) (F : PF) (G : PG), ag_75 x1 x3 x4 F G = some res → xn F ≤ xn res.2.1) (x1 : Int32) (x3 : Int32) (x4 : Int32) (F : PF) (G : PG) (hm : cb_X6_enters_80 fu ag_75 x1 x3 x4 F G = some res) {b : Nat} {H : Heap} {locs : List Loc} (hw : cMW s A v a b K0 F G H locs) {ls : Array Slot} (hl : lv_has ls 5 [(0, .ref (a 206)), (1, .int x1), (3, .int x3), (4, .int x4)]) : W p l e R s m args below meth c H locs (xn F - xn K0) (2 * (xn F - xn K0)) Q (F0 m 80 ls []) := by
  have hx := C.1
  have hb := C.2.1
  unfold cb_X6_enters_80 at hm
  refine lv_aload_n hx hb dX6_enters_80 rfl (lv_at hl 0 rfl) ?_
  refine lv_aload_n hx hb dX6_enters_81 rfl (lv_at hl 0 rfl) ?_
  refine cg_X6_34 C hw dX6_enters_82 ?_
  refine lv_iconst (v := 4) hx hb dX6_enters_85 (by decide) ?_
  refine lv_iadd hx hb dX6_enters_86 ?_
  refine lv_iload hx hb dX6_enters_87 (lv_at hl 3 rfl) ?_
  refine lv_iadd hx hb dX6_enters_89 ?_
  refine lv_aload_n hx hb dX6_enters_90 rfl (lv_at hl 0 rfl) ?_
  obtain ⟨⟨r1, F1, G1⟩, hc, hm⟩ := bind_elim hm
  refine ccallI (n := 0) (As := []) (rest := [.int (((F 59) + (4 : Int32)) + x4), .ref (a 206)]) C hw (ck_X6_pop l v a _ _ fu F G r1 F1 G1 hc) (cn_X6_pop fu F G _ hc) (Nat.sub_le_sub_right (cn_X6_enters_94 fu ag_75 hagn_75 x1 x3 x4 r1 (((F 59) + (4 : Int32)) + x4) F1 G1 hm) _) (crecv_X6 C hw) cm_558 cm_559 cm_560 cm_21 cm_561 (by decide +kernel) rfl (by omega) (by omega) hl.1 rfl (Nat.le_of_ble_eq_true rfl) dX6_enters_91 (fun b H locs hw => ?_)
  exact cw_X6_enters_94 fu C hret ag_75 hag_75 hagn_75 x1 x3 x4 r1 (((F 59) + (4 : Int32)) + x4) F1 G1 hm hw (lv_sub hl [0, 1, 2, 3] rfl)
theorem cn_X6_enters_75 (fu : Nat) {res : Int32 × PF × PG} (ag_75 : Int32 → Int32 → Int32 → PF → PG → PR) (hagn_75 : ∀ (x1 : Int32) (x3 : Int32) (x4 : Int32) (F : PF) (G : PG), ag_75 x1 x3 x4 F G = some res → xn F ≤ xn res.2.1) (x1 : Int32) (x3 : Int32) (x4 : Int32) (F : PF) (G : PG) (hm : cb_X6_enters_75 fu ag_75 x1 x3 x4 F G = some res) : xn F ≤ xn res.2.1 := by
  unfold cb_X6_enters_75 at hm
  by_cases c_1 : x4 < (0 : Int32)
  · have hm := (if_pos c_1).symm.trans hm
    exact (cn_X6_enters_103 fu x1 x3 F G hm)
  · have hm := (if_neg c_1).symm.trans hm
    exact (cn_X6_enters_80 fu ag_75 hagn_75 x1 x3 x4 F G hm)
theorem cw_X6_enters_75 (fu : Nat) {res : Int32 × PF × PG} (C : cMC p R s m args c A v RX6 cX6_enters 5 1 22 (xn res.2.1 - xn K0)) (hret : ∀ (b1 : Nat) (H1 : Heap) (locs1 : List Loc) (ls1 : Array Slot) (pc : Nat), cMW s A v a b1 K0 res.2.1 res.2.2 H1 locs1 → narrow .boolean (.int res.1) = .int res.1 → decode cX6_enters pc = .ok (.ireturn, 1) → W p l e R s m args below meth c H1 locs1 (xn res.2.1 - xn K0) (2 * (xn res.2.1 - xn K0)) Q (F0 m pc ls1 [.int res.1])) (ag_75 : Int32 → Int32 → Int32 → PF → PG → PR) (hag_75 : ∀ (x1 : Int32) (x3 : Int32) (x4 : Int32) (F : PF) (G : PG), ag_75 x1 x3 x4 F G = some res → ∀ (b : Nat) (H : Heap) (locs : List Loc) (ls : Array Slot), cMW s A v a b K0 F G H locs → lv_has ls 5 [(0, .ref (a 206)), (1, .int x1), (3, .int x3), (4, .int x4)] → W p l e R s m args below meth c H locs (xn F - xn K0) (2 * (xn F - xn K0)) Q (F0 m 75 ls [])) (hagn_75 : ∀ (x1 : Int32) (x3 : Int32) (x4 : Int32) (F : PF) (G : PG), ag_75 x1 x3 x4 F G = some res → xn F ≤ xn res.2.1) (x1 : Int32) (x3 : Int32) (x4 : Int32) (F : PF) (G : PG) (hm : cb_X6_enters_75 fu ag_75 x1 x3 x4 F G = some res) {b : Nat} {H : Heap} {locs : List Loc} (hw : cMW s A v a b K0 F G H locs) {ls : Array Slot} (hl : lv_has ls 5 [(0, .ref (a 206)), (1, .int x1), (3, .int x3), (4, .int x4)]) : W p l e R s m args below meth c H locs (xn F - xn K0) (2 * (xn F - xn K0)) Q (F0 m 75 ls []) := by
  have hx := C.1
  have hb := C.2.1
  unfold cb_X6_enters_75 at hm
  refine lv_iload hx hb dX6_enters_75 (lv_at hl 3 rfl) ?_
  refine lv_if_lt (tgt := 103) hx hb dX6_enters_77 (by decide) (fun c_1 => ?_) (fun c_1 => ?_)
  · have hm := (if_pos c_1).symm.trans hm
    exact cw_X6_enters_103 fu C hret x1 x3 F G hm hw (lv_sub hl [0, 1, 2] rfl)
  · have hm := (if_neg c_1).symm.trans hm
    exact cw_X6_enters_80 fu C hret ag_75 hag_75 hagn_75 x1 x3 x4 F G hm hw (lv_sub hl [0, 1, 2, 3] rfl)
theorem cnl_X6_enters_75 (fu : Nat) {res : Int32 × PF × PG} : ∀ (n : Nat) (x1 : Int32) (x3 : Int32) (x4 : Int32) (F : PF) (G : PG) (hm : cl_X6_enters_75 fu n x1 x3 x4 F G = some res), xn F ≤ xn res.2.1 := by
  intro n
  induction n with
  | zero =>
    intro x1 x3 x4 F G hm
    exact no_elim (show (none : PR) = some res from hm)
  | succ n ih =>
    intro x1 x3 x4 F G hm
    exact cn_X6_enters_75 fu (cl_X6_enters_75 fu n) (fun x1 x3 x4 F G hm => ih x1 x3 x4 F G hm) x1 x3 x4 F G hm
theorem cwl_X6_enters_75 (fu : Nat) {res : Int32 × PF × PG} (C : cMC p R s m args c A v RX6 cX6_enters 5 1 22 (xn res.2.1 - xn K0)) (hret : ∀ (b1 : Nat) (H1 : Heap) (locs1 : List Loc) (ls1 : Array Slot) (pc : Nat), cMW s A v a b1 K0 res.2.1 res.2.2 H1 locs1 → narrow .boolean (.int res.1) = .int res.1 → decode cX6_enters pc = .ok (.ireturn, 1) → W p l e R s m args below meth c H1 locs1 (xn res.2.1 - xn K0) (2 * (xn res.2.1 - xn K0)) Q (F0 m pc ls1 [.int res.1])) : ∀ (n : Nat) (x1 : Int32) (x3 : Int32) (x4 : Int32) (F : PF) (G : PG) (hm : cl_X6_enters_75 fu n x1 x3 x4 F G = some res) {b : Nat} {H : Heap} {locs : List Loc} (hw : cMW s A v a b K0 F G H locs) {ls : Array Slot} (hl : lv_has ls 5 [(0, .ref (a 206)), (1, .int x1), (3, .int x3), (4, .int x4)]), W p l e R s m args below meth c H locs (xn F - xn K0) (2 * (xn F - xn K0)) Q (F0 m 75 ls []) := by
  intro n
  induction n with
  | zero =>
    intro x1 x3 x4 F G hm
    exact no_elim (show (none : PR) = some res from hm)
  | succ n ih =>
    intro x1 x3 x4 F G hm b H locs hw ls hl
    exact cw_X6_enters_75 fu C hret (cl_X6_enters_75 fu n) (fun x1 x3 x4 F G hm b H locs ls hw hl => ih x1 x3 x4 F G hm hw hl) (fun x1 x3 x4 F G hm => cnl_X6_enters_75 fu n x1 x3 x4 F G hm) x1 x3 x4 F G hm hw hl
theorem cn_X6_enters_62 (fu : Nat) {res : Int32 × PF × PG} (x1 : Int32) (x3 : Int32) (F : PF) (G : PG) (hm : cb_X6_enters_62 fu x1 x3 F G = some res) : xn F ≤ xn res.2.1 := by
  unfold cb_X6_enters_62 at hm
  have hm := (ix_elim hm).2
  exact (cnl_X6_enters_75 fu fu x1 x3 ((G 81 x1.toNatClampNeg) - (1 : Int32)) F G hm)
theorem cw_X6_enters_62 (fu : Nat) {res : Int32 × PF × PG} (C : cMC p R s m args c A v RX6 cX6_enters 5 1 22 (xn res.2.1 - xn K0)) (hret : ∀ (b1 : Nat) (H1 : Heap) (locs1 : List Loc) (ls1 : Array Slot) (pc : Nat), cMW s A v a b1 K0 res.2.1 res.2.2 H1 locs1 → narrow .boolean (.int res.1) = .int res.1 → decode cX6_enters pc = .ok (.ireturn, 1) → W p l e R s m args below meth c H1 locs1 (xn res.2.1 - xn K0) (2 * (xn res.2.1 - xn K0)) Q (F0 m pc ls1 [.int res.1])) (x1 : Int32) (x3 : Int32) (F : PF) (G : PG) (hm : cb_X6_enters_62 fu x1 x3 F G = some res) {b : Nat} {H : Heap} {locs : List Loc} (hw : cMW s A v a b K0 F G H locs) {ls : Array Slot} (hl : lv_has ls 5 [(0, .ref (a 206)), (1, .int x1), (3, .int x3)]) : W p l e R s m args below meth c H locs (xn F - xn K0) (2 * (xn F - xn K0)) Q (F0 m 62 ls []) := by
  have hx := C.1
  have hb := C.2.1
  unfold cb_X6_enters_62 at hm
  refine lv_aload_n hx hb dX6_enters_62 rfl (lv_at hl 0 rfl) ?_
  refine cg_X6_22 C hw dX6_enters_63 ?_
  refine cg_X6_143 C hw dX6_enters_66 ?_
  refine lv_iload_n hx hb dX6_enters_69 rfl (lv_at hl 1 rfl) ?_
  obtain ⟨hi, hm⟩ := ix_elim hm
  refine cal_81 C hw hi dX6_enters_70 ?_
  refine lv_iconst (v := 1) hx hb dX6_enters_71 (by decide) ?_
  refine lv_isub hx hb dX6_enters_72 ?_
  refine lv_istore (lv' := [(4, .int ((G 81 x1.toNatClampNeg) - (1 : Int32))), (0, .ref (a 206)), (1, .int x1), (3, .int x3)]) hx hb dX6_enters_73 hl (by decide) rfl (fun ls hl => ?_)
  exact cwl_X6_enters_75 fu C hret fu x1 x3 ((G 81 x1.toNatClampNeg) - (1 : Int32)) F G hm hw (lv_sub hl [1, 2, 3, 0] rfl)
theorem cn_X6_enters_48 (fu : Nat) {res : Int32 × PF × PG} (x1 : Int32) (x3 : Int32) (F : PF) (G : PG) (hm : cb_X6_enters_48 fu x1 x3 F G = some res) : xn F ≤ xn res.2.1 := by
  unfold cb_X6_enters_48 at hm
  obtain ⟨⟨r1, F1, G1⟩, hc, hm⟩ := bind_elim hm
  exact Nat.le_trans (cn_X6_hold fu ((F 59) + (1 : Int32)) (F 58) F G _ hc) (cn_X6_enters_62 fu x1 x3 F1 G1 hm)
theorem cw_X6_enters_48 (fu : Nat) {res : Int32 × PF × PG} (C : cMC p R s m args c A v RX6 cX6_enters 5 1 22 (xn res.2.1 - xn K0)) (hret : ∀ (b1 : Nat) (H1 : Heap) (locs1 : List Loc) (ls1 : Array Slot) (pc : Nat), cMW s A v a b1 K0 res.2.1 res.2.2 H1 locs1 → narrow .boolean (.int res.1) = .int res.1 → decode cX6_enters pc = .ok (.ireturn, 1) → W p l e R s m args below meth c H1 locs1 (xn res.2.1 - xn K0) (2 * (xn res.2.1 - xn K0)) Q (F0 m pc ls1 [.int res.1])) (x1 : Int32) (x3 : Int32) (F : PF) (G : PG) (hm : cb_X6_enters_48 fu x1 x3 F G = some res) {b : Nat} {H : Heap} {locs : List Loc} (hw : cMW s A v a b K0 F G H locs) {ls : Array Slot} (hl : lv_has ls 5 [(0, .ref (a 206)), (1, .int x1), (3, .int x3)]) : W p l e R s m args below meth c H locs (xn F - xn K0) (2 * (xn F - xn K0)) Q (F0 m 48 ls []) := by
  have hx := C.1
  have hb := C.2.1
  unfold cb_X6_enters_48 at hm
  refine lv_aload_n hx hb dX6_enters_48 rfl (lv_at hl 0 rfl) ?_
  refine lv_aload_n hx hb dX6_enters_49 rfl (lv_at hl 0 rfl) ?_
  refine cg_X6_34 C hw dX6_enters_50 ?_
  refine lv_iconst (v := 1) hx hb dX6_enters_53 (by decide) ?_
  refine lv_iadd hx hb dX6_enters_54 ?_
  refine lv_aload_n hx hb dX6_enters_55 rfl (lv_at hl 0 rfl) ?_
  refine cg_X6_140 C hw dX6_enters_56 ?_
  obtain ⟨⟨r1, F1, G1⟩, hc, hm⟩ := bind_elim hm
  refine ccallV (n := 2) (As := [.int ((F 59) + (1 : Int32)), .int (F 58)]) (rest := []) C hw (ck_X6_hold l v a _ _ fu ((F 59) + (1 : Int32)) (F 58) F G r1 F1 G1 hc) (cn_X6_hold fu ((F 59) + (1 : Int32)) (F 58) F G _ hc) (Nat.sub_le_sub_right (cn_X6_enters_62 fu x1 x3 F1 G1 hm) _) (crecv_X6 C hw) cm_850 cm_851 cm_852 cm_21 cm_853 (by decide +kernel) rfl (by omega) (by omega) hl.1 rfl (Nat.le_of_ble_eq_true rfl) dX6_enters_59 (fun b H locs hw => ?_)
  exact cw_X6_enters_62 fu C hret x1 x3 F1 G1 hm hw (lv_sub hl [0, 1, 2] rfl)
theorem cn_X6_enters_36 (fu : Nat) {res : Int32 × PF × PG} (x1 : Int32) (x3 : Int32) (F : PF) (G : PG) (hm : cb_X6_enters_36 fu x1 x3 F G = some res) : xn F ≤ xn res.2.1 := by
  unfold cb_X6_enters_36 at hm
  obtain ⟨⟨r1, F1, G1⟩, hc, hm⟩ := bind_elim hm
  exact Nat.le_trans (cn_X6_hold fu (F 59) (F 57) F G _ hc) (cn_X6_enters_48 fu x1 x3 F1 G1 hm)
theorem cw_X6_enters_36 (fu : Nat) {res : Int32 × PF × PG} (C : cMC p R s m args c A v RX6 cX6_enters 5 1 22 (xn res.2.1 - xn K0)) (hret : ∀ (b1 : Nat) (H1 : Heap) (locs1 : List Loc) (ls1 : Array Slot) (pc : Nat), cMW s A v a b1 K0 res.2.1 res.2.2 H1 locs1 → narrow .boolean (.int res.1) = .int res.1 → decode cX6_enters pc = .ok (.ireturn, 1) → W p l e R s m args below meth c H1 locs1 (xn res.2.1 - xn K0) (2 * (xn res.2.1 - xn K0)) Q (F0 m pc ls1 [.int res.1])) (x1 : Int32) (x3 : Int32) (F : PF) (G : PG) (hm : cb_X6_enters_36 fu x1 x3 F G = some res) {b : Nat} {H : Heap} {locs : List Loc} (hw : cMW s A v a b K0 F G H locs) {ls : Array Slot} (hl : lv_has ls 5 [(0, .ref (a 206)), (1, .int x1), (3, .int x3)]) : W p l e R s m args below meth c H locs (xn F - xn K0) (2 * (xn F - xn K0)) Q (F0 m 36 ls []) := by
  have hx := C.1
  have hb := C.2.1
  unfold cb_X6_enters_36 at hm
  refine lv_aload_n hx hb dX6_enters_36 rfl (lv_at hl 0 rfl) ?_
  refine lv_aload_n hx hb dX6_enters_37 rfl (lv_at hl 0 rfl) ?_
  refine cg_X6_34 C hw dX6_enters_38 ?_
  refine lv_aload_n hx hb dX6_enters_41 rfl (lv_at hl 0 rfl) ?_
  refine cg_X6_70 C hw dX6_enters_42 ?_
  obtain ⟨⟨r1, F1, G1⟩, hc, hm⟩ := bind_elim hm
  refine ccallV (n := 2) (As := [.int (F 59), .int (F 57)]) (rest := []) C hw (ck_X6_hold l v a _ _ fu (F 59) (F 57) F G r1 F1 G1 hc) (cn_X6_hold fu (F 59) (F 57) F G _ hc) (Nat.sub_le_sub_right (cn_X6_enters_48 fu x1 x3 F1 G1 hm) _) (crecv_X6 C hw) cm_850 cm_851 cm_852 cm_21 cm_853 (by decide +kernel) rfl (by omega) (by omega) hl.1 rfl (Nat.le_of_ble_eq_true rfl) dX6_enters_45 (fun b H locs hw => ?_)
  exact cw_X6_enters_48 fu C hret x1 x3 F1 G1 hm hw (lv_sub hl [0, 1, 2] rfl)
theorem cn_X6_enters_34 (fu : Nat) {res : Int32 × PF × PG} (F : PF) (G : PG) (hm : cb_X6_enters_34 fu F G = some res) : xn F ≤ xn res.2.1 := by
  unfold cb_X6_enters_34 at hm
  obtain rfl := Option.some.inj hm
  exact Nat.le_refl _
theorem cw_X6_enters_34 (fu : Nat) {res : Int32 × PF × PG} (C : cMC p R s m args c A v RX6 cX6_enters 5 1 22 (xn res.2.1 - xn K0)) (hret : ∀ (b1 : Nat) (H1 : Heap) (locs1 : List Loc) (ls1 : Array Slot) (pc : Nat), cMW s A v a b1 K0 res.2.1 res.2.2 H1 locs1 → narrow .boolean (.int res.1) = .int res.1 → decode cX6_enters pc = .ok (.ireturn, 1) → W p l e R s m args below meth c H1 locs1 (xn res.2.1 - xn K0) (2 * (xn res.2.1 - xn K0)) Q (F0 m pc ls1 [.int res.1])) (F : PF) (G : PG) (hm : cb_X6_enters_34 fu F G = some res) {b : Nat} {H : Heap} {locs : List Loc} (hw : cMW s A v a b K0 F G H locs) {ls : Array Slot} (hl : lv_has ls 5 []) : W p l e R s m args below meth c H locs (xn F - xn K0) (2 * (xn F - xn K0)) Q (F0 m 34 ls []) := by
  have hx := C.1
  have hb := C.2.1
  unfold cb_X6_enters_34 at hm
  refine lv_iconst (v := 0) hx hb dX6_enters_34 (by decide) ?_
  obtain rfl := Option.some.inj hm
  exact hret _ _ _ _ _ hw (b01_nar (v := 0) (Or.inl rfl)) dX6_enters_35
theorem cn_X6_enters_28 (fu : Nat) {res : Int32 × PF × PG} (F : PF) (G : PG) (hm : cb_X6_enters_28 fu F G = some res) : xn F ≤ xn res.2.1 := by
  unfold cb_X6_enters_28 at hm
  obtain ⟨⟨r1, F1, G1⟩, hc, hm⟩ := bind_elim hm
  exact Nat.le_trans (cn_X6_over fu 6 F G _ hc) (cn_X6_enters_34 fu F1 G1 hm)
theorem cw_X6_enters_28 (fu : Nat) {res : Int32 × PF × PG} (C : cMC p R s m args c A v RX6 cX6_enters 5 1 22 (xn res.2.1 - xn K0)) (hret : ∀ (b1 : Nat) (H1 : Heap) (locs1 : List Loc) (ls1 : Array Slot) (pc : Nat), cMW s A v a b1 K0 res.2.1 res.2.2 H1 locs1 → narrow .boolean (.int res.1) = .int res.1 → decode cX6_enters pc = .ok (.ireturn, 1) → W p l e R s m args below meth c H1 locs1 (xn res.2.1 - xn K0) (2 * (xn res.2.1 - xn K0)) Q (F0 m pc ls1 [.int res.1])) (F : PF) (G : PG) (hm : cb_X6_enters_28 fu F G = some res) {b : Nat} {H : Heap} {locs : List Loc} (hw : cMW s A v a b K0 F G H locs) {ls : Array Slot} (hl : lv_has ls 5 [(0, .ref (a 206))]) : W p l e R s m args below meth c H locs (xn F - xn K0) (2 * (xn F - xn K0)) Q (F0 m 28 ls []) := by
  have hx := C.1
  have hb := C.2.1
  unfold cb_X6_enters_28 at hm
  refine lv_aload_n hx hb dX6_enters_28 rfl (lv_at hl 0 rfl) ?_
  refine lv_bipush (v := 6) hx hb dX6_enters_29 (by decide) ?_
  obtain ⟨⟨r1, F1, G1⟩, hc, hm⟩ := bind_elim hm
  refine ccallV (n := 1) (As := [.int 6]) (rest := []) C hw (ck_X6_over l v a _ _ fu 6 F G r1 F1 G1 hc) (cn_X6_over fu 6 F G _ hc) (Nat.sub_le_sub_right (cn_X6_enters_34 fu F1 G1 hm) _) (crecv_X6 C hw) cm_834 cm_835 cm_836 cm_21 cm_837 (by decide +kernel) rfl (by omega) (by omega) hl.1 rfl (Nat.le_of_ble_eq_true rfl) dX6_enters_31 (fun b H locs hw => ?_)
  exact cw_X6_enters_34 fu C hret F1 G1 hm hw (lv_sub hl [] rfl)
theorem cn_X6_enters_23 (fu : Nat) {res : Int32 × PF × PG} (x2 : Int32) (F : PF) (G : PG) (hm : cb_X6_enters_23 fu x2 F G = some res) : xn F ≤ xn res.2.1 := by
  unfold cb_X6_enters_23 at hm
  exact Nat.le_trans (Nat.le_of_eq (xn_fup (by decide)).symm) (cn_X6_enters_28 fu (fup F 66 x2) G hm)
theorem cw_X6_enters_23 (fu : Nat) {res : Int32 × PF × PG} (C : cMC p R s m args c A v RX6 cX6_enters 5 1 22 (xn res.2.1 - xn K0)) (hret : ∀ (b1 : Nat) (H1 : Heap) (locs1 : List Loc) (ls1 : Array Slot) (pc : Nat), cMW s A v a b1 K0 res.2.1 res.2.2 H1 locs1 → narrow .boolean (.int res.1) = .int res.1 → decode cX6_enters pc = .ok (.ireturn, 1) → W p l e R s m args below meth c H1 locs1 (xn res.2.1 - xn K0) (2 * (xn res.2.1 - xn K0)) Q (F0 m pc ls1 [.int res.1])) (x2 : Int32) (F : PF) (G : PG) (hm : cb_X6_enters_23 fu x2 F G = some res) {b : Nat} {H : Heap} {locs : List Loc} (hw : cMW s A v a b K0 F G H locs) {ls : Array Slot} (hl : lv_has ls 5 [(0, .ref (a 206)), (2, .int x2)]) : W p l e R s m args below meth c H locs (xn F - xn K0) (2 * (xn F - xn K0)) Q (F0 m 23 ls []) := by
  have hx := C.1
  have hb := C.2.1
  unfold cb_X6_enters_23 at hm
  refine lv_aload_n hx hb dX6_enters_23 rfl (lv_at hl 0 rfl) ?_
  refine lv_iload_n hx hb dX6_enters_24 rfl (lv_at hl 1 rfl) ?_
  refine cp_X6_30 C hw dX6_enters_25 (fun H locs hw => ?_)
  exact cw_X6_enters_28 fu C hret (fup F 66 x2) G hm hw (lv_sub hl [0] rfl)
theorem cn_X6_enters_14 (fu : Nat) {res : Int32 × PF × PG} (x1 : Int32) (x2 : Int32) (x3 : Int32) (z0 : Int32) (F : PF) (G : PG) (hm : cb_X6_enters_14 fu x1 x2 x3 z0 F G = some res) : xn F ≤ xn res.2.1 := by
  unfold cb_X6_enters_14 at hm
  by_cases c_1 : (z0 + x3) ≤ (F 67)
  · have hm := (if_pos c_1).symm.trans hm
    exact (cn_X6_enters_36 fu x1 x3 F G hm)
  · have hm := (if_neg c_1).symm.trans hm
    exact (cn_X6_enters_23 fu x2 F G hm)
theorem cw_X6_enters_14 (fu : Nat) {res : Int32 × PF × PG} (C : cMC p R s m args c A v RX6 cX6_enters 5 1 22 (xn res.2.1 - xn K0)) (hret : ∀ (b1 : Nat) (H1 : Heap) (locs1 : List Loc) (ls1 : Array Slot) (pc : Nat), cMW s A v a b1 K0 res.2.1 res.2.2 H1 locs1 → narrow .boolean (.int res.1) = .int res.1 → decode cX6_enters pc = .ok (.ireturn, 1) → W p l e R s m args below meth c H1 locs1 (xn res.2.1 - xn K0) (2 * (xn res.2.1 - xn K0)) Q (F0 m pc ls1 [.int res.1])) (x1 : Int32) (x2 : Int32) (x3 : Int32) (z0 : Int32) (F : PF) (G : PG) (hm : cb_X6_enters_14 fu x1 x2 x3 z0 F G = some res) {b : Nat} {H : Heap} {locs : List Loc} (hw : cMW s A v a b K0 F G H locs) {ls : Array Slot} (hl : lv_has ls 5 [(0, .ref (a 206)), (1, .int x1), (2, .int x2), (3, .int x3)]) : W p l e R s m args below meth c H locs (xn F - xn K0) (2 * (xn F - xn K0)) Q (F0 m 14 ls [.int z0]) := by
  have hx := C.1
  have hb := C.2.1
  unfold cb_X6_enters_14 at hm
  refine lv_iload_n hx hb dX6_enters_14 rfl (lv_at hl 3 rfl) ?_
  refine lv_iadd hx hb dX6_enters_15 ?_
  refine lv_aload_n hx hb dX6_enters_16 rfl (lv_at hl 0 rfl) ?_
  refine cg_X6_46 C hw dX6_enters_17 ?_
  refine lv_icmp_le (tgt := 36) hx hb dX6_enters_20 (by decide) (fun c_1 => ?_) (fun c_1 => ?_)
  · have hm := (if_pos c_1).symm.trans hm
    exact cw_X6_enters_36 fu C hret x1 x3 F G hm hw (lv_sub hl [0, 1, 3] rfl)
  · have hm := (if_neg c_1).symm.trans hm
    exact cw_X6_enters_23 fu C hret x2 F G hm hw (lv_sub hl [0, 2] rfl)
theorem cn_X6_enters_0 (fu : Nat) {res : Int32 × PF × PG} (x1 : Int32) (x2 : Int32) (F : PF) (G : PG) (hm : cb_X6_enters_0 fu x1 x2 F G = some res) : xn F ≤ xn res.2.1 := by
  unfold cb_X6_enters_0 at hm
  have hm := (ix_elim hm).2
  obtain ⟨⟨r1, F1, G1⟩, hc, hm⟩ := bind_elim hm
  exact Nat.le_trans (cn_X6_depth fu F G _ hc) (cn_X6_enters_14 fu x1 x2 (G 79 x1.toNatClampNeg) r1 F1 G1 hm)
theorem cw_X6_enters_0 (fu : Nat) {res : Int32 × PF × PG} (C : cMC p R s m args c A v RX6 cX6_enters 5 1 22 (xn res.2.1 - xn K0)) (hret : ∀ (b1 : Nat) (H1 : Heap) (locs1 : List Loc) (ls1 : Array Slot) (pc : Nat), cMW s A v a b1 K0 res.2.1 res.2.2 H1 locs1 → narrow .boolean (.int res.1) = .int res.1 → decode cX6_enters pc = .ok (.ireturn, 1) → W p l e R s m args below meth c H1 locs1 (xn res.2.1 - xn K0) (2 * (xn res.2.1 - xn K0)) Q (F0 m pc ls1 [.int res.1])) (x1 : Int32) (x2 : Int32) (F : PF) (G : PG) (hm : cb_X6_enters_0 fu x1 x2 F G = some res) {b : Nat} {H : Heap} {locs : List Loc} (hw : cMW s A v a b K0 F G H locs) {ls : Array Slot} (hl : lv_has ls 5 [(0, .ref (a 206)), (1, .int x1), (2, .int x2)]) : W p l e R s m args below meth c H locs (xn F - xn K0) (2 * (xn F - xn K0)) Q (F0 m 0 ls []) := by
  have hx := C.1
  have hb := C.2.1
  unfold cb_X6_enters_0 at hm
  refine lv_aload_n hx hb dX6_enters_0 rfl (lv_at hl 0 rfl) ?_
  refine cg_X6_22 C hw dX6_enters_1 ?_
  refine cg_X6_131 C hw dX6_enters_4 ?_
  refine lv_iload_n hx hb dX6_enters_7 rfl (lv_at hl 1 rfl) ?_
  obtain ⟨hi, hm⟩ := ix_elim hm
  refine cal_79 C hw hi dX6_enters_8 ?_
  refine lv_istore_n (lv' := [(3, .int (G 79 x1.toNatClampNeg)), (0, .ref (a 206)), (1, .int x1), (2, .int x2)]) hx hb dX6_enters_9 rfl hl (by decide) rfl (fun ls hl => ?_)
  refine lv_aload_n hx hb dX6_enters_10 rfl (lv_at hl 1 rfl) ?_
  obtain ⟨⟨r1, F1, G1⟩, hc, hm⟩ := bind_elim hm
  refine ccallI (n := 0) (As := []) (rest := []) C hw (ck_X6_depth l v a _ _ fu F G r1 F1 G1 hc) (cn_X6_depth fu F G _ hc) (Nat.sub_le_sub_right (cn_X6_enters_14 fu x1 x2 (G 79 x1.toNatClampNeg) r1 F1 G1 hm) _) (crecv_X6 C hw) cm_846 cm_847 cm_848 cm_21 cm_849 (by decide +kernel) rfl (by omega) (by omega) hl.1 rfl (Nat.le_of_ble_eq_true rfl) dX6_enters_11 (fun b H locs hw => ?_)
  exact cw_X6_enters_14 fu C hret x1 x2 (G 79 x1.toNatClampNeg) r1 F1 G1 hm hw (lv_sub hl [1, 2, 3, 0] rfl)
theorem cn_X6_enters (fu : Nat) (x1 : Int32) (x2 : Int32) (F : PF) (G : PG) (q : Int32 × PF × PG) (hm : cf_X6_enters fu x1 x2 F G = some q) : xn F ≤ xn q.2.1 := cn_X6_enters_0 fu x1 x2 F G hm
theorem ck_X6_enters (l : Launch) (v : EV) (a : Nat → Nat) (b sz : Nat) (fu : Nat) (x1 : Int32) (x2 : Int32) (F : PF) (G : PG) (r : Int32) (F1 : PF) (G1 : PG) (hm : cf_X6_enters fu x1 x2 F G = some (r, F1, G1)) : cMI l yX6_enters cX6_enters 5 (some .boolean) 1 22 v a b sz [.ref (a 206), .int x1, .int x2] F G r F1 G1 := cMI.of (ty := .boolean) (by decide) rfl (Nat.le_of_ble_eq_true rfl) (fun p e R s m args below meth c Q A H locs ls C hw hl hret => cw_X6_enters_0 fu (res := (r, F1, G1)) C hret x1 x2 F G hm hw hl)
def cb_X6_takesTurn_29 (fu : Nat) (F : PF) (G : PG) : PR := some (1, F, G)
def cb_X6_takesTurn_19 (fu : Nat) (F : PF) (G : PG) : PR := cb_X6_takesTurn_29 fu (fup F 64 ((F 64) + (1 : Int32))) G
def cb_X6_takesTurn_9 (fu : Nat) (F : PF) (G : PG) : PR := cb_X6_takesTurn_19 fu (fup F 62 ((F 62) - (1 : Int32))) G
def cb_X6_takesTurn_7 (fu : Nat) (F : PF) (G : PG) : PR := some (0, F, G)
def cb_X6_takesTurn_0 (fu : Nat) (F : PF) (G : PG) : PR := if (0 : Int32) < (F 62) then cb_X6_takesTurn_9 fu F G else cb_X6_takesTurn_7 fu F G
def cf_X6_takesTurn (fu : Nat) (F : PF) (G : PG) : PR := cb_X6_takesTurn_0 fu F G
theorem cn_X6_takesTurn_29 (fu : Nat) {res : Int32 × PF × PG} (F : PF) (G : PG) (hm : cb_X6_takesTurn_29 fu F G = some res) : xn F ≤ xn res.2.1 := by
  unfold cb_X6_takesTurn_29 at hm
  obtain rfl := Option.some.inj hm
  exact Nat.le_refl _
theorem cw_X6_takesTurn_29 (fu : Nat) {res : Int32 × PF × PG} (C : cMC p R s m args c A v RX6 cX6_takesTurn 1 0 0 (xn res.2.1 - xn K0)) (hret : ∀ (b1 : Nat) (H1 : Heap) (locs1 : List Loc) (ls1 : Array Slot) (pc : Nat), cMW s A v a b1 K0 res.2.1 res.2.2 H1 locs1 → narrow .boolean (.int res.1) = .int res.1 → decode cX6_takesTurn pc = .ok (.ireturn, 1) → W p l e R s m args below meth c H1 locs1 (xn res.2.1 - xn K0) (2 * (xn res.2.1 - xn K0)) Q (F0 m pc ls1 [.int res.1])) (F : PF) (G : PG) (hm : cb_X6_takesTurn_29 fu F G = some res) {b : Nat} {H : Heap} {locs : List Loc} (hw : cMW s A v a b K0 F G H locs) {ls : Array Slot} (hl : lv_has ls 1 []) : W p l e R s m args below meth c H locs (xn F - xn K0) (2 * (xn F - xn K0)) Q (F0 m 29 ls []) := by
  have hx := C.1
  have hb := C.2.1
  unfold cb_X6_takesTurn_29 at hm
  refine lv_iconst (v := 1) hx hb dX6_takesTurn_29 (by decide) ?_
  obtain rfl := Option.some.inj hm
  exact hret _ _ _ _ _ hw (b01_nar (v := 1) (Or.inr rfl)) dX6_takesTurn_30
theorem cn_X6_takesTurn_19 (fu : Nat) {res : Int32 × PF × PG} (F : PF) (G : PG) (hm : cb_X6_takesTurn_19 fu F G = some res) : xn F ≤ xn res.2.1 := by
  unfold cb_X6_takesTurn_19 at hm
  exact Nat.le_trans (Nat.le_of_eq (xn_fup (by decide)).symm) (cn_X6_takesTurn_29 fu (fup F 64 ((F 64) + (1 : Int32))) G hm)
theorem cw_X6_takesTurn_19 (fu : Nat) {res : Int32 × PF × PG} (C : cMC p R s m args c A v RX6 cX6_takesTurn 1 0 0 (xn res.2.1 - xn K0)) (hret : ∀ (b1 : Nat) (H1 : Heap) (locs1 : List Loc) (ls1 : Array Slot) (pc : Nat), cMW s A v a b1 K0 res.2.1 res.2.2 H1 locs1 → narrow .boolean (.int res.1) = .int res.1 → decode cX6_takesTurn pc = .ok (.ireturn, 1) → W p l e R s m args below meth c H1 locs1 (xn res.2.1 - xn K0) (2 * (xn res.2.1 - xn K0)) Q (F0 m pc ls1 [.int res.1])) (F : PF) (G : PG) (hm : cb_X6_takesTurn_19 fu F G = some res) {b : Nat} {H : Heap} {locs : List Loc} (hw : cMW s A v a b K0 F G H locs) {ls : Array Slot} (hl : lv_has ls 1 [(0, .ref (a 206))]) : W p l e R s m args below meth c H locs (xn F - xn K0) (2 * (xn F - xn K0)) Q (F0 m 19 ls []) := by
  have hx := C.1
  have hb := C.2.1
  unfold cb_X6_takesTurn_19 at hm
  refine lv_aload_n hx hb dX6_takesTurn_19 rfl (lv_at hl 0 rfl) ?_
  refine lv_dup hx hb dX6_takesTurn_20 rfl ?_
  refine cg_X6_40 C hw dX6_takesTurn_21 ?_
  refine lv_iconst (v := 1) hx hb dX6_takesTurn_24 (by decide) ?_
  refine lv_iadd hx hb dX6_takesTurn_25 ?_
  refine cp_X6_40 C hw dX6_takesTurn_26 (fun H locs hw => ?_)
  exact cw_X6_takesTurn_29 fu C hret (fup F 64 ((F 64) + (1 : Int32))) G hm hw (lv_sub hl [] rfl)
theorem cn_X6_takesTurn_9 (fu : Nat) {res : Int32 × PF × PG} (F : PF) (G : PG) (hm : cb_X6_takesTurn_9 fu F G = some res) : xn F ≤ xn res.2.1 := by
  unfold cb_X6_takesTurn_9 at hm
  exact Nat.le_trans (Nat.le_of_eq (xn_fup (by decide)).symm) (cn_X6_takesTurn_19 fu (fup F 62 ((F 62) - (1 : Int32))) G hm)
theorem cw_X6_takesTurn_9 (fu : Nat) {res : Int32 × PF × PG} (C : cMC p R s m args c A v RX6 cX6_takesTurn 1 0 0 (xn res.2.1 - xn K0)) (hret : ∀ (b1 : Nat) (H1 : Heap) (locs1 : List Loc) (ls1 : Array Slot) (pc : Nat), cMW s A v a b1 K0 res.2.1 res.2.2 H1 locs1 → narrow .boolean (.int res.1) = .int res.1 → decode cX6_takesTurn pc = .ok (.ireturn, 1) → W p l e R s m args below meth c H1 locs1 (xn res.2.1 - xn K0) (2 * (xn res.2.1 - xn K0)) Q (F0 m pc ls1 [.int res.1])) (F : PF) (G : PG) (hm : cb_X6_takesTurn_9 fu F G = some res) {b : Nat} {H : Heap} {locs : List Loc} (hw : cMW s A v a b K0 F G H locs) {ls : Array Slot} (hl : lv_has ls 1 [(0, .ref (a 206))]) : W p l e R s m args below meth c H locs (xn F - xn K0) (2 * (xn F - xn K0)) Q (F0 m 9 ls []) := by
  have hx := C.1
  have hb := C.2.1
  unfold cb_X6_takesTurn_9 at hm
  refine lv_aload_n hx hb dX6_takesTurn_9 rfl (lv_at hl 0 rfl) ?_
  refine lv_dup hx hb dX6_takesTurn_10 rfl ?_
  refine cg_X6_102 C hw dX6_takesTurn_11 ?_
  refine lv_iconst (v := 1) hx hb dX6_takesTurn_14 (by decide) ?_
  refine lv_isub hx hb dX6_takesTurn_15 ?_
  refine cp_X6_102 C hw dX6_takesTurn_16 (fun H locs hw => ?_)
  exact cw_X6_takesTurn_19 fu C hret (fup F 62 ((F 62) - (1 : Int32))) G hm hw (lv_sub hl [0] rfl)
theorem cn_X6_takesTurn_7 (fu : Nat) {res : Int32 × PF × PG} (F : PF) (G : PG) (hm : cb_X6_takesTurn_7 fu F G = some res) : xn F ≤ xn res.2.1 := by
  unfold cb_X6_takesTurn_7 at hm
  obtain rfl := Option.some.inj hm
  exact Nat.le_refl _
theorem cw_X6_takesTurn_7 (fu : Nat) {res : Int32 × PF × PG} (C : cMC p R s m args c A v RX6 cX6_takesTurn 1 0 0 (xn res.2.1 - xn K0)) (hret : ∀ (b1 : Nat) (H1 : Heap) (locs1 : List Loc) (ls1 : Array Slot) (pc : Nat), cMW s A v a b1 K0 res.2.1 res.2.2 H1 locs1 → narrow .boolean (.int res.1) = .int res.1 → decode cX6_takesTurn pc = .ok (.ireturn, 1) → W p l e R s m args below meth c H1 locs1 (xn res.2.1 - xn K0) (2 * (xn res.2.1 - xn K0)) Q (F0 m pc ls1 [.int res.1])) (F : PF) (G : PG) (hm : cb_X6_takesTurn_7 fu F G = some res) {b : Nat} {H : Heap} {locs : List Loc} (hw : cMW s A v a b K0 F G H locs) {ls : Array Slot} (hl : lv_has ls 1 []) : W p l e R s m args below meth c H locs (xn F - xn K0) (2 * (xn F - xn K0)) Q (F0 m 7 ls []) := by
  have hx := C.1
  have hb := C.2.1
  unfold cb_X6_takesTurn_7 at hm
  refine lv_iconst (v := 0) hx hb dX6_takesTurn_7 (by decide) ?_
  obtain rfl := Option.some.inj hm
  exact hret _ _ _ _ _ hw (b01_nar (v := 0) (Or.inl rfl)) dX6_takesTurn_8
theorem cn_X6_takesTurn_0 (fu : Nat) {res : Int32 × PF × PG} (F : PF) (G : PG) (hm : cb_X6_takesTurn_0 fu F G = some res) : xn F ≤ xn res.2.1 := by
  unfold cb_X6_takesTurn_0 at hm
  by_cases c_1 : (0 : Int32) < (F 62)
  · have hm := (if_pos c_1).symm.trans hm
    exact (cn_X6_takesTurn_9 fu F G hm)
  · have hm := (if_neg c_1).symm.trans hm
    exact (cn_X6_takesTurn_7 fu F G hm)
theorem cw_X6_takesTurn_0 (fu : Nat) {res : Int32 × PF × PG} (C : cMC p R s m args c A v RX6 cX6_takesTurn 1 0 0 (xn res.2.1 - xn K0)) (hret : ∀ (b1 : Nat) (H1 : Heap) (locs1 : List Loc) (ls1 : Array Slot) (pc : Nat), cMW s A v a b1 K0 res.2.1 res.2.2 H1 locs1 → narrow .boolean (.int res.1) = .int res.1 → decode cX6_takesTurn pc = .ok (.ireturn, 1) → W p l e R s m args below meth c H1 locs1 (xn res.2.1 - xn K0) (2 * (xn res.2.1 - xn K0)) Q (F0 m pc ls1 [.int res.1])) (F : PF) (G : PG) (hm : cb_X6_takesTurn_0 fu F G = some res) {b : Nat} {H : Heap} {locs : List Loc} (hw : cMW s A v a b K0 F G H locs) {ls : Array Slot} (hl : lv_has ls 1 [(0, .ref (a 206))]) : W p l e R s m args below meth c H locs (xn F - xn K0) (2 * (xn F - xn K0)) Q (F0 m 0 ls []) := by
  have hx := C.1
  have hb := C.2.1
  unfold cb_X6_takesTurn_0 at hm
  refine lv_aload_n hx hb dX6_takesTurn_0 rfl (lv_at hl 0 rfl) ?_
  refine cg_X6_102 C hw dX6_takesTurn_1 ?_
  refine lv_if_gt (tgt := 9) hx hb dX6_takesTurn_4 (by decide) (fun c_1 => ?_) (fun c_1 => ?_)
  · have hm := (if_pos c_1).symm.trans hm
    exact cw_X6_takesTurn_9 fu C hret F G hm hw (lv_sub hl [0] rfl)
  · have hm := (if_neg c_1).symm.trans hm
    exact cw_X6_takesTurn_7 fu C hret F G hm hw (lv_sub hl [] rfl)
theorem cn_X6_takesTurn (fu : Nat) (F : PF) (G : PG) (q : Int32 × PF × PG) (hm : cf_X6_takesTurn fu F G = some q) : xn F ≤ xn q.2.1 := cn_X6_takesTurn_0 fu F G hm
theorem ck_X6_takesTurn (l : Launch) (v : EV) (a : Nat → Nat) (b sz : Nat) (fu : Nat) (F : PF) (G : PG) (r : Int32) (F1 : PF) (G1 : PG) (hm : cf_X6_takesTurn fu F G = some (r, F1, G1)) : cMI l yX6_takesTurn cX6_takesTurn 1 (some .boolean) 0 0 v a b sz [.ref (a 206)] F G r F1 G1 := cMI.of (ty := .boolean) (by decide) rfl (Nat.le_of_ble_eq_true rfl) (fun p e R s m args below meth c Q A H locs ls C hw hl hret => cw_X6_takesTurn_0 fu (res := (r, F1, G1)) C hret F G hm hw hl)
def cb_X6_stops_10 (fu : Nat) (F : PF) (G : PG) : PR := some (0, F, G)
def cb_X6_stops_5 (fu : Nat) (x1 : Int32) (F : PF) (G : PG) : PR := (cf_X6_over fu x1 F G).bind (fun q => cb_X6_stops_10 fu q.2.1 q.2.2)
def cb_X6_stops_0 (fu : Nat) (x1 : Int32) (x2 : Int32) (F : PF) (G : PG) : PR := cb_X6_stops_5 fu x1 (fup F 57 x2) G
def cf_X6_stops (fu : Nat) (x1 : Int32) (x2 : Int32) (F : PF) (G : PG) : PR := cb_X6_stops_0 fu x1 x2 F G
theorem cn_X6_stops_10 (fu : Nat) {res : Int32 × PF × PG} (F : PF) (G : PG) (hm : cb_X6_stops_10 fu F G = some res) : xn F ≤ xn res.2.1 := by
  unfold cb_X6_stops_10 at hm
  obtain rfl := Option.some.inj hm
  exact Nat.le_refl _
theorem cw_X6_stops_10 (fu : Nat) {res : Int32 × PF × PG} (C : cMC p R s m args c A v RX6 cX6_stops 3 1 21 (xn res.2.1 - xn K0)) (hret : ∀ (b1 : Nat) (H1 : Heap) (locs1 : List Loc) (ls1 : Array Slot) (pc : Nat), cMW s A v a b1 K0 res.2.1 res.2.2 H1 locs1 → decode cX6_stops pc = .ok (.return_, 1) → W p l e R s m args below meth c H1 locs1 (xn res.2.1 - xn K0) (2 * (xn res.2.1 - xn K0)) Q (F0 m pc ls1 [])) (F : PF) (G : PG) (hm : cb_X6_stops_10 fu F G = some res) {b : Nat} {H : Heap} {locs : List Loc} (hw : cMW s A v a b K0 F G H locs) {ls : Array Slot} (hl : lv_has ls 3 []) : W p l e R s m args below meth c H locs (xn F - xn K0) (2 * (xn F - xn K0)) Q (F0 m 10 ls []) := by
  have hx := C.1
  have hb := C.2.1
  unfold cb_X6_stops_10 at hm
  obtain rfl := Option.some.inj hm
  exact hret _ _ _ _ _ hw dX6_stops_10
theorem cn_X6_stops_5 (fu : Nat) {res : Int32 × PF × PG} (x1 : Int32) (F : PF) (G : PG) (hm : cb_X6_stops_5 fu x1 F G = some res) : xn F ≤ xn res.2.1 := by
  unfold cb_X6_stops_5 at hm
  obtain ⟨⟨r1, F1, G1⟩, hc, hm⟩ := bind_elim hm
  exact Nat.le_trans (cn_X6_over fu x1 F G _ hc) (cn_X6_stops_10 fu F1 G1 hm)
theorem cw_X6_stops_5 (fu : Nat) {res : Int32 × PF × PG} (C : cMC p R s m args c A v RX6 cX6_stops 3 1 21 (xn res.2.1 - xn K0)) (hret : ∀ (b1 : Nat) (H1 : Heap) (locs1 : List Loc) (ls1 : Array Slot) (pc : Nat), cMW s A v a b1 K0 res.2.1 res.2.2 H1 locs1 → decode cX6_stops pc = .ok (.return_, 1) → W p l e R s m args below meth c H1 locs1 (xn res.2.1 - xn K0) (2 * (xn res.2.1 - xn K0)) Q (F0 m pc ls1 [])) (x1 : Int32) (F : PF) (G : PG) (hm : cb_X6_stops_5 fu x1 F G = some res) {b : Nat} {H : Heap} {locs : List Loc} (hw : cMW s A v a b K0 F G H locs) {ls : Array Slot} (hl : lv_has ls 3 [(0, .ref (a 206)), (1, .int x1)]) : W p l e R s m args below meth c H locs (xn F - xn K0) (2 * (xn F - xn K0)) Q (F0 m 5 ls []) := by
  have hx := C.1
  have hb := C.2.1
  unfold cb_X6_stops_5 at hm
  refine lv_aload_n hx hb dX6_stops_5 rfl (lv_at hl 0 rfl) ?_
  refine lv_iload_n hx hb dX6_stops_6 rfl (lv_at hl 1 rfl) ?_
  obtain ⟨⟨r1, F1, G1⟩, hc, hm⟩ := bind_elim hm
  refine ccallV (n := 1) (As := [.int x1]) (rest := []) C hw (ck_X6_over l v a _ _ fu x1 F G r1 F1 G1 hc) (cn_X6_over fu x1 F G _ hc) (Nat.sub_le_sub_right (cn_X6_stops_10 fu F1 G1 hm) _) (crecv_X6 C hw) cm_834 cm_835 cm_836 cm_21 cm_837 (by decide +kernel) rfl (by omega) (by omega) hl.1 rfl (Nat.le_of_ble_eq_true rfl) dX6_stops_7 (fun b H locs hw => ?_)
  exact cw_X6_stops_10 fu C hret F1 G1 hm hw (lv_sub hl [] rfl)
theorem cn_X6_stops_0 (fu : Nat) {res : Int32 × PF × PG} (x1 : Int32) (x2 : Int32) (F : PF) (G : PG) (hm : cb_X6_stops_0 fu x1 x2 F G = some res) : xn F ≤ xn res.2.1 := by
  unfold cb_X6_stops_0 at hm
  exact Nat.le_trans (Nat.le_of_eq (xn_fup (by decide)).symm) (cn_X6_stops_5 fu x1 (fup F 57 x2) G hm)
theorem cw_X6_stops_0 (fu : Nat) {res : Int32 × PF × PG} (C : cMC p R s m args c A v RX6 cX6_stops 3 1 21 (xn res.2.1 - xn K0)) (hret : ∀ (b1 : Nat) (H1 : Heap) (locs1 : List Loc) (ls1 : Array Slot) (pc : Nat), cMW s A v a b1 K0 res.2.1 res.2.2 H1 locs1 → decode cX6_stops pc = .ok (.return_, 1) → W p l e R s m args below meth c H1 locs1 (xn res.2.1 - xn K0) (2 * (xn res.2.1 - xn K0)) Q (F0 m pc ls1 [])) (x1 : Int32) (x2 : Int32) (F : PF) (G : PG) (hm : cb_X6_stops_0 fu x1 x2 F G = some res) {b : Nat} {H : Heap} {locs : List Loc} (hw : cMW s A v a b K0 F G H locs) {ls : Array Slot} (hl : lv_has ls 3 [(0, .ref (a 206)), (1, .int x1), (2, .int x2)]) : W p l e R s m args below meth c H locs (xn F - xn K0) (2 * (xn F - xn K0)) Q (F0 m 0 ls []) := by
  have hx := C.1
  have hb := C.2.1
  unfold cb_X6_stops_0 at hm
  refine lv_aload_n hx hb dX6_stops_0 rfl (lv_at hl 0 rfl) ?_
  refine lv_iload_n hx hb dX6_stops_1 rfl (lv_at hl 2 rfl) ?_
  refine cp_X6_70 C hw dX6_stops_2 (fun H locs hw => ?_)
  exact cw_X6_stops_5 fu C hret x1 (fup F 57 x2) G hm hw (lv_sub hl [0, 1] rfl)
theorem cn_X6_stops (fu : Nat) (x1 : Int32) (x2 : Int32) (F : PF) (G : PG) (q : Int32 × PF × PG) (hm : cf_X6_stops fu x1 x2 F G = some q) : xn F ≤ xn q.2.1 := cn_X6_stops_0 fu x1 x2 F G hm
theorem ck_X6_stops (l : Launch) (v : EV) (a : Nat → Nat) (b sz : Nat) (fu : Nat) (x1 : Int32) (x2 : Int32) (F : PF) (G : PG) (r : Int32) (F1 : PF) (G1 : PG) (hm : cf_X6_stops fu x1 x2 F G = some (r, F1, G1)) : cMV l yX6_stops cX6_stops 3 1 21 v a b sz [.ref (a 206), .int x1, .int x2] F G F1 G1 := cMV.of (by decide) (Nat.le_of_ble_eq_true rfl) (fun p e R s m args below meth c Q A H locs ls C hw hl hret => cw_X6_stops_0 fu (res := (r, F1, G1)) C hret x1 x2 F G hm hw hl)
def cb_X6_call_44 (fu : Nat) (F : PF) (G : PG) : PR := some (0, F, G)
def cb_X6_call_43 (fu : Nat) (z0 : Int32) (F : PF) (G : PG) : PR := cb_X6_call_44 fu F G
def cb_X6_call_37 (fu : Nat) (x2 : Int32) (x3 : Int32) (F : PF) (G : PG) : PR := (cf_X6_enters fu x2 x3 F G).bind (fun q => cb_X6_call_43 fu q.1 q.2.1 q.2.2)
def cb_X6_call_34 (fu : Nat) (x2 : Int32) (x3 : Int32) (z0 : Int32) (F : PF) (G : PG) : PR := if z0 = (0 : Int32) then cb_X6_call_44 fu F G else cb_X6_call_37 fu x2 x3 F G
def cb_X6_call_26 (fu : Nat) (x2 : Int32) (x3 : Int32) (F : PF) (G : PG) : PR := (cf_X8_has fu x2 F G).bind (fun q => cb_X6_call_34 fu x2 x3 q.1 q.2.1 q.2.2)
def cb_X6_call_23 (fu : Nat) (F : PF) (G : PG) : PR := cb_X6_call_44 fu F G
def cb_X6_call_17 (fu : Nat) (x1 : Int32) (F : PF) (G : PG) : PR := (cf_X6_stops fu 1 x1 F G).bind (fun q => cb_X6_call_23 fu q.2.1 q.2.2)
def cb_X6_call_14 (fu : Nat) (x1 : Int32) (x2 : Int32) (x3 : Int32) (z0 : Int32) (F : PF) (G : PG) : PR := if z0 = (0 : Int32) then cb_X6_call_17 fu x1 F G else cb_X6_call_26 fu x2 x3 F G
def cb_X6_call_9 (fu : Nat) (x1 : Int32) (x2 : Int32) (z0 : Int32) (F : PF) (G : PG) : PR := (cf_X6_takesTurn fu F G).bind (fun q => cb_X6_call_14 fu x1 x2 z0 q.1 q.2.1 q.2.2)
def cb_X6_call_4 (fu : Nat) (x1 : Int32) (z0 : Int32) (F : PF) (G : PG) : PR := (cf_X6_next fu F G).bind (fun q => cb_X6_call_9 fu x1 z0 q.1 q.2.1 q.2.2)
def cb_X6_call_0 (fu : Nat) (x1 : Int32) (F : PF) (G : PG) : PR := (cf_X6_next fu F G).bind (fun q => cb_X6_call_4 fu x1 q.1 q.2.1 q.2.2)
def cf_X6_call (fu : Nat) (x1 : Int32) (F : PF) (G : PG) : PR := cb_X6_call_0 fu x1 F G
theorem cn_X6_call_44 (fu : Nat) {res : Int32 × PF × PG} (F : PF) (G : PG) (hm : cb_X6_call_44 fu F G = some res) : xn F ≤ xn res.2.1 := by
  unfold cb_X6_call_44 at hm
  obtain rfl := Option.some.inj hm
  exact Nat.le_refl _
theorem cw_X6_call_44 (fu : Nat) {res : Int32 × PF × PG} (C : cMC p R s m args c A v RX6 cX6_call 4 2 46 (xn res.2.1 - xn K0)) (hret : ∀ (b1 : Nat) (H1 : Heap) (locs1 : List Loc) (ls1 : Array Slot) (pc : Nat), cMW s A v a b1 K0 res.2.1 res.2.2 H1 locs1 → decode cX6_call pc = .ok (.return_, 1) → W p l e R s m args below meth c H1 locs1 (xn res.2.1 - xn K0) (2 * (xn res.2.1 - xn K0)) Q (F0 m pc ls1 [])) (F : PF) (G : PG) (hm : cb_X6_call_44 fu F G = some res) {b : Nat} {H : Heap} {locs : List Loc} (hw : cMW s A v a b K0 F G H locs) {ls : Array Slot} (hl : lv_has ls 4 []) : W p l e R s m args below meth c H locs (xn F - xn K0) (2 * (xn F - xn K0)) Q (F0 m 44 ls []) := by
  have hx := C.1
  have hb := C.2.1
  unfold cb_X6_call_44 at hm
  obtain rfl := Option.some.inj hm
  exact hret _ _ _ _ _ hw dX6_call_44
theorem cn_X6_call_43 (fu : Nat) {res : Int32 × PF × PG} (z0 : Int32) (F : PF) (G : PG) (hm : cb_X6_call_43 fu z0 F G = some res) : xn F ≤ xn res.2.1 := by
  unfold cb_X6_call_43 at hm
  exact (cn_X6_call_44 fu F G hm)
theorem cw_X6_call_43 (fu : Nat) {res : Int32 × PF × PG} (C : cMC p R s m args c A v RX6 cX6_call 4 2 46 (xn res.2.1 - xn K0)) (hret : ∀ (b1 : Nat) (H1 : Heap) (locs1 : List Loc) (ls1 : Array Slot) (pc : Nat), cMW s A v a b1 K0 res.2.1 res.2.2 H1 locs1 → decode cX6_call pc = .ok (.return_, 1) → W p l e R s m args below meth c H1 locs1 (xn res.2.1 - xn K0) (2 * (xn res.2.1 - xn K0)) Q (F0 m pc ls1 [])) (z0 : Int32) (F : PF) (G : PG) (hm : cb_X6_call_43 fu z0 F G = some res) {b : Nat} {H : Heap} {locs : List Loc} (hw : cMW s A v a b K0 F G H locs) {ls : Array Slot} (hl : lv_has ls 4 []) : W p l e R s m args below meth c H locs (xn F - xn K0) (2 * (xn F - xn K0)) Q (F0 m 43 ls [.int z0]) := by
  have hx := C.1
  have hb := C.2.1
  unfold cb_X6_call_43 at hm
  refine lv_pop hx hb dX6_call_43 rfl ?_
  exact cw_X6_call_44 fu C hret F G hm hw (lv_sub hl [] rfl)
theorem cn_X6_call_37 (fu : Nat) {res : Int32 × PF × PG} (x2 : Int32) (x3 : Int32) (F : PF) (G : PG) (hm : cb_X6_call_37 fu x2 x3 F G = some res) : xn F ≤ xn res.2.1 := by
  unfold cb_X6_call_37 at hm
  obtain ⟨⟨r1, F1, G1⟩, hc, hm⟩ := bind_elim hm
  exact Nat.le_trans (cn_X6_enters fu x2 x3 F G _ hc) (cn_X6_call_43 fu r1 F1 G1 hm)
theorem cw_X6_call_37 (fu : Nat) {res : Int32 × PF × PG} (C : cMC p R s m args c A v RX6 cX6_call 4 2 46 (xn res.2.1 - xn K0)) (hret : ∀ (b1 : Nat) (H1 : Heap) (locs1 : List Loc) (ls1 : Array Slot) (pc : Nat), cMW s A v a b1 K0 res.2.1 res.2.2 H1 locs1 → decode cX6_call pc = .ok (.return_, 1) → W p l e R s m args below meth c H1 locs1 (xn res.2.1 - xn K0) (2 * (xn res.2.1 - xn K0)) Q (F0 m pc ls1 [])) (x2 : Int32) (x3 : Int32) (F : PF) (G : PG) (hm : cb_X6_call_37 fu x2 x3 F G = some res) {b : Nat} {H : Heap} {locs : List Loc} (hw : cMW s A v a b K0 F G H locs) {ls : Array Slot} (hl : lv_has ls 4 [(0, .ref (a 206)), (2, .int x2), (3, .int x3)]) : W p l e R s m args below meth c H locs (xn F - xn K0) (2 * (xn F - xn K0)) Q (F0 m 37 ls []) := by
  have hx := C.1
  have hb := C.2.1
  unfold cb_X6_call_37 at hm
  refine lv_aload_n hx hb dX6_call_37 rfl (lv_at hl 0 rfl) ?_
  refine lv_iload_n hx hb dX6_call_38 rfl (lv_at hl 1 rfl) ?_
  refine lv_iload_n hx hb dX6_call_39 rfl (lv_at hl 2 rfl) ?_
  obtain ⟨⟨r1, F1, G1⟩, hc, hm⟩ := bind_elim hm
  refine ccallI (n := 2) (As := [.int x2, .int x3]) (rest := []) C hw (ck_X6_enters l v a _ _ fu x2 x3 F G r1 F1 G1 hc) (cn_X6_enters fu x2 x3 F G _ hc) (Nat.sub_le_sub_right (cn_X6_call_43 fu r1 F1 G1 hm) _) (crecv_X6 C hw) cm_838 cm_839 cm_840 cm_21 cm_841 (by decide +kernel) rfl (by omega) (by omega) hl.1 rfl (Nat.le_of_ble_eq_true rfl) dX6_call_40 (fun b H locs hw => ?_)
  exact cw_X6_call_43 fu C hret r1 F1 G1 hm hw (lv_sub hl [] rfl)
theorem cn_X6_call_34 (fu : Nat) {res : Int32 × PF × PG} (x2 : Int32) (x3 : Int32) (z0 : Int32) (F : PF) (G : PG) (hm : cb_X6_call_34 fu x2 x3 z0 F G = some res) : xn F ≤ xn res.2.1 := by
  unfold cb_X6_call_34 at hm
  by_cases c_1 : z0 = (0 : Int32)
  · have hm := (if_pos c_1).symm.trans hm
    exact (cn_X6_call_44 fu F G hm)
  · have hm := (if_neg c_1).symm.trans hm
    exact (cn_X6_call_37 fu x2 x3 F G hm)
theorem cw_X6_call_34 (fu : Nat) {res : Int32 × PF × PG} (C : cMC p R s m args c A v RX6 cX6_call 4 2 46 (xn res.2.1 - xn K0)) (hret : ∀ (b1 : Nat) (H1 : Heap) (locs1 : List Loc) (ls1 : Array Slot) (pc : Nat), cMW s A v a b1 K0 res.2.1 res.2.2 H1 locs1 → decode cX6_call pc = .ok (.return_, 1) → W p l e R s m args below meth c H1 locs1 (xn res.2.1 - xn K0) (2 * (xn res.2.1 - xn K0)) Q (F0 m pc ls1 [])) (x2 : Int32) (x3 : Int32) (z0 : Int32) (F : PF) (G : PG) (hm : cb_X6_call_34 fu x2 x3 z0 F G = some res) {b : Nat} {H : Heap} {locs : List Loc} (hw : cMW s A v a b K0 F G H locs) {ls : Array Slot} (hl : lv_has ls 4 [(0, .ref (a 206)), (2, .int x2), (3, .int x3)]) : W p l e R s m args below meth c H locs (xn F - xn K0) (2 * (xn F - xn K0)) Q (F0 m 34 ls [.int z0]) := by
  have hx := C.1
  have hb := C.2.1
  unfold cb_X6_call_34 at hm
  refine lv_if_eq (tgt := 44) hx hb dX6_call_34 (by decide) (fun c_1 => ?_) (fun c_1 => ?_)
  · have hm := (if_pos c_1).symm.trans hm
    exact cw_X6_call_44 fu C hret F G hm hw (lv_sub hl [] rfl)
  · have hm := (if_neg c_1).symm.trans hm
    exact cw_X6_call_37 fu C hret x2 x3 F G hm hw (lv_sub hl [0, 1, 2] rfl)
theorem cn_X6_call_26 (fu : Nat) {res : Int32 × PF × PG} (x2 : Int32) (x3 : Int32) (F : PF) (G : PG) (hm : cb_X6_call_26 fu x2 x3 F G = some res) : xn F ≤ xn res.2.1 := by
  unfold cb_X6_call_26 at hm
  obtain ⟨⟨r1, F1, G1⟩, hc, hm⟩ := bind_elim hm
  exact Nat.le_trans (cn_X8_has fu x2 F G _ hc) (cn_X6_call_34 fu x2 x3 r1 F1 G1 hm)
theorem cw_X6_call_26 (fu : Nat) {res : Int32 × PF × PG} (C : cMC p R s m args c A v RX6 cX6_call 4 2 46 (xn res.2.1 - xn K0)) (hret : ∀ (b1 : Nat) (H1 : Heap) (locs1 : List Loc) (ls1 : Array Slot) (pc : Nat), cMW s A v a b1 K0 res.2.1 res.2.2 H1 locs1 → decode cX6_call pc = .ok (.return_, 1) → W p l e R s m args below meth c H1 locs1 (xn res.2.1 - xn K0) (2 * (xn res.2.1 - xn K0)) Q (F0 m pc ls1 [])) (x2 : Int32) (x3 : Int32) (F : PF) (G : PG) (hm : cb_X6_call_26 fu x2 x3 F G = some res) {b : Nat} {H : Heap} {locs : List Loc} (hw : cMW s A v a b K0 F G H locs) {ls : Array Slot} (hl : lv_has ls 4 [(0, .ref (a 206)), (2, .int x2), (3, .int x3)]) : W p l e R s m args below meth c H locs (xn F - xn K0) (2 * (xn F - xn K0)) Q (F0 m 26 ls []) := by
  have hx := C.1
  have hb := C.2.1
  unfold cb_X6_call_26 at hm
  refine lv_aload_n hx hb dX6_call_26 rfl (lv_at hl 0 rfl) ?_
  refine cg_X6_22 C hw dX6_call_27 ?_
  refine lv_iload_n hx hb dX6_call_30 rfl (lv_at hl 1 rfl) ?_
  obtain ⟨⟨r1, F1, G1⟩, hc, hm⟩ := bind_elim hm
  refine ccallI (n := 1) (As := [.int x2]) (rest := []) C hw (ck_X8_has l v a _ _ fu x2 F G r1 F1 G1 hc) (cn_X8_has fu x2 F G _ hc) (Nat.sub_le_sub_right (cn_X6_call_34 fu x2 x3 r1 F1 G1 hm) _) (crecv_X8 C hw) cm_833 cm_405 cm_406 cm_254 cm_407 (by decide +kernel) rfl (by omega) (by omega) hl.1 rfl (Nat.le_of_ble_eq_true rfl) dX6_call_31 (fun b H locs hw => ?_)
  exact cw_X6_call_34 fu C hret x2 x3 r1 F1 G1 hm hw (lv_sub hl [0, 1, 2] rfl)
theorem cn_X6_call_23 (fu : Nat) {res : Int32 × PF × PG} (F : PF) (G : PG) (hm : cb_X6_call_23 fu F G = some res) : xn F ≤ xn res.2.1 := by
  unfold cb_X6_call_23 at hm
  exact (cn_X6_call_44 fu F G hm)
theorem cw_X6_call_23 (fu : Nat) {res : Int32 × PF × PG} (C : cMC p R s m args c A v RX6 cX6_call 4 2 46 (xn res.2.1 - xn K0)) (hret : ∀ (b1 : Nat) (H1 : Heap) (locs1 : List Loc) (ls1 : Array Slot) (pc : Nat), cMW s A v a b1 K0 res.2.1 res.2.2 H1 locs1 → decode cX6_call pc = .ok (.return_, 1) → W p l e R s m args below meth c H1 locs1 (xn res.2.1 - xn K0) (2 * (xn res.2.1 - xn K0)) Q (F0 m pc ls1 [])) (F : PF) (G : PG) (hm : cb_X6_call_23 fu F G = some res) {b : Nat} {H : Heap} {locs : List Loc} (hw : cMW s A v a b K0 F G H locs) {ls : Array Slot} (hl : lv_has ls 4 []) : W p l e R s m args below meth c H locs (xn F - xn K0) (2 * (xn F - xn K0)) Q (F0 m 23 ls []) := by
  have hx := C.1
  have hb := C.2.1
  unfold cb_X6_call_23 at hm
  refine lv_goto (tgt := 44) hx hb dX6_call_23 (by decide) ?_
  exact cw_X6_call_44 fu C hret F G hm hw (lv_sub hl [] rfl)
theorem cn_X6_call_17 (fu : Nat) {res : Int32 × PF × PG} (x1 : Int32) (F : PF) (G : PG) (hm : cb_X6_call_17 fu x1 F G = some res) : xn F ≤ xn res.2.1 := by
  unfold cb_X6_call_17 at hm
  obtain ⟨⟨r1, F1, G1⟩, hc, hm⟩ := bind_elim hm
  exact Nat.le_trans (cn_X6_stops fu 1 x1 F G _ hc) (cn_X6_call_23 fu F1 G1 hm)
theorem cw_X6_call_17 (fu : Nat) {res : Int32 × PF × PG} (C : cMC p R s m args c A v RX6 cX6_call 4 2 46 (xn res.2.1 - xn K0)) (hret : ∀ (b1 : Nat) (H1 : Heap) (locs1 : List Loc) (ls1 : Array Slot) (pc : Nat), cMW s A v a b1 K0 res.2.1 res.2.2 H1 locs1 → decode cX6_call pc = .ok (.return_, 1) → W p l e R s m args below meth c H1 locs1 (xn res.2.1 - xn K0) (2 * (xn res.2.1 - xn K0)) Q (F0 m pc ls1 [])) (x1 : Int32) (F : PF) (G : PG) (hm : cb_X6_call_17 fu x1 F G = some res) {b : Nat} {H : Heap} {locs : List Loc} (hw : cMW s A v a b K0 F G H locs) {ls : Array Slot} (hl : lv_has ls 4 [(0, .ref (a 206)), (1, .int x1)]) : W p l e R s m args below meth c H locs (xn F - xn K0) (2 * (xn F - xn K0)) Q (F0 m 17 ls []) := by
  have hx := C.1
  have hb := C.2.1
  unfold cb_X6_call_17 at hm
  refine lv_aload_n hx hb dX6_call_17 rfl (lv_at hl 0 rfl) ?_
  refine lv_iconst (v := 1) hx hb dX6_call_18 (by decide) ?_
  refine lv_iload_n hx hb dX6_call_19 rfl (lv_at hl 1 rfl) ?_
  obtain ⟨⟨r1, F1, G1⟩, hc, hm⟩ := bind_elim hm
  refine ccallV (n := 2) (As := [.int 1, .int x1]) (rest := []) C hw (ck_X6_stops l v a _ _ fu 1 x1 F G r1 F1 G1 hc) (cn_X6_stops fu 1 x1 F G _ hc) (Nat.sub_le_sub_right (cn_X6_call_23 fu F1 G1 hm) _) (crecv_X6 C hw) cm_896 cm_897 cm_898 cm_21 cm_899 (by decide +kernel) rfl (by omega) (by omega) hl.1 rfl (Nat.le_of_ble_eq_true rfl) dX6_call_20 (fun b H locs hw => ?_)
  exact cw_X6_call_23 fu C hret F1 G1 hm hw (lv_sub hl [] rfl)
theorem cn_X6_call_14 (fu : Nat) {res : Int32 × PF × PG} (x1 : Int32) (x2 : Int32) (x3 : Int32) (z0 : Int32) (F : PF) (G : PG) (hm : cb_X6_call_14 fu x1 x2 x3 z0 F G = some res) : xn F ≤ xn res.2.1 := by
  unfold cb_X6_call_14 at hm
  by_cases c_1 : z0 = (0 : Int32)
  · have hm := (if_pos c_1).symm.trans hm
    exact (cn_X6_call_17 fu x1 F G hm)
  · have hm := (if_neg c_1).symm.trans hm
    exact (cn_X6_call_26 fu x2 x3 F G hm)
theorem cw_X6_call_14 (fu : Nat) {res : Int32 × PF × PG} (C : cMC p R s m args c A v RX6 cX6_call 4 2 46 (xn res.2.1 - xn K0)) (hret : ∀ (b1 : Nat) (H1 : Heap) (locs1 : List Loc) (ls1 : Array Slot) (pc : Nat), cMW s A v a b1 K0 res.2.1 res.2.2 H1 locs1 → decode cX6_call pc = .ok (.return_, 1) → W p l e R s m args below meth c H1 locs1 (xn res.2.1 - xn K0) (2 * (xn res.2.1 - xn K0)) Q (F0 m pc ls1 [])) (x1 : Int32) (x2 : Int32) (x3 : Int32) (z0 : Int32) (F : PF) (G : PG) (hm : cb_X6_call_14 fu x1 x2 x3 z0 F G = some res) {b : Nat} {H : Heap} {locs : List Loc} (hw : cMW s A v a b K0 F G H locs) {ls : Array Slot} (hl : lv_has ls 4 [(0, .ref (a 206)), (1, .int x1), (2, .int x2), (3, .int x3)]) : W p l e R s m args below meth c H locs (xn F - xn K0) (2 * (xn F - xn K0)) Q (F0 m 14 ls [.int z0]) := by
  have hx := C.1
  have hb := C.2.1
  unfold cb_X6_call_14 at hm
  refine lv_if_ne (tgt := 26) hx hb dX6_call_14 (by decide) (fun c_1 => ?_) (fun c_1 => ?_)
  · have hm := (if_neg c_1).symm.trans hm
    exact cw_X6_call_26 fu C hret x2 x3 F G hm hw (lv_sub hl [0, 2, 3] rfl)
  · have hm := (if_pos c_1).symm.trans hm
    exact cw_X6_call_17 fu C hret x1 F G hm hw (lv_sub hl [0, 1] rfl)
theorem cn_X6_call_9 (fu : Nat) {res : Int32 × PF × PG} (x1 : Int32) (x2 : Int32) (z0 : Int32) (F : PF) (G : PG) (hm : cb_X6_call_9 fu x1 x2 z0 F G = some res) : xn F ≤ xn res.2.1 := by
  unfold cb_X6_call_9 at hm
  obtain ⟨⟨r1, F1, G1⟩, hc, hm⟩ := bind_elim hm
  exact Nat.le_trans (cn_X6_takesTurn fu F G _ hc) (cn_X6_call_14 fu x1 x2 z0 r1 F1 G1 hm)
theorem cw_X6_call_9 (fu : Nat) {res : Int32 × PF × PG} (C : cMC p R s m args c A v RX6 cX6_call 4 2 46 (xn res.2.1 - xn K0)) (hret : ∀ (b1 : Nat) (H1 : Heap) (locs1 : List Loc) (ls1 : Array Slot) (pc : Nat), cMW s A v a b1 K0 res.2.1 res.2.2 H1 locs1 → decode cX6_call pc = .ok (.return_, 1) → W p l e R s m args below meth c H1 locs1 (xn res.2.1 - xn K0) (2 * (xn res.2.1 - xn K0)) Q (F0 m pc ls1 [])) (x1 : Int32) (x2 : Int32) (z0 : Int32) (F : PF) (G : PG) (hm : cb_X6_call_9 fu x1 x2 z0 F G = some res) {b : Nat} {H : Heap} {locs : List Loc} (hw : cMW s A v a b K0 F G H locs) {ls : Array Slot} (hl : lv_has ls 4 [(0, .ref (a 206)), (1, .int x1), (2, .int x2)]) : W p l e R s m args below meth c H locs (xn F - xn K0) (2 * (xn F - xn K0)) Q (F0 m 9 ls [.int z0]) := by
  have hx := C.1
  have hb := C.2.1
  unfold cb_X6_call_9 at hm
  refine lv_istore_n (lv' := [(3, .int z0), (0, .ref (a 206)), (1, .int x1), (2, .int x2)]) hx hb dX6_call_9 rfl hl (by decide) rfl (fun ls hl => ?_)
  refine lv_aload_n hx hb dX6_call_10 rfl (lv_at hl 1 rfl) ?_
  obtain ⟨⟨r1, F1, G1⟩, hc, hm⟩ := bind_elim hm
  refine ccallI (n := 0) (As := []) (rest := []) C hw (ck_X6_takesTurn l v a _ _ fu F G r1 F1 G1 hc) (cn_X6_takesTurn fu F G _ hc) (Nat.sub_le_sub_right (cn_X6_call_14 fu x1 x2 z0 r1 F1 G1 hm) _) (crecv_X6 C hw) cm_892 cm_893 cm_894 cm_21 cm_895 (by decide +kernel) rfl (by omega) (by omega) hl.1 rfl (Nat.le_of_ble_eq_true rfl) dX6_call_11 (fun b H locs hw => ?_)
  exact cw_X6_call_14 fu C hret x1 x2 z0 r1 F1 G1 hm hw (lv_sub hl [1, 2, 3, 0] rfl)
theorem cn_X6_call_4 (fu : Nat) {res : Int32 × PF × PG} (x1 : Int32) (z0 : Int32) (F : PF) (G : PG) (hm : cb_X6_call_4 fu x1 z0 F G = some res) : xn F ≤ xn res.2.1 := by
  unfold cb_X6_call_4 at hm
  obtain ⟨⟨r1, F1, G1⟩, hc, hm⟩ := bind_elim hm
  exact Nat.le_trans (cn_X6_next fu F G _ hc) (cn_X6_call_9 fu x1 z0 r1 F1 G1 hm)
theorem cw_X6_call_4 (fu : Nat) {res : Int32 × PF × PG} (C : cMC p R s m args c A v RX6 cX6_call 4 2 46 (xn res.2.1 - xn K0)) (hret : ∀ (b1 : Nat) (H1 : Heap) (locs1 : List Loc) (ls1 : Array Slot) (pc : Nat), cMW s A v a b1 K0 res.2.1 res.2.2 H1 locs1 → decode cX6_call pc = .ok (.return_, 1) → W p l e R s m args below meth c H1 locs1 (xn res.2.1 - xn K0) (2 * (xn res.2.1 - xn K0)) Q (F0 m pc ls1 [])) (x1 : Int32) (z0 : Int32) (F : PF) (G : PG) (hm : cb_X6_call_4 fu x1 z0 F G = some res) {b : Nat} {H : Heap} {locs : List Loc} (hw : cMW s A v a b K0 F G H locs) {ls : Array Slot} (hl : lv_has ls 4 [(0, .ref (a 206)), (1, .int x1)]) : W p l e R s m args below meth c H locs (xn F - xn K0) (2 * (xn F - xn K0)) Q (F0 m 4 ls [.int z0]) := by
  have hx := C.1
  have hb := C.2.1
  unfold cb_X6_call_4 at hm
  refine lv_istore_n (lv' := [(2, .int z0), (0, .ref (a 206)), (1, .int x1)]) hx hb dX6_call_4 rfl hl (by decide) rfl (fun ls hl => ?_)
  refine lv_aload_n hx hb dX6_call_5 rfl (lv_at hl 1 rfl) ?_
  obtain ⟨⟨r1, F1, G1⟩, hc, hm⟩ := bind_elim hm
  refine ccallI (n := 0) (As := []) (rest := []) C hw (ck_X6_next l v a _ _ fu F G r1 F1 G1 hc) (cn_X6_next fu F G _ hc) (Nat.sub_le_sub_right (cn_X6_call_9 fu x1 z0 r1 F1 G1 hm) _) (crecv_X6 C hw) cm_529 cm_530 cm_531 cm_21 cm_532 (by decide +kernel) rfl (by omega) (by omega) hl.1 rfl (Nat.le_of_ble_eq_true rfl) dX6_call_6 (fun b H locs hw => ?_)
  exact cw_X6_call_9 fu C hret x1 z0 r1 F1 G1 hm hw (lv_sub hl [1, 2, 0] rfl)
theorem cn_X6_call_0 (fu : Nat) {res : Int32 × PF × PG} (x1 : Int32) (F : PF) (G : PG) (hm : cb_X6_call_0 fu x1 F G = some res) : xn F ≤ xn res.2.1 := by
  unfold cb_X6_call_0 at hm
  obtain ⟨⟨r1, F1, G1⟩, hc, hm⟩ := bind_elim hm
  exact Nat.le_trans (cn_X6_next fu F G _ hc) (cn_X6_call_4 fu x1 r1 F1 G1 hm)
theorem cw_X6_call_0 (fu : Nat) {res : Int32 × PF × PG} (C : cMC p R s m args c A v RX6 cX6_call 4 2 46 (xn res.2.1 - xn K0)) (hret : ∀ (b1 : Nat) (H1 : Heap) (locs1 : List Loc) (ls1 : Array Slot) (pc : Nat), cMW s A v a b1 K0 res.2.1 res.2.2 H1 locs1 → decode cX6_call pc = .ok (.return_, 1) → W p l e R s m args below meth c H1 locs1 (xn res.2.1 - xn K0) (2 * (xn res.2.1 - xn K0)) Q (F0 m pc ls1 [])) (x1 : Int32) (F : PF) (G : PG) (hm : cb_X6_call_0 fu x1 F G = some res) {b : Nat} {H : Heap} {locs : List Loc} (hw : cMW s A v a b K0 F G H locs) {ls : Array Slot} (hl : lv_has ls 4 [(0, .ref (a 206)), (1, .int x1)]) : W p l e R s m args below meth c H locs (xn F - xn K0) (2 * (xn F - xn K0)) Q (F0 m 0 ls []) := by
  have hx := C.1
  have hb := C.2.1
  unfold cb_X6_call_0 at hm
  refine lv_aload_n hx hb dX6_call_0 rfl (lv_at hl 0 rfl) ?_
  obtain ⟨⟨r1, F1, G1⟩, hc, hm⟩ := bind_elim hm
  refine ccallI (n := 0) (As := []) (rest := []) C hw (ck_X6_next l v a _ _ fu F G r1 F1 G1 hc) (cn_X6_next fu F G _ hc) (Nat.sub_le_sub_right (cn_X6_call_4 fu x1 r1 F1 G1 hm) _) (crecv_X6 C hw) cm_529 cm_530 cm_531 cm_21 cm_532 (by decide +kernel) rfl (by omega) (by omega) hl.1 rfl (Nat.le_of_ble_eq_true rfl) dX6_call_1 (fun b H locs hw => ?_)
  exact cw_X6_call_4 fu C hret x1 r1 F1 G1 hm hw (lv_sub hl [0, 1] rfl)
theorem cn_X6_call (fu : Nat) (x1 : Int32) (F : PF) (G : PG) (q : Int32 × PF × PG) (hm : cf_X6_call fu x1 F G = some q) : xn F ≤ xn q.2.1 := cn_X6_call_0 fu x1 F G hm
theorem ck_X6_call (l : Launch) (v : EV) (a : Nat → Nat) (b sz : Nat) (fu : Nat) (x1 : Int32) (F : PF) (G : PG) (r : Int32) (F1 : PF) (G1 : PG) (hm : cf_X6_call fu x1 F G = some (r, F1, G1)) : cMV l yX6_call cX6_call 4 2 46 v a b sz [.ref (a 206), .int x1] F G F1 G1 := cMV.of (by decide) (Nat.le_of_ble_eq_true rfl) (fun p e R s m args below meth c Q A H locs ls C hw hl hret => cw_X6_call_0 fu (res := (r, F1, G1)) C hret x1 F G hm hw hl)
def cb_X7_handIn_43 (fu : Nat) (x1 : Int32) (F : PF) (G : PG) : PR := some (x1, F, G)
def cb_X7_handIn_33 (fu : Nat) (x1 : Int32) (F : PF) (G : PG) : PR := cb_X7_handIn_43 fu x1 (fup F 70 ((F 70) - (1 : Int32))) G
def cb_X7_handIn_9 (fu : Nat) (F : PF) (G : PG) : PR := if ixb (F 69) 500 = true then (cb_X7_handIn_33 fu (G 68 (F 69).toNatClampNeg) (fup F 69 (((F 69) + (1 : Int32)) - ((F 69) + (1 : Int32)) / (500 : Int32) * (500 : Int32))) G) else none
def cb_X7_handIn_7 (fu : Nat) (F : PF) (G : PG) : PR := some (0, F, G)
def cb_X7_handIn_0 (fu : Nat) (F : PF) (G : PG) : PR := if (0 : Int32) < (F 70) then cb_X7_handIn_9 fu F G else cb_X7_handIn_7 fu F G
def cf_X7_handIn (fu : Nat) (F : PF) (G : PG) : PR := cb_X7_handIn_0 fu F G
theorem cn_X7_handIn_43 (fu : Nat) {res : Int32 × PF × PG} (x1 : Int32) (F : PF) (G : PG) (hm : cb_X7_handIn_43 fu x1 F G = some res) : xn F ≤ xn res.2.1 := by
  unfold cb_X7_handIn_43 at hm
  obtain rfl := Option.some.inj hm
  exact Nat.le_refl _
theorem cw_X7_handIn_43 (fu : Nat) {res : Int32 × PF × PG} (C : cMC p R s m args c A v RX7 cX7_handIn 2 0 0 (xn res.2.1 - xn K0)) (hret : ∀ (b1 : Nat) (H1 : Heap) (locs1 : List Loc) (ls1 : Array Slot) (pc : Nat), cMW s A v a b1 K0 res.2.1 res.2.2 H1 locs1 → narrow .int (.int res.1) = .int res.1 → decode cX7_handIn pc = .ok (.ireturn, 1) → W p l e R s m args below meth c H1 locs1 (xn res.2.1 - xn K0) (2 * (xn res.2.1 - xn K0)) Q (F0 m pc ls1 [.int res.1])) (x1 : Int32) (F : PF) (G : PG) (hm : cb_X7_handIn_43 fu x1 F G = some res) {b : Nat} {H : Heap} {locs : List Loc} (hw : cMW s A v a b K0 F G H locs) {ls : Array Slot} (hl : lv_has ls 2 [(1, .int x1)]) : W p l e R s m args below meth c H locs (xn F - xn K0) (2 * (xn F - xn K0)) Q (F0 m 43 ls []) := by
  have hx := C.1
  have hb := C.2.1
  unfold cb_X7_handIn_43 at hm
  refine lv_iload_n hx hb dX7_handIn_43 rfl (lv_at hl 0 rfl) ?_
  obtain rfl := Option.some.inj hm
  exact hret _ _ _ _ _ hw rfl dX7_handIn_44
theorem cn_X7_handIn_33 (fu : Nat) {res : Int32 × PF × PG} (x1 : Int32) (F : PF) (G : PG) (hm : cb_X7_handIn_33 fu x1 F G = some res) : xn F ≤ xn res.2.1 := by
  unfold cb_X7_handIn_33 at hm
  exact Nat.le_trans (Nat.le_of_eq (xn_fup (by decide)).symm) (cn_X7_handIn_43 fu x1 (fup F 70 ((F 70) - (1 : Int32))) G hm)
theorem cw_X7_handIn_33 (fu : Nat) {res : Int32 × PF × PG} (C : cMC p R s m args c A v RX7 cX7_handIn 2 0 0 (xn res.2.1 - xn K0)) (hret : ∀ (b1 : Nat) (H1 : Heap) (locs1 : List Loc) (ls1 : Array Slot) (pc : Nat), cMW s A v a b1 K0 res.2.1 res.2.2 H1 locs1 → narrow .int (.int res.1) = .int res.1 → decode cX7_handIn pc = .ok (.ireturn, 1) → W p l e R s m args below meth c H1 locs1 (xn res.2.1 - xn K0) (2 * (xn res.2.1 - xn K0)) Q (F0 m pc ls1 [.int res.1])) (x1 : Int32) (F : PF) (G : PG) (hm : cb_X7_handIn_33 fu x1 F G = some res) {b : Nat} {H : Heap} {locs : List Loc} (hw : cMW s A v a b K0 F G H locs) {ls : Array Slot} (hl : lv_has ls 2 [(0, .ref (a 207)), (1, .int x1)]) : W p l e R s m args below meth c H locs (xn F - xn K0) (2 * (xn F - xn K0)) Q (F0 m 33 ls []) := by
  have hx := C.1
  have hb := C.2.1
  unfold cb_X7_handIn_33 at hm
  refine lv_aload_n hx hb dX7_handIn_33 rfl (lv_at hl 0 rfl) ?_
  refine lv_dup hx hb dX7_handIn_34 rfl ?_
  refine cg_X7_20 C hw dX7_handIn_35 ?_
  refine lv_iconst (v := 1) hx hb dX7_handIn_38 (by decide) ?_
  refine lv_isub hx hb dX7_handIn_39 ?_
  refine cp_X7_20 C hw dX7_handIn_40 (fun H locs hw => ?_)
  exact cw_X7_handIn_43 fu C hret x1 (fup F 70 ((F 70) - (1 : Int32))) G hm hw (lv_sub hl [1] rfl)
theorem cn_X7_handIn_9 (fu : Nat) {res : Int32 × PF × PG} (F : PF) (G : PG) (hm : cb_X7_handIn_9 fu F G = some res) : xn F ≤ xn res.2.1 := by
  unfold cb_X7_handIn_9 at hm
  have hm := (ix_elim hm).2
  exact Nat.le_trans (Nat.le_of_eq (xn_fup (by decide)).symm) (cn_X7_handIn_33 fu (G 68 (F 69).toNatClampNeg) (fup F 69 (((F 69) + (1 : Int32)) - ((F 69) + (1 : Int32)) / (500 : Int32) * (500 : Int32))) G hm)
theorem cw_X7_handIn_9 (fu : Nat) {res : Int32 × PF × PG} (C : cMC p R s m args c A v RX7 cX7_handIn 2 0 0 (xn res.2.1 - xn K0)) (hret : ∀ (b1 : Nat) (H1 : Heap) (locs1 : List Loc) (ls1 : Array Slot) (pc : Nat), cMW s A v a b1 K0 res.2.1 res.2.2 H1 locs1 → narrow .int (.int res.1) = .int res.1 → decode cX7_handIn pc = .ok (.ireturn, 1) → W p l e R s m args below meth c H1 locs1 (xn res.2.1 - xn K0) (2 * (xn res.2.1 - xn K0)) Q (F0 m pc ls1 [.int res.1])) (F : PF) (G : PG) (hm : cb_X7_handIn_9 fu F G = some res) {b : Nat} {H : Heap} {locs : List Loc} (hw : cMW s A v a b K0 F G H locs) {ls : Array Slot} (hl : lv_has ls 2 [(0, .ref (a 207))]) : W p l e R s m args below meth c H locs (xn F - xn K0) (2 * (xn F - xn K0)) Q (F0 m 9 ls []) := by
  have hx := C.1
  have hb := C.2.1
  unfold cb_X7_handIn_9 at hm
  refine lv_aload_n hx hb dX7_handIn_9 rfl (lv_at hl 0 rfl) ?_
  refine cg_X7_9 C hw dX7_handIn_10 ?_
  refine lv_aload_n hx hb dX7_handIn_13 rfl (lv_at hl 0 rfl) ?_
  refine cg_X7_16 C hw dX7_handIn_14 ?_
  obtain ⟨hi, hm⟩ := ix_elim hm
  refine cal_68 C hw hi dX7_handIn_17 ?_
  refine lv_istore_n (lv' := [(1, .int (G 68 (F 69).toNatClampNeg)), (0, .ref (a 207))]) hx hb dX7_handIn_18 rfl hl (by decide) rfl (fun ls hl => ?_)
  refine lv_aload_n hx hb dX7_handIn_19 rfl (lv_at hl 1 rfl) ?_
  refine lv_aload_n hx hb dX7_handIn_20 rfl (lv_at hl 1 rfl) ?_
  refine cg_X7_16 C hw dX7_handIn_21 ?_
  refine lv_iconst (v := 1) hx hb dX7_handIn_24 (by decide) ?_
  refine lv_iadd hx hb dX7_handIn_25 ?_
  refine lv_sipush (v := 500) hx hb dX7_handIn_26 (by decide) ?_
  refine lv_irem hx hb dX7_handIn_29 (by decide) ?_
  refine cp_X7_16 C hw dX7_handIn_30 (fun H locs hw => ?_)
  exact cw_X7_handIn_33 fu C hret (G 68 (F 69).toNatClampNeg) (fup F 69 (((F 69) + (1 : Int32)) - ((F 69) + (1 : Int32)) / (500 : Int32) * (500 : Int32))) G hm hw (lv_sub hl [1, 0] rfl)
theorem cn_X7_handIn_7 (fu : Nat) {res : Int32 × PF × PG} (F : PF) (G : PG) (hm : cb_X7_handIn_7 fu F G = some res) : xn F ≤ xn res.2.1 := by
  unfold cb_X7_handIn_7 at hm
  obtain rfl := Option.some.inj hm
  exact Nat.le_refl _
theorem cw_X7_handIn_7 (fu : Nat) {res : Int32 × PF × PG} (C : cMC p R s m args c A v RX7 cX7_handIn 2 0 0 (xn res.2.1 - xn K0)) (hret : ∀ (b1 : Nat) (H1 : Heap) (locs1 : List Loc) (ls1 : Array Slot) (pc : Nat), cMW s A v a b1 K0 res.2.1 res.2.2 H1 locs1 → narrow .int (.int res.1) = .int res.1 → decode cX7_handIn pc = .ok (.ireturn, 1) → W p l e R s m args below meth c H1 locs1 (xn res.2.1 - xn K0) (2 * (xn res.2.1 - xn K0)) Q (F0 m pc ls1 [.int res.1])) (F : PF) (G : PG) (hm : cb_X7_handIn_7 fu F G = some res) {b : Nat} {H : Heap} {locs : List Loc} (hw : cMW s A v a b K0 F G H locs) {ls : Array Slot} (hl : lv_has ls 2 []) : W p l e R s m args below meth c H locs (xn F - xn K0) (2 * (xn F - xn K0)) Q (F0 m 7 ls []) := by
  have hx := C.1
  have hb := C.2.1
  unfold cb_X7_handIn_7 at hm
  refine lv_iconst (v := 0) hx hb dX7_handIn_7 (by decide) ?_
  obtain rfl := Option.some.inj hm
  exact hret _ _ _ _ _ hw rfl dX7_handIn_8
theorem cn_X7_handIn_0 (fu : Nat) {res : Int32 × PF × PG} (F : PF) (G : PG) (hm : cb_X7_handIn_0 fu F G = some res) : xn F ≤ xn res.2.1 := by
  unfold cb_X7_handIn_0 at hm
  by_cases c_1 : (0 : Int32) < (F 70)
  · have hm := (if_pos c_1).symm.trans hm
    exact (cn_X7_handIn_9 fu F G hm)
  · have hm := (if_neg c_1).symm.trans hm
    exact (cn_X7_handIn_7 fu F G hm)
theorem cw_X7_handIn_0 (fu : Nat) {res : Int32 × PF × PG} (C : cMC p R s m args c A v RX7 cX7_handIn 2 0 0 (xn res.2.1 - xn K0)) (hret : ∀ (b1 : Nat) (H1 : Heap) (locs1 : List Loc) (ls1 : Array Slot) (pc : Nat), cMW s A v a b1 K0 res.2.1 res.2.2 H1 locs1 → narrow .int (.int res.1) = .int res.1 → decode cX7_handIn pc = .ok (.ireturn, 1) → W p l e R s m args below meth c H1 locs1 (xn res.2.1 - xn K0) (2 * (xn res.2.1 - xn K0)) Q (F0 m pc ls1 [.int res.1])) (F : PF) (G : PG) (hm : cb_X7_handIn_0 fu F G = some res) {b : Nat} {H : Heap} {locs : List Loc} (hw : cMW s A v a b K0 F G H locs) {ls : Array Slot} (hl : lv_has ls 2 [(0, .ref (a 207))]) : W p l e R s m args below meth c H locs (xn F - xn K0) (2 * (xn F - xn K0)) Q (F0 m 0 ls []) := by
  have hx := C.1
  have hb := C.2.1
  unfold cb_X7_handIn_0 at hm
  refine lv_aload_n hx hb dX7_handIn_0 rfl (lv_at hl 0 rfl) ?_
  refine cg_X7_20 C hw dX7_handIn_1 ?_
  refine lv_if_gt (tgt := 9) hx hb dX7_handIn_4 (by decide) (fun c_1 => ?_) (fun c_1 => ?_)
  · have hm := (if_pos c_1).symm.trans hm
    exact cw_X7_handIn_9 fu C hret F G hm hw (lv_sub hl [0] rfl)
  · have hm := (if_neg c_1).symm.trans hm
    exact cw_X7_handIn_7 fu C hret F G hm hw (lv_sub hl [] rfl)
theorem cn_X7_handIn (fu : Nat) (F : PF) (G : PG) (q : Int32 × PF × PG) (hm : cf_X7_handIn fu F G = some q) : xn F ≤ xn q.2.1 := cn_X7_handIn_0 fu F G hm
theorem ck_X7_handIn (l : Launch) (v : EV) (a : Nat → Nat) (b sz : Nat) (fu : Nat) (F : PF) (G : PG) (r : Int32) (F1 : PF) (G1 : PG) (hm : cf_X7_handIn fu F G = some (r, F1, G1)) : cMI l yX7_handIn cX7_handIn 2 (some .int) 0 0 v a b sz [.ref (a 207)] F G r F1 G1 := cMI.of (ty := .int) (by decide) rfl (Nat.le_of_ble_eq_true rfl) (fun p e R s m args below meth c Q A H locs ls C hw hl hret => cw_X7_handIn_0 fu (res := (r, F1, G1)) C hret F G hm hw hl)
def cb_X6_leave_58 (fu : Nat) (F : PF) (G : PG) : PR := some (0, F, G)
def cb_X6_leave_55 (fu : Nat) (z0 : Int32) (F : PF) (G : PG) : PR := cb_X6_leave_58 fu (fup F 58 z0) G
def cb_X6_leave_44 (fu : Nat) (F : PF) (G : PG) : PR := (cf_X6_held fu ((F 58) + (1 : Int32)) F G).bind (fun q => cb_X6_leave_55 fu q.1 q.2.1 q.2.2)
def cb_X6_leave_41 (fu : Nat) (z0 : Int32) (F : PF) (G : PG) : PR := cb_X6_leave_44 fu (fup F 57 z0) G
def cb_X6_leave_32 (fu : Nat) (F : PF) (G : PG) : PR := (cf_X6_held fu (F 58) F G).bind (fun q => cb_X6_leave_41 fu q.1 q.2.1 q.2.2)
def cb_X6_leave_31 (fu : Nat) (F : PF) (G : PG) : PR := some (0, F, G)
def cb_X6_leave_26 (fu : Nat) (F : PF) (G : PG) : PR := (cf_X6_over fu 3 F G).bind (fun q => cb_X6_leave_31 fu q.2.1 q.2.2)
def cb_X6_leave_23 (fu : Nat) (z0 : Int32) (F : PF) (G : PG) : PR := cb_X6_leave_26 fu (fup F 65 z0) G
def cb_X6_leave_18 (fu : Nat) (F : PF) (G : PG) : PR := (cf_X6_pop fu F G).bind (fun q => cb_X6_leave_23 fu q.1 q.2.1 q.2.2)
def cb_X6_leave_8 (fu : Nat) (F : PF) (G : PG) : PR := if (F 58) = (2000 : Int32) then cb_X6_leave_18 fu F G else cb_X6_leave_32 fu F G
def cb_X6_leave_0 (fu : Nat) (F : PF) (G : PG) : PR := cb_X6_leave_8 fu (fup F 59 (F 58)) G
def cf_X6_leave (fu : Nat) (F : PF) (G : PG) : PR := cb_X6_leave_0 fu F G
theorem cn_X6_leave_58 (fu : Nat) {res : Int32 × PF × PG} (F : PF) (G : PG) (hm : cb_X6_leave_58 fu F G = some res) : xn F ≤ xn res.2.1 := by
  unfold cb_X6_leave_58 at hm
  obtain rfl := Option.some.inj hm
  exact Nat.le_refl _
theorem cw_X6_leave_58 (fu : Nat) {res : Int32 × PF × PG} (C : cMC p R s m args c A v RX6 cX6_leave 1 1 21 (xn res.2.1 - xn K0)) (hret : ∀ (b1 : Nat) (H1 : Heap) (locs1 : List Loc) (ls1 : Array Slot) (pc : Nat), cMW s A v a b1 K0 res.2.1 res.2.2 H1 locs1 → decode cX6_leave pc = .ok (.return_, 1) → W p l e R s m args below meth c H1 locs1 (xn res.2.1 - xn K0) (2 * (xn res.2.1 - xn K0)) Q (F0 m pc ls1 [])) (F : PF) (G : PG) (hm : cb_X6_leave_58 fu F G = some res) {b : Nat} {H : Heap} {locs : List Loc} (hw : cMW s A v a b K0 F G H locs) {ls : Array Slot} (hl : lv_has ls 1 []) : W p l e R s m args below meth c H locs (xn F - xn K0) (2 * (xn F - xn K0)) Q (F0 m 58 ls []) := by
  have hx := C.1
  have hb := C.2.1
  unfold cb_X6_leave_58 at hm
  obtain rfl := Option.some.inj hm
  exact hret _ _ _ _ _ hw dX6_leave_58
theorem cn_X6_leave_55 (fu : Nat) {res : Int32 × PF × PG} (z0 : Int32) (F : PF) (G : PG) (hm : cb_X6_leave_55 fu z0 F G = some res) : xn F ≤ xn res.2.1 := by
  unfold cb_X6_leave_55 at hm
  exact Nat.le_trans (Nat.le_of_eq (xn_fup (by decide)).symm) (cn_X6_leave_58 fu (fup F 58 z0) G hm)
theorem cw_X6_leave_55 (fu : Nat) {res : Int32 × PF × PG} (C : cMC p R s m args c A v RX6 cX6_leave 1 1 21 (xn res.2.1 - xn K0)) (hret : ∀ (b1 : Nat) (H1 : Heap) (locs1 : List Loc) (ls1 : Array Slot) (pc : Nat), cMW s A v a b1 K0 res.2.1 res.2.2 H1 locs1 → decode cX6_leave pc = .ok (.return_, 1) → W p l e R s m args below meth c H1 locs1 (xn res.2.1 - xn K0) (2 * (xn res.2.1 - xn K0)) Q (F0 m pc ls1 [])) (z0 : Int32) (F : PF) (G : PG) (hm : cb_X6_leave_55 fu z0 F G = some res) {b : Nat} {H : Heap} {locs : List Loc} (hw : cMW s A v a b K0 F G H locs) {ls : Array Slot} (hl : lv_has ls 1 []) : W p l e R s m args below meth c H locs (xn F - xn K0) (2 * (xn F - xn K0)) Q (F0 m 55 ls [.int z0, .ref (a 206)]) := by
  have hx := C.1
  have hb := C.2.1
  unfold cb_X6_leave_55 at hm
  refine cp_X6_140 C hw dX6_leave_55 (fun H locs hw => ?_)
  exact cw_X6_leave_58 fu C hret (fup F 58 z0) G hm hw (lv_sub hl [] rfl)
theorem cn_X6_leave_44 (fu : Nat) {res : Int32 × PF × PG} (F : PF) (G : PG) (hm : cb_X6_leave_44 fu F G = some res) : xn F ≤ xn res.2.1 := by
  unfold cb_X6_leave_44 at hm
  obtain ⟨⟨r1, F1, G1⟩, hc, hm⟩ := bind_elim hm
  exact Nat.le_trans (cn_X6_held fu ((F 58) + (1 : Int32)) F G _ hc) (cn_X6_leave_55 fu r1 F1 G1 hm)
theorem cw_X6_leave_44 (fu : Nat) {res : Int32 × PF × PG} (C : cMC p R s m args c A v RX6 cX6_leave 1 1 21 (xn res.2.1 - xn K0)) (hret : ∀ (b1 : Nat) (H1 : Heap) (locs1 : List Loc) (ls1 : Array Slot) (pc : Nat), cMW s A v a b1 K0 res.2.1 res.2.2 H1 locs1 → decode cX6_leave pc = .ok (.return_, 1) → W p l e R s m args below meth c H1 locs1 (xn res.2.1 - xn K0) (2 * (xn res.2.1 - xn K0)) Q (F0 m pc ls1 [])) (F : PF) (G : PG) (hm : cb_X6_leave_44 fu F G = some res) {b : Nat} {H : Heap} {locs : List Loc} (hw : cMW s A v a b K0 F G H locs) {ls : Array Slot} (hl : lv_has ls 1 [(0, .ref (a 206))]) : W p l e R s m args below meth c H locs (xn F - xn K0) (2 * (xn F - xn K0)) Q (F0 m 44 ls []) := by
  have hx := C.1
  have hb := C.2.1
  unfold cb_X6_leave_44 at hm
  refine lv_aload_n hx hb dX6_leave_44 rfl (lv_at hl 0 rfl) ?_
  refine lv_aload_n hx hb dX6_leave_45 rfl (lv_at hl 0 rfl) ?_
  refine lv_aload_n hx hb dX6_leave_46 rfl (lv_at hl 0 rfl) ?_
  refine cg_X6_140 C hw dX6_leave_47 ?_
  refine lv_iconst (v := 1) hx hb dX6_leave_50 (by decide) ?_
  refine lv_iadd hx hb dX6_leave_51 ?_
  obtain ⟨⟨r1, F1, G1⟩, hc, hm⟩ := bind_elim hm
  refine ccallI (n := 1) (As := [.int ((F 58) + (1 : Int32))]) (rest := [.ref (a 206)]) C hw (ck_X6_held l v a _ _ fu ((F 58) + (1 : Int32)) F G r1 F1 G1 hc) (cn_X6_held fu ((F 58) + (1 : Int32)) F G _ hc) (Nat.sub_le_sub_right (cn_X6_leave_55 fu r1 F1 G1 hm) _) (crecv_X6 C hw) cm_862 cm_863 cm_864 cm_21 cm_865 (by decide +kernel) rfl (by omega) (by omega) hl.1 rfl (Nat.le_of_ble_eq_true rfl) dX6_leave_52 (fun b H locs hw => ?_)
  exact cw_X6_leave_55 fu C hret r1 F1 G1 hm hw (lv_sub hl [] rfl)
theorem cn_X6_leave_41 (fu : Nat) {res : Int32 × PF × PG} (z0 : Int32) (F : PF) (G : PG) (hm : cb_X6_leave_41 fu z0 F G = some res) : xn F ≤ xn res.2.1 := by
  unfold cb_X6_leave_41 at hm
  exact Nat.le_trans (Nat.le_of_eq (xn_fup (by decide)).symm) (cn_X6_leave_44 fu (fup F 57 z0) G hm)
theorem cw_X6_leave_41 (fu : Nat) {res : Int32 × PF × PG} (C : cMC p R s m args c A v RX6 cX6_leave 1 1 21 (xn res.2.1 - xn K0)) (hret : ∀ (b1 : Nat) (H1 : Heap) (locs1 : List Loc) (ls1 : Array Slot) (pc : Nat), cMW s A v a b1 K0 res.2.1 res.2.2 H1 locs1 → decode cX6_leave pc = .ok (.return_, 1) → W p l e R s m args below meth c H1 locs1 (xn res.2.1 - xn K0) (2 * (xn res.2.1 - xn K0)) Q (F0 m pc ls1 [])) (z0 : Int32) (F : PF) (G : PG) (hm : cb_X6_leave_41 fu z0 F G = some res) {b : Nat} {H : Heap} {locs : List Loc} (hw : cMW s A v a b K0 F G H locs) {ls : Array Slot} (hl : lv_has ls 1 [(0, .ref (a 206))]) : W p l e R s m args below meth c H locs (xn F - xn K0) (2 * (xn F - xn K0)) Q (F0 m 41 ls [.int z0, .ref (a 206)]) := by
  have hx := C.1
  have hb := C.2.1
  unfold cb_X6_leave_41 at hm
  refine cp_X6_70 C hw dX6_leave_41 (fun H locs hw => ?_)
  exact cw_X6_leave_44 fu C hret (fup F 57 z0) G hm hw (lv_sub hl [0] rfl)
theorem cn_X6_leave_32 (fu : Nat) {res : Int32 × PF × PG} (F : PF) (G : PG) (hm : cb_X6_leave_32 fu F G = some res) : xn F ≤ xn res.2.1 := by
  unfold cb_X6_leave_32 at hm
  obtain ⟨⟨r1, F1, G1⟩, hc, hm⟩ := bind_elim hm
  exact Nat.le_trans (cn_X6_held fu (F 58) F G _ hc) (cn_X6_leave_41 fu r1 F1 G1 hm)
theorem cw_X6_leave_32 (fu : Nat) {res : Int32 × PF × PG} (C : cMC p R s m args c A v RX6 cX6_leave 1 1 21 (xn res.2.1 - xn K0)) (hret : ∀ (b1 : Nat) (H1 : Heap) (locs1 : List Loc) (ls1 : Array Slot) (pc : Nat), cMW s A v a b1 K0 res.2.1 res.2.2 H1 locs1 → decode cX6_leave pc = .ok (.return_, 1) → W p l e R s m args below meth c H1 locs1 (xn res.2.1 - xn K0) (2 * (xn res.2.1 - xn K0)) Q (F0 m pc ls1 [])) (F : PF) (G : PG) (hm : cb_X6_leave_32 fu F G = some res) {b : Nat} {H : Heap} {locs : List Loc} (hw : cMW s A v a b K0 F G H locs) {ls : Array Slot} (hl : lv_has ls 1 [(0, .ref (a 206))]) : W p l e R s m args below meth c H locs (xn F - xn K0) (2 * (xn F - xn K0)) Q (F0 m 32 ls []) := by
  have hx := C.1
  have hb := C.2.1
  unfold cb_X6_leave_32 at hm
  refine lv_aload_n hx hb dX6_leave_32 rfl (lv_at hl 0 rfl) ?_
  refine lv_aload_n hx hb dX6_leave_33 rfl (lv_at hl 0 rfl) ?_
  refine lv_aload_n hx hb dX6_leave_34 rfl (lv_at hl 0 rfl) ?_
  refine cg_X6_140 C hw dX6_leave_35 ?_
  obtain ⟨⟨r1, F1, G1⟩, hc, hm⟩ := bind_elim hm
  refine ccallI (n := 1) (As := [.int (F 58)]) (rest := [.ref (a 206)]) C hw (ck_X6_held l v a _ _ fu (F 58) F G r1 F1 G1 hc) (cn_X6_held fu (F 58) F G _ hc) (Nat.sub_le_sub_right (cn_X6_leave_41 fu r1 F1 G1 hm) _) (crecv_X6 C hw) cm_862 cm_863 cm_864 cm_21 cm_865 (by decide +kernel) rfl (by omega) (by omega) hl.1 rfl (Nat.le_of_ble_eq_true rfl) dX6_leave_38 (fun b H locs hw => ?_)
  exact cw_X6_leave_41 fu C hret r1 F1 G1 hm hw (lv_sub hl [0] rfl)
theorem cn_X6_leave_31 (fu : Nat) {res : Int32 × PF × PG} (F : PF) (G : PG) (hm : cb_X6_leave_31 fu F G = some res) : xn F ≤ xn res.2.1 := by
  unfold cb_X6_leave_31 at hm
  obtain rfl := Option.some.inj hm
  exact Nat.le_refl _
theorem cw_X6_leave_31 (fu : Nat) {res : Int32 × PF × PG} (C : cMC p R s m args c A v RX6 cX6_leave 1 1 21 (xn res.2.1 - xn K0)) (hret : ∀ (b1 : Nat) (H1 : Heap) (locs1 : List Loc) (ls1 : Array Slot) (pc : Nat), cMW s A v a b1 K0 res.2.1 res.2.2 H1 locs1 → decode cX6_leave pc = .ok (.return_, 1) → W p l e R s m args below meth c H1 locs1 (xn res.2.1 - xn K0) (2 * (xn res.2.1 - xn K0)) Q (F0 m pc ls1 [])) (F : PF) (G : PG) (hm : cb_X6_leave_31 fu F G = some res) {b : Nat} {H : Heap} {locs : List Loc} (hw : cMW s A v a b K0 F G H locs) {ls : Array Slot} (hl : lv_has ls 1 []) : W p l e R s m args below meth c H locs (xn F - xn K0) (2 * (xn F - xn K0)) Q (F0 m 31 ls []) := by
  have hx := C.1
  have hb := C.2.1
  unfold cb_X6_leave_31 at hm
  obtain rfl := Option.some.inj hm
  exact hret _ _ _ _ _ hw dX6_leave_31
theorem cn_X6_leave_26 (fu : Nat) {res : Int32 × PF × PG} (F : PF) (G : PG) (hm : cb_X6_leave_26 fu F G = some res) : xn F ≤ xn res.2.1 := by
  unfold cb_X6_leave_26 at hm
  obtain ⟨⟨r1, F1, G1⟩, hc, hm⟩ := bind_elim hm
  exact Nat.le_trans (cn_X6_over fu 3 F G _ hc) (cn_X6_leave_31 fu F1 G1 hm)
theorem cw_X6_leave_26 (fu : Nat) {res : Int32 × PF × PG} (C : cMC p R s m args c A v RX6 cX6_leave 1 1 21 (xn res.2.1 - xn K0)) (hret : ∀ (b1 : Nat) (H1 : Heap) (locs1 : List Loc) (ls1 : Array Slot) (pc : Nat), cMW s A v a b1 K0 res.2.1 res.2.2 H1 locs1 → decode cX6_leave pc = .ok (.return_, 1) → W p l e R s m args below meth c H1 locs1 (xn res.2.1 - xn K0) (2 * (xn res.2.1 - xn K0)) Q (F0 m pc ls1 [])) (F : PF) (G : PG) (hm : cb_X6_leave_26 fu F G = some res) {b : Nat} {H : Heap} {locs : List Loc} (hw : cMW s A v a b K0 F G H locs) {ls : Array Slot} (hl : lv_has ls 1 [(0, .ref (a 206))]) : W p l e R s m args below meth c H locs (xn F - xn K0) (2 * (xn F - xn K0)) Q (F0 m 26 ls []) := by
  have hx := C.1
  have hb := C.2.1
  unfold cb_X6_leave_26 at hm
  refine lv_aload_n hx hb dX6_leave_26 rfl (lv_at hl 0 rfl) ?_
  refine lv_iconst (v := 3) hx hb dX6_leave_27 (by decide) ?_
  obtain ⟨⟨r1, F1, G1⟩, hc, hm⟩ := bind_elim hm
  refine ccallV (n := 1) (As := [.int 3]) (rest := []) C hw (ck_X6_over l v a _ _ fu 3 F G r1 F1 G1 hc) (cn_X6_over fu 3 F G _ hc) (Nat.sub_le_sub_right (cn_X6_leave_31 fu F1 G1 hm) _) (crecv_X6 C hw) cm_834 cm_835 cm_836 cm_21 cm_837 (by decide +kernel) rfl (by omega) (by omega) hl.1 rfl (Nat.le_of_ble_eq_true rfl) dX6_leave_28 (fun b H locs hw => ?_)
  exact cw_X6_leave_31 fu C hret F1 G1 hm hw (lv_sub hl [] rfl)
theorem cn_X6_leave_23 (fu : Nat) {res : Int32 × PF × PG} (z0 : Int32) (F : PF) (G : PG) (hm : cb_X6_leave_23 fu z0 F G = some res) : xn F ≤ xn res.2.1 := by
  unfold cb_X6_leave_23 at hm
  exact Nat.le_trans (Nat.le_of_eq (xn_fup (by decide)).symm) (cn_X6_leave_26 fu (fup F 65 z0) G hm)
theorem cw_X6_leave_23 (fu : Nat) {res : Int32 × PF × PG} (C : cMC p R s m args c A v RX6 cX6_leave 1 1 21 (xn res.2.1 - xn K0)) (hret : ∀ (b1 : Nat) (H1 : Heap) (locs1 : List Loc) (ls1 : Array Slot) (pc : Nat), cMW s A v a b1 K0 res.2.1 res.2.2 H1 locs1 → decode cX6_leave pc = .ok (.return_, 1) → W p l e R s m args below meth c H1 locs1 (xn res.2.1 - xn K0) (2 * (xn res.2.1 - xn K0)) Q (F0 m pc ls1 [])) (z0 : Int32) (F : PF) (G : PG) (hm : cb_X6_leave_23 fu z0 F G = some res) {b : Nat} {H : Heap} {locs : List Loc} (hw : cMW s A v a b K0 F G H locs) {ls : Array Slot} (hl : lv_has ls 1 [(0, .ref (a 206))]) : W p l e R s m args below meth c H locs (xn F - xn K0) (2 * (xn F - xn K0)) Q (F0 m 23 ls [.int z0, .ref (a 206)]) := by
  have hx := C.1
  have hb := C.2.1
  unfold cb_X6_leave_23 at hm
  refine cp_X6_43 C hw dX6_leave_23 (fun H locs hw => ?_)
  exact cw_X6_leave_26 fu C hret (fup F 65 z0) G hm hw (lv_sub hl [0] rfl)
theorem cn_X6_leave_18 (fu : Nat) {res : Int32 × PF × PG} (F : PF) (G : PG) (hm : cb_X6_leave_18 fu F G = some res) : xn F ≤ xn res.2.1 := by
  unfold cb_X6_leave_18 at hm
  obtain ⟨⟨r1, F1, G1⟩, hc, hm⟩ := bind_elim hm
  exact Nat.le_trans (cn_X6_pop fu F G _ hc) (cn_X6_leave_23 fu r1 F1 G1 hm)
theorem cw_X6_leave_18 (fu : Nat) {res : Int32 × PF × PG} (C : cMC p R s m args c A v RX6 cX6_leave 1 1 21 (xn res.2.1 - xn K0)) (hret : ∀ (b1 : Nat) (H1 : Heap) (locs1 : List Loc) (ls1 : Array Slot) (pc : Nat), cMW s A v a b1 K0 res.2.1 res.2.2 H1 locs1 → decode cX6_leave pc = .ok (.return_, 1) → W p l e R s m args below meth c H1 locs1 (xn res.2.1 - xn K0) (2 * (xn res.2.1 - xn K0)) Q (F0 m pc ls1 [])) (F : PF) (G : PG) (hm : cb_X6_leave_18 fu F G = some res) {b : Nat} {H : Heap} {locs : List Loc} (hw : cMW s A v a b K0 F G H locs) {ls : Array Slot} (hl : lv_has ls 1 [(0, .ref (a 206))]) : W p l e R s m args below meth c H locs (xn F - xn K0) (2 * (xn F - xn K0)) Q (F0 m 18 ls []) := by
  have hx := C.1
  have hb := C.2.1
  unfold cb_X6_leave_18 at hm
  refine lv_aload_n hx hb dX6_leave_18 rfl (lv_at hl 0 rfl) ?_
  refine lv_aload_n hx hb dX6_leave_19 rfl (lv_at hl 0 rfl) ?_
  obtain ⟨⟨r1, F1, G1⟩, hc, hm⟩ := bind_elim hm
  refine ccallI (n := 0) (As := []) (rest := [.ref (a 206)]) C hw (ck_X6_pop l v a _ _ fu F G r1 F1 G1 hc) (cn_X6_pop fu F G _ hc) (Nat.sub_le_sub_right (cn_X6_leave_23 fu r1 F1 G1 hm) _) (crecv_X6 C hw) cm_558 cm_559 cm_560 cm_21 cm_561 (by decide +kernel) rfl (by omega) (by omega) hl.1 rfl (Nat.le_of_ble_eq_true rfl) dX6_leave_20 (fun b H locs hw => ?_)
  exact cw_X6_leave_23 fu C hret r1 F1 G1 hm hw (lv_sub hl [0] rfl)
theorem cn_X6_leave_8 (fu : Nat) {res : Int32 × PF × PG} (F : PF) (G : PG) (hm : cb_X6_leave_8 fu F G = some res) : xn F ≤ xn res.2.1 := by
  unfold cb_X6_leave_8 at hm
  by_cases c_1 : (F 58) = (2000 : Int32)
  · have hm := (if_pos c_1).symm.trans hm
    exact (cn_X6_leave_18 fu F G hm)
  · have hm := (if_neg c_1).symm.trans hm
    exact (cn_X6_leave_32 fu F G hm)
theorem cw_X6_leave_8 (fu : Nat) {res : Int32 × PF × PG} (C : cMC p R s m args c A v RX6 cX6_leave 1 1 21 (xn res.2.1 - xn K0)) (hret : ∀ (b1 : Nat) (H1 : Heap) (locs1 : List Loc) (ls1 : Array Slot) (pc : Nat), cMW s A v a b1 K0 res.2.1 res.2.2 H1 locs1 → decode cX6_leave pc = .ok (.return_, 1) → W p l e R s m args below meth c H1 locs1 (xn res.2.1 - xn K0) (2 * (xn res.2.1 - xn K0)) Q (F0 m pc ls1 [])) (F : PF) (G : PG) (hm : cb_X6_leave_8 fu F G = some res) {b : Nat} {H : Heap} {locs : List Loc} (hw : cMW s A v a b K0 F G H locs) {ls : Array Slot} (hl : lv_has ls 1 [(0, .ref (a 206))]) : W p l e R s m args below meth c H locs (xn F - xn K0) (2 * (xn F - xn K0)) Q (F0 m 8 ls []) := by
  have hx := C.1
  have hb := C.2.1
  unfold cb_X6_leave_8 at hm
  refine lv_aload_n hx hb dX6_leave_8 rfl (lv_at hl 0 rfl) ?_
  refine cg_X6_140 C hw dX6_leave_9 ?_
  refine lv_sipush (v := 2000) hx hb dX6_leave_12 (by decide) ?_
  refine lv_icmp_ne (tgt := 32) hx hb dX6_leave_15 (by decide) (fun c_1 => ?_) (fun c_1 => ?_)
  · have hm := (if_neg c_1).symm.trans hm
    exact cw_X6_leave_32 fu C hret F G hm hw (lv_sub hl [0] rfl)
  · have hm := (if_pos c_1).symm.trans hm
    exact cw_X6_leave_18 fu C hret F G hm hw (lv_sub hl [0] rfl)
theorem cn_X6_leave_0 (fu : Nat) {res : Int32 × PF × PG} (F : PF) (G : PG) (hm : cb_X6_leave_0 fu F G = some res) : xn F ≤ xn res.2.1 := by
  unfold cb_X6_leave_0 at hm
  exact Nat.le_trans (Nat.le_of_eq (xn_fup (by decide)).symm) (cn_X6_leave_8 fu (fup F 59 (F 58)) G hm)
theorem cw_X6_leave_0 (fu : Nat) {res : Int32 × PF × PG} (C : cMC p R s m args c A v RX6 cX6_leave 1 1 21 (xn res.2.1 - xn K0)) (hret : ∀ (b1 : Nat) (H1 : Heap) (locs1 : List Loc) (ls1 : Array Slot) (pc : Nat), cMW s A v a b1 K0 res.2.1 res.2.2 H1 locs1 → decode cX6_leave pc = .ok (.return_, 1) → W p l e R s m args below meth c H1 locs1 (xn res.2.1 - xn K0) (2 * (xn res.2.1 - xn K0)) Q (F0 m pc ls1 [])) (F : PF) (G : PG) (hm : cb_X6_leave_0 fu F G = some res) {b : Nat} {H : Heap} {locs : List Loc} (hw : cMW s A v a b K0 F G H locs) {ls : Array Slot} (hl : lv_has ls 1 [(0, .ref (a 206))]) : W p l e R s m args below meth c H locs (xn F - xn K0) (2 * (xn F - xn K0)) Q (F0 m 0 ls []) := by
  have hx := C.1
  have hb := C.2.1
  unfold cb_X6_leave_0 at hm
  refine lv_aload_n hx hb dX6_leave_0 rfl (lv_at hl 0 rfl) ?_
  refine lv_aload_n hx hb dX6_leave_1 rfl (lv_at hl 0 rfl) ?_
  refine cg_X6_140 C hw dX6_leave_2 ?_
  refine cp_X6_34 C hw dX6_leave_5 (fun H locs hw => ?_)
  exact cw_X6_leave_8 fu C hret (fup F 59 (F 58)) G hm hw (lv_sub hl [0] rfl)
theorem cn_X6_leave (fu : Nat) (F : PF) (G : PG) (q : Int32 × PF × PG) (hm : cf_X6_leave fu F G = some q) : xn F ≤ xn q.2.1 := cn_X6_leave_0 fu F G hm
theorem ck_X6_leave (l : Launch) (v : EV) (a : Nat → Nat) (b sz : Nat) (fu : Nat) (F : PF) (G : PG) (r : Int32) (F1 : PF) (G1 : PG) (hm : cf_X6_leave fu F G = some (r, F1, G1)) : cMV l yX6_leave cX6_leave 1 1 21 v a b sz [.ref (a 206)] F G F1 G1 := cMV.of (by decide) (Nat.le_of_ble_eq_true rfl) (fun p e R s m args below meth c Q A H locs ls C hw hl hret => cw_X6_leave_0 fu (res := (r, F1, G1)) C hret F G hm hw hl)
def cb_X7_show_39 (fu : Nat) (F : PF) (G : PG) : PR := some (0, F, G)
def cb_X7_show_29 (fu : Nat) (F : PF) (G : PG) : PR := cb_X7_show_39 fu (fup F 72 ((F 72) + (1 : Int32))) G
def cb_X7_show_20 (fu : Nat) (F : PF) (G : PG) : PR := if (2147483647 : Int32) ≤ (F 72) then cb_X7_show_39 fu F G else cb_X7_show_29 fu F G
def cb_X7_show_10 (fu : Nat) (x1 : Int32) (F : PF) (G : PG) : PR := if ixb (F 72) 2000 = true then (cb_X7_show_20 fu F (gup G 71 (F 72).toNatClampNeg x1)) else none
def cb_X7_show_0 (fu : Nat) (x1 : Int32) (F : PF) (G : PG) : PR := if (2000 : Int32) ≤ (F 72) then cb_X7_show_20 fu F G else cb_X7_show_10 fu x1 F G
def cf_X7_show (fu : Nat) (x1 : Int32) (F : PF) (G : PG) : PR := cb_X7_show_0 fu x1 F G
theorem cn_X7_show_39 (fu : Nat) {res : Int32 × PF × PG} (F : PF) (G : PG) (hm : cb_X7_show_39 fu F G = some res) : xn F ≤ xn res.2.1 := by
  unfold cb_X7_show_39 at hm
  obtain rfl := Option.some.inj hm
  exact Nat.le_refl _
theorem cw_X7_show_39 (fu : Nat) {res : Int32 × PF × PG} (C : cMC p R s m args c A v RX7 cX7_show 2 0 0 (xn res.2.1 - xn K0)) (hret : ∀ (b1 : Nat) (H1 : Heap) (locs1 : List Loc) (ls1 : Array Slot) (pc : Nat), cMW s A v a b1 K0 res.2.1 res.2.2 H1 locs1 → decode cX7_show pc = .ok (.return_, 1) → W p l e R s m args below meth c H1 locs1 (xn res.2.1 - xn K0) (2 * (xn res.2.1 - xn K0)) Q (F0 m pc ls1 [])) (F : PF) (G : PG) (hm : cb_X7_show_39 fu F G = some res) {b : Nat} {H : Heap} {locs : List Loc} (hw : cMW s A v a b K0 F G H locs) {ls : Array Slot} (hl : lv_has ls 2 []) : W p l e R s m args below meth c H locs (xn F - xn K0) (2 * (xn F - xn K0)) Q (F0 m 39 ls []) := by
  have hx := C.1
  have hb := C.2.1
  unfold cb_X7_show_39 at hm
  obtain rfl := Option.some.inj hm
  exact hret _ _ _ _ _ hw dX7_show_39
theorem cn_X7_show_29 (fu : Nat) {res : Int32 × PF × PG} (F : PF) (G : PG) (hm : cb_X7_show_29 fu F G = some res) : xn F ≤ xn res.2.1 := by
  unfold cb_X7_show_29 at hm
  exact Nat.le_trans (Nat.le_of_eq (xn_fup (by decide)).symm) (cn_X7_show_39 fu (fup F 72 ((F 72) + (1 : Int32))) G hm)
theorem cw_X7_show_29 (fu : Nat) {res : Int32 × PF × PG} (C : cMC p R s m args c A v RX7 cX7_show 2 0 0 (xn res.2.1 - xn K0)) (hret : ∀ (b1 : Nat) (H1 : Heap) (locs1 : List Loc) (ls1 : Array Slot) (pc : Nat), cMW s A v a b1 K0 res.2.1 res.2.2 H1 locs1 → decode cX7_show pc = .ok (.return_, 1) → W p l e R s m args below meth c H1 locs1 (xn res.2.1 - xn K0) (2 * (xn res.2.1 - xn K0)) Q (F0 m pc ls1 [])) (F : PF) (G : PG) (hm : cb_X7_show_29 fu F G = some res) {b : Nat} {H : Heap} {locs : List Loc} (hw : cMW s A v a b K0 F G H locs) {ls : Array Slot} (hl : lv_has ls 2 [(0, .ref (a 207))]) : W p l e R s m args below meth c H locs (xn F - xn K0) (2 * (xn F - xn K0)) Q (F0 m 29 ls []) := by
  have hx := C.1
  have hb := C.2.1
  unfold cb_X7_show_29 at hm
  refine lv_aload_n hx hb dX7_show_29 rfl (lv_at hl 0 rfl) ?_
  refine lv_dup hx hb dX7_show_30 rfl ?_
  refine cg_X7_23 C hw dX7_show_31 ?_
  refine lv_iconst (v := 1) hx hb dX7_show_34 (by decide) ?_
  refine lv_iadd hx hb dX7_show_35 ?_
  refine cp_X7_23 C hw dX7_show_36 (fun H locs hw => ?_)
  exact cw_X7_show_39 fu C hret (fup F 72 ((F 72) + (1 : Int32))) G hm hw (lv_sub hl [] rfl)
theorem cn_X7_show_20 (fu : Nat) {res : Int32 × PF × PG} (F : PF) (G : PG) (hm : cb_X7_show_20 fu F G = some res) : xn F ≤ xn res.2.1 := by
  unfold cb_X7_show_20 at hm
  by_cases c_1 : (2147483647 : Int32) ≤ (F 72)
  · have hm := (if_pos c_1).symm.trans hm
    exact (cn_X7_show_39 fu F G hm)
  · have hm := (if_neg c_1).symm.trans hm
    exact (cn_X7_show_29 fu F G hm)
theorem cw_X7_show_20 (fu : Nat) {res : Int32 × PF × PG} (C : cMC p R s m args c A v RX7 cX7_show 2 0 0 (xn res.2.1 - xn K0)) (hret : ∀ (b1 : Nat) (H1 : Heap) (locs1 : List Loc) (ls1 : Array Slot) (pc : Nat), cMW s A v a b1 K0 res.2.1 res.2.2 H1 locs1 → decode cX7_show pc = .ok (.return_, 1) → W p l e R s m args below meth c H1 locs1 (xn res.2.1 - xn K0) (2 * (xn res.2.1 - xn K0)) Q (F0 m pc ls1 [])) (F : PF) (G : PG) (hm : cb_X7_show_20 fu F G = some res) {b : Nat} {H : Heap} {locs : List Loc} (hw : cMW s A v a b K0 F G H locs) {ls : Array Slot} (hl : lv_has ls 2 [(0, .ref (a 207))]) : W p l e R s m args below meth c H locs (xn F - xn K0) (2 * (xn F - xn K0)) Q (F0 m 20 ls []) := by
  have hx := C.1
  have hb := C.2.1
  unfold cb_X7_show_20 at hm
  refine lv_aload_n hx hb dX7_show_20 rfl (lv_at hl 0 rfl) ?_
  refine cg_X7_23 C hw dX7_show_21 ?_
  refine lv_ldc (v := 2147483647) hx hb C.2.2.2.1 (C.2.2.2.2.1 _ cm_913) dX7_show_24 ?_
  refine lv_icmp_ge (tgt := 39) hx hb dX7_show_26 (by decide) (fun c_1 => ?_) (fun c_1 => ?_)
  · have hm := (if_pos c_1).symm.trans hm
    exact cw_X7_show_39 fu C hret F G hm hw (lv_sub hl [] rfl)
  · have hm := (if_neg c_1).symm.trans hm
    exact cw_X7_show_29 fu C hret F G hm hw (lv_sub hl [0] rfl)
theorem cn_X7_show_10 (fu : Nat) {res : Int32 × PF × PG} (x1 : Int32) (F : PF) (G : PG) (hm : cb_X7_show_10 fu x1 F G = some res) : xn F ≤ xn res.2.1 := by
  unfold cb_X7_show_10 at hm
  have hm := (ix_elim hm).2
  exact (cn_X7_show_20 fu F (gup G 71 (F 72).toNatClampNeg x1) hm)
theorem cw_X7_show_10 (fu : Nat) {res : Int32 × PF × PG} (C : cMC p R s m args c A v RX7 cX7_show 2 0 0 (xn res.2.1 - xn K0)) (hret : ∀ (b1 : Nat) (H1 : Heap) (locs1 : List Loc) (ls1 : Array Slot) (pc : Nat), cMW s A v a b1 K0 res.2.1 res.2.2 H1 locs1 → decode cX7_show pc = .ok (.return_, 1) → W p l e R s m args below meth c H1 locs1 (xn res.2.1 - xn K0) (2 * (xn res.2.1 - xn K0)) Q (F0 m pc ls1 [])) (x1 : Int32) (F : PF) (G : PG) (hm : cb_X7_show_10 fu x1 F G = some res) {b : Nat} {H : Heap} {locs : List Loc} (hw : cMW s A v a b K0 F G H locs) {ls : Array Slot} (hl : lv_has ls 2 [(0, .ref (a 207)), (1, .int x1)]) : W p l e R s m args below meth c H locs (xn F - xn K0) (2 * (xn F - xn K0)) Q (F0 m 10 ls []) := by
  have hx := C.1
  have hb := C.2.1
  unfold cb_X7_show_10 at hm
  refine lv_aload_n hx hb dX7_show_10 rfl (lv_at hl 0 rfl) ?_
  refine cg_X7_13 C hw dX7_show_11 ?_
  refine lv_aload_n hx hb dX7_show_14 rfl (lv_at hl 0 rfl) ?_
  refine cg_X7_23 C hw dX7_show_15 ?_
  refine lv_iload_n hx hb dX7_show_18 rfl (lv_at hl 1 rfl) ?_
  obtain ⟨hi, hm⟩ := ix_elim hm
  refine cas_71 C hw hi dX7_show_19 (fun H locs hw => ?_)
  exact cw_X7_show_20 fu C hret F (gup G 71 (F 72).toNatClampNeg x1) hm hw (lv_sub hl [0] rfl)
theorem cn_X7_show_0 (fu : Nat) {res : Int32 × PF × PG} (x1 : Int32) (F : PF) (G : PG) (hm : cb_X7_show_0 fu x1 F G = some res) : xn F ≤ xn res.2.1 := by
  unfold cb_X7_show_0 at hm
  by_cases c_1 : (2000 : Int32) ≤ (F 72)
  · have hm := (if_pos c_1).symm.trans hm
    exact (cn_X7_show_20 fu F G hm)
  · have hm := (if_neg c_1).symm.trans hm
    exact (cn_X7_show_10 fu x1 F G hm)
theorem cw_X7_show_0 (fu : Nat) {res : Int32 × PF × PG} (C : cMC p R s m args c A v RX7 cX7_show 2 0 0 (xn res.2.1 - xn K0)) (hret : ∀ (b1 : Nat) (H1 : Heap) (locs1 : List Loc) (ls1 : Array Slot) (pc : Nat), cMW s A v a b1 K0 res.2.1 res.2.2 H1 locs1 → decode cX7_show pc = .ok (.return_, 1) → W p l e R s m args below meth c H1 locs1 (xn res.2.1 - xn K0) (2 * (xn res.2.1 - xn K0)) Q (F0 m pc ls1 [])) (x1 : Int32) (F : PF) (G : PG) (hm : cb_X7_show_0 fu x1 F G = some res) {b : Nat} {H : Heap} {locs : List Loc} (hw : cMW s A v a b K0 F G H locs) {ls : Array Slot} (hl : lv_has ls 2 [(0, .ref (a 207)), (1, .int x1)]) : W p l e R s m args below meth c H locs (xn F - xn K0) (2 * (xn F - xn K0)) Q (F0 m 0 ls []) := by
  have hx := C.1
  have hb := C.2.1
  unfold cb_X7_show_0 at hm
  refine lv_aload_n hx hb dX7_show_0 rfl (lv_at hl 0 rfl) ?_
  refine cg_X7_23 C hw dX7_show_1 ?_
  refine lv_sipush (v := 2000) hx hb dX7_show_4 (by decide) ?_
  refine lv_icmp_ge (tgt := 20) hx hb dX7_show_7 (by decide) (fun c_1 => ?_) (fun c_1 => ?_)
  · have hm := (if_pos c_1).symm.trans hm
    exact cw_X7_show_20 fu C hret F G hm hw (lv_sub hl [0] rfl)
  · have hm := (if_neg c_1).symm.trans hm
    exact cw_X7_show_10 fu C hret x1 F G hm hw (lv_sub hl [0, 1] rfl)
theorem cn_X7_show (fu : Nat) (x1 : Int32) (F : PF) (G : PG) (q : Int32 × PF × PG) (hm : cf_X7_show fu x1 F G = some q) : xn F ≤ xn q.2.1 := cn_X7_show_0 fu x1 F G hm
theorem ck_X7_show (l : Launch) (v : EV) (a : Nat → Nat) (b sz : Nat) (fu : Nat) (x1 : Int32) (F : PF) (G : PG) (r : Int32) (F1 : PF) (G1 : PG) (hm : cf_X7_show fu x1 F G = some (r, F1, G1)) : cMV l yX7_show cX7_show 2 0 0 v a b sz [.ref (a 207), .int x1] F G F1 G1 := cMV.of (by decide) (Nat.le_of_ble_eq_true rfl) (fun p e R s m args below meth c Q A H locs ls C hw hl hret => cw_X7_show_0 fu (res := (r, F1, G1)) C hret x1 F G hm hw hl)
def cb_X6_act_143 (fu : Nat) (F : PF) (G : PG) : PR := some (0, F, G)
def cb_X6_act_65 (fu : Nat) (F : PF) (G : PG) : PR := cb_X6_act_143 fu F G
def cb_X6_act_59 (fu : Nat) (x2 : Int32) (F : PF) (G : PG) : PR := (cf_X6_stops fu 1 x2 F G).bind (fun q => cb_X6_act_65 fu q.2.1 q.2.2)
def cb_X6_act_56 (fu : Nat) (x2 : Int32) (z0 : Int32) (F : PF) (G : PG) : PR := if z0 = (0 : Int32) then cb_X6_act_59 fu x2 F G else cb_X6_act_143 fu F G
def cb_X6_act_52 (fu : Nat) (x2 : Int32) (F : PF) (G : PG) : PR := (cf_X6_takesTurn fu F G).bind (fun q => cb_X6_act_56 fu x2 q.1 q.2.1 q.2.2)
def cb_X6_act_73 (fu : Nat) (F : PF) (G : PG) : PR := cb_X6_act_143 fu F G
def cb_X6_act_68 (fu : Nat) (x2 : Int32) (F : PF) (G : PG) : PR := (cf_X6_call fu x2 F G).bind (fun q => cb_X6_act_73 fu q.2.1 q.2.2)
def cb_X6_act_80 (fu : Nat) (F : PF) (G : PG) : PR := cb_X6_act_143 fu F G
def cb_X6_act_76 (fu : Nat) (F : PF) (G : PG) : PR := (cf_X6_leave fu F G).bind (fun q => cb_X6_act_80 fu q.2.1 q.2.2)
def cb_X6_act_94 (fu : Nat) (F : PF) (G : PG) : PR := cb_X6_act_143 fu F G
def cb_X6_act_91 (fu : Nat) (z0 : Int32) (F : PF) (G : PG) : PR := (cf_X7_show fu z0 F G).bind (fun q => cb_X6_act_94 fu q.2.1 q.2.2)
def cb_X6_act_83 (fu : Nat) (F : PF) (G : PG) : PR := (cf_X6_pop fu F G).bind (fun q => cb_X6_act_91 fu q.1 q.2.1 q.2.2)
def cb_X6_act_127 (fu : Nat) (F : PF) (G : PG) : PR := cb_X6_act_143 fu F G
def cb_X6_act_121 (fu : Nat) (x2 : Int32) (F : PF) (G : PG) : PR := (cf_X6_stops fu 2 x2 F G).bind (fun q => cb_X6_act_127 fu q.2.1 q.2.2)
def cb_X6_act_118 (fu : Nat) (F : PF) (G : PG) : PR := cb_X6_act_143 fu F G
def cb_X6_act_115 (fu : Nat) (z0 : Int32) (F : PF) (G : PG) : PR := (cf_X6_push fu z0 F G).bind (fun q => cb_X6_act_118 fu q.2.1 q.2.2)
def cb_X6_act_107 (fu : Nat) (F : PF) (G : PG) : PR := (cf_X7_handIn fu F G).bind (fun q => cb_X6_act_115 fu q.1 q.2.1 q.2.2)
def cb_X6_act_97 (fu : Nat) (x2 : Int32) (F : PF) (G : PG) : PR := if (F 70) ≤ (0 : Int32) then cb_X6_act_121 fu x2 F G else cb_X6_act_107 fu F G
def cb_X6_act_138 (fu : Nat) (F : PF) (G : PG) : PR := (cf_X6_over fu 4 F G).bind (fun q => cb_X6_act_143 fu q.2.1 q.2.2)
def cb_X6_act_135 (fu : Nat) (z0 : Int32) (F : PF) (G : PG) : PR := cb_X6_act_138 fu (fup F 65 z0) G
def cb_X6_act_130 (fu : Nat) (F : PF) (G : PG) : PR := (cf_X6_pop fu F G).bind (fun q => cb_X6_act_135 fu q.1 q.2.1 q.2.2)
def cb_X6_act_0 (fu : Nat) (x1 : Int32) (x2 : Int32) (F : PF) (G : PG) : PR := if x1 = 15 then cb_X6_act_76 fu F G else if x1 = 16 then cb_X6_act_83 fu F G else if x1 = 17 then cb_X6_act_97 fu x2 F G else if x1 = 89 then cb_X6_act_52 fu x2 F G else if x1 = 90 then cb_X6_act_68 fu x2 F G else cb_X6_act_130 fu F G
def cf_X6_act (fu : Nat) (x1 : Int32) (x2 : Int32) (F : PF) (G : PG) : PR := cb_X6_act_0 fu x1 x2 F G
theorem cn_X6_act_143 (fu : Nat) {res : Int32 × PF × PG} (F : PF) (G : PG) (hm : cb_X6_act_143 fu F G = some res) : xn F ≤ xn res.2.1 := by
  unfold cb_X6_act_143 at hm
  obtain rfl := Option.some.inj hm
  exact Nat.le_refl _
theorem cw_X6_act_143 (fu : Nat) {res : Int32 × PF × PG} (C : cMC p R s m args c A v RX6 cX6_act 3 3 111 (xn res.2.1 - xn K0)) (hret : ∀ (b1 : Nat) (H1 : Heap) (locs1 : List Loc) (ls1 : Array Slot) (pc : Nat), cMW s A v a b1 K0 res.2.1 res.2.2 H1 locs1 → decode cX6_act pc = .ok (.return_, 1) → W p l e R s m args below meth c H1 locs1 (xn res.2.1 - xn K0) (2 * (xn res.2.1 - xn K0)) Q (F0 m pc ls1 [])) (F : PF) (G : PG) (hm : cb_X6_act_143 fu F G = some res) {b : Nat} {H : Heap} {locs : List Loc} (hw : cMW s A v a b K0 F G H locs) {ls : Array Slot} (hl : lv_has ls 3 []) : W p l e R s m args below meth c H locs (xn F - xn K0) (2 * (xn F - xn K0)) Q (F0 m 143 ls []) := by
  have hx := C.1
  have hb := C.2.1
  unfold cb_X6_act_143 at hm
  obtain rfl := Option.some.inj hm
  exact hret _ _ _ _ _ hw dX6_act_143
theorem cn_X6_act_65 (fu : Nat) {res : Int32 × PF × PG} (F : PF) (G : PG) (hm : cb_X6_act_65 fu F G = some res) : xn F ≤ xn res.2.1 := by
  unfold cb_X6_act_65 at hm
  exact (cn_X6_act_143 fu F G hm)
theorem cw_X6_act_65 (fu : Nat) {res : Int32 × PF × PG} (C : cMC p R s m args c A v RX6 cX6_act 3 3 111 (xn res.2.1 - xn K0)) (hret : ∀ (b1 : Nat) (H1 : Heap) (locs1 : List Loc) (ls1 : Array Slot) (pc : Nat), cMW s A v a b1 K0 res.2.1 res.2.2 H1 locs1 → decode cX6_act pc = .ok (.return_, 1) → W p l e R s m args below meth c H1 locs1 (xn res.2.1 - xn K0) (2 * (xn res.2.1 - xn K0)) Q (F0 m pc ls1 [])) (F : PF) (G : PG) (hm : cb_X6_act_65 fu F G = some res) {b : Nat} {H : Heap} {locs : List Loc} (hw : cMW s A v a b K0 F G H locs) {ls : Array Slot} (hl : lv_has ls 3 []) : W p l e R s m args below meth c H locs (xn F - xn K0) (2 * (xn F - xn K0)) Q (F0 m 65 ls []) := by
  have hx := C.1
  have hb := C.2.1
  unfold cb_X6_act_65 at hm
  refine lv_goto (tgt := 143) hx hb dX6_act_65 (by decide) ?_
  exact cw_X6_act_143 fu C hret F G hm hw (lv_sub hl [] rfl)
theorem cn_X6_act_59 (fu : Nat) {res : Int32 × PF × PG} (x2 : Int32) (F : PF) (G : PG) (hm : cb_X6_act_59 fu x2 F G = some res) : xn F ≤ xn res.2.1 := by
  unfold cb_X6_act_59 at hm
  obtain ⟨⟨r1, F1, G1⟩, hc, hm⟩ := bind_elim hm
  exact Nat.le_trans (cn_X6_stops fu 1 x2 F G _ hc) (cn_X6_act_65 fu F1 G1 hm)
theorem cw_X6_act_59 (fu : Nat) {res : Int32 × PF × PG} (C : cMC p R s m args c A v RX6 cX6_act 3 3 111 (xn res.2.1 - xn K0)) (hret : ∀ (b1 : Nat) (H1 : Heap) (locs1 : List Loc) (ls1 : Array Slot) (pc : Nat), cMW s A v a b1 K0 res.2.1 res.2.2 H1 locs1 → decode cX6_act pc = .ok (.return_, 1) → W p l e R s m args below meth c H1 locs1 (xn res.2.1 - xn K0) (2 * (xn res.2.1 - xn K0)) Q (F0 m pc ls1 [])) (x2 : Int32) (F : PF) (G : PG) (hm : cb_X6_act_59 fu x2 F G = some res) {b : Nat} {H : Heap} {locs : List Loc} (hw : cMW s A v a b K0 F G H locs) {ls : Array Slot} (hl : lv_has ls 3 [(0, .ref (a 206)), (2, .int x2)]) : W p l e R s m args below meth c H locs (xn F - xn K0) (2 * (xn F - xn K0)) Q (F0 m 59 ls []) := by
  have hx := C.1
  have hb := C.2.1
  unfold cb_X6_act_59 at hm
  refine lv_aload_n hx hb dX6_act_59 rfl (lv_at hl 0 rfl) ?_
  refine lv_iconst (v := 1) hx hb dX6_act_60 (by decide) ?_
  refine lv_iload_n hx hb dX6_act_61 rfl (lv_at hl 1 rfl) ?_
  obtain ⟨⟨r1, F1, G1⟩, hc, hm⟩ := bind_elim hm
  refine ccallV (n := 2) (As := [.int 1, .int x2]) (rest := []) C hw (ck_X6_stops l v a _ _ fu 1 x2 F G r1 F1 G1 hc) (cn_X6_stops fu 1 x2 F G _ hc) (Nat.sub_le_sub_right (cn_X6_act_65 fu F1 G1 hm) _) (crecv_X6 C hw) cm_896 cm_897 cm_898 cm_21 cm_899 (by decide +kernel) rfl (by omega) (by omega) hl.1 rfl (Nat.le_of_ble_eq_true rfl) dX6_act_62 (fun b H locs hw => ?_)
  exact cw_X6_act_65 fu C hret F1 G1 hm hw (lv_sub hl [] rfl)
theorem cn_X6_act_56 (fu : Nat) {res : Int32 × PF × PG} (x2 : Int32) (z0 : Int32) (F : PF) (G : PG) (hm : cb_X6_act_56 fu x2 z0 F G = some res) : xn F ≤ xn res.2.1 := by
  unfold cb_X6_act_56 at hm
  by_cases c_1 : z0 = (0 : Int32)
  · have hm := (if_pos c_1).symm.trans hm
    exact (cn_X6_act_59 fu x2 F G hm)
  · have hm := (if_neg c_1).symm.trans hm
    exact (cn_X6_act_143 fu F G hm)
theorem cw_X6_act_56 (fu : Nat) {res : Int32 × PF × PG} (C : cMC p R s m args c A v RX6 cX6_act 3 3 111 (xn res.2.1 - xn K0)) (hret : ∀ (b1 : Nat) (H1 : Heap) (locs1 : List Loc) (ls1 : Array Slot) (pc : Nat), cMW s A v a b1 K0 res.2.1 res.2.2 H1 locs1 → decode cX6_act pc = .ok (.return_, 1) → W p l e R s m args below meth c H1 locs1 (xn res.2.1 - xn K0) (2 * (xn res.2.1 - xn K0)) Q (F0 m pc ls1 [])) (x2 : Int32) (z0 : Int32) (F : PF) (G : PG) (hm : cb_X6_act_56 fu x2 z0 F G = some res) {b : Nat} {H : Heap} {locs : List Loc} (hw : cMW s A v a b K0 F G H locs) {ls : Array Slot} (hl : lv_has ls 3 [(0, .ref (a 206)), (2, .int x2)]) : W p l e R s m args below meth c H locs (xn F - xn K0) (2 * (xn F - xn K0)) Q (F0 m 56 ls [.int z0]) := by
  have hx := C.1
  have hb := C.2.1
  unfold cb_X6_act_56 at hm
  refine lv_if_ne (tgt := 143) hx hb dX6_act_56 (by decide) (fun c_1 => ?_) (fun c_1 => ?_)
  · have hm := (if_neg c_1).symm.trans hm
    exact cw_X6_act_143 fu C hret F G hm hw (lv_sub hl [] rfl)
  · have hm := (if_pos c_1).symm.trans hm
    exact cw_X6_act_59 fu C hret x2 F G hm hw (lv_sub hl [0, 1] rfl)
theorem cn_X6_act_52 (fu : Nat) {res : Int32 × PF × PG} (x2 : Int32) (F : PF) (G : PG) (hm : cb_X6_act_52 fu x2 F G = some res) : xn F ≤ xn res.2.1 := by
  unfold cb_X6_act_52 at hm
  obtain ⟨⟨r1, F1, G1⟩, hc, hm⟩ := bind_elim hm
  exact Nat.le_trans (cn_X6_takesTurn fu F G _ hc) (cn_X6_act_56 fu x2 r1 F1 G1 hm)
theorem cw_X6_act_52 (fu : Nat) {res : Int32 × PF × PG} (C : cMC p R s m args c A v RX6 cX6_act 3 3 111 (xn res.2.1 - xn K0)) (hret : ∀ (b1 : Nat) (H1 : Heap) (locs1 : List Loc) (ls1 : Array Slot) (pc : Nat), cMW s A v a b1 K0 res.2.1 res.2.2 H1 locs1 → decode cX6_act pc = .ok (.return_, 1) → W p l e R s m args below meth c H1 locs1 (xn res.2.1 - xn K0) (2 * (xn res.2.1 - xn K0)) Q (F0 m pc ls1 [])) (x2 : Int32) (F : PF) (G : PG) (hm : cb_X6_act_52 fu x2 F G = some res) {b : Nat} {H : Heap} {locs : List Loc} (hw : cMW s A v a b K0 F G H locs) {ls : Array Slot} (hl : lv_has ls 3 [(0, .ref (a 206)), (2, .int x2)]) : W p l e R s m args below meth c H locs (xn F - xn K0) (2 * (xn F - xn K0)) Q (F0 m 52 ls []) := by
  have hx := C.1
  have hb := C.2.1
  unfold cb_X6_act_52 at hm
  refine lv_aload_n hx hb dX6_act_52 rfl (lv_at hl 0 rfl) ?_
  obtain ⟨⟨r1, F1, G1⟩, hc, hm⟩ := bind_elim hm
  refine ccallI (n := 0) (As := []) (rest := []) C hw (ck_X6_takesTurn l v a _ _ fu F G r1 F1 G1 hc) (cn_X6_takesTurn fu F G _ hc) (Nat.sub_le_sub_right (cn_X6_act_56 fu x2 r1 F1 G1 hm) _) (crecv_X6 C hw) cm_892 cm_893 cm_894 cm_21 cm_895 (by decide +kernel) rfl (by omega) (by omega) hl.1 rfl (Nat.le_of_ble_eq_true rfl) dX6_act_53 (fun b H locs hw => ?_)
  exact cw_X6_act_56 fu C hret x2 r1 F1 G1 hm hw (lv_sub hl [0, 1] rfl)
theorem cn_X6_act_73 (fu : Nat) {res : Int32 × PF × PG} (F : PF) (G : PG) (hm : cb_X6_act_73 fu F G = some res) : xn F ≤ xn res.2.1 := by
  unfold cb_X6_act_73 at hm
  exact (cn_X6_act_143 fu F G hm)
theorem cw_X6_act_73 (fu : Nat) {res : Int32 × PF × PG} (C : cMC p R s m args c A v RX6 cX6_act 3 3 111 (xn res.2.1 - xn K0)) (hret : ∀ (b1 : Nat) (H1 : Heap) (locs1 : List Loc) (ls1 : Array Slot) (pc : Nat), cMW s A v a b1 K0 res.2.1 res.2.2 H1 locs1 → decode cX6_act pc = .ok (.return_, 1) → W p l e R s m args below meth c H1 locs1 (xn res.2.1 - xn K0) (2 * (xn res.2.1 - xn K0)) Q (F0 m pc ls1 [])) (F : PF) (G : PG) (hm : cb_X6_act_73 fu F G = some res) {b : Nat} {H : Heap} {locs : List Loc} (hw : cMW s A v a b K0 F G H locs) {ls : Array Slot} (hl : lv_has ls 3 []) : W p l e R s m args below meth c H locs (xn F - xn K0) (2 * (xn F - xn K0)) Q (F0 m 73 ls []) := by
  have hx := C.1
  have hb := C.2.1
  unfold cb_X6_act_73 at hm
  refine lv_goto (tgt := 143) hx hb dX6_act_73 (by decide) ?_
  exact cw_X6_act_143 fu C hret F G hm hw (lv_sub hl [] rfl)
theorem cn_X6_act_68 (fu : Nat) {res : Int32 × PF × PG} (x2 : Int32) (F : PF) (G : PG) (hm : cb_X6_act_68 fu x2 F G = some res) : xn F ≤ xn res.2.1 := by
  unfold cb_X6_act_68 at hm
  obtain ⟨⟨r1, F1, G1⟩, hc, hm⟩ := bind_elim hm
  exact Nat.le_trans (cn_X6_call fu x2 F G _ hc) (cn_X6_act_73 fu F1 G1 hm)
theorem cw_X6_act_68 (fu : Nat) {res : Int32 × PF × PG} (C : cMC p R s m args c A v RX6 cX6_act 3 3 111 (xn res.2.1 - xn K0)) (hret : ∀ (b1 : Nat) (H1 : Heap) (locs1 : List Loc) (ls1 : Array Slot) (pc : Nat), cMW s A v a b1 K0 res.2.1 res.2.2 H1 locs1 → decode cX6_act pc = .ok (.return_, 1) → W p l e R s m args below meth c H1 locs1 (xn res.2.1 - xn K0) (2 * (xn res.2.1 - xn K0)) Q (F0 m pc ls1 [])) (x2 : Int32) (F : PF) (G : PG) (hm : cb_X6_act_68 fu x2 F G = some res) {b : Nat} {H : Heap} {locs : List Loc} (hw : cMW s A v a b K0 F G H locs) {ls : Array Slot} (hl : lv_has ls 3 [(0, .ref (a 206)), (2, .int x2)]) : W p l e R s m args below meth c H locs (xn F - xn K0) (2 * (xn F - xn K0)) Q (F0 m 68 ls []) := by
  have hx := C.1
  have hb := C.2.1
  unfold cb_X6_act_68 at hm
  refine lv_aload_n hx hb dX6_act_68 rfl (lv_at hl 0 rfl) ?_
  refine lv_iload_n hx hb dX6_act_69 rfl (lv_at hl 1 rfl) ?_
  obtain ⟨⟨r1, F1, G1⟩, hc, hm⟩ := bind_elim hm
  refine ccallV (n := 1) (As := [.int x2]) (rest := []) C hw (ck_X6_call l v a _ _ fu x2 F G r1 F1 G1 hc) (cn_X6_call fu x2 F G _ hc) (Nat.sub_le_sub_right (cn_X6_act_73 fu F1 G1 hm) _) (crecv_X6 C hw) cm_900 cm_901 cm_902 cm_21 cm_903 (by decide +kernel) rfl (by omega) (by omega) hl.1 rfl (Nat.le_of_ble_eq_true rfl) dX6_act_70 (fun b H locs hw => ?_)
  exact cw_X6_act_73 fu C hret F1 G1 hm hw (lv_sub hl [] rfl)
theorem cn_X6_act_80 (fu : Nat) {res : Int32 × PF × PG} (F : PF) (G : PG) (hm : cb_X6_act_80 fu F G = some res) : xn F ≤ xn res.2.1 := by
  unfold cb_X6_act_80 at hm
  exact (cn_X6_act_143 fu F G hm)
theorem cw_X6_act_80 (fu : Nat) {res : Int32 × PF × PG} (C : cMC p R s m args c A v RX6 cX6_act 3 3 111 (xn res.2.1 - xn K0)) (hret : ∀ (b1 : Nat) (H1 : Heap) (locs1 : List Loc) (ls1 : Array Slot) (pc : Nat), cMW s A v a b1 K0 res.2.1 res.2.2 H1 locs1 → decode cX6_act pc = .ok (.return_, 1) → W p l e R s m args below meth c H1 locs1 (xn res.2.1 - xn K0) (2 * (xn res.2.1 - xn K0)) Q (F0 m pc ls1 [])) (F : PF) (G : PG) (hm : cb_X6_act_80 fu F G = some res) {b : Nat} {H : Heap} {locs : List Loc} (hw : cMW s A v a b K0 F G H locs) {ls : Array Slot} (hl : lv_has ls 3 []) : W p l e R s m args below meth c H locs (xn F - xn K0) (2 * (xn F - xn K0)) Q (F0 m 80 ls []) := by
  have hx := C.1
  have hb := C.2.1
  unfold cb_X6_act_80 at hm
  refine lv_goto (tgt := 143) hx hb dX6_act_80 (by decide) ?_
  exact cw_X6_act_143 fu C hret F G hm hw (lv_sub hl [] rfl)
theorem cn_X6_act_76 (fu : Nat) {res : Int32 × PF × PG} (F : PF) (G : PG) (hm : cb_X6_act_76 fu F G = some res) : xn F ≤ xn res.2.1 := by
  unfold cb_X6_act_76 at hm
  obtain ⟨⟨r1, F1, G1⟩, hc, hm⟩ := bind_elim hm
  exact Nat.le_trans (cn_X6_leave fu F G _ hc) (cn_X6_act_80 fu F1 G1 hm)
theorem cw_X6_act_76 (fu : Nat) {res : Int32 × PF × PG} (C : cMC p R s m args c A v RX6 cX6_act 3 3 111 (xn res.2.1 - xn K0)) (hret : ∀ (b1 : Nat) (H1 : Heap) (locs1 : List Loc) (ls1 : Array Slot) (pc : Nat), cMW s A v a b1 K0 res.2.1 res.2.2 H1 locs1 → decode cX6_act pc = .ok (.return_, 1) → W p l e R s m args below meth c H1 locs1 (xn res.2.1 - xn K0) (2 * (xn res.2.1 - xn K0)) Q (F0 m pc ls1 [])) (F : PF) (G : PG) (hm : cb_X6_act_76 fu F G = some res) {b : Nat} {H : Heap} {locs : List Loc} (hw : cMW s A v a b K0 F G H locs) {ls : Array Slot} (hl : lv_has ls 3 [(0, .ref (a 206))]) : W p l e R s m args below meth c H locs (xn F - xn K0) (2 * (xn F - xn K0)) Q (F0 m 76 ls []) := by
  have hx := C.1
  have hb := C.2.1
  unfold cb_X6_act_76 at hm
  refine lv_aload_n hx hb dX6_act_76 rfl (lv_at hl 0 rfl) ?_
  obtain ⟨⟨r1, F1, G1⟩, hc, hm⟩ := bind_elim hm
  refine ccallV (n := 0) (As := []) (rest := []) C hw (ck_X6_leave l v a _ _ fu F G r1 F1 G1 hc) (cn_X6_leave fu F G _ hc) (Nat.sub_le_sub_right (cn_X6_act_80 fu F1 G1 hm) _) (crecv_X6 C hw) cm_904 cm_905 cm_906 cm_21 cm_907 (by decide +kernel) rfl (by omega) (by omega) hl.1 rfl (Nat.le_of_ble_eq_true rfl) dX6_act_77 (fun b H locs hw => ?_)
  exact cw_X6_act_80 fu C hret F1 G1 hm hw (lv_sub hl [] rfl)
theorem cn_X6_act_94 (fu : Nat) {res : Int32 × PF × PG} (F : PF) (G : PG) (hm : cb_X6_act_94 fu F G = some res) : xn F ≤ xn res.2.1 := by
  unfold cb_X6_act_94 at hm
  exact (cn_X6_act_143 fu F G hm)
theorem cw_X6_act_94 (fu : Nat) {res : Int32 × PF × PG} (C : cMC p R s m args c A v RX6 cX6_act 3 3 111 (xn res.2.1 - xn K0)) (hret : ∀ (b1 : Nat) (H1 : Heap) (locs1 : List Loc) (ls1 : Array Slot) (pc : Nat), cMW s A v a b1 K0 res.2.1 res.2.2 H1 locs1 → decode cX6_act pc = .ok (.return_, 1) → W p l e R s m args below meth c H1 locs1 (xn res.2.1 - xn K0) (2 * (xn res.2.1 - xn K0)) Q (F0 m pc ls1 [])) (F : PF) (G : PG) (hm : cb_X6_act_94 fu F G = some res) {b : Nat} {H : Heap} {locs : List Loc} (hw : cMW s A v a b K0 F G H locs) {ls : Array Slot} (hl : lv_has ls 3 []) : W p l e R s m args below meth c H locs (xn F - xn K0) (2 * (xn F - xn K0)) Q (F0 m 94 ls []) := by
  have hx := C.1
  have hb := C.2.1
  unfold cb_X6_act_94 at hm
  refine lv_goto (tgt := 143) hx hb dX6_act_94 (by decide) ?_
  exact cw_X6_act_143 fu C hret F G hm hw (lv_sub hl [] rfl)
theorem cn_X6_act_91 (fu : Nat) {res : Int32 × PF × PG} (z0 : Int32) (F : PF) (G : PG) (hm : cb_X6_act_91 fu z0 F G = some res) : xn F ≤ xn res.2.1 := by
  unfold cb_X6_act_91 at hm
  obtain ⟨⟨r1, F1, G1⟩, hc, hm⟩ := bind_elim hm
  exact Nat.le_trans (cn_X7_show fu z0 F G _ hc) (cn_X6_act_94 fu F1 G1 hm)
theorem cw_X6_act_91 (fu : Nat) {res : Int32 × PF × PG} (C : cMC p R s m args c A v RX6 cX6_act 3 3 111 (xn res.2.1 - xn K0)) (hret : ∀ (b1 : Nat) (H1 : Heap) (locs1 : List Loc) (ls1 : Array Slot) (pc : Nat), cMW s A v a b1 K0 res.2.1 res.2.2 H1 locs1 → decode cX6_act pc = .ok (.return_, 1) → W p l e R s m args below meth c H1 locs1 (xn res.2.1 - xn K0) (2 * (xn res.2.1 - xn K0)) Q (F0 m pc ls1 [])) (z0 : Int32) (F : PF) (G : PG) (hm : cb_X6_act_91 fu z0 F G = some res) {b : Nat} {H : Heap} {locs : List Loc} (hw : cMW s A v a b K0 F G H locs) {ls : Array Slot} (hl : lv_has ls 3 []) : W p l e R s m args below meth c H locs (xn F - xn K0) (2 * (xn F - xn K0)) Q (F0 m 91 ls [.int z0, .ref (a 207)]) := by
  have hx := C.1
  have hb := C.2.1
  unfold cb_X6_act_91 at hm
  obtain ⟨⟨r1, F1, G1⟩, hc, hm⟩ := bind_elim hm
  refine ccallV (n := 1) (As := [.int z0]) (rest := []) C hw (ck_X7_show l v a _ _ fu z0 F G r1 F1 G1 hc) (cn_X7_show fu z0 F G _ hc) (Nat.sub_le_sub_right (cn_X6_act_94 fu F1 G1 hm) _) (crecv_X7 C hw) cm_908 cm_909 cm_910 cm_34 cm_911 (by decide +kernel) rfl (by omega) (by omega) hl.1 rfl (Nat.le_of_ble_eq_true rfl) dX6_act_91 (fun b H locs hw => ?_)
  exact cw_X6_act_94 fu C hret F1 G1 hm hw (lv_sub hl [] rfl)
theorem cn_X6_act_83 (fu : Nat) {res : Int32 × PF × PG} (F : PF) (G : PG) (hm : cb_X6_act_83 fu F G = some res) : xn F ≤ xn res.2.1 := by
  unfold cb_X6_act_83 at hm
  obtain ⟨⟨r1, F1, G1⟩, hc, hm⟩ := bind_elim hm
  exact Nat.le_trans (cn_X6_pop fu F G _ hc) (cn_X6_act_91 fu r1 F1 G1 hm)
theorem cw_X6_act_83 (fu : Nat) {res : Int32 × PF × PG} (C : cMC p R s m args c A v RX6 cX6_act 3 3 111 (xn res.2.1 - xn K0)) (hret : ∀ (b1 : Nat) (H1 : Heap) (locs1 : List Loc) (ls1 : Array Slot) (pc : Nat), cMW s A v a b1 K0 res.2.1 res.2.2 H1 locs1 → decode cX6_act pc = .ok (.return_, 1) → W p l e R s m args below meth c H1 locs1 (xn res.2.1 - xn K0) (2 * (xn res.2.1 - xn K0)) Q (F0 m pc ls1 [])) (F : PF) (G : PG) (hm : cb_X6_act_83 fu F G = some res) {b : Nat} {H : Heap} {locs : List Loc} (hw : cMW s A v a b K0 F G H locs) {ls : Array Slot} (hl : lv_has ls 3 [(0, .ref (a 206))]) : W p l e R s m args below meth c H locs (xn F - xn K0) (2 * (xn F - xn K0)) Q (F0 m 83 ls []) := by
  have hx := C.1
  have hb := C.2.1
  unfold cb_X6_act_83 at hm
  refine lv_aload_n hx hb dX6_act_83 rfl (lv_at hl 0 rfl) ?_
  refine cg_X6_26 C hw dX6_act_84 ?_
  refine lv_aload_n hx hb dX6_act_87 rfl (lv_at hl 0 rfl) ?_
  obtain ⟨⟨r1, F1, G1⟩, hc, hm⟩ := bind_elim hm
  refine ccallI (n := 0) (As := []) (rest := [.ref (a 207)]) C hw (ck_X6_pop l v a _ _ fu F G r1 F1 G1 hc) (cn_X6_pop fu F G _ hc) (Nat.sub_le_sub_right (cn_X6_act_91 fu r1 F1 G1 hm) _) (crecv_X6 C hw) cm_558 cm_559 cm_560 cm_21 cm_561 (by decide +kernel) rfl (by omega) (by omega) hl.1 rfl (Nat.le_of_ble_eq_true rfl) dX6_act_88 (fun b H locs hw => ?_)
  exact cw_X6_act_91 fu C hret r1 F1 G1 hm hw (lv_sub hl [] rfl)
theorem cn_X6_act_127 (fu : Nat) {res : Int32 × PF × PG} (F : PF) (G : PG) (hm : cb_X6_act_127 fu F G = some res) : xn F ≤ xn res.2.1 := by
  unfold cb_X6_act_127 at hm
  exact (cn_X6_act_143 fu F G hm)
theorem cw_X6_act_127 (fu : Nat) {res : Int32 × PF × PG} (C : cMC p R s m args c A v RX6 cX6_act 3 3 111 (xn res.2.1 - xn K0)) (hret : ∀ (b1 : Nat) (H1 : Heap) (locs1 : List Loc) (ls1 : Array Slot) (pc : Nat), cMW s A v a b1 K0 res.2.1 res.2.2 H1 locs1 → decode cX6_act pc = .ok (.return_, 1) → W p l e R s m args below meth c H1 locs1 (xn res.2.1 - xn K0) (2 * (xn res.2.1 - xn K0)) Q (F0 m pc ls1 [])) (F : PF) (G : PG) (hm : cb_X6_act_127 fu F G = some res) {b : Nat} {H : Heap} {locs : List Loc} (hw : cMW s A v a b K0 F G H locs) {ls : Array Slot} (hl : lv_has ls 3 []) : W p l e R s m args below meth c H locs (xn F - xn K0) (2 * (xn F - xn K0)) Q (F0 m 127 ls []) := by
  have hx := C.1
  have hb := C.2.1
  unfold cb_X6_act_127 at hm
  refine lv_goto (tgt := 143) hx hb dX6_act_127 (by decide) ?_
  exact cw_X6_act_143 fu C hret F G hm hw (lv_sub hl [] rfl)
theorem cn_X6_act_121 (fu : Nat) {res : Int32 × PF × PG} (x2 : Int32) (F : PF) (G : PG) (hm : cb_X6_act_121 fu x2 F G = some res) : xn F ≤ xn res.2.1 := by
  unfold cb_X6_act_121 at hm
  obtain ⟨⟨r1, F1, G1⟩, hc, hm⟩ := bind_elim hm
  exact Nat.le_trans (cn_X6_stops fu 2 x2 F G _ hc) (cn_X6_act_127 fu F1 G1 hm)
theorem cw_X6_act_121 (fu : Nat) {res : Int32 × PF × PG} (C : cMC p R s m args c A v RX6 cX6_act 3 3 111 (xn res.2.1 - xn K0)) (hret : ∀ (b1 : Nat) (H1 : Heap) (locs1 : List Loc) (ls1 : Array Slot) (pc : Nat), cMW s A v a b1 K0 res.2.1 res.2.2 H1 locs1 → decode cX6_act pc = .ok (.return_, 1) → W p l e R s m args below meth c H1 locs1 (xn res.2.1 - xn K0) (2 * (xn res.2.1 - xn K0)) Q (F0 m pc ls1 [])) (x2 : Int32) (F : PF) (G : PG) (hm : cb_X6_act_121 fu x2 F G = some res) {b : Nat} {H : Heap} {locs : List Loc} (hw : cMW s A v a b K0 F G H locs) {ls : Array Slot} (hl : lv_has ls 3 [(0, .ref (a 206)), (2, .int x2)]) : W p l e R s m args below meth c H locs (xn F - xn K0) (2 * (xn F - xn K0)) Q (F0 m 121 ls []) := by
  have hx := C.1
  have hb := C.2.1
  unfold cb_X6_act_121 at hm
  refine lv_aload_n hx hb dX6_act_121 rfl (lv_at hl 0 rfl) ?_
  refine lv_iconst (v := 2) hx hb dX6_act_122 (by decide) ?_
  refine lv_iload_n hx hb dX6_act_123 rfl (lv_at hl 1 rfl) ?_
  obtain ⟨⟨r1, F1, G1⟩, hc, hm⟩ := bind_elim hm
  refine ccallV (n := 2) (As := [.int 2, .int x2]) (rest := []) C hw (ck_X6_stops l v a _ _ fu 2 x2 F G r1 F1 G1 hc) (cn_X6_stops fu 2 x2 F G _ hc) (Nat.sub_le_sub_right (cn_X6_act_127 fu F1 G1 hm) _) (crecv_X6 C hw) cm_896 cm_897 cm_898 cm_21 cm_899 (by decide +kernel) rfl (by omega) (by omega) hl.1 rfl (Nat.le_of_ble_eq_true rfl) dX6_act_124 (fun b H locs hw => ?_)
  exact cw_X6_act_127 fu C hret F1 G1 hm hw (lv_sub hl [] rfl)
theorem cn_X6_act_118 (fu : Nat) {res : Int32 × PF × PG} (F : PF) (G : PG) (hm : cb_X6_act_118 fu F G = some res) : xn F ≤ xn res.2.1 := by
  unfold cb_X6_act_118 at hm
  exact (cn_X6_act_143 fu F G hm)
theorem cw_X6_act_118 (fu : Nat) {res : Int32 × PF × PG} (C : cMC p R s m args c A v RX6 cX6_act 3 3 111 (xn res.2.1 - xn K0)) (hret : ∀ (b1 : Nat) (H1 : Heap) (locs1 : List Loc) (ls1 : Array Slot) (pc : Nat), cMW s A v a b1 K0 res.2.1 res.2.2 H1 locs1 → decode cX6_act pc = .ok (.return_, 1) → W p l e R s m args below meth c H1 locs1 (xn res.2.1 - xn K0) (2 * (xn res.2.1 - xn K0)) Q (F0 m pc ls1 [])) (F : PF) (G : PG) (hm : cb_X6_act_118 fu F G = some res) {b : Nat} {H : Heap} {locs : List Loc} (hw : cMW s A v a b K0 F G H locs) {ls : Array Slot} (hl : lv_has ls 3 []) : W p l e R s m args below meth c H locs (xn F - xn K0) (2 * (xn F - xn K0)) Q (F0 m 118 ls []) := by
  have hx := C.1
  have hb := C.2.1
  unfold cb_X6_act_118 at hm
  refine lv_goto (tgt := 143) hx hb dX6_act_118 (by decide) ?_
  exact cw_X6_act_143 fu C hret F G hm hw (lv_sub hl [] rfl)
theorem cn_X6_act_115 (fu : Nat) {res : Int32 × PF × PG} (z0 : Int32) (F : PF) (G : PG) (hm : cb_X6_act_115 fu z0 F G = some res) : xn F ≤ xn res.2.1 := by
  unfold cb_X6_act_115 at hm
  obtain ⟨⟨r1, F1, G1⟩, hc, hm⟩ := bind_elim hm
  exact Nat.le_trans (cn_X6_push fu z0 F G _ hc) (cn_X6_act_118 fu F1 G1 hm)
theorem cw_X6_act_115 (fu : Nat) {res : Int32 × PF × PG} (C : cMC p R s m args c A v RX6 cX6_act 3 3 111 (xn res.2.1 - xn K0)) (hret : ∀ (b1 : Nat) (H1 : Heap) (locs1 : List Loc) (ls1 : Array Slot) (pc : Nat), cMW s A v a b1 K0 res.2.1 res.2.2 H1 locs1 → decode cX6_act pc = .ok (.return_, 1) → W p l e R s m args below meth c H1 locs1 (xn res.2.1 - xn K0) (2 * (xn res.2.1 - xn K0)) Q (F0 m pc ls1 [])) (z0 : Int32) (F : PF) (G : PG) (hm : cb_X6_act_115 fu z0 F G = some res) {b : Nat} {H : Heap} {locs : List Loc} (hw : cMW s A v a b K0 F G H locs) {ls : Array Slot} (hl : lv_has ls 3 []) : W p l e R s m args below meth c H locs (xn F - xn K0) (2 * (xn F - xn K0)) Q (F0 m 115 ls [.int z0, .ref (a 206)]) := by
  have hx := C.1
  have hb := C.2.1
  unfold cb_X6_act_115 at hm
  obtain ⟨⟨r1, F1, G1⟩, hc, hm⟩ := bind_elim hm
  refine ccallV (n := 1) (As := [.int z0]) (rest := []) C hw (ck_X6_push l v a _ _ fu z0 F G r1 F1 G1 hc) (cn_X6_push fu z0 F G _ hc) (Nat.sub_le_sub_right (cn_X6_act_118 fu F1 G1 hm) _) (crecv_X6 C hw) cm_533 cm_534 cm_535 cm_21 cm_536 (by decide +kernel) rfl (by omega) (by omega) hl.1 rfl (Nat.le_of_ble_eq_true rfl) dX6_act_115 (fun b H locs hw => ?_)
  exact cw_X6_act_118 fu C hret F1 G1 hm hw (lv_sub hl [] rfl)
theorem cn_X6_act_107 (fu : Nat) {res : Int32 × PF × PG} (F : PF) (G : PG) (hm : cb_X6_act_107 fu F G = some res) : xn F ≤ xn res.2.1 := by
  unfold cb_X6_act_107 at hm
  obtain ⟨⟨r1, F1, G1⟩, hc, hm⟩ := bind_elim hm
  exact Nat.le_trans (cn_X7_handIn fu F G _ hc) (cn_X6_act_115 fu r1 F1 G1 hm)
theorem cw_X6_act_107 (fu : Nat) {res : Int32 × PF × PG} (C : cMC p R s m args c A v RX6 cX6_act 3 3 111 (xn res.2.1 - xn K0)) (hret : ∀ (b1 : Nat) (H1 : Heap) (locs1 : List Loc) (ls1 : Array Slot) (pc : Nat), cMW s A v a b1 K0 res.2.1 res.2.2 H1 locs1 → decode cX6_act pc = .ok (.return_, 1) → W p l e R s m args below meth c H1 locs1 (xn res.2.1 - xn K0) (2 * (xn res.2.1 - xn K0)) Q (F0 m pc ls1 [])) (F : PF) (G : PG) (hm : cb_X6_act_107 fu F G = some res) {b : Nat} {H : Heap} {locs : List Loc} (hw : cMW s A v a b K0 F G H locs) {ls : Array Slot} (hl : lv_has ls 3 [(0, .ref (a 206))]) : W p l e R s m args below meth c H locs (xn F - xn K0) (2 * (xn F - xn K0)) Q (F0 m 107 ls []) := by
  have hx := C.1
  have hb := C.2.1
  unfold cb_X6_act_107 at hm
  refine lv_aload_n hx hb dX6_act_107 rfl (lv_at hl 0 rfl) ?_
  refine lv_aload_n hx hb dX6_act_108 rfl (lv_at hl 0 rfl) ?_
  refine cg_X6_26 C hw dX6_act_109 ?_
  obtain ⟨⟨r1, F1, G1⟩, hc, hm⟩ := bind_elim hm
  refine ccallI (n := 0) (As := []) (rest := [.ref (a 206)]) C hw (ck_X7_handIn l v a _ _ fu F G r1 F1 G1 hc) (cn_X7_handIn fu F G _ hc) (Nat.sub_le_sub_right (cn_X6_act_115 fu r1 F1 G1 hm) _) (crecv_X7 C hw) cm_914 cm_915 cm_916 cm_34 cm_917 (by decide +kernel) rfl (by omega) (by omega) hl.1 rfl (Nat.le_of_ble_eq_true rfl) dX6_act_112 (fun b H locs hw => ?_)
  exact cw_X6_act_115 fu C hret r1 F1 G1 hm hw (lv_sub hl [] rfl)
theorem cn_X6_act_97 (fu : Nat) {res : Int32 × PF × PG} (x2 : Int32) (F : PF) (G : PG) (hm : cb_X6_act_97 fu x2 F G = some res) : xn F ≤ xn res.2.1 := by
  unfold cb_X6_act_97 at hm
  by_cases c_1 : (F 70) ≤ (0 : Int32)
  · have hm := (if_pos c_1).symm.trans hm
    exact (cn_X6_act_121 fu x2 F G hm)
  · have hm := (if_neg c_1).symm.trans hm
    exact (cn_X6_act_107 fu F G hm)
theorem cw_X6_act_97 (fu : Nat) {res : Int32 × PF × PG} (C : cMC p R s m args c A v RX6 cX6_act 3 3 111 (xn res.2.1 - xn K0)) (hret : ∀ (b1 : Nat) (H1 : Heap) (locs1 : List Loc) (ls1 : Array Slot) (pc : Nat), cMW s A v a b1 K0 res.2.1 res.2.2 H1 locs1 → decode cX6_act pc = .ok (.return_, 1) → W p l e R s m args below meth c H1 locs1 (xn res.2.1 - xn K0) (2 * (xn res.2.1 - xn K0)) Q (F0 m pc ls1 [])) (x2 : Int32) (F : PF) (G : PG) (hm : cb_X6_act_97 fu x2 F G = some res) {b : Nat} {H : Heap} {locs : List Loc} (hw : cMW s A v a b K0 F G H locs) {ls : Array Slot} (hl : lv_has ls 3 [(0, .ref (a 206)), (2, .int x2)]) : W p l e R s m args below meth c H locs (xn F - xn K0) (2 * (xn F - xn K0)) Q (F0 m 97 ls []) := by
  have hx := C.1
  have hb := C.2.1
  unfold cb_X6_act_97 at hm
  refine lv_aload_n hx hb dX6_act_97 rfl (lv_at hl 0 rfl) ?_
  refine cg_X6_26 C hw dX6_act_98 ?_
  refine cg_X6_207 C hw dX6_act_101 ?_
  refine lv_if_le (tgt := 121) hx hb dX6_act_104 (by decide) (fun c_1 => ?_) (fun c_1 => ?_)
  · have hm := (if_pos c_1).symm.trans hm
    exact cw_X6_act_121 fu C hret x2 F G hm hw (lv_sub hl [0, 1] rfl)
  · have hm := (if_neg c_1).symm.trans hm
    exact cw_X6_act_107 fu C hret F G hm hw (lv_sub hl [0] rfl)
theorem cn_X6_act_138 (fu : Nat) {res : Int32 × PF × PG} (F : PF) (G : PG) (hm : cb_X6_act_138 fu F G = some res) : xn F ≤ xn res.2.1 := by
  unfold cb_X6_act_138 at hm
  obtain ⟨⟨r1, F1, G1⟩, hc, hm⟩ := bind_elim hm
  exact Nat.le_trans (cn_X6_over fu 4 F G _ hc) (cn_X6_act_143 fu F1 G1 hm)
theorem cw_X6_act_138 (fu : Nat) {res : Int32 × PF × PG} (C : cMC p R s m args c A v RX6 cX6_act 3 3 111 (xn res.2.1 - xn K0)) (hret : ∀ (b1 : Nat) (H1 : Heap) (locs1 : List Loc) (ls1 : Array Slot) (pc : Nat), cMW s A v a b1 K0 res.2.1 res.2.2 H1 locs1 → decode cX6_act pc = .ok (.return_, 1) → W p l e R s m args below meth c H1 locs1 (xn res.2.1 - xn K0) (2 * (xn res.2.1 - xn K0)) Q (F0 m pc ls1 [])) (F : PF) (G : PG) (hm : cb_X6_act_138 fu F G = some res) {b : Nat} {H : Heap} {locs : List Loc} (hw : cMW s A v a b K0 F G H locs) {ls : Array Slot} (hl : lv_has ls 3 [(0, .ref (a 206))]) : W p l e R s m args below meth c H locs (xn F - xn K0) (2 * (xn F - xn K0)) Q (F0 m 138 ls []) := by
  have hx := C.1
  have hb := C.2.1
  unfold cb_X6_act_138 at hm
  refine lv_aload_n hx hb dX6_act_138 rfl (lv_at hl 0 rfl) ?_
  refine lv_iconst (v := 4) hx hb dX6_act_139 (by decide) ?_
  obtain ⟨⟨r1, F1, G1⟩, hc, hm⟩ := bind_elim hm
  refine ccallV (n := 1) (As := [.int 4]) (rest := []) C hw (ck_X6_over l v a _ _ fu 4 F G r1 F1 G1 hc) (cn_X6_over fu 4 F G _ hc) (Nat.sub_le_sub_right (cn_X6_act_143 fu F1 G1 hm) _) (crecv_X6 C hw) cm_834 cm_835 cm_836 cm_21 cm_837 (by decide +kernel) rfl (by omega) (by omega) hl.1 rfl (Nat.le_of_ble_eq_true rfl) dX6_act_140 (fun b H locs hw => ?_)
  exact cw_X6_act_143 fu C hret F1 G1 hm hw (lv_sub hl [] rfl)
theorem cn_X6_act_135 (fu : Nat) {res : Int32 × PF × PG} (z0 : Int32) (F : PF) (G : PG) (hm : cb_X6_act_135 fu z0 F G = some res) : xn F ≤ xn res.2.1 := by
  unfold cb_X6_act_135 at hm
  exact Nat.le_trans (Nat.le_of_eq (xn_fup (by decide)).symm) (cn_X6_act_138 fu (fup F 65 z0) G hm)
theorem cw_X6_act_135 (fu : Nat) {res : Int32 × PF × PG} (C : cMC p R s m args c A v RX6 cX6_act 3 3 111 (xn res.2.1 - xn K0)) (hret : ∀ (b1 : Nat) (H1 : Heap) (locs1 : List Loc) (ls1 : Array Slot) (pc : Nat), cMW s A v a b1 K0 res.2.1 res.2.2 H1 locs1 → decode cX6_act pc = .ok (.return_, 1) → W p l e R s m args below meth c H1 locs1 (xn res.2.1 - xn K0) (2 * (xn res.2.1 - xn K0)) Q (F0 m pc ls1 [])) (z0 : Int32) (F : PF) (G : PG) (hm : cb_X6_act_135 fu z0 F G = some res) {b : Nat} {H : Heap} {locs : List Loc} (hw : cMW s A v a b K0 F G H locs) {ls : Array Slot} (hl : lv_has ls 3 [(0, .ref (a 206))]) : W p l e R s m args below meth c H locs (xn F - xn K0) (2 * (xn F - xn K0)) Q (F0 m 135 ls [.int z0, .ref (a 206)]) := by
  have hx := C.1
  have hb := C.2.1
  unfold cb_X6_act_135 at hm
  refine cp_X6_43 C hw dX6_act_135 (fun H locs hw => ?_)
  exact cw_X6_act_138 fu C hret (fup F 65 z0) G hm hw (lv_sub hl [0] rfl)
theorem cn_X6_act_130 (fu : Nat) {res : Int32 × PF × PG} (F : PF) (G : PG) (hm : cb_X6_act_130 fu F G = some res) : xn F ≤ xn res.2.1 := by
  unfold cb_X6_act_130 at hm
  obtain ⟨⟨r1, F1, G1⟩, hc, hm⟩ := bind_elim hm
  exact Nat.le_trans (cn_X6_pop fu F G _ hc) (cn_X6_act_135 fu r1 F1 G1 hm)
theorem cw_X6_act_130 (fu : Nat) {res : Int32 × PF × PG} (C : cMC p R s m args c A v RX6 cX6_act 3 3 111 (xn res.2.1 - xn K0)) (hret : ∀ (b1 : Nat) (H1 : Heap) (locs1 : List Loc) (ls1 : Array Slot) (pc : Nat), cMW s A v a b1 K0 res.2.1 res.2.2 H1 locs1 → decode cX6_act pc = .ok (.return_, 1) → W p l e R s m args below meth c H1 locs1 (xn res.2.1 - xn K0) (2 * (xn res.2.1 - xn K0)) Q (F0 m pc ls1 [])) (F : PF) (G : PG) (hm : cb_X6_act_130 fu F G = some res) {b : Nat} {H : Heap} {locs : List Loc} (hw : cMW s A v a b K0 F G H locs) {ls : Array Slot} (hl : lv_has ls 3 [(0, .ref (a 206))]) : W p l e R s m args below meth c H locs (xn F - xn K0) (2 * (xn F - xn K0)) Q (F0 m 130 ls []) := by
  have hx := C.1
  have hb := C.2.1
  unfold cb_X6_act_130 at hm
  refine lv_aload_n hx hb dX6_act_130 rfl (lv_at hl 0 rfl) ?_
  refine lv_aload_n hx hb dX6_act_131 rfl (lv_at hl 0 rfl) ?_
  obtain ⟨⟨r1, F1, G1⟩, hc, hm⟩ := bind_elim hm
  refine ccallI (n := 0) (As := []) (rest := [.ref (a 206)]) C hw (ck_X6_pop l v a _ _ fu F G r1 F1 G1 hc) (cn_X6_pop fu F G _ hc) (Nat.sub_le_sub_right (cn_X6_act_135 fu r1 F1 G1 hm) _) (crecv_X6 C hw) cm_558 cm_559 cm_560 cm_21 cm_561 (by decide +kernel) rfl (by omega) (by omega) hl.1 rfl (Nat.le_of_ble_eq_true rfl) dX6_act_132 (fun b H locs hw => ?_)
  exact cw_X6_act_135 fu C hret r1 F1 G1 hm hw (lv_sub hl [0] rfl)
theorem cn_X6_act_0 (fu : Nat) {res : Int32 × PF × PG} (x1 : Int32) (x2 : Int32) (F : PF) (G : PG) (hm : cb_X6_act_0 fu x1 x2 F G = some res) : xn F ≤ xn res.2.1 := by
  unfold cb_X6_act_0 at hm
  by_cases c_1 : x1 = 15
  · have hm := (if_pos c_1).symm.trans hm
    exact (cn_X6_act_76 fu F G hm)
  have hm := (if_neg c_1).symm.trans hm
  clear c_1
  by_cases c_1 : x1 = 16
  · have hm := (if_pos c_1).symm.trans hm
    exact (cn_X6_act_83 fu F G hm)
  have hm := (if_neg c_1).symm.trans hm
  clear c_1
  by_cases c_1 : x1 = 17
  · have hm := (if_pos c_1).symm.trans hm
    exact (cn_X6_act_97 fu x2 F G hm)
  have hm := (if_neg c_1).symm.trans hm
  clear c_1
  by_cases c_1 : x1 = 89
  · have hm := (if_pos c_1).symm.trans hm
    exact (cn_X6_act_52 fu x2 F G hm)
  have hm := (if_neg c_1).symm.trans hm
  clear c_1
  by_cases c_1 : x1 = 90
  · have hm := (if_pos c_1).symm.trans hm
    exact (cn_X6_act_68 fu x2 F G hm)
  have hm := (if_neg c_1).symm.trans hm
  clear c_1
  exact (cn_X6_act_130 fu F G hm)
theorem cw_X6_act_0 (fu : Nat) {res : Int32 × PF × PG} (C : cMC p R s m args c A v RX6 cX6_act 3 3 111 (xn res.2.1 - xn K0)) (hret : ∀ (b1 : Nat) (H1 : Heap) (locs1 : List Loc) (ls1 : Array Slot) (pc : Nat), cMW s A v a b1 K0 res.2.1 res.2.2 H1 locs1 → decode cX6_act pc = .ok (.return_, 1) → W p l e R s m args below meth c H1 locs1 (xn res.2.1 - xn K0) (2 * (xn res.2.1 - xn K0)) Q (F0 m pc ls1 [])) (x1 : Int32) (x2 : Int32) (F : PF) (G : PG) (hm : cb_X6_act_0 fu x1 x2 F G = some res) {b : Nat} {H : Heap} {locs : List Loc} (hw : cMW s A v a b K0 F G H locs) {ls : Array Slot} (hl : lv_has ls 3 [(0, .ref (a 206)), (1, .int x1), (2, .int x2)]) : W p l e R s m args below meth c H locs (xn F - xn K0) (2 * (xn F - xn K0)) Q (F0 m 0 ls []) := by
  have hx := C.1
  have hb := C.2.1
  unfold cb_X6_act_0 at hm
  refine lv_iload_n hx hb dX6_act_0 rfl (lv_at hl 1 rfl) ?_
  by_cases c_1 : x1 = 15
  · have hm := (if_pos c_1).symm.trans hm
    refine my_top 15 c_1 ?_
    refine lv_lookup (off := 75) (tgt := 76) hx hb dX6_act_1 (by decide) (by decide) (by decide) ?_
    exact cw_X6_act_76 fu C hret F G hm hw (lv_sub hl [0] rfl)
  have hm := (if_neg c_1).symm.trans hm
  have n_0 := c_1
  clear c_1
  by_cases c_1 : x1 = 16
  · have hm := (if_pos c_1).symm.trans hm
    refine my_top 16 c_1 ?_
    refine lv_lookup (off := 82) (tgt := 83) hx hb dX6_act_1 (by decide) (by decide) (by decide) ?_
    exact cw_X6_act_83 fu C hret F G hm hw (lv_sub hl [0] rfl)
  have hm := (if_neg c_1).symm.trans hm
  have n_1 := c_1
  clear c_1
  by_cases c_1 : x1 = 17
  · have hm := (if_pos c_1).symm.trans hm
    refine my_top 17 c_1 ?_
    refine lv_lookup (off := 96) (tgt := 97) hx hb dX6_act_1 (by decide) (by decide) (by decide) ?_
    exact cw_X6_act_97 fu C hret x2 F G hm hw (lv_sub hl [0, 2] rfl)
  have hm := (if_neg c_1).symm.trans hm
  have n_2 := c_1
  clear c_1
  by_cases c_1 : x1 = 89
  · have hm := (if_pos c_1).symm.trans hm
    refine my_top 89 c_1 ?_
    refine lv_lookup (off := 51) (tgt := 52) hx hb dX6_act_1 (by decide) (by decide) (by decide) ?_
    exact cw_X6_act_52 fu C hret x2 F G hm hw (lv_sub hl [0, 2] rfl)
  have hm := (if_neg c_1).symm.trans hm
  have n_3 := c_1
  clear c_1
  by_cases c_1 : x1 = 90
  · have hm := (if_pos c_1).symm.trans hm
    refine my_top 90 c_1 ?_
    refine lv_lookup (off := 67) (tgt := 68) hx hb dX6_act_1 (by decide) (by decide) (by decide) ?_
    exact cw_X6_act_68 fu C hret x2 F G hm hw (lv_sub hl [0, 2] rfl)
  have hm := (if_neg c_1).symm.trans hm
  have n_4 := c_1
  clear c_1
  refine lv_lookup (off := 129) (tgt := 130) hx hb dX6_act_1 (by decide) ((lv_osw n_0 (by decide)).trans ((lv_osw n_1 (by decide)).trans ((lv_osw n_2 (by decide)).trans ((lv_osw n_3 (by decide)).trans ((lv_osw n_4 (by decide)).trans (rfl)))))) (by decide) ?_
  exact cw_X6_act_130 fu C hret F G hm hw (lv_sub hl [0] rfl)
theorem cn_X6_act (fu : Nat) (x1 : Int32) (x2 : Int32) (F : PF) (G : PG) (q : Int32 × PF × PG) (hm : cf_X6_act fu x1 x2 F G = some q) : xn F ≤ xn q.2.1 := cn_X6_act_0 fu x1 x2 F G hm
theorem ck_X6_act (l : Launch) (v : EV) (a : Nat → Nat) (b sz : Nat) (fu : Nat) (x1 : Int32) (x2 : Int32) (F : PF) (G : PG) (r : Int32) (F1 : PF) (G1 : PG) (hm : cf_X6_act fu x1 x2 F G = some (r, F1, G1)) : cMV l yX6_act cX6_act 3 3 111 v a b sz [.ref (a 206), .int x1, .int x2] F G F1 G1 := cMV.of (by decide) (Nat.le_of_ble_eq_true rfl) (fun p e R s m args below meth c Q A H locs ls C hw hl hret => cw_X6_act_0 fu (res := (r, F1, G1)) C hret x1 x2 F G hm hw hl)
def cb_X6_step_140 (fu : Nat) (F : PF) (G : PG) : PR := some (0, F, G)
def cb_X6_step_134 (fu : Nat) (x1 : Int32) (x2 : Int32) (F : PF) (G : PG) : PR := (cf_X6_act fu x2 x1 F G).bind (fun q => cb_X6_step_140 fu q.2.1 q.2.2)
def cb_X6_step_131 (fu : Nat) (F : PF) (G : PG) : PR := cb_X6_step_140 fu F G
def cb_X6_step_128 (fu : Nat) (z0 : Int32) (z1 : Int32) (F : PF) (G : PG) : PR := (cf_X6_jump fu z1 z0 F G).bind (fun q => cb_X6_step_131 fu q.2.1 q.2.2)
def cb_X6_step_122 (fu : Nat) (x2 : Int32) (F : PF) (G : PG) : PR := (cf_X6_next fu F G).bind (fun q => cb_X6_step_128 fu q.1 x2 q.2.1 q.2.2)
def cb_X6_step_116 (fu : Nat) (x1 : Int32) (x2 : Int32) (F : PF) (G : PG) : PR := if (88 : Int32) < x2 then cb_X6_step_134 fu x1 x2 F G else cb_X6_step_122 fu x2 F G
def cb_X6_step_110 (fu : Nat) (x1 : Int32) (x2 : Int32) (F : PF) (G : PG) : PR := if x2 < (84 : Int32) then cb_X6_step_134 fu x1 x2 F G else cb_X6_step_116 fu x1 x2 F G
def cb_X6_step_107 (fu : Nat) (F : PF) (G : PG) : PR := cb_X6_step_140 fu F G
def cb_X6_step_102 (fu : Nat) (x2 : Int32) (F : PF) (G : PG) : PR := (cf_X6_reach fu x2 F G).bind (fun q => cb_X6_step_107 fu q.2.1 q.2.2)
def cb_X6_step_96 (fu : Nat) (x1 : Int32) (x2 : Int32) (F : PF) (G : PG) : PR := if (83 : Int32) < x2 then cb_X6_step_110 fu x1 x2 F G else cb_X6_step_102 fu x2 F G
def cb_X6_step_90 (fu : Nat) (x1 : Int32) (x2 : Int32) (F : PF) (G : PG) : PR := if x2 < (74 : Int32) then cb_X6_step_110 fu x1 x2 F G else cb_X6_step_96 fu x1 x2 F G
def cb_X6_step_87 (fu : Nat) (F : PF) (G : PG) : PR := cb_X6_step_140 fu F G
def cb_X6_step_82 (fu : Nat) (x2 : Int32) (F : PF) (G : PG) : PR := (cf_X6_move fu x2 F G).bind (fun q => cb_X6_step_87 fu q.2.1 q.2.2)
def cb_X6_step_76 (fu : Nat) (x1 : Int32) (x2 : Int32) (F : PF) (G : PG) : PR := if (73 : Int32) < x2 then cb_X6_step_90 fu x1 x2 F G else cb_X6_step_82 fu x2 F G
def cb_X6_step_70 (fu : Nat) (x1 : Int32) (x2 : Int32) (F : PF) (G : PG) : PR := if x2 < (66 : Int32) then cb_X6_step_90 fu x1 x2 F G else cb_X6_step_76 fu x1 x2 F G
def cb_X6_step_67 (fu : Nat) (F : PF) (G : PG) : PR := cb_X6_step_140 fu F G
def cb_X6_step_64 (fu : Nat) (z0 : Int32) (F : PF) (G : PG) : PR := (cf_X6_push fu z0 F G).bind (fun q => cb_X6_step_67 fu q.2.1 q.2.2)
def cb_X6_step_61 (fu : Nat) (z0 : Int32) (z1 : Int32) (F : PF) (G : PG) : PR := (cf_X6_changed fu z1 z0 F G).bind (fun q => cb_X6_step_64 fu q.1 q.2.1 q.2.2)
def cb_X6_step_55 (fu : Nat) (x2 : Int32) (F : PF) (G : PG) : PR := (cf_X6_pop fu F G).bind (fun q => cb_X6_step_61 fu q.1 x2 q.2.1 q.2.2)
def cb_X6_step_49 (fu : Nat) (x1 : Int32) (x2 : Int32) (F : PF) (G : PG) : PR := if (65 : Int32) < x2 then cb_X6_step_70 fu x1 x2 F G else cb_X6_step_55 fu x2 F G
def cb_X6_step_43 (fu : Nat) (x1 : Int32) (x2 : Int32) (F : PF) (G : PG) : PR := if x2 < (62 : Int32) then cb_X6_step_70 fu x1 x2 F G else cb_X6_step_49 fu x1 x2 F G
def cb_X6_step_40 (fu : Nat) (F : PF) (G : PG) : PR := cb_X6_step_140 fu F G
def cb_X6_step_37 (fu : Nat) (z0 : Int32) (F : PF) (G : PG) : PR := (cf_X6_push fu z0 F G).bind (fun q => cb_X6_step_40 fu q.2.1 q.2.2)
def cb_X6_step_33 (fu : Nat) (x3 : Int32) (z0 : Int32) (z1 : Int32) (F : PF) (G : PG) : PR := (cf_X11_joined fu z1 z0 x3 F G).bind (fun q => cb_X6_step_37 fu q.1 q.2.1 q.2.2)
def cb_X6_step_26 (fu : Nat) (x2 : Int32) (z0 : Int32) (F : PF) (G : PG) : PR := (cf_X6_pop fu F G).bind (fun q => cb_X6_step_33 fu z0 q.1 x2 q.2.1 q.2.2)
def cb_X6_step_22 (fu : Nat) (x2 : Int32) (F : PF) (G : PG) : PR := (cf_X6_pop fu F G).bind (fun q => cb_X6_step_26 fu x2 q.1 q.2.1 q.2.2)
def cb_X6_step_16 (fu : Nat) (x1 : Int32) (x2 : Int32) (F : PF) (G : PG) : PR := if (61 : Int32) < x2 then cb_X6_step_43 fu x1 x2 F G else cb_X6_step_22 fu x2 F G
def cb_X6_step_9 (fu : Nat) (x1 : Int32) (z0 : Int32) (F : PF) (G : PG) : PR := if z0 < (45 : Int32) then cb_X6_step_43 fu x1 z0 F G else cb_X6_step_16 fu x1 z0 F G
def cb_X6_step_0 (fu : Nat) (F : PF) (G : PG) : PR := (cf_X6_next fu F G).bind (fun q => cb_X6_step_9 fu (F 57) q.1 q.2.1 q.2.2)
def cf_X6_step (fu : Nat) (F : PF) (G : PG) : PR := cb_X6_step_0 fu F G
theorem cn_X6_step_140 (fu : Nat) {res : Int32 × PF × PG} (F : PF) (G : PG) (hm : cb_X6_step_140 fu F G = some res) : xn F ≤ xn res.2.1 := by
  unfold cb_X6_step_140 at hm
  obtain rfl := Option.some.inj hm
  exact Nat.le_refl _
theorem cw_X6_step_140 (fu : Nat) {res : Int32 × PF × PG} (C : cMC p R s m args c A v RX6 cX6_step 4 5 161 (xn res.2.1 - xn K0)) (hret : ∀ (b1 : Nat) (H1 : Heap) (locs1 : List Loc) (ls1 : Array Slot) (pc : Nat), cMW s A v a b1 K0 res.2.1 res.2.2 H1 locs1 → decode cX6_step pc = .ok (.return_, 1) → W p l e R s m args below meth c H1 locs1 (xn res.2.1 - xn K0) (2 * (xn res.2.1 - xn K0)) Q (F0 m pc ls1 [])) (F : PF) (G : PG) (hm : cb_X6_step_140 fu F G = some res) {b : Nat} {H : Heap} {locs : List Loc} (hw : cMW s A v a b K0 F G H locs) {ls : Array Slot} (hl : lv_has ls 4 []) : W p l e R s m args below meth c H locs (xn F - xn K0) (2 * (xn F - xn K0)) Q (F0 m 140 ls []) := by
  have hx := C.1
  have hb := C.2.1
  unfold cb_X6_step_140 at hm
  obtain rfl := Option.some.inj hm
  exact hret _ _ _ _ _ hw dX6_step_140
theorem cn_X6_step_134 (fu : Nat) {res : Int32 × PF × PG} (x1 : Int32) (x2 : Int32) (F : PF) (G : PG) (hm : cb_X6_step_134 fu x1 x2 F G = some res) : xn F ≤ xn res.2.1 := by
  unfold cb_X6_step_134 at hm
  obtain ⟨⟨r1, F1, G1⟩, hc, hm⟩ := bind_elim hm
  exact Nat.le_trans (cn_X6_act fu x2 x1 F G _ hc) (cn_X6_step_140 fu F1 G1 hm)
theorem cw_X6_step_134 (fu : Nat) {res : Int32 × PF × PG} (C : cMC p R s m args c A v RX6 cX6_step 4 5 161 (xn res.2.1 - xn K0)) (hret : ∀ (b1 : Nat) (H1 : Heap) (locs1 : List Loc) (ls1 : Array Slot) (pc : Nat), cMW s A v a b1 K0 res.2.1 res.2.2 H1 locs1 → decode cX6_step pc = .ok (.return_, 1) → W p l e R s m args below meth c H1 locs1 (xn res.2.1 - xn K0) (2 * (xn res.2.1 - xn K0)) Q (F0 m pc ls1 [])) (x1 : Int32) (x2 : Int32) (F : PF) (G : PG) (hm : cb_X6_step_134 fu x1 x2 F G = some res) {b : Nat} {H : Heap} {locs : List Loc} (hw : cMW s A v a b K0 F G H locs) {ls : Array Slot} (hl : lv_has ls 4 [(0, .ref (a 206)), (1, .int x1), (2, .int x2)]) : W p l e R s m args below meth c H locs (xn F - xn K0) (2 * (xn F - xn K0)) Q (F0 m 134 ls []) := by
  have hx := C.1
  have hb := C.2.1
  unfold cb_X6_step_134 at hm
  refine lv_aload_n hx hb dX6_step_134 rfl (lv_at hl 0 rfl) ?_
  refine lv_iload_n hx hb dX6_step_135 rfl (lv_at hl 2 rfl) ?_
  refine lv_iload_n hx hb dX6_step_136 rfl (lv_at hl 1 rfl) ?_
  obtain ⟨⟨r1, F1, G1⟩, hc, hm⟩ := bind_elim hm
  refine ccallV (n := 2) (As := [.int x2, .int x1]) (rest := []) C hw (ck_X6_act l v a _ _ fu x2 x1 F G r1 F1 G1 hc) (cn_X6_act fu x2 x1 F G _ hc) (Nat.sub_le_sub_right (cn_X6_step_140 fu F1 G1 hm) _) (crecv_X6 C hw) cm_886 cm_887 cm_888 cm_21 cm_889 (by decide +kernel) rfl (by omega) (by omega) hl.1 rfl (Nat.le_of_ble_eq_true rfl) dX6_step_137 (fun b H locs hw => ?_)
  exact cw_X6_step_140 fu C hret F1 G1 hm hw (lv_sub hl [] rfl)
theorem cn_X6_step_131 (fu : Nat) {res : Int32 × PF × PG} (F : PF) (G : PG) (hm : cb_X6_step_131 fu F G = some res) : xn F ≤ xn res.2.1 := by
  unfold cb_X6_step_131 at hm
  exact (cn_X6_step_140 fu F G hm)
theorem cw_X6_step_131 (fu : Nat) {res : Int32 × PF × PG} (C : cMC p R s m args c A v RX6 cX6_step 4 5 161 (xn res.2.1 - xn K0)) (hret : ∀ (b1 : Nat) (H1 : Heap) (locs1 : List Loc) (ls1 : Array Slot) (pc : Nat), cMW s A v a b1 K0 res.2.1 res.2.2 H1 locs1 → decode cX6_step pc = .ok (.return_, 1) → W p l e R s m args below meth c H1 locs1 (xn res.2.1 - xn K0) (2 * (xn res.2.1 - xn K0)) Q (F0 m pc ls1 [])) (F : PF) (G : PG) (hm : cb_X6_step_131 fu F G = some res) {b : Nat} {H : Heap} {locs : List Loc} (hw : cMW s A v a b K0 F G H locs) {ls : Array Slot} (hl : lv_has ls 4 []) : W p l e R s m args below meth c H locs (xn F - xn K0) (2 * (xn F - xn K0)) Q (F0 m 131 ls []) := by
  have hx := C.1
  have hb := C.2.1
  unfold cb_X6_step_131 at hm
  refine lv_goto (tgt := 140) hx hb dX6_step_131 (by decide) ?_
  exact cw_X6_step_140 fu C hret F G hm hw (lv_sub hl [] rfl)
theorem cn_X6_step_128 (fu : Nat) {res : Int32 × PF × PG} (z0 : Int32) (z1 : Int32) (F : PF) (G : PG) (hm : cb_X6_step_128 fu z0 z1 F G = some res) : xn F ≤ xn res.2.1 := by
  unfold cb_X6_step_128 at hm
  obtain ⟨⟨r1, F1, G1⟩, hc, hm⟩ := bind_elim hm
  exact Nat.le_trans (cn_X6_jump fu z1 z0 F G _ hc) (cn_X6_step_131 fu F1 G1 hm)
theorem cw_X6_step_128 (fu : Nat) {res : Int32 × PF × PG} (C : cMC p R s m args c A v RX6 cX6_step 4 5 161 (xn res.2.1 - xn K0)) (hret : ∀ (b1 : Nat) (H1 : Heap) (locs1 : List Loc) (ls1 : Array Slot) (pc : Nat), cMW s A v a b1 K0 res.2.1 res.2.2 H1 locs1 → decode cX6_step pc = .ok (.return_, 1) → W p l e R s m args below meth c H1 locs1 (xn res.2.1 - xn K0) (2 * (xn res.2.1 - xn K0)) Q (F0 m pc ls1 [])) (z0 : Int32) (z1 : Int32) (F : PF) (G : PG) (hm : cb_X6_step_128 fu z0 z1 F G = some res) {b : Nat} {H : Heap} {locs : List Loc} (hw : cMW s A v a b K0 F G H locs) {ls : Array Slot} (hl : lv_has ls 4 []) : W p l e R s m args below meth c H locs (xn F - xn K0) (2 * (xn F - xn K0)) Q (F0 m 128 ls [.int z0, .int z1, .ref (a 206)]) := by
  have hx := C.1
  have hb := C.2.1
  unfold cb_X6_step_128 at hm
  obtain ⟨⟨r1, F1, G1⟩, hc, hm⟩ := bind_elim hm
  refine ccallV (n := 2) (As := [.int z1, .int z0]) (rest := []) C hw (ck_X6_jump l v a _ _ fu z1 z0 F G r1 F1 G1 hc) (cn_X6_jump fu z1 z0 F G _ hc) (Nat.sub_le_sub_right (cn_X6_step_131 fu F1 G1 hm) _) (crecv_X6 C hw) cm_554 cm_555 cm_556 cm_21 cm_557 (by decide +kernel) rfl (by omega) (by omega) hl.1 rfl (Nat.le_of_ble_eq_true rfl) dX6_step_128 (fun b H locs hw => ?_)
  exact cw_X6_step_131 fu C hret F1 G1 hm hw (lv_sub hl [] rfl)
theorem cn_X6_step_122 (fu : Nat) {res : Int32 × PF × PG} (x2 : Int32) (F : PF) (G : PG) (hm : cb_X6_step_122 fu x2 F G = some res) : xn F ≤ xn res.2.1 := by
  unfold cb_X6_step_122 at hm
  obtain ⟨⟨r1, F1, G1⟩, hc, hm⟩ := bind_elim hm
  exact Nat.le_trans (cn_X6_next fu F G _ hc) (cn_X6_step_128 fu r1 x2 F1 G1 hm)
theorem cw_X6_step_122 (fu : Nat) {res : Int32 × PF × PG} (C : cMC p R s m args c A v RX6 cX6_step 4 5 161 (xn res.2.1 - xn K0)) (hret : ∀ (b1 : Nat) (H1 : Heap) (locs1 : List Loc) (ls1 : Array Slot) (pc : Nat), cMW s A v a b1 K0 res.2.1 res.2.2 H1 locs1 → decode cX6_step pc = .ok (.return_, 1) → W p l e R s m args below meth c H1 locs1 (xn res.2.1 - xn K0) (2 * (xn res.2.1 - xn K0)) Q (F0 m pc ls1 [])) (x2 : Int32) (F : PF) (G : PG) (hm : cb_X6_step_122 fu x2 F G = some res) {b : Nat} {H : Heap} {locs : List Loc} (hw : cMW s A v a b K0 F G H locs) {ls : Array Slot} (hl : lv_has ls 4 [(0, .ref (a 206)), (2, .int x2)]) : W p l e R s m args below meth c H locs (xn F - xn K0) (2 * (xn F - xn K0)) Q (F0 m 122 ls []) := by
  have hx := C.1
  have hb := C.2.1
  unfold cb_X6_step_122 at hm
  refine lv_aload_n hx hb dX6_step_122 rfl (lv_at hl 0 rfl) ?_
  refine lv_iload_n hx hb dX6_step_123 rfl (lv_at hl 1 rfl) ?_
  refine lv_aload_n hx hb dX6_step_124 rfl (lv_at hl 0 rfl) ?_
  obtain ⟨⟨r1, F1, G1⟩, hc, hm⟩ := bind_elim hm
  refine ccallI (n := 0) (As := []) (rest := [.int x2, .ref (a 206)]) C hw (ck_X6_next l v a _ _ fu F G r1 F1 G1 hc) (cn_X6_next fu F G _ hc) (Nat.sub_le_sub_right (cn_X6_step_128 fu r1 x2 F1 G1 hm) _) (crecv_X6 C hw) cm_529 cm_530 cm_531 cm_21 cm_532 (by decide +kernel) rfl (by omega) (by omega) hl.1 rfl (Nat.le_of_ble_eq_true rfl) dX6_step_125 (fun b H locs hw => ?_)
  exact cw_X6_step_128 fu C hret r1 x2 F1 G1 hm hw (lv_sub hl [] rfl)
theorem cn_X6_step_116 (fu : Nat) {res : Int32 × PF × PG} (x1 : Int32) (x2 : Int32) (F : PF) (G : PG) (hm : cb_X6_step_116 fu x1 x2 F G = some res) : xn F ≤ xn res.2.1 := by
  unfold cb_X6_step_116 at hm
  by_cases c_1 : (88 : Int32) < x2
  · have hm := (if_pos c_1).symm.trans hm
    exact (cn_X6_step_134 fu x1 x2 F G hm)
  · have hm := (if_neg c_1).symm.trans hm
    exact (cn_X6_step_122 fu x2 F G hm)
theorem cw_X6_step_116 (fu : Nat) {res : Int32 × PF × PG} (C : cMC p R s m args c A v RX6 cX6_step 4 5 161 (xn res.2.1 - xn K0)) (hret : ∀ (b1 : Nat) (H1 : Heap) (locs1 : List Loc) (ls1 : Array Slot) (pc : Nat), cMW s A v a b1 K0 res.2.1 res.2.2 H1 locs1 → decode cX6_step pc = .ok (.return_, 1) → W p l e R s m args below meth c H1 locs1 (xn res.2.1 - xn K0) (2 * (xn res.2.1 - xn K0)) Q (F0 m pc ls1 [])) (x1 : Int32) (x2 : Int32) (F : PF) (G : PG) (hm : cb_X6_step_116 fu x1 x2 F G = some res) {b : Nat} {H : Heap} {locs : List Loc} (hw : cMW s A v a b K0 F G H locs) {ls : Array Slot} (hl : lv_has ls 4 [(0, .ref (a 206)), (1, .int x1), (2, .int x2)]) : W p l e R s m args below meth c H locs (xn F - xn K0) (2 * (xn F - xn K0)) Q (F0 m 116 ls []) := by
  have hx := C.1
  have hb := C.2.1
  unfold cb_X6_step_116 at hm
  refine lv_iload_n hx hb dX6_step_116 rfl (lv_at hl 2 rfl) ?_
  refine lv_bipush (v := 88) hx hb dX6_step_117 (by decide) ?_
  refine lv_icmp_gt (tgt := 134) hx hb dX6_step_119 (by decide) (fun c_1 => ?_) (fun c_1 => ?_)
  · have hm := (if_pos c_1).symm.trans hm
    exact cw_X6_step_134 fu C hret x1 x2 F G hm hw (lv_sub hl [0, 1, 2] rfl)
  · have hm := (if_neg c_1).symm.trans hm
    exact cw_X6_step_122 fu C hret x2 F G hm hw (lv_sub hl [0, 2] rfl)
theorem cn_X6_step_110 (fu : Nat) {res : Int32 × PF × PG} (x1 : Int32) (x2 : Int32) (F : PF) (G : PG) (hm : cb_X6_step_110 fu x1 x2 F G = some res) : xn F ≤ xn res.2.1 := by
  unfold cb_X6_step_110 at hm
  by_cases c_1 : x2 < (84 : Int32)
  · have hm := (if_pos c_1).symm.trans hm
    exact (cn_X6_step_134 fu x1 x2 F G hm)
  · have hm := (if_neg c_1).symm.trans hm
    exact (cn_X6_step_116 fu x1 x2 F G hm)
theorem cw_X6_step_110 (fu : Nat) {res : Int32 × PF × PG} (C : cMC p R s m args c A v RX6 cX6_step 4 5 161 (xn res.2.1 - xn K0)) (hret : ∀ (b1 : Nat) (H1 : Heap) (locs1 : List Loc) (ls1 : Array Slot) (pc : Nat), cMW s A v a b1 K0 res.2.1 res.2.2 H1 locs1 → decode cX6_step pc = .ok (.return_, 1) → W p l e R s m args below meth c H1 locs1 (xn res.2.1 - xn K0) (2 * (xn res.2.1 - xn K0)) Q (F0 m pc ls1 [])) (x1 : Int32) (x2 : Int32) (F : PF) (G : PG) (hm : cb_X6_step_110 fu x1 x2 F G = some res) {b : Nat} {H : Heap} {locs : List Loc} (hw : cMW s A v a b K0 F G H locs) {ls : Array Slot} (hl : lv_has ls 4 [(0, .ref (a 206)), (1, .int x1), (2, .int x2)]) : W p l e R s m args below meth c H locs (xn F - xn K0) (2 * (xn F - xn K0)) Q (F0 m 110 ls []) := by
  have hx := C.1
  have hb := C.2.1
  unfold cb_X6_step_110 at hm
  refine lv_iload_n hx hb dX6_step_110 rfl (lv_at hl 2 rfl) ?_
  refine lv_bipush (v := 84) hx hb dX6_step_111 (by decide) ?_
  refine lv_icmp_lt (tgt := 134) hx hb dX6_step_113 (by decide) (fun c_1 => ?_) (fun c_1 => ?_)
  · have hm := (if_pos c_1).symm.trans hm
    exact cw_X6_step_134 fu C hret x1 x2 F G hm hw (lv_sub hl [0, 1, 2] rfl)
  · have hm := (if_neg c_1).symm.trans hm
    exact cw_X6_step_116 fu C hret x1 x2 F G hm hw (lv_sub hl [0, 1, 2] rfl)
theorem cn_X6_step_107 (fu : Nat) {res : Int32 × PF × PG} (F : PF) (G : PG) (hm : cb_X6_step_107 fu F G = some res) : xn F ≤ xn res.2.1 := by
  unfold cb_X6_step_107 at hm
  exact (cn_X6_step_140 fu F G hm)
theorem cw_X6_step_107 (fu : Nat) {res : Int32 × PF × PG} (C : cMC p R s m args c A v RX6 cX6_step 4 5 161 (xn res.2.1 - xn K0)) (hret : ∀ (b1 : Nat) (H1 : Heap) (locs1 : List Loc) (ls1 : Array Slot) (pc : Nat), cMW s A v a b1 K0 res.2.1 res.2.2 H1 locs1 → decode cX6_step pc = .ok (.return_, 1) → W p l e R s m args below meth c H1 locs1 (xn res.2.1 - xn K0) (2 * (xn res.2.1 - xn K0)) Q (F0 m pc ls1 [])) (F : PF) (G : PG) (hm : cb_X6_step_107 fu F G = some res) {b : Nat} {H : Heap} {locs : List Loc} (hw : cMW s A v a b K0 F G H locs) {ls : Array Slot} (hl : lv_has ls 4 []) : W p l e R s m args below meth c H locs (xn F - xn K0) (2 * (xn F - xn K0)) Q (F0 m 107 ls []) := by
  have hx := C.1
  have hb := C.2.1
  unfold cb_X6_step_107 at hm
  refine lv_goto (tgt := 140) hx hb dX6_step_107 (by decide) ?_
  exact cw_X6_step_140 fu C hret F G hm hw (lv_sub hl [] rfl)
theorem cn_X6_step_102 (fu : Nat) {res : Int32 × PF × PG} (x2 : Int32) (F : PF) (G : PG) (hm : cb_X6_step_102 fu x2 F G = some res) : xn F ≤ xn res.2.1 := by
  unfold cb_X6_step_102 at hm
  obtain ⟨⟨r1, F1, G1⟩, hc, hm⟩ := bind_elim hm
  exact Nat.le_trans (cn_X6_reach fu x2 F G _ hc) (cn_X6_step_107 fu F1 G1 hm)
theorem cw_X6_step_102 (fu : Nat) {res : Int32 × PF × PG} (C : cMC p R s m args c A v RX6 cX6_step 4 5 161 (xn res.2.1 - xn K0)) (hret : ∀ (b1 : Nat) (H1 : Heap) (locs1 : List Loc) (ls1 : Array Slot) (pc : Nat), cMW s A v a b1 K0 res.2.1 res.2.2 H1 locs1 → decode cX6_step pc = .ok (.return_, 1) → W p l e R s m args below meth c H1 locs1 (xn res.2.1 - xn K0) (2 * (xn res.2.1 - xn K0)) Q (F0 m pc ls1 [])) (x2 : Int32) (F : PF) (G : PG) (hm : cb_X6_step_102 fu x2 F G = some res) {b : Nat} {H : Heap} {locs : List Loc} (hw : cMW s A v a b K0 F G H locs) {ls : Array Slot} (hl : lv_has ls 4 [(0, .ref (a 206)), (2, .int x2)]) : W p l e R s m args below meth c H locs (xn F - xn K0) (2 * (xn F - xn K0)) Q (F0 m 102 ls []) := by
  have hx := C.1
  have hb := C.2.1
  unfold cb_X6_step_102 at hm
  refine lv_aload_n hx hb dX6_step_102 rfl (lv_at hl 0 rfl) ?_
  refine lv_iload_n hx hb dX6_step_103 rfl (lv_at hl 1 rfl) ?_
  obtain ⟨⟨r1, F1, G1⟩, hc, hm⟩ := bind_elim hm
  refine ccallV (n := 1) (As := [.int x2]) (rest := []) C hw (ck_X6_reach l v a _ _ fu x2 F G r1 F1 G1 hc) (cn_X6_reach fu x2 F G _ hc) (Nat.sub_le_sub_right (cn_X6_step_107 fu F1 G1 hm) _) (crecv_X6 C hw) cm_870 cm_871 cm_872 cm_21 cm_873 (by decide +kernel) rfl (by omega) (by omega) hl.1 rfl (Nat.le_of_ble_eq_true rfl) dX6_step_104 (fun b H locs hw => ?_)
  exact cw_X6_step_107 fu C hret F1 G1 hm hw (lv_sub hl [] rfl)
theorem cn_X6_step_96 (fu : Nat) {res : Int32 × PF × PG} (x1 : Int32) (x2 : Int32) (F : PF) (G : PG) (hm : cb_X6_step_96 fu x1 x2 F G = some res) : xn F ≤ xn res.2.1 := by
  unfold cb_X6_step_96 at hm
  by_cases c_1 : (83 : Int32) < x2
  · have hm := (if_pos c_1).symm.trans hm
    exact (cn_X6_step_110 fu x1 x2 F G hm)
  · have hm := (if_neg c_1).symm.trans hm
    exact (cn_X6_step_102 fu x2 F G hm)
theorem cw_X6_step_96 (fu : Nat) {res : Int32 × PF × PG} (C : cMC p R s m args c A v RX6 cX6_step 4 5 161 (xn res.2.1 - xn K0)) (hret : ∀ (b1 : Nat) (H1 : Heap) (locs1 : List Loc) (ls1 : Array Slot) (pc : Nat), cMW s A v a b1 K0 res.2.1 res.2.2 H1 locs1 → decode cX6_step pc = .ok (.return_, 1) → W p l e R s m args below meth c H1 locs1 (xn res.2.1 - xn K0) (2 * (xn res.2.1 - xn K0)) Q (F0 m pc ls1 [])) (x1 : Int32) (x2 : Int32) (F : PF) (G : PG) (hm : cb_X6_step_96 fu x1 x2 F G = some res) {b : Nat} {H : Heap} {locs : List Loc} (hw : cMW s A v a b K0 F G H locs) {ls : Array Slot} (hl : lv_has ls 4 [(0, .ref (a 206)), (1, .int x1), (2, .int x2)]) : W p l e R s m args below meth c H locs (xn F - xn K0) (2 * (xn F - xn K0)) Q (F0 m 96 ls []) := by
  have hx := C.1
  have hb := C.2.1
  unfold cb_X6_step_96 at hm
  refine lv_iload_n hx hb dX6_step_96 rfl (lv_at hl 2 rfl) ?_
  refine lv_bipush (v := 83) hx hb dX6_step_97 (by decide) ?_
  refine lv_icmp_gt (tgt := 110) hx hb dX6_step_99 (by decide) (fun c_1 => ?_) (fun c_1 => ?_)
  · have hm := (if_pos c_1).symm.trans hm
    exact cw_X6_step_110 fu C hret x1 x2 F G hm hw (lv_sub hl [0, 1, 2] rfl)
  · have hm := (if_neg c_1).symm.trans hm
    exact cw_X6_step_102 fu C hret x2 F G hm hw (lv_sub hl [0, 2] rfl)
theorem cn_X6_step_90 (fu : Nat) {res : Int32 × PF × PG} (x1 : Int32) (x2 : Int32) (F : PF) (G : PG) (hm : cb_X6_step_90 fu x1 x2 F G = some res) : xn F ≤ xn res.2.1 := by
  unfold cb_X6_step_90 at hm
  by_cases c_1 : x2 < (74 : Int32)
  · have hm := (if_pos c_1).symm.trans hm
    exact (cn_X6_step_110 fu x1 x2 F G hm)
  · have hm := (if_neg c_1).symm.trans hm
    exact (cn_X6_step_96 fu x1 x2 F G hm)
theorem cw_X6_step_90 (fu : Nat) {res : Int32 × PF × PG} (C : cMC p R s m args c A v RX6 cX6_step 4 5 161 (xn res.2.1 - xn K0)) (hret : ∀ (b1 : Nat) (H1 : Heap) (locs1 : List Loc) (ls1 : Array Slot) (pc : Nat), cMW s A v a b1 K0 res.2.1 res.2.2 H1 locs1 → decode cX6_step pc = .ok (.return_, 1) → W p l e R s m args below meth c H1 locs1 (xn res.2.1 - xn K0) (2 * (xn res.2.1 - xn K0)) Q (F0 m pc ls1 [])) (x1 : Int32) (x2 : Int32) (F : PF) (G : PG) (hm : cb_X6_step_90 fu x1 x2 F G = some res) {b : Nat} {H : Heap} {locs : List Loc} (hw : cMW s A v a b K0 F G H locs) {ls : Array Slot} (hl : lv_has ls 4 [(0, .ref (a 206)), (1, .int x1), (2, .int x2)]) : W p l e R s m args below meth c H locs (xn F - xn K0) (2 * (xn F - xn K0)) Q (F0 m 90 ls []) := by
  have hx := C.1
  have hb := C.2.1
  unfold cb_X6_step_90 at hm
  refine lv_iload_n hx hb dX6_step_90 rfl (lv_at hl 2 rfl) ?_
  refine lv_bipush (v := 74) hx hb dX6_step_91 (by decide) ?_
  refine lv_icmp_lt (tgt := 110) hx hb dX6_step_93 (by decide) (fun c_1 => ?_) (fun c_1 => ?_)
  · have hm := (if_pos c_1).symm.trans hm
    exact cw_X6_step_110 fu C hret x1 x2 F G hm hw (lv_sub hl [0, 1, 2] rfl)
  · have hm := (if_neg c_1).symm.trans hm
    exact cw_X6_step_96 fu C hret x1 x2 F G hm hw (lv_sub hl [0, 1, 2] rfl)
theorem cn_X6_step_87 (fu : Nat) {res : Int32 × PF × PG} (F : PF) (G : PG) (hm : cb_X6_step_87 fu F G = some res) : xn F ≤ xn res.2.1 := by
  unfold cb_X6_step_87 at hm
  exact (cn_X6_step_140 fu F G hm)
theorem cw_X6_step_87 (fu : Nat) {res : Int32 × PF × PG} (C : cMC p R s m args c A v RX6 cX6_step 4 5 161 (xn res.2.1 - xn K0)) (hret : ∀ (b1 : Nat) (H1 : Heap) (locs1 : List Loc) (ls1 : Array Slot) (pc : Nat), cMW s A v a b1 K0 res.2.1 res.2.2 H1 locs1 → decode cX6_step pc = .ok (.return_, 1) → W p l e R s m args below meth c H1 locs1 (xn res.2.1 - xn K0) (2 * (xn res.2.1 - xn K0)) Q (F0 m pc ls1 [])) (F : PF) (G : PG) (hm : cb_X6_step_87 fu F G = some res) {b : Nat} {H : Heap} {locs : List Loc} (hw : cMW s A v a b K0 F G H locs) {ls : Array Slot} (hl : lv_has ls 4 []) : W p l e R s m args below meth c H locs (xn F - xn K0) (2 * (xn F - xn K0)) Q (F0 m 87 ls []) := by
  have hx := C.1
  have hb := C.2.1
  unfold cb_X6_step_87 at hm
  refine lv_goto (tgt := 140) hx hb dX6_step_87 (by decide) ?_
  exact cw_X6_step_140 fu C hret F G hm hw (lv_sub hl [] rfl)
theorem cn_X6_step_82 (fu : Nat) {res : Int32 × PF × PG} (x2 : Int32) (F : PF) (G : PG) (hm : cb_X6_step_82 fu x2 F G = some res) : xn F ≤ xn res.2.1 := by
  unfold cb_X6_step_82 at hm
  obtain ⟨⟨r1, F1, G1⟩, hc, hm⟩ := bind_elim hm
  exact Nat.le_trans (cn_X6_move fu x2 F G _ hc) (cn_X6_step_87 fu F1 G1 hm)
theorem cw_X6_step_82 (fu : Nat) {res : Int32 × PF × PG} (C : cMC p R s m args c A v RX6 cX6_step 4 5 161 (xn res.2.1 - xn K0)) (hret : ∀ (b1 : Nat) (H1 : Heap) (locs1 : List Loc) (ls1 : Array Slot) (pc : Nat), cMW s A v a b1 K0 res.2.1 res.2.2 H1 locs1 → decode cX6_step pc = .ok (.return_, 1) → W p l e R s m args below meth c H1 locs1 (xn res.2.1 - xn K0) (2 * (xn res.2.1 - xn K0)) Q (F0 m pc ls1 [])) (x2 : Int32) (F : PF) (G : PG) (hm : cb_X6_step_82 fu x2 F G = some res) {b : Nat} {H : Heap} {locs : List Loc} (hw : cMW s A v a b K0 F G H locs) {ls : Array Slot} (hl : lv_has ls 4 [(0, .ref (a 206)), (2, .int x2)]) : W p l e R s m args below meth c H locs (xn F - xn K0) (2 * (xn F - xn K0)) Q (F0 m 82 ls []) := by
  have hx := C.1
  have hb := C.2.1
  unfold cb_X6_step_82 at hm
  refine lv_aload_n hx hb dX6_step_82 rfl (lv_at hl 0 rfl) ?_
  refine lv_iload_n hx hb dX6_step_83 rfl (lv_at hl 1 rfl) ?_
  obtain ⟨⟨r1, F1, G1⟩, hc, hm⟩ := bind_elim hm
  refine ccallV (n := 1) (As := [.int x2]) (rest := []) C hw (ck_X6_move l v a _ _ fu x2 F G r1 F1 G1 hc) (cn_X6_move fu x2 F G _ hc) (Nat.sub_le_sub_right (cn_X6_step_87 fu F1 G1 hm) _) (crecv_X6 C hw) cm_858 cm_859 cm_860 cm_21 cm_861 (by decide +kernel) rfl (by omega) (by omega) hl.1 rfl (Nat.le_of_ble_eq_true rfl) dX6_step_84 (fun b H locs hw => ?_)
  exact cw_X6_step_87 fu C hret F1 G1 hm hw (lv_sub hl [] rfl)
theorem cn_X6_step_76 (fu : Nat) {res : Int32 × PF × PG} (x1 : Int32) (x2 : Int32) (F : PF) (G : PG) (hm : cb_X6_step_76 fu x1 x2 F G = some res) : xn F ≤ xn res.2.1 := by
  unfold cb_X6_step_76 at hm
  by_cases c_1 : (73 : Int32) < x2
  · have hm := (if_pos c_1).symm.trans hm
    exact (cn_X6_step_90 fu x1 x2 F G hm)
  · have hm := (if_neg c_1).symm.trans hm
    exact (cn_X6_step_82 fu x2 F G hm)
theorem cw_X6_step_76 (fu : Nat) {res : Int32 × PF × PG} (C : cMC p R s m args c A v RX6 cX6_step 4 5 161 (xn res.2.1 - xn K0)) (hret : ∀ (b1 : Nat) (H1 : Heap) (locs1 : List Loc) (ls1 : Array Slot) (pc : Nat), cMW s A v a b1 K0 res.2.1 res.2.2 H1 locs1 → decode cX6_step pc = .ok (.return_, 1) → W p l e R s m args below meth c H1 locs1 (xn res.2.1 - xn K0) (2 * (xn res.2.1 - xn K0)) Q (F0 m pc ls1 [])) (x1 : Int32) (x2 : Int32) (F : PF) (G : PG) (hm : cb_X6_step_76 fu x1 x2 F G = some res) {b : Nat} {H : Heap} {locs : List Loc} (hw : cMW s A v a b K0 F G H locs) {ls : Array Slot} (hl : lv_has ls 4 [(0, .ref (a 206)), (1, .int x1), (2, .int x2)]) : W p l e R s m args below meth c H locs (xn F - xn K0) (2 * (xn F - xn K0)) Q (F0 m 76 ls []) := by
  have hx := C.1
  have hb := C.2.1
  unfold cb_X6_step_76 at hm
  refine lv_iload_n hx hb dX6_step_76 rfl (lv_at hl 2 rfl) ?_
  refine lv_bipush (v := 73) hx hb dX6_step_77 (by decide) ?_
  refine lv_icmp_gt (tgt := 90) hx hb dX6_step_79 (by decide) (fun c_1 => ?_) (fun c_1 => ?_)
  · have hm := (if_pos c_1).symm.trans hm
    exact cw_X6_step_90 fu C hret x1 x2 F G hm hw (lv_sub hl [0, 1, 2] rfl)
  · have hm := (if_neg c_1).symm.trans hm
    exact cw_X6_step_82 fu C hret x2 F G hm hw (lv_sub hl [0, 2] rfl)
theorem cn_X6_step_70 (fu : Nat) {res : Int32 × PF × PG} (x1 : Int32) (x2 : Int32) (F : PF) (G : PG) (hm : cb_X6_step_70 fu x1 x2 F G = some res) : xn F ≤ xn res.2.1 := by
  unfold cb_X6_step_70 at hm
  by_cases c_1 : x2 < (66 : Int32)
  · have hm := (if_pos c_1).symm.trans hm
    exact (cn_X6_step_90 fu x1 x2 F G hm)
  · have hm := (if_neg c_1).symm.trans hm
    exact (cn_X6_step_76 fu x1 x2 F G hm)
theorem cw_X6_step_70 (fu : Nat) {res : Int32 × PF × PG} (C : cMC p R s m args c A v RX6 cX6_step 4 5 161 (xn res.2.1 - xn K0)) (hret : ∀ (b1 : Nat) (H1 : Heap) (locs1 : List Loc) (ls1 : Array Slot) (pc : Nat), cMW s A v a b1 K0 res.2.1 res.2.2 H1 locs1 → decode cX6_step pc = .ok (.return_, 1) → W p l e R s m args below meth c H1 locs1 (xn res.2.1 - xn K0) (2 * (xn res.2.1 - xn K0)) Q (F0 m pc ls1 [])) (x1 : Int32) (x2 : Int32) (F : PF) (G : PG) (hm : cb_X6_step_70 fu x1 x2 F G = some res) {b : Nat} {H : Heap} {locs : List Loc} (hw : cMW s A v a b K0 F G H locs) {ls : Array Slot} (hl : lv_has ls 4 [(0, .ref (a 206)), (1, .int x1), (2, .int x2)]) : W p l e R s m args below meth c H locs (xn F - xn K0) (2 * (xn F - xn K0)) Q (F0 m 70 ls []) := by
  have hx := C.1
  have hb := C.2.1
  unfold cb_X6_step_70 at hm
  refine lv_iload_n hx hb dX6_step_70 rfl (lv_at hl 2 rfl) ?_
  refine lv_bipush (v := 66) hx hb dX6_step_71 (by decide) ?_
  refine lv_icmp_lt (tgt := 90) hx hb dX6_step_73 (by decide) (fun c_1 => ?_) (fun c_1 => ?_)
  · have hm := (if_pos c_1).symm.trans hm
    exact cw_X6_step_90 fu C hret x1 x2 F G hm hw (lv_sub hl [0, 1, 2] rfl)
  · have hm := (if_neg c_1).symm.trans hm
    exact cw_X6_step_76 fu C hret x1 x2 F G hm hw (lv_sub hl [0, 1, 2] rfl)
theorem cn_X6_step_67 (fu : Nat) {res : Int32 × PF × PG} (F : PF) (G : PG) (hm : cb_X6_step_67 fu F G = some res) : xn F ≤ xn res.2.1 := by
  unfold cb_X6_step_67 at hm
  exact (cn_X6_step_140 fu F G hm)
theorem cw_X6_step_67 (fu : Nat) {res : Int32 × PF × PG} (C : cMC p R s m args c A v RX6 cX6_step 4 5 161 (xn res.2.1 - xn K0)) (hret : ∀ (b1 : Nat) (H1 : Heap) (locs1 : List Loc) (ls1 : Array Slot) (pc : Nat), cMW s A v a b1 K0 res.2.1 res.2.2 H1 locs1 → decode cX6_step pc = .ok (.return_, 1) → W p l e R s m args below meth c H1 locs1 (xn res.2.1 - xn K0) (2 * (xn res.2.1 - xn K0)) Q (F0 m pc ls1 [])) (F : PF) (G : PG) (hm : cb_X6_step_67 fu F G = some res) {b : Nat} {H : Heap} {locs : List Loc} (hw : cMW s A v a b K0 F G H locs) {ls : Array Slot} (hl : lv_has ls 4 []) : W p l e R s m args below meth c H locs (xn F - xn K0) (2 * (xn F - xn K0)) Q (F0 m 67 ls []) := by
  have hx := C.1
  have hb := C.2.1
  unfold cb_X6_step_67 at hm
  refine lv_goto (tgt := 140) hx hb dX6_step_67 (by decide) ?_
  exact cw_X6_step_140 fu C hret F G hm hw (lv_sub hl [] rfl)
theorem cn_X6_step_64 (fu : Nat) {res : Int32 × PF × PG} (z0 : Int32) (F : PF) (G : PG) (hm : cb_X6_step_64 fu z0 F G = some res) : xn F ≤ xn res.2.1 := by
  unfold cb_X6_step_64 at hm
  obtain ⟨⟨r1, F1, G1⟩, hc, hm⟩ := bind_elim hm
  exact Nat.le_trans (cn_X6_push fu z0 F G _ hc) (cn_X6_step_67 fu F1 G1 hm)
theorem cw_X6_step_64 (fu : Nat) {res : Int32 × PF × PG} (C : cMC p R s m args c A v RX6 cX6_step 4 5 161 (xn res.2.1 - xn K0)) (hret : ∀ (b1 : Nat) (H1 : Heap) (locs1 : List Loc) (ls1 : Array Slot) (pc : Nat), cMW s A v a b1 K0 res.2.1 res.2.2 H1 locs1 → decode cX6_step pc = .ok (.return_, 1) → W p l e R s m args below meth c H1 locs1 (xn res.2.1 - xn K0) (2 * (xn res.2.1 - xn K0)) Q (F0 m pc ls1 [])) (z0 : Int32) (F : PF) (G : PG) (hm : cb_X6_step_64 fu z0 F G = some res) {b : Nat} {H : Heap} {locs : List Loc} (hw : cMW s A v a b K0 F G H locs) {ls : Array Slot} (hl : lv_has ls 4 []) : W p l e R s m args below meth c H locs (xn F - xn K0) (2 * (xn F - xn K0)) Q (F0 m 64 ls [.int z0, .ref (a 206)]) := by
  have hx := C.1
  have hb := C.2.1
  unfold cb_X6_step_64 at hm
  obtain ⟨⟨r1, F1, G1⟩, hc, hm⟩ := bind_elim hm
  refine ccallV (n := 1) (As := [.int z0]) (rest := []) C hw (ck_X6_push l v a _ _ fu z0 F G r1 F1 G1 hc) (cn_X6_push fu z0 F G _ hc) (Nat.sub_le_sub_right (cn_X6_step_67 fu F1 G1 hm) _) (crecv_X6 C hw) cm_533 cm_534 cm_535 cm_21 cm_536 (by decide +kernel) rfl (by omega) (by omega) hl.1 rfl (Nat.le_of_ble_eq_true rfl) dX6_step_64 (fun b H locs hw => ?_)
  exact cw_X6_step_67 fu C hret F1 G1 hm hw (lv_sub hl [] rfl)
theorem cn_X6_step_61 (fu : Nat) {res : Int32 × PF × PG} (z0 : Int32) (z1 : Int32) (F : PF) (G : PG) (hm : cb_X6_step_61 fu z0 z1 F G = some res) : xn F ≤ xn res.2.1 := by
  unfold cb_X6_step_61 at hm
  obtain ⟨⟨r1, F1, G1⟩, hc, hm⟩ := bind_elim hm
  exact Nat.le_trans (cn_X6_changed fu z1 z0 F G _ hc) (cn_X6_step_64 fu r1 F1 G1 hm)
theorem cw_X6_step_61 (fu : Nat) {res : Int32 × PF × PG} (C : cMC p R s m args c A v RX6 cX6_step 4 5 161 (xn res.2.1 - xn K0)) (hret : ∀ (b1 : Nat) (H1 : Heap) (locs1 : List Loc) (ls1 : Array Slot) (pc : Nat), cMW s A v a b1 K0 res.2.1 res.2.2 H1 locs1 → decode cX6_step pc = .ok (.return_, 1) → W p l e R s m args below meth c H1 locs1 (xn res.2.1 - xn K0) (2 * (xn res.2.1 - xn K0)) Q (F0 m pc ls1 [])) (z0 : Int32) (z1 : Int32) (F : PF) (G : PG) (hm : cb_X6_step_61 fu z0 z1 F G = some res) {b : Nat} {H : Heap} {locs : List Loc} (hw : cMW s A v a b K0 F G H locs) {ls : Array Slot} (hl : lv_has ls 4 []) : W p l e R s m args below meth c H locs (xn F - xn K0) (2 * (xn F - xn K0)) Q (F0 m 61 ls [.int z0, .int z1, .ref (a 206)]) := by
  have hx := C.1
  have hb := C.2.1
  unfold cb_X6_step_61 at hm
  obtain ⟨⟨r1, F1, G1⟩, hc, hm⟩ := bind_elim hm
  refine ccallIS (n := 2) (As := [.int z1, .int z0]) (rest := [.ref (a 206)]) C hw (ck_X6_changed l v a _ _ fu z1 z0 F G r1 F1 G1 hc) (cn_X6_changed fu z1 z0 F G _ hc) (Nat.sub_le_sub_right (cn_X6_step_64 fu r1 F1 G1 hm) _) cm_565 cm_566 cm_21 cm_567 (by decide +kernel) rfl (by omega) (by omega) hl.1 rfl (Nat.le_of_ble_eq_true rfl) dX6_step_61 (fun b H locs hw => ?_)
  exact cw_X6_step_64 fu C hret r1 F1 G1 hm hw (lv_sub hl [] rfl)
theorem cn_X6_step_55 (fu : Nat) {res : Int32 × PF × PG} (x2 : Int32) (F : PF) (G : PG) (hm : cb_X6_step_55 fu x2 F G = some res) : xn F ≤ xn res.2.1 := by
  unfold cb_X6_step_55 at hm
  obtain ⟨⟨r1, F1, G1⟩, hc, hm⟩ := bind_elim hm
  exact Nat.le_trans (cn_X6_pop fu F G _ hc) (cn_X6_step_61 fu r1 x2 F1 G1 hm)
theorem cw_X6_step_55 (fu : Nat) {res : Int32 × PF × PG} (C : cMC p R s m args c A v RX6 cX6_step 4 5 161 (xn res.2.1 - xn K0)) (hret : ∀ (b1 : Nat) (H1 : Heap) (locs1 : List Loc) (ls1 : Array Slot) (pc : Nat), cMW s A v a b1 K0 res.2.1 res.2.2 H1 locs1 → decode cX6_step pc = .ok (.return_, 1) → W p l e R s m args below meth c H1 locs1 (xn res.2.1 - xn K0) (2 * (xn res.2.1 - xn K0)) Q (F0 m pc ls1 [])) (x2 : Int32) (F : PF) (G : PG) (hm : cb_X6_step_55 fu x2 F G = some res) {b : Nat} {H : Heap} {locs : List Loc} (hw : cMW s A v a b K0 F G H locs) {ls : Array Slot} (hl : lv_has ls 4 [(0, .ref (a 206)), (2, .int x2)]) : W p l e R s m args below meth c H locs (xn F - xn K0) (2 * (xn F - xn K0)) Q (F0 m 55 ls []) := by
  have hx := C.1
  have hb := C.2.1
  unfold cb_X6_step_55 at hm
  refine lv_aload_n hx hb dX6_step_55 rfl (lv_at hl 0 rfl) ?_
  refine lv_iload_n hx hb dX6_step_56 rfl (lv_at hl 1 rfl) ?_
  refine lv_aload_n hx hb dX6_step_57 rfl (lv_at hl 0 rfl) ?_
  obtain ⟨⟨r1, F1, G1⟩, hc, hm⟩ := bind_elim hm
  refine ccallI (n := 0) (As := []) (rest := [.int x2, .ref (a 206)]) C hw (ck_X6_pop l v a _ _ fu F G r1 F1 G1 hc) (cn_X6_pop fu F G _ hc) (Nat.sub_le_sub_right (cn_X6_step_61 fu r1 x2 F1 G1 hm) _) (crecv_X6 C hw) cm_558 cm_559 cm_560 cm_21 cm_561 (by decide +kernel) rfl (by omega) (by omega) hl.1 rfl (Nat.le_of_ble_eq_true rfl) dX6_step_58 (fun b H locs hw => ?_)
  exact cw_X6_step_61 fu C hret r1 x2 F1 G1 hm hw (lv_sub hl [] rfl)
theorem cn_X6_step_49 (fu : Nat) {res : Int32 × PF × PG} (x1 : Int32) (x2 : Int32) (F : PF) (G : PG) (hm : cb_X6_step_49 fu x1 x2 F G = some res) : xn F ≤ xn res.2.1 := by
  unfold cb_X6_step_49 at hm
  by_cases c_1 : (65 : Int32) < x2
  · have hm := (if_pos c_1).symm.trans hm
    exact (cn_X6_step_70 fu x1 x2 F G hm)
  · have hm := (if_neg c_1).symm.trans hm
    exact (cn_X6_step_55 fu x2 F G hm)
theorem cw_X6_step_49 (fu : Nat) {res : Int32 × PF × PG} (C : cMC p R s m args c A v RX6 cX6_step 4 5 161 (xn res.2.1 - xn K0)) (hret : ∀ (b1 : Nat) (H1 : Heap) (locs1 : List Loc) (ls1 : Array Slot) (pc : Nat), cMW s A v a b1 K0 res.2.1 res.2.2 H1 locs1 → decode cX6_step pc = .ok (.return_, 1) → W p l e R s m args below meth c H1 locs1 (xn res.2.1 - xn K0) (2 * (xn res.2.1 - xn K0)) Q (F0 m pc ls1 [])) (x1 : Int32) (x2 : Int32) (F : PF) (G : PG) (hm : cb_X6_step_49 fu x1 x2 F G = some res) {b : Nat} {H : Heap} {locs : List Loc} (hw : cMW s A v a b K0 F G H locs) {ls : Array Slot} (hl : lv_has ls 4 [(0, .ref (a 206)), (1, .int x1), (2, .int x2)]) : W p l e R s m args below meth c H locs (xn F - xn K0) (2 * (xn F - xn K0)) Q (F0 m 49 ls []) := by
  have hx := C.1
  have hb := C.2.1
  unfold cb_X6_step_49 at hm
  refine lv_iload_n hx hb dX6_step_49 rfl (lv_at hl 2 rfl) ?_
  refine lv_bipush (v := 65) hx hb dX6_step_50 (by decide) ?_
  refine lv_icmp_gt (tgt := 70) hx hb dX6_step_52 (by decide) (fun c_1 => ?_) (fun c_1 => ?_)
  · have hm := (if_pos c_1).symm.trans hm
    exact cw_X6_step_70 fu C hret x1 x2 F G hm hw (lv_sub hl [0, 1, 2] rfl)
  · have hm := (if_neg c_1).symm.trans hm
    exact cw_X6_step_55 fu C hret x2 F G hm hw (lv_sub hl [0, 2] rfl)
theorem cn_X6_step_43 (fu : Nat) {res : Int32 × PF × PG} (x1 : Int32) (x2 : Int32) (F : PF) (G : PG) (hm : cb_X6_step_43 fu x1 x2 F G = some res) : xn F ≤ xn res.2.1 := by
  unfold cb_X6_step_43 at hm
  by_cases c_1 : x2 < (62 : Int32)
  · have hm := (if_pos c_1).symm.trans hm
    exact (cn_X6_step_70 fu x1 x2 F G hm)
  · have hm := (if_neg c_1).symm.trans hm
    exact (cn_X6_step_49 fu x1 x2 F G hm)
theorem cw_X6_step_43 (fu : Nat) {res : Int32 × PF × PG} (C : cMC p R s m args c A v RX6 cX6_step 4 5 161 (xn res.2.1 - xn K0)) (hret : ∀ (b1 : Nat) (H1 : Heap) (locs1 : List Loc) (ls1 : Array Slot) (pc : Nat), cMW s A v a b1 K0 res.2.1 res.2.2 H1 locs1 → decode cX6_step pc = .ok (.return_, 1) → W p l e R s m args below meth c H1 locs1 (xn res.2.1 - xn K0) (2 * (xn res.2.1 - xn K0)) Q (F0 m pc ls1 [])) (x1 : Int32) (x2 : Int32) (F : PF) (G : PG) (hm : cb_X6_step_43 fu x1 x2 F G = some res) {b : Nat} {H : Heap} {locs : List Loc} (hw : cMW s A v a b K0 F G H locs) {ls : Array Slot} (hl : lv_has ls 4 [(0, .ref (a 206)), (1, .int x1), (2, .int x2)]) : W p l e R s m args below meth c H locs (xn F - xn K0) (2 * (xn F - xn K0)) Q (F0 m 43 ls []) := by
  have hx := C.1
  have hb := C.2.1
  unfold cb_X6_step_43 at hm
  refine lv_iload_n hx hb dX6_step_43 rfl (lv_at hl 2 rfl) ?_
  refine lv_bipush (v := 62) hx hb dX6_step_44 (by decide) ?_
  refine lv_icmp_lt (tgt := 70) hx hb dX6_step_46 (by decide) (fun c_1 => ?_) (fun c_1 => ?_)
  · have hm := (if_pos c_1).symm.trans hm
    exact cw_X6_step_70 fu C hret x1 x2 F G hm hw (lv_sub hl [0, 1, 2] rfl)
  · have hm := (if_neg c_1).symm.trans hm
    exact cw_X6_step_49 fu C hret x1 x2 F G hm hw (lv_sub hl [0, 1, 2] rfl)
theorem cn_X6_step_40 (fu : Nat) {res : Int32 × PF × PG} (F : PF) (G : PG) (hm : cb_X6_step_40 fu F G = some res) : xn F ≤ xn res.2.1 := by
  unfold cb_X6_step_40 at hm
  exact (cn_X6_step_140 fu F G hm)
theorem cw_X6_step_40 (fu : Nat) {res : Int32 × PF × PG} (C : cMC p R s m args c A v RX6 cX6_step 4 5 161 (xn res.2.1 - xn K0)) (hret : ∀ (b1 : Nat) (H1 : Heap) (locs1 : List Loc) (ls1 : Array Slot) (pc : Nat), cMW s A v a b1 K0 res.2.1 res.2.2 H1 locs1 → decode cX6_step pc = .ok (.return_, 1) → W p l e R s m args below meth c H1 locs1 (xn res.2.1 - xn K0) (2 * (xn res.2.1 - xn K0)) Q (F0 m pc ls1 [])) (F : PF) (G : PG) (hm : cb_X6_step_40 fu F G = some res) {b : Nat} {H : Heap} {locs : List Loc} (hw : cMW s A v a b K0 F G H locs) {ls : Array Slot} (hl : lv_has ls 4 []) : W p l e R s m args below meth c H locs (xn F - xn K0) (2 * (xn F - xn K0)) Q (F0 m 40 ls []) := by
  have hx := C.1
  have hb := C.2.1
  unfold cb_X6_step_40 at hm
  refine lv_goto (tgt := 140) hx hb dX6_step_40 (by decide) ?_
  exact cw_X6_step_140 fu C hret F G hm hw (lv_sub hl [] rfl)
theorem cn_X6_step_37 (fu : Nat) {res : Int32 × PF × PG} (z0 : Int32) (F : PF) (G : PG) (hm : cb_X6_step_37 fu z0 F G = some res) : xn F ≤ xn res.2.1 := by
  unfold cb_X6_step_37 at hm
  obtain ⟨⟨r1, F1, G1⟩, hc, hm⟩ := bind_elim hm
  exact Nat.le_trans (cn_X6_push fu z0 F G _ hc) (cn_X6_step_40 fu F1 G1 hm)
theorem cw_X6_step_37 (fu : Nat) {res : Int32 × PF × PG} (C : cMC p R s m args c A v RX6 cX6_step 4 5 161 (xn res.2.1 - xn K0)) (hret : ∀ (b1 : Nat) (H1 : Heap) (locs1 : List Loc) (ls1 : Array Slot) (pc : Nat), cMW s A v a b1 K0 res.2.1 res.2.2 H1 locs1 → decode cX6_step pc = .ok (.return_, 1) → W p l e R s m args below meth c H1 locs1 (xn res.2.1 - xn K0) (2 * (xn res.2.1 - xn K0)) Q (F0 m pc ls1 [])) (z0 : Int32) (F : PF) (G : PG) (hm : cb_X6_step_37 fu z0 F G = some res) {b : Nat} {H : Heap} {locs : List Loc} (hw : cMW s A v a b K0 F G H locs) {ls : Array Slot} (hl : lv_has ls 4 []) : W p l e R s m args below meth c H locs (xn F - xn K0) (2 * (xn F - xn K0)) Q (F0 m 37 ls [.int z0, .ref (a 206)]) := by
  have hx := C.1
  have hb := C.2.1
  unfold cb_X6_step_37 at hm
  obtain ⟨⟨r1, F1, G1⟩, hc, hm⟩ := bind_elim hm
  refine ccallV (n := 1) (As := [.int z0]) (rest := []) C hw (ck_X6_push l v a _ _ fu z0 F G r1 F1 G1 hc) (cn_X6_push fu z0 F G _ hc) (Nat.sub_le_sub_right (cn_X6_step_40 fu F1 G1 hm) _) (crecv_X6 C hw) cm_533 cm_534 cm_535 cm_21 cm_536 (by decide +kernel) rfl (by omega) (by omega) hl.1 rfl (Nat.le_of_ble_eq_true rfl) dX6_step_37 (fun b H locs hw => ?_)
  exact cw_X6_step_40 fu C hret F1 G1 hm hw (lv_sub hl [] rfl)
theorem cn_X6_step_33 (fu : Nat) {res : Int32 × PF × PG} (x3 : Int32) (z0 : Int32) (z1 : Int32) (F : PF) (G : PG) (hm : cb_X6_step_33 fu x3 z0 z1 F G = some res) : xn F ≤ xn res.2.1 := by
  unfold cb_X6_step_33 at hm
  obtain ⟨⟨r1, F1, G1⟩, hc, hm⟩ := bind_elim hm
  exact Nat.le_trans (cn_X11_joined fu z1 z0 x3 F G _ hc) (cn_X6_step_37 fu r1 F1 G1 hm)
theorem cw_X6_step_33 (fu : Nat) {res : Int32 × PF × PG} (C : cMC p R s m args c A v RX6 cX6_step 4 5 161 (xn res.2.1 - xn K0)) (hret : ∀ (b1 : Nat) (H1 : Heap) (locs1 : List Loc) (ls1 : Array Slot) (pc : Nat), cMW s A v a b1 K0 res.2.1 res.2.2 H1 locs1 → decode cX6_step pc = .ok (.return_, 1) → W p l e R s m args below meth c H1 locs1 (xn res.2.1 - xn K0) (2 * (xn res.2.1 - xn K0)) Q (F0 m pc ls1 [])) (x3 : Int32) (z0 : Int32) (z1 : Int32) (F : PF) (G : PG) (hm : cb_X6_step_33 fu x3 z0 z1 F G = some res) {b : Nat} {H : Heap} {locs : List Loc} (hw : cMW s A v a b K0 F G H locs) {ls : Array Slot} (hl : lv_has ls 4 [(3, .int x3)]) : W p l e R s m args below meth c H locs (xn F - xn K0) (2 * (xn F - xn K0)) Q (F0 m 33 ls [.int z0, .int z1, .ref (a 206)]) := by
  have hx := C.1
  have hb := C.2.1
  unfold cb_X6_step_33 at hm
  refine lv_iload_n hx hb dX6_step_33 rfl (lv_at hl 0 rfl) ?_
  obtain ⟨⟨r1, F1, G1⟩, hc, hm⟩ := bind_elim hm
  refine ccallIN (n := 3) (As := [.int z1, .int z0, .int x3]) (rest := [.ref (a 206)]) C hw (ck_X11_joined l v a _ _ fu z1 z0 x3 F G r1 F1 G1 hc) (cn_X11_joined fu z1 z0 x3 F G _ hc) (Nat.sub_le_sub_right (cn_X6_step_37 fu r1 F1 G1 hm) _) C.2.2.2.2.2.2.2.2.2.1.2.2.2.2.2.2.2.2.2.2.2.2.2.2.2.2.2.2.2.2.2.2.1 cm_568 cm_563 cm_569 (by decide +kernel) rfl (by omega) (by omega) hl.1 rfl (Nat.le_of_ble_eq_true rfl) dX6_step_34 (fun b H locs hw => ?_)
  exact cw_X6_step_37 fu C hret r1 F1 G1 hm hw (lv_sub hl [] rfl)
theorem cn_X6_step_26 (fu : Nat) {res : Int32 × PF × PG} (x2 : Int32) (z0 : Int32) (F : PF) (G : PG) (hm : cb_X6_step_26 fu x2 z0 F G = some res) : xn F ≤ xn res.2.1 := by
  unfold cb_X6_step_26 at hm
  obtain ⟨⟨r1, F1, G1⟩, hc, hm⟩ := bind_elim hm
  exact Nat.le_trans (cn_X6_pop fu F G _ hc) (cn_X6_step_33 fu z0 r1 x2 F1 G1 hm)
theorem cw_X6_step_26 (fu : Nat) {res : Int32 × PF × PG} (C : cMC p R s m args c A v RX6 cX6_step 4 5 161 (xn res.2.1 - xn K0)) (hret : ∀ (b1 : Nat) (H1 : Heap) (locs1 : List Loc) (ls1 : Array Slot) (pc : Nat), cMW s A v a b1 K0 res.2.1 res.2.2 H1 locs1 → decode cX6_step pc = .ok (.return_, 1) → W p l e R s m args below meth c H1 locs1 (xn res.2.1 - xn K0) (2 * (xn res.2.1 - xn K0)) Q (F0 m pc ls1 [])) (x2 : Int32) (z0 : Int32) (F : PF) (G : PG) (hm : cb_X6_step_26 fu x2 z0 F G = some res) {b : Nat} {H : Heap} {locs : List Loc} (hw : cMW s A v a b K0 F G H locs) {ls : Array Slot} (hl : lv_has ls 4 [(0, .ref (a 206)), (2, .int x2)]) : W p l e R s m args below meth c H locs (xn F - xn K0) (2 * (xn F - xn K0)) Q (F0 m 26 ls [.int z0]) := by
  have hx := C.1
  have hb := C.2.1
  unfold cb_X6_step_26 at hm
  refine lv_istore_n (lv' := [(3, .int z0), (0, .ref (a 206)), (2, .int x2)]) hx hb dX6_step_26 rfl hl (by decide) rfl (fun ls hl => ?_)
  refine lv_aload_n hx hb dX6_step_27 rfl (lv_at hl 1 rfl) ?_
  refine lv_iload_n hx hb dX6_step_28 rfl (lv_at hl 2 rfl) ?_
  refine lv_aload_n hx hb dX6_step_29 rfl (lv_at hl 1 rfl) ?_
  obtain ⟨⟨r1, F1, G1⟩, hc, hm⟩ := bind_elim hm
  refine ccallI (n := 0) (As := []) (rest := [.int x2, .ref (a 206)]) C hw (ck_X6_pop l v a _ _ fu F G r1 F1 G1 hc) (cn_X6_pop fu F G _ hc) (Nat.sub_le_sub_right (cn_X6_step_33 fu z0 r1 x2 F1 G1 hm) _) (crecv_X6 C hw) cm_558 cm_559 cm_560 cm_21 cm_561 (by decide +kernel) rfl (by omega) (by omega) hl.1 rfl (Nat.le_of_ble_eq_true rfl) dX6_step_30 (fun b H locs hw => ?_)
  exact cw_X6_step_33 fu C hret z0 r1 x2 F1 G1 hm hw (lv_sub hl [0] rfl)
theorem cn_X6_step_22 (fu : Nat) {res : Int32 × PF × PG} (x2 : Int32) (F : PF) (G : PG) (hm : cb_X6_step_22 fu x2 F G = some res) : xn F ≤ xn res.2.1 := by
  unfold cb_X6_step_22 at hm
  obtain ⟨⟨r1, F1, G1⟩, hc, hm⟩ := bind_elim hm
  exact Nat.le_trans (cn_X6_pop fu F G _ hc) (cn_X6_step_26 fu x2 r1 F1 G1 hm)
theorem cw_X6_step_22 (fu : Nat) {res : Int32 × PF × PG} (C : cMC p R s m args c A v RX6 cX6_step 4 5 161 (xn res.2.1 - xn K0)) (hret : ∀ (b1 : Nat) (H1 : Heap) (locs1 : List Loc) (ls1 : Array Slot) (pc : Nat), cMW s A v a b1 K0 res.2.1 res.2.2 H1 locs1 → decode cX6_step pc = .ok (.return_, 1) → W p l e R s m args below meth c H1 locs1 (xn res.2.1 - xn K0) (2 * (xn res.2.1 - xn K0)) Q (F0 m pc ls1 [])) (x2 : Int32) (F : PF) (G : PG) (hm : cb_X6_step_22 fu x2 F G = some res) {b : Nat} {H : Heap} {locs : List Loc} (hw : cMW s A v a b K0 F G H locs) {ls : Array Slot} (hl : lv_has ls 4 [(0, .ref (a 206)), (2, .int x2)]) : W p l e R s m args below meth c H locs (xn F - xn K0) (2 * (xn F - xn K0)) Q (F0 m 22 ls []) := by
  have hx := C.1
  have hb := C.2.1
  unfold cb_X6_step_22 at hm
  refine lv_aload_n hx hb dX6_step_22 rfl (lv_at hl 0 rfl) ?_
  obtain ⟨⟨r1, F1, G1⟩, hc, hm⟩ := bind_elim hm
  refine ccallI (n := 0) (As := []) (rest := []) C hw (ck_X6_pop l v a _ _ fu F G r1 F1 G1 hc) (cn_X6_pop fu F G _ hc) (Nat.sub_le_sub_right (cn_X6_step_26 fu x2 r1 F1 G1 hm) _) (crecv_X6 C hw) cm_558 cm_559 cm_560 cm_21 cm_561 (by decide +kernel) rfl (by omega) (by omega) hl.1 rfl (Nat.le_of_ble_eq_true rfl) dX6_step_23 (fun b H locs hw => ?_)
  exact cw_X6_step_26 fu C hret x2 r1 F1 G1 hm hw (lv_sub hl [0, 1] rfl)
theorem cn_X6_step_16 (fu : Nat) {res : Int32 × PF × PG} (x1 : Int32) (x2 : Int32) (F : PF) (G : PG) (hm : cb_X6_step_16 fu x1 x2 F G = some res) : xn F ≤ xn res.2.1 := by
  unfold cb_X6_step_16 at hm
  by_cases c_1 : (61 : Int32) < x2
  · have hm := (if_pos c_1).symm.trans hm
    exact (cn_X6_step_43 fu x1 x2 F G hm)
  · have hm := (if_neg c_1).symm.trans hm
    exact (cn_X6_step_22 fu x2 F G hm)
theorem cw_X6_step_16 (fu : Nat) {res : Int32 × PF × PG} (C : cMC p R s m args c A v RX6 cX6_step 4 5 161 (xn res.2.1 - xn K0)) (hret : ∀ (b1 : Nat) (H1 : Heap) (locs1 : List Loc) (ls1 : Array Slot) (pc : Nat), cMW s A v a b1 K0 res.2.1 res.2.2 H1 locs1 → decode cX6_step pc = .ok (.return_, 1) → W p l e R s m args below meth c H1 locs1 (xn res.2.1 - xn K0) (2 * (xn res.2.1 - xn K0)) Q (F0 m pc ls1 [])) (x1 : Int32) (x2 : Int32) (F : PF) (G : PG) (hm : cb_X6_step_16 fu x1 x2 F G = some res) {b : Nat} {H : Heap} {locs : List Loc} (hw : cMW s A v a b K0 F G H locs) {ls : Array Slot} (hl : lv_has ls 4 [(0, .ref (a 206)), (1, .int x1), (2, .int x2)]) : W p l e R s m args below meth c H locs (xn F - xn K0) (2 * (xn F - xn K0)) Q (F0 m 16 ls []) := by
  have hx := C.1
  have hb := C.2.1
  unfold cb_X6_step_16 at hm
  refine lv_iload_n hx hb dX6_step_16 rfl (lv_at hl 2 rfl) ?_
  refine lv_bipush (v := 61) hx hb dX6_step_17 (by decide) ?_
  refine lv_icmp_gt (tgt := 43) hx hb dX6_step_19 (by decide) (fun c_1 => ?_) (fun c_1 => ?_)
  · have hm := (if_pos c_1).symm.trans hm
    exact cw_X6_step_43 fu C hret x1 x2 F G hm hw (lv_sub hl [0, 1, 2] rfl)
  · have hm := (if_neg c_1).symm.trans hm
    exact cw_X6_step_22 fu C hret x2 F G hm hw (lv_sub hl [0, 2] rfl)
theorem cn_X6_step_9 (fu : Nat) {res : Int32 × PF × PG} (x1 : Int32) (z0 : Int32) (F : PF) (G : PG) (hm : cb_X6_step_9 fu x1 z0 F G = some res) : xn F ≤ xn res.2.1 := by
  unfold cb_X6_step_9 at hm
  by_cases c_1 : z0 < (45 : Int32)
  · have hm := (if_pos c_1).symm.trans hm
    exact (cn_X6_step_43 fu x1 z0 F G hm)
  · have hm := (if_neg c_1).symm.trans hm
    exact (cn_X6_step_16 fu x1 z0 F G hm)
theorem cw_X6_step_9 (fu : Nat) {res : Int32 × PF × PG} (C : cMC p R s m args c A v RX6 cX6_step 4 5 161 (xn res.2.1 - xn K0)) (hret : ∀ (b1 : Nat) (H1 : Heap) (locs1 : List Loc) (ls1 : Array Slot) (pc : Nat), cMW s A v a b1 K0 res.2.1 res.2.2 H1 locs1 → decode cX6_step pc = .ok (.return_, 1) → W p l e R s m args below meth c H1 locs1 (xn res.2.1 - xn K0) (2 * (xn res.2.1 - xn K0)) Q (F0 m pc ls1 [])) (x1 : Int32) (z0 : Int32) (F : PF) (G : PG) (hm : cb_X6_step_9 fu x1 z0 F G = some res) {b : Nat} {H : Heap} {locs : List Loc} (hw : cMW s A v a b K0 F G H locs) {ls : Array Slot} (hl : lv_has ls 4 [(0, .ref (a 206)), (1, .int x1)]) : W p l e R s m args below meth c H locs (xn F - xn K0) (2 * (xn F - xn K0)) Q (F0 m 9 ls [.int z0]) := by
  have hx := C.1
  have hb := C.2.1
  unfold cb_X6_step_9 at hm
  refine lv_istore_n (lv' := [(2, .int z0), (0, .ref (a 206)), (1, .int x1)]) hx hb dX6_step_9 rfl hl (by decide) rfl (fun ls hl => ?_)
  refine lv_iload_n hx hb dX6_step_10 rfl (lv_at hl 0 rfl) ?_
  refine lv_bipush (v := 45) hx hb dX6_step_11 (by decide) ?_
  refine lv_icmp_lt (tgt := 43) hx hb dX6_step_13 (by decide) (fun c_1 => ?_) (fun c_1 => ?_)
  · have hm := (if_pos c_1).symm.trans hm
    exact cw_X6_step_43 fu C hret x1 z0 F G hm hw (lv_sub hl [1, 2, 0] rfl)
  · have hm := (if_neg c_1).symm.trans hm
    exact cw_X6_step_16 fu C hret x1 z0 F G hm hw (lv_sub hl [1, 2, 0] rfl)
theorem cn_X6_step_0 (fu : Nat) {res : Int32 × PF × PG} (F : PF) (G : PG) (hm : cb_X6_step_0 fu F G = some res) : xn F ≤ xn res.2.1 := by
  unfold cb_X6_step_0 at hm
  obtain ⟨⟨r1, F1, G1⟩, hc, hm⟩ := bind_elim hm
  exact Nat.le_trans (cn_X6_next fu F G _ hc) (cn_X6_step_9 fu (F 57) r1 F1 G1 hm)
theorem cw_X6_step_0 (fu : Nat) {res : Int32 × PF × PG} (C : cMC p R s m args c A v RX6 cX6_step 4 5 161 (xn res.2.1 - xn K0)) (hret : ∀ (b1 : Nat) (H1 : Heap) (locs1 : List Loc) (ls1 : Array Slot) (pc : Nat), cMW s A v a b1 K0 res.2.1 res.2.2 H1 locs1 → decode cX6_step pc = .ok (.return_, 1) → W p l e R s m args below meth c H1 locs1 (xn res.2.1 - xn K0) (2 * (xn res.2.1 - xn K0)) Q (F0 m pc ls1 [])) (F : PF) (G : PG) (hm : cb_X6_step_0 fu F G = some res) {b : Nat} {H : Heap} {locs : List Loc} (hw : cMW s A v a b K0 F G H locs) {ls : Array Slot} (hl : lv_has ls 4 [(0, .ref (a 206))]) : W p l e R s m args below meth c H locs (xn F - xn K0) (2 * (xn F - xn K0)) Q (F0 m 0 ls []) := by
  have hx := C.1
  have hb := C.2.1
  unfold cb_X6_step_0 at hm
  refine lv_aload_n hx hb dX6_step_0 rfl (lv_at hl 0 rfl) ?_
  refine cg_X6_70 C hw dX6_step_1 ?_
  refine lv_istore_n (lv' := [(1, .int (F 57)), (0, .ref (a 206))]) hx hb dX6_step_4 rfl hl (by decide) rfl (fun ls hl => ?_)
  refine lv_aload_n hx hb dX6_step_5 rfl (lv_at hl 1 rfl) ?_
  obtain ⟨⟨r1, F1, G1⟩, hc, hm⟩ := bind_elim hm
  refine ccallI (n := 0) (As := []) (rest := []) C hw (ck_X6_next l v a _ _ fu F G r1 F1 G1 hc) (cn_X6_next fu F G _ hc) (Nat.sub_le_sub_right (cn_X6_step_9 fu (F 57) r1 F1 G1 hm) _) (crecv_X6 C hw) cm_529 cm_530 cm_531 cm_21 cm_532 (by decide +kernel) rfl (by omega) (by omega) hl.1 rfl (Nat.le_of_ble_eq_true rfl) dX6_step_6 (fun b H locs hw => ?_)
  exact cw_X6_step_9 fu C hret (F 57) r1 F1 G1 hm hw (lv_sub hl [1, 0] rfl)
theorem cn_X6_step (fu : Nat) (F : PF) (G : PG) (q : Int32 × PF × PG) (hm : cf_X6_step fu F G = some q) : xn F ≤ xn q.2.1 := cn_X6_step_0 fu F G hm
theorem ck_X6_step (l : Launch) (v : EV) (a : Nat → Nat) (b sz : Nat) (fu : Nat) (F : PF) (G : PG) (r : Int32) (F1 : PF) (G1 : PG) (hm : cf_X6_step fu F G = some (r, F1, G1)) : cMV l yX6_step cX6_step 4 5 161 v a b sz [.ref (a 206)] F G F1 G1 := cMV.of (by decide) (Nat.le_of_ble_eq_true rfl) (fun p e R s m args below meth c Q A H locs ls C hw hl hret => cw_X6_step_0 fu (res := (r, F1, G1)) C hret F G hm hw hl)
def cb_X6_enterMain_53 (fu : Nat) (F : PF) (G : PG) : PR := some (0, F, G)
def cb_X6_enterMain_50 (fu : Nat) (z0 : Int32) (F : PF) (G : PG) : PR := if b01 z0 = true then (cb_X6_enterMain_53 fu (fup F 60 z0) G) else none
def cb_X6_enterMain_23 (fu : Nat) (F : PF) (G : PG) : PR := if ixb (F 76) 450 = true then ((cf_X6_enters fu (F 76) (G 77 (F 76).toNatClampNeg) F G).bind (fun q => cb_X6_enterMain_50 fu q.1 q.2.1 q.2.2)) else none
def cb_X6_enterMain_22 (fu : Nat) (F : PF) (G : PG) : PR := some (0, F, G)
def cb_X6_enterMain_17 (fu : Nat) (F : PF) (G : PG) : PR := (cf_X6_over fu 3 F G).bind (fun q => cb_X6_enterMain_22 fu q.2.1 q.2.2)
def cb_X6_enterMain_14 (fu : Nat) (z0 : Int32) (F : PF) (G : PG) : PR := if z0 = (0 : Int32) then cb_X6_enterMain_17 fu F G else cb_X6_enterMain_23 fu F G
def cb_X6_enterMain_0 (fu : Nat) (F : PF) (G : PG) : PR := (cf_X8_has fu (F 76) F G).bind (fun q => cb_X6_enterMain_14 fu q.1 q.2.1 q.2.2)
def cf_X6_enterMain (fu : Nat) (F : PF) (G : PG) : PR := cb_X6_enterMain_0 fu F G
theorem cn_X6_enterMain_53 (fu : Nat) {res : Int32 × PF × PG} (F : PF) (G : PG) (hm : cb_X6_enterMain_53 fu F G = some res) : xn F ≤ xn res.2.1 := by
  unfold cb_X6_enterMain_53 at hm
  obtain rfl := Option.some.inj hm
  exact Nat.le_refl _
theorem cw_X6_enterMain_53 (fu : Nat) {res : Int32 × PF × PG} (C : cMC p R s m args c A v RX6 cX6_enterMain 1 2 46 (xn res.2.1 - xn K0)) (hret : ∀ (b1 : Nat) (H1 : Heap) (locs1 : List Loc) (ls1 : Array Slot) (pc : Nat), cMW s A v a b1 K0 res.2.1 res.2.2 H1 locs1 → decode cX6_enterMain pc = .ok (.return_, 1) → W p l e R s m args below meth c H1 locs1 (xn res.2.1 - xn K0) (2 * (xn res.2.1 - xn K0)) Q (F0 m pc ls1 [])) (F : PF) (G : PG) (hm : cb_X6_enterMain_53 fu F G = some res) {b : Nat} {H : Heap} {locs : List Loc} (hw : cMW s A v a b K0 F G H locs) {ls : Array Slot} (hl : lv_has ls 1 []) : W p l e R s m args below meth c H locs (xn F - xn K0) (2 * (xn F - xn K0)) Q (F0 m 53 ls []) := by
  have hx := C.1
  have hb := C.2.1
  unfold cb_X6_enterMain_53 at hm
  obtain rfl := Option.some.inj hm
  exact hret _ _ _ _ _ hw dX6_enterMain_53
theorem cn_X6_enterMain_50 (fu : Nat) {res : Int32 × PF × PG} (z0 : Int32) (F : PF) (G : PG) (hm : cb_X6_enterMain_50 fu z0 F G = some res) : xn F ≤ xn res.2.1 := by
  unfold cb_X6_enterMain_50 at hm
  have hm := (b01_elim hm).2
  exact Nat.le_trans (Nat.le_of_eq (xn_fup (by decide)).symm) (cn_X6_enterMain_53 fu (fup F 60 z0) G hm)
theorem cw_X6_enterMain_50 (fu : Nat) {res : Int32 × PF × PG} (C : cMC p R s m args c A v RX6 cX6_enterMain 1 2 46 (xn res.2.1 - xn K0)) (hret : ∀ (b1 : Nat) (H1 : Heap) (locs1 : List Loc) (ls1 : Array Slot) (pc : Nat), cMW s A v a b1 K0 res.2.1 res.2.2 H1 locs1 → decode cX6_enterMain pc = .ok (.return_, 1) → W p l e R s m args below meth c H1 locs1 (xn res.2.1 - xn K0) (2 * (xn res.2.1 - xn K0)) Q (F0 m pc ls1 [])) (z0 : Int32) (F : PF) (G : PG) (hm : cb_X6_enterMain_50 fu z0 F G = some res) {b : Nat} {H : Heap} {locs : List Loc} (hw : cMW s A v a b K0 F G H locs) {ls : Array Slot} (hl : lv_has ls 1 []) : W p l e R s m args below meth c H locs (xn F - xn K0) (2 * (xn F - xn K0)) Q (F0 m 50 ls [.int z0, .ref (a 206)]) := by
  have hx := C.1
  have hb := C.2.1
  unfold cb_X6_enterMain_50 at hm
  obtain ⟨hz, hm⟩ := b01_elim hm
  refine cp_X6_52 C hw hz dX6_enterMain_50 (fun H locs hw => ?_)
  exact cw_X6_enterMain_53 fu C hret (fup F 60 z0) G hm hw (lv_sub hl [] rfl)
theorem cn_X6_enterMain_23 (fu : Nat) {res : Int32 × PF × PG} (F : PF) (G : PG) (hm : cb_X6_enterMain_23 fu F G = some res) : xn F ≤ xn res.2.1 := by
  unfold cb_X6_enterMain_23 at hm
  have hm := (ix_elim hm).2
  obtain ⟨⟨r1, F1, G1⟩, hc, hm⟩ := bind_elim hm
  exact Nat.le_trans (cn_X6_enters fu (F 76) (G 77 (F 76).toNatClampNeg) F G _ hc) (cn_X6_enterMain_50 fu r1 F1 G1 hm)
theorem cw_X6_enterMain_23 (fu : Nat) {res : Int32 × PF × PG} (C : cMC p R s m args c A v RX6 cX6_enterMain 1 2 46 (xn res.2.1 - xn K0)) (hret : ∀ (b1 : Nat) (H1 : Heap) (locs1 : List Loc) (ls1 : Array Slot) (pc : Nat), cMW s A v a b1 K0 res.2.1 res.2.2 H1 locs1 → decode cX6_enterMain pc = .ok (.return_, 1) → W p l e R s m args below meth c H1 locs1 (xn res.2.1 - xn K0) (2 * (xn res.2.1 - xn K0)) Q (F0 m pc ls1 [])) (F : PF) (G : PG) (hm : cb_X6_enterMain_23 fu F G = some res) {b : Nat} {H : Heap} {locs : List Loc} (hw : cMW s A v a b K0 F G H locs) {ls : Array Slot} (hl : lv_has ls 1 [(0, .ref (a 206))]) : W p l e R s m args below meth c H locs (xn F - xn K0) (2 * (xn F - xn K0)) Q (F0 m 23 ls []) := by
  have hx := C.1
  have hb := C.2.1
  unfold cb_X6_enterMain_23 at hm
  refine lv_aload_n hx hb dX6_enterMain_23 rfl (lv_at hl 0 rfl) ?_
  refine lv_aload_n hx hb dX6_enterMain_24 rfl (lv_at hl 0 rfl) ?_
  refine lv_aload_n hx hb dX6_enterMain_25 rfl (lv_at hl 0 rfl) ?_
  refine cg_X6_22 C hw dX6_enterMain_26 ?_
  refine cg_X6_114 C hw dX6_enterMain_29 ?_
  refine lv_aload_n hx hb dX6_enterMain_32 rfl (lv_at hl 0 rfl) ?_
  refine cg_X6_22 C hw dX6_enterMain_33 ?_
  refine cg_X6_124 C hw dX6_enterMain_36 ?_
  refine lv_aload_n hx hb dX6_enterMain_39 rfl (lv_at hl 0 rfl) ?_
  refine cg_X6_22 C hw dX6_enterMain_40 ?_
  refine cg_X6_114 C hw dX6_enterMain_43 ?_
  obtain ⟨hi, hm⟩ := ix_elim hm
  refine cal_77 C hw hi dX6_enterMain_46 ?_
  obtain ⟨⟨r1, F1, G1⟩, hc, hm⟩ := bind_elim hm
  refine ccallI (n := 2) (As := [.int (F 76), .int (G 77 (F 76).toNatClampNeg)]) (rest := [.ref (a 206)]) C hw (ck_X6_enters l v a _ _ fu (F 76) (G 77 (F 76).toNatClampNeg) F G r1 F1 G1 hc) (cn_X6_enters fu (F 76) (G 77 (F 76).toNatClampNeg) F G _ hc) (Nat.sub_le_sub_right (cn_X6_enterMain_50 fu r1 F1 G1 hm) _) (crecv_X6 C hw) cm_838 cm_839 cm_840 cm_21 cm_841 (by decide +kernel) rfl (by omega) (by omega) hl.1 rfl (Nat.le_of_ble_eq_true rfl) dX6_enterMain_47 (fun b H locs hw => ?_)
  exact cw_X6_enterMain_50 fu C hret r1 F1 G1 hm hw (lv_sub hl [] rfl)
theorem cn_X6_enterMain_22 (fu : Nat) {res : Int32 × PF × PG} (F : PF) (G : PG) (hm : cb_X6_enterMain_22 fu F G = some res) : xn F ≤ xn res.2.1 := by
  unfold cb_X6_enterMain_22 at hm
  obtain rfl := Option.some.inj hm
  exact Nat.le_refl _
theorem cw_X6_enterMain_22 (fu : Nat) {res : Int32 × PF × PG} (C : cMC p R s m args c A v RX6 cX6_enterMain 1 2 46 (xn res.2.1 - xn K0)) (hret : ∀ (b1 : Nat) (H1 : Heap) (locs1 : List Loc) (ls1 : Array Slot) (pc : Nat), cMW s A v a b1 K0 res.2.1 res.2.2 H1 locs1 → decode cX6_enterMain pc = .ok (.return_, 1) → W p l e R s m args below meth c H1 locs1 (xn res.2.1 - xn K0) (2 * (xn res.2.1 - xn K0)) Q (F0 m pc ls1 [])) (F : PF) (G : PG) (hm : cb_X6_enterMain_22 fu F G = some res) {b : Nat} {H : Heap} {locs : List Loc} (hw : cMW s A v a b K0 F G H locs) {ls : Array Slot} (hl : lv_has ls 1 []) : W p l e R s m args below meth c H locs (xn F - xn K0) (2 * (xn F - xn K0)) Q (F0 m 22 ls []) := by
  have hx := C.1
  have hb := C.2.1
  unfold cb_X6_enterMain_22 at hm
  obtain rfl := Option.some.inj hm
  exact hret _ _ _ _ _ hw dX6_enterMain_22
theorem cn_X6_enterMain_17 (fu : Nat) {res : Int32 × PF × PG} (F : PF) (G : PG) (hm : cb_X6_enterMain_17 fu F G = some res) : xn F ≤ xn res.2.1 := by
  unfold cb_X6_enterMain_17 at hm
  obtain ⟨⟨r1, F1, G1⟩, hc, hm⟩ := bind_elim hm
  exact Nat.le_trans (cn_X6_over fu 3 F G _ hc) (cn_X6_enterMain_22 fu F1 G1 hm)
theorem cw_X6_enterMain_17 (fu : Nat) {res : Int32 × PF × PG} (C : cMC p R s m args c A v RX6 cX6_enterMain 1 2 46 (xn res.2.1 - xn K0)) (hret : ∀ (b1 : Nat) (H1 : Heap) (locs1 : List Loc) (ls1 : Array Slot) (pc : Nat), cMW s A v a b1 K0 res.2.1 res.2.2 H1 locs1 → decode cX6_enterMain pc = .ok (.return_, 1) → W p l e R s m args below meth c H1 locs1 (xn res.2.1 - xn K0) (2 * (xn res.2.1 - xn K0)) Q (F0 m pc ls1 [])) (F : PF) (G : PG) (hm : cb_X6_enterMain_17 fu F G = some res) {b : Nat} {H : Heap} {locs : List Loc} (hw : cMW s A v a b K0 F G H locs) {ls : Array Slot} (hl : lv_has ls 1 [(0, .ref (a 206))]) : W p l e R s m args below meth c H locs (xn F - xn K0) (2 * (xn F - xn K0)) Q (F0 m 17 ls []) := by
  have hx := C.1
  have hb := C.2.1
  unfold cb_X6_enterMain_17 at hm
  refine lv_aload_n hx hb dX6_enterMain_17 rfl (lv_at hl 0 rfl) ?_
  refine lv_iconst (v := 3) hx hb dX6_enterMain_18 (by decide) ?_
  obtain ⟨⟨r1, F1, G1⟩, hc, hm⟩ := bind_elim hm
  refine ccallV (n := 1) (As := [.int 3]) (rest := []) C hw (ck_X6_over l v a _ _ fu 3 F G r1 F1 G1 hc) (cn_X6_over fu 3 F G _ hc) (Nat.sub_le_sub_right (cn_X6_enterMain_22 fu F1 G1 hm) _) (crecv_X6 C hw) cm_834 cm_835 cm_836 cm_21 cm_837 (by decide +kernel) rfl (by omega) (by omega) hl.1 rfl (Nat.le_of_ble_eq_true rfl) dX6_enterMain_19 (fun b H locs hw => ?_)
  exact cw_X6_enterMain_22 fu C hret F1 G1 hm hw (lv_sub hl [] rfl)
theorem cn_X6_enterMain_14 (fu : Nat) {res : Int32 × PF × PG} (z0 : Int32) (F : PF) (G : PG) (hm : cb_X6_enterMain_14 fu z0 F G = some res) : xn F ≤ xn res.2.1 := by
  unfold cb_X6_enterMain_14 at hm
  by_cases c_1 : z0 = (0 : Int32)
  · have hm := (if_pos c_1).symm.trans hm
    exact (cn_X6_enterMain_17 fu F G hm)
  · have hm := (if_neg c_1).symm.trans hm
    exact (cn_X6_enterMain_23 fu F G hm)
theorem cw_X6_enterMain_14 (fu : Nat) {res : Int32 × PF × PG} (C : cMC p R s m args c A v RX6 cX6_enterMain 1 2 46 (xn res.2.1 - xn K0)) (hret : ∀ (b1 : Nat) (H1 : Heap) (locs1 : List Loc) (ls1 : Array Slot) (pc : Nat), cMW s A v a b1 K0 res.2.1 res.2.2 H1 locs1 → decode cX6_enterMain pc = .ok (.return_, 1) → W p l e R s m args below meth c H1 locs1 (xn res.2.1 - xn K0) (2 * (xn res.2.1 - xn K0)) Q (F0 m pc ls1 [])) (z0 : Int32) (F : PF) (G : PG) (hm : cb_X6_enterMain_14 fu z0 F G = some res) {b : Nat} {H : Heap} {locs : List Loc} (hw : cMW s A v a b K0 F G H locs) {ls : Array Slot} (hl : lv_has ls 1 [(0, .ref (a 206))]) : W p l e R s m args below meth c H locs (xn F - xn K0) (2 * (xn F - xn K0)) Q (F0 m 14 ls [.int z0]) := by
  have hx := C.1
  have hb := C.2.1
  unfold cb_X6_enterMain_14 at hm
  refine lv_if_ne (tgt := 23) hx hb dX6_enterMain_14 (by decide) (fun c_1 => ?_) (fun c_1 => ?_)
  · have hm := (if_neg c_1).symm.trans hm
    exact cw_X6_enterMain_23 fu C hret F G hm hw (lv_sub hl [0] rfl)
  · have hm := (if_pos c_1).symm.trans hm
    exact cw_X6_enterMain_17 fu C hret F G hm hw (lv_sub hl [0] rfl)
theorem cn_X6_enterMain_0 (fu : Nat) {res : Int32 × PF × PG} (F : PF) (G : PG) (hm : cb_X6_enterMain_0 fu F G = some res) : xn F ≤ xn res.2.1 := by
  unfold cb_X6_enterMain_0 at hm
  obtain ⟨⟨r1, F1, G1⟩, hc, hm⟩ := bind_elim hm
  exact Nat.le_trans (cn_X8_has fu (F 76) F G _ hc) (cn_X6_enterMain_14 fu r1 F1 G1 hm)
theorem cw_X6_enterMain_0 (fu : Nat) {res : Int32 × PF × PG} (C : cMC p R s m args c A v RX6 cX6_enterMain 1 2 46 (xn res.2.1 - xn K0)) (hret : ∀ (b1 : Nat) (H1 : Heap) (locs1 : List Loc) (ls1 : Array Slot) (pc : Nat), cMW s A v a b1 K0 res.2.1 res.2.2 H1 locs1 → decode cX6_enterMain pc = .ok (.return_, 1) → W p l e R s m args below meth c H1 locs1 (xn res.2.1 - xn K0) (2 * (xn res.2.1 - xn K0)) Q (F0 m pc ls1 [])) (F : PF) (G : PG) (hm : cb_X6_enterMain_0 fu F G = some res) {b : Nat} {H : Heap} {locs : List Loc} (hw : cMW s A v a b K0 F G H locs) {ls : Array Slot} (hl : lv_has ls 1 [(0, .ref (a 206))]) : W p l e R s m args below meth c H locs (xn F - xn K0) (2 * (xn F - xn K0)) Q (F0 m 0 ls []) := by
  have hx := C.1
  have hb := C.2.1
  unfold cb_X6_enterMain_0 at hm
  refine lv_aload_n hx hb dX6_enterMain_0 rfl (lv_at hl 0 rfl) ?_
  refine cg_X6_22 C hw dX6_enterMain_1 ?_
  refine lv_aload_n hx hb dX6_enterMain_4 rfl (lv_at hl 0 rfl) ?_
  refine cg_X6_22 C hw dX6_enterMain_5 ?_
  refine cg_X6_114 C hw dX6_enterMain_8 ?_
  obtain ⟨⟨r1, F1, G1⟩, hc, hm⟩ := bind_elim hm
  refine ccallI (n := 1) (As := [.int (F 76)]) (rest := []) C hw (ck_X8_has l v a _ _ fu (F 76) F G r1 F1 G1 hc) (cn_X8_has fu (F 76) F G _ hc) (Nat.sub_le_sub_right (cn_X6_enterMain_14 fu r1 F1 G1 hm) _) (crecv_X8 C hw) cm_833 cm_405 cm_406 cm_254 cm_407 (by decide +kernel) rfl (by omega) (by omega) hl.1 rfl (Nat.le_of_ble_eq_true rfl) dX6_enterMain_11 (fun b H locs hw => ?_)
  exact cw_X6_enterMain_14 fu C hret r1 F1 G1 hm hw (lv_sub hl [0] rfl)
theorem cn_X6_enterMain (fu : Nat) (F : PF) (G : PG) (q : Int32 × PF × PG) (hm : cf_X6_enterMain fu F G = some q) : xn F ≤ xn q.2.1 := cn_X6_enterMain_0 fu F G hm
theorem ck_X6_enterMain (l : Launch) (v : EV) (a : Nat → Nat) (b sz : Nat) (fu : Nat) (F : PF) (G : PG) (r : Int32) (F1 : PF) (G1 : PG) (hm : cf_X6_enterMain fu F G = some (r, F1, G1)) : cMV l yX6_enterMain cX6_enterMain 1 2 46 v a b sz [.ref (a 206)] F G F1 G1 := cMV.of (by decide) (Nat.le_of_ble_eq_true rfl) (fun p e R s m args below meth c Q A H locs ls C hw hl hret => cw_X6_enterMain_0 fu (res := (r, F1, G1)) C hret F G hm hw hl)
def cb_X6_goOn_68 (fu : Nat) (F : PF) (G : PG) : PR := some (0, F, G)
def cb_X6_goOn_62 (fu : Nat) (ag_45 : Int32 → PF → PG → PR) (x2 : Int32) (F : PF) (G : PG) : PR := ag_45 (x2 + 1) F G
def cb_X6_goOn_58 (fu : Nat) (ag_45 : Int32 → PF → PG → PR) (x2 : Int32) (F : PF) (G : PG) : PR := (cf_X6_step fu F G).bind (fun q => cb_X6_goOn_62 fu ag_45 x2 q.2.1 q.2.2)
def cb_X6_goOn_51 (fu : Nat) (ag_45 : Int32 → PF → PG → PR) (x2 : Int32) (F : PF) (G : PG) : PR := if (F 61) = (0 : Int32) then cb_X6_goOn_68 fu F G else cb_X6_goOn_58 fu ag_45 x2 F G
def cb_X6_goOn_45 (fu : Nat) (ag_45 : Int32 → PF → PG → PR) (x2 : Int32) (F : PF) (G : PG) : PR := if (100000000 : Int32) ≤ x2 then cb_X6_goOn_68 fu F G else cb_X6_goOn_51 fu ag_45 x2 F G
def cl_X6_goOn_45 (fu : Nat) : Nat → Int32 → PF → PG → PR
  | 0 => fun _ _ _ => none
  | n + 1 => fun x2 F G => cb_X6_goOn_45 fu (cl_X6_goOn_45 fu n) x2 F G
def cb_X6_goOn_43 (fu : Nat) (F : PF) (G : PG) : PR := cl_X6_goOn_45 fu fu 0 F G
def cb_X6_goOn_39 (fu : Nat) (F : PF) (G : PG) : PR := (cf_X6_enterMain fu F G).bind (fun q => cb_X6_goOn_43 fu q.2.1 q.2.2)
def cb_X6_goOn_32 (fu : Nat) (F : PF) (G : PG) : PR := if (F 60) = (0 : Int32) then cb_X6_goOn_39 fu F G else cb_X6_goOn_43 fu F G
def cb_X6_goOn_27 (fu : Nat) (F : PF) (G : PG) : PR := cb_X6_goOn_32 fu (fup F 61 (1 : Int32)) G
def cb_X6_goOn_22 (fu : Nat) (x1 : Int32) (F : PF) (G : PG) : PR := cb_X6_goOn_27 fu (fup F 62 x1) G
def cb_X6_goOn_17 (fu : Nat) (x1 : Int32) (F : PF) (G : PG) : PR := cb_X6_goOn_22 fu x1 (fup F 63 (1 : Int32)) G
def cb_X6_goOn_16 (fu : Nat) (F : PF) (G : PG) : PR := some (0, F, G)
def cb_X6_goOn_8 (fu : Nat) (x1 : Int32) (F : PF) (G : PG) : PR := if (F 63) = (2 : Int32) then cb_X6_goOn_17 fu x1 F G else cb_X6_goOn_16 fu F G
def cb_X6_goOn_0 (fu : Nat) (x1 : Int32) (F : PF) (G : PG) : PR := if (F 63) = (1 : Int32) then cb_X6_goOn_17 fu x1 F G else cb_X6_goOn_8 fu x1 F G
def cf_X6_goOn (fu : Nat) (x1 : Int32) (F : PF) (G : PG) : PR := cb_X6_goOn_0 fu x1 F G
theorem cn_X6_goOn_68 (fu : Nat) {res : Int32 × PF × PG} (F : PF) (G : PG) (hm : cb_X6_goOn_68 fu F G = some res) : xn F ≤ xn res.2.1 := by
  unfold cb_X6_goOn_68 at hm
  obtain rfl := Option.some.inj hm
  exact Nat.le_refl _
theorem cw_X6_goOn_68 (fu : Nat) {res : Int32 × PF × PG} (C : cMC p R s m args c A v RX6 cX6_goOn 3 6 184 (xn res.2.1 - xn K0)) (hret : ∀ (b1 : Nat) (H1 : Heap) (locs1 : List Loc) (ls1 : Array Slot) (pc : Nat), cMW s A v a b1 K0 res.2.1 res.2.2 H1 locs1 → decode cX6_goOn pc = .ok (.return_, 1) → W p l e R s m args below meth c H1 locs1 (xn res.2.1 - xn K0) (2 * (xn res.2.1 - xn K0)) Q (F0 m pc ls1 [])) (F : PF) (G : PG) (hm : cb_X6_goOn_68 fu F G = some res) {b : Nat} {H : Heap} {locs : List Loc} (hw : cMW s A v a b K0 F G H locs) {ls : Array Slot} (hl : lv_has ls 3 []) : W p l e R s m args below meth c H locs (xn F - xn K0) (2 * (xn F - xn K0)) Q (F0 m 68 ls []) := by
  have hx := C.1
  have hb := C.2.1
  unfold cb_X6_goOn_68 at hm
  obtain rfl := Option.some.inj hm
  exact hret _ _ _ _ _ hw dX6_goOn_68
theorem cn_X6_goOn_62 (fu : Nat) {res : Int32 × PF × PG} (ag_45 : Int32 → PF → PG → PR) (hagn_45 : ∀ (x2 : Int32) (F : PF) (G : PG), ag_45 x2 F G = some res → xn F ≤ xn res.2.1) (x2 : Int32) (F : PF) (G : PG) (hm : cb_X6_goOn_62 fu ag_45 x2 F G = some res) : xn F ≤ xn res.2.1 := by
  unfold cb_X6_goOn_62 at hm
  exact (hagn_45 (x2 + 1) F G hm)
theorem cw_X6_goOn_62 (fu : Nat) {res : Int32 × PF × PG} (C : cMC p R s m args c A v RX6 cX6_goOn 3 6 184 (xn res.2.1 - xn K0)) (hret : ∀ (b1 : Nat) (H1 : Heap) (locs1 : List Loc) (ls1 : Array Slot) (pc : Nat), cMW s A v a b1 K0 res.2.1 res.2.2 H1 locs1 → decode cX6_goOn pc = .ok (.return_, 1) → W p l e R s m args below meth c H1 locs1 (xn res.2.1 - xn K0) (2 * (xn res.2.1 - xn K0)) Q (F0 m pc ls1 [])) (ag_45 : Int32 → PF → PG → PR) (hag_45 : ∀ (x2 : Int32) (F : PF) (G : PG), ag_45 x2 F G = some res → ∀ (b : Nat) (H : Heap) (locs : List Loc) (ls : Array Slot), cMW s A v a b K0 F G H locs → lv_has ls 3 [(0, .ref (a 206)), (2, .int x2)] → W p l e R s m args below meth c H locs (xn F - xn K0) (2 * (xn F - xn K0)) Q (F0 m 45 ls [])) (hagn_45 : ∀ (x2 : Int32) (F : PF) (G : PG), ag_45 x2 F G = some res → xn F ≤ xn res.2.1) (x2 : Int32) (F : PF) (G : PG) (hm : cb_X6_goOn_62 fu ag_45 x2 F G = some res) {b : Nat} {H : Heap} {locs : List Loc} (hw : cMW s A v a b K0 F G H locs) {ls : Array Slot} (hl : lv_has ls 3 [(0, .ref (a 206)), (2, .int x2)]) : W p l e R s m args below meth c H locs (xn F - xn K0) (2 * (xn F - xn K0)) Q (F0 m 62 ls []) := by
  have hx := C.1
  have hb := C.2.1
  unfold cb_X6_goOn_62 at hm
  refine lv_iinc (v := (x2 + 1)) (lv' := [(2, .int (x2 + 1)), (0, .ref (a 206))]) hx hb dX6_goOn_62 hl (k := 1) rfl (by rfl) (by decide) rfl (fun ls hl => ?_)
  refine lv_goto (tgt := 45) hx hb dX6_goOn_65 (by decide) ?_
  exact hag_45 (x2 + 1) F G hm _ _ _ _ hw (lv_sub hl [1, 0] rfl)
theorem cn_X6_goOn_58 (fu : Nat) {res : Int32 × PF × PG} (ag_45 : Int32 → PF → PG → PR) (hagn_45 : ∀ (x2 : Int32) (F : PF) (G : PG), ag_45 x2 F G = some res → xn F ≤ xn res.2.1) (x2 : Int32) (F : PF) (G : PG) (hm : cb_X6_goOn_58 fu ag_45 x2 F G = some res) : xn F ≤ xn res.2.1 := by
  unfold cb_X6_goOn_58 at hm
  obtain ⟨⟨r1, F1, G1⟩, hc, hm⟩ := bind_elim hm
  exact Nat.le_trans (cn_X6_step fu F G _ hc) (cn_X6_goOn_62 fu ag_45 hagn_45 x2 F1 G1 hm)
theorem cw_X6_goOn_58 (fu : Nat) {res : Int32 × PF × PG} (C : cMC p R s m args c A v RX6 cX6_goOn 3 6 184 (xn res.2.1 - xn K0)) (hret : ∀ (b1 : Nat) (H1 : Heap) (locs1 : List Loc) (ls1 : Array Slot) (pc : Nat), cMW s A v a b1 K0 res.2.1 res.2.2 H1 locs1 → decode cX6_goOn pc = .ok (.return_, 1) → W p l e R s m args below meth c H1 locs1 (xn res.2.1 - xn K0) (2 * (xn res.2.1 - xn K0)) Q (F0 m pc ls1 [])) (ag_45 : Int32 → PF → PG → PR) (hag_45 : ∀ (x2 : Int32) (F : PF) (G : PG), ag_45 x2 F G = some res → ∀ (b : Nat) (H : Heap) (locs : List Loc) (ls : Array Slot), cMW s A v a b K0 F G H locs → lv_has ls 3 [(0, .ref (a 206)), (2, .int x2)] → W p l e R s m args below meth c H locs (xn F - xn K0) (2 * (xn F - xn K0)) Q (F0 m 45 ls [])) (hagn_45 : ∀ (x2 : Int32) (F : PF) (G : PG), ag_45 x2 F G = some res → xn F ≤ xn res.2.1) (x2 : Int32) (F : PF) (G : PG) (hm : cb_X6_goOn_58 fu ag_45 x2 F G = some res) {b : Nat} {H : Heap} {locs : List Loc} (hw : cMW s A v a b K0 F G H locs) {ls : Array Slot} (hl : lv_has ls 3 [(0, .ref (a 206)), (2, .int x2)]) : W p l e R s m args below meth c H locs (xn F - xn K0) (2 * (xn F - xn K0)) Q (F0 m 58 ls []) := by
  have hx := C.1
  have hb := C.2.1
  unfold cb_X6_goOn_58 at hm
  refine lv_aload_n hx hb dX6_goOn_58 rfl (lv_at hl 0 rfl) ?_
  obtain ⟨⟨r1, F1, G1⟩, hc, hm⟩ := bind_elim hm
  refine ccallV (n := 0) (As := []) (rest := []) C hw (ck_X6_step l v a _ _ fu F G r1 F1 G1 hc) (cn_X6_step fu F G _ hc) (Nat.sub_le_sub_right (cn_X6_goOn_62 fu ag_45 hagn_45 x2 F1 G1 hm) _) (crecv_X6 C hw) cm_854 cm_855 cm_856 cm_21 cm_857 (by decide +kernel) rfl (by omega) (by omega) hl.1 rfl (Nat.le_of_ble_eq_true rfl) dX6_goOn_59 (fun b H locs hw => ?_)
  exact cw_X6_goOn_62 fu C hret ag_45 hag_45 hagn_45 x2 F1 G1 hm hw (lv_sub hl [0, 1] rfl)
theorem cn_X6_goOn_51 (fu : Nat) {res : Int32 × PF × PG} (ag_45 : Int32 → PF → PG → PR) (hagn_45 : ∀ (x2 : Int32) (F : PF) (G : PG), ag_45 x2 F G = some res → xn F ≤ xn res.2.1) (x2 : Int32) (F : PF) (G : PG) (hm : cb_X6_goOn_51 fu ag_45 x2 F G = some res) : xn F ≤ xn res.2.1 := by
  unfold cb_X6_goOn_51 at hm
  by_cases c_1 : (F 61) = (0 : Int32)
  · have hm := (if_pos c_1).symm.trans hm
    exact (cn_X6_goOn_68 fu F G hm)
  · have hm := (if_neg c_1).symm.trans hm
    exact (cn_X6_goOn_58 fu ag_45 hagn_45 x2 F G hm)
theorem cw_X6_goOn_51 (fu : Nat) {res : Int32 × PF × PG} (C : cMC p R s m args c A v RX6 cX6_goOn 3 6 184 (xn res.2.1 - xn K0)) (hret : ∀ (b1 : Nat) (H1 : Heap) (locs1 : List Loc) (ls1 : Array Slot) (pc : Nat), cMW s A v a b1 K0 res.2.1 res.2.2 H1 locs1 → decode cX6_goOn pc = .ok (.return_, 1) → W p l e R s m args below meth c H1 locs1 (xn res.2.1 - xn K0) (2 * (xn res.2.1 - xn K0)) Q (F0 m pc ls1 [])) (ag_45 : Int32 → PF → PG → PR) (hag_45 : ∀ (x2 : Int32) (F : PF) (G : PG), ag_45 x2 F G = some res → ∀ (b : Nat) (H : Heap) (locs : List Loc) (ls : Array Slot), cMW s A v a b K0 F G H locs → lv_has ls 3 [(0, .ref (a 206)), (2, .int x2)] → W p l e R s m args below meth c H locs (xn F - xn K0) (2 * (xn F - xn K0)) Q (F0 m 45 ls [])) (hagn_45 : ∀ (x2 : Int32) (F : PF) (G : PG), ag_45 x2 F G = some res → xn F ≤ xn res.2.1) (x2 : Int32) (F : PF) (G : PG) (hm : cb_X6_goOn_51 fu ag_45 x2 F G = some res) {b : Nat} {H : Heap} {locs : List Loc} (hw : cMW s A v a b K0 F G H locs) {ls : Array Slot} (hl : lv_has ls 3 [(0, .ref (a 206)), (2, .int x2)]) : W p l e R s m args below meth c H locs (xn F - xn K0) (2 * (xn F - xn K0)) Q (F0 m 51 ls []) := by
  have hx := C.1
  have hb := C.2.1
  unfold cb_X6_goOn_51 at hm
  refine lv_aload_n hx hb dX6_goOn_51 rfl (lv_at hl 0 rfl) ?_
  refine cg_X6_105 C hw dX6_goOn_52 ?_
  refine lv_if_eq (tgt := 68) hx hb dX6_goOn_55 (by decide) (fun c_1 => ?_) (fun c_1 => ?_)
  · have hm := (if_pos c_1).symm.trans hm
    exact cw_X6_goOn_68 fu C hret F G hm hw (lv_sub hl [] rfl)
  · have hm := (if_neg c_1).symm.trans hm
    exact cw_X6_goOn_58 fu C hret ag_45 hag_45 hagn_45 x2 F G hm hw (lv_sub hl [0, 1] rfl)
theorem cn_X6_goOn_45 (fu : Nat) {res : Int32 × PF × PG} (ag_45 : Int32 → PF → PG → PR) (hagn_45 : ∀ (x2 : Int32) (F : PF) (G : PG), ag_45 x2 F G = some res → xn F ≤ xn res.2.1) (x2 : Int32) (F : PF) (G : PG) (hm : cb_X6_goOn_45 fu ag_45 x2 F G = some res) : xn F ≤ xn res.2.1 := by
  unfold cb_X6_goOn_45 at hm
  by_cases c_1 : (100000000 : Int32) ≤ x2
  · have hm := (if_pos c_1).symm.trans hm
    exact (cn_X6_goOn_68 fu F G hm)
  · have hm := (if_neg c_1).symm.trans hm
    exact (cn_X6_goOn_51 fu ag_45 hagn_45 x2 F G hm)
theorem cw_X6_goOn_45 (fu : Nat) {res : Int32 × PF × PG} (C : cMC p R s m args c A v RX6 cX6_goOn 3 6 184 (xn res.2.1 - xn K0)) (hret : ∀ (b1 : Nat) (H1 : Heap) (locs1 : List Loc) (ls1 : Array Slot) (pc : Nat), cMW s A v a b1 K0 res.2.1 res.2.2 H1 locs1 → decode cX6_goOn pc = .ok (.return_, 1) → W p l e R s m args below meth c H1 locs1 (xn res.2.1 - xn K0) (2 * (xn res.2.1 - xn K0)) Q (F0 m pc ls1 [])) (ag_45 : Int32 → PF → PG → PR) (hag_45 : ∀ (x2 : Int32) (F : PF) (G : PG), ag_45 x2 F G = some res → ∀ (b : Nat) (H : Heap) (locs : List Loc) (ls : Array Slot), cMW s A v a b K0 F G H locs → lv_has ls 3 [(0, .ref (a 206)), (2, .int x2)] → W p l e R s m args below meth c H locs (xn F - xn K0) (2 * (xn F - xn K0)) Q (F0 m 45 ls [])) (hagn_45 : ∀ (x2 : Int32) (F : PF) (G : PG), ag_45 x2 F G = some res → xn F ≤ xn res.2.1) (x2 : Int32) (F : PF) (G : PG) (hm : cb_X6_goOn_45 fu ag_45 x2 F G = some res) {b : Nat} {H : Heap} {locs : List Loc} (hw : cMW s A v a b K0 F G H locs) {ls : Array Slot} (hl : lv_has ls 3 [(0, .ref (a 206)), (2, .int x2)]) : W p l e R s m args below meth c H locs (xn F - xn K0) (2 * (xn F - xn K0)) Q (F0 m 45 ls []) := by
  have hx := C.1
  have hb := C.2.1
  unfold cb_X6_goOn_45 at hm
  refine lv_iload_n hx hb dX6_goOn_45 rfl (lv_at hl 1 rfl) ?_
  refine lv_ldc (v := 100000000) hx hb C.2.2.2.1 (C.2.2.2.2.1 _ cm_526) dX6_goOn_46 ?_
  refine lv_icmp_ge (tgt := 68) hx hb dX6_goOn_48 (by decide) (fun c_1 => ?_) (fun c_1 => ?_)
  · have hm := (if_pos c_1).symm.trans hm
    exact cw_X6_goOn_68 fu C hret F G hm hw (lv_sub hl [] rfl)
  · have hm := (if_neg c_1).symm.trans hm
    exact cw_X6_goOn_51 fu C hret ag_45 hag_45 hagn_45 x2 F G hm hw (lv_sub hl [0, 1] rfl)
theorem cnl_X6_goOn_45 (fu : Nat) {res : Int32 × PF × PG} : ∀ (n : Nat) (x2 : Int32) (F : PF) (G : PG) (hm : cl_X6_goOn_45 fu n x2 F G = some res), xn F ≤ xn res.2.1 := by
  intro n
  induction n with
  | zero =>
    intro x2 F G hm
    exact no_elim (show (none : PR) = some res from hm)
  | succ n ih =>
    intro x2 F G hm
    exact cn_X6_goOn_45 fu (cl_X6_goOn_45 fu n) (fun x2 F G hm => ih x2 F G hm) x2 F G hm
theorem cwl_X6_goOn_45 (fu : Nat) {res : Int32 × PF × PG} (C : cMC p R s m args c A v RX6 cX6_goOn 3 6 184 (xn res.2.1 - xn K0)) (hret : ∀ (b1 : Nat) (H1 : Heap) (locs1 : List Loc) (ls1 : Array Slot) (pc : Nat), cMW s A v a b1 K0 res.2.1 res.2.2 H1 locs1 → decode cX6_goOn pc = .ok (.return_, 1) → W p l e R s m args below meth c H1 locs1 (xn res.2.1 - xn K0) (2 * (xn res.2.1 - xn K0)) Q (F0 m pc ls1 [])) : ∀ (n : Nat) (x2 : Int32) (F : PF) (G : PG) (hm : cl_X6_goOn_45 fu n x2 F G = some res) {b : Nat} {H : Heap} {locs : List Loc} (hw : cMW s A v a b K0 F G H locs) {ls : Array Slot} (hl : lv_has ls 3 [(0, .ref (a 206)), (2, .int x2)]), W p l e R s m args below meth c H locs (xn F - xn K0) (2 * (xn F - xn K0)) Q (F0 m 45 ls []) := by
  intro n
  induction n with
  | zero =>
    intro x2 F G hm
    exact no_elim (show (none : PR) = some res from hm)
  | succ n ih =>
    intro x2 F G hm b H locs hw ls hl
    exact cw_X6_goOn_45 fu C hret (cl_X6_goOn_45 fu n) (fun x2 F G hm b H locs ls hw hl => ih x2 F G hm hw hl) (fun x2 F G hm => cnl_X6_goOn_45 fu n x2 F G hm) x2 F G hm hw hl
theorem cn_X6_goOn_43 (fu : Nat) {res : Int32 × PF × PG} (F : PF) (G : PG) (hm : cb_X6_goOn_43 fu F G = some res) : xn F ≤ xn res.2.1 := by
  unfold cb_X6_goOn_43 at hm
  exact (cnl_X6_goOn_45 fu fu 0 F G hm)
theorem cw_X6_goOn_43 (fu : Nat) {res : Int32 × PF × PG} (C : cMC p R s m args c A v RX6 cX6_goOn 3 6 184 (xn res.2.1 - xn K0)) (hret : ∀ (b1 : Nat) (H1 : Heap) (locs1 : List Loc) (ls1 : Array Slot) (pc : Nat), cMW s A v a b1 K0 res.2.1 res.2.2 H1 locs1 → decode cX6_goOn pc = .ok (.return_, 1) → W p l e R s m args below meth c H1 locs1 (xn res.2.1 - xn K0) (2 * (xn res.2.1 - xn K0)) Q (F0 m pc ls1 [])) (F : PF) (G : PG) (hm : cb_X6_goOn_43 fu F G = some res) {b : Nat} {H : Heap} {locs : List Loc} (hw : cMW s A v a b K0 F G H locs) {ls : Array Slot} (hl : lv_has ls 3 [(0, .ref (a 206))]) : W p l e R s m args below meth c H locs (xn F - xn K0) (2 * (xn F - xn K0)) Q (F0 m 43 ls []) := by
  have hx := C.1
  have hb := C.2.1
  unfold cb_X6_goOn_43 at hm
  refine lv_iconst (v := 0) hx hb dX6_goOn_43 (by decide) ?_
  refine lv_istore_n (lv' := [(2, .int 0), (0, .ref (a 206))]) hx hb dX6_goOn_44 rfl hl (by decide) rfl (fun ls hl => ?_)
  exact cwl_X6_goOn_45 fu C hret fu 0 F G hm hw (lv_sub hl [1, 0] rfl)
theorem cn_X6_goOn_39 (fu : Nat) {res : Int32 × PF × PG} (F : PF) (G : PG) (hm : cb_X6_goOn_39 fu F G = some res) : xn F ≤ xn res.2.1 := by
  unfold cb_X6_goOn_39 at hm
  obtain ⟨⟨r1, F1, G1⟩, hc, hm⟩ := bind_elim hm
  exact Nat.le_trans (cn_X6_enterMain fu F G _ hc) (cn_X6_goOn_43 fu F1 G1 hm)
theorem cw_X6_goOn_39 (fu : Nat) {res : Int32 × PF × PG} (C : cMC p R s m args c A v RX6 cX6_goOn 3 6 184 (xn res.2.1 - xn K0)) (hret : ∀ (b1 : Nat) (H1 : Heap) (locs1 : List Loc) (ls1 : Array Slot) (pc : Nat), cMW s A v a b1 K0 res.2.1 res.2.2 H1 locs1 → decode cX6_goOn pc = .ok (.return_, 1) → W p l e R s m args below meth c H1 locs1 (xn res.2.1 - xn K0) (2 * (xn res.2.1 - xn K0)) Q (F0 m pc ls1 [])) (F : PF) (G : PG) (hm : cb_X6_goOn_39 fu F G = some res) {b : Nat} {H : Heap} {locs : List Loc} (hw : cMW s A v a b K0 F G H locs) {ls : Array Slot} (hl : lv_has ls 3 [(0, .ref (a 206))]) : W p l e R s m args below meth c H locs (xn F - xn K0) (2 * (xn F - xn K0)) Q (F0 m 39 ls []) := by
  have hx := C.1
  have hb := C.2.1
  unfold cb_X6_goOn_39 at hm
  refine lv_aload_n hx hb dX6_goOn_39 rfl (lv_at hl 0 rfl) ?_
  obtain ⟨⟨r1, F1, G1⟩, hc, hm⟩ := bind_elim hm
  refine ccallV (n := 0) (As := []) (rest := []) C hw (ck_X6_enterMain l v a _ _ fu F G r1 F1 G1 hc) (cn_X6_enterMain fu F G _ hc) (Nat.sub_le_sub_right (cn_X6_goOn_43 fu F1 G1 hm) _) (crecv_X6 C hw) cm_827 cm_828 cm_829 cm_21 cm_830 (by decide +kernel) rfl (by omega) (by omega) hl.1 rfl (Nat.le_of_ble_eq_true rfl) dX6_goOn_40 (fun b H locs hw => ?_)
  exact cw_X6_goOn_43 fu C hret F1 G1 hm hw (lv_sub hl [0] rfl)
theorem cn_X6_goOn_32 (fu : Nat) {res : Int32 × PF × PG} (F : PF) (G : PG) (hm : cb_X6_goOn_32 fu F G = some res) : xn F ≤ xn res.2.1 := by
  unfold cb_X6_goOn_32 at hm
  by_cases c_1 : (F 60) = (0 : Int32)
  · have hm := (if_pos c_1).symm.trans hm
    exact (cn_X6_goOn_39 fu F G hm)
  · have hm := (if_neg c_1).symm.trans hm
    exact (cn_X6_goOn_43 fu F G hm)
theorem cw_X6_goOn_32 (fu : Nat) {res : Int32 × PF × PG} (C : cMC p R s m args c A v RX6 cX6_goOn 3 6 184 (xn res.2.1 - xn K0)) (hret : ∀ (b1 : Nat) (H1 : Heap) (locs1 : List Loc) (ls1 : Array Slot) (pc : Nat), cMW s A v a b1 K0 res.2.1 res.2.2 H1 locs1 → decode cX6_goOn pc = .ok (.return_, 1) → W p l e R s m args below meth c H1 locs1 (xn res.2.1 - xn K0) (2 * (xn res.2.1 - xn K0)) Q (F0 m pc ls1 [])) (F : PF) (G : PG) (hm : cb_X6_goOn_32 fu F G = some res) {b : Nat} {H : Heap} {locs : List Loc} (hw : cMW s A v a b K0 F G H locs) {ls : Array Slot} (hl : lv_has ls 3 [(0, .ref (a 206))]) : W p l e R s m args below meth c H locs (xn F - xn K0) (2 * (xn F - xn K0)) Q (F0 m 32 ls []) := by
  have hx := C.1
  have hb := C.2.1
  unfold cb_X6_goOn_32 at hm
  refine lv_aload_n hx hb dX6_goOn_32 rfl (lv_at hl 0 rfl) ?_
  refine cg_X6_52 C hw dX6_goOn_33 ?_
  refine lv_if_ne (tgt := 43) hx hb dX6_goOn_36 (by decide) (fun c_1 => ?_) (fun c_1 => ?_)
  · have hm := (if_neg c_1).symm.trans hm
    exact cw_X6_goOn_43 fu C hret F G hm hw (lv_sub hl [0] rfl)
  · have hm := (if_pos c_1).symm.trans hm
    exact cw_X6_goOn_39 fu C hret F G hm hw (lv_sub hl [0] rfl)
theorem cn_X6_goOn_27 (fu : Nat) {res : Int32 × PF × PG} (F : PF) (G : PG) (hm : cb_X6_goOn_27 fu F G = some res) : xn F ≤ xn res.2.1 := by
  unfold cb_X6_goOn_27 at hm
  exact Nat.le_trans (Nat.le_of_eq (xn_fup (by decide)).symm) (cn_X6_goOn_32 fu (fup F 61 (1 : Int32)) G hm)
theorem cw_X6_goOn_27 (fu : Nat) {res : Int32 × PF × PG} (C : cMC p R s m args c A v RX6 cX6_goOn 3 6 184 (xn res.2.1 - xn K0)) (hret : ∀ (b1 : Nat) (H1 : Heap) (locs1 : List Loc) (ls1 : Array Slot) (pc : Nat), cMW s A v a b1 K0 res.2.1 res.2.2 H1 locs1 → decode cX6_goOn pc = .ok (.return_, 1) → W p l e R s m args below meth c H1 locs1 (xn res.2.1 - xn K0) (2 * (xn res.2.1 - xn K0)) Q (F0 m pc ls1 [])) (F : PF) (G : PG) (hm : cb_X6_goOn_27 fu F G = some res) {b : Nat} {H : Heap} {locs : List Loc} (hw : cMW s A v a b K0 F G H locs) {ls : Array Slot} (hl : lv_has ls 3 [(0, .ref (a 206))]) : W p l e R s m args below meth c H locs (xn F - xn K0) (2 * (xn F - xn K0)) Q (F0 m 27 ls []) := by
  have hx := C.1
  have hb := C.2.1
  unfold cb_X6_goOn_27 at hm
  refine lv_aload_n hx hb dX6_goOn_27 rfl (lv_at hl 0 rfl) ?_
  refine lv_iconst (v := 1) hx hb dX6_goOn_28 (by decide) ?_
  refine cp_X6_105 C hw (by decide) dX6_goOn_29 (fun H locs hw => ?_)
  exact cw_X6_goOn_32 fu C hret (fup F 61 (1 : Int32)) G hm hw (lv_sub hl [0] rfl)
theorem cn_X6_goOn_22 (fu : Nat) {res : Int32 × PF × PG} (x1 : Int32) (F : PF) (G : PG) (hm : cb_X6_goOn_22 fu x1 F G = some res) : xn F ≤ xn res.2.1 := by
  unfold cb_X6_goOn_22 at hm
  exact Nat.le_trans (Nat.le_of_eq (xn_fup (by decide)).symm) (cn_X6_goOn_27 fu (fup F 62 x1) G hm)
theorem cw_X6_goOn_22 (fu : Nat) {res : Int32 × PF × PG} (C : cMC p R s m args c A v RX6 cX6_goOn 3 6 184 (xn res.2.1 - xn K0)) (hret : ∀ (b1 : Nat) (H1 : Heap) (locs1 : List Loc) (ls1 : Array Slot) (pc : Nat), cMW s A v a b1 K0 res.2.1 res.2.2 H1 locs1 → decode cX6_goOn pc = .ok (.return_, 1) → W p l e R s m args below meth c H1 locs1 (xn res.2.1 - xn K0) (2 * (xn res.2.1 - xn K0)) Q (F0 m pc ls1 [])) (x1 : Int32) (F : PF) (G : PG) (hm : cb_X6_goOn_22 fu x1 F G = some res) {b : Nat} {H : Heap} {locs : List Loc} (hw : cMW s A v a b K0 F G H locs) {ls : Array Slot} (hl : lv_has ls 3 [(0, .ref (a 206)), (1, .int x1)]) : W p l e R s m args below meth c H locs (xn F - xn K0) (2 * (xn F - xn K0)) Q (F0 m 22 ls []) := by
  have hx := C.1
  have hb := C.2.1
  unfold cb_X6_goOn_22 at hm
  refine lv_aload_n hx hb dX6_goOn_22 rfl (lv_at hl 0 rfl) ?_
  refine lv_iload_n hx hb dX6_goOn_23 rfl (lv_at hl 1 rfl) ?_
  refine cp_X6_102 C hw dX6_goOn_24 (fun H locs hw => ?_)
  exact cw_X6_goOn_27 fu C hret (fup F 62 x1) G hm hw (lv_sub hl [0] rfl)
theorem cn_X6_goOn_17 (fu : Nat) {res : Int32 × PF × PG} (x1 : Int32) (F : PF) (G : PG) (hm : cb_X6_goOn_17 fu x1 F G = some res) : xn F ≤ xn res.2.1 := by
  unfold cb_X6_goOn_17 at hm
  exact Nat.le_trans (Nat.le_of_eq (xn_fup (by decide)).symm) (cn_X6_goOn_22 fu x1 (fup F 63 (1 : Int32)) G hm)
theorem cw_X6_goOn_17 (fu : Nat) {res : Int32 × PF × PG} (C : cMC p R s m args c A v RX6 cX6_goOn 3 6 184 (xn res.2.1 - xn K0)) (hret : ∀ (b1 : Nat) (H1 : Heap) (locs1 : List Loc) (ls1 : Array Slot) (pc : Nat), cMW s A v a b1 K0 res.2.1 res.2.2 H1 locs1 → decode cX6_goOn pc = .ok (.return_, 1) → W p l e R s m args below meth c H1 locs1 (xn res.2.1 - xn K0) (2 * (xn res.2.1 - xn K0)) Q (F0 m pc ls1 [])) (x1 : Int32) (F : PF) (G : PG) (hm : cb_X6_goOn_17 fu x1 F G = some res) {b : Nat} {H : Heap} {locs : List Loc} (hw : cMW s A v a b K0 F G H locs) {ls : Array Slot} (hl : lv_has ls 3 [(0, .ref (a 206)), (1, .int x1)]) : W p l e R s m args below meth c H locs (xn F - xn K0) (2 * (xn F - xn K0)) Q (F0 m 17 ls []) := by
  have hx := C.1
  have hb := C.2.1
  unfold cb_X6_goOn_17 at hm
  refine lv_aload_n hx hb dX6_goOn_17 rfl (lv_at hl 0 rfl) ?_
  refine lv_iconst (v := 1) hx hb dX6_goOn_18 (by decide) ?_
  refine cp_X6_37 C hw dX6_goOn_19 (fun H locs hw => ?_)
  exact cw_X6_goOn_22 fu C hret x1 (fup F 63 (1 : Int32)) G hm hw (lv_sub hl [0, 1] rfl)
theorem cn_X6_goOn_16 (fu : Nat) {res : Int32 × PF × PG} (F : PF) (G : PG) (hm : cb_X6_goOn_16 fu F G = some res) : xn F ≤ xn res.2.1 := by
  unfold cb_X6_goOn_16 at hm
  obtain rfl := Option.some.inj hm
  exact Nat.le_refl _
theorem cw_X6_goOn_16 (fu : Nat) {res : Int32 × PF × PG} (C : cMC p R s m args c A v RX6 cX6_goOn 3 6 184 (xn res.2.1 - xn K0)) (hret : ∀ (b1 : Nat) (H1 : Heap) (locs1 : List Loc) (ls1 : Array Slot) (pc : Nat), cMW s A v a b1 K0 res.2.1 res.2.2 H1 locs1 → decode cX6_goOn pc = .ok (.return_, 1) → W p l e R s m args below meth c H1 locs1 (xn res.2.1 - xn K0) (2 * (xn res.2.1 - xn K0)) Q (F0 m pc ls1 [])) (F : PF) (G : PG) (hm : cb_X6_goOn_16 fu F G = some res) {b : Nat} {H : Heap} {locs : List Loc} (hw : cMW s A v a b K0 F G H locs) {ls : Array Slot} (hl : lv_has ls 3 []) : W p l e R s m args below meth c H locs (xn F - xn K0) (2 * (xn F - xn K0)) Q (F0 m 16 ls []) := by
  have hx := C.1
  have hb := C.2.1
  unfold cb_X6_goOn_16 at hm
  obtain rfl := Option.some.inj hm
  exact hret _ _ _ _ _ hw dX6_goOn_16
theorem cn_X6_goOn_8 (fu : Nat) {res : Int32 × PF × PG} (x1 : Int32) (F : PF) (G : PG) (hm : cb_X6_goOn_8 fu x1 F G = some res) : xn F ≤ xn res.2.1 := by
  unfold cb_X6_goOn_8 at hm
  by_cases c_1 : (F 63) = (2 : Int32)
  · have hm := (if_pos c_1).symm.trans hm
    exact (cn_X6_goOn_17 fu x1 F G hm)
  · have hm := (if_neg c_1).symm.trans hm
    exact (cn_X6_goOn_16 fu F G hm)
theorem cw_X6_goOn_8 (fu : Nat) {res : Int32 × PF × PG} (C : cMC p R s m args c A v RX6 cX6_goOn 3 6 184 (xn res.2.1 - xn K0)) (hret : ∀ (b1 : Nat) (H1 : Heap) (locs1 : List Loc) (ls1 : Array Slot) (pc : Nat), cMW s A v a b1 K0 res.2.1 res.2.2 H1 locs1 → decode cX6_goOn pc = .ok (.return_, 1) → W p l e R s m args below meth c H1 locs1 (xn res.2.1 - xn K0) (2 * (xn res.2.1 - xn K0)) Q (F0 m pc ls1 [])) (x1 : Int32) (F : PF) (G : PG) (hm : cb_X6_goOn_8 fu x1 F G = some res) {b : Nat} {H : Heap} {locs : List Loc} (hw : cMW s A v a b K0 F G H locs) {ls : Array Slot} (hl : lv_has ls 3 [(0, .ref (a 206)), (1, .int x1)]) : W p l e R s m args below meth c H locs (xn F - xn K0) (2 * (xn F - xn K0)) Q (F0 m 8 ls []) := by
  have hx := C.1
  have hb := C.2.1
  unfold cb_X6_goOn_8 at hm
  refine lv_aload_n hx hb dX6_goOn_8 rfl (lv_at hl 0 rfl) ?_
  refine cg_X6_37 C hw dX6_goOn_9 ?_
  refine lv_iconst (v := 2) hx hb dX6_goOn_12 (by decide) ?_
  refine lv_icmp_eq (tgt := 17) hx hb dX6_goOn_13 (by decide) (fun c_1 => ?_) (fun c_1 => ?_)
  · have hm := (if_pos c_1).symm.trans hm
    exact cw_X6_goOn_17 fu C hret x1 F G hm hw (lv_sub hl [0, 1] rfl)
  · have hm := (if_neg c_1).symm.trans hm
    exact cw_X6_goOn_16 fu C hret F G hm hw (lv_sub hl [] rfl)
theorem cn_X6_goOn_0 (fu : Nat) {res : Int32 × PF × PG} (x1 : Int32) (F : PF) (G : PG) (hm : cb_X6_goOn_0 fu x1 F G = some res) : xn F ≤ xn res.2.1 := by
  unfold cb_X6_goOn_0 at hm
  by_cases c_1 : (F 63) = (1 : Int32)
  · have hm := (if_pos c_1).symm.trans hm
    exact (cn_X6_goOn_17 fu x1 F G hm)
  · have hm := (if_neg c_1).symm.trans hm
    exact (cn_X6_goOn_8 fu x1 F G hm)
theorem cw_X6_goOn_0 (fu : Nat) {res : Int32 × PF × PG} (C : cMC p R s m args c A v RX6 cX6_goOn 3 6 184 (xn res.2.1 - xn K0)) (hret : ∀ (b1 : Nat) (H1 : Heap) (locs1 : List Loc) (ls1 : Array Slot) (pc : Nat), cMW s A v a b1 K0 res.2.1 res.2.2 H1 locs1 → decode cX6_goOn pc = .ok (.return_, 1) → W p l e R s m args below meth c H1 locs1 (xn res.2.1 - xn K0) (2 * (xn res.2.1 - xn K0)) Q (F0 m pc ls1 [])) (x1 : Int32) (F : PF) (G : PG) (hm : cb_X6_goOn_0 fu x1 F G = some res) {b : Nat} {H : Heap} {locs : List Loc} (hw : cMW s A v a b K0 F G H locs) {ls : Array Slot} (hl : lv_has ls 3 [(0, .ref (a 206)), (1, .int x1)]) : W p l e R s m args below meth c H locs (xn F - xn K0) (2 * (xn F - xn K0)) Q (F0 m 0 ls []) := by
  have hx := C.1
  have hb := C.2.1
  unfold cb_X6_goOn_0 at hm
  refine lv_aload_n hx hb dX6_goOn_0 rfl (lv_at hl 0 rfl) ?_
  refine cg_X6_37 C hw dX6_goOn_1 ?_
  refine lv_iconst (v := 1) hx hb dX6_goOn_4 (by decide) ?_
  refine lv_icmp_eq (tgt := 17) hx hb dX6_goOn_5 (by decide) (fun c_1 => ?_) (fun c_1 => ?_)
  · have hm := (if_pos c_1).symm.trans hm
    exact cw_X6_goOn_17 fu C hret x1 F G hm hw (lv_sub hl [0, 1] rfl)
  · have hm := (if_neg c_1).symm.trans hm
    exact cw_X6_goOn_8 fu C hret x1 F G hm hw (lv_sub hl [0, 1] rfl)
theorem cn_X6_goOn (fu : Nat) (x1 : Int32) (F : PF) (G : PG) (q : Int32 × PF × PG) (hm : cf_X6_goOn fu x1 F G = some q) : xn F ≤ xn q.2.1 := cn_X6_goOn_0 fu x1 F G hm
theorem ck_X6_goOn (l : Launch) (v : EV) (a : Nat → Nat) (b sz : Nat) (fu : Nat) (x1 : Int32) (F : PF) (G : PG) (r : Int32) (F1 : PF) (G1 : PG) (hm : cf_X6_goOn fu x1 F G = some (r, F1, G1)) : cMV l yX6_goOn cX6_goOn 3 6 184 v a b sz [.ref (a 206), .int x1] F G F1 G1 := cMV.of (by decide) (Nat.le_of_ble_eq_true rfl) (fun p e R s m args below meth c Q A H locs ls C hw hl hret => cw_X6_goOn_0 fu (res := (r, F1, G1)) C hret x1 F G hm hw hl)
end MB
