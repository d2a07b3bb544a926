section MB
variable {p : Program} {l : Launch} {e : Env} {R : Room} {s : State} {m : MethodId} {args : Array Value} {below : List Frame} {meth : Method} {c : Code} {H : Heap} {locs : List Loc} {Q : State → Prop} {A : Nat → Prop} {v : EV} {a : Nat → Nat} {b ce : Nat} {own : String} {cc : ByteArray} {nL fr lo : Nat} {K0 : PF}
def cb_X7_forgetInput_10 (fu : Nat) (F : PF) (G : PG) : PR := some (0, F, G)
def cb_X7_forgetInput_5 (fu : Nat) (F : PF) (G : PG) : PR := cb_X7_forgetInput_10 fu (fup F 70 (0 : Int32)) G
def cb_X7_forgetInput_0 (fu : Nat) (F : PF) (G : PG) : PR := cb_X7_forgetInput_5 fu (fup F 69 (0 : Int32)) G
def cf_X7_forgetInput (fu : Nat) (F : PF) (G : PG) : PR := cb_X7_forgetInput_0 fu F G
theorem cn_X7_forgetInput_10 (fu : Nat) {res : Int32 × PF × PG} (F : PF) (G : PG) (hm : cb_X7_forgetInput_10 fu F G = some res) : xn F ≤ xn res.2.1 := by
  unfold cb_X7_forgetInput_10 at hm
  obtain rfl := Option.some.inj hm
  exact Nat.le_refl _
theorem cw_X7_forgetInput_10 (fu : Nat) {res : Int32 × PF × PG} (C : cMC p R s m args c A v RX7 cX7_forgetInput 1 0 0 (xn res.2.1 - xn K0)) (hret : ∀ (b1 : Nat) (H1 : Heap) (locs1 : List Loc) (ls1 : Array Slot) (pc : Nat), cMW s A v a b1 K0 res.2.1 res.2.2 H1 locs1 → decode cX7_forgetInput pc = .ok (.return_, 1) → W p l e R s m args below meth c H1 locs1 (xn res.2.1 - xn K0) (2 * (xn res.2.1 - xn K0)) Q (F0 m pc ls1 [])) (F : PF) (G : PG) (hm : cb_X7_forgetInput_10 fu F G = some res) {b : Nat} {H : Heap} {locs : List Loc} (hw : cMW s A v a b K0 F G H locs) {ls : Array Slot} (hl : lv_has ls 1 []) : W p l e R s m args below meth c H locs (xn F - xn K0) (2 * (xn F - xn K0)) Q (F0 m 10 ls []) := by
  have hx := C.1
  have hb := C.2.1
  unfold cb_X7_forgetInput_10 at hm
  obtain rfl := Option.some.inj hm
  exact hret _ _ _ _ _ hw dX7_forgetInput_10
theorem cn_X7_forgetInput_5 (fu : Nat) {res : Int32 × PF × PG} (F : PF) (G : PG) (hm : cb_X7_forgetInput_5 fu F G = some res) : xn F ≤ xn res.2.1 := by
  unfold cb_X7_forgetInput_5 at hm
  exact Nat.le_trans (Nat.le_of_eq (xn_fup (by decide)).symm) (cn_X7_forgetInput_10 fu (fup F 70 (0 : Int32)) G hm)
theorem cw_X7_forgetInput_5 (fu : Nat) {res : Int32 × PF × PG} (C : cMC p R s m args c A v RX7 cX7_forgetInput 1 0 0 (xn res.2.1 - xn K0)) (hret : ∀ (b1 : Nat) (H1 : Heap) (locs1 : List Loc) (ls1 : Array Slot) (pc : Nat), cMW s A v a b1 K0 res.2.1 res.2.2 H1 locs1 → decode cX7_forgetInput pc = .ok (.return_, 1) → W p l e R s m args below meth c H1 locs1 (xn res.2.1 - xn K0) (2 * (xn res.2.1 - xn K0)) Q (F0 m pc ls1 [])) (F : PF) (G : PG) (hm : cb_X7_forgetInput_5 fu F G = some res) {b : Nat} {H : Heap} {locs : List Loc} (hw : cMW s A v a b K0 F G H locs) {ls : Array Slot} (hl : lv_has ls 1 [(0, .ref (a 207))]) : W p l e R s m args below meth c H locs (xn F - xn K0) (2 * (xn F - xn K0)) Q (F0 m 5 ls []) := by
  have hx := C.1
  have hb := C.2.1
  unfold cb_X7_forgetInput_5 at hm
  refine lv_aload_n hx hb dX7_forgetInput_5 rfl (lv_at hl 0 rfl) ?_
  refine lv_iconst (v := 0) hx hb dX7_forgetInput_6 (by decide) ?_
  refine cp_X7_20 C hw dX7_forgetInput_7 (fun H locs hw => ?_)
  exact cw_X7_forgetInput_10 fu C hret (fup F 70 (0 : Int32)) G hm hw (lv_sub hl [] rfl)
theorem cn_X7_forgetInput_0 (fu : Nat) {res : Int32 × PF × PG} (F : PF) (G : PG) (hm : cb_X7_forgetInput_0 fu F G = some res) : xn F ≤ xn res.2.1 := by
  unfold cb_X7_forgetInput_0 at hm
  exact Nat.le_trans (Nat.le_of_eq (xn_fup (by decide)).symm) (cn_X7_forgetInput_5 fu (fup F 69 (0 : Int32)) G hm)
theorem cw_X7_forgetInput_0 (fu : Nat) {res : Int32 × PF × PG} (C : cMC p R s m args c A v RX7 cX7_forgetInput 1 0 0 (xn res.2.1 - xn K0)) (hret : ∀ (b1 : Nat) (H1 : Heap) (locs1 : List Loc) (ls1 : Array Slot) (pc : Nat), cMW s A v a b1 K0 res.2.1 res.2.2 H1 locs1 → decode cX7_forgetInput pc = .ok (.return_, 1) → W p l e R s m args below meth c H1 locs1 (xn res.2.1 - xn K0) (2 * (xn res.2.1 - xn K0)) Q (F0 m pc ls1 [])) (F : PF) (G : PG) (hm : cb_X7_forgetInput_0 fu F G = some res) {b : Nat} {H : Heap} {locs : List Loc} (hw : cMW s A v a b K0 F G H locs) {ls : Array Slot} (hl : lv_has ls 1 [(0, .ref (a 207))]) : W p l e R s m args below meth c H locs (xn F - xn K0) (2 * (xn F - xn K0)) Q (F0 m 0 ls []) := by
  have hx := C.1
  have hb := C.2.1
  unfold cb_X7_forgetInput_0 at hm
  refine lv_aload_n hx hb dX7_forgetInput_0 rfl (lv_at hl 0 rfl) ?_
  refine lv_iconst (v := 0) hx hb dX7_forgetInput_1 (by decide) ?_
  refine cp_X7_16 C hw dX7_forgetInput_2 (fun H locs hw => ?_)
  exact cw_X7_forgetInput_5 fu C hret (fup F 69 (0 : Int32)) G hm hw (lv_sub hl [0] rfl)
theorem cn_X7_forgetInput (fu : Nat) (F : PF) (G : PG) (q : Int32 × PF × PG) (hm : cf_X7_forgetInput fu F G = some q) : xn F ≤ xn q.2.1 := cn_X7_forgetInput_0 fu F G hm
theorem ck_X7_forgetInput (l : Launch) (v : EV) (a : Nat → Nat) (b sz : Nat) (fu : Nat) (F : PF) (G : PG) (r : Int32) (F1 : PF) (G1 : PG) (hm : cf_X7_forgetInput fu F G = some (r, F1, G1)) : cMV l yX7_forgetInput cX7_forgetInput 1 0 0 v a b sz [.ref (a 207)] F G F1 G1 := cMV.of (by decide) (Nat.le_of_ble_eq_true rfl) (fun p e R s m args below meth c Q A H locs ls C hw hl hret => cw_X7_forgetInput_0 fu (res := (r, F1, G1)) C hret F G hm hw hl)
def cb_X7_forgetOutput_5 (fu : Nat) (F : PF) (G : PG) : PR := some (0, F, G)
def cb_X7_forgetOutput_0 (fu : Nat) (F : PF) (G : PG) : PR := cb_X7_forgetOutput_5 fu (fup F 72 (0 : Int32)) G
def cf_X7_forgetOutput (fu : Nat) (F : PF) (G : PG) : PR := cb_X7_forgetOutput_0 fu F G
theorem cn_X7_forgetOutput_5 (fu : Nat) {res : Int32 × PF × PG} (F : PF) (G : PG) (hm : cb_X7_forgetOutput_5 fu F G = some res) : xn F ≤ xn res.2.1 := by
  unfold cb_X7_forgetOutput_5 at hm
  obtain rfl := Option.some.inj hm
  exact Nat.le_refl _
theorem cw_X7_forgetOutput_5 (fu : Nat) {res : Int32 × PF × PG} (C : cMC p R s m args c A v RX7 cX7_forgetOutput 1 0 0 (xn res.2.1 - xn K0)) (hret : ∀ (b1 : Nat) (H1 : Heap) (locs1 : List Loc) (ls1 : Array Slot) (pc : Nat), cMW s A v a b1 K0 res.2.1 res.2.2 H1 locs1 → decode cX7_forgetOutput pc = .ok (.return_, 1) → W p l e R s m args below meth c H1 locs1 (xn res.2.1 - xn K0) (2 * (xn res.2.1 - xn K0)) Q (F0 m pc ls1 [])) (F : PF) (G : PG) (hm : cb_X7_forgetOutput_5 fu F G = some res) {b : Nat} {H : Heap} {locs : List Loc} (hw : cMW s A v a b K0 F G H locs) {ls : Array Slot} (hl : lv_has ls 1 []) : W p l e R s m args below meth c H locs (xn F - xn K0) (2 * (xn F - xn K0)) Q (F0 m 5 ls []) := by
  have hx := C.1
  have hb := C.2.1
  unfold cb_X7_forgetOutput_5 at hm
  obtain rfl := Option.some.inj hm
  exact hret _ _ _ _ _ hw dX7_forgetOutput_5
theorem cn_X7_forgetOutput_0 (fu : Nat) {res : Int32 × PF × PG} (F : PF) (G : PG) (hm : cb_X7_forgetOutput_0 fu F G = some res) : xn F ≤ xn res.2.1 := by
  unfold cb_X7_forgetOutput_0 at hm
  exact Nat.le_trans (Nat.le_of_eq (xn_fup (by decide)).symm) (cn_X7_forgetOutput_5 fu (fup F 72 (0 : Int32)) G hm)
theorem cw_X7_forgetOutput_0 (fu : Nat) {res : Int32 × PF × PG} (C : cMC p R s m args c A v RX7 cX7_forgetOutput 1 0 0 (xn res.2.1 - xn K0)) (hret : ∀ (b1 : Nat) (H1 : Heap) (locs1 : List Loc) (ls1 : Array Slot) (pc : Nat), cMW s A v a b1 K0 res.2.1 res.2.2 H1 locs1 → decode cX7_forgetOutput pc = .ok (.return_, 1) → W p l e R s m args below meth c H1 locs1 (xn res.2.1 - xn K0) (2 * (xn res.2.1 - xn K0)) Q (F0 m pc ls1 [])) (F : PF) (G : PG) (hm : cb_X7_forgetOutput_0 fu F G = some res) {b : Nat} {H : Heap} {locs : List Loc} (hw : cMW s A v a b K0 F G H locs) {ls : Array Slot} (hl : lv_has ls 1 [(0, .ref (a 207))]) : W p l e R s m args below meth c H locs (xn F - xn K0) (2 * (xn F - xn K0)) Q (F0 m 0 ls []) := by
  have hx := C.1
  have hb := C.2.1
  unfold cb_X7_forgetOutput_0 at hm
  refine lv_aload_n hx hb dX7_forgetOutput_0 rfl (lv_at hl 0 rfl) ?_
  refine lv_iconst (v := 0) hx hb dX7_forgetOutput_1 (by decide) ?_
  refine cp_X7_23 C hw dX7_forgetOutput_2 (fun H locs hw => ?_)
  exact cw_X7_forgetOutput_5 fu C hret (fup F 72 (0 : Int32)) G hm hw (lv_sub hl [] rfl)
theorem cn_X7_forgetOutput (fu : Nat) (F : PF) (G : PG) (q : Int32 × PF × PG) (hm : cf_X7_forgetOutput fu F G = some q) : xn F ≤ xn q.2.1 := cn_X7_forgetOutput_0 fu F G hm
theorem ck_X7_forgetOutput (l : Launch) (v : EV) (a : Nat → Nat) (b sz : Nat) (fu : Nat) (F : PF) (G : PG) (r : Int32) (F1 : PF) (G1 : PG) (hm : cf_X7_forgetOutput fu F G = some (r, F1, G1)) : cMV l yX7_forgetOutput cX7_forgetOutput 1 0 0 v a b sz [.ref (a 207)] F G F1 G1 := cMV.of (by decide) (Nat.le_of_ble_eq_true rfl) (fun p e R s m args below meth c Q A H locs ls C hw hl hret => cw_X7_forgetOutput_0 fu (res := (r, F1, G1)) C hret F G hm hw hl)
def cb_X7_takes_41 (fu : Nat) (F : PF) (G : PG) : PR := some (1, F, G)
def cb_X7_takes_31 (fu : Nat) (F : PF) (G : PG) : PR := cb_X7_takes_41 fu (fup F 70 ((F 70) + (1 : Int32))) G
def cb_X7_takes_12 (fu : Nat) (x1 : Int32) (F : PF) (G : PG) : PR := if ixb (((F 69) + (F 70)) - ((F 69) + (F 70)) / (500 : Int32) * (500 : Int32)) 500 = true then (cb_X7_takes_31 fu F (gup G 68 (((F 69) + (F 70)) - ((F 69) + (F 70)) / (500 : Int32) * (500 : Int32)).toNatClampNeg x1)) else none
def cb_X7_takes_10 (fu : Nat) (F : PF) (G : PG) : PR := some (0, F, G)
def cb_X7_takes_0 (fu : Nat) (x1 : Int32) (F : PF) (G : PG) : PR := if (F 70) < (500 : Int32) then cb_X7_takes_12 fu x1 F G else cb_X7_takes_10 fu F G
def cf_X7_takes (fu : Nat) (x1 : Int32) (F : PF) (G : PG) : PR := cb_X7_takes_0 fu x1 F G
theorem cn_X7_takes_41 (fu : Nat) {res : Int32 × PF × PG} (F : PF) (G : PG) (hm : cb_X7_takes_41 fu F G = some res) : xn F ≤ xn res.2.1 := by
  unfold cb_X7_takes_41 at hm
  obtain rfl := Option.some.inj hm
  exact Nat.le_refl _
theorem cw_X7_takes_41 (fu : Nat) {res : Int32 × PF × PG} (C : cMC p R s m args c A v RX7 cX7_takes 2 0 0 (xn res.2.1 - xn K0)) (hret : ∀ (b1 : Nat) (H1 : Heap) (locs1 : List Loc) (ls1 : Array Slot) (pc : Nat), cMW s A v a b1 K0 res.2.1 res.2.2 H1 locs1 → narrow .boolean (.int res.1) = .int res.1 → decode cX7_takes pc = .ok (.ireturn, 1) → W p l e R s m args below meth c H1 locs1 (xn res.2.1 - xn K0) (2 * (xn res.2.1 - xn K0)) Q (F0 m pc ls1 [.int res.1])) (F : PF) (G : PG) (hm : cb_X7_takes_41 fu F G = some res) {b : Nat} {H : Heap} {locs : List Loc} (hw : cMW s A v a b K0 F G H locs) {ls : Array Slot} (hl : lv_has ls 2 []) : W p l e R s m args below meth c H locs (xn F - xn K0) (2 * (xn F - xn K0)) Q (F0 m 41 ls []) := by
  have hx := C.1
  have hb := C.2.1
  unfold cb_X7_takes_41 at hm
  refine lv_iconst (v := 1) hx hb dX7_takes_41 (by decide) ?_
  obtain rfl := Option.some.inj hm
  exact hret _ _ _ _ _ hw (b01_nar (v := 1) (Or.inr rfl)) dX7_takes_42
theorem cn_X7_takes_31 (fu : Nat) {res : Int32 × PF × PG} (F : PF) (G : PG) (hm : cb_X7_takes_31 fu F G = some res) : xn F ≤ xn res.2.1 := by
  unfold cb_X7_takes_31 at hm
  exact Nat.le_trans (Nat.le_of_eq (xn_fup (by decide)).symm) (cn_X7_takes_41 fu (fup F 70 ((F 70) + (1 : Int32))) G hm)
theorem cw_X7_takes_31 (fu : Nat) {res : Int32 × PF × PG} (C : cMC p R s m args c A v RX7 cX7_takes 2 0 0 (xn res.2.1 - xn K0)) (hret : ∀ (b1 : Nat) (H1 : Heap) (locs1 : List Loc) (ls1 : Array Slot) (pc : Nat), cMW s A v a b1 K0 res.2.1 res.2.2 H1 locs1 → narrow .boolean (.int res.1) = .int res.1 → decode cX7_takes pc = .ok (.ireturn, 1) → W p l e R s m args below meth c H1 locs1 (xn res.2.1 - xn K0) (2 * (xn res.2.1 - xn K0)) Q (F0 m pc ls1 [.int res.1])) (F : PF) (G : PG) (hm : cb_X7_takes_31 fu F G = some res) {b : Nat} {H : Heap} {locs : List Loc} (hw : cMW s A v a b K0 F G H locs) {ls : Array Slot} (hl : lv_has ls 2 [(0, .ref (a 207))]) : W p l e R s m args below meth c H locs (xn F - xn K0) (2 * (xn F - xn K0)) Q (F0 m 31 ls []) := by
  have hx := C.1
  have hb := C.2.1
  unfold cb_X7_takes_31 at hm
  refine lv_aload_n hx hb dX7_takes_31 rfl (lv_at hl 0 rfl) ?_
  refine lv_dup hx hb dX7_takes_32 rfl ?_
  refine cg_X7_20 C hw dX7_takes_33 ?_
  refine lv_iconst (v := 1) hx hb dX7_takes_36 (by decide) ?_
  refine lv_iadd hx hb dX7_takes_37 ?_
  refine cp_X7_20 C hw dX7_takes_38 (fun H locs hw => ?_)
  exact cw_X7_takes_41 fu C hret (fup F 70 ((F 70) + (1 : Int32))) G hm hw (lv_sub hl [] rfl)
theorem cn_X7_takes_12 (fu : Nat) {res : Int32 × PF × PG} (x1 : Int32) (F : PF) (G : PG) (hm : cb_X7_takes_12 fu x1 F G = some res) : xn F ≤ xn res.2.1 := by
  unfold cb_X7_takes_12 at hm
  have hm := (ix_elim hm).2
  exact (cn_X7_takes_31 fu F (gup G 68 (((F 69) + (F 70)) - ((F 69) + (F 70)) / (500 : Int32) * (500 : Int32)).toNatClampNeg x1) hm)
theorem cw_X7_takes_12 (fu : Nat) {res : Int32 × PF × PG} (C : cMC p R s m args c A v RX7 cX7_takes 2 0 0 (xn res.2.1 - xn K0)) (hret : ∀ (b1 : Nat) (H1 : Heap) (locs1 : List Loc) (ls1 : Array Slot) (pc : Nat), cMW s A v a b1 K0 res.2.1 res.2.2 H1 locs1 → narrow .boolean (.int res.1) = .int res.1 → decode cX7_takes pc = .ok (.ireturn, 1) → W p l e R s m args below meth c H1 locs1 (xn res.2.1 - xn K0) (2 * (xn res.2.1 - xn K0)) Q (F0 m pc ls1 [.int res.1])) (x1 : Int32) (F : PF) (G : PG) (hm : cb_X7_takes_12 fu x1 F G = some res) {b : Nat} {H : Heap} {locs : List Loc} (hw : cMW s A v a b K0 F G H locs) {ls : Array Slot} (hl : lv_has ls 2 [(0, .ref (a 207)), (1, .int x1)]) : W p l e R s m args below meth c H locs (xn F - xn K0) (2 * (xn F - xn K0)) Q (F0 m 12 ls []) := by
  have hx := C.1
  have hb := C.2.1
  unfold cb_X7_takes_12 at hm
  refine lv_aload_n hx hb dX7_takes_12 rfl (lv_at hl 0 rfl) ?_
  refine cg_X7_9 C hw dX7_takes_13 ?_
  refine lv_aload_n hx hb dX7_takes_16 rfl (lv_at hl 0 rfl) ?_
  refine cg_X7_16 C hw dX7_takes_17 ?_
  refine lv_aload_n hx hb dX7_takes_20 rfl (lv_at hl 0 rfl) ?_
  refine cg_X7_20 C hw dX7_takes_21 ?_
  refine lv_iadd hx hb dX7_takes_24 ?_
  refine lv_sipush (v := 500) hx hb dX7_takes_25 (by decide) ?_
  refine lv_irem hx hb dX7_takes_28 (by decide) ?_
  refine lv_iload_n hx hb dX7_takes_29 rfl (lv_at hl 1 rfl) ?_
  obtain ⟨hi, hm⟩ := ix_elim hm
  refine cas_68 C hw hi dX7_takes_30 (fun H locs hw => ?_)
  exact cw_X7_takes_31 fu C hret F (gup G 68 (((F 69) + (F 70)) - ((F 69) + (F 70)) / (500 : Int32) * (500 : Int32)).toNatClampNeg x1) hm hw (lv_sub hl [0] rfl)
theorem cn_X7_takes_10 (fu : Nat) {res : Int32 × PF × PG} (F : PF) (G : PG) (hm : cb_X7_takes_10 fu F G = some res) : xn F ≤ xn res.2.1 := by
  unfold cb_X7_takes_10 at hm
  obtain rfl := Option.some.inj hm
  exact Nat.le_refl _
theorem cw_X7_takes_10 (fu : Nat) {res : Int32 × PF × PG} (C : cMC p R s m args c A v RX7 cX7_takes 2 0 0 (xn res.2.1 - xn K0)) (hret : ∀ (b1 : Nat) (H1 : Heap) (locs1 : List Loc) (ls1 : Array Slot) (pc : Nat), cMW s A v a b1 K0 res.2.1 res.2.2 H1 locs1 → narrow .boolean (.int res.1) = .int res.1 → decode cX7_takes pc = .ok (.ireturn, 1) → W p l e R s m args below meth c H1 locs1 (xn res.2.1 - xn K0) (2 * (xn res.2.1 - xn K0)) Q (F0 m pc ls1 [.int res.1])) (F : PF) (G : PG) (hm : cb_X7_takes_10 fu F G = some res) {b : Nat} {H : Heap} {locs : List Loc} (hw : cMW s A v a b K0 F G H locs) {ls : Array Slot} (hl : lv_has ls 2 []) : W p l e R s m args below meth c H locs (xn F - xn K0) (2 * (xn F - xn K0)) Q (F0 m 10 ls []) := by
  have hx := C.1
  have hb := C.2.1
  unfold cb_X7_takes_10 at hm
  refine lv_iconst (v := 0) hx hb dX7_takes_10 (by decide) ?_
  obtain rfl := Option.some.inj hm
  exact hret _ _ _ _ _ hw (b01_nar (v := 0) (Or.inl rfl)) dX7_takes_11
theorem cn_X7_takes_0 (fu : Nat) {res : Int32 × PF × PG} (x1 : Int32) (F : PF) (G : PG) (hm : cb_X7_takes_0 fu x1 F G = some res) : xn F ≤ xn res.2.1 := by
  unfold cb_X7_takes_0 at hm
  by_cases c_1 : (F 70) < (500 : Int32)
  · have hm := (if_pos c_1).symm.trans hm
    exact (cn_X7_takes_12 fu x1 F G hm)
  · have hm := (if_neg c_1).symm.trans hm
    exact (cn_X7_takes_10 fu F G hm)
theorem cw_X7_takes_0 (fu : Nat) {res : Int32 × PF × PG} (C : cMC p R s m args c A v RX7 cX7_takes 2 0 0 (xn res.2.1 - xn K0)) (hret : ∀ (b1 : Nat) (H1 : Heap) (locs1 : List Loc) (ls1 : Array Slot) (pc : Nat), cMW s A v a b1 K0 res.2.1 res.2.2 H1 locs1 → narrow .boolean (.int res.1) = .int res.1 → decode cX7_takes pc = .ok (.ireturn, 1) → W p l e R s m args below meth c H1 locs1 (xn res.2.1 - xn K0) (2 * (xn res.2.1 - xn K0)) Q (F0 m pc ls1 [.int res.1])) (x1 : Int32) (F : PF) (G : PG) (hm : cb_X7_takes_0 fu x1 F G = some res) {b : Nat} {H : Heap} {locs : List Loc} (hw : cMW s A v a b K0 F G H locs) {ls : Array Slot} (hl : lv_has ls 2 [(0, .ref (a 207)), (1, .int x1)]) : W p l e R s m args below meth c H locs (xn F - xn K0) (2 * (xn F - xn K0)) Q (F0 m 0 ls []) := by
  have hx := C.1
  have hb := C.2.1
  unfold cb_X7_takes_0 at hm
  refine lv_aload_n hx hb dX7_takes_0 rfl (lv_at hl 0 rfl) ?_
  refine cg_X7_20 C hw dX7_takes_1 ?_
  refine lv_sipush (v := 500) hx hb dX7_takes_4 (by decide) ?_
  refine lv_icmp_lt (tgt := 12) hx hb dX7_takes_7 (by decide) (fun c_1 => ?_) (fun c_1 => ?_)
  · have hm := (if_pos c_1).symm.trans hm
    exact cw_X7_takes_12 fu C hret x1 F G hm hw (lv_sub hl [0, 1] rfl)
  · have hm := (if_neg c_1).symm.trans hm
    exact cw_X7_takes_10 fu C hret F G hm hw (lv_sub hl [] rfl)
theorem cn_X7_takes (fu : Nat) (x1 : Int32) (F : PF) (G : PG) (q : Int32 × PF × PG) (hm : cf_X7_takes fu x1 F G = some q) : xn F ≤ xn q.2.1 := cn_X7_takes_0 fu x1 F G hm
theorem ck_X7_takes (l : Launch) (v : EV) (a : Nat → Nat) (b sz : Nat) (fu : Nat) (x1 : Int32) (F : PF) (G : PG) (r : Int32) (F1 : PF) (G1 : PG) (hm : cf_X7_takes fu x1 F G = some (r, F1, G1)) : cMI l yX7_takes cX7_takes 2 (some .boolean) 0 0 v a b sz [.ref (a 207), .int x1] F G r F1 G1 := cMI.of (ty := .boolean) (by decide) rfl (Nat.le_of_ble_eq_true rfl) (fun p e R s m args below meth c Q A H locs ls C hw hl hret => cw_X7_takes_0 fu (res := (r, F1, G1)) C hret x1 F G hm hw hl)
def cb_X7_shown_29 (fu : Nat) (z0 : Int32) (F : PF) (G : PG) : PR := some (z0, F, G)
def cb_X7_shown_19 (fu : Nat) (F : PF) (G : PG) : PR := cb_X7_shown_29 fu 0 F G
def cb_X7_shown_23 (fu : Nat) (x1 : Int32) (F : PF) (G : PG) : PR := if ixb x1 2000 = true then (cb_X7_shown_29 fu (G 71 x1.toNatClampNeg) F G) else none
def cb_X7_shown_11 (fu : Nat) (x1 : Int32) (F : PF) (G : PG) : PR := if x1 < (F 72) then cb_X7_shown_23 fu x1 F G else cb_X7_shown_19 fu F G
def cb_X7_shown_4 (fu : Nat) (x1 : Int32) (F : PF) (G : PG) : PR := if (2000 : Int32) ≤ x1 then cb_X7_shown_19 fu F G else cb_X7_shown_11 fu x1 F G
def cb_X7_shown_0 (fu : Nat) (x1 : Int32) (F : PF) (G : PG) : PR := if x1 < (0 : Int32) then cb_X7_shown_19 fu F G else cb_X7_shown_4 fu x1 F G
def cf_X7_shown (fu : Nat) (x1 : Int32) (F : PF) (G : PG) : PR := cb_X7_shown_0 fu x1 F G
theorem cn_X7_shown_29 (fu : Nat) {res : Int32 × PF × PG} (z0 : Int32) (F : PF) (G : PG) (hm : cb_X7_shown_29 fu z0 F G = some res) : xn F ≤ xn res.2.1 := by
  unfold cb_X7_shown_29 at hm
  obtain rfl := Option.some.inj hm
  exact Nat.le_refl _
theorem cw_X7_shown_29 (fu : Nat) {res : Int32 × PF × PG} (C : cMC p R s m args c A v RX7 cX7_shown 2 0 0 (xn res.2.1 - xn K0)) (hret : ∀ (b1 : Nat) (H1 : Heap) (locs1 : List Loc) (ls1 : Array Slot) (pc : Nat), cMW s A v a b1 K0 res.2.1 res.2.2 H1 locs1 → narrow .int (.int res.1) = .int res.1 → decode cX7_shown pc = .ok (.ireturn, 1) → W p l e R s m args below meth c H1 locs1 (xn res.2.1 - xn K0) (2 * (xn res.2.1 - xn K0)) Q (F0 m pc ls1 [.int res.1])) (z0 : Int32) (F : PF) (G : PG) (hm : cb_X7_shown_29 fu z0 F G = some res) {b : Nat} {H : Heap} {locs : List Loc} (hw : cMW s A v a b K0 F G H locs) {ls : Array Slot} (hl : lv_has ls 2 []) : W p l e R s m args below meth c H locs (xn F - xn K0) (2 * (xn F - xn K0)) Q (F0 m 29 ls [.int z0]) := by
  have hx := C.1
  have hb := C.2.1
  unfold cb_X7_shown_29 at hm
  obtain rfl := Option.some.inj hm
  exact hret _ _ _ _ _ hw rfl dX7_shown_29
theorem cn_X7_shown_19 (fu : Nat) {res : Int32 × PF × PG} (F : PF) (G : PG) (hm : cb_X7_shown_19 fu F G = some res) : xn F ≤ xn res.2.1 := by
  unfold cb_X7_shown_19 at hm
  exact (cn_X7_shown_29 fu 0 F G hm)
theorem cw_X7_shown_19 (fu : Nat) {res : Int32 × PF × PG} (C : cMC p R s m args c A v RX7 cX7_shown 2 0 0 (xn res.2.1 - xn K0)) (hret : ∀ (b1 : Nat) (H1 : Heap) (locs1 : List Loc) (ls1 : Array Slot) (pc : Nat), cMW s A v a b1 K0 res.2.1 res.2.2 H1 locs1 → narrow .int (.int res.1) = .int res.1 → decode cX7_shown pc = .ok (.ireturn, 1) → W p l e R s m args below meth c H1 locs1 (xn res.2.1 - xn K0) (2 * (xn res.2.1 - xn K0)) Q (F0 m pc ls1 [.int res.1])) (F : PF) (G : PG) (hm : cb_X7_shown_19 fu F G = some res) {b : Nat} {H : Heap} {locs : List Loc} (hw : cMW s A v a b K0 F G H locs) {ls : Array Slot} (hl : lv_has ls 2 []) : W p l e R s m args below meth c H locs (xn F - xn K0) (2 * (xn F - xn K0)) Q (F0 m 19 ls []) := by
  have hx := C.1
  have hb := C.2.1
  unfold cb_X7_shown_19 at hm
  refine lv_iconst (v := 0) hx hb dX7_shown_19 (by decide) ?_
  refine lv_goto (tgt := 29) hx hb dX7_shown_20 (by decide) ?_
  exact cw_X7_shown_29 fu C hret 0 F G hm hw (lv_sub hl [] rfl)
theorem cn_X7_shown_23 (fu : Nat) {res : Int32 × PF × PG} (x1 : Int32) (F : PF) (G : PG) (hm : cb_X7_shown_23 fu x1 F G = some res) : xn F ≤ xn res.2.1 := by
  unfold cb_X7_shown_23 at hm
  have hm := (ix_elim hm).2
  exact (cn_X7_shown_29 fu (G 71 x1.toNatClampNeg) F G hm)
theorem cw_X7_shown_23 (fu : Nat) {res : Int32 × PF × PG} (C : cMC p R s m args c A v RX7 cX7_shown 2 0 0 (xn res.2.1 - xn K0)) (hret : ∀ (b1 : Nat) (H1 : Heap) (locs1 : List Loc) (ls1 : Array Slot) (pc : Nat), cMW s A v a b1 K0 res.2.1 res.2.2 H1 locs1 → narrow .int (.int res.1) = .int res.1 → decode cX7_shown pc = .ok (.ireturn, 1) → W p l e R s m args below meth c H1 locs1 (xn res.2.1 - xn K0) (2 * (xn res.2.1 - xn K0)) Q (F0 m pc ls1 [.int res.1])) (x1 : Int32) (F : PF) (G : PG) (hm : cb_X7_shown_23 fu x1 F G = some res) {b : Nat} {H : Heap} {locs : List Loc} (hw : cMW s A v a b K0 F G H locs) {ls : Array Slot} (hl : lv_has ls 2 [(0, .ref (a 207)), (1, .int x1)]) : W p l e R s m args below meth c H locs (xn F - xn K0) (2 * (xn F - xn K0)) Q (F0 m 23 ls []) := by
  have hx := C.1
  have hb := C.2.1
  unfold cb_X7_shown_23 at hm
  refine lv_aload_n hx hb dX7_shown_23 rfl (lv_at hl 0 rfl) ?_
  refine cg_X7_13 C hw dX7_shown_24 ?_
  refine lv_iload_n hx hb dX7_shown_27 rfl (lv_at hl 1 rfl) ?_
  obtain ⟨hi, hm⟩ := ix_elim hm
  refine cal_71 C hw hi dX7_shown_28 ?_
  exact cw_X7_shown_29 fu C hret (G 71 x1.toNatClampNeg) F G hm hw (lv_sub hl [] rfl)
theorem cn_X7_shown_11 (fu : Nat) {res : Int32 × PF × PG} (x1 : Int32) (F : PF) (G : PG) (hm : cb_X7_shown_11 fu x1 F G = some res) : xn F ≤ xn res.2.1 := by
  unfold cb_X7_shown_11 at hm
  by_cases c_1 : x1 < (F 72)
  · have hm := (if_pos c_1).symm.trans hm
    exact (cn_X7_shown_23 fu x1 F G hm)
  · have hm := (if_neg c_1).symm.trans hm
    exact (cn_X7_shown_19 fu F G hm)
theorem cw_X7_shown_11 (fu : Nat) {res : Int32 × PF × PG} (C : cMC p R s m args c A v RX7 cX7_shown 2 0 0 (xn res.2.1 - xn K0)) (hret : ∀ (b1 : Nat) (H1 : Heap) (locs1 : List Loc) (ls1 : Array Slot) (pc : Nat), cMW s A v a b1 K0 res.2.1 res.2.2 H1 locs1 → narrow .int (.int res.1) = .int res.1 → decode cX7_shown pc = .ok (.ireturn, 1) → W p l e R s m args below meth c H1 locs1 (xn res.2.1 - xn K0) (2 * (xn res.2.1 - xn K0)) Q (F0 m pc ls1 [.int res.1])) (x1 : Int32) (F : PF) (G : PG) (hm : cb_X7_shown_11 fu x1 F G = some res) {b : Nat} {H : Heap} {locs : List Loc} (hw : cMW s A v a b K0 F G H locs) {ls : Array Slot} (hl : lv_has ls 2 [(0, .ref (a 207)), (1, .int x1)]) : W p l e R s m args below meth c H locs (xn F - xn K0) (2 * (xn F - xn K0)) Q (F0 m 11 ls []) := by
  have hx := C.1
  have hb := C.2.1
  unfold cb_X7_shown_11 at hm
  refine lv_iload_n hx hb dX7_shown_11 rfl (lv_at hl 1 rfl) ?_
  refine lv_aload_n hx hb dX7_shown_12 rfl (lv_at hl 0 rfl) ?_
  refine cg_X7_23 C hw dX7_shown_13 ?_
  refine lv_icmp_lt (tgt := 23) hx hb dX7_shown_16 (by decide) (fun c_1 => ?_) (fun c_1 => ?_)
  · have hm := (if_pos c_1).symm.trans hm
    exact cw_X7_shown_23 fu C hret x1 F G hm hw (lv_sub hl [0, 1] rfl)
  · have hm := (if_neg c_1).symm.trans hm
    exact cw_X7_shown_19 fu C hret F G hm hw (lv_sub hl [] rfl)
theorem cn_X7_shown_4 (fu : Nat) {res : Int32 × PF × PG} (x1 : Int32) (F : PF) (G : PG) (hm : cb_X7_shown_4 fu x1 F G = some res) : xn F ≤ xn res.2.1 := by
  unfold cb_X7_shown_4 at hm
  by_cases c_1 : (2000 : Int32) ≤ x1
  · have hm := (if_pos c_1).symm.trans hm
    exact (cn_X7_shown_19 fu F G hm)
  · have hm := (if_neg c_1).symm.trans hm
    exact (cn_X7_shown_11 fu x1 F G hm)
theorem cw_X7_shown_4 (fu : Nat) {res : Int32 × PF × PG} (C : cMC p R s m args c A v RX7 cX7_shown 2 0 0 (xn res.2.1 - xn K0)) (hret : ∀ (b1 : Nat) (H1 : Heap) (locs1 : List Loc) (ls1 : Array Slot) (pc : Nat), cMW s A v a b1 K0 res.2.1 res.2.2 H1 locs1 → narrow .int (.int res.1) = .int res.1 → decode cX7_shown pc = .ok (.ireturn, 1) → W p l e R s m args below meth c H1 locs1 (xn res.2.1 - xn K0) (2 * (xn res.2.1 - xn K0)) Q (F0 m pc ls1 [.int res.1])) (x1 : Int32) (F : PF) (G : PG) (hm : cb_X7_shown_4 fu x1 F G = some res) {b : Nat} {H : Heap} {locs : List Loc} (hw : cMW s A v a b K0 F G H locs) {ls : Array Slot} (hl : lv_has ls 2 [(0, .ref (a 207)), (1, .int x1)]) : W p l e R s m args below meth c H locs (xn F - xn K0) (2 * (xn F - xn K0)) Q (F0 m 4 ls []) := by
  have hx := C.1
  have hb := C.2.1
  unfold cb_X7_shown_4 at hm
  refine lv_iload_n hx hb dX7_shown_4 rfl (lv_at hl 1 rfl) ?_
  refine lv_sipush (v := 2000) hx hb dX7_shown_5 (by decide) ?_
  refine lv_icmp_ge (tgt := 19) hx hb dX7_shown_8 (by decide) (fun c_1 => ?_) (fun c_1 => ?_)
  · have hm := (if_pos c_1).symm.trans hm
    exact cw_X7_shown_19 fu C hret F G hm hw (lv_sub hl [] rfl)
  · have hm := (if_neg c_1).symm.trans hm
    exact cw_X7_shown_11 fu C hret x1 F G hm hw (lv_sub hl [0, 1] rfl)
theorem cn_X7_shown_0 (fu : Nat) {res : Int32 × PF × PG} (x1 : Int32) (F : PF) (G : PG) (hm : cb_X7_shown_0 fu x1 F G = some res) : xn F ≤ xn res.2.1 := by
  unfold cb_X7_shown_0 at hm
  by_cases c_1 : x1 < (0 : Int32)
  · have hm := (if_pos c_1).symm.trans hm
    exact (cn_X7_shown_19 fu F G hm)
  · have hm := (if_neg c_1).symm.trans hm
    exact (cn_X7_shown_4 fu x1 F G hm)
theorem cw_X7_shown_0 (fu : Nat) {res : Int32 × PF × PG} (C : cMC p R s m args c A v RX7 cX7_shown 2 0 0 (xn res.2.1 - xn K0)) (hret : ∀ (b1 : Nat) (H1 : Heap) (locs1 : List Loc) (ls1 : Array Slot) (pc : Nat), cMW s A v a b1 K0 res.2.1 res.2.2 H1 locs1 → narrow .int (.int res.1) = .int res.1 → decode cX7_shown pc = .ok (.ireturn, 1) → W p l e R s m args below meth c H1 locs1 (xn res.2.1 - xn K0) (2 * (xn res.2.1 - xn K0)) Q (F0 m pc ls1 [.int res.1])) (x1 : Int32) (F : PF) (G : PG) (hm : cb_X7_shown_0 fu x1 F G = some res) {b : Nat} {H : Heap} {locs : List Loc} (hw : cMW s A v a b K0 F G H locs) {ls : Array Slot} (hl : lv_has ls 2 [(0, .ref (a 207)), (1, .int x1)]) : W p l e R s m args below meth c H locs (xn F - xn K0) (2 * (xn F - xn K0)) Q (F0 m 0 ls []) := by
  have hx := C.1
  have hb := C.2.1
  unfold cb_X7_shown_0 at hm
  refine lv_iload_n hx hb dX7_shown_0 rfl (lv_at hl 1 rfl) ?_
  refine lv_if_lt (tgt := 19) hx hb dX7_shown_1 (by decide) (fun c_1 => ?_) (fun c_1 => ?_)
  · have hm := (if_pos c_1).symm.trans hm
    exact cw_X7_shown_19 fu C hret F G hm hw (lv_sub hl [] rfl)
  · have hm := (if_neg c_1).symm.trans hm
    exact cw_X7_shown_4 fu C hret x1 F G hm hw (lv_sub hl [0, 1] rfl)
theorem cn_X7_shown (fu : Nat) (x1 : Int32) (F : PF) (G : PG) (q : Int32 × PF × PG) (hm : cf_X7_shown fu x1 F G = some q) : xn F ≤ xn q.2.1 := cn_X7_shown_0 fu x1 F G hm
theorem ck_X7_shown (l : Launch) (v : EV) (a : Nat → Nat) (b sz : Nat) (fu : Nat) (x1 : Int32) (F : PF) (G : PG) (r : Int32) (F1 : PF) (G1 : PG) (hm : cf_X7_shown fu x1 F G = some (r, F1, G1)) : cMI l yX7_shown cX7_shown 2 (some .int) 0 0 v a b sz [.ref (a 207), .int x1] F G r F1 G1 := cMI.of (ty := .int) (by decide) rfl (Nat.le_of_ble_eq_true rfl) (fun p e R s m args below meth c Q A H locs ls C hw hl hret => cw_X7_shown_0 fu (res := (r, F1, G1)) C hret x1 F G hm hw hl)
def cb_X9_take_46 (fu : Nat) (F : PF) (G : PG) : PR := some (0, F, G)
def cb_X9_take_40 (fu : Nat) (ag_3 : Int32 → Int32 → PF → PG → PR) (x1 : Int32) (x2 : Int32) (F : PF) (G : PG) : PR := ag_3 x1 (x2 + (-8)) F G
def cb_X9_take_30 (fu : Nat) (ag_3 : Int32 → Int32 → PF → PG → PR) (x1 : Int32) (x2 : Int32) (F : PF) (G : PG) : PR := cb_X9_take_40 fu ag_3 x1 x2 (fup F 88 ((F 88) + (1 : Int32))) G
def cb_X9_take_17 (fu : Nat) (ag_3 : Int32 → Int32 → PF → PG → PR) (x1 : Int32) (x2 : Int32) (F : PF) (G : PG) : PR := if ixb (F 88) 4000 = true then (cb_X9_take_30 fu ag_3 x1 x2 F (gup G 87 (F 88).toNatClampNeg (vp_nar .byte (((x1.toUInt32 >>> (x2.toUInt32 &&& Int32.toUInt32 31)).toInt32).toInt8.toInt32)))) else none
def cb_X9_take_7 (fu : Nat) (ag_3 : Int32 → Int32 → PF → PG → PR) (x1 : Int32) (x2 : Int32) (F : PF) (G : PG) : PR := if (4000 : Int32) ≤ (F 88) then cb_X9_take_46 fu F G else cb_X9_take_17 fu ag_3 x1 x2 F G
def cb_X9_take_3 (fu : Nat) (ag_3 : Int32 → Int32 → PF → PG → PR) (x1 : Int32) (x2 : Int32) (F : PF) (G : PG) : PR := if x2 < (0 : Int32) then cb_X9_take_46 fu F G else cb_X9_take_7 fu ag_3 x1 x2 F G
def cl_X9_take_3 (fu : Nat) : Nat → Int32 → Int32 → PF → PG → PR
  | 0 => fun _ _ _ _ => none
  | n + 1 => fun x1 x2 F G => cb_X9_take_3 fu (cl_X9_take_3 fu n) x1 x2 F G
def cb_X9_take_0 (fu : Nat) (x1 : Int32) (F : PF) (G : PG) : PR := cl_X9_take_3 fu fu x1 24 F G
def cf_X9_take (fu : Nat) (x1 : Int32) (F : PF) (G : PG) : PR := cb_X9_take_0 fu x1 F G
theorem cn_X9_take_46 (fu : Nat) {res : Int32 × PF × PG} (F : PF) (G : PG) (hm : cb_X9_take_46 fu F G = some res) : xn F ≤ xn res.2.1 := by
  unfold cb_X9_take_46 at hm
  obtain rfl := Option.some.inj hm
  exact Nat.le_refl _
theorem cw_X9_take_46 (fu : Nat) {res : Int32 × PF × PG} (C : cMC p R s m args c A v RX9 cX9_take 3 0 0 (xn res.2.1 - xn K0)) (hret : ∀ (b1 : Nat) (H1 : Heap) (locs1 : List Loc) (ls1 : Array Slot) (pc : Nat), cMW s A v a b1 K0 res.2.1 res.2.2 H1 locs1 → decode cX9_take pc = .ok (.return_, 1) → W p l e R s m args below meth c H1 locs1 (xn res.2.1 - xn K0) (2 * (xn res.2.1 - xn K0)) Q (F0 m pc ls1 [])) (F : PF) (G : PG) (hm : cb_X9_take_46 fu F G = some res) {b : Nat} {H : Heap} {locs : List Loc} (hw : cMW s A v a b K0 F G H locs) {ls : Array Slot} (hl : lv_has ls 3 []) : W p l e R s m args below meth c H locs (xn F - xn K0) (2 * (xn F - xn K0)) Q (F0 m 46 ls []) := by
  have hx := C.1
  have hb := C.2.1
  unfold cb_X9_take_46 at hm
  obtain rfl := Option.some.inj hm
  exact hret _ _ _ _ _ hw dX9_take_46
theorem cn_X9_take_40 (fu : Nat) {res : Int32 × PF × PG} (ag_3 : Int32 → Int32 → PF → PG → PR) (hagn_3 : ∀ (x1 : Int32) (x2 : Int32) (F : PF) (G : PG), ag_3 x1 x2 F G = some res → xn F ≤ xn res.2.1) (x1 : Int32) (x2 : Int32) (F : PF) (G : PG) (hm : cb_X9_take_40 fu ag_3 x1 x2 F G = some res) : xn F ≤ xn res.2.1 := by
  unfold cb_X9_take_40 at hm
  exact (hagn_3 x1 (x2 + (-8)) F G hm)
theorem cw_X9_take_40 (fu : Nat) {res : Int32 × PF × PG} (C : cMC p R s m args c A v RX9 cX9_take 3 0 0 (xn res.2.1 - xn K0)) (hret : ∀ (b1 : Nat) (H1 : Heap) (locs1 : List Loc) (ls1 : Array Slot) (pc : Nat), cMW s A v a b1 K0 res.2.1 res.2.2 H1 locs1 → decode cX9_take pc = .ok (.return_, 1) → W p l e R s m args below meth c H1 locs1 (xn res.2.1 - xn K0) (2 * (xn res.2.1 - xn K0)) Q (F0 m pc ls1 [])) (ag_3 : Int32 → Int32 → PF → PG → PR) (hag_3 : ∀ (x1 : Int32) (x2 : Int32) (F : PF) (G : PG), ag_3 x1 x2 F G = some res → ∀ (b : Nat) (H : Heap) (locs : List Loc) (ls : Array Slot), cMW s A v a b K0 F G H locs → lv_has ls 3 [(0, .ref (a 209)), (1, .int x1), (2, .int x2)] → W p l e R s m args below meth c H locs (xn F - xn K0) (2 * (xn F - xn K0)) Q (F0 m 3 ls [])) (hagn_3 : ∀ (x1 : Int32) (x2 : Int32) (F : PF) (G : PG), ag_3 x1 x2 F G = some res → xn F ≤ xn res.2.1) (x1 : Int32) (x2 : Int32) (F : PF) (G : PG) (hm : cb_X9_take_40 fu ag_3 x1 x2 F G = some res) {b : Nat} {H : Heap} {locs : List Loc} (hw : cMW s A v a b K0 F G H locs) {ls : Array Slot} (hl : lv_has ls 3 [(0, .ref (a 209)), (1, .int x1), (2, .int x2)]) : W p l e R s m args below meth c H locs (xn F - xn K0) (2 * (xn F - xn K0)) Q (F0 m 40 ls []) := by
  have hx := C.1
  have hb := C.2.1
  unfold cb_X9_take_40 at hm
  refine lv_iinc (v := (x2 + (-8))) (lv' := [(2, .int (x2 + (-8))), (0, .ref (a 209)), (1, .int x1)]) hx hb dX9_take_40 hl (k := 2) rfl (by rfl) (by decide) rfl (fun ls hl => ?_)
  refine lv_goto (tgt := 3) hx hb dX9_take_43 (by decide) ?_
  exact hag_3 x1 (x2 + (-8)) F G hm _ _ _ _ hw (lv_sub hl [1, 2, 0] rfl)
theorem cn_X9_take_30 (fu : Nat) {res : Int32 × PF × PG} (ag_3 : Int32 → Int32 → PF → PG → PR) (hagn_3 : ∀ (x1 : Int32) (x2 : Int32) (F : PF) (G : PG), ag_3 x1 x2 F G = some res → xn F ≤ xn res.2.1) (x1 : Int32) (x2 : Int32) (F : PF) (G : PG) (hm : cb_X9_take_30 fu ag_3 x1 x2 F G = some res) : xn F ≤ xn res.2.1 := by
  unfold cb_X9_take_30 at hm
  exact Nat.le_trans (Nat.le_of_eq (xn_fup (by decide)).symm) (cn_X9_take_40 fu ag_3 hagn_3 x1 x2 (fup F 88 ((F 88) + (1 : Int32))) G hm)
theorem cw_X9_take_30 (fu : Nat) {res : Int32 × PF × PG} (C : cMC p R s m args c A v RX9 cX9_take 3 0 0 (xn res.2.1 - xn K0)) (hret : ∀ (b1 : Nat) (H1 : Heap) (locs1 : List Loc) (ls1 : Array Slot) (pc : Nat), cMW s A v a b1 K0 res.2.1 res.2.2 H1 locs1 → decode cX9_take pc = .ok (.return_, 1) → W p l e R s m args below meth c H1 locs1 (xn res.2.1 - xn K0) (2 * (xn res.2.1 - xn K0)) Q (F0 m pc ls1 [])) (ag_3 : Int32 → Int32 → PF → PG → PR) (hag_3 : ∀ (x1 : Int32) (x2 : Int32) (F : PF) (G : PG), ag_3 x1 x2 F G = some res → ∀ (b : Nat) (H : Heap) (locs : List Loc) (ls : Array Slot), cMW s A v a b K0 F G H locs → lv_has ls 3 [(0, .ref (a 209)), (1, .int x1), (2, .int x2)] → W p l e R s m args below meth c H locs (xn F - xn K0) (2 * (xn F - xn K0)) Q (F0 m 3 ls [])) (hagn_3 : ∀ (x1 : Int32) (x2 : Int32) (F : PF) (G : PG), ag_3 x1 x2 F G = some res → xn F ≤ xn res.2.1) (x1 : Int32) (x2 : Int32) (F : PF) (G : PG) (hm : cb_X9_take_30 fu ag_3 x1 x2 F G = some res) {b : Nat} {H : Heap} {locs : List Loc} (hw : cMW s A v a b K0 F G H locs) {ls : Array Slot} (hl : lv_has ls 3 [(0, .ref (a 209)), (1, .int x1), (2, .int x2)]) : W p l e R s m args below meth c H locs (xn F - xn K0) (2 * (xn F - xn K0)) Q (F0 m 30 ls []) := by
  have hx := C.1
  have hb := C.2.1
  unfold cb_X9_take_30 at hm
  refine lv_aload_n hx hb dX9_take_30 rfl (lv_at hl 0 rfl) ?_
  refine lv_dup hx hb dX9_take_31 rfl ?_
  refine cg_X9_15 C hw dX9_take_32 ?_
  refine lv_iconst (v := 1) hx hb dX9_take_35 (by decide) ?_
  refine lv_iadd hx hb dX9_take_36 ?_
  refine cp_X9_15 C hw dX9_take_37 (fun H locs hw => ?_)
  exact cw_X9_take_40 fu C hret ag_3 hag_3 hagn_3 x1 x2 (fup F 88 ((F 88) + (1 : Int32))) G hm hw (lv_sub hl [0, 1, 2] rfl)
theorem cn_X9_take_17 (fu : Nat) {res : Int32 × PF × PG} (ag_3 : Int32 → Int32 → PF → PG → PR) (hagn_3 : ∀ (x1 : Int32) (x2 : Int32) (F : PF) (G : PG), ag_3 x1 x2 F G = some res → xn F ≤ xn res.2.1) (x1 : Int32) (x2 : Int32) (F : PF) (G : PG) (hm : cb_X9_take_17 fu ag_3 x1 x2 F G = some res) : xn F ≤ xn res.2.1 := by
  unfold cb_X9_take_17 at hm
  have hm := (ix_elim hm).2
  exact (cn_X9_take_30 fu ag_3 hagn_3 x1 x2 F (gup G 87 (F 88).toNatClampNeg (vp_nar .byte (((x1.toUInt32 >>> (x2.toUInt32 &&& Int32.toUInt32 31)).toInt32).toInt8.toInt32))) hm)
theorem cw_X9_take_17 (fu : Nat) {res : Int32 × PF × PG} (C : cMC p R s m args c A v RX9 cX9_take 3 0 0 (xn res.2.1 - xn K0)) (hret : ∀ (b1 : Nat) (H1 : Heap) (locs1 : List Loc) (ls1 : Array Slot) (pc : Nat), cMW s A v a b1 K0 res.2.1 res.2.2 H1 locs1 → decode cX9_take pc = .ok (.return_, 1) → W p l e R s m args below meth c H1 locs1 (xn res.2.1 - xn K0) (2 * (xn res.2.1 - xn K0)) Q (F0 m pc ls1 [])) (ag_3 : Int32 → Int32 → PF → PG → PR) (hag_3 : ∀ (x1 : Int32) (x2 : Int32) (F : PF) (G : PG), ag_3 x1 x2 F G = some res → ∀ (b : Nat) (H : Heap) (locs : List Loc) (ls : Array Slot), cMW s A v a b K0 F G H locs → lv_has ls 3 [(0, .ref (a 209)), (1, .int x1), (2, .int x2)] → W p l e R s m args below meth c H locs (xn F - xn K0) (2 * (xn F - xn K0)) Q (F0 m 3 ls [])) (hagn_3 : ∀ (x1 : Int32) (x2 : Int32) (F : PF) (G : PG), ag_3 x1 x2 F G = some res → xn F ≤ xn res.2.1) (x1 : Int32) (x2 : Int32) (F : PF) (G : PG) (hm : cb_X9_take_17 fu ag_3 x1 x2 F G = some res) {b : Nat} {H : Heap} {locs : List Loc} (hw : cMW s A v a b K0 F G H locs) {ls : Array Slot} (hl : lv_has ls 3 [(0, .ref (a 209)), (1, .int x1), (2, .int x2)]) : W p l e R s m args below meth c H locs (xn F - xn K0) (2 * (xn F - xn K0)) Q (F0 m 17 ls []) := by
  have hx := C.1
  have hb := C.2.1
  unfold cb_X9_take_17 at hm
  refine lv_aload_n hx hb dX9_take_17 rfl (lv_at hl 0 rfl) ?_
  refine cg_X9_9 C hw dX9_take_18 ?_
  refine lv_aload_n hx hb dX9_take_21 rfl (lv_at hl 0 rfl) ?_
  refine cg_X9_15 C hw dX9_take_22 ?_
  refine lv_iload_n hx hb dX9_take_25 rfl (lv_at hl 1 rfl) ?_
  refine lv_iload_n hx hb dX9_take_26 rfl (lv_at hl 2 rfl) ?_
  refine lv_iushr hx hb dX9_take_27 rfl ?_
  refine lv_i2b hx hb dX9_take_28 rfl ?_
  obtain ⟨hi, hm⟩ := ix_elim hm
  refine cas_87 C hw hi dX9_take_29 (fun H locs hw => ?_)
  exact cw_X9_take_30 fu C hret ag_3 hag_3 hagn_3 x1 x2 F (gup G 87 (F 88).toNatClampNeg (vp_nar .byte (((x1.toUInt32 >>> (x2.toUInt32 &&& Int32.toUInt32 31)).toInt32).toInt8.toInt32))) hm hw (lv_sub hl [0, 1, 2] rfl)
theorem cn_X9_take_7 (fu : Nat) {res : Int32 × PF × PG} (ag_3 : Int32 → Int32 → PF → PG → PR) (hagn_3 : ∀ (x1 : Int32) (x2 : Int32) (F : PF) (G : PG), ag_3 x1 x2 F G = some res → xn F ≤ xn res.2.1) (x1 : Int32) (x2 : Int32) (F : PF) (G : PG) (hm : cb_X9_take_7 fu ag_3 x1 x2 F G = some res) : xn F ≤ xn res.2.1 := by
  unfold cb_X9_take_7 at hm
  by_cases c_1 : (4000 : Int32) ≤ (F 88)
  · have hm := (if_pos c_1).symm.trans hm
    exact (cn_X9_take_46 fu F G hm)
  · have hm := (if_neg c_1).symm.trans hm
    exact (cn_X9_take_17 fu ag_3 hagn_3 x1 x2 F G hm)
theorem cw_X9_take_7 (fu : Nat) {res : Int32 × PF × PG} (C : cMC p R s m args c A v RX9 cX9_take 3 0 0 (xn res.2.1 - xn K0)) (hret : ∀ (b1 : Nat) (H1 : Heap) (locs1 : List Loc) (ls1 : Array Slot) (pc : Nat), cMW s A v a b1 K0 res.2.1 res.2.2 H1 locs1 → decode cX9_take pc = .ok (.return_, 1) → W p l e R s m args below meth c H1 locs1 (xn res.2.1 - xn K0) (2 * (xn res.2.1 - xn K0)) Q (F0 m pc ls1 [])) (ag_3 : Int32 → Int32 → PF → PG → PR) (hag_3 : ∀ (x1 : Int32) (x2 : Int32) (F : PF) (G : PG), ag_3 x1 x2 F G = some res → ∀ (b : Nat) (H : Heap) (locs : List Loc) (ls : Array Slot), cMW s A v a b K0 F G H locs → lv_has ls 3 [(0, .ref (a 209)), (1, .int x1), (2, .int x2)] → W p l e R s m args below meth c H locs (xn F - xn K0) (2 * (xn F - xn K0)) Q (F0 m 3 ls [])) (hagn_3 : ∀ (x1 : Int32) (x2 : Int32) (F : PF) (G : PG), ag_3 x1 x2 F G = some res → xn F ≤ xn res.2.1) (x1 : Int32) (x2 : Int32) (F : PF) (G : PG) (hm : cb_X9_take_7 fu ag_3 x1 x2 F G = some res) {b : Nat} {H : Heap} {locs : List Loc} (hw : cMW s A v a b K0 F G H locs) {ls : Array Slot} (hl : lv_has ls 3 [(0, .ref (a 209)), (1, .int x1), (2, .int x2)]) : W p l e R s m args below meth c H locs (xn F - xn K0) (2 * (xn F - xn K0)) Q (F0 m 7 ls []) := by
  have hx := C.1
  have hb := C.2.1
  unfold cb_X9_take_7 at hm
  refine lv_aload_n hx hb dX9_take_7 rfl (lv_at hl 0 rfl) ?_
  refine cg_X9_15 C hw dX9_take_8 ?_
  refine lv_sipush (v := 4000) hx hb dX9_take_11 (by decide) ?_
  refine lv_icmp_ge (tgt := 46) hx hb dX9_take_14 (by decide) (fun c_1 => ?_) (fun c_1 => ?_)
  · have hm := (if_pos c_1).symm.trans hm
    exact cw_X9_take_46 fu C hret F G hm hw (lv_sub hl [] rfl)
  · have hm := (if_neg c_1).symm.trans hm
    exact cw_X9_take_17 fu C hret ag_3 hag_3 hagn_3 x1 x2 F G hm hw (lv_sub hl [0, 1, 2] rfl)
theorem cn_X9_take_3 (fu : Nat) {res : Int32 × PF × PG} (ag_3 : Int32 → Int32 → PF → PG → PR) (hagn_3 : ∀ (x1 : Int32) (x2 : Int32) (F : PF) (G : PG), ag_3 x1 x2 F G = some res → xn F ≤ xn res.2.1) (x1 : Int32) (x2 : Int32) (F : PF) (G : PG) (hm : cb_X9_take_3 fu ag_3 x1 x2 F G = some res) : xn F ≤ xn res.2.1 := by
  unfold cb_X9_take_3 at hm
  by_cases c_1 : x2 < (0 : Int32)
  · have hm := (if_pos c_1).symm.trans hm
    exact (cn_X9_take_46 fu F G hm)
  · have hm := (if_neg c_1).symm.trans hm
    exact (cn_X9_take_7 fu ag_3 hagn_3 x1 x2 F G hm)
theorem cw_X9_take_3 (fu : Nat) {res : Int32 × PF × PG} (C : cMC p R s m args c A v RX9 cX9_take 3 0 0 (xn res.2.1 - xn K0)) (hret : ∀ (b1 : Nat) (H1 : Heap) (locs1 : List Loc) (ls1 : Array Slot) (pc : Nat), cMW s A v a b1 K0 res.2.1 res.2.2 H1 locs1 → decode cX9_take pc = .ok (.return_, 1) → W p l e R s m args below meth c H1 locs1 (xn res.2.1 - xn K0) (2 * (xn res.2.1 - xn K0)) Q (F0 m pc ls1 [])) (ag_3 : Int32 → Int32 → PF → PG → PR) (hag_3 : ∀ (x1 : Int32) (x2 : Int32) (F : PF) (G : PG), ag_3 x1 x2 F G = some res → ∀ (b : Nat) (H : Heap) (locs : List Loc) (ls : Array Slot), cMW s A v a b K0 F G H locs → lv_has ls 3 [(0, .ref (a 209)), (1, .int x1), (2, .int x2)] → W p l e R s m args below meth c H locs (xn F - xn K0) (2 * (xn F - xn K0)) Q (F0 m 3 ls [])) (hagn_3 : ∀ (x1 : Int32) (x2 : Int32) (F : PF) (G : PG), ag_3 x1 x2 F G = some res → xn F ≤ xn res.2.1) (x1 : Int32) (x2 : Int32) (F : PF) (G : PG) (hm : cb_X9_take_3 fu ag_3 x1 x2 F G = some res) {b : Nat} {H : Heap} {locs : List Loc} (hw : cMW s A v a b K0 F G H locs) {ls : Array Slot} (hl : lv_has ls 3 [(0, .ref (a 209)), (1, .int x1), (2, .int x2)]) : W p l e R s m args below meth c H locs (xn F - xn K0) (2 * (xn F - xn K0)) Q (F0 m 3 ls []) := by
  have hx := C.1
  have hb := C.2.1
  unfold cb_X9_take_3 at hm
  refine lv_iload_n hx hb dX9_take_3 rfl (lv_at hl 2 rfl) ?_
  refine lv_if_lt (tgt := 46) hx hb dX9_take_4 (by decide) (fun c_1 => ?_) (fun c_1 => ?_)
  · have hm := (if_pos c_1).symm.trans hm
    exact cw_X9_take_46 fu C hret F G hm hw (lv_sub hl [] rfl)
  · have hm := (if_neg c_1).symm.trans hm
    exact cw_X9_take_7 fu C hret ag_3 hag_3 hagn_3 x1 x2 F G hm hw (lv_sub hl [0, 1, 2] rfl)
theorem cnl_X9_take_3 (fu : Nat) {res : Int32 × PF × PG} : ∀ (n : Nat) (x1 : Int32) (x2 : Int32) (F : PF) (G : PG) (hm : cl_X9_take_3 fu n x1 x2 F G = some res), xn F ≤ xn res.2.1 := by
  intro n
  induction n with
  | zero =>
    intro x1 x2 F G hm
    exact no_elim (show (none : PR) = some res from hm)
  | succ n ih =>
    intro x1 x2 F G hm
    exact cn_X9_take_3 fu (cl_X9_take_3 fu n) (fun x1 x2 F G hm => ih x1 x2 F G hm) x1 x2 F G hm
theorem cwl_X9_take_3 (fu : Nat) {res : Int32 × PF × PG} (C : cMC p R s m args c A v RX9 cX9_take 3 0 0 (xn res.2.1 - xn K0)) (hret : ∀ (b1 : Nat) (H1 : Heap) (locs1 : List Loc) (ls1 : Array Slot) (pc : Nat), cMW s A v a b1 K0 res.2.1 res.2.2 H1 locs1 → decode cX9_take pc = .ok (.return_, 1) → W p l e R s m args below meth c H1 locs1 (xn res.2.1 - xn K0) (2 * (xn res.2.1 - xn K0)) Q (F0 m pc ls1 [])) : ∀ (n : Nat) (x1 : Int32) (x2 : Int32) (F : PF) (G : PG) (hm : cl_X9_take_3 fu n x1 x2 F G = some res) {b : Nat} {H : Heap} {locs : List Loc} (hw : cMW s A v a b K0 F G H locs) {ls : Array Slot} (hl : lv_has ls 3 [(0, .ref (a 209)), (1, .int x1), (2, .int x2)]), W p l e R s m args below meth c H locs (xn F - xn K0) (2 * (xn F - xn K0)) Q (F0 m 3 ls []) := by
  intro n
  induction n with
  | zero =>
    intro x1 x2 F G hm
    exact no_elim (show (none : PR) = some res from hm)
  | succ n ih =>
    intro x1 x2 F G hm b H locs hw ls hl
    exact cw_X9_take_3 fu C hret (cl_X9_take_3 fu n) (fun x1 x2 F G hm b H locs ls hw hl => ih x1 x2 F G hm hw hl) (fun x1 x2 F G hm => cnl_X9_take_3 fu n x1 x2 F G hm) x1 x2 F G hm hw hl
theorem cn_X9_take_0 (fu : Nat) {res : Int32 × PF × PG} (x1 : Int32) (F : PF) (G : PG) (hm : cb_X9_take_0 fu x1 F G = some res) : xn F ≤ xn res.2.1 := by
  unfold cb_X9_take_0 at hm
  exact (cnl_X9_take_3 fu fu x1 24 F G hm)
theorem cw_X9_take_0 (fu : Nat) {res : Int32 × PF × PG} (C : cMC p R s m args c A v RX9 cX9_take 3 0 0 (xn res.2.1 - xn K0)) (hret : ∀ (b1 : Nat) (H1 : Heap) (locs1 : List Loc) (ls1 : Array Slot) (pc : Nat), cMW s A v a b1 K0 res.2.1 res.2.2 H1 locs1 → decode cX9_take pc = .ok (.return_, 1) → W p l e R s m args below meth c H1 locs1 (xn res.2.1 - xn K0) (2 * (xn res.2.1 - xn K0)) Q (F0 m pc ls1 [])) (x1 : Int32) (F : PF) (G : PG) (hm : cb_X9_take_0 fu x1 F G = some res) {b : Nat} {H : Heap} {locs : List Loc} (hw : cMW s A v a b K0 F G H locs) {ls : Array Slot} (hl : lv_has ls 3 [(0, .ref (a 209)), (1, .int x1)]) : W p l e R s m args below meth c H locs (xn F - xn K0) (2 * (xn F - xn K0)) Q (F0 m 0 ls []) := by
  have hx := C.1
  have hb := C.2.1
  unfold cb_X9_take_0 at hm
  refine lv_bipush (v := 24) hx hb dX9_take_0 (by decide) ?_
  refine lv_istore_n (lv' := [(2, .int 24), (0, .ref (a 209)), (1, .int x1)]) hx hb dX9_take_2 rfl hl (by decide) rfl (fun ls hl => ?_)
  exact cwl_X9_take_3 fu C hret fu x1 24 F G hm hw (lv_sub hl [1, 2, 0] rfl)
theorem cn_X9_take (fu : Nat) (x1 : Int32) (F : PF) (G : PG) (q : Int32 × PF × PG) (hm : cf_X9_take fu x1 F G = some q) : xn F ≤ xn q.2.1 := cn_X9_take_0 fu x1 F G hm
theorem ck_X9_take (l : Launch) (v : EV) (a : Nat → Nat) (b sz : Nat) (fu : Nat) (x1 : Int32) (F : PF) (G : PG) (r : Int32) (F1 : PF) (G1 : PG) (hm : cf_X9_take fu x1 F G = some (r, F1, G1)) : cMV l yX9_take cX9_take 3 0 0 v a b sz [.ref (a 209), .int x1] F G F1 G1 := cMV.of (by decide) (Nat.le_of_ble_eq_true rfl) (fun p e R s m args below meth c Q A H locs ls C hw hl hret => cw_X9_take_0 fu (res := (r, F1, G1)) C hret x1 F G hm hw hl)
def cb_X9_at_26 (fu : Nat) (z0 : Int32) (F : PF) (G : PG) : PR := some (z0, F, G)
def cb_X9_at_12 (fu : Nat) (F : PF) (G : PG) : PR := cb_X9_at_26 fu (-1) F G
def cb_X9_at_16 (fu : Nat) (x1 : Int32) (F : PF) (G : PG) : PR := if ixb x1 4000 = true then (cb_X9_at_26 fu ((G 87 x1.toNatClampNeg) &&& (255 : Int32)) F G) else none
def cb_X9_at_4 (fu : Nat) (x1 : Int32) (F : PF) (G : PG) : PR := if x1 < (F 88) then cb_X9_at_16 fu x1 F G else cb_X9_at_12 fu F G
def cb_X9_at_0 (fu : Nat) (x1 : Int32) (F : PF) (G : PG) : PR := if x1 < (0 : Int32) then cb_X9_at_12 fu F G else cb_X9_at_4 fu x1 F G
def cf_X9_at (fu : Nat) (x1 : Int32) (F : PF) (G : PG) : PR := cb_X9_at_0 fu x1 F G
theorem cn_X9_at_26 (fu : Nat) {res : Int32 × PF × PG} (z0 : Int32) (F : PF) (G : PG) (hm : cb_X9_at_26 fu z0 F G = some res) : xn F ≤ xn res.2.1 := by
  unfold cb_X9_at_26 at hm
  obtain rfl := Option.some.inj hm
  exact Nat.le_refl _
theorem cw_X9_at_26 (fu : Nat) {res : Int32 × PF × PG} (C : cMC p R s m args c A v RX9 cX9_at 2 0 0 (xn res.2.1 - xn K0)) (hret : ∀ (b1 : Nat) (H1 : Heap) (locs1 : List Loc) (ls1 : Array Slot) (pc : Nat), cMW s A v a b1 K0 res.2.1 res.2.2 H1 locs1 → narrow .int (.int res.1) = .int res.1 → decode cX9_at pc = .ok (.ireturn, 1) → W p l e R s m args below meth c H1 locs1 (xn res.2.1 - xn K0) (2 * (xn res.2.1 - xn K0)) Q (F0 m pc ls1 [.int res.1])) (z0 : Int32) (F : PF) (G : PG) (hm : cb_X9_at_26 fu z0 F G = some res) {b : Nat} {H : Heap} {locs : List Loc} (hw : cMW s A v a b K0 F G H locs) {ls : Array Slot} (hl : lv_has ls 2 []) : W p l e R s m args below meth c H locs (xn F - xn K0) (2 * (xn F - xn K0)) Q (F0 m 26 ls [.int z0]) := by
  have hx := C.1
  have hb := C.2.1
  unfold cb_X9_at_26 at hm
  obtain rfl := Option.some.inj hm
  exact hret _ _ _ _ _ hw rfl dX9_at_26
theorem cn_X9_at_12 (fu : Nat) {res : Int32 × PF × PG} (F : PF) (G : PG) (hm : cb_X9_at_12 fu F G = some res) : xn F ≤ xn res.2.1 := by
  unfold cb_X9_at_12 at hm
  exact (cn_X9_at_26 fu (-1) F G hm)
theorem cw_X9_at_12 (fu : Nat) {res : Int32 × PF × PG} (C : cMC p R s m args c A v RX9 cX9_at 2 0 0 (xn res.2.1 - xn K0)) (hret : ∀ (b1 : Nat) (H1 : Heap) (locs1 : List Loc) (ls1 : Array Slot) (pc : Nat), cMW s A v a b1 K0 res.2.1 res.2.2 H1 locs1 → narrow .int (.int res.1) = .int res.1 → decode cX9_at pc = .ok (.ireturn, 1) → W p l e R s m args below meth c H1 locs1 (xn res.2.1 - xn K0) (2 * (xn res.2.1 - xn K0)) Q (F0 m pc ls1 [.int res.1])) (F : PF) (G : PG) (hm : cb_X9_at_12 fu F G = some res) {b : Nat} {H : Heap} {locs : List Loc} (hw : cMW s A v a b K0 F G H locs) {ls : Array Slot} (hl : lv_has ls 2 []) : W p l e R s m args below meth c H locs (xn F - xn K0) (2 * (xn F - xn K0)) Q (F0 m 12 ls []) := by
  have hx := C.1
  have hb := C.2.1
  unfold cb_X9_at_12 at hm
  refine lv_iconst (v := (-1)) hx hb dX9_at_12 (by decide) ?_
  refine lv_goto (tgt := 26) hx hb dX9_at_13 (by decide) ?_
  exact cw_X9_at_26 fu C hret (-1) F G hm hw (lv_sub hl [] rfl)
theorem cn_X9_at_16 (fu : Nat) {res : Int32 × PF × PG} (x1 : Int32) (F : PF) (G : PG) (hm : cb_X9_at_16 fu x1 F G = some res) : xn F ≤ xn res.2.1 := by
  unfold cb_X9_at_16 at hm
  have hm := (ix_elim hm).2
  exact (cn_X9_at_26 fu ((G 87 x1.toNatClampNeg) &&& (255 : Int32)) F G hm)
theorem cw_X9_at_16 (fu : Nat) {res : Int32 × PF × PG} (C : cMC p R s m args c A v RX9 cX9_at 2 0 0 (xn res.2.1 - xn K0)) (hret : ∀ (b1 : Nat) (H1 : Heap) (locs1 : List Loc) (ls1 : Array Slot) (pc : Nat), cMW s A v a b1 K0 res.2.1 res.2.2 H1 locs1 → narrow .int (.int res.1) = .int res.1 → decode cX9_at pc = .ok (.ireturn, 1) → W p l e R s m args below meth c H1 locs1 (xn res.2.1 - xn K0) (2 * (xn res.2.1 - xn K0)) Q (F0 m pc ls1 [.int res.1])) (x1 : Int32) (F : PF) (G : PG) (hm : cb_X9_at_16 fu x1 F G = some res) {b : Nat} {H : Heap} {locs : List Loc} (hw : cMW s A v a b K0 F G H locs) {ls : Array Slot} (hl : lv_has ls 2 [(0, .ref (a 209)), (1, .int x1)]) : W p l e R s m args below meth c H locs (xn F - xn K0) (2 * (xn F - xn K0)) Q (F0 m 16 ls []) := by
  have hx := C.1
  have hb := C.2.1
  unfold cb_X9_at_16 at hm
  refine lv_aload_n hx hb dX9_at_16 rfl (lv_at hl 0 rfl) ?_
  refine cg_X9_9 C hw dX9_at_17 ?_
  refine lv_iload_n hx hb dX9_at_20 rfl (lv_at hl 1 rfl) ?_
  obtain ⟨hi, hm⟩ := ix_elim hm
  refine cal_87 C hw hi dX9_at_21 ?_
  refine lv_sipush (v := 255) hx hb dX9_at_22 (by decide) ?_
  refine lv_iand hx hb dX9_at_25 ?_
  exact cw_X9_at_26 fu C hret ((G 87 x1.toNatClampNeg) &&& (255 : Int32)) F G hm hw (lv_sub hl [] rfl)
theorem cn_X9_at_4 (fu : Nat) {res : Int32 × PF × PG} (x1 : Int32) (F : PF) (G : PG) (hm : cb_X9_at_4 fu x1 F G = some res) : xn F ≤ xn res.2.1 := by
  unfold cb_X9_at_4 at hm
  by_cases c_1 : x1 < (F 88)
  · have hm := (if_pos c_1).symm.trans hm
    exact (cn_X9_at_16 fu x1 F G hm)
  · have hm := (if_neg c_1).symm.trans hm
    exact (cn_X9_at_12 fu F G hm)
theorem cw_X9_at_4 (fu : Nat) {res : Int32 × PF × PG} (C : cMC p R s m args c A v RX9 cX9_at 2 0 0 (xn res.2.1 - xn K0)) (hret : ∀ (b1 : Nat) (H1 : Heap) (locs1 : List Loc) (ls1 : Array Slot) (pc : Nat), cMW s A v a b1 K0 res.2.1 res.2.2 H1 locs1 → narrow .int (.int res.1) = .int res.1 → decode cX9_at pc = .ok (.ireturn, 1) → W p l e R s m args below meth c H1 locs1 (xn res.2.1 - xn K0) (2 * (xn res.2.1 - xn K0)) Q (F0 m pc ls1 [.int res.1])) (x1 : Int32) (F : PF) (G : PG) (hm : cb_X9_at_4 fu x1 F G = some res) {b : Nat} {H : Heap} {locs : List Loc} (hw : cMW s A v a b K0 F G H locs) {ls : Array Slot} (hl : lv_has ls 2 [(0, .ref (a 209)), (1, .int x1)]) : W p l e R s m args below meth c H locs (xn F - xn K0) (2 * (xn F - xn K0)) Q (F0 m 4 ls []) := by
  have hx := C.1
  have hb := C.2.1
  unfold cb_X9_at_4 at hm
  refine lv_iload_n hx hb dX9_at_4 rfl (lv_at hl 1 rfl) ?_
  refine lv_aload_n hx hb dX9_at_5 rfl (lv_at hl 0 rfl) ?_
  refine cg_X9_15 C hw dX9_at_6 ?_
  refine lv_icmp_lt (tgt := 16) hx hb dX9_at_9 (by decide) (fun c_1 => ?_) (fun c_1 => ?_)
  · have hm := (if_pos c_1).symm.trans hm
    exact cw_X9_at_16 fu C hret x1 F G hm hw (lv_sub hl [0, 1] rfl)
  · have hm := (if_neg c_1).symm.trans hm
    exact cw_X9_at_12 fu C hret F G hm hw (lv_sub hl [] rfl)
theorem cn_X9_at_0 (fu : Nat) {res : Int32 × PF × PG} (x1 : Int32) (F : PF) (G : PG) (hm : cb_X9_at_0 fu x1 F G = some res) : xn F ≤ xn res.2.1 := by
  unfold cb_X9_at_0 at hm
  by_cases c_1 : x1 < (0 : Int32)
  · have hm := (if_pos c_1).symm.trans hm
    exact (cn_X9_at_12 fu F G hm)
  · have hm := (if_neg c_1).symm.trans hm
    exact (cn_X9_at_4 fu x1 F G hm)
theorem cw_X9_at_0 (fu : Nat) {res : Int32 × PF × PG} (C : cMC p R s m args c A v RX9 cX9_at 2 0 0 (xn res.2.1 - xn K0)) (hret : ∀ (b1 : Nat) (H1 : Heap) (locs1 : List Loc) (ls1 : Array Slot) (pc : Nat), cMW s A v a b1 K0 res.2.1 res.2.2 H1 locs1 → narrow .int (.int res.1) = .int res.1 → decode cX9_at pc = .ok (.ireturn, 1) → W p l e R s m args below meth c H1 locs1 (xn res.2.1 - xn K0) (2 * (xn res.2.1 - xn K0)) Q (F0 m pc ls1 [.int res.1])) (x1 : Int32) (F : PF) (G : PG) (hm : cb_X9_at_0 fu x1 F G = some res) {b : Nat} {H : Heap} {locs : List Loc} (hw : cMW s A v a b K0 F G H locs) {ls : Array Slot} (hl : lv_has ls 2 [(0, .ref (a 209)), (1, .int x1)]) : W p l e R s m args below meth c H locs (xn F - xn K0) (2 * (xn F - xn K0)) Q (F0 m 0 ls []) := by
  have hx := C.1
  have hb := C.2.1
  unfold cb_X9_at_0 at hm
  refine lv_iload_n hx hb dX9_at_0 rfl (lv_at hl 1 rfl) ?_
  refine lv_if_lt (tgt := 12) hx hb dX9_at_1 (by decide) (fun c_1 => ?_) (fun c_1 => ?_)
  · have hm := (if_pos c_1).symm.trans hm
    exact cw_X9_at_12 fu C hret F G hm hw (lv_sub hl [] rfl)
  · have hm := (if_neg c_1).symm.trans hm
    exact cw_X9_at_4 fu C hret x1 F G hm hw (lv_sub hl [0, 1] rfl)
theorem cn_X9_at (fu : Nat) (x1 : Int32) (F : PF) (G : PG) (q : Int32 × PF × PG) (hm : cf_X9_at fu x1 F G = some q) : xn F ≤ xn q.2.1 := cn_X9_at_0 fu x1 F G hm
theorem ck_X9_at (l : Launch) (v : EV) (a : Nat → Nat) (b sz : Nat) (fu : Nat) (x1 : Int32) (F : PF) (G : PG) (r : Int32) (F1 : PF) (G1 : PG) (hm : cf_X9_at fu x1 F G = some (r, F1, G1)) : cMI l yX9_at cX9_at 2 (some .int) 0 0 v a b sz [.ref (a 209), .int x1] F G r F1 G1 := cMI.of (ty := .int) (by decide) rfl (Nat.le_of_ble_eq_true rfl) (fun p e R s m args below meth c Q A H locs ls C hw hl hret => cw_X9_at_0 fu (res := (r, F1, G1)) C hret x1 F G hm hw hl)
def cb_X10_behindLine_32 (fu : Nat) (x2 : Int32) (F : PF) (G : PG) : PR := some (x2, F, G)
def cb_X10_behindLine_26 (fu : Nat) (ag_2 : Int32 → PF → PG → PR) (x2 : Int32) (F : PF) (G : PG) : PR := ag_2 (x2 + 1) F G
def cb_X10_behindLine_21 (fu : Nat) (ag_2 : Int32 → PF → PG → PR) (x2 : Int32) (z0 : Int32) (F : PF) (G : PG) : PR := if z0 = (10 : Int32) then cb_X10_behindLine_32 fu x2 F G else cb_X10_behindLine_26 fu ag_2 x2 F G
def cb_X10_behindLine_13 (fu : Nat) (ag_2 : Int32 → PF → PG → PR) (x2 : Int32) (F : PF) (G : PG) : PR := (cf_X9_at fu x2 F G).bind (fun q => cb_X10_behindLine_21 fu ag_2 x2 q.1 q.2.1 q.2.2)
def cb_X10_behindLine_2 (fu : Nat) (ag_2 : Int32 → PF → PG → PR) (x2 : Int32) (F : PF) (G : PG) : PR := if (F 88) ≤ x2 then cb_X10_behindLine_32 fu x2 F G else cb_X10_behindLine_13 fu ag_2 x2 F G
def cl_X10_behindLine_2 (fu : Nat) : Nat → Int32 → PF → PG → PR
  | 0 => fun _ _ _ => none
  | n + 1 => fun x2 F G => cb_X10_behindLine_2 fu (cl_X10_behindLine_2 fu n) x2 F G
def cb_X10_behindLine_0 (fu : Nat) (x1 : Int32) (F : PF) (G : PG) : PR := cl_X10_behindLine_2 fu fu x1 F G
def cf_X10_behindLine (fu : Nat) (x1 : Int32) (F : PF) (G : PG) : PR := cb_X10_behindLine_0 fu x1 F G
theorem cn_X10_behindLine_32 (fu : Nat) {res : Int32 × PF × PG} (x2 : Int32) (F : PF) (G : PG) (hm : cb_X10_behindLine_32 fu x2 F G = some res) : xn F ≤ xn res.2.1 := by
  unfold cb_X10_behindLine_32 at hm
  obtain rfl := Option.some.inj hm
  exact Nat.le_refl _
theorem cw_X10_behindLine_32 (fu : Nat) {res : Int32 × PF × PG} (C : cMC p R s m args c A v RX10 cX10_behindLine 3 1 21 (xn res.2.1 - xn K0)) (hret : ∀ (b1 : Nat) (H1 : Heap) (locs1 : List Loc) (ls1 : Array Slot) (pc : Nat), cMW s A v a b1 K0 res.2.1 res.2.2 H1 locs1 → narrow .int (.int res.1) = .int res.1 → decode cX10_behindLine pc = .ok (.ireturn, 1) → W p l e R s m args below meth c H1 locs1 (xn res.2.1 - xn K0) (2 * (xn res.2.1 - xn K0)) Q (F0 m pc ls1 [.int res.1])) (x2 : Int32) (F : PF) (G : PG) (hm : cb_X10_behindLine_32 fu x2 F G = some res) {b : Nat} {H : Heap} {locs : List Loc} (hw : cMW s A v a b K0 F G H locs) {ls : Array Slot} (hl : lv_has ls 3 [(2, .int x2)]) : W p l e R s m args below meth c H locs (xn F - xn K0) (2 * (xn F - xn K0)) Q (F0 m 32 ls []) := by
  have hx := C.1
  have hb := C.2.1
  unfold cb_X10_behindLine_32 at hm
  refine lv_iload_n hx hb dX10_behindLine_32 rfl (lv_at hl 0 rfl) ?_
  obtain rfl := Option.some.inj hm
  exact hret _ _ _ _ _ hw rfl dX10_behindLine_33
theorem cn_X10_behindLine_26 (fu : Nat) {res : Int32 × PF × PG} (ag_2 : Int32 → PF → PG → PR) (hagn_2 : ∀ (x2 : Int32) (F : PF) (G : PG), ag_2 x2 F G = some res → xn F ≤ xn res.2.1) (x2 : Int32) (F : PF) (G : PG) (hm : cb_X10_behindLine_26 fu ag_2 x2 F G = some res) : xn F ≤ xn res.2.1 := by
  unfold cb_X10_behindLine_26 at hm
  exact (hagn_2 (x2 + 1) F G hm)
theorem cw_X10_behindLine_26 (fu : Nat) {res : Int32 × PF × PG} (C : cMC p R s m args c A v RX10 cX10_behindLine 3 1 21 (xn res.2.1 - xn K0)) (hret : ∀ (b1 : Nat) (H1 : Heap) (locs1 : List Loc) (ls1 : Array Slot) (pc : Nat), cMW s A v a b1 K0 res.2.1 res.2.2 H1 locs1 → narrow .int (.int res.1) = .int res.1 → decode cX10_behindLine pc = .ok (.ireturn, 1) → W p l e R s m args below meth c H1 locs1 (xn res.2.1 - xn K0) (2 * (xn res.2.1 - xn K0)) Q (F0 m pc ls1 [.int res.1])) (ag_2 : Int32 → PF → PG → PR) (hag_2 : ∀ (x2 : Int32) (F : PF) (G : PG), ag_2 x2 F G = some res → ∀ (b : Nat) (H : Heap) (locs : List Loc) (ls : Array Slot), cMW s A v a b K0 F G H locs → lv_has ls 3 [(0, .ref (a 210)), (2, .int x2)] → W p l e R s m args below meth c H locs (xn F - xn K0) (2 * (xn F - xn K0)) Q (F0 m 2 ls [])) (hagn_2 : ∀ (x2 : Int32) (F : PF) (G : PG), ag_2 x2 F G = some res → xn F ≤ xn res.2.1) (x2 : Int32) (F : PF) (G : PG) (hm : cb_X10_behindLine_26 fu ag_2 x2 F G = some res) {b : Nat} {H : Heap} {locs : List Loc} (hw : cMW s A v a b K0 F G H locs) {ls : Array Slot} (hl : lv_has ls 3 [(0, .ref (a 210)), (2, .int x2)]) : W p l e R s m args below meth c H locs (xn F - xn K0) (2 * (xn F - xn K0)) Q (F0 m 26 ls []) := by
  have hx := C.1
  have hb := C.2.1
  unfold cb_X10_behindLine_26 at hm
  refine lv_iinc (v := (x2 + 1)) (lv' := [(2, .int (x2 + 1)), (0, .ref (a 210))]) hx hb dX10_behindLine_26 hl (k := 1) rfl (by rfl) (by decide) rfl (fun ls hl => ?_)
  refine lv_goto (tgt := 2) hx hb dX10_behindLine_29 (by decide) ?_
  exact hag_2 (x2 + 1) F G hm _ _ _ _ hw (lv_sub hl [1, 0] rfl)
theorem cn_X10_behindLine_21 (fu : Nat) {res : Int32 × PF × PG} (ag_2 : Int32 → PF → PG → PR) (hagn_2 : ∀ (x2 : Int32) (F : PF) (G : PG), ag_2 x2 F G = some res → xn F ≤ xn res.2.1) (x2 : Int32) (z0 : Int32) (F : PF) (G : PG) (hm : cb_X10_behindLine_21 fu ag_2 x2 z0 F G = some res) : xn F ≤ xn res.2.1 := by
  unfold cb_X10_behindLine_21 at hm
  by_cases c_1 : z0 = (10 : Int32)
  · have hm := (if_pos c_1).symm.trans hm
    exact (cn_X10_behindLine_32 fu x2 F G hm)
  · have hm := (if_neg c_1).symm.trans hm
    exact (cn_X10_behindLine_26 fu ag_2 hagn_2 x2 F G hm)
theorem cw_X10_behindLine_21 (fu : Nat) {res : Int32 × PF × PG} (C : cMC p R s m args c A v RX10 cX10_behindLine 3 1 21 (xn res.2.1 - xn K0)) (hret : ∀ (b1 : Nat) (H1 : Heap) (locs1 : List Loc) (ls1 : Array Slot) (pc : Nat), cMW s A v a b1 K0 res.2.1 res.2.2 H1 locs1 → narrow .int (.int res.1) = .int res.1 → decode cX10_behindLine pc = .ok (.ireturn, 1) → W p l e R s m args below meth c H1 locs1 (xn res.2.1 - xn K0) (2 * (xn res.2.1 - xn K0)) Q (F0 m pc ls1 [.int res.1])) (ag_2 : Int32 → PF → PG → PR) (hag_2 : ∀ (x2 : Int32) (F : PF) (G : PG), ag_2 x2 F G = some res → ∀ (b : Nat) (H : Heap) (locs : List Loc) (ls : Array Slot), cMW s A v a b K0 F G H locs → lv_has ls 3 [(0, .ref (a 210)), (2, .int x2)] → W p l e R s m args below meth c H locs (xn F - xn K0) (2 * (xn F - xn K0)) Q (F0 m 2 ls [])) (hagn_2 : ∀ (x2 : Int32) (F : PF) (G : PG), ag_2 x2 F G = some res → xn F ≤ xn res.2.1) (x2 : Int32) (z0 : Int32) (F : PF) (G : PG) (hm : cb_X10_behindLine_21 fu ag_2 x2 z0 F G = some res) {b : Nat} {H : Heap} {locs : List Loc} (hw : cMW s A v a b K0 F G H locs) {ls : Array Slot} (hl : lv_has ls 3 [(0, .ref (a 210)), (2, .int x2)]) : W p l e R s m args below meth c H locs (xn F - xn K0) (2 * (xn F - xn K0)) Q (F0 m 21 ls [.int z0]) := by
  have hx := C.1
  have hb := C.2.1
  unfold cb_X10_behindLine_21 at hm
  refine lv_bipush (v := 10) hx hb dX10_behindLine_21 (by decide) ?_
  refine lv_icmp_eq (tgt := 32) hx hb dX10_behindLine_23 (by decide) (fun c_1 => ?_) (fun c_1 => ?_)
  · have hm := (if_pos c_1).symm.trans hm
    exact cw_X10_behindLine_32 fu C hret x2 F G hm hw (lv_sub hl [1] rfl)
  · have hm := (if_neg c_1).symm.trans hm
    exact cw_X10_behindLine_26 fu C hret ag_2 hag_2 hagn_2 x2 F G hm hw (lv_sub hl [0, 1] rfl)
theorem cn_X10_behindLine_13 (fu : Nat) {res : Int32 × PF × PG} (ag_2 : Int32 → PF → PG → PR) (hagn_2 : ∀ (x2 : Int32) (F : PF) (G : PG), ag_2 x2 F G = some res → xn F ≤ xn res.2.1) (x2 : Int32) (F : PF) (G : PG) (hm : cb_X10_behindLine_13 fu ag_2 x2 F G = some res) : xn F ≤ xn res.2.1 := by
  unfold cb_X10_behindLine_13 at hm
  obtain ⟨⟨r1, F1, G1⟩, hc, hm⟩ := bind_elim hm
  exact Nat.le_trans (cn_X9_at fu x2 F G _ hc) (cn_X10_behindLine_21 fu ag_2 hagn_2 x2 r1 F1 G1 hm)
theorem cw_X10_behindLine_13 (fu : Nat) {res : Int32 × PF × PG} (C : cMC p R s m args c A v RX10 cX10_behindLine 3 1 21 (xn res.2.1 - xn K0)) (hret : ∀ (b1 : Nat) (H1 : Heap) (locs1 : List Loc) (ls1 : Array Slot) (pc : Nat), cMW s A v a b1 K0 res.2.1 res.2.2 H1 locs1 → narrow .int (.int res.1) = .int res.1 → decode cX10_behindLine pc = .ok (.ireturn, 1) → W p l e R s m args below meth c H1 locs1 (xn res.2.1 - xn K0) (2 * (xn res.2.1 - xn K0)) Q (F0 m pc ls1 [.int res.1])) (ag_2 : Int32 → PF → PG → PR) (hag_2 : ∀ (x2 : Int32) (F : PF) (G : PG), ag_2 x2 F G = some res → ∀ (b : Nat) (H : Heap) (locs : List Loc) (ls : Array Slot), cMW s A v a b K0 F G H locs → lv_has ls 3 [(0, .ref (a 210)), (2, .int x2)] → W p l e R s m args below meth c H locs (xn F - xn K0) (2 * (xn F - xn K0)) Q (F0 m 2 ls [])) (hagn_2 : ∀ (x2 : Int32) (F : PF) (G : PG), ag_2 x2 F G = some res → xn F ≤ xn res.2.1) (x2 : Int32) (F : PF) (G : PG) (hm : cb_X10_behindLine_13 fu ag_2 x2 F G = some res) {b : Nat} {H : Heap} {locs : List Loc} (hw : cMW s A v a b K0 F G H locs) {ls : Array Slot} (hl : lv_has ls 3 [(0, .ref (a 210)), (2, .int x2)]) : W p l e R s m args below meth c H locs (xn F - xn K0) (2 * (xn F - xn K0)) Q (F0 m 13 ls []) := by
  have hx := C.1
  have hb := C.2.1
  unfold cb_X10_behindLine_13 at hm
  refine lv_aload_n hx hb dX10_behindLine_13 rfl (lv_at hl 0 rfl) ?_
  refine cg_X10_33 C hw dX10_behindLine_14 ?_
  refine lv_iload_n hx hb dX10_behindLine_17 rfl (lv_at hl 1 rfl) ?_
  obtain ⟨⟨r1, F1, G1⟩, hc, hm⟩ := bind_elim hm
  refine ccallI (n := 1) (As := [.int x2]) (rest := []) C hw (ck_X9_at l v a _ _ fu x2 F G r1 F1 G1 hc) (cn_X9_at fu x2 F G _ hc) (Nat.sub_le_sub_right (cn_X10_behindLine_21 fu ag_2 hagn_2 x2 r1 F1 G1 hm) _) (crecv_X9 C hw) cm_61 cm_62 cm_63 cm_6 cm_64 (by decide +kernel) rfl (by omega) (by omega) hl.1 rfl (Nat.le_of_ble_eq_true rfl) dX10_behindLine_18 (fun b H locs hw => ?_)
  exact cw_X10_behindLine_21 fu C hret ag_2 hag_2 hagn_2 x2 r1 F1 G1 hm hw (lv_sub hl [0, 1] rfl)
theorem cn_X10_behindLine_2 (fu : Nat) {res : Int32 × PF × PG} (ag_2 : Int32 → PF → PG → PR) (hagn_2 : ∀ (x2 : Int32) (F : PF) (G : PG), ag_2 x2 F G = some res → xn F ≤ xn res.2.1) (x2 : Int32) (F : PF) (G : PG) (hm : cb_X10_behindLine_2 fu ag_2 x2 F G = some res) : xn F ≤ xn res.2.1 := by
  unfold cb_X10_behindLine_2 at hm
  by_cases c_1 : (F 88) ≤ x2
  · have hm := (if_pos c_1).symm.trans hm
    exact (cn_X10_behindLine_32 fu x2 F G hm)
  · have hm := (if_neg c_1).symm.trans hm
    exact (cn_X10_behindLine_13 fu ag_2 hagn_2 x2 F G hm)
theorem cw_X10_behindLine_2 (fu : Nat) {res : Int32 × PF × PG} (C : cMC p R s m args c A v RX10 cX10_behindLine 3 1 21 (xn res.2.1 - xn K0)) (hret : ∀ (b1 : Nat) (H1 : Heap) (locs1 : List Loc) (ls1 : Array Slot) (pc : Nat), cMW s A v a b1 K0 res.2.1 res.2.2 H1 locs1 → narrow .int (.int res.1) = .int res.1 → decode cX10_behindLine pc = .ok (.ireturn, 1) → W p l e R s m args below meth c H1 locs1 (xn res.2.1 - xn K0) (2 * (xn res.2.1 - xn K0)) Q (F0 m pc ls1 [.int res.1])) (ag_2 : Int32 → PF → PG → PR) (hag_2 : ∀ (x2 : Int32) (F : PF) (G : PG), ag_2 x2 F G = some res → ∀ (b : Nat) (H : Heap) (locs : List Loc) (ls : Array Slot), cMW s A v a b K0 F G H locs → lv_has ls 3 [(0, .ref (a 210)), (2, .int x2)] → W p l e R s m args below meth c H locs (xn F - xn K0) (2 * (xn F - xn K0)) Q (F0 m 2 ls [])) (hagn_2 : ∀ (x2 : Int32) (F : PF) (G : PG), ag_2 x2 F G = some res → xn F ≤ xn res.2.1) (x2 : Int32) (F : PF) (G : PG) (hm : cb_X10_behindLine_2 fu ag_2 x2 F G = some res) {b : Nat} {H : Heap} {locs : List Loc} (hw : cMW s A v a b K0 F G H locs) {ls : Array Slot} (hl : lv_has ls 3 [(0, .ref (a 210)), (2, .int x2)]) : W p l e R s m args below meth c H locs (xn F - xn K0) (2 * (xn F - xn K0)) Q (F0 m 2 ls []) := by
  have hx := C.1
  have hb := C.2.1
  unfold cb_X10_behindLine_2 at hm
  refine lv_iload_n hx hb dX10_behindLine_2 rfl (lv_at hl 1 rfl) ?_
  refine lv_aload_n hx hb dX10_behindLine_3 rfl (lv_at hl 0 rfl) ?_
  refine cg_X10_33 C hw dX10_behindLine_4 ?_
  refine cg_X10_50 C hw dX10_behindLine_7 ?_
  refine lv_icmp_ge (tgt := 32) hx hb dX10_behindLine_10 (by decide) (fun c_1 => ?_) (fun c_1 => ?_)
  · have hm := (if_pos c_1).symm.trans hm
    exact cw_X10_behindLine_32 fu C hret x2 F G hm hw (lv_sub hl [1] rfl)
  · have hm := (if_neg c_1).symm.trans hm
    exact cw_X10_behindLine_13 fu C hret ag_2 hag_2 hagn_2 x2 F G hm hw (lv_sub hl [0, 1] rfl)
theorem cnl_X10_behindLine_2 (fu : Nat) {res : Int32 × PF × PG} : ∀ (n : Nat) (x2 : Int32) (F : PF) (G : PG) (hm : cl_X10_behindLine_2 fu n x2 F G = some res), xn F ≤ xn res.2.1 := by
  intro n
  induction n with
  | zero =>
    intro x2 F G hm
    exact no_elim (show (none : PR) = some res from hm)
  | succ n ih =>
    intro x2 F G hm
    exact cn_X10_behindLine_2 fu (cl_X10_behindLine_2 fu n) (fun x2 F G hm => ih x2 F G hm) x2 F G hm
theorem cwl_X10_behindLine_2 (fu : Nat) {res : Int32 × PF × PG} (C : cMC p R s m args c A v RX10 cX10_behindLine 3 1 21 (xn res.2.1 - xn K0)) (hret : ∀ (b1 : Nat) (H1 : Heap) (locs1 : List Loc) (ls1 : Array Slot) (pc : Nat), cMW s A v a b1 K0 res.2.1 res.2.2 H1 locs1 → narrow .int (.int res.1) = .int res.1 → decode cX10_behindLine pc = .ok (.ireturn, 1) → W p l e R s m args below meth c H1 locs1 (xn res.2.1 - xn K0) (2 * (xn res.2.1 - xn K0)) Q (F0 m pc ls1 [.int res.1])) : ∀ (n : Nat) (x2 : Int32) (F : PF) (G : PG) (hm : cl_X10_behindLine_2 fu n x2 F G = some res) {b : Nat} {H : Heap} {locs : List Loc} (hw : cMW s A v a b K0 F G H locs) {ls : Array Slot} (hl : lv_has ls 3 [(0, .ref (a 210)), (2, .int x2)]), W p l e R s m args below meth c H locs (xn F - xn K0) (2 * (xn F - xn K0)) Q (F0 m 2 ls []) := by
  intro n
  induction n with
  | zero =>
    intro x2 F G hm
    exact no_elim (show (none : PR) = some res from hm)
  | succ n ih =>
    intro x2 F G hm b H locs hw ls hl
    exact cw_X10_behindLine_2 fu C hret (cl_X10_behindLine_2 fu n) (fun x2 F G hm b H locs ls hw hl => ih x2 F G hm hw hl) (fun x2 F G hm => cnl_X10_behindLine_2 fu n x2 F G hm) x2 F G hm hw hl
theorem cn_X10_behindLine_0 (fu : Nat) {res : Int32 × PF × PG} (x1 : Int32) (F : PF) (G : PG) (hm : cb_X10_behindLine_0 fu x1 F G = some res) : xn F ≤ xn res.2.1 := by
  unfold cb_X10_behindLine_0 at hm
  exact (cnl_X10_behindLine_2 fu fu x1 F G hm)
theorem cw_X10_behindLine_0 (fu : Nat) {res : Int32 × PF × PG} (C : cMC p R s m args c A v RX10 cX10_behindLine 3 1 21 (xn res.2.1 - xn K0)) (hret : ∀ (b1 : Nat) (H1 : Heap) (locs1 : List Loc) (ls1 : Array Slot) (pc : Nat), cMW s A v a b1 K0 res.2.1 res.2.2 H1 locs1 → narrow .int (.int res.1) = .int res.1 → decode cX10_behindLine pc = .ok (.ireturn, 1) → W p l e R s m args below meth c H1 locs1 (xn res.2.1 - xn K0) (2 * (xn res.2.1 - xn K0)) Q (F0 m pc ls1 [.int res.1])) (x1 : Int32) (F : PF) (G : PG) (hm : cb_X10_behindLine_0 fu x1 F G = some res) {b : Nat} {H : Heap} {locs : List Loc} (hw : cMW s A v a b K0 F G H locs) {ls : Array Slot} (hl : lv_has ls 3 [(0, .ref (a 210)), (1, .int x1)]) : W p l e R s m args below meth c H locs (xn F - xn K0) (2 * (xn F - xn K0)) Q (F0 m 0 ls []) := by
  have hx := C.1
  have hb := C.2.1
  unfold cb_X10_behindLine_0 at hm
  refine lv_iload_n hx hb dX10_behindLine_0 rfl (lv_at hl 1 rfl) ?_
  refine lv_istore_n (lv' := [(2, .int x1), (0, .ref (a 210)), (1, .int x1)]) hx hb dX10_behindLine_1 rfl hl (by decide) rfl (fun ls hl => ?_)
  exact cwl_X10_behindLine_2 fu C hret fu x1 F G hm hw (lv_sub hl [1, 0] rfl)
theorem cn_X10_behindLine (fu : Nat) (x1 : Int32) (F : PF) (G : PG) (q : Int32 × PF × PG) (hm : cf_X10_behindLine fu x1 F G = some q) : xn F ≤ xn q.2.1 := cn_X10_behindLine_0 fu x1 F G hm
theorem ck_X10_behindLine (l : Launch) (v : EV) (a : Nat → Nat) (b sz : Nat) (fu : Nat) (x1 : Int32) (F : PF) (G : PG) (r : Int32) (F1 : PF) (G1 : PG) (hm : cf_X10_behindLine fu x1 F G = some (r, F1, G1)) : cMI l yX10_behindLine cX10_behindLine 3 (some .int) 1 21 v a b sz [.ref (a 210), .int x1] F G r F1 G1 := cMI.of (ty := .int) (by decide) rfl (Nat.le_of_ble_eq_true rfl) (fun p e R s m args below meth c Q A H locs ls C hw hl hret => cw_X10_behindLine_0 fu (res := (r, F1, G1)) C hret x1 F G hm hw hl)
def cb_X10_behindNote_53 (fu : Nat) (F : PF) (G : PG) : PR := some ((-1), F, G)
def cb_X10_behindNote_47 (fu : Nat) (ag_4 : Int32 → PF → PG → PR) (x2 : Int32) (F : PF) (G : PG) : PR := ag_4 (x2 + 1) F G
def cb_X10_behindNote_43 (fu : Nat) (x2 : Int32) (F : PF) (G : PG) : PR := some ((x2 + (2 : Int32)), F, G)
def cb_X10_behindNote_38 (fu : Nat) (ag_4 : Int32 → PF → PG → PR) (x2 : Int32) (z0 : Int32) (F : PF) (G : PG) : PR := if z0 = (47 : Int32) then cb_X10_behindNote_43 fu x2 F G else cb_X10_behindNote_47 fu ag_4 x2 F G
def cb_X10_behindNote_28 (fu : Nat) (ag_4 : Int32 → PF → PG → PR) (x2 : Int32) (F : PF) (G : PG) : PR := (cf_X9_at fu (x2 + (1 : Int32)) F G).bind (fun q => cb_X10_behindNote_38 fu ag_4 x2 q.1 q.2.1 q.2.2)
def cb_X10_behindNote_23 (fu : Nat) (ag_4 : Int32 → PF → PG → PR) (x2 : Int32) (z0 : Int32) (F : PF) (G : PG) : PR := if z0 = (42 : Int32) then cb_X10_behindNote_28 fu ag_4 x2 F G else cb_X10_behindNote_47 fu ag_4 x2 F G
def cb_X10_behindNote_15 (fu : Nat) (ag_4 : Int32 → PF → PG → PR) (x2 : Int32) (F : PF) (G : PG) : PR := (cf_X9_at fu x2 F G).bind (fun q => cb_X10_behindNote_23 fu ag_4 x2 q.1 q.2.1 q.2.2)
def cb_X10_behindNote_4 (fu : Nat) (ag_4 : Int32 → PF → PG → PR) (x2 : Int32) (F : PF) (G : PG) : PR := if (F 88) ≤ x2 then cb_X10_behindNote_53 fu F G else cb_X10_behindNote_15 fu ag_4 x2 F G
def cl_X10_behindNote_4 (fu : Nat) : Nat → Int32 → PF → PG → PR
  | 0 => fun _ _ _ => none
  | n + 1 => fun x2 F G => cb_X10_behindNote_4 fu (cl_X10_behindNote_4 fu n) x2 F G
def cb_X10_behindNote_0 (fu : Nat) (x1 : Int32) (F : PF) (G : PG) : PR := cl_X10_behindNote_4 fu fu (x1 + (2 : Int32)) F G
def cf_X10_behindNote (fu : Nat) (x1 : Int32) (F : PF) (G : PG) : PR := cb_X10_behindNote_0 fu x1 F G
theorem cn_X10_behindNote_53 (fu : Nat) {res : Int32 × PF × PG} (F : PF) (G : PG) (hm : cb_X10_behindNote_53 fu F G = some res) : xn F ≤ xn res.2.1 := by
  unfold cb_X10_behindNote_53 at hm
  obtain rfl := Option.some.inj hm
  exact Nat.le_refl _
theorem cw_X10_behindNote_53 (fu : Nat) {res : Int32 × PF × PG} (C : cMC p R s m args c A v RX10 cX10_behindNote 3 1 21 (xn res.2.1 - xn K0)) (hret : ∀ (b1 : Nat) (H1 : Heap) (locs1 : List Loc) (ls1 : Array Slot) (pc : Nat), cMW s A v a b1 K0 res.2.1 res.2.2 H1 locs1 → narrow .int (.int res.1) = .int res.1 → decode cX10_behindNote pc = .ok (.ireturn, 1) → W p l e R s m args below meth c H1 locs1 (xn res.2.1 - xn K0) (2 * (xn res.2.1 - xn K0)) Q (F0 m pc ls1 [.int res.1])) (F : PF) (G : PG) (hm : cb_X10_behindNote_53 fu F G = some res) {b : Nat} {H : Heap} {locs : List Loc} (hw : cMW s A v a b K0 F G H locs) {ls : Array Slot} (hl : lv_has ls 3 []) : W p l e R s m args below meth c H locs (xn F - xn K0) (2 * (xn F - xn K0)) Q (F0 m 53 ls []) := by
  have hx := C.1
  have hb := C.2.1
  unfold cb_X10_behindNote_53 at hm
  refine lv_iconst (v := (-1)) hx hb dX10_behindNote_53 (by decide) ?_
  obtain rfl := Option.some.inj hm
  exact hret _ _ _ _ _ hw rfl dX10_behindNote_54
theorem cn_X10_behindNote_47 (fu : Nat) {res : Int32 × PF × PG} (ag_4 : Int32 → PF → PG → PR) (hagn_4 : ∀ (x2 : Int32) (F : PF) (G : PG), ag_4 x2 F G = some res → xn F ≤ xn res.2.1) (x2 : Int32) (F : PF) (G : PG) (hm : cb_X10_behindNote_47 fu ag_4 x2 F G = some res) : xn F ≤ xn res.2.1 := by
  unfold cb_X10_behindNote_47 at hm
  exact (hagn_4 (x2 + 1) F G hm)
theorem cw_X10_behindNote_47 (fu : Nat) {res : Int32 × PF × PG} (C : cMC p R s m args c A v RX10 cX10_behindNote 3 1 21 (xn res.2.1 - xn K0)) (hret : ∀ (b1 : Nat) (H1 : Heap) (locs1 : List Loc) (ls1 : Array Slot) (pc : Nat), cMW s A v a b1 K0 res.2.1 res.2.2 H1 locs1 → narrow .int (.int res.1) = .int res.1 → decode cX10_behindNote pc = .ok (.ireturn, 1) → W p l e R s m args below meth c H1 locs1 (xn res.2.1 - xn K0) (2 * (xn res.2.1 - xn K0)) Q (F0 m pc ls1 [.int res.1])) (ag_4 : Int32 → PF → PG → PR) (hag_4 : ∀ (x2 : Int32) (F : PF) (G : PG), ag_4 x2 F G = some res → ∀ (b : Nat) (H : Heap) (locs : List Loc) (ls : Array Slot), cMW s A v a b K0 F G H locs → lv_has ls 3 [(0, .ref (a 210)), (2, .int x2)] → W p l e R s m args below meth c H locs (xn F - xn K0) (2 * (xn F - xn K0)) Q (F0 m 4 ls [])) (hagn_4 : ∀ (x2 : Int32) (F : PF) (G : PG), ag_4 x2 F G = some res → xn F ≤ xn res.2.1) (x2 : Int32) (F : PF) (G : PG) (hm : cb_X10_behindNote_47 fu ag_4 x2 F G = some res) {b : Nat} {H : Heap} {locs : List Loc} (hw : cMW s A v a b K0 F G H locs) {ls : Array Slot} (hl : lv_has ls 3 [(0, .ref (a 210)), (2, .int x2)]) : W p l e R s m args below meth c H locs (xn F - xn K0) (2 * (xn F - xn K0)) Q (F0 m 47 ls []) := by
  have hx := C.1
  have hb := C.2.1
  unfold cb_X10_behindNote_47 at hm
  refine lv_iinc (v := (x2 + 1)) (lv' := [(2, .int (x2 + 1)), (0, .ref (a 210))]) hx hb dX10_behindNote_47 hl (k := 1) rfl (by rfl) (by decide) rfl (fun ls hl => ?_)
  refine lv_goto (tgt := 4) hx hb dX10_behindNote_50 (by decide) ?_
  exact hag_4 (x2 + 1) F G hm _ _ _ _ hw (lv_sub hl [1, 0] rfl)
theorem cn_X10_behindNote_43 (fu : Nat) {res : Int32 × PF × PG} (x2 : Int32) (F : PF) (G : PG) (hm : cb_X10_behindNote_43 fu x2 F G = some res) : xn F ≤ xn res.2.1 := by
  unfold cb_X10_behindNote_43 at hm
  obtain rfl := Option.some.inj hm
  exact Nat.le_refl _
theorem cw_X10_behindNote_43 (fu : Nat) {res : Int32 × PF × PG} (C : cMC p R s m args c A v RX10 cX10_behindNote 3 1 21 (xn res.2.1 - xn K0)) (hret : ∀ (b1 : Nat) (H1 : Heap) (locs1 : List Loc) (ls1 : Array Slot) (pc : Nat), cMW s A v a b1 K0 res.2.1 res.2.2 H1 locs1 → narrow .int (.int res.1) = .int res.1 → decode cX10_behindNote pc = .ok (.ireturn, 1) → W p l e R s m args below meth c H1 locs1 (xn res.2.1 - xn K0) (2 * (xn res.2.1 - xn K0)) Q (F0 m pc ls1 [.int res.1])) (x2 : Int32) (F : PF) (G : PG) (hm : cb_X10_behindNote_43 fu x2 F G = some res) {b : Nat} {H : Heap} {locs : List Loc} (hw : cMW s A v a b K0 F G H locs) {ls : Array Slot} (hl : lv_has ls 3 [(2, .int x2)]) : W p l e R s m args below meth c H locs (xn F - xn K0) (2 * (xn F - xn K0)) Q (F0 m 43 ls []) := by
  have hx := C.1
  have hb := C.2.1
  unfold cb_X10_behindNote_43 at hm
  refine lv_iload_n hx hb dX10_behindNote_43 rfl (lv_at hl 0 rfl) ?_
  refine lv_iconst (v := 2) hx hb dX10_behindNote_44 (by decide) ?_
  refine lv_iadd hx hb dX10_behindNote_45 ?_
  obtain rfl := Option.some.inj hm
  exact hret _ _ _ _ _ hw rfl dX10_behindNote_46
theorem cn_X10_behindNote_38 (fu : Nat) {res : Int32 × PF × PG} (ag_4 : Int32 → PF → PG → PR) (hagn_4 : ∀ (x2 : Int32) (F : PF) (G : PG), ag_4 x2 F G = some res → xn F ≤ xn res.2.1) (x2 : Int32) (z0 : Int32) (F : PF) (G : PG) (hm : cb_X10_behindNote_38 fu ag_4 x2 z0 F G = some res) : xn F ≤ xn res.2.1 := by
  unfold cb_X10_behindNote_38 at hm
  by_cases c_1 : z0 = (47 : Int32)
  · have hm := (if_pos c_1).symm.trans hm
    exact (cn_X10_behindNote_43 fu x2 F G hm)
  · have hm := (if_neg c_1).symm.trans hm
    exact (cn_X10_behindNote_47 fu ag_4 hagn_4 x2 F G hm)
theorem cw_X10_behindNote_38 (fu : Nat) {res : Int32 × PF × PG} (C : cMC p R s m args c A v RX10 cX10_behindNote 3 1 21 (xn res.2.1 - xn K0)) (hret : ∀ (b1 : Nat) (H1 : Heap) (locs1 : List Loc) (ls1 : Array Slot) (pc : Nat), cMW s A v a b1 K0 res.2.1 res.2.2 H1 locs1 → narrow .int (.int res.1) = .int res.1 → decode cX10_behindNote pc = .ok (.ireturn, 1) → W p l e R s m args below meth c H1 locs1 (xn res.2.1 - xn K0) (2 * (xn res.2.1 - xn K0)) Q (F0 m pc ls1 [.int res.1])) (ag_4 : Int32 → PF → PG → PR) (hag_4 : ∀ (x2 : Int32) (F : PF) (G : PG), ag_4 x2 F G = some res → ∀ (b : Nat) (H : Heap) (locs : List Loc) (ls : Array Slot), cMW s A v a b K0 F G H locs → lv_has ls 3 [(0, .ref (a 210)), (2, .int x2)] → W p l e R s m args below meth c H locs (xn F - xn K0) (2 * (xn F - xn K0)) Q (F0 m 4 ls [])) (hagn_4 : ∀ (x2 : Int32) (F : PF) (G : PG), ag_4 x2 F G = some res → xn F ≤ xn res.2.1) (x2 : Int32) (z0 : Int32) (F : PF) (G : PG) (hm : cb_X10_behindNote_38 fu ag_4 x2 z0 F G = some res) {b : Nat} {H : Heap} {locs : List Loc} (hw : cMW s A v a b K0 F G H locs) {ls : Array Slot} (hl : lv_has ls 3 [(0, .ref (a 210)), (2, .int x2)]) : W p l e R s m args below meth c H locs (xn F - xn K0) (2 * (xn F - xn K0)) Q (F0 m 38 ls [.int z0]) := by
  have hx := C.1
  have hb := C.2.1
  unfold cb_X10_behindNote_38 at hm
  refine lv_bipush (v := 47) hx hb dX10_behindNote_38 (by decide) ?_
  refine lv_icmp_ne (tgt := 47) hx hb dX10_behindNote_40 (by decide) (fun c_1 => ?_) (fun c_1 => ?_)
  · have hm := (if_neg c_1).symm.trans hm
    exact cw_X10_behindNote_47 fu C hret ag_4 hag_4 hagn_4 x2 F G hm hw (lv_sub hl [0, 1] rfl)
  · have hm := (if_pos c_1).symm.trans hm
    exact cw_X10_behindNote_43 fu C hret x2 F G hm hw (lv_sub hl [1] rfl)
theorem cn_X10_behindNote_28 (fu : Nat) {res : Int32 × PF × PG} (ag_4 : Int32 → PF → PG → PR) (hagn_4 : ∀ (x2 : Int32) (F : PF) (G : PG), ag_4 x2 F G = some res → xn F ≤ xn res.2.1) (x2 : Int32) (F : PF) (G : PG) (hm : cb_X10_behindNote_28 fu ag_4 x2 F G = some res) : xn F ≤ xn res.2.1 := by
  unfold cb_X10_behindNote_28 at hm
  obtain ⟨⟨r1, F1, G1⟩, hc, hm⟩ := bind_elim hm
  exact Nat.le_trans (cn_X9_at fu (x2 + (1 : Int32)) F G _ hc) (cn_X10_behindNote_38 fu ag_4 hagn_4 x2 r1 F1 G1 hm)
theorem cw_X10_behindNote_28 (fu : Nat) {res : Int32 × PF × PG} (C : cMC p R s m args c A v RX10 cX10_behindNote 3 1 21 (xn res.2.1 - xn K0)) (hret : ∀ (b1 : Nat) (H1 : Heap) (locs1 : List Loc) (ls1 : Array Slot) (pc : Nat), cMW s A v a b1 K0 res.2.1 res.2.2 H1 locs1 → narrow .int (.int res.1) = .int res.1 → decode cX10_behindNote pc = .ok (.ireturn, 1) → W p l e R s m args below meth c H1 locs1 (xn res.2.1 - xn K0) (2 * (xn res.2.1 - xn K0)) Q (F0 m pc ls1 [.int res.1])) (ag_4 : Int32 → PF → PG → PR) (hag_4 : ∀ (x2 : Int32) (F : PF) (G : PG), ag_4 x2 F G = some res → ∀ (b : Nat) (H : Heap) (locs : List Loc) (ls : Array Slot), cMW s A v a b K0 F G H locs → lv_has ls 3 [(0, .ref (a 210)), (2, .int x2)] → W p l e R s m args below meth c H locs (xn F - xn K0) (2 * (xn F - xn K0)) Q (F0 m 4 ls [])) (hagn_4 : ∀ (x2 : Int32) (F : PF) (G : PG), ag_4 x2 F G = some res → xn F ≤ xn res.2.1) (x2 : Int32) (F : PF) (G : PG) (hm : cb_X10_behindNote_28 fu ag_4 x2 F G = some res) {b : Nat} {H : Heap} {locs : List Loc} (hw : cMW s A v a b K0 F G H locs) {ls : Array Slot} (hl : lv_has ls 3 [(0, .ref (a 210)), (2, .int x2)]) : W p l e R s m args below meth c H locs (xn F - xn K0) (2 * (xn F - xn K0)) Q (F0 m 28 ls []) := by
  have hx := C.1
  have hb := C.2.1
  unfold cb_X10_behindNote_28 at hm
  refine lv_aload_n hx hb dX10_behindNote_28 rfl (lv_at hl 0 rfl) ?_
  refine cg_X10_33 C hw dX10_behindNote_29 ?_
  refine lv_iload_n hx hb dX10_behindNote_32 rfl (lv_at hl 1 rfl) ?_
  refine lv_iconst (v := 1) hx hb dX10_behindNote_33 (by decide) ?_
  refine lv_iadd hx hb dX10_behindNote_34 ?_
  obtain ⟨⟨r1, F1, G1⟩, hc, hm⟩ := bind_elim hm
  refine ccallI (n := 1) (As := [.int (x2 + (1 : Int32))]) (rest := []) C hw (ck_X9_at l v a _ _ fu (x2 + (1 : Int32)) F G r1 F1 G1 hc) (cn_X9_at fu (x2 + (1 : Int32)) F G _ hc) (Nat.sub_le_sub_right (cn_X10_behindNote_38 fu ag_4 hagn_4 x2 r1 F1 G1 hm) _) (crecv_X9 C hw) cm_61 cm_62 cm_63 cm_6 cm_64 (by decide +kernel) rfl (by omega) (by omega) hl.1 rfl (Nat.le_of_ble_eq_true rfl) dX10_behindNote_35 (fun b H locs hw => ?_)
  exact cw_X10_behindNote_38 fu C hret ag_4 hag_4 hagn_4 x2 r1 F1 G1 hm hw (lv_sub hl [0, 1] rfl)
theorem cn_X10_behindNote_23 (fu : Nat) {res : Int32 × PF × PG} (ag_4 : Int32 → PF → PG → PR) (hagn_4 : ∀ (x2 : Int32) (F : PF) (G : PG), ag_4 x2 F G = some res → xn F ≤ xn res.2.1) (x2 : Int32) (z0 : Int32) (F : PF) (G : PG) (hm : cb_X10_behindNote_23 fu ag_4 x2 z0 F G = some res) : xn F ≤ xn res.2.1 := by
  unfold cb_X10_behindNote_23 at hm
  by_cases c_1 : z0 = (42 : Int32)
  · have hm := (if_pos c_1).symm.trans hm
    exact (cn_X10_behindNote_28 fu ag_4 hagn_4 x2 F G hm)
  · have hm := (if_neg c_1).symm.trans hm
    exact (cn_X10_behindNote_47 fu ag_4 hagn_4 x2 F G hm)
theorem cw_X10_behindNote_23 (fu : Nat) {res : Int32 × PF × PG} (C : cMC p R s m args c A v RX10 cX10_behindNote 3 1 21 (xn res.2.1 - xn K0)) (hret : ∀ (b1 : Nat) (H1 : Heap) (locs1 : List Loc) (ls1 : Array Slot) (pc : Nat), cMW s A v a b1 K0 res.2.1 res.2.2 H1 locs1 → narrow .int (.int res.1) = .int res.1 → decode cX10_behindNote pc = .ok (.ireturn, 1) → W p l e R s m args below meth c H1 locs1 (xn res.2.1 - xn K0) (2 * (xn res.2.1 - xn K0)) Q (F0 m pc ls1 [.int res.1])) (ag_4 : Int32 → PF → PG → PR) (hag_4 : ∀ (x2 : Int32) (F : PF) (G : PG), ag_4 x2 F G = some res → ∀ (b : Nat) (H : Heap) (locs : List Loc) (ls : Array Slot), cMW s A v a b K0 F G H locs → lv_has ls 3 [(0, .ref (a 210)), (2, .int x2)] → W p l e R s m args below meth c H locs (xn F - xn K0) (2 * (xn F - xn K0)) Q (F0 m 4 ls [])) (hagn_4 : ∀ (x2 : Int32) (F : PF) (G : PG), ag_4 x2 F G = some res → xn F ≤ xn res.2.1) (x2 : Int32) (z0 : Int32) (F : PF) (G : PG) (hm : cb_X10_behindNote_23 fu ag_4 x2 z0 F G = some res) {b : Nat} {H : Heap} {locs : List Loc} (hw : cMW s A v a b K0 F G H locs) {ls : Array Slot} (hl : lv_has ls 3 [(0, .ref (a 210)), (2, .int x2)]) : W p l e R s m args below meth c H locs (xn F - xn K0) (2 * (xn F - xn K0)) Q (F0 m 23 ls [.int z0]) := by
  have hx := C.1
  have hb := C.2.1
  unfold cb_X10_behindNote_23 at hm
  refine lv_bipush (v := 42) hx hb dX10_behindNote_23 (by decide) ?_
  refine lv_icmp_ne (tgt := 47) hx hb dX10_behindNote_25 (by decide) (fun c_1 => ?_) (fun c_1 => ?_)
  · have hm := (if_neg c_1).symm.trans hm
    exact cw_X10_behindNote_47 fu C hret ag_4 hag_4 hagn_4 x2 F G hm hw (lv_sub hl [0, 1] rfl)
  · have hm := (if_pos c_1).symm.trans hm
    exact cw_X10_behindNote_28 fu C hret ag_4 hag_4 hagn_4 x2 F G hm hw (lv_sub hl [0, 1] rfl)
theorem cn_X10_behindNote_15 (fu : Nat) {res : Int32 × PF × PG} (ag_4 : Int32 → PF → PG → PR) (hagn_4 : ∀ (x2 : Int32) (F : PF) (G : PG), ag_4 x2 F G = some res → xn F ≤ xn res.2.1) (x2 : Int32) (F : PF) (G : PG) (hm : cb_X10_behindNote_15 fu ag_4 x2 F G = some res) : xn F ≤ xn res.2.1 := by
  unfold cb_X10_behindNote_15 at hm
  obtain ⟨⟨r1, F1, G1⟩, hc, hm⟩ := bind_elim hm
  exact Nat.le_trans (cn_X9_at fu x2 F G _ hc) (cn_X10_behindNote_23 fu ag_4 hagn_4 x2 r1 F1 G1 hm)
theorem cw_X10_behindNote_15 (fu : Nat) {res : Int32 × PF × PG} (C : cMC p R s m args c A v RX10 cX10_behindNote 3 1 21 (xn res.2.1 - xn K0)) (hret : ∀ (b1 : Nat) (H1 : Heap) (locs1 : List Loc) (ls1 : Array Slot) (pc : Nat), cMW s A v a b1 K0 res.2.1 res.2.2 H1 locs1 → narrow .int (.int res.1) = .int res.1 → decode cX10_behindNote pc = .ok (.ireturn, 1) → W p l e R s m args below meth c H1 locs1 (xn res.2.1 - xn K0) (2 * (xn res.2.1 - xn K0)) Q (F0 m pc ls1 [.int res.1])) (ag_4 : Int32 → PF → PG → PR) (hag_4 : ∀ (x2 : Int32) (F : PF) (G : PG), ag_4 x2 F G = some res → ∀ (b : Nat) (H : Heap) (locs : List Loc) (ls : Array Slot), cMW s A v a b K0 F G H locs → lv_has ls 3 [(0, .ref (a 210)), (2, .int x2)] → W p l e R s m args below meth c H locs (xn F - xn K0) (2 * (xn F - xn K0)) Q (F0 m 4 ls [])) (hagn_4 : ∀ (x2 : Int32) (F : PF) (G : PG), ag_4 x2 F G = some res → xn F ≤ xn res.2.1) (x2 : Int32) (F : PF) (G : PG) (hm : cb_X10_behindNote_15 fu ag_4 x2 F G = some res) {b : Nat} {H : Heap} {locs : List Loc} (hw : cMW s A v a b K0 F G H locs) {ls : Array Slot} (hl : lv_has ls 3 [(0, .ref (a 210)), (2, .int x2)]) : W p l e R s m args below meth c H locs (xn F - xn K0) (2 * (xn F - xn K0)) Q (F0 m 15 ls []) := by
  have hx := C.1
  have hb := C.2.1
  unfold cb_X10_behindNote_15 at hm
  refine lv_aload_n hx hb dX10_behindNote_15 rfl (lv_at hl 0 rfl) ?_
  refine cg_X10_33 C hw dX10_behindNote_16 ?_
  refine lv_iload_n hx hb dX10_behindNote_19 rfl (lv_at hl 1 rfl) ?_
  obtain ⟨⟨r1, F1, G1⟩, hc, hm⟩ := bind_elim hm
  refine ccallI (n := 1) (As := [.int x2]) (rest := []) C hw (ck_X9_at l v a _ _ fu x2 F G r1 F1 G1 hc) (cn_X9_at fu x2 F G _ hc) (Nat.sub_le_sub_right (cn_X10_behindNote_23 fu ag_4 hagn_4 x2 r1 F1 G1 hm) _) (crecv_X9 C hw) cm_61 cm_62 cm_63 cm_6 cm_64 (by decide +kernel) rfl (by omega) (by omega) hl.1 rfl (Nat.le_of_ble_eq_true rfl) dX10_behindNote_20 (fun b H locs hw => ?_)
  exact cw_X10_behindNote_23 fu C hret ag_4 hag_4 hagn_4 x2 r1 F1 G1 hm hw (lv_sub hl [0, 1] rfl)
theorem cn_X10_behindNote_4 (fu : Nat) {res : Int32 × PF × PG} (ag_4 : Int32 → PF → PG → PR) (hagn_4 : ∀ (x2 : Int32) (F : PF) (G : PG), ag_4 x2 F G = some res → xn F ≤ xn res.2.1) (x2 : Int32) (F : PF) (G : PG) (hm : cb_X10_behindNote_4 fu ag_4 x2 F G = some res) : xn F ≤ xn res.2.1 := by
  unfold cb_X10_behindNote_4 at hm
  by_cases c_1 : (F 88) ≤ x2
  · have hm := (if_pos c_1).symm.trans hm
    exact (cn_X10_behindNote_53 fu F G hm)
  · have hm := (if_neg c_1).symm.trans hm
    exact (cn_X10_behindNote_15 fu ag_4 hagn_4 x2 F G hm)
theorem cw_X10_behindNote_4 (fu : Nat) {res : Int32 × PF × PG} (C : cMC p R s m args c A v RX10 cX10_behindNote 3 1 21 (xn res.2.1 - xn K0)) (hret : ∀ (b1 : Nat) (H1 : Heap) (locs1 : List Loc) (ls1 : Array Slot) (pc : Nat), cMW s A v a b1 K0 res.2.1 res.2.2 H1 locs1 → narrow .int (.int res.1) = .int res.1 → decode cX10_behindNote pc = .ok (.ireturn, 1) → W p l e R s m args below meth c H1 locs1 (xn res.2.1 - xn K0) (2 * (xn res.2.1 - xn K0)) Q (F0 m pc ls1 [.int res.1])) (ag_4 : Int32 → PF → PG → PR) (hag_4 : ∀ (x2 : Int32) (F : PF) (G : PG), ag_4 x2 F G = some res → ∀ (b : Nat) (H : Heap) (locs : List Loc) (ls : Array Slot), cMW s A v a b K0 F G H locs → lv_has ls 3 [(0, .ref (a 210)), (2, .int x2)] → W p l e R s m args below meth c H locs (xn F - xn K0) (2 * (xn F - xn K0)) Q (F0 m 4 ls [])) (hagn_4 : ∀ (x2 : Int32) (F : PF) (G : PG), ag_4 x2 F G = some res → xn F ≤ xn res.2.1) (x2 : Int32) (F : PF) (G : PG) (hm : cb_X10_behindNote_4 fu ag_4 x2 F G = some res) {b : Nat} {H : Heap} {locs : List Loc} (hw : cMW s A v a b K0 F G H locs) {ls : Array Slot} (hl : lv_has ls 3 [(0, .ref (a 210)), (2, .int x2)]) : W p l e R s m args below meth c H locs (xn F - xn K0) (2 * (xn F - xn K0)) Q (F0 m 4 ls []) := by
  have hx := C.1
  have hb := C.2.1
  unfold cb_X10_behindNote_4 at hm
  refine lv_iload_n hx hb dX10_behindNote_4 rfl (lv_at hl 1 rfl) ?_
  refine lv_aload_n hx hb dX10_behindNote_5 rfl (lv_at hl 0 rfl) ?_
  refine cg_X10_33 C hw dX10_behindNote_6 ?_
  refine cg_X10_50 C hw dX10_behindNote_9 ?_
  refine lv_icmp_ge (tgt := 53) hx hb dX10_behindNote_12 (by decide) (fun c_1 => ?_) (fun c_1 => ?_)
  · have hm := (if_pos c_1).symm.trans hm
    exact cw_X10_behindNote_53 fu C hret F G hm hw (lv_sub hl [] rfl)
  · have hm := (if_neg c_1).symm.trans hm
    exact cw_X10_behindNote_15 fu C hret ag_4 hag_4 hagn_4 x2 F G hm hw (lv_sub hl [0, 1] rfl)
theorem cnl_X10_behindNote_4 (fu : Nat) {res : Int32 × PF × PG} : ∀ (n : Nat) (x2 : Int32) (F : PF) (G : PG) (hm : cl_X10_behindNote_4 fu n x2 F G = some res), xn F ≤ xn res.2.1 := by
  intro n
  induction n with
  | zero =>
    intro x2 F G hm
    exact no_elim (show (none : PR) = some res from hm)
  | succ n ih =>
    intro x2 F G hm
    exact cn_X10_behindNote_4 fu (cl_X10_behindNote_4 fu n) (fun x2 F G hm => ih x2 F G hm) x2 F G hm
theorem cwl_X10_behindNote_4 (fu : Nat) {res : Int32 × PF × PG} (C : cMC p R s m args c A v RX10 cX10_behindNote 3 1 21 (xn res.2.1 - xn K0)) (hret : ∀ (b1 : Nat) (H1 : Heap) (locs1 : List Loc) (ls1 : Array Slot) (pc : Nat), cMW s A v a b1 K0 res.2.1 res.2.2 H1 locs1 → narrow .int (.int res.1) = .int res.1 → decode cX10_behindNote pc = .ok (.ireturn, 1) → W p l e R s m args below meth c H1 locs1 (xn res.2.1 - xn K0) (2 * (xn res.2.1 - xn K0)) Q (F0 m pc ls1 [.int res.1])) : ∀ (n : Nat) (x2 : Int32) (F : PF) (G : PG) (hm : cl_X10_behindNote_4 fu n x2 F G = some res) {b : Nat} {H : Heap} {locs : List Loc} (hw : cMW s A v a b K0 F G H locs) {ls : Array Slot} (hl : lv_has ls 3 [(0, .ref (a 210)), (2, .int x2)]), W p l e R s m args below meth c H locs (xn F - xn K0) (2 * (xn F - xn K0)) Q (F0 m 4 ls []) := by
  intro n
  induction n with
  | zero =>
    intro x2 F G hm
    exact no_elim (show (none : PR) = some res from hm)
  | succ n ih =>
    intro x2 F G hm b H locs hw ls hl
    exact cw_X10_behindNote_4 fu C hret (cl_X10_behindNote_4 fu n) (fun x2 F G hm b H locs ls hw hl => ih x2 F G hm hw hl) (fun x2 F G hm => cnl_X10_behindNote_4 fu n x2 F G hm) x2 F G hm hw hl
theorem cn_X10_behindNote_0 (fu : Nat) {res : Int32 × PF × PG} (x1 : Int32) (F : PF) (G : PG) (hm : cb_X10_behindNote_0 fu x1 F G = some res) : xn F ≤ xn res.2.1 := by
  unfold cb_X10_behindNote_0 at hm
  exact (cnl_X10_behindNote_4 fu fu (x1 + (2 : Int32)) F G hm)
theorem cw_X10_behindNote_0 (fu : Nat) {res : Int32 × PF × PG} (C : cMC p R s m args c A v RX10 cX10_behindNote 3 1 21 (xn res.2.1 - xn K0)) (hret : ∀ (b1 : Nat) (H1 : Heap) (locs1 : List Loc) (ls1 : Array Slot) (pc : Nat), cMW s A v a b1 K0 res.2.1 res.2.2 H1 locs1 → narrow .int (.int res.1) = .int res.1 → decode cX10_behindNote pc = .ok (.ireturn, 1) → W p l e R s m args below meth c H1 locs1 (xn res.2.1 - xn K0) (2 * (xn res.2.1 - xn K0)) Q (F0 m pc ls1 [.int res.1])) (x1 : Int32) (F : PF) (G : PG) (hm : cb_X10_behindNote_0 fu x1 F G = some res) {b : Nat} {H : Heap} {locs : List Loc} (hw : cMW s A v a b K0 F G H locs) {ls : Array Slot} (hl : lv_has ls 3 [(0, .ref (a 210)), (1, .int x1)]) : W p l e R s m args below meth c H locs (xn F - xn K0) (2 * (xn F - xn K0)) Q (F0 m 0 ls []) := by
  have hx := C.1
  have hb := C.2.1
  unfold cb_X10_behindNote_0 at hm
  refine lv_iload_n hx hb dX10_behindNote_0 rfl (lv_at hl 1 rfl) ?_
  refine lv_iconst (v := 2) hx hb dX10_behindNote_1 (by decide) ?_
  refine lv_iadd hx hb dX10_behindNote_2 ?_
  refine lv_istore_n (lv' := [(2, .int (x1 + (2 : Int32))), (0, .ref (a 210)), (1, .int x1)]) hx hb dX10_behindNote_3 rfl hl (by decide) rfl (fun ls hl => ?_)
  exact cwl_X10_behindNote_4 fu C hret fu (x1 + (2 : Int32)) F G hm hw (lv_sub hl [1, 0] rfl)
theorem cn_X10_behindNote (fu : Nat) (x1 : Int32) (F : PF) (G : PG) (q : Int32 × PF × PG) (hm : cf_X10_behindNote fu x1 F G = some q) : xn F ≤ xn q.2.1 := cn_X10_behindNote_0 fu x1 F G hm
theorem ck_X10_behindNote (l : Launch) (v : EV) (a : Nat → Nat) (b sz : Nat) (fu : Nat) (x1 : Int32) (F : PF) (G : PG) (r : Int32) (F1 : PF) (G1 : PG) (hm : cf_X10_behindNote fu x1 F G = some (r, F1, G1)) : cMI l yX10_behindNote cX10_behindNote 3 (some .int) 1 21 v a b sz [.ref (a 210), .int x1] F G r F1 G1 := cMI.of (ty := .int) (by decide) rfl (Nat.le_of_ble_eq_true rfl) (fun p e R s m args below meth c Q A H locs ls C hw hl hret => cw_X10_behindNote_0 fu (res := (r, F1, G1)) C hret x1 F G hm hw hl)
def cb_X10_behindGap_130 (fu : Nat) (x2 : Int32) (F : PF) (G : PG) : PR := some (x2, F, G)
def cb_X10_behindGap_124 (fu : Nat) (ag_4 : Int32 → Int32 → PF → PG → PR) (x2 : Int32) (x3 : Int32) (F : PF) (G : PG) : PR := ag_4 x2 (x3 + 1) F G
def cb_X10_behindGap_58 (fu : Nat) (ag_4 : Int32 → Int32 → PF → PG → PR) (x2 : Int32) (x3 : Int32) (F : PF) (G : PG) : PR := cb_X10_behindGap_124 fu ag_4 (x2 + 1) x3 F G
def cb_X10_behindGap_122 (fu : Nat) (x2 : Int32) (F : PF) (G : PG) : PR := some (x2, F, G)
def cb_X10_behindGap_116 (fu : Nat) (ag_4 : Int32 → Int32 → PF → PG → PR) (x3 : Int32) (x6 : Int32) (F : PF) (G : PG) : PR := cb_X10_behindGap_124 fu ag_4 x6 x3 F G
def cb_X10_behindGap_114 (fu : Nat) (x2 : Int32) (F : PF) (G : PG) : PR := some (x2, F, G)
def cb_X10_behindGap_106 (fu : Nat) (ag_4 : Int32 → Int32 → PF → PG → PR) (x2 : Int32) (x3 : Int32) (z0 : Int32) (F : PF) (G : PG) : PR := if z0 = (-1 : Int32) then cb_X10_behindGap_114 fu x2 F G else cb_X10_behindGap_116 fu ag_4 x3 z0 F G
def cb_X10_behindGap_101 (fu : Nat) (ag_4 : Int32 → Int32 → PF → PG → PR) (x2 : Int32) (x3 : Int32) (F : PF) (G : PG) : PR := (cf_X10_behindNote fu x2 F G).bind (fun q => cb_X10_behindGap_106 fu ag_4 x2 x3 q.1 q.2.1 q.2.2)
def cb_X10_behindGap_94 (fu : Nat) (ag_4 : Int32 → Int32 → PF → PG → PR) (x2 : Int32) (x3 : Int32) (x5 : Int32) (F : PF) (G : PG) : PR := if x5 = (42 : Int32) then cb_X10_behindGap_101 fu ag_4 x2 x3 F G else cb_X10_behindGap_122 fu x2 F G
def cb_X10_behindGap_87 (fu : Nat) (ag_4 : Int32 → Int32 → PF → PG → PR) (x2 : Int32) (x3 : Int32) (x4 : Int32) (x5 : Int32) (F : PF) (G : PG) : PR := if x4 = (47 : Int32) then cb_X10_behindGap_94 fu ag_4 x2 x3 x5 F G else cb_X10_behindGap_122 fu x2 F G
def cb_X10_behindGap_83 (fu : Nat) (ag_4 : Int32 → Int32 → PF → PG → PR) (x3 : Int32) (z0 : Int32) (F : PF) (G : PG) : PR := cb_X10_behindGap_124 fu ag_4 z0 x3 F G
def cb_X10_behindGap_78 (fu : Nat) (ag_4 : Int32 → Int32 → PF → PG → PR) (x2 : Int32) (x3 : Int32) (F : PF) (G : PG) : PR := (cf_X10_behindLine fu x2 F G).bind (fun q => cb_X10_behindGap_83 fu ag_4 x3 q.1 q.2.1 q.2.2)
def cb_X10_behindGap_71 (fu : Nat) (ag_4 : Int32 → Int32 → PF → PG → PR) (x2 : Int32) (x3 : Int32) (x4 : Int32) (x5 : Int32) (F : PF) (G : PG) : PR := if x5 = (47 : Int32) then cb_X10_behindGap_78 fu ag_4 x2 x3 F G else cb_X10_behindGap_87 fu ag_4 x2 x3 x4 x5 F G
def cb_X10_behindGap_64 (fu : Nat) (ag_4 : Int32 → Int32 → PF → PG → PR) (x2 : Int32) (x3 : Int32) (x4 : Int32) (x5 : Int32) (F : PF) (G : PG) : PR := if x4 = (47 : Int32) then cb_X10_behindGap_71 fu ag_4 x2 x3 x4 x5 F G else cb_X10_behindGap_87 fu ag_4 x2 x3 x4 x5 F G
def cb_X10_behindGap_51 (fu : Nat) (ag_4 : Int32 → Int32 → PF → PG → PR) (x2 : Int32) (x3 : Int32) (x4 : Int32) (x5 : Int32) (F : PF) (G : PG) : PR := if x4 = (32 : Int32) then cb_X10_behindGap_58 fu ag_4 x2 x3 F G else cb_X10_behindGap_64 fu ag_4 x2 x3 x4 x5 F G
def cb_X10_behindGap_42 (fu : Nat) (ag_4 : Int32 → Int32 → PF → PG → PR) (x2 : Int32) (x3 : Int32) (x4 : Int32) (z0 : Int32) (F : PF) (G : PG) : PR := if x4 = (10 : Int32) then cb_X10_behindGap_58 fu ag_4 x2 x3 F G else cb_X10_behindGap_51 fu ag_4 x2 x3 x4 z0 F G
def cb_X10_behindGap_30 (fu : Nat) (ag_4 : Int32 → Int32 → PF → PG → PR) (x2 : Int32) (x3 : Int32) (z0 : Int32) (F : PF) (G : PG) : PR := (cf_X9_at fu (x2 + (1 : Int32)) F G).bind (fun q => cb_X10_behindGap_42 fu ag_4 x2 x3 z0 q.1 q.2.1 q.2.2)
def cb_X10_behindGap_22 (fu : Nat) (ag_4 : Int32 → Int32 → PF → PG → PR) (x2 : Int32) (x3 : Int32) (F : PF) (G : PG) : PR := (cf_X9_at fu x2 F G).bind (fun q => cb_X10_behindGap_30 fu ag_4 x2 x3 q.1 q.2.1 q.2.2)
def cb_X10_behindGap_11 (fu : Nat) (ag_4 : Int32 → Int32 → PF → PG → PR) (x2 : Int32) (x3 : Int32) (F : PF) (G : PG) : PR := if (F 88) ≤ x2 then cb_X10_behindGap_130 fu x2 F G else cb_X10_behindGap_22 fu ag_4 x2 x3 F G
def cb_X10_behindGap_4 (fu : Nat) (ag_4 : Int32 → Int32 → PF → PG → PR) (x2 : Int32) (x3 : Int32) (F : PF) (G : PG) : PR := if (4000 : Int32) ≤ x3 then cb_X10_behindGap_130 fu x2 F G else cb_X10_behindGap_11 fu ag_4 x2 x3 F G
def cl_X10_behindGap_4 (fu : Nat) : Nat → Int32 → Int32 → PF → PG → PR
  | 0 => fun _ _ _ _ => none
  | n + 1 => fun x2 x3 F G => cb_X10_behindGap_4 fu (cl_X10_behindGap_4 fu n) x2 x3 F G
def cb_X10_behindGap_0 (fu : Nat) (x1 : Int32) (F : PF) (G : PG) : PR := cl_X10_behindGap_4 fu fu x1 0 F G
def cf_X10_behindGap (fu : Nat) (x1 : Int32) (F : PF) (G : PG) : PR := cb_X10_behindGap_0 fu x1 F G
theorem cn_X10_behindGap_130 (fu : Nat) {res : Int32 × PF × PG} (x2 : Int32) (F : PF) (G : PG) (hm : cb_X10_behindGap_130 fu x2 F G = some res) : xn F ≤ xn res.2.1 := by
  unfold cb_X10_behindGap_130 at hm
  obtain rfl := Option.some.inj hm
  exact Nat.le_refl _
theorem cw_X10_behindGap_130 (fu : Nat) {res : Int32 × PF × PG} (C : cMC p R s m args c A v RX10 cX10_behindGap 7 2 43 (xn res.2.1 - xn K0)) (hret : ∀ (b1 : Nat) (H1 : Heap) (locs1 : List Loc) (ls1 : Array Slot) (pc : Nat), cMW s A v a b1 K0 res.2.1 res.2.2 H1 locs1 → narrow .int (.int res.1) = .int res.1 → decode cX10_behindGap pc = .ok (.ireturn, 1) → W p l e R s m args below meth c H1 locs1 (xn res.2.1 - xn K0) (2 * (xn res.2.1 - xn K0)) Q (F0 m pc ls1 [.int res.1])) (x2 : Int32) (F : PF) (G : PG) (hm : cb_X10_behindGap_130 fu x2 F G = some res) {b : Nat} {H : Heap} {locs : List Loc} (hw : cMW s A v a b K0 F G H locs) {ls : Array Slot} (hl : lv_has ls 7 [(2, .int x2)]) : W p l e R s m args below meth c H locs (xn F - xn K0) (2 * (xn F - xn K0)) Q (F0 m 130 ls []) := by
  have hx := C.1
  have hb := C.2.1
  unfold cb_X10_behindGap_130 at hm
  refine lv_iload_n hx hb dX10_behindGap_130 rfl (lv_at hl 0 rfl) ?_
  obtain rfl := Option.some.inj hm
  exact hret _ _ _ _ _ hw rfl dX10_behindGap_131
theorem cn_X10_behindGap_124 (fu : Nat) {res : Int32 × PF × PG} (ag_4 : Int32 → Int32 → PF → PG → PR) (hagn_4 : ∀ (x2 : Int32) (x3 : Int32) (F : PF) (G : PG), ag_4 x2 x3 F G = some res → xn F ≤ xn res.2.1) (x2 : Int32) (x3 : Int32) (F : PF) (G : PG) (hm : cb_X10_behindGap_124 fu ag_4 x2 x3 F G = some res) : xn F ≤ xn res.2.1 := by
  unfold cb_X10_behindGap_124 at hm
  exact (hagn_4 x2 (x3 + 1) F G hm)
theorem cw_X10_behindGap_124 (fu : Nat) {res : Int32 × PF × PG} (C : cMC p R s m args c A v RX10 cX10_behindGap 7 2 43 (xn res.2.1 - xn K0)) (hret : ∀ (b1 : Nat) (H1 : Heap) (locs1 : List Loc) (ls1 : Array Slot) (pc : Nat), cMW s A v a b1 K0 res.2.1 res.2.2 H1 locs1 → narrow .int (.int res.1) = .int res.1 → decode cX10_behindGap pc = .ok (.ireturn, 1) → W p l e R s m args below meth c H1 locs1 (xn res.2.1 - xn K0) (2 * (xn res.2.1 - xn K0)) Q (F0 m pc ls1 [.int res.1])) (ag_4 : Int32 → Int32 → PF → PG → PR) (hag_4 : ∀ (x2 : Int32) (x3 : Int32) (F : PF) (G : PG), ag_4 x2 x3 F G = some res → ∀ (b : Nat) (H : Heap) (locs : List Loc) (ls : Array Slot), cMW s A v a b K0 F G H locs → lv_has ls 7 [(0, .ref (a 210)), (2, .int x2), (3, .int x3)] → W p l e R s m args below meth c H locs (xn F - xn K0) (2 * (xn F - xn K0)) Q (F0 m 4 ls [])) (hagn_4 : ∀ (x2 : Int32) (x3 : Int32) (F : PF) (G : PG), ag_4 x2 x3 F G = some res → xn F ≤ xn res.2.1) (x2 : Int32) (x3 : Int32) (F : PF) (G : PG) (hm : cb_X10_behindGap_124 fu ag_4 x2 x3 F G = some res) {b : Nat} {H : Heap} {locs : List Loc} (hw : cMW s A v a b K0 F G H locs) {ls : Array Slot} (hl : lv_has ls 7 [(0, .ref (a 210)), (2, .int x2), (3, .int x3)]) : W p l e R s m args below meth c H locs (xn F - xn K0) (2 * (xn F - xn K0)) Q (F0 m 124 ls []) := by
  have hx := C.1
  have hb := C.2.1
  unfold cb_X10_behindGap_124 at hm
  refine lv_iinc (v := (x3 + 1)) (lv' := [(3, .int (x3 + 1)), (0, .ref (a 210)), (2, .int x2)]) hx hb dX10_behindGap_124 hl (k := 2) rfl (by rfl) (by decide) rfl (fun ls hl => ?_)
  refine lv_goto (tgt := 4) hx hb dX10_behindGap_127 (by decide) ?_
  exact hag_4 x2 (x3 + 1) F G hm _ _ _ _ hw (lv_sub hl [1, 2, 0] rfl)
theorem cn_X10_behindGap_58 (fu : Nat) {res : Int32 × PF × PG} (ag_4 : Int32 → Int32 → PF → PG → PR) (hagn_4 : ∀ (x2 : Int32) (x3 : Int32) (F : PF) (G : PG), ag_4 x2 x3 F G = some res → xn F ≤ xn res.2.1) (x2 : Int32) (x3 : Int32) (F : PF) (G : PG) (hm : cb_X10_behindGap_58 fu ag_4 x2 x3 F G = some res) : xn F ≤ xn res.2.1 := by
  unfold cb_X10_behindGap_58 at hm
  exact (cn_X10_behindGap_124 fu ag_4 hagn_4 (x2 + 1) x3 F G hm)
theorem cw_X10_behindGap_58 (fu : Nat) {res : Int32 × PF × PG} (C : cMC p R s m args c A v RX10 cX10_behindGap 7 2 43 (xn res.2.1 - xn K0)) (hret : ∀ (b1 : Nat) (H1 : Heap) (locs1 : List Loc) (ls1 : Array Slot) (pc : Nat), cMW s A v a b1 K0 res.2.1 res.2.2 H1 locs1 → narrow .int (.int res.1) = .int res.1 → decode cX10_behindGap pc = .ok (.ireturn, 1) → W p l e R s m args below meth c H1 locs1 (xn res.2.1 - xn K0) (2 * (xn res.2.1 - xn K0)) Q (F0 m pc ls1 [.int res.1])) (ag_4 : Int32 → Int32 → PF → PG → PR) (hag_4 : ∀ (x2 : Int32) (x3 : Int32) (F : PF) (G : PG), ag_4 x2 x3 F G = some res → ∀ (b : Nat) (H : Heap) (locs : List Loc) (ls : Array Slot), cMW s A v a b K0 F G H locs → lv_has ls 7 [(0, .ref (a 210)), (2, .int x2), (3, .int x3)] → W p l e R s m args below meth c H locs (xn F - xn K0) (2 * (xn F - xn K0)) Q (F0 m 4 ls [])) (hagn_4 : ∀ (x2 : Int32) (x3 : Int32) (F : PF) (G : PG), ag_4 x2 x3 F G = some res → xn F ≤ xn res.2.1) (x2 : Int32) (x3 : Int32) (F : PF) (G : PG) (hm : cb_X10_behindGap_58 fu ag_4 x2 x3 F G = some res) {b : Nat} {H : Heap} {locs : List Loc} (hw : cMW s A v a b K0 F G H locs) {ls : Array Slot} (hl : lv_has ls 7 [(0, .ref (a 210)), (2, .int x2), (3, .int x3)]) : W p l e R s m args below meth c H locs (xn F - xn K0) (2 * (xn F - xn K0)) Q (F0 m 58 ls []) := by
  have hx := C.1
  have hb := C.2.1
  unfold cb_X10_behindGap_58 at hm
  refine lv_iinc (v := (x2 + 1)) (lv' := [(2, .int (x2 + 1)), (0, .ref (a 210)), (3, .int x3)]) hx hb dX10_behindGap_58 hl (k := 1) rfl (by rfl) (by decide) rfl (fun ls hl => ?_)
  refine lv_goto (tgt := 124) hx hb dX10_behindGap_61 (by decide) ?_
  exact cw_X10_behindGap_124 fu C hret ag_4 hag_4 hagn_4 (x2 + 1) x3 F G hm hw (lv_sub hl [1, 0, 2] rfl)
theorem cn_X10_behindGap_122 (fu : Nat) {res : Int32 × PF × PG} (x2 : Int32) (F : PF) (G : PG) (hm : cb_X10_behindGap_122 fu x2 F G = some res) : xn F ≤ xn res.2.1 := by
  unfold cb_X10_behindGap_122 at hm
  obtain rfl := Option.some.inj hm
  exact Nat.le_refl _
theorem cw_X10_behindGap_122 (fu : Nat) {res : Int32 × PF × PG} (C : cMC p R s m args c A v RX10 cX10_behindGap 7 2 43 (xn res.2.1 - xn K0)) (hret : ∀ (b1 : Nat) (H1 : Heap) (locs1 : List Loc) (ls1 : Array Slot) (pc : Nat), cMW s A v a b1 K0 res.2.1 res.2.2 H1 locs1 → narrow .int (.int res.1) = .int res.1 → decode cX10_behindGap pc = .ok (.ireturn, 1) → W p l e R s m args below meth c H1 locs1 (xn res.2.1 - xn K0) (2 * (xn res.2.1 - xn K0)) Q (F0 m pc ls1 [.int res.1])) (x2 : Int32) (F : PF) (G : PG) (hm : cb_X10_behindGap_122 fu x2 F G = some res) {b : Nat} {H : Heap} {locs : List Loc} (hw : cMW s A v a b K0 F G H locs) {ls : Array Slot} (hl : lv_has ls 7 [(2, .int x2)]) : W p l e R s m args below meth c H locs (xn F - xn K0) (2 * (xn F - xn K0)) Q (F0 m 122 ls []) := by
  have hx := C.1
  have hb := C.2.1
  unfold cb_X10_behindGap_122 at hm
  refine lv_iload_n hx hb dX10_behindGap_122 rfl (lv_at hl 0 rfl) ?_
  obtain rfl := Option.some.inj hm
  exact hret _ _ _ _ _ hw rfl dX10_behindGap_123
theorem cn_X10_behindGap_116 (fu : Nat) {res : Int32 × PF × PG} (ag_4 : Int32 → Int32 → PF → PG → PR) (hagn_4 : ∀ (x2 : Int32) (x3 : Int32) (F : PF) (G : PG), ag_4 x2 x3 F G = some res → xn F ≤ xn res.2.1) (x3 : Int32) (x6 : Int32) (F : PF) (G : PG) (hm : cb_X10_behindGap_116 fu ag_4 x3 x6 F G = some res) : xn F ≤ xn res.2.1 := by
  unfold cb_X10_behindGap_116 at hm
  exact (cn_X10_behindGap_124 fu ag_4 hagn_4 x6 x3 F G hm)
theorem cw_X10_behindGap_116 (fu : Nat) {res : Int32 × PF × PG} (C : cMC p R s m args c A v RX10 cX10_behindGap 7 2 43 (xn res.2.1 - xn K0)) (hret : ∀ (b1 : Nat) (H1 : Heap) (locs1 : List Loc) (ls1 : Array Slot) (pc : Nat), cMW s A v a b1 K0 res.2.1 res.2.2 H1 locs1 → narrow .int (.int res.1) = .int res.1 → decode cX10_behindGap pc = .ok (.ireturn, 1) → W p l e R s m args below meth c H1 locs1 (xn res.2.1 - xn K0) (2 * (xn res.2.1 - xn K0)) Q (F0 m pc ls1 [.int res.1])) (ag_4 : Int32 → Int32 → PF → PG → PR) (hag_4 : ∀ (x2 : Int32) (x3 : Int32) (F : PF) (G : PG), ag_4 x2 x3 F G = some res → ∀ (b : Nat) (H : Heap) (locs : List Loc) (ls : Array Slot), cMW s A v a b K0 F G H locs → lv_has ls 7 [(0, .ref (a 210)), (2, .int x2), (3, .int x3)] → W p l e R s m args below meth c H locs (xn F - xn K0) (2 * (xn F - xn K0)) Q (F0 m 4 ls [])) (hagn_4 : ∀ (x2 : Int32) (x3 : Int32) (F : PF) (G : PG), ag_4 x2 x3 F G = some res → xn F ≤ xn res.2.1) (x3 : Int32) (x6 : Int32) (F : PF) (G : PG) (hm : cb_X10_behindGap_116 fu ag_4 x3 x6 F G = some res) {b : Nat} {H : Heap} {locs : List Loc} (hw : cMW s A v a b K0 F G H locs) {ls : Array Slot} (hl : lv_has ls 7 [(0, .ref (a 210)), (3, .int x3), (6, .int x6)]) : W p l e R s m args below meth c H locs (xn F - xn K0) (2 * (xn F - xn K0)) Q (F0 m 116 ls []) := by
  have hx := C.1
  have hb := C.2.1
  unfold cb_X10_behindGap_116 at hm
  refine lv_iload hx hb dX10_behindGap_116 (lv_at hl 2 rfl) ?_
  refine lv_istore_n (lv' := [(2, .int x6), (0, .ref (a 210)), (3, .int x3), (6, .int x6)]) hx hb dX10_behindGap_118 rfl hl (by decide) rfl (fun ls hl => ?_)
  refine lv_goto (tgt := 124) hx hb dX10_behindGap_119 (by decide) ?_
  exact cw_X10_behindGap_124 fu C hret ag_4 hag_4 hagn_4 x6 x3 F G hm hw (lv_sub hl [1, 0, 2] rfl)
theorem cn_X10_behindGap_114 (fu : Nat) {res : Int32 × PF × PG} (x2 : Int32) (F : PF) (G : PG) (hm : cb_X10_behindGap_114 fu x2 F G = some res) : xn F ≤ xn res.2.1 := by
  unfold cb_X10_behindGap_114 at hm
  obtain rfl := Option.some.inj hm
  exact Nat.le_refl _
theorem cw_X10_behindGap_114 (fu : Nat) {res : Int32 × PF × PG} (C : cMC p R s m args c A v RX10 cX10_behindGap 7 2 43 (xn res.2.1 - xn K0)) (hret : ∀ (b1 : Nat) (H1 : Heap) (locs1 : List Loc) (ls1 : Array Slot) (pc : Nat), cMW s A v a b1 K0 res.2.1 res.2.2 H1 locs1 → narrow .int (.int res.1) = .int res.1 → decode cX10_behindGap pc = .ok (.ireturn, 1) → W p l e R s m args below meth c H1 locs1 (xn res.2.1 - xn K0) (2 * (xn res.2.1 - xn K0)) Q (F0 m pc ls1 [.int res.1])) (x2 : Int32) (F : PF) (G : PG) (hm : cb_X10_behindGap_114 fu x2 F G = some res) {b : Nat} {H : Heap} {locs : List Loc} (hw : cMW s A v a b K0 F G H locs) {ls : Array Slot} (hl : lv_has ls 7 [(2, .int x2)]) : W p l e R s m args below meth c H locs (xn F - xn K0) (2 * (xn F - xn K0)) Q (F0 m 114 ls []) := by
  have hx := C.1
  have hb := C.2.1
  unfold cb_X10_behindGap_114 at hm
  refine lv_iload_n hx hb dX10_behindGap_114 rfl (lv_at hl 0 rfl) ?_
  obtain rfl := Option.some.inj hm
  exact hret _ _ _ _ _ hw rfl dX10_behindGap_115
theorem cn_X10_behindGap_106 (fu : Nat) {res : Int32 × PF × PG} (ag_4 : Int32 → Int32 → PF → PG → PR) (hagn_4 : ∀ (x2 : Int32) (x3 : Int32) (F : PF) (G : PG), ag_4 x2 x3 F G = some res → xn F ≤ xn res.2.1) (x2 : Int32) (x3 : Int32) (z0 : Int32) (F : PF) (G : PG) (hm : cb_X10_behindGap_106 fu ag_4 x2 x3 z0 F G = some res) : xn F ≤ xn res.2.1 := by
  unfold cb_X10_behindGap_106 at hm
  by_cases c_1 : z0 = (-1 : Int32)
  · have hm := (if_pos c_1).symm.trans hm
    exact (cn_X10_behindGap_114 fu x2 F G hm)
  · have hm := (if_neg c_1).symm.trans hm
    exact (cn_X10_behindGap_116 fu ag_4 hagn_4 x3 z0 F G hm)
theorem cw_X10_behindGap_106 (fu : Nat) {res : Int32 × PF × PG} (C : cMC p R s m args c A v RX10 cX10_behindGap 7 2 43 (xn res.2.1 - xn K0)) (hret : ∀ (b1 : Nat) (H1 : Heap) (locs1 : List Loc) (ls1 : Array Slot) (pc : Nat), cMW s A v a b1 K0 res.2.1 res.2.2 H1 locs1 → narrow .int (.int res.1) = .int res.1 → decode cX10_behindGap pc = .ok (.ireturn, 1) → W p l e R s m args below meth c H1 locs1 (xn res.2.1 - xn K0) (2 * (xn res.2.1 - xn K0)) Q (F0 m pc ls1 [.int res.1])) (ag_4 : Int32 → Int32 → PF → PG → PR) (hag_4 : ∀ (x2 : Int32) (x3 : Int32) (F : PF) (G : PG), ag_4 x2 x3 F G = some res → ∀ (b : Nat) (H : Heap) (locs : List Loc) (ls : Array Slot), cMW s A v a b K0 F G H locs → lv_has ls 7 [(0, .ref (a 210)), (2, .int x2), (3, .int x3)] → W p l e R s m args below meth c H locs (xn F - xn K0) (2 * (xn F - xn K0)) Q (F0 m 4 ls [])) (hagn_4 : ∀ (x2 : Int32) (x3 : Int32) (F : PF) (G : PG), ag_4 x2 x3 F G = some res → xn F ≤ xn res.2.1) (x2 : Int32) (x3 : Int32) (z0 : Int32) (F : PF) (G : PG) (hm : cb_X10_behindGap_106 fu ag_4 x2 x3 z0 F G = some res) {b : Nat} {H : Heap} {locs : List Loc} (hw : cMW s A v a b K0 F G H locs) {ls : Array Slot} (hl : lv_has ls 7 [(0, .ref (a 210)), (2, .int x2), (3, .int x3)]) : W p l e R s m args below meth c H locs (xn F - xn K0) (2 * (xn F - xn K0)) Q (F0 m 106 ls [.int z0]) := by
  have hx := C.1
  have hb := C.2.1
  unfold cb_X10_behindGap_106 at hm
  refine lv_istore (lv' := [(6, .int z0), (0, .ref (a 210)), (2, .int x2), (3, .int x3)]) hx hb dX10_behindGap_106 hl (by decide) rfl (fun ls hl => ?_)
  refine lv_iload hx hb dX10_behindGap_108 (lv_at hl 0 rfl) ?_
  refine lv_iconst (v := (-1)) hx hb dX10_behindGap_110 (by decide) ?_
  refine lv_icmp_ne (tgt := 116) hx hb dX10_behindGap_111 (by decide) (fun c_1 => ?_) (fun c_1 => ?_)
  · have hm := (if_neg c_1).symm.trans hm
    exact cw_X10_behindGap_116 fu C hret ag_4 hag_4 hagn_4 x3 z0 F G hm hw (lv_sub hl [1, 3, 0] rfl)
  · have hm := (if_pos c_1).symm.trans hm
    exact cw_X10_behindGap_114 fu C hret x2 F G hm hw (lv_sub hl [2] rfl)
theorem cn_X10_behindGap_101 (fu : Nat) {res : Int32 × PF × PG} (ag_4 : Int32 → Int32 → PF → PG → PR) (hagn_4 : ∀ (x2 : Int32) (x3 : Int32) (F : PF) (G : PG), ag_4 x2 x3 F G = some res → xn F ≤ xn res.2.1) (x2 : Int32) (x3 : Int32) (F : PF) (G : PG) (hm : cb_X10_behindGap_101 fu ag_4 x2 x3 F G = some res) : xn F ≤ xn res.2.1 := by
  unfold cb_X10_behindGap_101 at hm
  obtain ⟨⟨r1, F1, G1⟩, hc, hm⟩ := bind_elim hm
  exact Nat.le_trans (cn_X10_behindNote fu x2 F G _ hc) (cn_X10_behindGap_106 fu ag_4 hagn_4 x2 x3 r1 F1 G1 hm)
theorem cw_X10_behindGap_101 (fu : Nat) {res : Int32 × PF × PG} (C : cMC p R s m args c A v RX10 cX10_behindGap 7 2 43 (xn res.2.1 - xn K0)) (hret : ∀ (b1 : Nat) (H1 : Heap) (locs1 : List Loc) (ls1 : Array Slot) (pc : Nat), cMW s A v a b1 K0 res.2.1 res.2.2 H1 locs1 → narrow .int (.int res.1) = .int res.1 → decode cX10_behindGap pc = .ok (.ireturn, 1) → W p l e R s m args below meth c H1 locs1 (xn res.2.1 - xn K0) (2 * (xn res.2.1 - xn K0)) Q (F0 m pc ls1 [.int res.1])) (ag_4 : Int32 → Int32 → PF → PG → PR) (hag_4 : ∀ (x2 : Int32) (x3 : Int32) (F : PF) (G : PG), ag_4 x2 x3 F G = some res → ∀ (b : Nat) (H : Heap) (locs : List Loc) (ls : Array Slot), cMW s A v a b K0 F G H locs → lv_has ls 7 [(0, .ref (a 210)), (2, .int x2), (3, .int x3)] → W p l e R s m args below meth c H locs (xn F - xn K0) (2 * (xn F - xn K0)) Q (F0 m 4 ls [])) (hagn_4 : ∀ (x2 : Int32) (x3 : Int32) (F : PF) (G : PG), ag_4 x2 x3 F G = some res → xn F ≤ xn res.2.1) (x2 : Int32) (x3 : Int32) (F : PF) (G : PG) (hm : cb_X10_behindGap_101 fu ag_4 x2 x3 F G = some res) {b : Nat} {H : Heap} {locs : List Loc} (hw : cMW s A v a b K0 F G H locs) {ls : Array Slot} (hl : lv_has ls 7 [(0, .ref (a 210)), (2, .int x2), (3, .int x3)]) : W p l e R s m args below meth c H locs (xn F - xn K0) (2 * (xn F - xn K0)) Q (F0 m 101 ls []) := by
  have hx := C.1
  have hb := C.2.1
  unfold cb_X10_behindGap_101 at hm
  refine lv_aload_n hx hb dX10_behindGap_101 rfl (lv_at hl 0 rfl) ?_
  refine lv_iload_n hx hb dX10_behindGap_102 rfl (lv_at hl 1 rfl) ?_
  obtain ⟨⟨r1, F1, G1⟩, hc, hm⟩ := bind_elim hm
  refine ccallI (n := 1) (As := [.int x2]) (rest := []) C hw (ck_X10_behindNote l v a _ _ fu x2 F G r1 F1 G1 hc) (cn_X10_behindNote fu x2 F G _ hc) (Nat.sub_le_sub_right (cn_X10_behindGap_106 fu ag_4 hagn_4 x2 x3 r1 F1 G1 hm) _) (crecv_X10 C hw) cm_69 cm_70 cm_71 cm_46 cm_72 (by decide +kernel) rfl (by omega) (by omega) hl.1 rfl (Nat.le_of_ble_eq_true rfl) dX10_behindGap_103 (fun b H locs hw => ?_)
  exact cw_X10_behindGap_106 fu C hret ag_4 hag_4 hagn_4 x2 x3 r1 F1 G1 hm hw (lv_sub hl [0, 1, 2] rfl)
theorem cn_X10_behindGap_94 (fu : Nat) {res : Int32 × PF × PG} (ag_4 : Int32 → Int32 → PF → PG → PR) (hagn_4 : ∀ (x2 : Int32) (x3 : Int32) (F : PF) (G : PG), ag_4 x2 x3 F G = some res → xn F ≤ xn res.2.1) (x2 : Int32) (x3 : Int32) (x5 : Int32) (F : PF) (G : PG) (hm : cb_X10_behindGap_94 fu ag_4 x2 x3 x5 F G = some res) : xn F ≤ xn res.2.1 := by
  unfold cb_X10_behindGap_94 at hm
  by_cases c_1 : x5 = (42 : Int32)
  · have hm := (if_pos c_1).symm.trans hm
    exact (cn_X10_behindGap_101 fu ag_4 hagn_4 x2 x3 F G hm)
  · have hm := (if_neg c_1).symm.trans hm
    exact (cn_X10_behindGap_122 fu x2 F G hm)
theorem cw_X10_behindGap_94 (fu : Nat) {res : Int32 × PF × PG} (C : cMC p R s m args c A v RX10 cX10_behindGap 7 2 43 (xn res.2.1 - xn K0)) (hret : ∀ (b1 : Nat) (H1 : Heap) (locs1 : List Loc) (ls1 : Array Slot) (pc : Nat), cMW s A v a b1 K0 res.2.1 res.2.2 H1 locs1 → narrow .int (.int res.1) = .int res.1 → decode cX10_behindGap pc = .ok (.ireturn, 1) → W p l e R s m args below meth c H1 locs1 (xn res.2.1 - xn K0) (2 * (xn res.2.1 - xn K0)) Q (F0 m pc ls1 [.int res.1])) (ag_4 : Int32 → Int32 → PF → PG → PR) (hag_4 : ∀ (x2 : Int32) (x3 : Int32) (F : PF) (G : PG), ag_4 x2 x3 F G = some res → ∀ (b : Nat) (H : Heap) (locs : List Loc) (ls : Array Slot), cMW s A v a b K0 F G H locs → lv_has ls 7 [(0, .ref (a 210)), (2, .int x2), (3, .int x3)] → W p l e R s m args below meth c H locs (xn F - xn K0) (2 * (xn F - xn K0)) Q (F0 m 4 ls [])) (hagn_4 : ∀ (x2 : Int32) (x3 : Int32) (F : PF) (G : PG), ag_4 x2 x3 F G = some res → xn F ≤ xn res.2.1) (x2 : Int32) (x3 : Int32) (x5 : Int32) (F : PF) (G : PG) (hm : cb_X10_behindGap_94 fu ag_4 x2 x3 x5 F G = some res) {b : Nat} {H : Heap} {locs : List Loc} (hw : cMW s A v a b K0 F G H locs) {ls : Array Slot} (hl : lv_has ls 7 [(0, .ref (a 210)), (2, .int x2), (3, .int x3), (5, .int x5)]) : W p l e R s m args below meth c H locs (xn F - xn K0) (2 * (xn F - xn K0)) Q (F0 m 94 ls []) := by
  have hx := C.1
  have hb := C.2.1
  unfold cb_X10_behindGap_94 at hm
  refine lv_iload hx hb dX10_behindGap_94 (lv_at hl 3 rfl) ?_
  refine lv_bipush (v := 42) hx hb dX10_behindGap_96 (by decide) ?_
  refine lv_icmp_ne (tgt := 122) hx hb dX10_behindGap_98 (by decide) (fun c_1 => ?_) (fun c_1 => ?_)
  · have hm := (if_neg c_1).symm.trans hm
    exact cw_X10_behindGap_122 fu C hret x2 F G hm hw (lv_sub hl [1] rfl)
  · have hm := (if_pos c_1).symm.trans hm
    exact cw_X10_behindGap_101 fu C hret ag_4 hag_4 hagn_4 x2 x3 F G hm hw (lv_sub hl [0, 1, 2] rfl)
theorem cn_X10_behindGap_87 (fu : Nat) {res : Int32 × PF × PG} (ag_4 : Int32 → Int32 → PF → PG → PR) (hagn_4 : ∀ (x2 : Int32) (x3 : Int32) (F : PF) (G : PG), ag_4 x2 x3 F G = some res → xn F ≤ xn res.2.1) (x2 : Int32) (x3 : Int32) (x4 : Int32) (x5 : Int32) (F : PF) (G : PG) (hm : cb_X10_behindGap_87 fu ag_4 x2 x3 x4 x5 F G = some res) : xn F ≤ xn res.2.1 := by
  unfold cb_X10_behindGap_87 at hm
  by_cases c_1 : x4 = (47 : Int32)
  · have hm := (if_pos c_1).symm.trans hm
    exact (cn_X10_behindGap_94 fu ag_4 hagn_4 x2 x3 x5 F G hm)
  · have hm := (if_neg c_1).symm.trans hm
    exact (cn_X10_behindGap_122 fu x2 F G hm)
theorem cw_X10_behindGap_87 (fu : Nat) {res : Int32 × PF × PG} (C : cMC p R s m args c A v RX10 cX10_behindGap 7 2 43 (xn res.2.1 - xn K0)) (hret : ∀ (b1 : Nat) (H1 : Heap) (locs1 : List Loc) (ls1 : Array Slot) (pc : Nat), cMW s A v a b1 K0 res.2.1 res.2.2 H1 locs1 → narrow .int (.int res.1) = .int res.1 → decode cX10_behindGap pc = .ok (.ireturn, 1) → W p l e R s m args below meth c H1 locs1 (xn res.2.1 - xn K0) (2 * (xn res.2.1 - xn K0)) Q (F0 m pc ls1 [.int res.1])) (ag_4 : Int32 → Int32 → PF → PG → PR) (hag_4 : ∀ (x2 : Int32) (x3 : Int32) (F : PF) (G : PG), ag_4 x2 x3 F G = some res → ∀ (b : Nat) (H : Heap) (locs : List Loc) (ls : Array Slot), cMW s A v a b K0 F G H locs → lv_has ls 7 [(0, .ref (a 210)), (2, .int x2), (3, .int x3)] → W p l e R s m args below meth c H locs (xn F - xn K0) (2 * (xn F - xn K0)) Q (F0 m 4 ls [])) (hagn_4 : ∀ (x2 : Int32) (x3 : Int32) (F : PF) (G : PG), ag_4 x2 x3 F G = some res → xn F ≤ xn res.2.1) (x2 : Int32) (x3 : Int32) (x4 : Int32) (x5 : Int32) (F : PF) (G : PG) (hm : cb_X10_behindGap_87 fu ag_4 x2 x3 x4 x5 F G = some res) {b : Nat} {H : Heap} {locs : List Loc} (hw : cMW s A v a b K0 F G H locs) {ls : Array Slot} (hl : lv_has ls 7 [(0, .ref (a 210)), (2, .int x2), (3, .int x3), (4, .int x4), (5, .int x5)]) : W p l e R s m args below meth c H locs (xn F - xn K0) (2 * (xn F - xn K0)) Q (F0 m 87 ls []) := by
  have hx := C.1
  have hb := C.2.1
  unfold cb_X10_behindGap_87 at hm
  refine lv_iload hx hb dX10_behindGap_87 (lv_at hl 3 rfl) ?_
  refine lv_bipush (v := 47) hx hb dX10_behindGap_89 (by decide) ?_
  refine lv_icmp_ne (tgt := 122) hx hb dX10_behindGap_91 (by decide) (fun c_1 => ?_) (fun c_1 => ?_)
  · have hm := (if_neg c_1).symm.trans hm
    exact cw_X10_behindGap_122 fu C hret x2 F G hm hw (lv_sub hl [1] rfl)
  · have hm := (if_pos c_1).symm.trans hm
    exact cw_X10_behindGap_94 fu C hret ag_4 hag_4 hagn_4 x2 x3 x5 F G hm hw (lv_sub hl [0, 1, 2, 4] rfl)
theorem cn_X10_behindGap_83 (fu : Nat) {res : Int32 × PF × PG} (ag_4 : Int32 → Int32 → PF → PG → PR) (hagn_4 : ∀ (x2 : Int32) (x3 : Int32) (F : PF) (G : PG), ag_4 x2 x3 F G = some res → xn F ≤ xn res.2.1) (x3 : Int32) (z0 : Int32) (F : PF) (G : PG) (hm : cb_X10_behindGap_83 fu ag_4 x3 z0 F G = some res) : xn F ≤ xn res.2.1 := by
  unfold cb_X10_behindGap_83 at hm
  exact (cn_X10_behindGap_124 fu ag_4 hagn_4 z0 x3 F G hm)
theorem cw_X10_behindGap_83 (fu : Nat) {res : Int32 × PF × PG} (C : cMC p R s m args c A v RX10 cX10_behindGap 7 2 43 (xn res.2.1 - xn K0)) (hret : ∀ (b1 : Nat) (H1 : Heap) (locs1 : List Loc) (ls1 : Array Slot) (pc : Nat), cMW s A v a b1 K0 res.2.1 res.2.2 H1 locs1 → narrow .int (.int res.1) = .int res.1 → decode cX10_behindGap pc = .ok (.ireturn, 1) → W p l e R s m args below meth c H1 locs1 (xn res.2.1 - xn K0) (2 * (xn res.2.1 - xn K0)) Q (F0 m pc ls1 [.int res.1])) (ag_4 : Int32 → Int32 → PF → PG → PR) (hag_4 : ∀ (x2 : Int32) (x3 : Int32) (F : PF) (G : PG), ag_4 x2 x3 F G = some res → ∀ (b : Nat) (H : Heap) (locs : List Loc) (ls : Array Slot), cMW s A v a b K0 F G H locs → lv_has ls 7 [(0, .ref (a 210)), (2, .int x2), (3, .int x3)] → W p l e R s m args below meth c H locs (xn F - xn K0) (2 * (xn F - xn K0)) Q (F0 m 4 ls [])) (hagn_4 : ∀ (x2 : Int32) (x3 : Int32) (F : PF) (G : PG), ag_4 x2 x3 F G = some res → xn F ≤ xn res.2.1) (x3 : Int32) (z0 : Int32) (F : PF) (G : PG) (hm : cb_X10_behindGap_83 fu ag_4 x3 z0 F G = some res) {b : Nat} {H : Heap} {locs : List Loc} (hw : cMW s A v a b K0 F G H locs) {ls : Array Slot} (hl : lv_has ls 7 [(0, .ref (a 210)), (3, .int x3)]) : W p l e R s m args below meth c H locs (xn F - xn K0) (2 * (xn F - xn K0)) Q (F0 m 83 ls [.int z0]) := by
  have hx := C.1
  have hb := C.2.1
  unfold cb_X10_behindGap_83 at hm
  refine lv_istore_n (lv' := [(2, .int z0), (0, .ref (a 210)), (3, .int x3)]) hx hb dX10_behindGap_83 rfl hl (by decide) rfl (fun ls hl => ?_)
  refine lv_goto (tgt := 124) hx hb dX10_behindGap_84 (by decide) ?_
  exact cw_X10_behindGap_124 fu C hret ag_4 hag_4 hagn_4 z0 x3 F G hm hw (lv_sub hl [1, 0, 2] rfl)
theorem cn_X10_behindGap_78 (fu : Nat) {res : Int32 × PF × PG} (ag_4 : Int32 → Int32 → PF → PG → PR) (hagn_4 : ∀ (x2 : Int32) (x3 : Int32) (F : PF) (G : PG), ag_4 x2 x3 F G = some res → xn F ≤ xn res.2.1) (x2 : Int32) (x3 : Int32) (F : PF) (G : PG) (hm : cb_X10_behindGap_78 fu ag_4 x2 x3 F G = some res) : xn F ≤ xn res.2.1 := by
  unfold cb_X10_behindGap_78 at hm
  obtain ⟨⟨r1, F1, G1⟩, hc, hm⟩ := bind_elim hm
  exact Nat.le_trans (cn_X10_behindLine fu x2 F G _ hc) (cn_X10_behindGap_83 fu ag_4 hagn_4 x3 r1 F1 G1 hm)
theorem cw_X10_behindGap_78 (fu : Nat) {res : Int32 × PF × PG} (C : cMC p R s m args c A v RX10 cX10_behindGap 7 2 43 (xn res.2.1 - xn K0)) (hret : ∀ (b1 : Nat) (H1 : Heap) (locs1 : List Loc) (ls1 : Array Slot) (pc : Nat), cMW s A v a b1 K0 res.2.1 res.2.2 H1 locs1 → narrow .int (.int res.1) = .int res.1 → decode cX10_behindGap pc = .ok (.ireturn, 1) → W p l e R s m args below meth c H1 locs1 (xn res.2.1 - xn K0) (2 * (xn res.2.1 - xn K0)) Q (F0 m pc ls1 [.int res.1])) (ag_4 : Int32 → Int32 → PF → PG → PR) (hag_4 : ∀ (x2 : Int32) (x3 : Int32) (F : PF) (G : PG), ag_4 x2 x3 F G = some res → ∀ (b : Nat) (H : Heap) (locs : List Loc) (ls : Array Slot), cMW s A v a b K0 F G H locs → lv_has ls 7 [(0, .ref (a 210)), (2, .int x2), (3, .int x3)] → W p l e R s m args below meth c H locs (xn F - xn K0) (2 * (xn F - xn K0)) Q (F0 m 4 ls [])) (hagn_4 : ∀ (x2 : Int32) (x3 : Int32) (F : PF) (G : PG), ag_4 x2 x3 F G = some res → xn F ≤ xn res.2.1) (x2 : Int32) (x3 : Int32) (F : PF) (G : PG) (hm : cb_X10_behindGap_78 fu ag_4 x2 x3 F G = some res) {b : Nat} {H : Heap} {locs : List Loc} (hw : cMW s A v a b K0 F G H locs) {ls : Array Slot} (hl : lv_has ls 7 [(0, .ref (a 210)), (2, .int x2), (3, .int x3)]) : W p l e R s m args below meth c H locs (xn F - xn K0) (2 * (xn F - xn K0)) Q (F0 m 78 ls []) := by
  have hx := C.1
  have hb := C.2.1
  unfold cb_X10_behindGap_78 at hm
  refine lv_aload_n hx hb dX10_behindGap_78 rfl (lv_at hl 0 rfl) ?_
  refine lv_iload_n hx hb dX10_behindGap_79 rfl (lv_at hl 1 rfl) ?_
  obtain ⟨⟨r1, F1, G1⟩, hc, hm⟩ := bind_elim hm
  refine ccallI (n := 1) (As := [.int x2]) (rest := []) C hw (ck_X10_behindLine l v a _ _ fu x2 F G r1 F1 G1 hc) (cn_X10_behindLine fu x2 F G _ hc) (Nat.sub_le_sub_right (cn_X10_behindGap_83 fu ag_4 hagn_4 x3 r1 F1 G1 hm) _) (crecv_X10 C hw) cm_65 cm_66 cm_67 cm_46 cm_68 (by decide +kernel) rfl (by omega) (by omega) hl.1 rfl (Nat.le_of_ble_eq_true rfl) dX10_behindGap_80 (fun b H locs hw => ?_)
  exact cw_X10_behindGap_83 fu C hret ag_4 hag_4 hagn_4 x3 r1 F1 G1 hm hw (lv_sub hl [0, 2] rfl)
theorem cn_X10_behindGap_71 (fu : Nat) {res : Int32 × PF × PG} (ag_4 : Int32 → Int32 → PF → PG → PR) (hagn_4 : ∀ (x2 : Int32) (x3 : Int32) (F : PF) (G : PG), ag_4 x2 x3 F G = some res → xn F ≤ xn res.2.1) (x2 : Int32) (x3 : Int32) (x4 : Int32) (x5 : Int32) (F : PF) (G : PG) (hm : cb_X10_behindGap_71 fu ag_4 x2 x3 x4 x5 F G = some res) : xn F ≤ xn res.2.1 := by
  unfold cb_X10_behindGap_71 at hm
  by_cases c_1 : x5 = (47 : Int32)
  · have hm := (if_pos c_1).symm.trans hm
    exact (cn_X10_behindGap_78 fu ag_4 hagn_4 x2 x3 F G hm)
  · have hm := (if_neg c_1).symm.trans hm
    exact (cn_X10_behindGap_87 fu ag_4 hagn_4 x2 x3 x4 x5 F G hm)
theorem cw_X10_behindGap_71 (fu : Nat) {res : Int32 × PF × PG} (C : cMC p R s m args c A v RX10 cX10_behindGap 7 2 43 (xn res.2.1 - xn K0)) (hret : ∀ (b1 : Nat) (H1 : Heap) (locs1 : List Loc) (ls1 : Array Slot) (pc : Nat), cMW s A v a b1 K0 res.2.1 res.2.2 H1 locs1 → narrow .int (.int res.1) = .int res.1 → decode cX10_behindGap pc = .ok (.ireturn, 1) → W p l e R s m args below meth c H1 locs1 (xn res.2.1 - xn K0) (2 * (xn res.2.1 - xn K0)) Q (F0 m pc ls1 [.int res.1])) (ag_4 : Int32 → Int32 → PF → PG → PR) (hag_4 : ∀ (x2 : Int32) (x3 : Int32) (F : PF) (G : PG), ag_4 x2 x3 F G = some res → ∀ (b : Nat) (H : Heap) (locs : List Loc) (ls : Array Slot), cMW s A v a b K0 F G H locs → lv_has ls 7 [(0, .ref (a 210)), (2, .int x2), (3, .int x3)] → W p l e R s m args below meth c H locs (xn F - xn K0) (2 * (xn F - xn K0)) Q (F0 m 4 ls [])) (hagn_4 : ∀ (x2 : Int32) (x3 : Int32) (F : PF) (G : PG), ag_4 x2 x3 F G = some res → xn F ≤ xn res.2.1) (x2 : Int32) (x3 : Int32) (x4 : Int32) (x5 : Int32) (F : PF) (G : PG) (hm : cb_X10_behindGap_71 fu ag_4 x2 x3 x4 x5 F G = some res) {b : Nat} {H : Heap} {locs : List Loc} (hw : cMW s A v a b K0 F G H locs) {ls : Array Slot} (hl : lv_has ls 7 [(0, .ref (a 210)), (2, .int x2), (3, .int x3), (4, .int x4), (5, .int x5)]) : W p l e R s m args below meth c H locs (xn F - xn K0) (2 * (xn F - xn K0)) Q (F0 m 71 ls []) := by
  have hx := C.1
  have hb := C.2.1
  unfold cb_X10_behindGap_71 at hm
  refine lv_iload hx hb dX10_behindGap_71 (lv_at hl 4 rfl) ?_
  refine lv_bipush (v := 47) hx hb dX10_behindGap_73 (by decide) ?_
  refine lv_icmp_ne (tgt := 87) hx hb dX10_behindGap_75 (by decide) (fun c_1 => ?_) (fun c_1 => ?_)
  · have hm := (if_neg c_1).symm.trans hm
    exact cw_X10_behindGap_87 fu C hret ag_4 hag_4 hagn_4 x2 x3 x4 x5 F G hm hw (lv_sub hl [0, 1, 2, 3, 4] rfl)
  · have hm := (if_pos c_1).symm.trans hm
    exact cw_X10_behindGap_78 fu C hret ag_4 hag_4 hagn_4 x2 x3 F G hm hw (lv_sub hl [0, 1, 2] rfl)
theorem cn_X10_behindGap_64 (fu : Nat) {res : Int32 × PF × PG} (ag_4 : Int32 → Int32 → PF → PG → PR) (hagn_4 : ∀ (x2 : Int32) (x3 : Int32) (F : PF) (G : PG), ag_4 x2 x3 F G = some res → xn F ≤ xn res.2.1) (x2 : Int32) (x3 : Int32) (x4 : Int32) (x5 : Int32) (F : PF) (G : PG) (hm : cb_X10_behindGap_64 fu ag_4 x2 x3 x4 x5 F G = some res) : xn F ≤ xn res.2.1 := by
  unfold cb_X10_behindGap_64 at hm
  by_cases c_1 : x4 = (47 : Int32)
  · have hm := (if_pos c_1).symm.trans hm
    exact (cn_X10_behindGap_71 fu ag_4 hagn_4 x2 x3 x4 x5 F G hm)
  · have hm := (if_neg c_1).symm.trans hm
    exact (cn_X10_behindGap_87 fu ag_4 hagn_4 x2 x3 x4 x5 F G hm)
theorem cw_X10_behindGap_64 (fu : Nat) {res : Int32 × PF × PG} (C : cMC p R s m args c A v RX10 cX10_behindGap 7 2 43 (xn res.2.1 - xn K0)) (hret : ∀ (b1 : Nat) (H1 : Heap) (locs1 : List Loc) (ls1 : Array Slot) (pc : Nat), cMW s A v a b1 K0 res.2.1 res.2.2 H1 locs1 → narrow .int (.int res.1) = .int res.1 → decode cX10_behindGap pc = .ok (.ireturn, 1) → W p l e R s m args below meth c H1 locs1 (xn res.2.1 - xn K0) (2 * (xn res.2.1 - xn K0)) Q (F0 m pc ls1 [.int res.1])) (ag_4 : Int32 → Int32 → PF → PG → PR) (hag_4 : ∀ (x2 : Int32) (x3 : Int32) (F : PF) (G : PG), ag_4 x2 x3 F G = some res → ∀ (b : Nat) (H : Heap) (locs : List Loc) (ls : Array Slot), cMW s A v a b K0 F G H locs → lv_has ls 7 [(0, .ref (a 210)), (2, .int x2), (3, .int x3)] → W p l e R s m args below meth c H locs (xn F - xn K0) (2 * (xn F - xn K0)) Q (F0 m 4 ls [])) (hagn_4 : ∀ (x2 : Int32) (x3 : Int32) (F : PF) (G : PG), ag_4 x2 x3 F G = some res → xn F ≤ xn res.2.1) (x2 : Int32) (x3 : Int32) (x4 : Int32) (x5 : Int32) (F : PF) (G : PG) (hm : cb_X10_behindGap_64 fu ag_4 x2 x3 x4 x5 F G = some res) {b : Nat} {H : Heap} {locs : List Loc} (hw : cMW s A v a b K0 F G H locs) {ls : Array Slot} (hl : lv_has ls 7 [(0, .ref (a 210)), (2, .int x2), (3, .int x3), (4, .int x4), (5, .int x5)]) : W p l e R s m args below meth c H locs (xn F - xn K0) (2 * (xn F - xn K0)) Q (F0 m 64 ls []) := by
  have hx := C.1
  have hb := C.2.1
  unfold cb_X10_behindGap_64 at hm
  refine lv_iload hx hb dX10_behindGap_64 (lv_at hl 3 rfl) ?_
  refine lv_bipush (v := 47) hx hb dX10_behindGap_66 (by decide) ?_
  refine lv_icmp_ne (tgt := 87) hx hb dX10_behindGap_68 (by decide) (fun c_1 => ?_) (fun c_1 => ?_)
  · have hm := (if_neg c_1).symm.trans hm
    exact cw_X10_behindGap_87 fu C hret ag_4 hag_4 hagn_4 x2 x3 x4 x5 F G hm hw (lv_sub hl [0, 1, 2, 3, 4] rfl)
  · have hm := (if_pos c_1).symm.trans hm
    exact cw_X10_behindGap_71 fu C hret ag_4 hag_4 hagn_4 x2 x3 x4 x5 F G hm hw (lv_sub hl [0, 1, 2, 3, 4] rfl)
theorem cn_X10_behindGap_51 (fu : Nat) {res : Int32 × PF × PG} (ag_4 : Int32 → Int32 → PF → PG → PR) (hagn_4 : ∀ (x2 : Int32) (x3 : Int32) (F : PF) (G : PG), ag_4 x2 x3 F G = some res → xn F ≤ xn res.2.1) (x2 : Int32) (x3 : Int32) (x4 : Int32) (x5 : Int32) (F : PF) (G : PG) (hm : cb_X10_behindGap_51 fu ag_4 x2 x3 x4 x5 F G = some res) : xn F ≤ xn res.2.1 := by
  unfold cb_X10_behindGap_51 at hm
  by_cases c_1 : x4 = (32 : Int32)
  · have hm := (if_pos c_1).symm.trans hm
    exact (cn_X10_behindGap_58 fu ag_4 hagn_4 x2 x3 F G hm)
  · have hm := (if_neg c_1).symm.trans hm
    exact (cn_X10_behindGap_64 fu ag_4 hagn_4 x2 x3 x4 x5 F G hm)
theorem cw_X10_behindGap_51 (fu : Nat) {res : Int32 × PF × PG} (C : cMC p R s m args c A v RX10 cX10_behindGap 7 2 43 (xn res.2.1 - xn K0)) (hret : ∀ (b1 : Nat) (H1 : Heap) (locs1 : List Loc) (ls1 : Array Slot) (pc : Nat), cMW s A v a b1 K0 res.2.1 res.2.2 H1 locs1 → narrow .int (.int res.1) = .int res.1 → decode cX10_behindGap pc = .ok (.ireturn, 1) → W p l e R s m args below meth c H1 locs1 (xn res.2.1 - xn K0) (2 * (xn res.2.1 - xn K0)) Q (F0 m pc ls1 [.int res.1])) (ag_4 : Int32 → Int32 → PF → PG → PR) (hag_4 : ∀ (x2 : Int32) (x3 : Int32) (F : PF) (G : PG), ag_4 x2 x3 F G = some res → ∀ (b : Nat) (H : Heap) (locs : List Loc) (ls : Array Slot), cMW s A v a b K0 F G H locs → lv_has ls 7 [(0, .ref (a 210)), (2, .int x2), (3, .int x3)] → W p l e R s m args below meth c H locs (xn F - xn K0) (2 * (xn F - xn K0)) Q (F0 m 4 ls [])) (hagn_4 : ∀ (x2 : Int32) (x3 : Int32) (F : PF) (G : PG), ag_4 x2 x3 F G = some res → xn F ≤ xn res.2.1) (x2 : Int32) (x3 : Int32) (x4 : Int32) (x5 : Int32) (F : PF) (G : PG) (hm : cb_X10_behindGap_51 fu ag_4 x2 x3 x4 x5 F G = some res) {b : Nat} {H : Heap} {locs : List Loc} (hw : cMW s A v a b K0 F G H locs) {ls : Array Slot} (hl : lv_has ls 7 [(0, .ref (a 210)), (2, .int x2), (3, .int x3), (4, .int x4), (5, .int x5)]) : W p l e R s m args below meth c H locs (xn F - xn K0) (2 * (xn F - xn K0)) Q (F0 m 51 ls []) := by
  have hx := C.1
  have hb := C.2.1
  unfold cb_X10_behindGap_51 at hm
  refine lv_iload hx hb dX10_behindGap_51 (lv_at hl 3 rfl) ?_
  refine lv_bipush (v := 32) hx hb dX10_behindGap_53 (by decide) ?_
  refine lv_icmp_ne (tgt := 64) hx hb dX10_behindGap_55 (by decide) (fun c_1 => ?_) (fun c_1 => ?_)
  · have hm := (if_neg c_1).symm.trans hm
    exact cw_X10_behindGap_64 fu C hret ag_4 hag_4 hagn_4 x2 x3 x4 x5 F G hm hw (lv_sub hl [0, 1, 2, 3, 4] rfl)
  · have hm := (if_pos c_1).symm.trans hm
    exact cw_X10_behindGap_58 fu C hret ag_4 hag_4 hagn_4 x2 x3 F G hm hw (lv_sub hl [0, 1, 2] rfl)
theorem cn_X10_behindGap_42 (fu : Nat) {res : Int32 × PF × PG} (ag_4 : Int32 → Int32 → PF → PG → PR) (hagn_4 : ∀ (x2 : Int32) (x3 : Int32) (F : PF) (G : PG), ag_4 x2 x3 F G = some res → xn F ≤ xn res.2.1) (x2 : Int32) (x3 : Int32) (x4 : Int32) (z0 : Int32) (F : PF) (G : PG) (hm : cb_X10_behindGap_42 fu ag_4 x2 x3 x4 z0 F G = some res) : xn F ≤ xn res.2.1 := by
  unfold cb_X10_behindGap_42 at hm
  by_cases c_1 : x4 = (10 : Int32)
  · have hm := (if_pos c_1).symm.trans hm
    exact (cn_X10_behindGap_58 fu ag_4 hagn_4 x2 x3 F G hm)
  · have hm := (if_neg c_1).symm.trans hm
    exact (cn_X10_behindGap_51 fu ag_4 hagn_4 x2 x3 x4 z0 F G hm)
theorem cw_X10_behindGap_42 (fu : Nat) {res : Int32 × PF × PG} (C : cMC p R s m args c A v RX10 cX10_behindGap 7 2 43 (xn res.2.1 - xn K0)) (hret : ∀ (b1 : Nat) (H1 : Heap) (locs1 : List Loc) (ls1 : Array Slot) (pc : Nat), cMW s A v a b1 K0 res.2.1 res.2.2 H1 locs1 → narrow .int (.int res.1) = .int res.1 → decode cX10_behindGap pc = .ok (.ireturn, 1) → W p l e R s m args below meth c H1 locs1 (xn res.2.1 - xn K0) (2 * (xn res.2.1 - xn K0)) Q (F0 m pc ls1 [.int res.1])) (ag_4 : Int32 → Int32 → PF → PG → PR) (hag_4 : ∀ (x2 : Int32) (x3 : Int32) (F : PF) (G : PG), ag_4 x2 x3 F G = some res → ∀ (b : Nat) (H : Heap) (locs : List Loc) (ls : Array Slot), cMW s A v a b K0 F G H locs → lv_has ls 7 [(0, .ref (a 210)), (2, .int x2), (3, .int x3)] → W p l e R s m args below meth c H locs (xn F - xn K0) (2 * (xn F - xn K0)) Q (F0 m 4 ls [])) (hagn_4 : ∀ (x2 : Int32) (x3 : Int32) (F : PF) (G : PG), ag_4 x2 x3 F G = some res → xn F ≤ xn res.2.1) (x2 : Int32) (x3 : Int32) (x4 : Int32) (z0 : Int32) (F : PF) (G : PG) (hm : cb_X10_behindGap_42 fu ag_4 x2 x3 x4 z0 F G = some res) {b : Nat} {H : Heap} {locs : List Loc} (hw : cMW s A v a b K0 F G H locs) {ls : Array Slot} (hl : lv_has ls 7 [(0, .ref (a 210)), (2, .int x2), (3, .int x3), (4, .int x4)]) : W p l e R s m args below meth c H locs (xn F - xn K0) (2 * (xn F - xn K0)) Q (F0 m 42 ls [.int z0]) := by
  have hx := C.1
  have hb := C.2.1
  unfold cb_X10_behindGap_42 at hm
  refine lv_istore (lv' := [(5, .int z0), (0, .ref (a 210)), (2, .int x2), (3, .int x3), (4, .int x4)]) hx hb dX10_behindGap_42 hl (by decide) rfl (fun ls hl => ?_)
  refine lv_iload hx hb dX10_behindGap_44 (lv_at hl 4 rfl) ?_
  refine lv_bipush (v := 10) hx hb dX10_behindGap_46 (by decide) ?_
  refine lv_icmp_eq (tgt := 58) hx hb dX10_behindGap_48 (by decide) (fun c_1 => ?_) (fun c_1 => ?_)
  · have hm := (if_pos c_1).symm.trans hm
    exact cw_X10_behindGap_58 fu C hret ag_4 hag_4 hagn_4 x2 x3 F G hm hw (lv_sub hl [1, 2, 3] rfl)
  · have hm := (if_neg c_1).symm.trans hm
    exact cw_X10_behindGap_51 fu C hret ag_4 hag_4 hagn_4 x2 x3 x4 z0 F G hm hw (lv_sub hl [1, 2, 3, 4, 0] rfl)
theorem cn_X10_behindGap_30 (fu : Nat) {res : Int32 × PF × PG} (ag_4 : Int32 → Int32 → PF → PG → PR) (hagn_4 : ∀ (x2 : Int32) (x3 : Int32) (F : PF) (G : PG), ag_4 x2 x3 F G = some res → xn F ≤ xn res.2.1) (x2 : Int32) (x3 : Int32) (z0 : Int32) (F : PF) (G : PG) (hm : cb_X10_behindGap_30 fu ag_4 x2 x3 z0 F G = some res) : xn F ≤ xn res.2.1 := by
  unfold cb_X10_behindGap_30 at hm
  obtain ⟨⟨r1, F1, G1⟩, hc, hm⟩ := bind_elim hm
  exact Nat.le_trans (cn_X9_at fu (x2 + (1 : Int32)) F G _ hc) (cn_X10_behindGap_42 fu ag_4 hagn_4 x2 x3 z0 r1 F1 G1 hm)
theorem cw_X10_behindGap_30 (fu : Nat) {res : Int32 × PF × PG} (C : cMC p R s m args c A v RX10 cX10_behindGap 7 2 43 (xn res.2.1 - xn K0)) (hret : ∀ (b1 : Nat) (H1 : Heap) (locs1 : List Loc) (ls1 : Array Slot) (pc : Nat), cMW s A v a b1 K0 res.2.1 res.2.2 H1 locs1 → narrow .int (.int res.1) = .int res.1 → decode cX10_behindGap pc = .ok (.ireturn, 1) → W p l e R s m args below meth c H1 locs1 (xn res.2.1 - xn K0) (2 * (xn res.2.1 - xn K0)) Q (F0 m pc ls1 [.int res.1])) (ag_4 : Int32 → Int32 → PF → PG → PR) (hag_4 : ∀ (x2 : Int32) (x3 : Int32) (F : PF) (G : PG), ag_4 x2 x3 F G = some res → ∀ (b : Nat) (H : Heap) (locs : List Loc) (ls : Array Slot), cMW s A v a b K0 F G H locs → lv_has ls 7 [(0, .ref (a 210)), (2, .int x2), (3, .int x3)] → W p l e R s m args below meth c H locs (xn F - xn K0) (2 * (xn F - xn K0)) Q (F0 m 4 ls [])) (hagn_4 : ∀ (x2 : Int32) (x3 : Int32) (F : PF) (G : PG), ag_4 x2 x3 F G = some res → xn F ≤ xn res.2.1) (x2 : Int32) (x3 : Int32) (z0 : Int32) (F : PF) (G : PG) (hm : cb_X10_behindGap_30 fu ag_4 x2 x3 z0 F G = some res) {b : Nat} {H : Heap} {locs : List Loc} (hw : cMW s A v a b K0 F G H locs) {ls : Array Slot} (hl : lv_has ls 7 [(0, .ref (a 210)), (2, .int x2), (3, .int x3)]) : W p l e R s m args below meth c H locs (xn F - xn K0) (2 * (xn F - xn K0)) Q (F0 m 30 ls [.int z0]) := by
  have hx := C.1
  have hb := C.2.1
  unfold cb_X10_behindGap_30 at hm
  refine lv_istore (lv' := [(4, .int z0), (0, .ref (a 210)), (2, .int x2), (3, .int x3)]) hx hb dX10_behindGap_30 hl (by decide) rfl (fun ls hl => ?_)
  refine lv_aload_n hx hb dX10_behindGap_32 rfl (lv_at hl 1 rfl) ?_
  refine cg_X10_33 C hw dX10_behindGap_33 ?_
  refine lv_iload_n hx hb dX10_behindGap_36 rfl (lv_at hl 2 rfl) ?_
  refine lv_iconst (v := 1) hx hb dX10_behindGap_37 (by decide) ?_
  refine lv_iadd hx hb dX10_behindGap_38 ?_
  obtain ⟨⟨r1, F1, G1⟩, hc, hm⟩ := bind_elim hm
  refine ccallI (n := 1) (As := [.int (x2 + (1 : Int32))]) (rest := []) C hw (ck_X9_at l v a _ _ fu (x2 + (1 : Int32)) F G r1 F1 G1 hc) (cn_X9_at fu (x2 + (1 : Int32)) F G _ hc) (Nat.sub_le_sub_right (cn_X10_behindGap_42 fu ag_4 hagn_4 x2 x3 z0 r1 F1 G1 hm) _) (crecv_X9 C hw) cm_61 cm_62 cm_63 cm_6 cm_64 (by decide +kernel) rfl (by omega) (by omega) hl.1 rfl (Nat.le_of_ble_eq_true rfl) dX10_behindGap_39 (fun b H locs hw => ?_)
  exact cw_X10_behindGap_42 fu C hret ag_4 hag_4 hagn_4 x2 x3 z0 r1 F1 G1 hm hw (lv_sub hl [1, 2, 3, 0] rfl)
theorem cn_X10_behindGap_22 (fu : Nat) {res : Int32 × PF × PG} (ag_4 : Int32 → Int32 → PF → PG → PR) (hagn_4 : ∀ (x2 : Int32) (x3 : Int32) (F : PF) (G : PG), ag_4 x2 x3 F G = some res → xn F ≤ xn res.2.1) (x2 : Int32) (x3 : Int32) (F : PF) (G : PG) (hm : cb_X10_behindGap_22 fu ag_4 x2 x3 F G = some res) : xn F ≤ xn res.2.1 := by
  unfold cb_X10_behindGap_22 at hm
  obtain ⟨⟨r1, F1, G1⟩, hc, hm⟩ := bind_elim hm
  exact Nat.le_trans (cn_X9_at fu x2 F G _ hc) (cn_X10_behindGap_30 fu ag_4 hagn_4 x2 x3 r1 F1 G1 hm)
theorem cw_X10_behindGap_22 (fu : Nat) {res : Int32 × PF × PG} (C : cMC p R s m args c A v RX10 cX10_behindGap 7 2 43 (xn res.2.1 - xn K0)) (hret : ∀ (b1 : Nat) (H1 : Heap) (locs1 : List Loc) (ls1 : Array Slot) (pc : Nat), cMW s A v a b1 K0 res.2.1 res.2.2 H1 locs1 → narrow .int (.int res.1) = .int res.1 → decode cX10_behindGap pc = .ok (.ireturn, 1) → W p l e R s m args below meth c H1 locs1 (xn res.2.1 - xn K0) (2 * (xn res.2.1 - xn K0)) Q (F0 m pc ls1 [.int res.1])) (ag_4 : Int32 → Int32 → PF → PG → PR) (hag_4 : ∀ (x2 : Int32) (x3 : Int32) (F : PF) (G : PG), ag_4 x2 x3 F G = some res → ∀ (b : Nat) (H : Heap) (locs : List Loc) (ls : Array Slot), cMW s A v a b K0 F G H locs → lv_has ls 7 [(0, .ref (a 210)), (2, .int x2), (3, .int x3)] → W p l e R s m args below meth c H locs (xn F - xn K0) (2 * (xn F - xn K0)) Q (F0 m 4 ls [])) (hagn_4 : ∀ (x2 : Int32) (x3 : Int32) (F : PF) (G : PG), ag_4 x2 x3 F G = some res → xn F ≤ xn res.2.1) (x2 : Int32) (x3 : Int32) (F : PF) (G : PG) (hm : cb_X10_behindGap_22 fu ag_4 x2 x3 F G = some res) {b : Nat} {H : Heap} {locs : List Loc} (hw : cMW s A v a b K0 F G H locs) {ls : Array Slot} (hl : lv_has ls 7 [(0, .ref (a 210)), (2, .int x2), (3, .int x3)]) : W p l e R s m args below meth c H locs (xn F - xn K0) (2 * (xn F - xn K0)) Q (F0 m 22 ls []) := by
  have hx := C.1
  have hb := C.2.1
  unfold cb_X10_behindGap_22 at hm
  refine lv_aload_n hx hb dX10_behindGap_22 rfl (lv_at hl 0 rfl) ?_
  refine cg_X10_33 C hw dX10_behindGap_23 ?_
  refine lv_iload_n hx hb dX10_behindGap_26 rfl (lv_at hl 1 rfl) ?_
  obtain ⟨⟨r1, F1, G1⟩, hc, hm⟩ := bind_elim hm
  refine ccallI (n := 1) (As := [.int x2]) (rest := []) C hw (ck_X9_at l v a _ _ fu x2 F G r1 F1 G1 hc) (cn_X9_at fu x2 F G _ hc) (Nat.sub_le_sub_right (cn_X10_behindGap_30 fu ag_4 hagn_4 x2 x3 r1 F1 G1 hm) _) (crecv_X9 C hw) cm_61 cm_62 cm_63 cm_6 cm_64 (by decide +kernel) rfl (by omega) (by omega) hl.1 rfl (Nat.le_of_ble_eq_true rfl) dX10_behindGap_27 (fun b H locs hw => ?_)
  exact cw_X10_behindGap_30 fu C hret ag_4 hag_4 hagn_4 x2 x3 r1 F1 G1 hm hw (lv_sub hl [0, 1, 2] rfl)
theorem cn_X10_behindGap_11 (fu : Nat) {res : Int32 × PF × PG} (ag_4 : Int32 → Int32 → PF → PG → PR) (hagn_4 : ∀ (x2 : Int32) (x3 : Int32) (F : PF) (G : PG), ag_4 x2 x3 F G = some res → xn F ≤ xn res.2.1) (x2 : Int32) (x3 : Int32) (F : PF) (G : PG) (hm : cb_X10_behindGap_11 fu ag_4 x2 x3 F G = some res) : xn F ≤ xn res.2.1 := by
  unfold cb_X10_behindGap_11 at hm
  by_cases c_1 : (F 88) ≤ x2
  · have hm := (if_pos c_1).symm.trans hm
    exact (cn_X10_behindGap_130 fu x2 F G hm)
  · have hm := (if_neg c_1).symm.trans hm
    exact (cn_X10_behindGap_22 fu ag_4 hagn_4 x2 x3 F G hm)
theorem cw_X10_behindGap_11 (fu : Nat) {res : Int32 × PF × PG} (C : cMC p R s m args c A v RX10 cX10_behindGap 7 2 43 (xn res.2.1 - xn K0)) (hret : ∀ (b1 : Nat) (H1 : Heap) (locs1 : List Loc) (ls1 : Array Slot) (pc : Nat), cMW s A v a b1 K0 res.2.1 res.2.2 H1 locs1 → narrow .int (.int res.1) = .int res.1 → decode cX10_behindGap pc = .ok (.ireturn, 1) → W p l e R s m args below meth c H1 locs1 (xn res.2.1 - xn K0) (2 * (xn res.2.1 - xn K0)) Q (F0 m pc ls1 [.int res.1])) (ag_4 : Int32 → Int32 → PF → PG → PR) (hag_4 : ∀ (x2 : Int32) (x3 : Int32) (F : PF) (G : PG), ag_4 x2 x3 F G = some res → ∀ (b : Nat) (H : Heap) (locs : List Loc) (ls : Array Slot), cMW s A v a b K0 F G H locs → lv_has ls 7 [(0, .ref (a 210)), (2, .int x2), (3, .int x3)] → W p l e R s m args below meth c H locs (xn F - xn K0) (2 * (xn F - xn K0)) Q (F0 m 4 ls [])) (hagn_4 : ∀ (x2 : Int32) (x3 : Int32) (F : PF) (G : PG), ag_4 x2 x3 F G = some res → xn F ≤ xn res.2.1) (x2 : Int32) (x3 : Int32) (F : PF) (G : PG) (hm : cb_X10_behindGap_11 fu ag_4 x2 x3 F G = some res) {b : Nat} {H : Heap} {locs : List Loc} (hw : cMW s A v a b K0 F G H locs) {ls : Array Slot} (hl : lv_has ls 7 [(0, .ref (a 210)), (2, .int x2), (3, .int x3)]) : W p l e R s m args below meth c H locs (xn F - xn K0) (2 * (xn F - xn K0)) Q (F0 m 11 ls []) := by
  have hx := C.1
  have hb := C.2.1
  unfold cb_X10_behindGap_11 at hm
  refine lv_iload_n hx hb dX10_behindGap_11 rfl (lv_at hl 1 rfl) ?_
  refine lv_aload_n hx hb dX10_behindGap_12 rfl (lv_at hl 0 rfl) ?_
  refine cg_X10_33 C hw dX10_behindGap_13 ?_
  refine cg_X10_50 C hw dX10_behindGap_16 ?_
  refine lv_icmp_ge (tgt := 130) hx hb dX10_behindGap_19 (by decide) (fun c_1 => ?_) (fun c_1 => ?_)
  · have hm := (if_pos c_1).symm.trans hm
    exact cw_X10_behindGap_130 fu C hret x2 F G hm hw (lv_sub hl [1] rfl)
  · have hm := (if_neg c_1).symm.trans hm
    exact cw_X10_behindGap_22 fu C hret ag_4 hag_4 hagn_4 x2 x3 F G hm hw (lv_sub hl [0, 1, 2] rfl)
theorem cn_X10_behindGap_4 (fu : Nat) {res : Int32 × PF × PG} (ag_4 : Int32 → Int32 → PF → PG → PR) (hagn_4 : ∀ (x2 : Int32) (x3 : Int32) (F : PF) (G : PG), ag_4 x2 x3 F G = some res → xn F ≤ xn res.2.1) (x2 : Int32) (x3 : Int32) (F : PF) (G : PG) (hm : cb_X10_behindGap_4 fu ag_4 x2 x3 F G = some res) : xn F ≤ xn res.2.1 := by
  unfold cb_X10_behindGap_4 at hm
  by_cases c_1 : (4000 : Int32) ≤ x3
  · have hm := (if_pos c_1).symm.trans hm
    exact (cn_X10_behindGap_130 fu x2 F G hm)
  · have hm := (if_neg c_1).symm.trans hm
    exact (cn_X10_behindGap_11 fu ag_4 hagn_4 x2 x3 F G hm)
theorem cw_X10_behindGap_4 (fu : Nat) {res : Int32 × PF × PG} (C : cMC p R s m args c A v RX10 cX10_behindGap 7 2 43 (xn res.2.1 - xn K0)) (hret : ∀ (b1 : Nat) (H1 : Heap) (locs1 : List Loc) (ls1 : Array Slot) (pc : Nat), cMW s A v a b1 K0 res.2.1 res.2.2 H1 locs1 → narrow .int (.int res.1) = .int res.1 → decode cX10_behindGap pc = .ok (.ireturn, 1) → W p l e R s m args below meth c H1 locs1 (xn res.2.1 - xn K0) (2 * (xn res.2.1 - xn K0)) Q (F0 m pc ls1 [.int res.1])) (ag_4 : Int32 → Int32 → PF → PG → PR) (hag_4 : ∀ (x2 : Int32) (x3 : Int32) (F : PF) (G : PG), ag_4 x2 x3 F G = some res → ∀ (b : Nat) (H : Heap) (locs : List Loc) (ls : Array Slot), cMW s A v a b K0 F G H locs → lv_has ls 7 [(0, .ref (a 210)), (2, .int x2), (3, .int x3)] → W p l e R s m args below meth c H locs (xn F - xn K0) (2 * (xn F - xn K0)) Q (F0 m 4 ls [])) (hagn_4 : ∀ (x2 : Int32) (x3 : Int32) (F : PF) (G : PG), ag_4 x2 x3 F G = some res → xn F ≤ xn res.2.1) (x2 : Int32) (x3 : Int32) (F : PF) (G : PG) (hm : cb_X10_behindGap_4 fu ag_4 x2 x3 F G = some res) {b : Nat} {H : Heap} {locs : List Loc} (hw : cMW s A v a b K0 F G H locs) {ls : Array Slot} (hl : lv_has ls 7 [(0, .ref (a 210)), (2, .int x2), (3, .int x3)]) : W p l e R s m args below meth c H locs (xn F - xn K0) (2 * (xn F - xn K0)) Q (F0 m 4 ls []) := by
  have hx := C.1
  have hb := C.2.1
  unfold cb_X10_behindGap_4 at hm
  refine lv_iload_n hx hb dX10_behindGap_4 rfl (lv_at hl 2 rfl) ?_
  refine lv_sipush (v := 4000) hx hb dX10_behindGap_5 (by decide) ?_
  refine lv_icmp_ge (tgt := 130) hx hb dX10_behindGap_8 (by decide) (fun c_1 => ?_) (fun c_1 => ?_)
  · have hm := (if_pos c_1).symm.trans hm
    exact cw_X10_behindGap_130 fu C hret x2 F G hm hw (lv_sub hl [1] rfl)
  · have hm := (if_neg c_1).symm.trans hm
    exact cw_X10_behindGap_11 fu C hret ag_4 hag_4 hagn_4 x2 x3 F G hm hw (lv_sub hl [0, 1, 2] rfl)
theorem cnl_X10_behindGap_4 (fu : Nat) {res : Int32 × PF × PG} : ∀ (n : Nat) (x2 : Int32) (x3 : Int32) (F : PF) (G : PG) (hm : cl_X10_behindGap_4 fu n x2 x3 F G = some res), xn F ≤ xn res.2.1 := by
  intro n
  induction n with
  | zero =>
    intro x2 x3 F G hm
    exact no_elim (show (none : PR) = some res from hm)
  | succ n ih =>
    intro x2 x3 F G hm
    exact cn_X10_behindGap_4 fu (cl_X10_behindGap_4 fu n) (fun x2 x3 F G hm => ih x2 x3 F G hm) x2 x3 F G hm
theorem cwl_X10_behindGap_4 (fu : Nat) {res : Int32 × PF × PG} (C : cMC p R s m args c A v RX10 cX10_behindGap 7 2 43 (xn res.2.1 - xn K0)) (hret : ∀ (b1 : Nat) (H1 : Heap) (locs1 : List Loc) (ls1 : Array Slot) (pc : Nat), cMW s A v a b1 K0 res.2.1 res.2.2 H1 locs1 → narrow .int (.int res.1) = .int res.1 → decode cX10_behindGap pc = .ok (.ireturn, 1) → W p l e R s m args below meth c H1 locs1 (xn res.2.1 - xn K0) (2 * (xn res.2.1 - xn K0)) Q (F0 m pc ls1 [.int res.1])) : ∀ (n : Nat) (x2 : Int32) (x3 : Int32) (F : PF) (G : PG) (hm : cl_X10_behindGap_4 fu n x2 x3 F G = some res) {b : Nat} {H : Heap} {locs : List Loc} (hw : cMW s A v a b K0 F G H locs) {ls : Array Slot} (hl : lv_has ls 7 [(0, .ref (a 210)), (2, .int x2), (3, .int x3)]), W p l e R s m args below meth c H locs (xn F - xn K0) (2 * (xn F - xn K0)) Q (F0 m 4 ls []) := by
  intro n
  induction n with
  | zero =>
    intro x2 x3 F G hm
    exact no_elim (show (none : PR) = some res from hm)
  | succ n ih =>
    intro x2 x3 F G hm b H locs hw ls hl
    exact cw_X10_behindGap_4 fu C hret (cl_X10_behindGap_4 fu n) (fun x2 x3 F G hm b H locs ls hw hl => ih x2 x3 F G hm hw hl) (fun x2 x3 F G hm => cnl_X10_behindGap_4 fu n x2 x3 F G hm) x2 x3 F G hm hw hl
theorem cn_X10_behindGap_0 (fu : Nat) {res : Int32 × PF × PG} (x1 : Int32) (F : PF) (G : PG) (hm : cb_X10_behindGap_0 fu x1 F G = some res) : xn F ≤ xn res.2.1 := by
  unfold cb_X10_behindGap_0 at hm
  exact (cnl_X10_behindGap_4 fu fu x1 0 F G hm)
theorem cw_X10_behindGap_0 (fu : Nat) {res : Int32 × PF × PG} (C : cMC p R s m args c A v RX10 cX10_behindGap 7 2 43 (xn res.2.1 - xn K0)) (hret : ∀ (b1 : Nat) (H1 : Heap) (locs1 : List Loc) (ls1 : Array Slot) (pc : Nat), cMW s A v a b1 K0 res.2.1 res.2.2 H1 locs1 → narrow .int (.int res.1) = .int res.1 → decode cX10_behindGap pc = .ok (.ireturn, 1) → W p l e R s m args below meth c H1 locs1 (xn res.2.1 - xn K0) (2 * (xn res.2.1 - xn K0)) Q (F0 m pc ls1 [.int res.1])) (x1 : Int32) (F : PF) (G : PG) (hm : cb_X10_behindGap_0 fu x1 F G = some res) {b : Nat} {H : Heap} {locs : List Loc} (hw : cMW s A v a b K0 F G H locs) {ls : Array Slot} (hl : lv_has ls 7 [(0, .ref (a 210)), (1, .int x1)]) : W p l e R s m args below meth c H locs (xn F - xn K0) (2 * (xn F - xn K0)) Q (F0 m 0 ls []) := by
  have hx := C.1
  have hb := C.2.1
  unfold cb_X10_behindGap_0 at hm
  refine lv_iload_n hx hb dX10_behindGap_0 rfl (lv_at hl 1 rfl) ?_
  refine lv_istore_n (lv' := [(2, .int x1), (0, .ref (a 210)), (1, .int x1)]) hx hb dX10_behindGap_1 rfl hl (by decide) rfl (fun ls hl => ?_)
  refine lv_iconst (v := 0) hx hb dX10_behindGap_2 (by decide) ?_
  refine lv_istore_n (lv' := [(3, .int 0), (2, .int x1), (0, .ref (a 210)), (1, .int x1)]) hx hb dX10_behindGap_3 rfl hl (by decide) rfl (fun ls hl => ?_)
  exact cwl_X10_behindGap_4 fu C hret fu x1 0 F G hm hw (lv_sub hl [2, 1, 0] rfl)
theorem cn_X10_behindGap (fu : Nat) (x1 : Int32) (F : PF) (G : PG) (q : Int32 × PF × PG) (hm : cf_X10_behindGap fu x1 F G = some q) : xn F ≤ xn q.2.1 := cn_X10_behindGap_0 fu x1 F G hm
theorem ck_X10_behindGap (l : Launch) (v : EV) (a : Nat → Nat) (b sz : Nat) (fu : Nat) (x1 : Int32) (F : PF) (G : PG) (r : Int32) (F1 : PF) (G1 : PG) (hm : cf_X10_behindGap fu x1 F G = some (r, F1, G1)) : cMI l yX10_behindGap cX10_behindGap 7 (some .int) 2 43 v a b sz [.ref (a 210), .int x1] F G r F1 G1 := cMI.of (ty := .int) (by decide) rfl (Nat.le_of_ble_eq_true rfl) (fun p e R s m args below meth c Q A H locs ls C hw hl hret => cw_X10_behindGap_0 fu (res := (r, F1, G1)) C hret x1 F G hm hw hl)
def cb_X10_isDigit_17 (fu : Nat) (z0 : Int32) (F : PF) (G : PG) : PR := if b01 z0 = true then (some (z0, F, G)) else none
def cb_X10_isDigit_16 (fu : Nat) (F : PF) (G : PG) : PR := cb_X10_isDigit_17 fu 0 F G
def cb_X10_isDigit_12 (fu : Nat) (F : PF) (G : PG) : PR := cb_X10_isDigit_17 fu 1 F G
def cb_X10_isDigit_6 (fu : Nat) (x0 : Int32) (F : PF) (G : PG) : PR := if (57 : Int32) < x0 then cb_X10_isDigit_16 fu F G else cb_X10_isDigit_12 fu F G
def cb_X10_isDigit_0 (fu : Nat) (x0 : Int32) (F : PF) (G : PG) : PR := if x0 < (48 : Int32) then cb_X10_isDigit_16 fu F G else cb_X10_isDigit_6 fu x0 F G
def cf_X10_isDigit (fu : Nat) (x0 : Int32) (F : PF) (G : PG) : PR := cb_X10_isDigit_0 fu x0 F G
theorem cn_X10_isDigit_17 (fu : Nat) {res : Int32 × PF × PG} (z0 : Int32) (F : PF) (G : PG) (hm : cb_X10_isDigit_17 fu z0 F G = some res) : xn F ≤ xn res.2.1 := by
  unfold cb_X10_isDigit_17 at hm
  have hm := (b01_elim hm).2
  obtain rfl := Option.some.inj hm
  exact Nat.le_refl _
theorem cw_X10_isDigit_17 (fu : Nat) {res : Int32 × PF × PG} (C : cMC p R s m args c A v RX10 cX10_isDigit 1 0 0 (xn res.2.1 - xn K0)) (hret : ∀ (b1 : Nat) (H1 : Heap) (locs1 : List Loc) (ls1 : Array Slot) (pc : Nat), cMW s A v a b1 K0 res.2.1 res.2.2 H1 locs1 → narrow .boolean (.int res.1) = .int res.1 → decode cX10_isDigit pc = .ok (.ireturn, 1) → W p l e R s m args below meth c H1 locs1 (xn res.2.1 - xn K0) (2 * (xn res.2.1 - xn K0)) Q (F0 m pc ls1 [.int res.1])) (z0 : Int32) (F : PF) (G : PG) (hm : cb_X10_isDigit_17 fu z0 F G = some res) {b : Nat} {H : Heap} {locs : List Loc} (hw : cMW s A v a b K0 F G H locs) {ls : Array Slot} (hl : lv_has ls 1 []) : W p l e R s m args below meth c H locs (xn F - xn K0) (2 * (xn F - xn K0)) Q (F0 m 17 ls [.int z0]) := by
  have hx := C.1
  have hb := C.2.1
  unfold cb_X10_isDigit_17 at hm
  obtain ⟨hz, hm⟩ := b01_elim hm
  obtain rfl := Option.some.inj hm
  exact hret _ _ _ _ _ hw (b01_nar hz) dX10_isDigit_17
theorem cn_X10_isDigit_16 (fu : Nat) {res : Int32 × PF × PG} (F : PF) (G : PG) (hm : cb_X10_isDigit_16 fu F G = some res) : xn F ≤ xn res.2.1 := by
  unfold cb_X10_isDigit_16 at hm
  exact (cn_X10_isDigit_17 fu 0 F G hm)
theorem cw_X10_isDigit_16 (fu : Nat) {res : Int32 × PF × PG} (C : cMC p R s m args c A v RX10 cX10_isDigit 1 0 0 (xn res.2.1 - xn K0)) (hret : ∀ (b1 : Nat) (H1 : Heap) (locs1 : List Loc) (ls1 : Array Slot) (pc : Nat), cMW s A v a b1 K0 res.2.1 res.2.2 H1 locs1 → narrow .boolean (.int res.1) = .int res.1 → decode cX10_isDigit pc = .ok (.ireturn, 1) → W p l e R s m args below meth c H1 locs1 (xn res.2.1 - xn K0) (2 * (xn res.2.1 - xn K0)) Q (F0 m pc ls1 [.int res.1])) (F : PF) (G : PG) (hm : cb_X10_isDigit_16 fu F G = some res) {b : Nat} {H : Heap} {locs : List Loc} (hw : cMW s A v a b K0 F G H locs) {ls : Array Slot} (hl : lv_has ls 1 []) : W p l e R s m args below meth c H locs (xn F - xn K0) (2 * (xn F - xn K0)) Q (F0 m 16 ls []) := by
  have hx := C.1
  have hb := C.2.1
  unfold cb_X10_isDigit_16 at hm
  refine lv_iconst (v := 0) hx hb dX10_isDigit_16 (by decide) ?_
  exact cw_X10_isDigit_17 fu C hret 0 F G hm hw (lv_sub hl [] rfl)
theorem cn_X10_isDigit_12 (fu : Nat) {res : Int32 × PF × PG} (F : PF) (G : PG) (hm : cb_X10_isDigit_12 fu F G = some res) : xn F ≤ xn res.2.1 := by
  unfold cb_X10_isDigit_12 at hm
  exact (cn_X10_isDigit_17 fu 1 F G hm)
theorem cw_X10_isDigit_12 (fu : Nat) {res : Int32 × PF × PG} (C : cMC p R s m args c A v RX10 cX10_isDigit 1 0 0 (xn res.2.1 - xn K0)) (hret : ∀ (b1 : Nat) (H1 : Heap) (locs1 : List Loc) (ls1 : Array Slot) (pc : Nat), cMW s A v a b1 K0 res.2.1 res.2.2 H1 locs1 → narrow .boolean (.int res.1) = .int res.1 → decode cX10_isDigit pc = .ok (.ireturn, 1) → W p l e R s m args below meth c H1 locs1 (xn res.2.1 - xn K0) (2 * (xn res.2.1 - xn K0)) Q (F0 m pc ls1 [.int res.1])) (F : PF) (G : PG) (hm : cb_X10_isDigit_12 fu F G = some res) {b : Nat} {H : Heap} {locs : List Loc} (hw : cMW s A v a b K0 F G H locs) {ls : Array Slot} (hl : lv_has ls 1 []) : W p l e R s m args below meth c H locs (xn F - xn K0) (2 * (xn F - xn K0)) Q (F0 m 12 ls []) := by
  have hx := C.1
  have hb := C.2.1
  unfold cb_X10_isDigit_12 at hm
  refine lv_iconst (v := 1) hx hb dX10_isDigit_12 (by decide) ?_
  refine lv_goto (tgt := 17) hx hb dX10_isDigit_13 (by decide) ?_
  exact cw_X10_isDigit_17 fu C hret 1 F G hm hw (lv_sub hl [] rfl)
theorem cn_X10_isDigit_6 (fu : Nat) {res : Int32 × PF × PG} (x0 : Int32) (F : PF) (G : PG) (hm : cb_X10_isDigit_6 fu x0 F G = some res) : xn F ≤ xn res.2.1 := by
  unfold cb_X10_isDigit_6 at hm
  by_cases c_1 : (57 : Int32) < x0
  · have hm := (if_pos c_1).symm.trans hm
    exact (cn_X10_isDigit_16 fu F G hm)
  · have hm := (if_neg c_1).symm.trans hm
    exact (cn_X10_isDigit_12 fu F G hm)
theorem cw_X10_isDigit_6 (fu : Nat) {res : Int32 × PF × PG} (C : cMC p R s m args c A v RX10 cX10_isDigit 1 0 0 (xn res.2.1 - xn K0)) (hret : ∀ (b1 : Nat) (H1 : Heap) (locs1 : List Loc) (ls1 : Array Slot) (pc : Nat), cMW s A v a b1 K0 res.2.1 res.2.2 H1 locs1 → narrow .boolean (.int res.1) = .int res.1 → decode cX10_isDigit pc = .ok (.ireturn, 1) → W p l e R s m args below meth c H1 locs1 (xn res.2.1 - xn K0) (2 * (xn res.2.1 - xn K0)) Q (F0 m pc ls1 [.int res.1])) (x0 : Int32) (F : PF) (G : PG) (hm : cb_X10_isDigit_6 fu x0 F G = some res) {b : Nat} {H : Heap} {locs : List Loc} (hw : cMW s A v a b K0 F G H locs) {ls : Array Slot} (hl : lv_has ls 1 [(0, .int x0)]) : W p l e R s m args below meth c H locs (xn F - xn K0) (2 * (xn F - xn K0)) Q (F0 m 6 ls []) := by
  have hx := C.1
  have hb := C.2.1
  unfold cb_X10_isDigit_6 at hm
  refine lv_iload_n hx hb dX10_isDigit_6 rfl (lv_at hl 0 rfl) ?_
  refine lv_bipush (v := 57) hx hb dX10_isDigit_7 (by decide) ?_
  refine lv_icmp_gt (tgt := 16) hx hb dX10_isDigit_9 (by decide) (fun c_1 => ?_) (fun c_1 => ?_)
  · have hm := (if_pos c_1).symm.trans hm
    exact cw_X10_isDigit_16 fu C hret F G hm hw (lv_sub hl [] rfl)
  · have hm := (if_neg c_1).symm.trans hm
    exact cw_X10_isDigit_12 fu C hret F G hm hw (lv_sub hl [] rfl)
theorem cn_X10_isDigit_0 (fu : Nat) {res : Int32 × PF × PG} (x0 : Int32) (F : PF) (G : PG) (hm : cb_X10_isDigit_0 fu x0 F G = some res) : xn F ≤ xn res.2.1 := by
  unfold cb_X10_isDigit_0 at hm
  by_cases c_1 : x0 < (48 : Int32)
  · have hm := (if_pos c_1).symm.trans hm
    exact (cn_X10_isDigit_16 fu F G hm)
  · have hm := (if_neg c_1).symm.trans hm
    exact (cn_X10_isDigit_6 fu x0 F G hm)
theorem cw_X10_isDigit_0 (fu : Nat) {res : Int32 × PF × PG} (C : cMC p R s m args c A v RX10 cX10_isDigit 1 0 0 (xn res.2.1 - xn K0)) (hret : ∀ (b1 : Nat) (H1 : Heap) (locs1 : List Loc) (ls1 : Array Slot) (pc : Nat), cMW s A v a b1 K0 res.2.1 res.2.2 H1 locs1 → narrow .boolean (.int res.1) = .int res.1 → decode cX10_isDigit pc = .ok (.ireturn, 1) → W p l e R s m args below meth c H1 locs1 (xn res.2.1 - xn K0) (2 * (xn res.2.1 - xn K0)) Q (F0 m pc ls1 [.int res.1])) (x0 : Int32) (F : PF) (G : PG) (hm : cb_X10_isDigit_0 fu x0 F G = some res) {b : Nat} {H : Heap} {locs : List Loc} (hw : cMW s A v a b K0 F G H locs) {ls : Array Slot} (hl : lv_has ls 1 [(0, .int x0)]) : W p l e R s m args below meth c H locs (xn F - xn K0) (2 * (xn F - xn K0)) Q (F0 m 0 ls []) := by
  have hx := C.1
  have hb := C.2.1
  unfold cb_X10_isDigit_0 at hm
  refine lv_iload_n hx hb dX10_isDigit_0 rfl (lv_at hl 0 rfl) ?_
  refine lv_bipush (v := 48) hx hb dX10_isDigit_1 (by decide) ?_
  refine lv_icmp_lt (tgt := 16) hx hb dX10_isDigit_3 (by decide) (fun c_1 => ?_) (fun c_1 => ?_)
  · have hm := (if_pos c_1).symm.trans hm
    exact cw_X10_isDigit_16 fu C hret F G hm hw (lv_sub hl [] rfl)
  · have hm := (if_neg c_1).symm.trans hm
    exact cw_X10_isDigit_6 fu C hret x0 F G hm hw (lv_sub hl [0] rfl)
theorem cn_X10_isDigit (fu : Nat) (x0 : Int32) (F : PF) (G : PG) (q : Int32 × PF × PG) (hm : cf_X10_isDigit fu x0 F G = some q) : xn F ≤ xn q.2.1 := cn_X10_isDigit_0 fu x0 F G hm
theorem ck_X10_isDigit (l : Launch) (v : EV) (a : Nat → Nat) (b sz : Nat) (fu : Nat) (x0 : Int32) (F : PF) (G : PG) (r : Int32) (F1 : PF) (G1 : PG) (hm : cf_X10_isDigit fu x0 F G = some (r, F1, G1)) : cMI l yX10_isDigit cX10_isDigit 1 (some .boolean) 0 0 v a b sz [.int x0] F G r F1 G1 := cMI.of (ty := .boolean) (by decide) rfl (Nat.le_of_ble_eq_true rfl) (fun p e R s m args below meth c Q A H locs ls C hw hl hret => cw_X10_isDigit_0 fu (res := (r, F1, G1)) C hret x0 F G hm hw hl)
def cb_X10_isPart_42 (fu : Nat) (z0 : Int32) (F : PF) (G : PG) : PR := if b01 z0 = true then (some (z0, F, G)) else none
def cb_X10_isPart_37 (fu : Nat) (F : PF) (G : PG) : PR := cb_X10_isPart_42 fu 1 F G
def cb_X10_isPart_41 (fu : Nat) (F : PF) (G : PG) : PR := cb_X10_isPart_42 fu 0 F G
def cb_X10_isPart_31 (fu : Nat) (x0 : Int32) (F : PF) (G : PG) : PR := if x0 = (95 : Int32) then cb_X10_isPart_37 fu F G else cb_X10_isPart_41 fu F G
def cb_X10_isPart_25 (fu : Nat) (x0 : Int32) (F : PF) (G : PG) : PR := if x0 ≤ (90 : Int32) then cb_X10_isPart_37 fu F G else cb_X10_isPart_31 fu x0 F G
def cb_X10_isPart_19 (fu : Nat) (x0 : Int32) (F : PF) (G : PG) : PR := if x0 < (65 : Int32) then cb_X10_isPart_31 fu x0 F G else cb_X10_isPart_25 fu x0 F G
def cb_X10_isPart_13 (fu : Nat) (x0 : Int32) (F : PF) (G : PG) : PR := if x0 ≤ (122 : Int32) then cb_X10_isPart_37 fu F G else cb_X10_isPart_19 fu x0 F G
def cb_X10_isPart_7 (fu : Nat) (x0 : Int32) (F : PF) (G : PG) : PR := if x0 < (97 : Int32) then cb_X10_isPart_19 fu x0 F G else cb_X10_isPart_13 fu x0 F G
def cb_X10_isPart_4 (fu : Nat) (x0 : Int32) (z0 : Int32) (F : PF) (G : PG) : PR := if z0 = (0 : Int32) then cb_X10_isPart_7 fu x0 F G else cb_X10_isPart_37 fu F G
def cb_X10_isPart_0 (fu : Nat) (x0 : Int32) (F : PF) (G : PG) : PR := (cf_X10_isDigit fu x0 F G).bind (fun q => cb_X10_isPart_4 fu x0 q.1 q.2.1 q.2.2)
def cf_X10_isPart (fu : Nat) (x0 : Int32) (F : PF) (G : PG) : PR := cb_X10_isPart_0 fu x0 F G
theorem cn_X10_isPart_42 (fu : Nat) {res : Int32 × PF × PG} (z0 : Int32) (F : PF) (G : PG) (hm : cb_X10_isPart_42 fu z0 F G = some res) : xn F ≤ xn res.2.1 := by
  unfold cb_X10_isPart_42 at hm
  have hm := (b01_elim hm).2
  obtain rfl := Option.some.inj hm
  exact Nat.le_refl _
theorem cw_X10_isPart_42 (fu : Nat) {res : Int32 × PF × PG} (C : cMC p R s m args c A v RX10 cX10_isPart 1 1 20 (xn res.2.1 - xn K0)) (hret : ∀ (b1 : Nat) (H1 : Heap) (locs1 : List Loc) (ls1 : Array Slot) (pc : Nat), cMW s A v a b1 K0 res.2.1 res.2.2 H1 locs1 → narrow .boolean (.int res.1) = .int res.1 → decode cX10_isPart pc = .ok (.ireturn, 1) → W p l e R s m args below meth c H1 locs1 (xn res.2.1 - xn K0) (2 * (xn res.2.1 - xn K0)) Q (F0 m pc ls1 [.int res.1])) (z0 : Int32) (F : PF) (G : PG) (hm : cb_X10_isPart_42 fu z0 F G = some res) {b : Nat} {H : Heap} {locs : List Loc} (hw : cMW s A v a b K0 F G H locs) {ls : Array Slot} (hl : lv_has ls 1 []) : W p l e R s m args below meth c H locs (xn F - xn K0) (2 * (xn F - xn K0)) Q (F0 m 42 ls [.int z0]) := by
  have hx := C.1
  have hb := C.2.1
  unfold cb_X10_isPart_42 at hm
  obtain ⟨hz, hm⟩ := b01_elim hm
  obtain rfl := Option.some.inj hm
  exact hret _ _ _ _ _ hw (b01_nar hz) dX10_isPart_42
theorem cn_X10_isPart_37 (fu : Nat) {res : Int32 × PF × PG} (F : PF) (G : PG) (hm : cb_X10_isPart_37 fu F G = some res) : xn F ≤ xn res.2.1 := by
  unfold cb_X10_isPart_37 at hm
  exact (cn_X10_isPart_42 fu 1 F G hm)
theorem cw_X10_isPart_37 (fu : Nat) {res : Int32 × PF × PG} (C : cMC p R s m args c A v RX10 cX10_isPart 1 1 20 (xn res.2.1 - xn K0)) (hret : ∀ (b1 : Nat) (H1 : Heap) (locs1 : List Loc) (ls1 : Array Slot) (pc : Nat), cMW s A v a b1 K0 res.2.1 res.2.2 H1 locs1 → narrow .boolean (.int res.1) = .int res.1 → decode cX10_isPart pc = .ok (.ireturn, 1) → W p l e R s m args below meth c H1 locs1 (xn res.2.1 - xn K0) (2 * (xn res.2.1 - xn K0)) Q (F0 m pc ls1 [.int res.1])) (F : PF) (G : PG) (hm : cb_X10_isPart_37 fu F G = some res) {b : Nat} {H : Heap} {locs : List Loc} (hw : cMW s A v a b K0 F G H locs) {ls : Array Slot} (hl : lv_has ls 1 []) : W p l e R s m args below meth c H locs (xn F - xn K0) (2 * (xn F - xn K0)) Q (F0 m 37 ls []) := by
  have hx := C.1
  have hb := C.2.1
  unfold cb_X10_isPart_37 at hm
  refine lv_iconst (v := 1) hx hb dX10_isPart_37 (by decide) ?_
  refine lv_goto (tgt := 42) hx hb dX10_isPart_38 (by decide) ?_
  exact cw_X10_isPart_42 fu C hret 1 F G hm hw (lv_sub hl [] rfl)
theorem cn_X10_isPart_41 (fu : Nat) {res : Int32 × PF × PG} (F : PF) (G : PG) (hm : cb_X10_isPart_41 fu F G = some res) : xn F ≤ xn res.2.1 := by
  unfold cb_X10_isPart_41 at hm
  exact (cn_X10_isPart_42 fu 0 F G hm)
theorem cw_X10_isPart_41 (fu : Nat) {res : Int32 × PF × PG} (C : cMC p R s m args c A v RX10 cX10_isPart 1 1 20 (xn res.2.1 - xn K0)) (hret : ∀ (b1 : Nat) (H1 : Heap) (locs1 : List Loc) (ls1 : Array Slot) (pc : Nat), cMW s A v a b1 K0 res.2.1 res.2.2 H1 locs1 → narrow .boolean (.int res.1) = .int res.1 → decode cX10_isPart pc = .ok (.ireturn, 1) → W p l e R s m args below meth c H1 locs1 (xn res.2.1 - xn K0) (2 * (xn res.2.1 - xn K0)) Q (F0 m pc ls1 [.int res.1])) (F : PF) (G : PG) (hm : cb_X10_isPart_41 fu F G = some res) {b : Nat} {H : Heap} {locs : List Loc} (hw : cMW s A v a b K0 F G H locs) {ls : Array Slot} (hl : lv_has ls 1 []) : W p l e R s m args below meth c H locs (xn F - xn K0) (2 * (xn F - xn K0)) Q (F0 m 41 ls []) := by
  have hx := C.1
  have hb := C.2.1
  unfold cb_X10_isPart_41 at hm
  refine lv_iconst (v := 0) hx hb dX10_isPart_41 (by decide) ?_
  exact cw_X10_isPart_42 fu C hret 0 F G hm hw (lv_sub hl [] rfl)
theorem cn_X10_isPart_31 (fu : Nat) {res : Int32 × PF × PG} (x0 : Int32) (F : PF) (G : PG) (hm : cb_X10_isPart_31 fu x0 F G = some res) : xn F ≤ xn res.2.1 := by
  unfold cb_X10_isPart_31 at hm
  by_cases c_1 : x0 = (95 : Int32)
  · have hm := (if_pos c_1).symm.trans hm
    exact (cn_X10_isPart_37 fu F G hm)
  · have hm := (if_neg c_1).symm.trans hm
    exact (cn_X10_isPart_41 fu F G hm)
theorem cw_X10_isPart_31 (fu : Nat) {res : Int32 × PF × PG} (C : cMC p R s m args c A v RX10 cX10_isPart 1 1 20 (xn res.2.1 - xn K0)) (hret : ∀ (b1 : Nat) (H1 : Heap) (locs1 : List Loc) (ls1 : Array Slot) (pc : Nat), cMW s A v a b1 K0 res.2.1 res.2.2 H1 locs1 → narrow .boolean (.int res.1) = .int res.1 → decode cX10_isPart pc = .ok (.ireturn, 1) → W p l e R s m args below meth c H1 locs1 (xn res.2.1 - xn K0) (2 * (xn res.2.1 - xn K0)) Q (F0 m pc ls1 [.int res.1])) (x0 : Int32) (F : PF) (G : PG) (hm : cb_X10_isPart_31 fu x0 F G = some res) {b : Nat} {H : Heap} {locs : List Loc} (hw : cMW s A v a b K0 F G H locs) {ls : Array Slot} (hl : lv_has ls 1 [(0, .int x0)]) : W p l e R s m args below meth c H locs (xn F - xn K0) (2 * (xn F - xn K0)) Q (F0 m 31 ls []) := by
  have hx := C.1
  have hb := C.2.1
  unfold cb_X10_isPart_31 at hm
  refine lv_iload_n hx hb dX10_isPart_31 rfl (lv_at hl 0 rfl) ?_
  refine lv_bipush (v := 95) hx hb dX10_isPart_32 (by decide) ?_
  refine lv_icmp_ne (tgt := 41) hx hb dX10_isPart_34 (by decide) (fun c_1 => ?_) (fun c_1 => ?_)
  · have hm := (if_neg c_1).symm.trans hm
    exact cw_X10_isPart_41 fu C hret F G hm hw (lv_sub hl [] rfl)
  · have hm := (if_pos c_1).symm.trans hm
    exact cw_X10_isPart_37 fu C hret F G hm hw (lv_sub hl [] rfl)
theorem cn_X10_isPart_25 (fu : Nat) {res : Int32 × PF × PG} (x0 : Int32) (F : PF) (G : PG) (hm : cb_X10_isPart_25 fu x0 F G = some res) : xn F ≤ xn res.2.1 := by
  unfold cb_X10_isPart_25 at hm
  by_cases c_1 : x0 ≤ (90 : Int32)
  · have hm := (if_pos c_1).symm.trans hm
    exact (cn_X10_isPart_37 fu F G hm)
  · have hm := (if_neg c_1).symm.trans hm
    exact (cn_X10_isPart_31 fu x0 F G hm)
theorem cw_X10_isPart_25 (fu : Nat) {res : Int32 × PF × PG} (C : cMC p R s m args c A v RX10 cX10_isPart 1 1 20 (xn res.2.1 - xn K0)) (hret : ∀ (b1 : Nat) (H1 : Heap) (locs1 : List Loc) (ls1 : Array Slot) (pc : Nat), cMW s A v a b1 K0 res.2.1 res.2.2 H1 locs1 → narrow .boolean (.int res.1) = .int res.1 → decode cX10_isPart pc = .ok (.ireturn, 1) → W p l e R s m args below meth c H1 locs1 (xn res.2.1 - xn K0) (2 * (xn res.2.1 - xn K0)) Q (F0 m pc ls1 [.int res.1])) (x0 : Int32) (F : PF) (G : PG) (hm : cb_X10_isPart_25 fu x0 F G = some res) {b : Nat} {H : Heap} {locs : List Loc} (hw : cMW s A v a b K0 F G H locs) {ls : Array Slot} (hl : lv_has ls 1 [(0, .int x0)]) : W p l e R s m args below meth c H locs (xn F - xn K0) (2 * (xn F - xn K0)) Q (F0 m 25 ls []) := by
  have hx := C.1
  have hb := C.2.1
  unfold cb_X10_isPart_25 at hm
  refine lv_iload_n hx hb dX10_isPart_25 rfl (lv_at hl 0 rfl) ?_
  refine lv_bipush (v := 90) hx hb dX10_isPart_26 (by decide) ?_
  refine lv_icmp_le (tgt := 37) hx hb dX10_isPart_28 (by decide) (fun c_1 => ?_) (fun c_1 => ?_)
  · have hm := (if_pos c_1).symm.trans hm
    exact cw_X10_isPart_37 fu C hret F G hm hw (lv_sub hl [] rfl)
  · have hm := (if_neg c_1).symm.trans hm
    exact cw_X10_isPart_31 fu C hret x0 F G hm hw (lv_sub hl [0] rfl)
theorem cn_X10_isPart_19 (fu : Nat) {res : Int32 × PF × PG} (x0 : Int32) (F : PF) (G : PG) (hm : cb_X10_isPart_19 fu x0 F G = some res) : xn F ≤ xn res.2.1 := by
  unfold cb_X10_isPart_19 at hm
  by_cases c_1 : x0 < (65 : Int32)
  · have hm := (if_pos c_1).symm.trans hm
    exact (cn_X10_isPart_31 fu x0 F G hm)
  · have hm := (if_neg c_1).symm.trans hm
    exact (cn_X10_isPart_25 fu x0 F G hm)
theorem cw_X10_isPart_19 (fu : Nat) {res : Int32 × PF × PG} (C : cMC p R s m args c A v RX10 cX10_isPart 1 1 20 (xn res.2.1 - xn K0)) (hret : ∀ (b1 : Nat) (H1 : Heap) (locs1 : List Loc) (ls1 : Array Slot) (pc : Nat), cMW s A v a b1 K0 res.2.1 res.2.2 H1 locs1 → narrow .boolean (.int res.1) = .int res.1 → decode cX10_isPart pc = .ok (.ireturn, 1) → W p l e R s m args below meth c H1 locs1 (xn res.2.1 - xn K0) (2 * (xn res.2.1 - xn K0)) Q (F0 m pc ls1 [.int res.1])) (x0 : Int32) (F : PF) (G : PG) (hm : cb_X10_isPart_19 fu x0 F G = some res) {b : Nat} {H : Heap} {locs : List Loc} (hw : cMW s A v a b K0 F G H locs) {ls : Array Slot} (hl : lv_has ls 1 [(0, .int x0)]) : W p l e R s m args below meth c H locs (xn F - xn K0) (2 * (xn F - xn K0)) Q (F0 m 19 ls []) := by
  have hx := C.1
  have hb := C.2.1
  unfold cb_X10_isPart_19 at hm
  refine lv_iload_n hx hb dX10_isPart_19 rfl (lv_at hl 0 rfl) ?_
  refine lv_bipush (v := 65) hx hb dX10_isPart_20 (by decide) ?_
  refine lv_icmp_lt (tgt := 31) hx hb dX10_isPart_22 (by decide) (fun c_1 => ?_) (fun c_1 => ?_)
  · have hm := (if_pos c_1).symm.trans hm
    exact cw_X10_isPart_31 fu C hret x0 F G hm hw (lv_sub hl [0] rfl)
  · have hm := (if_neg c_1).symm.trans hm
    exact cw_X10_isPart_25 fu C hret x0 F G hm hw (lv_sub hl [0] rfl)
theorem cn_X10_isPart_13 (fu : Nat) {res : Int32 × PF × PG} (x0 : Int32) (F : PF) (G : PG) (hm : cb_X10_isPart_13 fu x0 F G = some res) : xn F ≤ xn res.2.1 := by
  unfold cb_X10_isPart_13 at hm
  by_cases c_1 : x0 ≤ (122 : Int32)
  · have hm := (if_pos c_1).symm.trans hm
    exact (cn_X10_isPart_37 fu F G hm)
  · have hm := (if_neg c_1).symm.trans hm
    exact (cn_X10_isPart_19 fu x0 F G hm)
theorem cw_X10_isPart_13 (fu : Nat) {res : Int32 × PF × PG} (C : cMC p R s m args c A v RX10 cX10_isPart 1 1 20 (xn res.2.1 - xn K0)) (hret : ∀ (b1 : Nat) (H1 : Heap) (locs1 : List Loc) (ls1 : Array Slot) (pc : Nat), cMW s A v a b1 K0 res.2.1 res.2.2 H1 locs1 → narrow .boolean (.int res.1) = .int res.1 → decode cX10_isPart pc = .ok (.ireturn, 1) → W p l e R s m args below meth c H1 locs1 (xn res.2.1 - xn K0) (2 * (xn res.2.1 - xn K0)) Q (F0 m pc ls1 [.int res.1])) (x0 : Int32) (F : PF) (G : PG) (hm : cb_X10_isPart_13 fu x0 F G = some res) {b : Nat} {H : Heap} {locs : List Loc} (hw : cMW s A v a b K0 F G H locs) {ls : Array Slot} (hl : lv_has ls 1 [(0, .int x0)]) : W p l e R s m args below meth c H locs (xn F - xn K0) (2 * (xn F - xn K0)) Q (F0 m 13 ls []) := by
  have hx := C.1
  have hb := C.2.1
  unfold cb_X10_isPart_13 at hm
  refine lv_iload_n hx hb dX10_isPart_13 rfl (lv_at hl 0 rfl) ?_
  refine lv_bipush (v := 122) hx hb dX10_isPart_14 (by decide) ?_
  refine lv_icmp_le (tgt := 37) hx hb dX10_isPart_16 (by decide) (fun c_1 => ?_) (fun c_1 => ?_)
  · have hm := (if_pos c_1).symm.trans hm
    exact cw_X10_isPart_37 fu C hret F G hm hw (lv_sub hl [] rfl)
  · have hm := (if_neg c_1).symm.trans hm
    exact cw_X10_isPart_19 fu C hret x0 F G hm hw (lv_sub hl [0] rfl)
theorem cn_X10_isPart_7 (fu : Nat) {res : Int32 × PF × PG} (x0 : Int32) (F : PF) (G : PG) (hm : cb_X10_isPart_7 fu x0 F G = some res) : xn F ≤ xn res.2.1 := by
  unfold cb_X10_isPart_7 at hm
  by_cases c_1 : x0 < (97 : Int32)
  · have hm := (if_pos c_1).symm.trans hm
    exact (cn_X10_isPart_19 fu x0 F G hm)
  · have hm := (if_neg c_1).symm.trans hm
    exact (cn_X10_isPart_13 fu x0 F G hm)
theorem cw_X10_isPart_7 (fu : Nat) {res : Int32 × PF × PG} (C : cMC p R s m args c A v RX10 cX10_isPart 1 1 20 (xn res.2.1 - xn K0)) (hret : ∀ (b1 : Nat) (H1 : Heap) (locs1 : List Loc) (ls1 : Array Slot) (pc : Nat), cMW s A v a b1 K0 res.2.1 res.2.2 H1 locs1 → narrow .boolean (.int res.1) = .int res.1 → decode cX10_isPart pc = .ok (.ireturn, 1) → W p l e R s m args below meth c H1 locs1 (xn res.2.1 - xn K0) (2 * (xn res.2.1 - xn K0)) Q (F0 m pc ls1 [.int res.1])) (x0 : Int32) (F : PF) (G : PG) (hm : cb_X10_isPart_7 fu x0 F G = some res) {b : Nat} {H : Heap} {locs : List Loc} (hw : cMW s A v a b K0 F G H locs) {ls : Array Slot} (hl : lv_has ls 1 [(0, .int x0)]) : W p l e R s m args below meth c H locs (xn F - xn K0) (2 * (xn F - xn K0)) Q (F0 m 7 ls []) := by
  have hx := C.1
  have hb := C.2.1
  unfold cb_X10_isPart_7 at hm
  refine lv_iload_n hx hb dX10_isPart_7 rfl (lv_at hl 0 rfl) ?_
  refine lv_bipush (v := 97) hx hb dX10_isPart_8 (by decide) ?_
  refine lv_icmp_lt (tgt := 19) hx hb dX10_isPart_10 (by decide) (fun c_1 => ?_) (fun c_1 => ?_)
  · have hm := (if_pos c_1).symm.trans hm
    exact cw_X10_isPart_19 fu C hret x0 F G hm hw (lv_sub hl [0] rfl)
  · have hm := (if_neg c_1).symm.trans hm
    exact cw_X10_isPart_13 fu C hret x0 F G hm hw (lv_sub hl [0] rfl)
theorem cn_X10_isPart_4 (fu : Nat) {res : Int32 × PF × PG} (x0 : Int32) (z0 : Int32) (F : PF) (G : PG) (hm : cb_X10_isPart_4 fu x0 z0 F G = some res) : xn F ≤ xn res.2.1 := by
  unfold cb_X10_isPart_4 at hm
  by_cases c_1 : z0 = (0 : Int32)
  · have hm := (if_pos c_1).symm.trans hm
    exact (cn_X10_isPart_7 fu x0 F G hm)
  · have hm := (if_neg c_1).symm.trans hm
    exact (cn_X10_isPart_37 fu F G hm)
theorem cw_X10_isPart_4 (fu : Nat) {res : Int32 × PF × PG} (C : cMC p R s m args c A v RX10 cX10_isPart 1 1 20 (xn res.2.1 - xn K0)) (hret : ∀ (b1 : Nat) (H1 : Heap) (locs1 : List Loc) (ls1 : Array Slot) (pc : Nat), cMW s A v a b1 K0 res.2.1 res.2.2 H1 locs1 → narrow .boolean (.int res.1) = .int res.1 → decode cX10_isPart pc = .ok (.ireturn, 1) → W p l e R s m args below meth c H1 locs1 (xn res.2.1 - xn K0) (2 * (xn res.2.1 - xn K0)) Q (F0 m pc ls1 [.int res.1])) (x0 : Int32) (z0 : Int32) (F : PF) (G : PG) (hm : cb_X10_isPart_4 fu x0 z0 F G = some res) {b : Nat} {H : Heap} {locs : List Loc} (hw : cMW s A v a b K0 F G H locs) {ls : Array Slot} (hl : lv_has ls 1 [(0, .int x0)]) : W p l e R s m args below meth c H locs (xn F - xn K0) (2 * (xn F - xn K0)) Q (F0 m 4 ls [.int z0]) := by
  have hx := C.1
  have hb := C.2.1
  unfold cb_X10_isPart_4 at hm
  refine lv_if_ne (tgt := 37) hx hb dX10_isPart_4 (by decide) (fun c_1 => ?_) (fun c_1 => ?_)
  · have hm := (if_neg c_1).symm.trans hm
    exact cw_X10_isPart_37 fu C hret F G hm hw (lv_sub hl [] rfl)
  · have hm := (if_pos c_1).symm.trans hm
    exact cw_X10_isPart_7 fu C hret x0 F G hm hw (lv_sub hl [0] rfl)
theorem cn_X10_isPart_0 (fu : Nat) {res : Int32 × PF × PG} (x0 : Int32) (F : PF) (G : PG) (hm : cb_X10_isPart_0 fu x0 F G = some res) : xn F ≤ xn res.2.1 := by
  unfold cb_X10_isPart_0 at hm
  obtain ⟨⟨r1, F1, G1⟩, hc, hm⟩ := bind_elim hm
  exact Nat.le_trans (cn_X10_isDigit fu x0 F G _ hc) (cn_X10_isPart_4 fu x0 r1 F1 G1 hm)
theorem cw_X10_isPart_0 (fu : Nat) {res : Int32 × PF × PG} (C : cMC p R s m args c A v RX10 cX10_isPart 1 1 20 (xn res.2.1 - xn K0)) (hret : ∀ (b1 : Nat) (H1 : Heap) (locs1 : List Loc) (ls1 : Array Slot) (pc : Nat), cMW s A v a b1 K0 res.2.1 res.2.2 H1 locs1 → narrow .boolean (.int res.1) = .int res.1 → decode cX10_isPart pc = .ok (.ireturn, 1) → W p l e R s m args below meth c H1 locs1 (xn res.2.1 - xn K0) (2 * (xn res.2.1 - xn K0)) Q (F0 m pc ls1 [.int res.1])) (x0 : Int32) (F : PF) (G : PG) (hm : cb_X10_isPart_0 fu x0 F G = some res) {b : Nat} {H : Heap} {locs : List Loc} (hw : cMW s A v a b K0 F G H locs) {ls : Array Slot} (hl : lv_has ls 1 [(0, .int x0)]) : W p l e R s m args below meth c H locs (xn F - xn K0) (2 * (xn F - xn K0)) Q (F0 m 0 ls []) := by
  have hx := C.1
  have hb := C.2.1
  unfold cb_X10_isPart_0 at hm
  refine lv_iload_n hx hb dX10_isPart_0 rfl (lv_at hl 0 rfl) ?_
  obtain ⟨⟨r1, F1, G1⟩, hc, hm⟩ := bind_elim hm
  refine ccallIS (n := 1) (As := [.int x0]) (rest := []) C hw (ck_X10_isDigit l v a _ _ fu x0 F G r1 F1 G1 hc) (cn_X10_isDigit fu x0 F G _ hc) (Nat.sub_le_sub_right (cn_X10_isPart_4 fu x0 r1 F1 G1 hm) _) cm_77 cm_78 cm_46 cm_79 (by decide +kernel) rfl (by omega) (by omega) hl.1 rfl (Nat.le_of_ble_eq_true rfl) dX10_isPart_1 (fun b H locs hw => ?_)
  exact cw_X10_isPart_4 fu C hret x0 r1 F1 G1 hm hw (lv_sub hl [0] rfl)
theorem cn_X10_isPart (fu : Nat) (x0 : Int32) (F : PF) (G : PG) (q : Int32 × PF × PG) (hm : cf_X10_isPart fu x0 F G = some q) : xn F ≤ xn q.2.1 := cn_X10_isPart_0 fu x0 F G hm
theorem ck_X10_isPart (l : Launch) (v : EV) (a : Nat → Nat) (b sz : Nat) (fu : Nat) (x0 : Int32) (F : PF) (G : PG) (r : Int32) (F1 : PF) (G1 : PG) (hm : cf_X10_isPart fu x0 F G = some (r, F1, G1)) : cMI l yX10_isPart cX10_isPart 1 (some .boolean) 1 20 v a b sz [.int x0] F G r F1 G1 := cMI.of (ty := .boolean) (by decide) rfl (Nat.le_of_ble_eq_true rfl) (fun p e R s m args below meth c Q A H locs ls C hw hl hret => cw_X10_isPart_0 fu (res := (r, F1, G1)) C hret x0 F G hm hw hl)
def cb_X10_add_50 (fu : Nat) (F : PF) (G : PG) : PR := some (0, F, G)
def cb_X10_add_40 (fu : Nat) (F : PF) (G : PG) : PR := cb_X10_add_50 fu (fup F 93 ((F 93) + (1 : Int32))) G
def cb_X10_add_30 (fu : Nat) (x3 : Int32) (F : PF) (G : PG) : PR := if ixb (F 93) 4001 = true then (cb_X10_add_40 fu F (gup G 92 (F 93).toNatClampNeg x3)) else none
def cb_X10_add_20 (fu : Nat) (x2 : Int32) (x3 : Int32) (F : PF) (G : PG) : PR := if ixb (F 93) 4001 = true then (cb_X10_add_30 fu x3 F (gup G 91 (F 93).toNatClampNeg x2)) else none
def cb_X10_add_10 (fu : Nat) (x1 : Int32) (x2 : Int32) (x3 : Int32) (F : PF) (G : PG) : PR := if ixb (F 93) 4001 = true then (cb_X10_add_20 fu x2 x3 F (gup G 90 (F 93).toNatClampNeg x1)) else none
def cb_X10_add_0 (fu : Nat) (x1 : Int32) (x2 : Int32) (x3 : Int32) (F : PF) (G : PG) : PR := if (4001 : Int32) ≤ (F 93) then cb_X10_add_50 fu F G else cb_X10_add_10 fu x1 x2 x3 F G
def cf_X10_add (fu : Nat) (x1 : Int32) (x2 : Int32) (x3 : Int32) (F : PF) (G : PG) : PR := cb_X10_add_0 fu x1 x2 x3 F G
theorem cn_X10_add_50 (fu : Nat) {res : Int32 × PF × PG} (F : PF) (G : PG) (hm : cb_X10_add_50 fu F G = some res) : xn F ≤ xn res.2.1 := by
  unfold cb_X10_add_50 at hm
  obtain rfl := Option.some.inj hm
  exact Nat.le_refl _
theorem cw_X10_add_50 (fu : Nat) {res : Int32 × PF × PG} (C : cMC p R s m args c A v RX10 cX10_add 4 0 0 (xn res.2.1 - xn K0)) (hret : ∀ (b1 : Nat) (H1 : Heap) (locs1 : List Loc) (ls1 : Array Slot) (pc : Nat), cMW s A v a b1 K0 res.2.1 res.2.2 H1 locs1 → decode cX10_add pc = .ok (.return_, 1) → W p l e R s m args below meth c H1 locs1 (xn res.2.1 - xn K0) (2 * (xn res.2.1 - xn K0)) Q (F0 m pc ls1 [])) (F : PF) (G : PG) (hm : cb_X10_add_50 fu F G = some res) {b : Nat} {H : Heap} {locs : List Loc} (hw : cMW s A v a b K0 F G H locs) {ls : Array Slot} (hl : lv_has ls 4 []) : W p l e R s m args below meth c H locs (xn F - xn K0) (2 * (xn F - xn K0)) Q (F0 m 50 ls []) := by
  have hx := C.1
  have hb := C.2.1
  unfold cb_X10_add_50 at hm
  obtain rfl := Option.some.inj hm
  exact hret _ _ _ _ _ hw dX10_add_50
theorem cn_X10_add_40 (fu : Nat) {res : Int32 × PF × PG} (F : PF) (G : PG) (hm : cb_X10_add_40 fu F G = some res) : xn F ≤ xn res.2.1 := by
  unfold cb_X10_add_40 at hm
  exact Nat.le_trans (Nat.le_of_eq (xn_fup (by decide)).symm) (cn_X10_add_50 fu (fup F 93 ((F 93) + (1 : Int32))) G hm)
theorem cw_X10_add_40 (fu : Nat) {res : Int32 × PF × PG} (C : cMC p R s m args c A v RX10 cX10_add 4 0 0 (xn res.2.1 - xn K0)) (hret : ∀ (b1 : Nat) (H1 : Heap) (locs1 : List Loc) (ls1 : Array Slot) (pc : Nat), cMW s A v a b1 K0 res.2.1 res.2.2 H1 locs1 → decode cX10_add pc = .ok (.return_, 1) → W p l e R s m args below meth c H1 locs1 (xn res.2.1 - xn K0) (2 * (xn res.2.1 - xn K0)) Q (F0 m pc ls1 [])) (F : PF) (G : PG) (hm : cb_X10_add_40 fu F G = some res) {b : Nat} {H : Heap} {locs : List Loc} (hw : cMW s A v a b K0 F G H locs) {ls : Array Slot} (hl : lv_has ls 4 [(0, .ref (a 210))]) : W p l e R s m args below meth c H locs (xn F - xn K0) (2 * (xn F - xn K0)) Q (F0 m 40 ls []) := by
  have hx := C.1
  have hb := C.2.1
  unfold cb_X10_add_40 at hm
  refine lv_aload_n hx hb dX10_add_40 rfl (lv_at hl 0 rfl) ?_
  refine lv_dup hx hb dX10_add_41 rfl ?_
  refine cg_X10_37 C hw dX10_add_42 ?_
  refine lv_iconst (v := 1) hx hb dX10_add_45 (by decide) ?_
  refine lv_iadd hx hb dX10_add_46 ?_
  refine cp_X10_37 C hw dX10_add_47 (fun H locs hw => ?_)
  exact cw_X10_add_50 fu C hret (fup F 93 ((F 93) + (1 : Int32))) G hm hw (lv_sub hl [] rfl)
theorem cn_X10_add_30 (fu : Nat) {res : Int32 × PF × PG} (x3 : Int32) (F : PF) (G : PG) (hm : cb_X10_add_30 fu x3 F G = some res) : xn F ≤ xn res.2.1 := by
  unfold cb_X10_add_30 at hm
  have hm := (ix_elim hm).2
  exact (cn_X10_add_40 fu F (gup G 92 (F 93).toNatClampNeg x3) hm)
theorem cw_X10_add_30 (fu : Nat) {res : Int32 × PF × PG} (C : cMC p R s m args c A v RX10 cX10_add 4 0 0 (xn res.2.1 - xn K0)) (hret : ∀ (b1 : Nat) (H1 : Heap) (locs1 : List Loc) (ls1 : Array Slot) (pc : Nat), cMW s A v a b1 K0 res.2.1 res.2.2 H1 locs1 → decode cX10_add pc = .ok (.return_, 1) → W p l e R s m args below meth c H1 locs1 (xn res.2.1 - xn K0) (2 * (xn res.2.1 - xn K0)) Q (F0 m pc ls1 [])) (x3 : Int32) (F : PF) (G : PG) (hm : cb_X10_add_30 fu x3 F G = some res) {b : Nat} {H : Heap} {locs : List Loc} (hw : cMW s A v a b K0 F G H locs) {ls : Array Slot} (hl : lv_has ls 4 [(0, .ref (a 210)), (3, .int x3)]) : W p l e R s m args below meth c H locs (xn F - xn K0) (2 * (xn F - xn K0)) Q (F0 m 30 ls []) := by
  have hx := C.1
  have hb := C.2.1
  unfold cb_X10_add_30 at hm
  refine lv_aload_n hx hb dX10_add_30 rfl (lv_at hl 0 rfl) ?_
  refine cg_X10_18 C hw dX10_add_31 ?_
  refine lv_aload_n hx hb dX10_add_34 rfl (lv_at hl 0 rfl) ?_
  refine cg_X10_37 C hw dX10_add_35 ?_
  refine lv_iload_n hx hb dX10_add_38 rfl (lv_at hl 1 rfl) ?_
  obtain ⟨hi, hm⟩ := ix_elim hm
  refine cas_92 C hw hi dX10_add_39 (fun H locs hw => ?_)
  exact cw_X10_add_40 fu C hret F (gup G 92 (F 93).toNatClampNeg x3) hm hw (lv_sub hl [0] rfl)
theorem cn_X10_add_20 (fu : Nat) {res : Int32 × PF × PG} (x2 : Int32) (x3 : Int32) (F : PF) (G : PG) (hm : cb_X10_add_20 fu x2 x3 F G = some res) : xn F ≤ xn res.2.1 := by
  unfold cb_X10_add_20 at hm
  have hm := (ix_elim hm).2
  exact (cn_X10_add_30 fu x3 F (gup G 91 (F 93).toNatClampNeg x2) hm)
theorem cw_X10_add_20 (fu : Nat) {res : Int32 × PF × PG} (C : cMC p R s m args c A v RX10 cX10_add 4 0 0 (xn res.2.1 - xn K0)) (hret : ∀ (b1 : Nat) (H1 : Heap) (locs1 : List Loc) (ls1 : Array Slot) (pc : Nat), cMW s A v a b1 K0 res.2.1 res.2.2 H1 locs1 → decode cX10_add pc = .ok (.return_, 1) → W p l e R s m args below meth c H1 locs1 (xn res.2.1 - xn K0) (2 * (xn res.2.1 - xn K0)) Q (F0 m pc ls1 [])) (x2 : Int32) (x3 : Int32) (F : PF) (G : PG) (hm : cb_X10_add_20 fu x2 x3 F G = some res) {b : Nat} {H : Heap} {locs : List Loc} (hw : cMW s A v a b K0 F G H locs) {ls : Array Slot} (hl : lv_has ls 4 [(0, .ref (a 210)), (2, .int x2), (3, .int x3)]) : W p l e R s m args below meth c H locs (xn F - xn K0) (2 * (xn F - xn K0)) Q (F0 m 20 ls []) := by
  have hx := C.1
  have hb := C.2.1
  unfold cb_X10_add_20 at hm
  refine lv_aload_n hx hb dX10_add_20 rfl (lv_at hl 0 rfl) ?_
  refine cg_X10_15 C hw dX10_add_21 ?_
  refine lv_aload_n hx hb dX10_add_24 rfl (lv_at hl 0 rfl) ?_
  refine cg_X10_37 C hw dX10_add_25 ?_
  refine lv_iload_n hx hb dX10_add_28 rfl (lv_at hl 1 rfl) ?_
  obtain ⟨hi, hm⟩ := ix_elim hm
  refine cas_91 C hw hi dX10_add_29 (fun H locs hw => ?_)
  exact cw_X10_add_30 fu C hret x3 F (gup G 91 (F 93).toNatClampNeg x2) hm hw (lv_sub hl [0, 2] rfl)
theorem cn_X10_add_10 (fu : Nat) {res : Int32 × PF × PG} (x1 : Int32) (x2 : Int32) (x3 : Int32) (F : PF) (G : PG) (hm : cb_X10_add_10 fu x1 x2 x3 F G = some res) : xn F ≤ xn res.2.1 := by
  unfold cb_X10_add_10 at hm
  have hm := (ix_elim hm).2
  exact (cn_X10_add_20 fu x2 x3 F (gup G 90 (F 93).toNatClampNeg x1) hm)
theorem cw_X10_add_10 (fu : Nat) {res : Int32 × PF × PG} (C : cMC p R s m args c A v RX10 cX10_add 4 0 0 (xn res.2.1 - xn K0)) (hret : ∀ (b1 : Nat) (H1 : Heap) (locs1 : List Loc) (ls1 : Array Slot) (pc : Nat), cMW s A v a b1 K0 res.2.1 res.2.2 H1 locs1 → decode cX10_add pc = .ok (.return_, 1) → W p l e R s m args below meth c H1 locs1 (xn res.2.1 - xn K0) (2 * (xn res.2.1 - xn K0)) Q (F0 m pc ls1 [])) (x1 : Int32) (x2 : Int32) (x3 : Int32) (F : PF) (G : PG) (hm : cb_X10_add_10 fu x1 x2 x3 F G = some res) {b : Nat} {H : Heap} {locs : List Loc} (hw : cMW s A v a b K0 F G H locs) {ls : Array Slot} (hl : lv_has ls 4 [(0, .ref (a 210)), (1, .int x1), (2, .int x2), (3, .int x3)]) : W p l e R s m args below meth c H locs (xn F - xn K0) (2 * (xn F - xn K0)) Q (F0 m 10 ls []) := by
  have hx := C.1
  have hb := C.2.1
  unfold cb_X10_add_10 at hm
  refine lv_aload_n hx hb dX10_add_10 rfl (lv_at hl 0 rfl) ?_
  refine cg_X10_9 C hw dX10_add_11 ?_
  refine lv_aload_n hx hb dX10_add_14 rfl (lv_at hl 0 rfl) ?_
  refine cg_X10_37 C hw dX10_add_15 ?_
  refine lv_iload_n hx hb dX10_add_18 rfl (lv_at hl 1 rfl) ?_
  obtain ⟨hi, hm⟩ := ix_elim hm
  refine cas_90 C hw hi dX10_add_19 (fun H locs hw => ?_)
  exact cw_X10_add_20 fu C hret x2 x3 F (gup G 90 (F 93).toNatClampNeg x1) hm hw (lv_sub hl [0, 2, 3] rfl)
theorem cn_X10_add_0 (fu : Nat) {res : Int32 × PF × PG} (x1 : Int32) (x2 : Int32) (x3 : Int32) (F : PF) (G : PG) (hm : cb_X10_add_0 fu x1 x2 x3 F G = some res) : xn F ≤ xn res.2.1 := by
  unfold cb_X10_add_0 at hm
  by_cases c_1 : (4001 : Int32) ≤ (F 93)
  · have hm := (if_pos c_1).symm.trans hm
    exact (cn_X10_add_50 fu F G hm)
  · have hm := (if_neg c_1).symm.trans hm
    exact (cn_X10_add_10 fu x1 x2 x3 F G hm)
theorem cw_X10_add_0 (fu : Nat) {res : Int32 × PF × PG} (C : cMC p R s m args c A v RX10 cX10_add 4 0 0 (xn res.2.1 - xn K0)) (hret : ∀ (b1 : Nat) (H1 : Heap) (locs1 : List Loc) (ls1 : Array Slot) (pc : Nat), cMW s A v a b1 K0 res.2.1 res.2.2 H1 locs1 → decode cX10_add pc = .ok (.return_, 1) → W p l e R s m args below meth c H1 locs1 (xn res.2.1 - xn K0) (2 * (xn res.2.1 - xn K0)) Q (F0 m pc ls1 [])) (x1 : Int32) (x2 : Int32) (x3 : Int32) (F : PF) (G : PG) (hm : cb_X10_add_0 fu x1 x2 x3 F G = some res) {b : Nat} {H : Heap} {locs : List Loc} (hw : cMW s A v a b K0 F G H locs) {ls : Array Slot} (hl : lv_has ls 4 [(0, .ref (a 210)), (1, .int x1), (2, .int x2), (3, .int x3)]) : W p l e R s m args below meth c H locs (xn F - xn K0) (2 * (xn F - xn K0)) Q (F0 m 0 ls []) := by
  have hx := C.1
  have hb := C.2.1
  unfold cb_X10_add_0 at hm
  refine lv_aload_n hx hb dX10_add_0 rfl (lv_at hl 0 rfl) ?_
  refine cg_X10_37 C hw dX10_add_1 ?_
  refine lv_sipush (v := 4001) hx hb dX10_add_4 (by decide) ?_
  refine lv_icmp_ge (tgt := 50) hx hb dX10_add_7 (by decide) (fun c_1 => ?_) (fun c_1 => ?_)
  · have hm := (if_pos c_1).symm.trans hm
    exact cw_X10_add_50 fu C hret F G hm hw (lv_sub hl [] rfl)
  · have hm := (if_neg c_1).symm.trans hm
    exact cw_X10_add_10 fu C hret x1 x2 x3 F G hm hw (lv_sub hl [0, 1, 2, 3] rfl)
theorem cn_X10_add (fu : Nat) (x1 : Int32) (x2 : Int32) (x3 : Int32) (F : PF) (G : PG) (q : Int32 × PF × PG) (hm : cf_X10_add fu x1 x2 x3 F G = some q) : xn F ≤ xn q.2.1 := cn_X10_add_0 fu x1 x2 x3 F G hm
theorem ck_X10_add (l : Launch) (v : EV) (a : Nat → Nat) (b sz : Nat) (fu : Nat) (x1 : Int32) (x2 : Int32) (x3 : Int32) (F : PF) (G : PG) (r : Int32) (F1 : PF) (G1 : PG) (hm : cf_X10_add fu x1 x2 x3 F G = some (r, F1, G1)) : cMV l yX10_add cX10_add 4 0 0 v a b sz [.ref (a 210), .int x1, .int x2, .int x3] F G F1 G1 := cMV.of (by decide) (Nat.le_of_ble_eq_true rfl) (fun p e R s m args below meth c Q A H locs ls C hw hl hret => cw_X10_add_0 fu (res := (r, F1, G1)) C hret x1 x2 x3 F G hm hw hl)
def cb_J1_canEncode_9a6ad_16 (fu : Nat) (z0 : Int32) (F : PF) (G : PG) : PR := if b01 z0 = true then (some (z0, F, G)) else none
def cb_J1_canEncode_9a6ad_15 (fu : Nat) (F : PF) (G : PG) : PR := cb_J1_canEncode_9a6ad_16 fu 0 F G
def cb_J1_canEncode_9a6ad_11 (fu : Nat) (F : PF) (G : PG) : PR := cb_J1_canEncode_9a6ad_16 fu 1 F G
def cb_J1_canEncode_9a6ad_4 (fu : Nat) (x0 : Int32) (F : PF) (G : PG) : PR := if (255 : Int32) < x0 then cb_J1_canEncode_9a6ad_15 fu F G else cb_J1_canEncode_9a6ad_11 fu F G
def cb_J1_canEncode_9a6ad_0 (fu : Nat) (x0 : Int32) (F : PF) (G : PG) : PR := if x0 < (0 : Int32) then cb_J1_canEncode_9a6ad_15 fu F G else cb_J1_canEncode_9a6ad_4 fu x0 F G
def cf_J1_canEncode_9a6ad (fu : Nat) (x0 : Int32) (F : PF) (G : PG) : PR := cb_J1_canEncode_9a6ad_0 fu x0 F G
theorem cn_J1_canEncode_9a6ad_16 (fu : Nat) {res : Int32 × PF × PG} (z0 : Int32) (F : PF) (G : PG) (hm : cb_J1_canEncode_9a6ad_16 fu z0 F G = some res) : xn F ≤ xn res.2.1 := by
  unfold cb_J1_canEncode_9a6ad_16 at hm
  have hm := (b01_elim hm).2
  obtain rfl := Option.some.inj hm
  exact Nat.le_refl _
theorem cw_J1_canEncode_9a6ad_16 (fu : Nat) {res : Int32 × PF × PG} (C : cMC p R s m args c A v RJ1 cJ1_canEncode_9a6ad 1 0 0 (xn res.2.1 - xn K0)) (hret : ∀ (b1 : Nat) (H1 : Heap) (locs1 : List Loc) (ls1 : Array Slot) (pc : Nat), cMW s A v a b1 K0 res.2.1 res.2.2 H1 locs1 → narrow .boolean (.int res.1) = .int res.1 → decode cJ1_canEncode_9a6ad pc = .ok (.ireturn, 1) → W p l e R s m args below meth c H1 locs1 (xn res.2.1 - xn K0) (2 * (xn res.2.1 - xn K0)) Q (F0 m pc ls1 [.int res.1])) (z0 : Int32) (F : PF) (G : PG) (hm : cb_J1_canEncode_9a6ad_16 fu z0 F G = some res) {b : Nat} {H : Heap} {locs : List Loc} (hw : cMW s A v a b K0 F G H locs) {ls : Array Slot} (hl : lv_has ls 1 []) : W p l e R s m args below meth c H locs (xn F - xn K0) (2 * (xn F - xn K0)) Q (F0 m 16 ls [.int z0]) := by
  have hx := C.1
  have hb := C.2.1
  unfold cb_J1_canEncode_9a6ad_16 at hm
  obtain ⟨hz, hm⟩ := b01_elim hm
  obtain rfl := Option.some.inj hm
  exact hret _ _ _ _ _ hw (b01_nar hz) dJ1_canEncode_9a6ad_16
theorem cn_J1_canEncode_9a6ad_15 (fu : Nat) {res : Int32 × PF × PG} (F : PF) (G : PG) (hm : cb_J1_canEncode_9a6ad_15 fu F G = some res) : xn F ≤ xn res.2.1 := by
  unfold cb_J1_canEncode_9a6ad_15 at hm
  exact (cn_J1_canEncode_9a6ad_16 fu 0 F G hm)
theorem cw_J1_canEncode_9a6ad_15 (fu : Nat) {res : Int32 × PF × PG} (C : cMC p R s m args c A v RJ1 cJ1_canEncode_9a6ad 1 0 0 (xn res.2.1 - xn K0)) (hret : ∀ (b1 : Nat) (H1 : Heap) (locs1 : List Loc) (ls1 : Array Slot) (pc : Nat), cMW s A v a b1 K0 res.2.1 res.2.2 H1 locs1 → narrow .boolean (.int res.1) = .int res.1 → decode cJ1_canEncode_9a6ad pc = .ok (.ireturn, 1) → W p l e R s m args below meth c H1 locs1 (xn res.2.1 - xn K0) (2 * (xn res.2.1 - xn K0)) Q (F0 m pc ls1 [.int res.1])) (F : PF) (G : PG) (hm : cb_J1_canEncode_9a6ad_15 fu F G = some res) {b : Nat} {H : Heap} {locs : List Loc} (hw : cMW s A v a b K0 F G H locs) {ls : Array Slot} (hl : lv_has ls 1 []) : W p l e R s m args below meth c H locs (xn F - xn K0) (2 * (xn F - xn K0)) Q (F0 m 15 ls []) := by
  have hx := C.1
  have hb := C.2.1
  unfold cb_J1_canEncode_9a6ad_15 at hm
  refine lv_iconst (v := 0) hx hb dJ1_canEncode_9a6ad_15 (by decide) ?_
  exact cw_J1_canEncode_9a6ad_16 fu C hret 0 F G hm hw (lv_sub hl [] rfl)
theorem cn_J1_canEncode_9a6ad_11 (fu : Nat) {res : Int32 × PF × PG} (F : PF) (G : PG) (hm : cb_J1_canEncode_9a6ad_11 fu F G = some res) : xn F ≤ xn res.2.1 := by
  unfold cb_J1_canEncode_9a6ad_11 at hm
  exact (cn_J1_canEncode_9a6ad_16 fu 1 F G hm)
theorem cw_J1_canEncode_9a6ad_11 (fu : Nat) {res : Int32 × PF × PG} (C : cMC p R s m args c A v RJ1 cJ1_canEncode_9a6ad 1 0 0 (xn res.2.1 - xn K0)) (hret : ∀ (b1 : Nat) (H1 : Heap) (locs1 : List Loc) (ls1 : Array Slot) (pc : Nat), cMW s A v a b1 K0 res.2.1 res.2.2 H1 locs1 → narrow .boolean (.int res.1) = .int res.1 → decode cJ1_canEncode_9a6ad pc = .ok (.ireturn, 1) → W p l e R s m args below meth c H1 locs1 (xn res.2.1 - xn K0) (2 * (xn res.2.1 - xn K0)) Q (F0 m pc ls1 [.int res.1])) (F : PF) (G : PG) (hm : cb_J1_canEncode_9a6ad_11 fu F G = some res) {b : Nat} {H : Heap} {locs : List Loc} (hw : cMW s A v a b K0 F G H locs) {ls : Array Slot} (hl : lv_has ls 1 []) : W p l e R s m args below meth c H locs (xn F - xn K0) (2 * (xn F - xn K0)) Q (F0 m 11 ls []) := by
  have hx := C.1
  have hb := C.2.1
  unfold cb_J1_canEncode_9a6ad_11 at hm
  refine lv_iconst (v := 1) hx hb dJ1_canEncode_9a6ad_11 (by decide) ?_
  refine lv_goto (tgt := 16) hx hb dJ1_canEncode_9a6ad_12 (by decide) ?_
  exact cw_J1_canEncode_9a6ad_16 fu C hret 1 F G hm hw (lv_sub hl [] rfl)
theorem cn_J1_canEncode_9a6ad_4 (fu : Nat) {res : Int32 × PF × PG} (x0 : Int32) (F : PF) (G : PG) (hm : cb_J1_canEncode_9a6ad_4 fu x0 F G = some res) : xn F ≤ xn res.2.1 := by
  unfold cb_J1_canEncode_9a6ad_4 at hm
  by_cases c_1 : (255 : Int32) < x0
  · have hm := (if_pos c_1).symm.trans hm
    exact (cn_J1_canEncode_9a6ad_15 fu F G hm)
  · have hm := (if_neg c_1).symm.trans hm
    exact (cn_J1_canEncode_9a6ad_11 fu F G hm)
theorem cw_J1_canEncode_9a6ad_4 (fu : Nat) {res : Int32 × PF × PG} (C : cMC p R s m args c A v RJ1 cJ1_canEncode_9a6ad 1 0 0 (xn res.2.1 - xn K0)) (hret : ∀ (b1 : Nat) (H1 : Heap) (locs1 : List Loc) (ls1 : Array Slot) (pc : Nat), cMW s A v a b1 K0 res.2.1 res.2.2 H1 locs1 → narrow .boolean (.int res.1) = .int res.1 → decode cJ1_canEncode_9a6ad pc = .ok (.ireturn, 1) → W p l e R s m args below meth c H1 locs1 (xn res.2.1 - xn K0) (2 * (xn res.2.1 - xn K0)) Q (F0 m pc ls1 [.int res.1])) (x0 : Int32) (F : PF) (G : PG) (hm : cb_J1_canEncode_9a6ad_4 fu x0 F G = some res) {b : Nat} {H : Heap} {locs : List Loc} (hw : cMW s A v a b K0 F G H locs) {ls : Array Slot} (hl : lv_has ls 1 [(0, .int x0)]) : W p l e R s m args below meth c H locs (xn F - xn K0) (2 * (xn F - xn K0)) Q (F0 m 4 ls []) := by
  have hx := C.1
  have hb := C.2.1
  unfold cb_J1_canEncode_9a6ad_4 at hm
  refine lv_iload_n hx hb dJ1_canEncode_9a6ad_4 rfl (lv_at hl 0 rfl) ?_
  refine lv_sipush (v := 255) hx hb dJ1_canEncode_9a6ad_5 (by decide) ?_
  refine lv_icmp_gt (tgt := 15) hx hb dJ1_canEncode_9a6ad_8 (by decide) (fun c_1 => ?_) (fun c_1 => ?_)
  · have hm := (if_pos c_1).symm.trans hm
    exact cw_J1_canEncode_9a6ad_15 fu C hret F G hm hw (lv_sub hl [] rfl)
  · have hm := (if_neg c_1).symm.trans hm
    exact cw_J1_canEncode_9a6ad_11 fu C hret F G hm hw (lv_sub hl [] rfl)
theorem cn_J1_canEncode_9a6ad_0 (fu : Nat) {res : Int32 × PF × PG} (x0 : Int32) (F : PF) (G : PG) (hm : cb_J1_canEncode_9a6ad_0 fu x0 F G = some res) : xn F ≤ xn res.2.1 := by
  unfold cb_J1_canEncode_9a6ad_0 at hm
  by_cases c_1 : x0 < (0 : Int32)
  · have hm := (if_pos c_1).symm.trans hm
    exact (cn_J1_canEncode_9a6ad_15 fu F G hm)
  · have hm := (if_neg c_1).symm.trans hm
    exact (cn_J1_canEncode_9a6ad_4 fu x0 F G hm)
theorem cw_J1_canEncode_9a6ad_0 (fu : Nat) {res : Int32 × PF × PG} (C : cMC p R s m args c A v RJ1 cJ1_canEncode_9a6ad 1 0 0 (xn res.2.1 - xn K0)) (hret : ∀ (b1 : Nat) (H1 : Heap) (locs1 : List Loc) (ls1 : Array Slot) (pc : Nat), cMW s A v a b1 K0 res.2.1 res.2.2 H1 locs1 → narrow .boolean (.int res.1) = .int res.1 → decode cJ1_canEncode_9a6ad pc = .ok (.ireturn, 1) → W p l e R s m args below meth c H1 locs1 (xn res.2.1 - xn K0) (2 * (xn res.2.1 - xn K0)) Q (F0 m pc ls1 [.int res.1])) (x0 : Int32) (F : PF) (G : PG) (hm : cb_J1_canEncode_9a6ad_0 fu x0 F G = some res) {b : Nat} {H : Heap} {locs : List Loc} (hw : cMW s A v a b K0 F G H locs) {ls : Array Slot} (hl : lv_has ls 1 [(0, .int x0)]) : W p l e R s m args below meth c H locs (xn F - xn K0) (2 * (xn F - xn K0)) Q (F0 m 0 ls []) := by
  have hx := C.1
  have hb := C.2.1
  unfold cb_J1_canEncode_9a6ad_0 at hm
  refine lv_iload_n hx hb dJ1_canEncode_9a6ad_0 rfl (lv_at hl 0 rfl) ?_
  refine lv_if_lt (tgt := 15) hx hb dJ1_canEncode_9a6ad_1 (by decide) (fun c_1 => ?_) (fun c_1 => ?_)
  · have hm := (if_pos c_1).symm.trans hm
    exact cw_J1_canEncode_9a6ad_15 fu C hret F G hm hw (lv_sub hl [] rfl)
  · have hm := (if_neg c_1).symm.trans hm
    exact cw_J1_canEncode_9a6ad_4 fu C hret x0 F G hm hw (lv_sub hl [0] rfl)
theorem cn_J1_canEncode_9a6ad (fu : Nat) (x0 : Int32) (F : PF) (G : PG) (q : Int32 × PF × PG) (hm : cf_J1_canEncode_9a6ad fu x0 F G = some q) : xn F ≤ xn q.2.1 := cn_J1_canEncode_9a6ad_0 fu x0 F G hm
theorem ck_J1_canEncode_9a6ad (l : Launch) (v : EV) (a : Nat → Nat) (b sz : Nat) (fu : Nat) (x0 : Int32) (F : PF) (G : PG) (r : Int32) (F1 : PF) (G1 : PG) (hm : cf_J1_canEncode_9a6ad fu x0 F G = some (r, F1, G1)) : cMI l yJ1_canEncode_9a6ad cJ1_canEncode_9a6ad 1 (some .boolean) 0 0 v a b sz [.int x0] F G r F1 G1 := cMI.of (ty := .boolean) (by decide) rfl (Nat.le_of_ble_eq_true rfl) (fun p e R s m args below meth c Q A H locs ls C hw hl hret => cw_J1_canEncode_9a6ad_0 fu (res := (r, F1, G1)) C hret x0 F G hm hw hl)
def cb_J1_indexOfChar_4cfef_31 (fu : Nat) (F : PF) (G : PG) : PR := some ((-1), F, G)
def cb_J1_indexOfChar_4cfef_25 (fu : Nat) (ag_7 : Nat → Int32 → Int32 → Int32 → PF → PG → PR) (x0 : Nat) (x3 : Int32) (x4 : Int32) (x5 : Int32) (F : PF) (G : PG) : PR := ag_7 x0 x3 x4 (x5 + 1) F G
def cb_J1_indexOfChar_4cfef_22 (fu : Nat) (x5 : Int32) (F : PF) (G : PG) : PR := some (x5, F, G)
def cb_J1_indexOfChar_4cfef_13 (fu : Nat) (ag_7 : Nat → Int32 → Int32 → Int32 → PF → PG → PR) (x0 : Nat) (x3 : Int32) (x4 : Int32) (x5 : Int32) (F : PF) (G : PG) : PR := if x0 < 4 then (if ixb x5 (lenS.getD x0 0) = true then (if ((bytS.getD x0 []).getD x5.toNatClampNeg 0) = x4 then cb_J1_indexOfChar_4cfef_22 fu x5 F G else cb_J1_indexOfChar_4cfef_25 fu ag_7 x0 x3 x4 x5 F G) else none) else none
def cb_J1_indexOfChar_4cfef_7 (fu : Nat) (ag_7 : Nat → Int32 → Int32 → Int32 → PF → PG → PR) (x0 : Nat) (x3 : Int32) (x4 : Int32) (x5 : Int32) (F : PF) (G : PG) : PR := if x3 ≤ x5 then cb_J1_indexOfChar_4cfef_31 fu F G else cb_J1_indexOfChar_4cfef_13 fu ag_7 x0 x3 x4 x5 F G
def cl_J1_indexOfChar_4cfef_7 (fu : Nat) : Nat → Nat → Int32 → Int32 → Int32 → PF → PG → PR
  | 0 => fun _ _ _ _ _ _ => none
  | n + 1 => fun x0 x3 x4 x5 F G => cb_J1_indexOfChar_4cfef_7 fu (cl_J1_indexOfChar_4cfef_7 fu n) x0 x3 x4 x5 F G
def cb_J1_indexOfChar_4cfef_0 (fu : Nat) (x0 : Nat) (x1 : Int32) (x2 : Int32) (x3 : Int32) (F : PF) (G : PG) : PR := cl_J1_indexOfChar_4cfef_7 fu fu x0 x3 (x1.toInt8.toInt32) x2 F G
def cf_J1_indexOfChar_4cfef (fu : Nat) (x0 : Nat) (x1 : Int32) (x2 : Int32) (x3 : Int32) (F : PF) (G : PG) : PR := cb_J1_indexOfChar_4cfef_0 fu x0 x1 x2 x3 F G
theorem cn_J1_indexOfChar_4cfef_31 (fu : Nat) {res : Int32 × PF × PG} (F : PF) (G : PG) (hm : cb_J1_indexOfChar_4cfef_31 fu F G = some res) : xn F ≤ xn res.2.1 := by
  unfold cb_J1_indexOfChar_4cfef_31 at hm
  obtain rfl := Option.some.inj hm
  exact Nat.le_refl _
theorem cw_J1_indexOfChar_4cfef_31 (fu : Nat) {res : Int32 × PF × PG} (C : cMC p R s m args c A v RJ1 cJ1_indexOfChar_4cfef 6 0 0 (xn res.2.1 - xn K0)) (hret : ∀ (b1 : Nat) (H1 : Heap) (locs1 : List Loc) (ls1 : Array Slot) (pc : Nat), cMW s A v a b1 K0 res.2.1 res.2.2 H1 locs1 → narrow .int (.int res.1) = .int res.1 → decode cJ1_indexOfChar_4cfef pc = .ok (.ireturn, 1) → W p l e R s m args below meth c H1 locs1 (xn res.2.1 - xn K0) (2 * (xn res.2.1 - xn K0)) Q (F0 m pc ls1 [.int res.1])) (F : PF) (G : PG) (hm : cb_J1_indexOfChar_4cfef_31 fu F G = some res) {b : Nat} {H : Heap} {locs : List Loc} (hw : cMW s A v a b K0 F G H locs) {ls : Array Slot} (hl : lv_has ls 6 []) : W p l e R s m args below meth c H locs (xn F - xn K0) (2 * (xn F - xn K0)) Q (F0 m 31 ls []) := by
  have hx := C.1
  have hb := C.2.1
  unfold cb_J1_indexOfChar_4cfef_31 at hm
  refine lv_iconst (v := (-1)) hx hb dJ1_indexOfChar_4cfef_31 (by decide) ?_
  obtain rfl := Option.some.inj hm
  exact hret _ _ _ _ _ hw rfl dJ1_indexOfChar_4cfef_32
theorem cn_J1_indexOfChar_4cfef_25 (fu : Nat) {res : Int32 × PF × PG} (ag_7 : Nat → Int32 → Int32 → Int32 → PF → PG → PR) (hagn_7 : ∀ (x0 : Nat) (x3 : Int32) (x4 : Int32) (x5 : Int32) (F : PF) (G : PG), ag_7 x0 x3 x4 x5 F G = some res → xn F ≤ xn res.2.1) (x0 : Nat) (x3 : Int32) (x4 : Int32) (x5 : Int32) (F : PF) (G : PG) (hm : cb_J1_indexOfChar_4cfef_25 fu ag_7 x0 x3 x4 x5 F G = some res) : xn F ≤ xn res.2.1 := by
  unfold cb_J1_indexOfChar_4cfef_25 at hm
  exact (hagn_7 x0 x3 x4 (x5 + 1) F G hm)
theorem cw_J1_indexOfChar_4cfef_25 (fu : Nat) {res : Int32 × PF × PG} (C : cMC p R s m args c A v RJ1 cJ1_indexOfChar_4cfef 6 0 0 (xn res.2.1 - xn K0)) (hret : ∀ (b1 : Nat) (H1 : Heap) (locs1 : List Loc) (ls1 : Array Slot) (pc : Nat), cMW s A v a b1 K0 res.2.1 res.2.2 H1 locs1 → narrow .int (.int res.1) = .int res.1 → decode cJ1_indexOfChar_4cfef pc = .ok (.ireturn, 1) → W p l e R s m args below meth c H1 locs1 (xn res.2.1 - xn K0) (2 * (xn res.2.1 - xn K0)) Q (F0 m pc ls1 [.int res.1])) (ag_7 : Nat → Int32 → Int32 → Int32 → PF → PG → PR) (hag_7 : ∀ (x0 : Nat) (x3 : Int32) (x4 : Int32) (x5 : Int32) (F : PF) (G : PG), ag_7 x0 x3 x4 x5 F G = some res → ∀ (b : Nat) (H : Heap) (locs : List Loc) (ls : Array Slot), cMW s A v a b K0 F G H locs → lv_has ls 6 [(0, .ref (eV v x0)), (3, .int x3), (4, .int x4), (5, .int x5)] → W p l e R s m args below meth c H locs (xn F - xn K0) (2 * (xn F - xn K0)) Q (F0 m 7 ls [])) (hagn_7 : ∀ (x0 : Nat) (x3 : Int32) (x4 : Int32) (x5 : Int32) (F : PF) (G : PG), ag_7 x0 x3 x4 x5 F G = some res → xn F ≤ xn res.2.1) (x0 : Nat) (x3 : Int32) (x4 : Int32) (x5 : Int32) (F : PF) (G : PG) (hm : cb_J1_indexOfChar_4cfef_25 fu ag_7 x0 x3 x4 x5 F G = some res) {b : Nat} {H : Heap} {locs : List Loc} (hw : cMW s A v a b K0 F G H locs) {ls : Array Slot} (hl : lv_has ls 6 [(0, .ref (eV v x0)), (3, .int x3), (4, .int x4), (5, .int x5)]) : W p l e R s m args below meth c H locs (xn F - xn K0) (2 * (xn F - xn K0)) Q (F0 m 25 ls []) := by
  have hx := C.1
  have hb := C.2.1
  unfold cb_J1_indexOfChar_4cfef_25 at hm
  refine lv_iinc (v := (x5 + 1)) (lv' := [(5, .int (x5 + 1)), (0, .ref (eV v x0)), (3, .int x3), (4, .int x4)]) hx hb dJ1_indexOfChar_4cfef_25 hl (k := 3) rfl (by rfl) (by decide) rfl (fun ls hl => ?_)
  refine lv_goto (tgt := 7) hx hb dJ1_indexOfChar_4cfef_28 (by decide) ?_
  exact hag_7 x0 x3 x4 (x5 + 1) F G hm _ _ _ _ hw (lv_sub hl [1, 2, 3, 0] rfl)
theorem cn_J1_indexOfChar_4cfef_22 (fu : Nat) {res : Int32 × PF × PG} (x5 : Int32) (F : PF) (G : PG) (hm : cb_J1_indexOfChar_4cfef_22 fu x5 F G = some res) : xn F ≤ xn res.2.1 := by
  unfold cb_J1_indexOfChar_4cfef_22 at hm
  obtain rfl := Option.some.inj hm
  exact Nat.le_refl _
theorem cw_J1_indexOfChar_4cfef_22 (fu : Nat) {res : Int32 × PF × PG} (C : cMC p R s m args c A v RJ1 cJ1_indexOfChar_4cfef 6 0 0 (xn res.2.1 - xn K0)) (hret : ∀ (b1 : Nat) (H1 : Heap) (locs1 : List Loc) (ls1 : Array Slot) (pc : Nat), cMW s A v a b1 K0 res.2.1 res.2.2 H1 locs1 → narrow .int (.int res.1) = .int res.1 → decode cJ1_indexOfChar_4cfef pc = .ok (.ireturn, 1) → W p l e R s m args below meth c H1 locs1 (xn res.2.1 - xn K0) (2 * (xn res.2.1 - xn K0)) Q (F0 m pc ls1 [.int res.1])) (x5 : Int32) (F : PF) (G : PG) (hm : cb_J1_indexOfChar_4cfef_22 fu x5 F G = some res) {b : Nat} {H : Heap} {locs : List Loc} (hw : cMW s A v a b K0 F G H locs) {ls : Array Slot} (hl : lv_has ls 6 [(5, .int x5)]) : W p l e R s m args below meth c H locs (xn F - xn K0) (2 * (xn F - xn K0)) Q (F0 m 22 ls []) := by
  have hx := C.1
  have hb := C.2.1
  unfold cb_J1_indexOfChar_4cfef_22 at hm
  refine lv_iload hx hb dJ1_indexOfChar_4cfef_22 (lv_at hl 0 rfl) ?_
  obtain rfl := Option.some.inj hm
  exact hret _ _ _ _ _ hw rfl dJ1_indexOfChar_4cfef_24
theorem cn_J1_indexOfChar_4cfef_13 (fu : Nat) {res : Int32 × PF × PG} (ag_7 : Nat → Int32 → Int32 → Int32 → PF → PG → PR) (hagn_7 : ∀ (x0 : Nat) (x3 : Int32) (x4 : Int32) (x5 : Int32) (F : PF) (G : PG), ag_7 x0 x3 x4 x5 F G = some res → xn F ≤ xn res.2.1) (x0 : Nat) (x3 : Int32) (x4 : Int32) (x5 : Int32) (F : PF) (G : PG) (hm : cb_J1_indexOfChar_4cfef_13 fu ag_7 x0 x3 x4 x5 F G = some res) : xn F ≤ xn res.2.1 := by
  unfold cb_J1_indexOfChar_4cfef_13 at hm
  have hm := (lt_elim hm).2
  have hm := (ix_elim hm).2
  by_cases c_1 : ((bytS.getD x0 []).getD x5.toNatClampNeg 0) = x4
  · have hm := (if_pos c_1).symm.trans hm
    exact (cn_J1_indexOfChar_4cfef_22 fu x5 F G hm)
  · have hm := (if_neg c_1).symm.trans hm
    exact (cn_J1_indexOfChar_4cfef_25 fu ag_7 hagn_7 x0 x3 x4 x5 F G hm)
theorem cw_J1_indexOfChar_4cfef_13 (fu : Nat) {res : Int32 × PF × PG} (C : cMC p R s m args c A v RJ1 cJ1_indexOfChar_4cfef 6 0 0 (xn res.2.1 - xn K0)) (hret : ∀ (b1 : Nat) (H1 : Heap) (locs1 : List Loc) (ls1 : Array Slot) (pc : Nat), cMW s A v a b1 K0 res.2.1 res.2.2 H1 locs1 → narrow .int (.int res.1) = .int res.1 → decode cJ1_indexOfChar_4cfef pc = .ok (.ireturn, 1) → W p l e R s m args below meth c H1 locs1 (xn res.2.1 - xn K0) (2 * (xn res.2.1 - xn K0)) Q (F0 m pc ls1 [.int res.1])) (ag_7 : Nat → Int32 → Int32 → Int32 → PF → PG → PR) (hag_7 : ∀ (x0 : Nat) (x3 : Int32) (x4 : Int32) (x5 : Int32) (F : PF) (G : PG), ag_7 x0 x3 x4 x5 F G = some res → ∀ (b : Nat) (H : Heap) (locs : List Loc) (ls : Array Slot), cMW s A v a b K0 F G H locs → lv_has ls 6 [(0, .ref (eV v x0)), (3, .int x3), (4, .int x4), (5, .int x5)] → W p l e R s m args below meth c H locs (xn F - xn K0) (2 * (xn F - xn K0)) Q (F0 m 7 ls [])) (hagn_7 : ∀ (x0 : Nat) (x3 : Int32) (x4 : Int32) (x5 : Int32) (F : PF) (G : PG), ag_7 x0 x3 x4 x5 F G = some res → xn F ≤ xn res.2.1) (x0 : Nat) (x3 : Int32) (x4 : Int32) (x5 : Int32) (F : PF) (G : PG) (hm : cb_J1_indexOfChar_4cfef_13 fu ag_7 x0 x3 x4 x5 F G = some res) {b : Nat} {H : Heap} {locs : List Loc} (hw : cMW s A v a b K0 F G H locs) {ls : Array Slot} (hl : lv_has ls 6 [(0, .ref (eV v x0)), (3, .int x3), (4, .int x4), (5, .int x5)]) : W p l e R s m args below meth c H locs (xn F - xn K0) (2 * (xn F - xn K0)) Q (F0 m 13 ls []) := by
  have hx := C.1
  have hb := C.2.1
  unfold cb_J1_indexOfChar_4cfef_13 at hm
  refine lv_aload_n hx hb dJ1_indexOfChar_4cfef_13 rfl (lv_at hl 0 rfl) ?_
  refine lv_iload hx hb dJ1_indexOfChar_4cfef_14 (lv_at hl 3 rfl) ?_
  obtain ⟨hi4, hm⟩ := lt_elim hm
  obtain ⟨hi, hm⟩ := ix_elim hm
  refine va_tb (v := .int ((bytS.getD x0 []).getD x5.toNatClampNeg 0)) hx hb (C.2.2.2.2.2.2.2.2.2.1.1.2.2.1.1 _ hi4).2.2.2 hw.2.2.1 hi rfl dJ1_indexOfChar_4cfef_16 ?_
  refine lv_iload hx hb dJ1_indexOfChar_4cfef_17 (lv_at hl 2 rfl) ?_
  refine lv_icmp_ne (tgt := 25) hx hb dJ1_indexOfChar_4cfef_19 (by decide) (fun c_1 => ?_) (fun c_1 => ?_)
  · have hm := (if_neg c_1).symm.trans hm
    exact cw_J1_indexOfChar_4cfef_25 fu C hret ag_7 hag_7 hagn_7 x0 x3 x4 x5 F G hm hw (lv_sub hl [0, 1, 2, 3] rfl)
  · have hm := (if_pos c_1).symm.trans hm
    exact cw_J1_indexOfChar_4cfef_22 fu C hret x5 F G hm hw (lv_sub hl [3] rfl)
theorem cn_J1_indexOfChar_4cfef_7 (fu : Nat) {res : Int32 × PF × PG} (ag_7 : Nat → Int32 → Int32 → Int32 → PF → PG → PR) (hagn_7 : ∀ (x0 : Nat) (x3 : Int32) (x4 : Int32) (x5 : Int32) (F : PF) (G : PG), ag_7 x0 x3 x4 x5 F G = some res → xn F ≤ xn res.2.1) (x0 : Nat) (x3 : Int32) (x4 : Int32) (x5 : Int32) (F : PF) (G : PG) (hm : cb_J1_indexOfChar_4cfef_7 fu ag_7 x0 x3 x4 x5 F G = some res) : xn F ≤ xn res.2.1 := by
  unfold cb_J1_indexOfChar_4cfef_7 at hm
  by_cases c_1 : x3 ≤ x5
  · have hm := (if_pos c_1).symm.trans hm
    exact (cn_J1_indexOfChar_4cfef_31 fu F G hm)
  · have hm := (if_neg c_1).symm.trans hm
    exact (cn_J1_indexOfChar_4cfef_13 fu ag_7 hagn_7 x0 x3 x4 x5 F G hm)
theorem cw_J1_indexOfChar_4cfef_7 (fu : Nat) {res : Int32 × PF × PG} (C : cMC p R s m args c A v RJ1 cJ1_indexOfChar_4cfef 6 0 0 (xn res.2.1 - xn K0)) (hret : ∀ (b1 : Nat) (H1 : Heap) (locs1 : List Loc) (ls1 : Array Slot) (pc : Nat), cMW s A v a b1 K0 res.2.1 res.2.2 H1 locs1 → narrow .int (.int res.1) = .int res.1 → decode cJ1_indexOfChar_4cfef pc = .ok (.ireturn, 1) → W p l e R s m args below meth c H1 locs1 (xn res.2.1 - xn K0) (2 * (xn res.2.1 - xn K0)) Q (F0 m pc ls1 [.int res.1])) (ag_7 : Nat → Int32 → Int32 → Int32 → PF → PG → PR) (hag_7 : ∀ (x0 : Nat) (x3 : Int32) (x4 : Int32) (x5 : Int32) (F : PF) (G : PG), ag_7 x0 x3 x4 x5 F G = some res → ∀ (b : Nat) (H : Heap) (locs : List Loc) (ls : Array Slot), cMW s A v a b K0 F G H locs → lv_has ls 6 [(0, .ref (eV v x0)), (3, .int x3), (4, .int x4), (5, .int x5)] → W p l e R s m args below meth c H locs (xn F - xn K0) (2 * (xn F - xn K0)) Q (F0 m 7 ls [])) (hagn_7 : ∀ (x0 : Nat) (x3 : Int32) (x4 : Int32) (x5 : Int32) (F : PF) (G : PG), ag_7 x0 x3 x4 x5 F G = some res → xn F ≤ xn res.2.1) (x0 : Nat) (x3 : Int32) (x4 : Int32) (x5 : Int32) (F : PF) (G : PG) (hm : cb_J1_indexOfChar_4cfef_7 fu ag_7 x0 x3 x4 x5 F G = some res) {b : Nat} {H : Heap} {locs : List Loc} (hw : cMW s A v a b K0 F G H locs) {ls : Array Slot} (hl : lv_has ls 6 [(0, .ref (eV v x0)), (3, .int x3), (4, .int x4), (5, .int x5)]) : W p l e R s m args below meth c H locs (xn F - xn K0) (2 * (xn F - xn K0)) Q (F0 m 7 ls []) := by
  have hx := C.1
  have hb := C.2.1
  unfold cb_J1_indexOfChar_4cfef_7 at hm
  refine lv_iload hx hb dJ1_indexOfChar_4cfef_7 (lv_at hl 3 rfl) ?_
  refine lv_iload_n hx hb dJ1_indexOfChar_4cfef_9 rfl (lv_at hl 1 rfl) ?_
  refine lv_icmp_ge (tgt := 31) hx hb dJ1_indexOfChar_4cfef_10 (by decide) (fun c_1 => ?_) (fun c_1 => ?_)
  · have hm := (if_pos c_1).symm.trans hm
    exact cw_J1_indexOfChar_4cfef_31 fu C hret F G hm hw (lv_sub hl [] rfl)
  · have hm := (if_neg c_1).symm.trans hm
    exact cw_J1_indexOfChar_4cfef_13 fu C hret ag_7 hag_7 hagn_7 x0 x3 x4 x5 F G hm hw (lv_sub hl [0, 1, 2, 3] rfl)
theorem cnl_J1_indexOfChar_4cfef_7 (fu : Nat) {res : Int32 × PF × PG} : ∀ (n : Nat) (x0 : Nat) (x3 : Int32) (x4 : Int32) (x5 : Int32) (F : PF) (G : PG) (hm : cl_J1_indexOfChar_4cfef_7 fu n x0 x3 x4 x5 F G = some res), xn F ≤ xn res.2.1 := by
  intro n
  induction n with
  | zero =>
    intro x0 x3 x4 x5 F G hm
    exact no_elim (show (none : PR) = some res from hm)
  | succ n ih =>
    intro x0 x3 x4 x5 F G hm
    exact cn_J1_indexOfChar_4cfef_7 fu (cl_J1_indexOfChar_4cfef_7 fu n) (fun x0 x3 x4 x5 F G hm => ih x0 x3 x4 x5 F G hm) x0 x3 x4 x5 F G hm
theorem cwl_J1_indexOfChar_4cfef_7 (fu : Nat) {res : Int32 × PF × PG} (C : cMC p R s m args c A v RJ1 cJ1_indexOfChar_4cfef 6 0 0 (xn res.2.1 - xn K0)) (hret : ∀ (b1 : Nat) (H1 : Heap) (locs1 : List Loc) (ls1 : Array Slot) (pc : Nat), cMW s A v a b1 K0 res.2.1 res.2.2 H1 locs1 → narrow .int (.int res.1) = .int res.1 → decode cJ1_indexOfChar_4cfef pc = .ok (.ireturn, 1) → W p l e R s m args below meth c H1 locs1 (xn res.2.1 - xn K0) (2 * (xn res.2.1 - xn K0)) Q (F0 m pc ls1 [.int res.1])) : ∀ (n : Nat) (x0 : Nat) (x3 : Int32) (x4 : Int32) (x5 : Int32) (F : PF) (G : PG) (hm : cl_J1_indexOfChar_4cfef_7 fu n x0 x3 x4 x5 F G = some res) {b : Nat} {H : Heap} {locs : List Loc} (hw : cMW s A v a b K0 F G H locs) {ls : Array Slot} (hl : lv_has ls 6 [(0, .ref (eV v x0)), (3, .int x3), (4, .int x4), (5, .int x5)]), W p l e R s m args below meth c H locs (xn F - xn K0) (2 * (xn F - xn K0)) Q (F0 m 7 ls []) := by
  intro n
  induction n with
  | zero =>
    intro x0 x3 x4 x5 F G hm
    exact no_elim (show (none : PR) = some res from hm)
  | succ n ih =>
    intro x0 x3 x4 x5 F G hm b H locs hw ls hl
    exact cw_J1_indexOfChar_4cfef_7 fu C hret (cl_J1_indexOfChar_4cfef_7 fu n) (fun x0 x3 x4 x5 F G hm b H locs ls hw hl => ih x0 x3 x4 x5 F G hm hw hl) (fun x0 x3 x4 x5 F G hm => cnl_J1_indexOfChar_4cfef_7 fu n x0 x3 x4 x5 F G hm) x0 x3 x4 x5 F G hm hw hl
theorem cn_J1_indexOfChar_4cfef_0 (fu : Nat) {res : Int32 × PF × PG} (x0 : Nat) (x1 : Int32) (x2 : Int32) (x3 : Int32) (F : PF) (G : PG) (hm : cb_J1_indexOfChar_4cfef_0 fu x0 x1 x2 x3 F G = some res) : xn F ≤ xn res.2.1 := by
  unfold cb_J1_indexOfChar_4cfef_0 at hm
  exact (cnl_J1_indexOfChar_4cfef_7 fu fu x0 x3 (x1.toInt8.toInt32) x2 F G hm)
theorem cw_J1_indexOfChar_4cfef_0 (fu : Nat) {res : Int32 × PF × PG} (C : cMC p R s m args c A v RJ1 cJ1_indexOfChar_4cfef 6 0 0 (xn res.2.1 - xn K0)) (hret : ∀ (b1 : Nat) (H1 : Heap) (locs1 : List Loc) (ls1 : Array Slot) (pc : Nat), cMW s A v a b1 K0 res.2.1 res.2.2 H1 locs1 → narrow .int (.int res.1) = .int res.1 → decode cJ1_indexOfChar_4cfef pc = .ok (.ireturn, 1) → W p l e R s m args below meth c H1 locs1 (xn res.2.1 - xn K0) (2 * (xn res.2.1 - xn K0)) Q (F0 m pc ls1 [.int res.1])) (x0 : Nat) (x1 : Int32) (x2 : Int32) (x3 : Int32) (F : PF) (G : PG) (hm : cb_J1_indexOfChar_4cfef_0 fu x0 x1 x2 x3 F G = some res) {b : Nat} {H : Heap} {locs : List Loc} (hw : cMW s A v a b K0 F G H locs) {ls : Array Slot} (hl : lv_has ls 6 [(0, .ref (eV v x0)), (1, .int x1), (2, .int x2), (3, .int x3)]) : W p l e R s m args below meth c H locs (xn F - xn K0) (2 * (xn F - xn K0)) Q (F0 m 0 ls []) := by
  have hx := C.1
  have hb := C.2.1
  unfold cb_J1_indexOfChar_4cfef_0 at hm
  refine lv_iload_n hx hb dJ1_indexOfChar_4cfef_0 rfl (lv_at hl 1 rfl) ?_
  refine lv_i2b hx hb dJ1_indexOfChar_4cfef_1 rfl ?_
  refine lv_istore (lv' := [(4, .int (x1.toInt8.toInt32)), (0, .ref (eV v x0)), (1, .int x1), (2, .int x2), (3, .int x3)]) hx hb dJ1_indexOfChar_4cfef_2 hl (by decide) rfl (fun ls hl => ?_)
  refine lv_iload_n hx hb dJ1_indexOfChar_4cfef_4 rfl (lv_at hl 3 rfl) ?_
  refine lv_istore (lv' := [(5, .int x2), (4, .int (x1.toInt8.toInt32)), (0, .ref (eV v x0)), (1, .int x1), (2, .int x2), (3, .int x3)]) hx hb dJ1_indexOfChar_4cfef_5 hl (by decide) rfl (fun ls hl => ?_)
  exact cwl_J1_indexOfChar_4cfef_7 fu C hret fu x0 x3 (x1.toInt8.toInt32) x2 F G hm hw (lv_sub hl [2, 5, 1, 0] rfl)
theorem cn_J1_indexOfChar_4cfef (fu : Nat) (x0 : Nat) (x1 : Int32) (x2 : Int32) (x3 : Int32) (F : PF) (G : PG) (q : Int32 × PF × PG) (hm : cf_J1_indexOfChar_4cfef fu x0 x1 x2 x3 F G = some q) : xn F ≤ xn q.2.1 := cn_J1_indexOfChar_4cfef_0 fu x0 x1 x2 x3 F G hm
theorem ck_J1_indexOfChar_4cfef (l : Launch) (v : EV) (a : Nat → Nat) (b sz : Nat) (fu : Nat) (x0 : Nat) (x1 : Int32) (x2 : Int32) (x3 : Int32) (F : PF) (G : PG) (r : Int32) (F1 : PF) (G1 : PG) (hm : cf_J1_indexOfChar_4cfef fu x0 x1 x2 x3 F G = some (r, F1, G1)) : cMI l yJ1_indexOfChar_4cfef cJ1_indexOfChar_4cfef 6 (some .int) 0 0 v a b sz [.ref (eV v x0), .int x1, .int x2, .int x3] F G r F1 G1 := cMI.of (ty := .int) (by decide) rfl (Nat.le_of_ble_eq_true rfl) (fun p e R s m args below meth c Q A H locs ls C hw hl hret => cw_J1_indexOfChar_4cfef_0 fu (res := (r, F1, G1)) C hret x0 x1 x2 x3 F G hm hw hl)
def cb_J1_indexOf_4cfef_36 (fu : Nat) (z0 : Int32) (F : PF) (G : PG) : PR := some (z0, F, G)
def cb_J1_indexOf_4cfef_29 (fu : Nat) (x0 : Nat) (x1 : Int32) (x2 : Int32) (x3 : Int32) (F : PF) (G : PG) : PR := (cf_J1_indexOfChar_4cfef fu x0 x1 x2 x3 F G).bind (fun q => cb_J1_indexOf_4cfef_36 fu q.1 q.2.1 q.2.2)
def cb_J1_indexOf_4cfef_27 (fu : Nat) (F : PF) (G : PG) : PR := some ((-1), F, G)
def cb_J1_indexOf_4cfef_21 (fu : Nat) (x0 : Nat) (x1 : Int32) (x2 : Int32) (z0 : Int32) (F : PF) (G : PG) : PR := if x2 < z0 then cb_J1_indexOf_4cfef_29 fu x0 x1 x2 z0 F G else cb_J1_indexOf_4cfef_27 fu F G
def cb_J1_indexOf_4cfef_14 (fu : Nat) (x0 : Nat) (x1 : Int32) (x3 : Int32) (z0 : Int32) (F : PF) (G : PG) : PR := if x0 < 4 then (cb_J1_indexOf_4cfef_21 fu x0 x1 z0 (if (nI (lenS.getD x0 0)) < x3 then (nI (lenS.getD x0 0)) else x3) F G) else none
def cb_J1_indexOf_4cfef_9 (fu : Nat) (x0 : Nat) (x1 : Int32) (x2 : Int32) (x3 : Int32) (F : PF) (G : PG) : PR := cb_J1_indexOf_4cfef_14 fu x0 x1 x3 (if x2 < (0 : Int32) then (0 : Int32) else x2) F G
def cb_J1_indexOf_4cfef_7 (fu : Nat) (F : PF) (G : PG) : PR := some ((-1), F, G)
def cb_J1_indexOf_4cfef_4 (fu : Nat) (x0 : Nat) (x1 : Int32) (x2 : Int32) (x3 : Int32) (z0 : Int32) (F : PF) (G : PG) : PR := if z0 = (0 : Int32) then cb_J1_indexOf_4cfef_7 fu F G else cb_J1_indexOf_4cfef_9 fu x0 x1 x2 x3 F G
def cb_J1_indexOf_4cfef_0 (fu : Nat) (x0 : Nat) (x1 : Int32) (x2 : Int32) (x3 : Int32) (F : PF) (G : PG) : PR := (cf_J1_canEncode_9a6ad fu x1 F G).bind (fun q => cb_J1_indexOf_4cfef_4 fu x0 x1 x2 x3 q.1 q.2.1 q.2.2)
def cf_J1_indexOf_4cfef (fu : Nat) (x0 : Nat) (x1 : Int32) (x2 : Int32) (x3 : Int32) (F : PF) (G : PG) : PR := cb_J1_indexOf_4cfef_0 fu x0 x1 x2 x3 F G
theorem cn_J1_indexOf_4cfef_36 (fu : Nat) {res : Int32 × PF × PG} (z0 : Int32) (F : PF) (G : PG) (hm : cb_J1_indexOf_4cfef_36 fu z0 F G = some res) : xn F ≤ xn res.2.1 := by
  unfold cb_J1_indexOf_4cfef_36 at hm
  obtain rfl := Option.some.inj hm
  exact Nat.le_refl _
theorem cw_J1_indexOf_4cfef_36 (fu : Nat) {res : Int32 × PF × PG} (C : cMC p R s m args c A v RJ1 cJ1_indexOf_4cfef 4 1 25 (xn res.2.1 - xn K0)) (hret : ∀ (b1 : Nat) (H1 : Heap) (locs1 : List Loc) (ls1 : Array Slot) (pc : Nat), cMW s A v a b1 K0 res.2.1 res.2.2 H1 locs1 → narrow .int (.int res.1) = .int res.1 → decode cJ1_indexOf_4cfef pc = .ok (.ireturn, 1) → W p l e R s m args below meth c H1 locs1 (xn res.2.1 - xn K0) (2 * (xn res.2.1 - xn K0)) Q (F0 m pc ls1 [.int res.1])) (z0 : Int32) (F : PF) (G : PG) (hm : cb_J1_indexOf_4cfef_36 fu z0 F G = some res) {b : Nat} {H : Heap} {locs : List Loc} (hw : cMW s A v a b K0 F G H locs) {ls : Array Slot} (hl : lv_has ls 4 []) : W p l e R s m args below meth c H locs (xn F - xn K0) (2 * (xn F - xn K0)) Q (F0 m 36 ls [.int z0]) := by
  have hx := C.1
  have hb := C.2.1
  unfold cb_J1_indexOf_4cfef_36 at hm
  obtain rfl := Option.some.inj hm
  exact hret _ _ _ _ _ hw rfl dJ1_indexOf_4cfef_36
theorem cn_J1_indexOf_4cfef_29 (fu : Nat) {res : Int32 × PF × PG} (x0 : Nat) (x1 : Int32) (x2 : Int32) (x3 : Int32) (F : PF) (G : PG) (hm : cb_J1_indexOf_4cfef_29 fu x0 x1 x2 x3 F G = some res) : xn F ≤ xn res.2.1 := by
  unfold cb_J1_indexOf_4cfef_29 at hm
  obtain ⟨⟨r1, F1, G1⟩, hc, hm⟩ := bind_elim hm
  exact Nat.le_trans (cn_J1_indexOfChar_4cfef fu x0 x1 x2 x3 F G _ hc) (cn_J1_indexOf_4cfef_36 fu r1 F1 G1 hm)
theorem cw_J1_indexOf_4cfef_29 (fu : Nat) {res : Int32 × PF × PG} (C : cMC p R s m args c A v RJ1 cJ1_indexOf_4cfef 4 1 25 (xn res.2.1 - xn K0)) (hret : ∀ (b1 : Nat) (H1 : Heap) (locs1 : List Loc) (ls1 : Array Slot) (pc : Nat), cMW s A v a b1 K0 res.2.1 res.2.2 H1 locs1 → narrow .int (.int res.1) = .int res.1 → decode cJ1_indexOf_4cfef pc = .ok (.ireturn, 1) → W p l e R s m args below meth c H1 locs1 (xn res.2.1 - xn K0) (2 * (xn res.2.1 - xn K0)) Q (F0 m pc ls1 [.int res.1])) (x0 : Nat) (x1 : Int32) (x2 : Int32) (x3 : Int32) (F : PF) (G : PG) (hm : cb_J1_indexOf_4cfef_29 fu x0 x1 x2 x3 F G = some res) {b : Nat} {H : Heap} {locs : List Loc} (hw : cMW s A v a b K0 F G H locs) {ls : Array Slot} (hl : lv_has ls 4 [(0, .ref (eV v x0)), (1, .int x1), (2, .int x2), (3, .int x3)]) : W p l e R s m args below meth c H locs (xn F - xn K0) (2 * (xn F - xn K0)) Q (F0 m 29 ls []) := by
  have hx := C.1
  have hb := C.2.1
  unfold cb_J1_indexOf_4cfef_29 at hm
  refine lv_aload_n hx hb dJ1_indexOf_4cfef_29 rfl (lv_at hl 0 rfl) ?_
  refine lv_iload_n hx hb dJ1_indexOf_4cfef_30 rfl (lv_at hl 1 rfl) ?_
  refine lv_iload_n hx hb dJ1_indexOf_4cfef_31 rfl (lv_at hl 2 rfl) ?_
  refine lv_iload_n hx hb dJ1_indexOf_4cfef_32 rfl (lv_at hl 3 rfl) ?_
  obtain ⟨⟨r1, F1, G1⟩, hc, hm⟩ := bind_elim hm
  refine ccallIS (n := 4) (As := [.ref (eV v x0), .int x1, .int x2, .int x3]) (rest := []) C hw (ck_J1_indexOfChar_4cfef l v a _ _ fu x0 x1 x2 x3 F G r1 F1 G1 hc) (cn_J1_indexOfChar_4cfef fu x0 x1 x2 x3 F G _ hc) (Nat.sub_le_sub_right (cn_J1_indexOf_4cfef_36 fu r1 F1 G1 hm) _) cm_198 cm_199 cm_124 cm_200 (by decide +kernel) rfl (by omega) (by omega) hl.1 rfl (Nat.le_of_ble_eq_true rfl) dJ1_indexOf_4cfef_33 (fun b H locs hw => ?_)
  exact cw_J1_indexOf_4cfef_36 fu C hret r1 F1 G1 hm hw (lv_sub hl [] rfl)
theorem cn_J1_indexOf_4cfef_27 (fu : Nat) {res : Int32 × PF × PG} (F : PF) (G : PG) (hm : cb_J1_indexOf_4cfef_27 fu F G = some res) : xn F ≤ xn res.2.1 := by
  unfold cb_J1_indexOf_4cfef_27 at hm
  obtain rfl := Option.some.inj hm
  exact Nat.le_refl _
theorem cw_J1_indexOf_4cfef_27 (fu : Nat) {res : Int32 × PF × PG} (C : cMC p R s m args c A v RJ1 cJ1_indexOf_4cfef 4 1 25 (xn res.2.1 - xn K0)) (hret : ∀ (b1 : Nat) (H1 : Heap) (locs1 : List Loc) (ls1 : Array Slot) (pc : Nat), cMW s A v a b1 K0 res.2.1 res.2.2 H1 locs1 → narrow .int (.int res.1) = .int res.1 → decode cJ1_indexOf_4cfef pc = .ok (.ireturn, 1) → W p l e R s m args below meth c H1 locs1 (xn res.2.1 - xn K0) (2 * (xn res.2.1 - xn K0)) Q (F0 m pc ls1 [.int res.1])) (F : PF) (G : PG) (hm : cb_J1_indexOf_4cfef_27 fu F G = some res) {b : Nat} {H : Heap} {locs : List Loc} (hw : cMW s A v a b K0 F G H locs) {ls : Array Slot} (hl : lv_has ls 4 []) : W p l e R s m args below meth c H locs (xn F - xn K0) (2 * (xn F - xn K0)) Q (F0 m 27 ls []) := by
  have hx := C.1
  have hb := C.2.1
  unfold cb_J1_indexOf_4cfef_27 at hm
  refine lv_iconst (v := (-1)) hx hb dJ1_indexOf_4cfef_27 (by decide) ?_
  obtain rfl := Option.some.inj hm
  exact hret _ _ _ _ _ hw rfl dJ1_indexOf_4cfef_28
theorem cn_J1_indexOf_4cfef_21 (fu : Nat) {res : Int32 × PF × PG} (x0 : Nat) (x1 : Int32) (x2 : Int32) (z0 : Int32) (F : PF) (G : PG) (hm : cb_J1_indexOf_4cfef_21 fu x0 x1 x2 z0 F G = some res) : xn F ≤ xn res.2.1 := by
  unfold cb_J1_indexOf_4cfef_21 at hm
  by_cases c_1 : x2 < z0
  · have hm := (if_pos c_1).symm.trans hm
    exact (cn_J1_indexOf_4cfef_29 fu x0 x1 x2 z0 F G hm)
  · have hm := (if_neg c_1).symm.trans hm
    exact (cn_J1_indexOf_4cfef_27 fu F G hm)
theorem cw_J1_indexOf_4cfef_21 (fu : Nat) {res : Int32 × PF × PG} (C : cMC p R s m args c A v RJ1 cJ1_indexOf_4cfef 4 1 25 (xn res.2.1 - xn K0)) (hret : ∀ (b1 : Nat) (H1 : Heap) (locs1 : List Loc) (ls1 : Array Slot) (pc : Nat), cMW s A v a b1 K0 res.2.1 res.2.2 H1 locs1 → narrow .int (.int res.1) = .int res.1 → decode cJ1_indexOf_4cfef pc = .ok (.ireturn, 1) → W p l e R s m args below meth c H1 locs1 (xn res.2.1 - xn K0) (2 * (xn res.2.1 - xn K0)) Q (F0 m pc ls1 [.int res.1])) (x0 : Nat) (x1 : Int32) (x2 : Int32) (z0 : Int32) (F : PF) (G : PG) (hm : cb_J1_indexOf_4cfef_21 fu x0 x1 x2 z0 F G = some res) {b : Nat} {H : Heap} {locs : List Loc} (hw : cMW s A v a b K0 F G H locs) {ls : Array Slot} (hl : lv_has ls 4 [(0, .ref (eV v x0)), (1, .int x1), (2, .int x2)]) : W p l e R s m args below meth c H locs (xn F - xn K0) (2 * (xn F - xn K0)) Q (F0 m 21 ls [.int z0]) := by
  have hx := C.1
  have hb := C.2.1
  unfold cb_J1_indexOf_4cfef_21 at hm
  refine lv_istore_n (lv' := [(3, .int z0), (0, .ref (eV v x0)), (1, .int x1), (2, .int x2)]) hx hb dJ1_indexOf_4cfef_21 rfl hl (by decide) rfl (fun ls hl => ?_)
  refine lv_iload_n hx hb dJ1_indexOf_4cfef_22 rfl (lv_at hl 3 rfl) ?_
  refine lv_iload_n hx hb dJ1_indexOf_4cfef_23 rfl (lv_at hl 0 rfl) ?_
  refine lv_icmp_lt (tgt := 29) hx hb dJ1_indexOf_4cfef_24 (by decide) (fun c_1 => ?_) (fun c_1 => ?_)
  · have hm := (if_pos c_1).symm.trans hm
    exact cw_J1_indexOf_4cfef_29 fu C hret x0 x1 x2 z0 F G hm hw (lv_sub hl [1, 2, 3, 0] rfl)
  · have hm := (if_neg c_1).symm.trans hm
    exact cw_J1_indexOf_4cfef_27 fu C hret F G hm hw (lv_sub hl [] rfl)
theorem cn_J1_indexOf_4cfef_14 (fu : Nat) {res : Int32 × PF × PG} (x0 : Nat) (x1 : Int32) (x3 : Int32) (z0 : Int32) (F : PF) (G : PG) (hm : cb_J1_indexOf_4cfef_14 fu x0 x1 x3 z0 F G = some res) : xn F ≤ xn res.2.1 := by
  unfold cb_J1_indexOf_4cfef_14 at hm
  have hm := (lt_elim hm).2
  exact (cn_J1_indexOf_4cfef_21 fu x0 x1 z0 (if (nI (lenS.getD x0 0)) < x3 then (nI (lenS.getD x0 0)) else x3) F G hm)
theorem cw_J1_indexOf_4cfef_14 (fu : Nat) {res : Int32 × PF × PG} (C : cMC p R s m args c A v RJ1 cJ1_indexOf_4cfef 4 1 25 (xn res.2.1 - xn K0)) (hret : ∀ (b1 : Nat) (H1 : Heap) (locs1 : List Loc) (ls1 : Array Slot) (pc : Nat), cMW s A v a b1 K0 res.2.1 res.2.2 H1 locs1 → narrow .int (.int res.1) = .int res.1 → decode cJ1_indexOf_4cfef pc = .ok (.ireturn, 1) → W p l e R s m args below meth c H1 locs1 (xn res.2.1 - xn K0) (2 * (xn res.2.1 - xn K0)) Q (F0 m pc ls1 [.int res.1])) (x0 : Nat) (x1 : Int32) (x3 : Int32) (z0 : Int32) (F : PF) (G : PG) (hm : cb_J1_indexOf_4cfef_14 fu x0 x1 x3 z0 F G = some res) {b : Nat} {H : Heap} {locs : List Loc} (hw : cMW s A v a b K0 F G H locs) {ls : Array Slot} (hl : lv_has ls 4 [(0, .ref (eV v x0)), (1, .int x1), (3, .int x3)]) : W p l e R s m args below meth c H locs (xn F - xn K0) (2 * (xn F - xn K0)) Q (F0 m 14 ls [.int z0]) := by
  have hx := C.1
  have hb := C.2.1
  unfold cb_J1_indexOf_4cfef_14 at hm
  refine lv_istore_n (lv' := [(2, .int z0), (0, .ref (eV v x0)), (1, .int x1), (3, .int x3)]) hx hb dJ1_indexOf_4cfef_14 rfl hl (by decide) rfl (fun ls hl => ?_)
  refine lv_iload_n hx hb dJ1_indexOf_4cfef_15 rfl (lv_at hl 3 rfl) ?_
  refine lv_aload_n hx hb dJ1_indexOf_4cfef_16 rfl (lv_at hl 1 rfl) ?_
  obtain ⟨hi4, hm⟩ := lt_elim hm
  refine va_tlen (v := nI (lenS.getD x0 0)) hx hb (C.2.2.2.2.2.2.2.2.2.1.1.2.2.1.1 _ hi4).2.2.2 hw.2.2.1 rfl dJ1_indexOf_4cfef_17 ?_
  refine va_mmin hx hb (C.2.2.1.trans hl.1.symm) C.2.2.2.1 (C.2.2.2.2.1 _ cm_192) (C.2.2.2.2.1 _ cm_193) (C.2.2.2.2.1 _ cm_190) (C.2.2.2.2.1 _ cm_194) (Nat.le_trans (by omega) C.2.2.2.2.2.2.2.1) (Nat.le_trans (by simp only [List.map, List.sum_cons, List.sum_nil, Value.category]; omega) C.2.2.2.2.2.2.2.2.1) (Nat.le_trans (Nat.sub_le_sub_right (cn_J1_indexOf_4cfef_21 fu x0 x1 z0 (if (nI (lenS.getD x0 0)) < x3 then (nI (lenS.getD x0 0)) else x3) F G hm) _) C.2.2.2.2.2.2.2.2.2.2.1) (Nat.le_trans (Nat.mul_le_mul_left 2 (Nat.sub_le_sub_right (cn_J1_indexOf_4cfef_21 fu x0 x1 z0 (if (nI (lenS.getD x0 0)) < x3 then (nI (lenS.getD x0 0)) else x3) F G hm) _)) C.2.2.2.2.2.2.2.2.2.2.2) dJ1_indexOf_4cfef_18 ?_
  exact cw_J1_indexOf_4cfef_21 fu C hret x0 x1 z0 (if (nI (lenS.getD x0 0)) < x3 then (nI (lenS.getD x0 0)) else x3) F G hm hw (lv_sub hl [1, 2, 0] rfl)
theorem cn_J1_indexOf_4cfef_9 (fu : Nat) {res : Int32 × PF × PG} (x0 : Nat) (x1 : Int32) (x2 : Int32) (x3 : Int32) (F : PF) (G : PG) (hm : cb_J1_indexOf_4cfef_9 fu x0 x1 x2 x3 F G = some res) : xn F ≤ xn res.2.1 := by
  unfold cb_J1_indexOf_4cfef_9 at hm
  exact (cn_J1_indexOf_4cfef_14 fu x0 x1 x3 (if x2 < (0 : Int32) then (0 : Int32) else x2) F G hm)
theorem cw_J1_indexOf_4cfef_9 (fu : Nat) {res : Int32 × PF × PG} (C : cMC p R s m args c A v RJ1 cJ1_indexOf_4cfef 4 1 25 (xn res.2.1 - xn K0)) (hret : ∀ (b1 : Nat) (H1 : Heap) (locs1 : List Loc) (ls1 : Array Slot) (pc : Nat), cMW s A v a b1 K0 res.2.1 res.2.2 H1 locs1 → narrow .int (.int res.1) = .int res.1 → decode cJ1_indexOf_4cfef pc = .ok (.ireturn, 1) → W p l e R s m args below meth c H1 locs1 (xn res.2.1 - xn K0) (2 * (xn res.2.1 - xn K0)) Q (F0 m pc ls1 [.int res.1])) (x0 : Nat) (x1 : Int32) (x2 : Int32) (x3 : Int32) (F : PF) (G : PG) (hm : cb_J1_indexOf_4cfef_9 fu x0 x1 x2 x3 F G = some res) {b : Nat} {H : Heap} {locs : List Loc} (hw : cMW s A v a b K0 F G H locs) {ls : Array Slot} (hl : lv_has ls 4 [(0, .ref (eV v x0)), (1, .int x1), (2, .int x2), (3, .int x3)]) : W p l e R s m args below meth c H locs (xn F - xn K0) (2 * (xn F - xn K0)) Q (F0 m 9 ls []) := by
  have hx := C.1
  have hb := C.2.1
  unfold cb_J1_indexOf_4cfef_9 at hm
  refine lv_iload_n hx hb dJ1_indexOf_4cfef_9 rfl (lv_at hl 2 rfl) ?_
  refine lv_iconst (v := 0) hx hb dJ1_indexOf_4cfef_10 (by decide) ?_
  refine va_mmax hx hb (C.2.2.1.trans hl.1.symm) C.2.2.2.1 (C.2.2.2.2.1 _ cm_188) (C.2.2.2.2.1 _ cm_189) (C.2.2.2.2.1 _ cm_190) (C.2.2.2.2.1 _ cm_191) (Nat.le_trans (by omega) C.2.2.2.2.2.2.2.1) (Nat.le_trans (by simp only [List.map, List.sum_cons, List.sum_nil, Value.category]; omega) C.2.2.2.2.2.2.2.2.1) (Nat.le_trans (Nat.sub_le_sub_right (cn_J1_indexOf_4cfef_14 fu x0 x1 x3 (if x2 < (0 : Int32) then (0 : Int32) else x2) F G hm) _) C.2.2.2.2.2.2.2.2.2.2.1) (Nat.le_trans (Nat.mul_le_mul_left 2 (Nat.sub_le_sub_right (cn_J1_indexOf_4cfef_14 fu x0 x1 x3 (if x2 < (0 : Int32) then (0 : Int32) else x2) F G hm) _)) C.2.2.2.2.2.2.2.2.2.2.2) dJ1_indexOf_4cfef_11 ?_
  exact cw_J1_indexOf_4cfef_14 fu C hret x0 x1 x3 (if x2 < (0 : Int32) then (0 : Int32) else x2) F G hm hw (lv_sub hl [0, 1, 3] rfl)
theorem cn_J1_indexOf_4cfef_7 (fu : Nat) {res : Int32 × PF × PG} (F : PF) (G : PG) (hm : cb_J1_indexOf_4cfef_7 fu F G = some res) : xn F ≤ xn res.2.1 := by
  unfold cb_J1_indexOf_4cfef_7 at hm
  obtain rfl := Option.some.inj hm
  exact Nat.le_refl _
theorem cw_J1_indexOf_4cfef_7 (fu : Nat) {res : Int32 × PF × PG} (C : cMC p R s m args c A v RJ1 cJ1_indexOf_4cfef 4 1 25 (xn res.2.1 - xn K0)) (hret : ∀ (b1 : Nat) (H1 : Heap) (locs1 : List Loc) (ls1 : Array Slot) (pc : Nat), cMW s A v a b1 K0 res.2.1 res.2.2 H1 locs1 → narrow .int (.int res.1) = .int res.1 → decode cJ1_indexOf_4cfef pc = .ok (.ireturn, 1) → W p l e R s m args below meth c H1 locs1 (xn res.2.1 - xn K0) (2 * (xn res.2.1 - xn K0)) Q (F0 m pc ls1 [.int res.1])) (F : PF) (G : PG) (hm : cb_J1_indexOf_4cfef_7 fu F G = some res) {b : Nat} {H : Heap} {locs : List Loc} (hw : cMW s A v a b K0 F G H locs) {ls : Array Slot} (hl : lv_has ls 4 []) : W p l e R s m args below meth c H locs (xn F - xn K0) (2 * (xn F - xn K0)) Q (F0 m 7 ls []) := by
  have hx := C.1
  have hb := C.2.1
  unfold cb_J1_indexOf_4cfef_7 at hm
  refine lv_iconst (v := (-1)) hx hb dJ1_indexOf_4cfef_7 (by decide) ?_
  obtain rfl := Option.some.inj hm
  exact hret _ _ _ _ _ hw rfl dJ1_indexOf_4cfef_8
theorem cn_J1_indexOf_4cfef_4 (fu : Nat) {res : Int32 × PF × PG} (x0 : Nat) (x1 : Int32) (x2 : Int32) (x3 : Int32) (z0 : Int32) (F : PF) (G : PG) (hm : cb_J1_indexOf_4cfef_4 fu x0 x1 x2 x3 z0 F G = some res) : xn F ≤ xn res.2.1 := by
  unfold cb_J1_indexOf_4cfef_4 at hm
  by_cases c_1 : z0 = (0 : Int32)
  · have hm := (if_pos c_1).symm.trans hm
    exact (cn_J1_indexOf_4cfef_7 fu F G hm)
  · have hm := (if_neg c_1).symm.trans hm
    exact (cn_J1_indexOf_4cfef_9 fu x0 x1 x2 x3 F G hm)
theorem cw_J1_indexOf_4cfef_4 (fu : Nat) {res : Int32 × PF × PG} (C : cMC p R s m args c A v RJ1 cJ1_indexOf_4cfef 4 1 25 (xn res.2.1 - xn K0)) (hret : ∀ (b1 : Nat) (H1 : Heap) (locs1 : List Loc) (ls1 : Array Slot) (pc : Nat), cMW s A v a b1 K0 res.2.1 res.2.2 H1 locs1 → narrow .int (.int res.1) = .int res.1 → decode cJ1_indexOf_4cfef pc = .ok (.ireturn, 1) → W p l e R s m args below meth c H1 locs1 (xn res.2.1 - xn K0) (2 * (xn res.2.1 - xn K0)) Q (F0 m pc ls1 [.int res.1])) (x0 : Nat) (x1 : Int32) (x2 : Int32) (x3 : Int32) (z0 : Int32) (F : PF) (G : PG) (hm : cb_J1_indexOf_4cfef_4 fu x0 x1 x2 x3 z0 F G = some res) {b : Nat} {H : Heap} {locs : List Loc} (hw : cMW s A v a b K0 F G H locs) {ls : Array Slot} (hl : lv_has ls 4 [(0, .ref (eV v x0)), (1, .int x1), (2, .int x2), (3, .int x3)]) : W p l e R s m args below meth c H locs (xn F - xn K0) (2 * (xn F - xn K0)) Q (F0 m 4 ls [.int z0]) := by
  have hx := C.1
  have hb := C.2.1
  unfold cb_J1_indexOf_4cfef_4 at hm
  refine lv_if_ne (tgt := 9) hx hb dJ1_indexOf_4cfef_4 (by decide) (fun c_1 => ?_) (fun c_1 => ?_)
  · have hm := (if_neg c_1).symm.trans hm
    exact cw_J1_indexOf_4cfef_9 fu C hret x0 x1 x2 x3 F G hm hw (lv_sub hl [0, 1, 2, 3] rfl)
  · have hm := (if_pos c_1).symm.trans hm
    exact cw_J1_indexOf_4cfef_7 fu C hret F G hm hw (lv_sub hl [] rfl)
theorem cn_J1_indexOf_4cfef_0 (fu : Nat) {res : Int32 × PF × PG} (x0 : Nat) (x1 : Int32) (x2 : Int32) (x3 : Int32) (F : PF) (G : PG) (hm : cb_J1_indexOf_4cfef_0 fu x0 x1 x2 x3 F G = some res) : xn F ≤ xn res.2.1 := by
  unfold cb_J1_indexOf_4cfef_0 at hm
  obtain ⟨⟨r1, F1, G1⟩, hc, hm⟩ := bind_elim hm
  exact Nat.le_trans (cn_J1_canEncode_9a6ad fu x1 F G _ hc) (cn_J1_indexOf_4cfef_4 fu x0 x1 x2 x3 r1 F1 G1 hm)
theorem cw_J1_indexOf_4cfef_0 (fu : Nat) {res : Int32 × PF × PG} (C : cMC p R s m args c A v RJ1 cJ1_indexOf_4cfef 4 1 25 (xn res.2.1 - xn K0)) (hret : ∀ (b1 : Nat) (H1 : Heap) (locs1 : List Loc) (ls1 : Array Slot) (pc : Nat), cMW s A v a b1 K0 res.2.1 res.2.2 H1 locs1 → narrow .int (.int res.1) = .int res.1 → decode cJ1_indexOf_4cfef pc = .ok (.ireturn, 1) → W p l e R s m args below meth c H1 locs1 (xn res.2.1 - xn K0) (2 * (xn res.2.1 - xn K0)) Q (F0 m pc ls1 [.int res.1])) (x0 : Nat) (x1 : Int32) (x2 : Int32) (x3 : Int32) (F : PF) (G : PG) (hm : cb_J1_indexOf_4cfef_0 fu x0 x1 x2 x3 F G = some res) {b : Nat} {H : Heap} {locs : List Loc} (hw : cMW s A v a b K0 F G H locs) {ls : Array Slot} (hl : lv_has ls 4 [(0, .ref (eV v x0)), (1, .int x1), (2, .int x2), (3, .int x3)]) : W p l e R s m args below meth c H locs (xn F - xn K0) (2 * (xn F - xn K0)) Q (F0 m 0 ls []) := by
  have hx := C.1
  have hb := C.2.1
  unfold cb_J1_indexOf_4cfef_0 at hm
  refine lv_iload_n hx hb dJ1_indexOf_4cfef_0 rfl (lv_at hl 1 rfl) ?_
  obtain ⟨⟨r1, F1, G1⟩, hc, hm⟩ := bind_elim hm
  refine ccallIS (n := 1) (As := [.int x1]) (rest := []) C hw (ck_J1_canEncode_9a6ad l v a _ _ fu x1 F G r1 F1 G1 hc) (cn_J1_canEncode_9a6ad fu x1 F G _ hc) (Nat.sub_le_sub_right (cn_J1_indexOf_4cfef_4 fu x0 x1 x2 x3 r1 F1 G1 hm) _) cm_195 cm_196 cm_124 cm_197 (by decide +kernel) rfl (by omega) (by omega) hl.1 rfl (Nat.le_of_ble_eq_true rfl) dJ1_indexOf_4cfef_1 (fun b H locs hw => ?_)
  exact cw_J1_indexOf_4cfef_4 fu C hret x0 x1 x2 x3 r1 F1 G1 hm hw (lv_sub hl [0, 1, 2, 3] rfl)
theorem cn_J1_indexOf_4cfef (fu : Nat) (x0 : Nat) (x1 : Int32) (x2 : Int32) (x3 : Int32) (F : PF) (G : PG) (q : Int32 × PF × PG) (hm : cf_J1_indexOf_4cfef fu x0 x1 x2 x3 F G = some q) : xn F ≤ xn q.2.1 := cn_J1_indexOf_4cfef_0 fu x0 x1 x2 x3 F G hm
theorem ck_J1_indexOf_4cfef (l : Launch) (v : EV) (a : Nat → Nat) (b sz : Nat) (fu : Nat) (x0 : Nat) (x1 : Int32) (x2 : Int32) (x3 : Int32) (F : PF) (G : PG) (r : Int32) (F1 : PF) (G1 : PG) (hm : cf_J1_indexOf_4cfef fu x0 x1 x2 x3 F G = some (r, F1, G1)) : cMI l yJ1_indexOf_4cfef cJ1_indexOf_4cfef 4 (some .int) 1 25 v a b sz [.ref (eV v x0), .int x1, .int x2, .int x3] F G r F1 G1 := cMI.of (ty := .int) (by decide) rfl (Nat.le_of_ble_eq_true rfl) (fun p e R s m args below meth c Q A H locs ls C hw hl hret => cw_J1_indexOf_4cfef_0 fu (res := (r, F1, G1)) C hret x0 x1 x2 x3 F G hm hw hl)
def cb_J0_indexOf_7cf53_36 (fu : Nat) (z0 : Int32) (F : PF) (G : PG) : PR := some (z0, F, G)
def cb_J0_indexOf_7cf53_33 (fu : Nat) (z0 : Int32) (z1 : Int32) (z2 : Int32) (z3 : Nat) (F : PF) (G : PG) : PR := none
def cb_J0_indexOf_7cf53_23 (fu : Nat) (x0 : Nat) (x1 : Int32) (x2 : Int32) (F : PF) (G : PG) : PR := if x0 < 4 then ((cf_J0_length_8abf5 fu x0 F G).bind (fun q => cb_J0_indexOf_7cf53_33 fu q.1 x2 x1 x0 q.2.1 q.2.2)) else none
def cb_J0_indexOf_7cf53_20 (fu : Nat) (z0 : Int32) (F : PF) (G : PG) : PR := cb_J0_indexOf_7cf53_36 fu z0 F G
def cb_J0_indexOf_7cf53_17 (fu : Nat) (z0 : Int32) (z1 : Int32) (z2 : Int32) (z3 : Nat) (F : PF) (G : PG) : PR := (cf_J1_indexOf_4cfef fu z3 z2 z1 z0 F G).bind (fun q => cb_J0_indexOf_7cf53_20 fu q.1 q.2.1 q.2.2)
def cb_J0_indexOf_7cf53_7 (fu : Nat) (x0 : Nat) (x1 : Int32) (x2 : Int32) (F : PF) (G : PG) : PR := if x0 < 4 then ((cf_J0_length_8abf5 fu x0 F G).bind (fun q => cb_J0_indexOf_7cf53_17 fu q.1 x2 x1 x0 q.2.1 q.2.2)) else none
def cb_J0_indexOf_7cf53_4 (fu : Nat) (x0 : Nat) (x1 : Int32) (x2 : Int32) (z0 : Int32) (F : PF) (G : PG) : PR := if z0 = (0 : Int32) then cb_J0_indexOf_7cf53_23 fu x0 x1 x2 F G else cb_J0_indexOf_7cf53_7 fu x0 x1 x2 F G
def cb_J0_indexOf_7cf53_0 (fu : Nat) (x0 : Nat) (x1 : Int32) (x2 : Int32) (F : PF) (G : PG) : PR := (cf_J0_isLatin1_aae02 fu x0 F G).bind (fun q => cb_J0_indexOf_7cf53_4 fu x0 x1 x2 q.1 q.2.1 q.2.2)
def cf_J0_indexOf_7cf53 (fu : Nat) (x0 : Nat) (x1 : Int32) (x2 : Int32) (F : PF) (G : PG) : PR := cb_J0_indexOf_7cf53_0 fu x0 x1 x2 F G
theorem cn_J0_indexOf_7cf53_36 (fu : Nat) {res : Int32 × PF × PG} (z0 : Int32) (F : PF) (G : PG) (hm : cb_J0_indexOf_7cf53_36 fu z0 F G = some res) : xn F ≤ xn res.2.1 := by
  unfold cb_J0_indexOf_7cf53_36 at hm
  obtain rfl := Option.some.inj hm
  exact Nat.le_refl _
theorem cw_J0_indexOf_7cf53_36 (fu : Nat) {res : Int32 × PF × PG} (C : cMC p R s m args c A v RJ0 cJ0_indexOf_7cf53 3 2 48 (xn res.2.1 - xn K0)) (hret : ∀ (b1 : Nat) (H1 : Heap) (locs1 : List Loc) (ls1 : Array Slot) (pc : Nat), cMW s A v a b1 K0 res.2.1 res.2.2 H1 locs1 → narrow .int (.int res.1) = .int res.1 → decode cJ0_indexOf_7cf53 pc = .ok (.ireturn, 1) → W p l e R s m args below meth c H1 locs1 (xn res.2.1 - xn K0) (2 * (xn res.2.1 - xn K0)) Q (F0 m pc ls1 [.int res.1])) (z0 : Int32) (F : PF) (G : PG) (hm : cb_J0_indexOf_7cf53_36 fu z0 F G = some res) {b : Nat} {H : Heap} {locs : List Loc} (hw : cMW s A v a b K0 F G H locs) {ls : Array Slot} (hl : lv_has ls 3 []) : W p l e R s m args below meth c H locs (xn F - xn K0) (2 * (xn F - xn K0)) Q (F0 m 36 ls [.int z0]) := by
  have hx := C.1
  have hb := C.2.1
  unfold cb_J0_indexOf_7cf53_36 at hm
  obtain rfl := Option.some.inj hm
  exact hret _ _ _ _ _ hw rfl dJ0_indexOf_7cf53_36
theorem cn_J0_indexOf_7cf53_33 (fu : Nat) {res : Int32 × PF × PG} (z0 : Int32) (z1 : Int32) (z2 : Int32) (z3 : Nat) (F : PF) (G : PG) (hm : cb_J0_indexOf_7cf53_33 fu z0 z1 z2 z3 F G = some res) : xn F ≤ xn res.2.1 := by
  unfold cb_J0_indexOf_7cf53_33 at hm
  exact no_elim hm
theorem cw_J0_indexOf_7cf53_33 (fu : Nat) {res : Int32 × PF × PG} (C : cMC p R s m args c A v RJ0 cJ0_indexOf_7cf53 3 2 48 (xn res.2.1 - xn K0)) (hret : ∀ (b1 : Nat) (H1 : Heap) (locs1 : List Loc) (ls1 : Array Slot) (pc : Nat), cMW s A v a b1 K0 res.2.1 res.2.2 H1 locs1 → narrow .int (.int res.1) = .int res.1 → decode cJ0_indexOf_7cf53 pc = .ok (.ireturn, 1) → W p l e R s m args below meth c H1 locs1 (xn res.2.1 - xn K0) (2 * (xn res.2.1 - xn K0)) Q (F0 m pc ls1 [.int res.1])) (z0 : Int32) (z1 : Int32) (z2 : Int32) (z3 : Nat) (F : PF) (G : PG) (hm : cb_J0_indexOf_7cf53_33 fu z0 z1 z2 z3 F G = some res) {b : Nat} {H : Heap} {locs : List Loc} (hw : cMW s A v a b K0 F G H locs) {ls : Array Slot} (hl : lv_has ls 3 []) : W p l e R s m args below meth c H locs (xn F - xn K0) (2 * (xn F - xn K0)) Q (F0 m 33 ls [.int z0, .int z1, .int z2, .ref (eV v z3)]) := by
  have hx := C.1
  have hb := C.2.1
  unfold cb_J0_indexOf_7cf53_33 at hm
  exact no_elim hm
theorem cn_J0_indexOf_7cf53_23 (fu : Nat) {res : Int32 × PF × PG} (x0 : Nat) (x1 : Int32) (x2 : Int32) (F : PF) (G : PG) (hm : cb_J0_indexOf_7cf53_23 fu x0 x1 x2 F G = some res) : xn F ≤ xn res.2.1 := by
  unfold cb_J0_indexOf_7cf53_23 at hm
  have hm := (lt_elim hm).2
  obtain ⟨⟨r1, F1, G1⟩, hc, hm⟩ := bind_elim hm
  exact Nat.le_trans (cn_J0_length_8abf5 fu x0 F G _ hc) (cn_J0_indexOf_7cf53_33 fu r1 x2 x1 x0 F1 G1 hm)
theorem cw_J0_indexOf_7cf53_23 (fu : Nat) {res : Int32 × PF × PG} (C : cMC p R s m args c A v RJ0 cJ0_indexOf_7cf53 3 2 48 (xn res.2.1 - xn K0)) (hret : ∀ (b1 : Nat) (H1 : Heap) (locs1 : List Loc) (ls1 : Array Slot) (pc : Nat), cMW s A v a b1 K0 res.2.1 res.2.2 H1 locs1 → narrow .int (.int res.1) = .int res.1 → decode cJ0_indexOf_7cf53 pc = .ok (.ireturn, 1) → W p l e R s m args below meth c H1 locs1 (xn res.2.1 - xn K0) (2 * (xn res.2.1 - xn K0)) Q (F0 m pc ls1 [.int res.1])) (x0 : Nat) (x1 : Int32) (x2 : Int32) (F : PF) (G : PG) (hm : cb_J0_indexOf_7cf53_23 fu x0 x1 x2 F G = some res) {b : Nat} {H : Heap} {locs : List Loc} (hw : cMW s A v a b K0 F G H locs) {ls : Array Slot} (hl : lv_has ls 3 [(0, .ref (eK v x0)), (1, .int x1), (2, .int x2)]) : W p l e R s m args below meth c H locs (xn F - xn K0) (2 * (xn F - xn K0)) Q (F0 m 23 ls []) := by
  have hx := C.1
  have hb := C.2.1
  unfold cb_J0_indexOf_7cf53_23 at hm
  refine lv_aload_n hx hb dJ0_indexOf_7cf53_23 rfl (lv_at hl 0 rfl) ?_
  obtain ⟨hi4, hm⟩ := lt_elim hm
  refine vk_getf hx hb (C.2.2.2.2.2.2.2.2.2.1.1.2.2.1.1 _ hi4).2.2.1 hw.2.2.1 C.2.2.2.1 (C.2.2.2.2.1 _ cm_115) (fun _ h => h) dJ0_indexOf_7cf53_24 ?_
  refine lv_iload_n hx hb dJ0_indexOf_7cf53_27 rfl (lv_at hl 1 rfl) ?_
  refine lv_iload_n hx hb dJ0_indexOf_7cf53_28 rfl (lv_at hl 2 rfl) ?_
  refine lv_aload_n hx hb dJ0_indexOf_7cf53_29 rfl (lv_at hl 0 rfl) ?_
  obtain ⟨⟨r1, F1, G1⟩, hc, hm⟩ := bind_elim hm
  refine ccallI (n := 0) (As := []) (rest := [.int x2, .int x1, .ref (eV v x0)]) C hw (ck_J0_length_8abf5 l v a _ _ fu x0 F G r1 F1 G1 hc) (cn_J0_length_8abf5 fu x0 F G _ hc) (Nat.sub_le_sub_right (cn_J0_indexOf_7cf53_33 fu r1 x2 x1 x0 F1 G1 hm) _) (vk_recv C.2.2.2.2.2.2.2.2.2.1.1.2.2.1 (clt_J0_length_8abf5 hc) hw.2.2.1) cm_177 cm_178 cm_179 cm_113 cm_180 (by decide +kernel) rfl (by omega) (by omega) hl.1 rfl (Nat.le_of_ble_eq_true rfl) dJ0_indexOf_7cf53_30 (fun b H locs hw => ?_)
  exact cw_J0_indexOf_7cf53_33 fu C hret r1 x2 x1 x0 F1 G1 hm hw (lv_sub hl [] rfl)
theorem cn_J0_indexOf_7cf53_20 (fu : Nat) {res : Int32 × PF × PG} (z0 : Int32) (F : PF) (G : PG) (hm : cb_J0_indexOf_7cf53_20 fu z0 F G = some res) : xn F ≤ xn res.2.1 := by
  unfold cb_J0_indexOf_7cf53_20 at hm
  exact (cn_J0_indexOf_7cf53_36 fu z0 F G hm)
theorem cw_J0_indexOf_7cf53_20 (fu : Nat) {res : Int32 × PF × PG} (C : cMC p R s m args c A v RJ0 cJ0_indexOf_7cf53 3 2 48 (xn res.2.1 - xn K0)) (hret : ∀ (b1 : Nat) (H1 : Heap) (locs1 : List Loc) (ls1 : Array Slot) (pc : Nat), cMW s A v a b1 K0 res.2.1 res.2.2 H1 locs1 → narrow .int (.int res.1) = .int res.1 → decode cJ0_indexOf_7cf53 pc = .ok (.ireturn, 1) → W p l e R s m args below meth c H1 locs1 (xn res.2.1 - xn K0) (2 * (xn res.2.1 - xn K0)) Q (F0 m pc ls1 [.int res.1])) (z0 : Int32) (F : PF) (G : PG) (hm : cb_J0_indexOf_7cf53_20 fu z0 F G = some res) {b : Nat} {H : Heap} {locs : List Loc} (hw : cMW s A v a b K0 F G H locs) {ls : Array Slot} (hl : lv_has ls 3 []) : W p l e R s m args below meth c H locs (xn F - xn K0) (2 * (xn F - xn K0)) Q (F0 m 20 ls [.int z0]) := by
  have hx := C.1
  have hb := C.2.1
  unfold cb_J0_indexOf_7cf53_20 at hm
  refine lv_goto (tgt := 36) hx hb dJ0_indexOf_7cf53_20 (by decide) ?_
  exact cw_J0_indexOf_7cf53_36 fu C hret z0 F G hm hw (lv_sub hl [] rfl)
theorem cn_J0_indexOf_7cf53_17 (fu : Nat) {res : Int32 × PF × PG} (z0 : Int32) (z1 : Int32) (z2 : Int32) (z3 : Nat) (F : PF) (G : PG) (hm : cb_J0_indexOf_7cf53_17 fu z0 z1 z2 z3 F G = some res) : xn F ≤ xn res.2.1 := by
  unfold cb_J0_indexOf_7cf53_17 at hm
  obtain ⟨⟨r1, F1, G1⟩, hc, hm⟩ := bind_elim hm
  exact Nat.le_trans (cn_J1_indexOf_4cfef fu z3 z2 z1 z0 F G _ hc) (cn_J0_indexOf_7cf53_20 fu r1 F1 G1 hm)
theorem cw_J0_indexOf_7cf53_17 (fu : Nat) {res : Int32 × PF × PG} (C : cMC p R s m args c A v RJ0 cJ0_indexOf_7cf53 3 2 48 (xn res.2.1 - xn K0)) (hret : ∀ (b1 : Nat) (H1 : Heap) (locs1 : List Loc) (ls1 : Array Slot) (pc : Nat), cMW s A v a b1 K0 res.2.1 res.2.2 H1 locs1 → narrow .int (.int res.1) = .int res.1 → decode cJ0_indexOf_7cf53 pc = .ok (.ireturn, 1) → W p l e R s m args below meth c H1 locs1 (xn res.2.1 - xn K0) (2 * (xn res.2.1 - xn K0)) Q (F0 m pc ls1 [.int res.1])) (z0 : Int32) (z1 : Int32) (z2 : Int32) (z3 : Nat) (F : PF) (G : PG) (hm : cb_J0_indexOf_7cf53_17 fu z0 z1 z2 z3 F G = some res) {b : Nat} {H : Heap} {locs : List Loc} (hw : cMW s A v a b K0 F G H locs) {ls : Array Slot} (hl : lv_has ls 3 []) : W p l e R s m args below meth c H locs (xn F - xn K0) (2 * (xn F - xn K0)) Q (F0 m 17 ls [.int z0, .int z1, .int z2, .ref (eV v z3)]) := by
  have hx := C.1
  have hb := C.2.1
  unfold cb_J0_indexOf_7cf53_17 at hm
  obtain ⟨⟨r1, F1, G1⟩, hc, hm⟩ := bind_elim hm
  refine ccallIS (n := 4) (As := [.ref (eV v z3), .int z2, .int z1, .int z0]) (rest := []) C hw (ck_J1_indexOf_4cfef l v a _ _ fu z3 z2 z1 z0 F G r1 F1 G1 hc) (cn_J1_indexOf_4cfef fu z3 z2 z1 z0 F G _ hc) (Nat.sub_le_sub_right (cn_J0_indexOf_7cf53_20 fu r1 F1 G1 hm) _) cm_185 cm_186 cm_124 cm_187 (by decide +kernel) rfl (by omega) (by omega) hl.1 rfl (Nat.le_of_ble_eq_true rfl) dJ0_indexOf_7cf53_17 (fun b H locs hw => ?_)
  exact cw_J0_indexOf_7cf53_20 fu C hret r1 F1 G1 hm hw (lv_sub hl [] rfl)
theorem cn_J0_indexOf_7cf53_7 (fu : Nat) {res : Int32 × PF × PG} (x0 : Nat) (x1 : Int32) (x2 : Int32) (F : PF) (G : PG) (hm : cb_J0_indexOf_7cf53_7 fu x0 x1 x2 F G = some res) : xn F ≤ xn res.2.1 := by
  unfold cb_J0_indexOf_7cf53_7 at hm
  have hm := (lt_elim hm).2
  obtain ⟨⟨r1, F1, G1⟩, hc, hm⟩ := bind_elim hm
  exact Nat.le_trans (cn_J0_length_8abf5 fu x0 F G _ hc) (cn_J0_indexOf_7cf53_17 fu r1 x2 x1 x0 F1 G1 hm)
theorem cw_J0_indexOf_7cf53_7 (fu : Nat) {res : Int32 × PF × PG} (C : cMC p R s m args c A v RJ0 cJ0_indexOf_7cf53 3 2 48 (xn res.2.1 - xn K0)) (hret : ∀ (b1 : Nat) (H1 : Heap) (locs1 : List Loc) (ls1 : Array Slot) (pc : Nat), cMW s A v a b1 K0 res.2.1 res.2.2 H1 locs1 → narrow .int (.int res.1) = .int res.1 → decode cJ0_indexOf_7cf53 pc = .ok (.ireturn, 1) → W p l e R s m args below meth c H1 locs1 (xn res.2.1 - xn K0) (2 * (xn res.2.1 - xn K0)) Q (F0 m pc ls1 [.int res.1])) (x0 : Nat) (x1 : Int32) (x2 : Int32) (F : PF) (G : PG) (hm : cb_J0_indexOf_7cf53_7 fu x0 x1 x2 F G = some res) {b : Nat} {H : Heap} {locs : List Loc} (hw : cMW s A v a b K0 F G H locs) {ls : Array Slot} (hl : lv_has ls 3 [(0, .ref (eK v x0)), (1, .int x1), (2, .int x2)]) : W p l e R s m args below meth c H locs (xn F - xn K0) (2 * (xn F - xn K0)) Q (F0 m 7 ls []) := by
  have hx := C.1
  have hb := C.2.1
  unfold cb_J0_indexOf_7cf53_7 at hm
  refine lv_aload_n hx hb dJ0_indexOf_7cf53_7 rfl (lv_at hl 0 rfl) ?_
  obtain ⟨hi4, hm⟩ := lt_elim hm
  refine vk_getf hx hb (C.2.2.2.2.2.2.2.2.2.1.1.2.2.1.1 _ hi4).2.2.1 hw.2.2.1 C.2.2.2.1 (C.2.2.2.2.1 _ cm_115) (fun _ h => h) dJ0_indexOf_7cf53_8 ?_
  refine lv_iload_n hx hb dJ0_indexOf_7cf53_11 rfl (lv_at hl 1 rfl) ?_
  refine lv_iload_n hx hb dJ0_indexOf_7cf53_12 rfl (lv_at hl 2 rfl) ?_
  refine lv_aload_n hx hb dJ0_indexOf_7cf53_13 rfl (lv_at hl 0 rfl) ?_
  obtain ⟨⟨r1, F1, G1⟩, hc, hm⟩ := bind_elim hm
  refine ccallI (n := 0) (As := []) (rest := [.int x2, .int x1, .ref (eV v x0)]) C hw (ck_J0_length_8abf5 l v a _ _ fu x0 F G r1 F1 G1 hc) (cn_J0_length_8abf5 fu x0 F G _ hc) (Nat.sub_le_sub_right (cn_J0_indexOf_7cf53_17 fu r1 x2 x1 x0 F1 G1 hm) _) (vk_recv C.2.2.2.2.2.2.2.2.2.1.1.2.2.1 (clt_J0_length_8abf5 hc) hw.2.2.1) cm_177 cm_178 cm_179 cm_113 cm_180 (by decide +kernel) rfl (by omega) (by omega) hl.1 rfl (Nat.le_of_ble_eq_true rfl) dJ0_indexOf_7cf53_14 (fun b H locs hw => ?_)
  exact cw_J0_indexOf_7cf53_17 fu C hret r1 x2 x1 x0 F1 G1 hm hw (lv_sub hl [] rfl)
theorem cn_J0_indexOf_7cf53_4 (fu : Nat) {res : Int32 × PF × PG} (x0 : Nat) (x1 : Int32) (x2 : Int32) (z0 : Int32) (F : PF) (G : PG) (hm : cb_J0_indexOf_7cf53_4 fu x0 x1 x2 z0 F G = some res) : xn F ≤ xn res.2.1 := by
  unfold cb_J0_indexOf_7cf53_4 at hm
  by_cases c_1 : z0 = (0 : Int32)
  · have hm := (if_pos c_1).symm.trans hm
    exact (cn_J0_indexOf_7cf53_23 fu x0 x1 x2 F G hm)
  · have hm := (if_neg c_1).symm.trans hm
    exact (cn_J0_indexOf_7cf53_7 fu x0 x1 x2 F G hm)
theorem cw_J0_indexOf_7cf53_4 (fu : Nat) {res : Int32 × PF × PG} (C : cMC p R s m args c A v RJ0 cJ0_indexOf_7cf53 3 2 48 (xn res.2.1 - xn K0)) (hret : ∀ (b1 : Nat) (H1 : Heap) (locs1 : List Loc) (ls1 : Array Slot) (pc : Nat), cMW s A v a b1 K0 res.2.1 res.2.2 H1 locs1 → narrow .int (.int res.1) = .int res.1 → decode cJ0_indexOf_7cf53 pc = .ok (.ireturn, 1) → W p l e R s m args below meth c H1 locs1 (xn res.2.1 - xn K0) (2 * (xn res.2.1 - xn K0)) Q (F0 m pc ls1 [.int res.1])) (x0 : Nat) (x1 : Int32) (x2 : Int32) (z0 : Int32) (F : PF) (G : PG) (hm : cb_J0_indexOf_7cf53_4 fu x0 x1 x2 z0 F G = some res) {b : Nat} {H : Heap} {locs : List Loc} (hw : cMW s A v a b K0 F G H locs) {ls : Array Slot} (hl : lv_has ls 3 [(0, .ref (eK v x0)), (1, .int x1), (2, .int x2)]) : W p l e R s m args below meth c H locs (xn F - xn K0) (2 * (xn F - xn K0)) Q (F0 m 4 ls [.int z0]) := by
  have hx := C.1
  have hb := C.2.1
  unfold cb_J0_indexOf_7cf53_4 at hm
  refine lv_if_eq (tgt := 23) hx hb dJ0_indexOf_7cf53_4 (by decide) (fun c_1 => ?_) (fun c_1 => ?_)
  · have hm := (if_pos c_1).symm.trans hm
    exact cw_J0_indexOf_7cf53_23 fu C hret x0 x1 x2 F G hm hw (lv_sub hl [0, 1, 2] rfl)
  · have hm := (if_neg c_1).symm.trans hm
    exact cw_J0_indexOf_7cf53_7 fu C hret x0 x1 x2 F G hm hw (lv_sub hl [0, 1, 2] rfl)
theorem cn_J0_indexOf_7cf53_0 (fu : Nat) {res : Int32 × PF × PG} (x0 : Nat) (x1 : Int32) (x2 : Int32) (F : PF) (G : PG) (hm : cb_J0_indexOf_7cf53_0 fu x0 x1 x2 F G = some res) : xn F ≤ xn res.2.1 := by
  unfold cb_J0_indexOf_7cf53_0 at hm
  obtain ⟨⟨r1, F1, G1⟩, hc, hm⟩ := bind_elim hm
  exact Nat.le_trans (cn_J0_isLatin1_aae02 fu x0 F G _ hc) (cn_J0_indexOf_7cf53_4 fu x0 x1 x2 r1 F1 G1 hm)
theorem cw_J0_indexOf_7cf53_0 (fu : Nat) {res : Int32 × PF × PG} (C : cMC p R s m args c A v RJ0 cJ0_indexOf_7cf53 3 2 48 (xn res.2.1 - xn K0)) (hret : ∀ (b1 : Nat) (H1 : Heap) (locs1 : List Loc) (ls1 : Array Slot) (pc : Nat), cMW s A v a b1 K0 res.2.1 res.2.2 H1 locs1 → narrow .int (.int res.1) = .int res.1 → decode cJ0_indexOf_7cf53 pc = .ok (.ireturn, 1) → W p l e R s m args below meth c H1 locs1 (xn res.2.1 - xn K0) (2 * (xn res.2.1 - xn K0)) Q (F0 m pc ls1 [.int res.1])) (x0 : Nat) (x1 : Int32) (x2 : Int32) (F : PF) (G : PG) (hm : cb_J0_indexOf_7cf53_0 fu x0 x1 x2 F G = some res) {b : Nat} {H : Heap} {locs : List Loc} (hw : cMW s A v a b K0 F G H locs) {ls : Array Slot} (hl : lv_has ls 3 [(0, .ref (eK v x0)), (1, .int x1), (2, .int x2)]) : W p l e R s m args below meth c H locs (xn F - xn K0) (2 * (xn F - xn K0)) Q (F0 m 0 ls []) := by
  have hx := C.1
  have hb := C.2.1
  unfold cb_J0_indexOf_7cf53_0 at hm
  refine lv_aload_n hx hb dJ0_indexOf_7cf53_0 rfl (lv_at hl 0 rfl) ?_
  obtain ⟨⟨r1, F1, G1⟩, hc, hm⟩ := bind_elim hm
  refine ccallI (n := 0) (As := []) (rest := []) C hw (ck_J0_isLatin1_aae02 l v a _ _ fu x0 F G r1 F1 G1 hc) (cn_J0_isLatin1_aae02 fu x0 F G _ hc) (Nat.sub_le_sub_right (cn_J0_indexOf_7cf53_4 fu x0 x1 x2 r1 F1 G1 hm) _) (vk_recv C.2.2.2.2.2.2.2.2.2.1.1.2.2.1 (clt_J0_isLatin1_aae02 hc) hw.2.2.1) cm_116 cm_117 cm_118 cm_113 cm_119 (by decide +kernel) rfl (by omega) (by omega) hl.1 rfl (Nat.le_of_ble_eq_true rfl) dJ0_indexOf_7cf53_1 (fun b H locs hw => ?_)
  exact cw_J0_indexOf_7cf53_4 fu C hret x0 x1 x2 r1 F1 G1 hm hw (lv_sub hl [0, 1, 2] rfl)
theorem cn_J0_indexOf_7cf53 (fu : Nat) (x0 : Nat) (x1 : Int32) (x2 : Int32) (F : PF) (G : PG) (q : Int32 × PF × PG) (hm : cf_J0_indexOf_7cf53 fu x0 x1 x2 F G = some q) : xn F ≤ xn q.2.1 := cn_J0_indexOf_7cf53_0 fu x0 x1 x2 F G hm
theorem ck_J0_indexOf_7cf53 (l : Launch) (v : EV) (a : Nat → Nat) (b sz : Nat) (fu : Nat) (x0 : Nat) (x1 : Int32) (x2 : Int32) (F : PF) (G : PG) (r : Int32) (F1 : PF) (G1 : PG) (hm : cf_J0_indexOf_7cf53 fu x0 x1 x2 F G = some (r, F1, G1)) : cMI l yJ0_indexOf_7cf53 cJ0_indexOf_7cf53 3 (some .int) 2 48 v a b sz [.ref (eK v x0), .int x1, .int x2] F G r F1 G1 := cMI.of (ty := .int) (by decide) rfl (Nat.le_of_ble_eq_true rfl) (fun p e R s m args below meth c Q A H locs ls C hw hl hret => cw_J0_indexOf_7cf53_0 fu (res := (r, F1, G1)) C hret x0 x1 x2 F G hm hw hl)
theorem clt_J0_indexOf_7cf53 {fu i : Nat} {x y : Int32} {F : PF} {G : PG} {q : Int32 × PF × PG} (h : cf_J0_indexOf_7cf53 fu i x y F G = some q) : i < 4 := by
  unfold cf_J0_indexOf_7cf53 cb_J0_indexOf_7cf53_0 at h
  obtain ⟨q1, h1, h2⟩ := bind_elim h
  exact clt_J0_isLatin1_aae02 h1
def cb_J0_indexOf_0f7a4_6 (fu : Nat) (z0 : Int32) (F : PF) (G : PG) : PR := some (z0, F, G)
def cb_J0_indexOf_0f7a4_0 (fu : Nat) (x0 : Nat) (x1 : Int32) (F : PF) (G : PG) : PR := (cf_J0_indexOf_7cf53 fu x0 x1 0 F G).bind (fun q => cb_J0_indexOf_0f7a4_6 fu q.1 q.2.1 q.2.2)
def cf_J0_indexOf_0f7a4 (fu : Nat) (x0 : Nat) (x1 : Int32) (F : PF) (G : PG) : PR := cb_J0_indexOf_0f7a4_0 fu x0 x1 F G
theorem cn_J0_indexOf_0f7a4_6 (fu : Nat) {res : Int32 × PF × PG} (z0 : Int32) (F : PF) (G : PG) (hm : cb_J0_indexOf_0f7a4_6 fu z0 F G = some res) : xn F ≤ xn res.2.1 := by
  unfold cb_J0_indexOf_0f7a4_6 at hm
  obtain rfl := Option.some.inj hm
  exact Nat.le_refl _
theorem cw_J0_indexOf_0f7a4_6 (fu : Nat) {res : Int32 × PF × PG} (C : cMC p R s m args c A v RJ0 cJ0_indexOf_0f7a4 2 3 70 (xn res.2.1 - xn K0)) (hret : ∀ (b1 : Nat) (H1 : Heap) (locs1 : List Loc) (ls1 : Array Slot) (pc : Nat), cMW s A v a b1 K0 res.2.1 res.2.2 H1 locs1 → narrow .int (.int res.1) = .int res.1 → decode cJ0_indexOf_0f7a4 pc = .ok (.ireturn, 1) → W p l e R s m args below meth c H1 locs1 (xn res.2.1 - xn K0) (2 * (xn res.2.1 - xn K0)) Q (F0 m pc ls1 [.int res.1])) (z0 : Int32) (F : PF) (G : PG) (hm : cb_J0_indexOf_0f7a4_6 fu z0 F G = some res) {b : Nat} {H : Heap} {locs : List Loc} (hw : cMW s A v a b K0 F G H locs) {ls : Array Slot} (hl : lv_has ls 2 []) : W p l e R s m args below meth c H locs (xn F - xn K0) (2 * (xn F - xn K0)) Q (F0 m 6 ls [.int z0]) := by
  have hx := C.1
  have hb := C.2.1
  unfold cb_J0_indexOf_0f7a4_6 at hm
  obtain rfl := Option.some.inj hm
  exact hret _ _ _ _ _ hw rfl dJ0_indexOf_0f7a4_6
theorem cn_J0_indexOf_0f7a4_0 (fu : Nat) {res : Int32 × PF × PG} (x0 : Nat) (x1 : Int32) (F : PF) (G : PG) (hm : cb_J0_indexOf_0f7a4_0 fu x0 x1 F G = some res) : xn F ≤ xn res.2.1 := by
  unfold cb_J0_indexOf_0f7a4_0 at hm
  obtain ⟨⟨r1, F1, G1⟩, hc, hm⟩ := bind_elim hm
  exact Nat.le_trans (cn_J0_indexOf_7cf53 fu x0 x1 0 F G _ hc) (cn_J0_indexOf_0f7a4_6 fu r1 F1 G1 hm)
theorem cw_J0_indexOf_0f7a4_0 (fu : Nat) {res : Int32 × PF × PG} (C : cMC p R s m args c A v RJ0 cJ0_indexOf_0f7a4 2 3 70 (xn res.2.1 - xn K0)) (hret : ∀ (b1 : Nat) (H1 : Heap) (locs1 : List Loc) (ls1 : Array Slot) (pc : Nat), cMW s A v a b1 K0 res.2.1 res.2.2 H1 locs1 → narrow .int (.int res.1) = .int res.1 → decode cJ0_indexOf_0f7a4 pc = .ok (.ireturn, 1) → W p l e R s m args below meth c H1 locs1 (xn res.2.1 - xn K0) (2 * (xn res.2.1 - xn K0)) Q (F0 m pc ls1 [.int res.1])) (x0 : Nat) (x1 : Int32) (F : PF) (G : PG) (hm : cb_J0_indexOf_0f7a4_0 fu x0 x1 F G = some res) {b : Nat} {H : Heap} {locs : List Loc} (hw : cMW s A v a b K0 F G H locs) {ls : Array Slot} (hl : lv_has ls 2 [(0, .ref (eK v x0)), (1, .int x1)]) : W p l e R s m args below meth c H locs (xn F - xn K0) (2 * (xn F - xn K0)) Q (F0 m 0 ls []) := by
  have hx := C.1
  have hb := C.2.1
  unfold cb_J0_indexOf_0f7a4_0 at hm
  refine lv_aload_n hx hb dJ0_indexOf_0f7a4_0 rfl (lv_at hl 0 rfl) ?_
  refine lv_iload_n hx hb dJ0_indexOf_0f7a4_1 rfl (lv_at hl 1 rfl) ?_
  refine lv_iconst (v := 0) hx hb dJ0_indexOf_0f7a4_2 (by decide) ?_
  obtain ⟨⟨r1, F1, G1⟩, hc, hm⟩ := bind_elim hm
  refine ccallI (n := 2) (As := [.int x1, .int 0]) (rest := []) C hw (ck_J0_indexOf_7cf53 l v a _ _ fu x0 x1 0 F G r1 F1 G1 hc) (cn_J0_indexOf_7cf53 fu x0 x1 0 F G _ hc) (Nat.sub_le_sub_right (cn_J0_indexOf_0f7a4_6 fu r1 F1 G1 hm) _) (vk_recv C.2.2.2.2.2.2.2.2.2.1.1.2.2.1 (clt_J0_indexOf_7cf53 hc) hw.2.2.1) cm_173 cm_174 cm_175 cm_113 cm_176 (by decide +kernel) rfl (by omega) (by omega) hl.1 rfl (Nat.le_of_ble_eq_true rfl) dJ0_indexOf_0f7a4_3 (fun b H locs hw => ?_)
  exact cw_J0_indexOf_0f7a4_6 fu C hret r1 F1 G1 hm hw (lv_sub hl [] rfl)
theorem cn_J0_indexOf_0f7a4 (fu : Nat) (x0 : Nat) (x1 : Int32) (F : PF) (G : PG) (q : Int32 × PF × PG) (hm : cf_J0_indexOf_0f7a4 fu x0 x1 F G = some q) : xn F ≤ xn q.2.1 := cn_J0_indexOf_0f7a4_0 fu x0 x1 F G hm
theorem ck_J0_indexOf_0f7a4 (l : Launch) (v : EV) (a : Nat → Nat) (b sz : Nat) (fu : Nat) (x0 : Nat) (x1 : Int32) (F : PF) (G : PG) (r : Int32) (F1 : PF) (G1 : PG) (hm : cf_J0_indexOf_0f7a4 fu x0 x1 F G = some (r, F1, G1)) : cMI l yJ0_indexOf_0f7a4 cJ0_indexOf_0f7a4 2 (some .int) 3 70 v a b sz [.ref (eK v x0), .int x1] F G r F1 G1 := cMI.of (ty := .int) (by decide) rfl (Nat.le_of_ble_eq_true rfl) (fun p e R s m args below meth c Q A H locs ls C hw hl hret => cw_J0_indexOf_0f7a4_0 fu (res := (r, F1, G1)) C hret x0 x1 F G hm hw hl)
theorem clt_J0_indexOf_0f7a4 {fu i : Nat} {x : Int32} {F : PF} {G : PG} {q : Int32 × PF × PG} (h : cf_J0_indexOf_0f7a4 fu i x F G = some q) : i < 4 := by
  unfold cf_J0_indexOf_0f7a4 cb_J0_indexOf_0f7a4_0 at h
  obtain ⟨q1, h1, h2⟩ := bind_elim h
  exact clt_J0_indexOf_7cf53 h1
def cb_X10_behindSign_49 (fu : Nat) (F : PF) (G : PG) : PR := some ((-1), F, G)
def cb_X10_behindSign_186 (fu : Nat) (x4 : Int32) (F : PF) (G : PG) : PR := some (x4, F, G)
def cb_X10_behindSign_178 (fu : Nat) (x1 : Int32) (x4 : Int32) (x6 : Int32) (F : PF) (G : PG) : PR := (cf_X10_add fu x6 0 x1 F G).bind (fun q => cb_X10_behindSign_186 fu x4 q.2.1 q.2.2)
def cb_X10_behindSign_168 (fu : Nat) (x1 : Int32) (x3 : Int32) (x4 : Int32) (F : PF) (G : PG) : PR := if ixb x3 23 = true then (cb_X10_behindSign_178 fu x1 (x4 + 1) (tb_4 x3.toNatClampNeg) F G) else none
def cb_X10_behindSign_160 (fu : Nat) (x1 : Int32) (x3 : Int32) (x4 : Int32) (x6 : Int32) (F : PF) (G : PG) : PR := if ixb x3 23 = true then (if (tb_4 x3.toNatClampNeg) = (0 : Int32) then cb_X10_behindSign_178 fu x1 x4 x6 F G else cb_X10_behindSign_168 fu x1 x3 x4 F G) else none
def cb_X10_behindSign_153 (fu : Nat) (x1 : Int32) (x3 : Int32) (x4 : Int32) (x5 : Int32) (x6 : Int32) (F : PF) (G : PG) : PR := if x5 = (61 : Int32) then cb_X10_behindSign_160 fu x1 x3 x4 x6 F G else cb_X10_behindSign_178 fu x1 x4 x6 F G
def cb_X10_behindSign_137 (fu : Nat) (x1 : Int32) (x4 : Int32) (x6 : Int32) (F : PF) (G : PG) : PR := cb_X10_behindSign_178 fu x1 (x4 + 1) ((x6 - (54 : Int32)) + (38 : Int32)) F G
def cb_X10_behindSign_132 (fu : Nat) (x1 : Int32) (x4 : Int32) (x6 : Int32) (z0 : Int32) (F : PF) (G : PG) : PR := if z0 = (61 : Int32) then cb_X10_behindSign_137 fu x1 x4 x6 F G else cb_X10_behindSign_178 fu x1 x4 x6 F G
def cb_X10_behindSign_123 (fu : Nat) (x1 : Int32) (x4 : Int32) (x6 : Int32) (F : PF) (G : PG) : PR := (cf_X9_at fu x4 F G).bind (fun q => cb_X10_behindSign_132 fu x1 x4 x6 q.1 q.2.1 q.2.2)
def cb_X10_behindSign_116 (fu : Nat) (x1 : Int32) (x4 : Int32) (x6 : Int32) (F : PF) (G : PG) : PR := if (56 : Int32) < x6 then cb_X10_behindSign_178 fu x1 x4 x6 F G else cb_X10_behindSign_123 fu x1 x4 x6 F G
def cb_X10_behindSign_109 (fu : Nat) (x1 : Int32) (x4 : Int32) (x6 : Int32) (F : PF) (G : PG) : PR := if x6 < (54 : Int32) then cb_X10_behindSign_178 fu x1 x4 x6 F G else cb_X10_behindSign_116 fu x1 x4 x6 F G
def cb_X10_behindSign_102 (fu : Nat) (x1 : Int32) (x4 : Int32) (F : PF) (G : PG) : PR := cb_X10_behindSign_109 fu x1 (x4 + 1) 56 F G
def cb_X10_behindSign_98 (fu : Nat) (x1 : Int32) (x2 : Int32) (x4 : Int32) (x6 : Int32) (z0 : Int32) (F : PF) (G : PG) : PR := if z0 = x2 then cb_X10_behindSign_102 fu x1 x4 F G else cb_X10_behindSign_109 fu x1 x4 x6 F G
def cb_X10_behindSign_89 (fu : Nat) (x1 : Int32) (x2 : Int32) (x4 : Int32) (x6 : Int32) (F : PF) (G : PG) : PR := (cf_X9_at fu x4 F G).bind (fun q => cb_X10_behindSign_98 fu x1 x2 x4 x6 q.1 q.2.1 q.2.2)
def cb_X10_behindSign_72 (fu : Nat) (x1 : Int32) (x2 : Int32) (x3 : Int32) (x4 : Int32) (F : PF) (G : PG) : PR := if ixb x3 23 = true then (if (tb_3 x3.toNatClampNeg) = (55 : Int32) then cb_X10_behindSign_89 fu x1 x2 (x4 + 1) (tb_3 x3.toNatClampNeg) F G else cb_X10_behindSign_109 fu x1 (x4 + 1) (tb_3 x3.toNatClampNeg) F G) else none
def cb_X10_behindSign_64 (fu : Nat) (x1 : Int32) (x2 : Int32) (x3 : Int32) (x4 : Int32) (x5 : Int32) (x6 : Int32) (F : PF) (G : PG) : PR := if ixb x3 23 = true then (if (tb_3 x3.toNatClampNeg) = (0 : Int32) then cb_X10_behindSign_153 fu x1 x3 x4 x5 x6 F G else cb_X10_behindSign_72 fu x1 x2 x3 x4 F G) else none
def cb_X10_behindSign_51 (fu : Nat) (x1 : Int32) (x2 : Int32) (x3 : Int32) (x4 : Int32) (x5 : Int32) (F : PF) (G : PG) : PR := if ixb x3 23 = true then (if x5 = x2 then cb_X10_behindSign_64 fu x1 x2 x3 x4 x5 (tb_2 x3.toNatClampNeg) F G else cb_X10_behindSign_153 fu x1 x3 x4 x5 (tb_2 x3.toNatClampNeg) F G) else none
def cb_X10_behindSign_42 (fu : Nat) (x1 : Int32) (x2 : Int32) (x3 : Int32) (x4 : Int32) (x5 : Int32) (F : PF) (G : PG) : PR := if x5 = (42 : Int32) then cb_X10_behindSign_49 fu F G else cb_X10_behindSign_51 fu x1 x2 x3 x4 x5 F G
def cb_X10_behindSign_36 (fu : Nat) (x1 : Int32) (x2 : Int32) (x3 : Int32) (x4 : Int32) (x5 : Int32) (F : PF) (G : PG) : PR := if x2 = (47 : Int32) then cb_X10_behindSign_42 fu x1 x2 x3 x4 x5 F G else cb_X10_behindSign_51 fu x1 x2 x3 x4 x5 F G
def cb_X10_behindSign_28 (fu : Nat) (x1 : Int32) (x2 : Int32) (x3 : Int32) (x4 : Int32) (x5 : Int32) (F : PF) (G : PG) : PR := if (23 : Int32) ≤ x3 then cb_X10_behindSign_49 fu F G else cb_X10_behindSign_36 fu x1 x2 x3 x4 x5 F G
def cb_X10_behindSign_22 (fu : Nat) (x1 : Int32) (x2 : Int32) (x3 : Int32) (x4 : Int32) (z0 : Int32) (F : PF) (G : PG) : PR := if x3 < (0 : Int32) then cb_X10_behindSign_49 fu F G else cb_X10_behindSign_28 fu x1 x2 x3 x4 z0 F G
def cb_X10_behindSign_7 (fu : Nat) (x1 : Int32) (x2 : Int32) (z0 : Int32) (F : PF) (G : PG) : PR := (cf_X9_at fu (x1 + (1 : Int32)) F G).bind (fun q => cb_X10_behindSign_22 fu x1 x2 z0 (x1 + (1 : Int32)) q.1 q.2.1 q.2.2)
def cb_X10_behindSign_0 (fu : Nat) (x1 : Int32) (x2 : Int32) (F : PF) (G : PG) : PR := (cf_J0_indexOf_0f7a4 fu 3 ((x2.toUInt32 % 65536).toInt32) F G).bind (fun q => cb_X10_behindSign_7 fu x1 x2 q.1 q.2.1 q.2.2)
def cf_X10_behindSign (fu : Nat) (x1 : Int32) (x2 : Int32) (F : PF) (G : PG) : PR := cb_X10_behindSign_0 fu x1 x2 F G
theorem cn_X10_behindSign_49 (fu : Nat) {res : Int32 × PF × PG} (F : PF) (G : PG) (hm : cb_X10_behindSign_49 fu F G = some res) : xn F ≤ xn res.2.1 := by
  unfold cb_X10_behindSign_49 at hm
  obtain rfl := Option.some.inj hm
  exact Nat.le_refl _
theorem cw_X10_behindSign_49 (fu : Nat) {res : Int32 × PF × PG} (C : cMC p R s m args c A v RX10 cX10_behindSign 7 4 91 (xn res.2.1 - xn K0)) (hret : ∀ (b1 : Nat) (H1 : Heap) (locs1 : List Loc) (ls1 : Array Slot) (pc : Nat), cMW s A v a b1 K0 res.2.1 res.2.2 H1 locs1 → narrow .int (.int res.1) = .int res.1 → decode cX10_behindSign pc = .ok (.ireturn, 1) → W p l e R s m args below meth c H1 locs1 (xn res.2.1 - xn K0) (2 * (xn res.2.1 - xn K0)) Q (F0 m pc ls1 [.int res.1])) (F : PF) (G : PG) (hm : cb_X10_behindSign_49 fu F G = some res) {b : Nat} {H : Heap} {locs : List Loc} (hw : cMW s A v a b K0 F G H locs) {ls : Array Slot} (hl : lv_has ls 7 []) : W p l e R s m args below meth c H locs (xn F - xn K0) (2 * (xn F - xn K0)) Q (F0 m 49 ls []) := by
  have hx := C.1
  have hb := C.2.1
  unfold cb_X10_behindSign_49 at hm
  refine lv_iconst (v := (-1)) hx hb dX10_behindSign_49 (by decide) ?_
  obtain rfl := Option.some.inj hm
  exact hret _ _ _ _ _ hw rfl dX10_behindSign_50
theorem cn_X10_behindSign_186 (fu : Nat) {res : Int32 × PF × PG} (x4 : Int32) (F : PF) (G : PG) (hm : cb_X10_behindSign_186 fu x4 F G = some res) : xn F ≤ xn res.2.1 := by
  unfold cb_X10_behindSign_186 at hm
  obtain rfl := Option.some.inj hm
  exact Nat.le_refl _
theorem cw_X10_behindSign_186 (fu : Nat) {res : Int32 × PF × PG} (C : cMC p R s m args c A v RX10 cX10_behindSign 7 4 91 (xn res.2.1 - xn K0)) (hret : ∀ (b1 : Nat) (H1 : Heap) (locs1 : List Loc) (ls1 : Array Slot) (pc : Nat), cMW s A v a b1 K0 res.2.1 res.2.2 H1 locs1 → narrow .int (.int res.1) = .int res.1 → decode cX10_behindSign pc = .ok (.ireturn, 1) → W p l e R s m args below meth c H1 locs1 (xn res.2.1 - xn K0) (2 * (xn res.2.1 - xn K0)) Q (F0 m pc ls1 [.int res.1])) (x4 : Int32) (F : PF) (G : PG) (hm : cb_X10_behindSign_186 fu x4 F G = some res) {b : Nat} {H : Heap} {locs : List Loc} (hw : cMW s A v a b K0 F G H locs) {ls : Array Slot} (hl : lv_has ls 7 [(4, .int x4)]) : W p l e R s m args below meth c H locs (xn F - xn K0) (2 * (xn F - xn K0)) Q (F0 m 186 ls []) := by
  have hx := C.1
  have hb := C.2.1
  unfold cb_X10_behindSign_186 at hm
  refine lv_iload hx hb dX10_behindSign_186 (lv_at hl 0 rfl) ?_
  obtain rfl := Option.some.inj hm
  exact hret _ _ _ _ _ hw rfl dX10_behindSign_188
theorem cn_X10_behindSign_178 (fu : Nat) {res : Int32 × PF × PG} (x1 : Int32) (x4 : Int32) (x6 : Int32) (F : PF) (G : PG) (hm : cb_X10_behindSign_178 fu x1 x4 x6 F G = some res) : xn F ≤ xn res.2.1 := by
  unfold cb_X10_behindSign_178 at hm
  obtain ⟨⟨r1, F1, G1⟩, hc, hm⟩ := bind_elim hm
  exact Nat.le_trans (cn_X10_add fu x6 0 x1 F G _ hc) (cn_X10_behindSign_186 fu x4 F1 G1 hm)
theorem cw_X10_behindSign_178 (fu : Nat) {res : Int32 × PF × PG} (C : cMC p R s m args c A v RX10 cX10_behindSign 7 4 91 (xn res.2.1 - xn K0)) (hret : ∀ (b1 : Nat) (H1 : Heap) (locs1 : List Loc) (ls1 : Array Slot) (pc : Nat), cMW s A v a b1 K0 res.2.1 res.2.2 H1 locs1 → narrow .int (.int res.1) = .int res.1 → decode cX10_behindSign pc = .ok (.ireturn, 1) → W p l e R s m args below meth c H1 locs1 (xn res.2.1 - xn K0) (2 * (xn res.2.1 - xn K0)) Q (F0 m pc ls1 [.int res.1])) (x1 : Int32) (x4 : Int32) (x6 : Int32) (F : PF) (G : PG) (hm : cb_X10_behindSign_178 fu x1 x4 x6 F G = some res) {b : Nat} {H : Heap} {locs : List Loc} (hw : cMW s A v a b K0 F G H locs) {ls : Array Slot} (hl : lv_has ls 7 [(0, .ref (a 210)), (1, .int x1), (4, .int x4), (6, .int x6)]) : W p l e R s m args below meth c H locs (xn F - xn K0) (2 * (xn F - xn K0)) Q (F0 m 178 ls []) := by
  have hx := C.1
  have hb := C.2.1
  unfold cb_X10_behindSign_178 at hm
  refine lv_aload_n hx hb dX10_behindSign_178 rfl (lv_at hl 0 rfl) ?_
  refine lv_iload hx hb dX10_behindSign_179 (lv_at hl 3 rfl) ?_
  refine lv_iconst (v := 0) hx hb dX10_behindSign_181 (by decide) ?_
  refine lv_iload_n hx hb dX10_behindSign_182 rfl (lv_at hl 1 rfl) ?_
  obtain ⟨⟨r1, F1, G1⟩, hc, hm⟩ := bind_elim hm
  refine ccallV (n := 3) (As := [.int x6, .int 0, .int x1]) (rest := []) C hw (ck_X10_add l v a _ _ fu x6 0 x1 F G r1 F1 G1 hc) (cn_X10_add fu x6 0 x1 F G _ hc) (Nat.sub_le_sub_right (cn_X10_behindSign_186 fu x4 F1 G1 hm) _) (crecv_X10 C hw) cm_95 cm_96 cm_97 cm_46 cm_98 (by decide +kernel) rfl (by omega) (by omega) hl.1 rfl (Nat.le_of_ble_eq_true rfl) dX10_behindSign_183 (fun b H locs hw => ?_)
  exact cw_X10_behindSign_186 fu C hret x4 F1 G1 hm hw (lv_sub hl [2] rfl)
theorem cn_X10_behindSign_168 (fu : Nat) {res : Int32 × PF × PG} (x1 : Int32) (x3 : Int32) (x4 : Int32) (F : PF) (G : PG) (hm : cb_X10_behindSign_168 fu x1 x3 x4 F G = some res) : xn F ≤ xn res.2.1 := by
  unfold cb_X10_behindSign_168 at hm
  have hm := (ix_elim hm).2
  exact (cn_X10_behindSign_178 fu x1 (x4 + 1) (tb_4 x3.toNatClampNeg) F G hm)
theorem cw_X10_behindSign_168 (fu : Nat) {res : Int32 × PF × PG} (C : cMC p R s m args c A v RX10 cX10_behindSign 7 4 91 (xn res.2.1 - xn K0)) (hret : ∀ (b1 : Nat) (H1 : Heap) (locs1 : List Loc) (ls1 : Array Slot) (pc : Nat), cMW s A v a b1 K0 res.2.1 res.2.2 H1 locs1 → narrow .int (.int res.1) = .int res.1 → decode cX10_behindSign pc = .ok (.ireturn, 1) → W p l e R s m args below meth c H1 locs1 (xn res.2.1 - xn K0) (2 * (xn res.2.1 - xn K0)) Q (F0 m pc ls1 [.int res.1])) (x1 : Int32) (x3 : Int32) (x4 : Int32) (F : PF) (G : PG) (hm : cb_X10_behindSign_168 fu x1 x3 x4 F G = some res) {b : Nat} {H : Heap} {locs : List Loc} (hw : cMW s A v a b K0 F G H locs) {ls : Array Slot} (hl : lv_has ls 7 [(0, .ref (a 210)), (1, .int x1), (3, .int x3), (4, .int x4)]) : W p l e R s m args below meth c H locs (xn F - xn K0) (2 * (xn F - xn K0)) Q (F0 m 168 ls []) := by
  have hx := C.1
  have hb := C.2.1
  unfold cb_X10_behindSign_168 at hm
  refine cgs_X10_127 C hw dX10_behindSign_168 ?_
  refine lv_iload_n hx hb dX10_behindSign_171 rfl (lv_at hl 2 rfl) ?_
  obtain ⟨hi, hm⟩ := ix_elim hm
  refine cta_4 C hw hi dX10_behindSign_172 ?_
  refine lv_istore (lv' := [(6, .int (tb_4 x3.toNatClampNeg)), (0, .ref (a 210)), (1, .int x1), (3, .int x3), (4, .int x4)]) hx hb dX10_behindSign_173 hl (by decide) rfl (fun ls hl => ?_)
  refine lv_iinc (v := (x4 + 1)) (lv' := [(4, .int (x4 + 1)), (6, .int (tb_4 x3.toNatClampNeg)), (0, .ref (a 210)), (1, .int x1), (3, .int x3)]) hx hb dX10_behindSign_175 hl (k := 4) rfl (by rfl) (by decide) rfl (fun ls hl => ?_)
  exact cw_X10_behindSign_178 fu C hret x1 (x4 + 1) (tb_4 x3.toNatClampNeg) F G hm hw (lv_sub hl [2, 3, 0, 1] rfl)
theorem cn_X10_behindSign_160 (fu : Nat) {res : Int32 × PF × PG} (x1 : Int32) (x3 : Int32) (x4 : Int32) (x6 : Int32) (F : PF) (G : PG) (hm : cb_X10_behindSign_160 fu x1 x3 x4 x6 F G = some res) : xn F ≤ xn res.2.1 := by
  unfold cb_X10_behindSign_160 at hm
  have hm := (ix_elim hm).2
  by_cases c_1 : (tb_4 x3.toNatClampNeg) = (0 : Int32)
  · have hm := (if_pos c_1).symm.trans hm
    exact (cn_X10_behindSign_178 fu x1 x4 x6 F G hm)
  · have hm := (if_neg c_1).symm.trans hm
    exact (cn_X10_behindSign_168 fu x1 x3 x4 F G hm)
theorem cw_X10_behindSign_160 (fu : Nat) {res : Int32 × PF × PG} (C : cMC p R s m args c A v RX10 cX10_behindSign 7 4 91 (xn res.2.1 - xn K0)) (hret : ∀ (b1 : Nat) (H1 : Heap) (locs1 : List Loc) (ls1 : Array Slot) (pc : Nat), cMW s A v a b1 K0 res.2.1 res.2.2 H1 locs1 → narrow .int (.int res.1) = .int res.1 → decode cX10_behindSign pc = .ok (.ireturn, 1) → W p l e R s m args below meth c H1 locs1 (xn res.2.1 - xn K0) (2 * (xn res.2.1 - xn K0)) Q (F0 m pc ls1 [.int res.1])) (x1 : Int32) (x3 : Int32) (x4 : Int32) (x6 : Int32) (F : PF) (G : PG) (hm : cb_X10_behindSign_160 fu x1 x3 x4 x6 F G = some res) {b : Nat} {H : Heap} {locs : List Loc} (hw : cMW s A v a b K0 F G H locs) {ls : Array Slot} (hl : lv_has ls 7 [(0, .ref (a 210)), (1, .int x1), (3, .int x3), (4, .int x4), (6, .int x6)]) : W p l e R s m args below meth c H locs (xn F - xn K0) (2 * (xn F - xn K0)) Q (F0 m 160 ls []) := by
  have hx := C.1
  have hb := C.2.1
  unfold cb_X10_behindSign_160 at hm
  refine cgs_X10_127 C hw dX10_behindSign_160 ?_
  refine lv_iload_n hx hb dX10_behindSign_163 rfl (lv_at hl 2 rfl) ?_
  obtain ⟨hi, hm⟩ := ix_elim hm
  refine cta_4 C hw hi dX10_behindSign_164 ?_
  refine lv_if_eq (tgt := 178) hx hb dX10_behindSign_165 (by decide) (fun c_1 => ?_) (fun c_1 => ?_)
  · have hm := (if_pos c_1).symm.trans hm
    exact cw_X10_behindSign_178 fu C hret x1 x4 x6 F G hm hw (lv_sub hl [0, 1, 3, 4] rfl)
  · have hm := (if_neg c_1).symm.trans hm
    exact cw_X10_behindSign_168 fu C hret x1 x3 x4 F G hm hw (lv_sub hl [0, 1, 2, 3] rfl)
theorem cn_X10_behindSign_153 (fu : Nat) {res : Int32 × PF × PG} (x1 : Int32) (x3 : Int32) (x4 : Int32) (x5 : Int32) (x6 : Int32) (F : PF) (G : PG) (hm : cb_X10_behindSign_153 fu x1 x3 x4 x5 x6 F G = some res) : xn F ≤ xn res.2.1 := by
  unfold cb_X10_behindSign_153 at hm
  by_cases c_1 : x5 = (61 : Int32)
  · have hm := (if_pos c_1).symm.trans hm
    exact (cn_X10_behindSign_160 fu x1 x3 x4 x6 F G hm)
  · have hm := (if_neg c_1).symm.trans hm
    exact (cn_X10_behindSign_178 fu x1 x4 x6 F G hm)
theorem cw_X10_behindSign_153 (fu : Nat) {res : Int32 × PF × PG} (C : cMC p R s m args c A v RX10 cX10_behindSign 7 4 91 (xn res.2.1 - xn K0)) (hret : ∀ (b1 : Nat) (H1 : Heap) (locs1 : List Loc) (ls1 : Array Slot) (pc : Nat), cMW s A v a b1 K0 res.2.1 res.2.2 H1 locs1 → narrow .int (.int res.1) = .int res.1 → decode cX10_behindSign pc = .ok (.ireturn, 1) → W p l e R s m args below meth c H1 locs1 (xn res.2.1 - xn K0) (2 * (xn res.2.1 - xn K0)) Q (F0 m pc ls1 [.int res.1])) (x1 : Int32) (x3 : Int32) (x4 : Int32) (x5 : Int32) (x6 : Int32) (F : PF) (G : PG) (hm : cb_X10_behindSign_153 fu x1 x3 x4 x5 x6 F G = some res) {b : Nat} {H : Heap} {locs : List Loc} (hw : cMW s A v a b K0 F G H locs) {ls : Array Slot} (hl : lv_has ls 7 [(0, .ref (a 210)), (1, .int x1), (3, .int x3), (4, .int x4), (5, .int x5), (6, .int x6)]) : W p l e R s m args below meth c H locs (xn F - xn K0) (2 * (xn F - xn K0)) Q (F0 m 153 ls []) := by
  have hx := C.1
  have hb := C.2.1
  unfold cb_X10_behindSign_153 at hm
  refine lv_iload hx hb dX10_behindSign_153 (lv_at hl 4 rfl) ?_
  refine lv_bipush (v := 61) hx hb dX10_behindSign_155 (by decide) ?_
  refine lv_icmp_ne (tgt := 178) hx hb dX10_behindSign_157 (by decide) (fun c_1 => ?_) (fun c_1 => ?_)
  · have hm := (if_neg c_1).symm.trans hm
    exact cw_X10_behindSign_178 fu C hret x1 x4 x6 F G hm hw (lv_sub hl [0, 1, 3, 5] rfl)
  · have hm := (if_pos c_1).symm.trans hm
    exact cw_X10_behindSign_160 fu C hret x1 x3 x4 x6 F G hm hw (lv_sub hl [0, 1, 2, 3, 5] rfl)
theorem cn_X10_behindSign_137 (fu : Nat) {res : Int32 × PF × PG} (x1 : Int32) (x4 : Int32) (x6 : Int32) (F : PF) (G : PG) (hm : cb_X10_behindSign_137 fu x1 x4 x6 F G = some res) : xn F ≤ xn res.2.1 := by
  unfold cb_X10_behindSign_137 at hm
  exact (cn_X10_behindSign_178 fu x1 (x4 + 1) ((x6 - (54 : Int32)) + (38 : Int32)) F G hm)
theorem cw_X10_behindSign_137 (fu : Nat) {res : Int32 × PF × PG} (C : cMC p R s m args c A v RX10 cX10_behindSign 7 4 91 (xn res.2.1 - xn K0)) (hret : ∀ (b1 : Nat) (H1 : Heap) (locs1 : List Loc) (ls1 : Array Slot) (pc : Nat), cMW s A v a b1 K0 res.2.1 res.2.2 H1 locs1 → narrow .int (.int res.1) = .int res.1 → decode cX10_behindSign pc = .ok (.ireturn, 1) → W p l e R s m args below meth c H1 locs1 (xn res.2.1 - xn K0) (2 * (xn res.2.1 - xn K0)) Q (F0 m pc ls1 [.int res.1])) (x1 : Int32) (x4 : Int32) (x6 : Int32) (F : PF) (G : PG) (hm : cb_X10_behindSign_137 fu x1 x4 x6 F G = some res) {b : Nat} {H : Heap} {locs : List Loc} (hw : cMW s A v a b K0 F G H locs) {ls : Array Slot} (hl : lv_has ls 7 [(0, .ref (a 210)), (1, .int x1), (4, .int x4), (6, .int x6)]) : W p l e R s m args below meth c H locs (xn F - xn K0) (2 * (xn F - xn K0)) Q (F0 m 137 ls []) := by
  have hx := C.1
  have hb := C.2.1
  unfold cb_X10_behindSign_137 at hm
  refine lv_iload hx hb dX10_behindSign_137 (lv_at hl 3 rfl) ?_
  refine lv_bipush (v := 54) hx hb dX10_behindSign_139 (by decide) ?_
  refine lv_isub hx hb dX10_behindSign_141 ?_
  refine lv_bipush (v := 38) hx hb dX10_behindSign_142 (by decide) ?_
  refine lv_iadd hx hb dX10_behindSign_144 ?_
  refine lv_istore (lv' := [(6, .int ((x6 - (54 : Int32)) + (38 : Int32))), (0, .ref (a 210)), (1, .int x1), (4, .int x4)]) hx hb dX10_behindSign_145 hl (by decide) rfl (fun ls hl => ?_)
  refine lv_iinc (v := (x4 + 1)) (lv' := [(4, .int (x4 + 1)), (6, .int ((x6 - (54 : Int32)) + (38 : Int32))), (0, .ref (a 210)), (1, .int x1)]) hx hb dX10_behindSign_147 hl (k := 3) rfl (by rfl) (by decide) rfl (fun ls hl => ?_)
  refine lv_goto (tgt := 178) hx hb dX10_behindSign_150 (by decide) ?_
  exact cw_X10_behindSign_178 fu C hret x1 (x4 + 1) ((x6 - (54 : Int32)) + (38 : Int32)) F G hm hw (lv_sub hl [2, 3, 0, 1] rfl)
theorem cn_X10_behindSign_132 (fu : Nat) {res : Int32 × PF × PG} (x1 : Int32) (x4 : Int32) (x6 : Int32) (z0 : Int32) (F : PF) (G : PG) (hm : cb_X10_behindSign_132 fu x1 x4 x6 z0 F G = some res) : xn F ≤ xn res.2.1 := by
  unfold cb_X10_behindSign_132 at hm
  by_cases c_1 : z0 = (61 : Int32)
  · have hm := (if_pos c_1).symm.trans hm
    exact (cn_X10_behindSign_137 fu x1 x4 x6 F G hm)
  · have hm := (if_neg c_1).symm.trans hm
    exact (cn_X10_behindSign_178 fu x1 x4 x6 F G hm)
theorem cw_X10_behindSign_132 (fu : Nat) {res : Int32 × PF × PG} (C : cMC p R s m args c A v RX10 cX10_behindSign 7 4 91 (xn res.2.1 - xn K0)) (hret : ∀ (b1 : Nat) (H1 : Heap) (locs1 : List Loc) (ls1 : Array Slot) (pc : Nat), cMW s A v a b1 K0 res.2.1 res.2.2 H1 locs1 → narrow .int (.int res.1) = .int res.1 → decode cX10_behindSign pc = .ok (.ireturn, 1) → W p l e R s m args below meth c H1 locs1 (xn res.2.1 - xn K0) (2 * (xn res.2.1 - xn K0)) Q (F0 m pc ls1 [.int res.1])) (x1 : Int32) (x4 : Int32) (x6 : Int32) (z0 : Int32) (F : PF) (G : PG) (hm : cb_X10_behindSign_132 fu x1 x4 x6 z0 F G = some res) {b : Nat} {H : Heap} {locs : List Loc} (hw : cMW s A v a b K0 F G H locs) {ls : Array Slot} (hl : lv_has ls 7 [(0, .ref (a 210)), (1, .int x1), (4, .int x4), (6, .int x6)]) : W p l e R s m args below meth c H locs (xn F - xn K0) (2 * (xn F - xn K0)) Q (F0 m 132 ls [.int z0]) := by
  have hx := C.1
  have hb := C.2.1
  unfold cb_X10_behindSign_132 at hm
  refine lv_bipush (v := 61) hx hb dX10_behindSign_132 (by decide) ?_
  refine lv_icmp_ne (tgt := 178) hx hb dX10_behindSign_134 (by decide) (fun c_1 => ?_) (fun c_1 => ?_)
  · have hm := (if_neg c_1).symm.trans hm
    exact cw_X10_behindSign_178 fu C hret x1 x4 x6 F G hm hw (lv_sub hl [0, 1, 2, 3] rfl)
  · have hm := (if_pos c_1).symm.trans hm
    exact cw_X10_behindSign_137 fu C hret x1 x4 x6 F G hm hw (lv_sub hl [0, 1, 2, 3] rfl)
theorem cn_X10_behindSign_123 (fu : Nat) {res : Int32 × PF × PG} (x1 : Int32) (x4 : Int32) (x6 : Int32) (F : PF) (G : PG) (hm : cb_X10_behindSign_123 fu x1 x4 x6 F G = some res) : xn F ≤ xn res.2.1 := by
  unfold cb_X10_behindSign_123 at hm
  obtain ⟨⟨r1, F1, G1⟩, hc, hm⟩ := bind_elim hm
  exact Nat.le_trans (cn_X9_at fu x4 F G _ hc) (cn_X10_behindSign_132 fu x1 x4 x6 r1 F1 G1 hm)
theorem cw_X10_behindSign_123 (fu : Nat) {res : Int32 × PF × PG} (C : cMC p R s m args c A v RX10 cX10_behindSign 7 4 91 (xn res.2.1 - xn K0)) (hret : ∀ (b1 : Nat) (H1 : Heap) (locs1 : List Loc) (ls1 : Array Slot) (pc : Nat), cMW s A v a b1 K0 res.2.1 res.2.2 H1 locs1 → narrow .int (.int res.1) = .int res.1 → decode cX10_behindSign pc = .ok (.ireturn, 1) → W p l e R s m args below meth c H1 locs1 (xn res.2.1 - xn K0) (2 * (xn res.2.1 - xn K0)) Q (F0 m pc ls1 [.int res.1])) (x1 : Int32) (x4 : Int32) (x6 : Int32) (F : PF) (G : PG) (hm : cb_X10_behindSign_123 fu x1 x4 x6 F G = some res) {b : Nat} {H : Heap} {locs : List Loc} (hw : cMW s A v a b K0 F G H locs) {ls : Array Slot} (hl : lv_has ls 7 [(0, .ref (a 210)), (1, .int x1), (4, .int x4), (6, .int x6)]) : W p l e R s m args below meth c H locs (xn F - xn K0) (2 * (xn F - xn K0)) Q (F0 m 123 ls []) := by
  have hx := C.1
  have hb := C.2.1
  unfold cb_X10_behindSign_123 at hm
  refine lv_aload_n hx hb dX10_behindSign_123 rfl (lv_at hl 0 rfl) ?_
  refine cg_X10_33 C hw dX10_behindSign_124 ?_
  refine lv_iload hx hb dX10_behindSign_127 (lv_at hl 2 rfl) ?_
  obtain ⟨⟨r1, F1, G1⟩, hc, hm⟩ := bind_elim hm
  refine ccallI (n := 1) (As := [.int x4]) (rest := []) C hw (ck_X9_at l v a _ _ fu x4 F G r1 F1 G1 hc) (cn_X9_at fu x4 F G _ hc) (Nat.sub_le_sub_right (cn_X10_behindSign_132 fu x1 x4 x6 r1 F1 G1 hm) _) (crecv_X9 C hw) cm_61 cm_62 cm_63 cm_6 cm_64 (by decide +kernel) rfl (by omega) (by omega) hl.1 rfl (Nat.le_of_ble_eq_true rfl) dX10_behindSign_129 (fun b H locs hw => ?_)
  exact cw_X10_behindSign_132 fu C hret x1 x4 x6 r1 F1 G1 hm hw (lv_sub hl [0, 1, 2, 3] rfl)
theorem cn_X10_behindSign_116 (fu : Nat) {res : Int32 × PF × PG} (x1 : Int32) (x4 : Int32) (x6 : Int32) (F : PF) (G : PG) (hm : cb_X10_behindSign_116 fu x1 x4 x6 F G = some res) : xn F ≤ xn res.2.1 := by
  unfold cb_X10_behindSign_116 at hm
  by_cases c_1 : (56 : Int32) < x6
  · have hm := (if_pos c_1).symm.trans hm
    exact (cn_X10_behindSign_178 fu x1 x4 x6 F G hm)
  · have hm := (if_neg c_1).symm.trans hm
    exact (cn_X10_behindSign_123 fu x1 x4 x6 F G hm)
theorem cw_X10_behindSign_116 (fu : Nat) {res : Int32 × PF × PG} (C : cMC p R s m args c A v RX10 cX10_behindSign 7 4 91 (xn res.2.1 - xn K0)) (hret : ∀ (b1 : Nat) (H1 : Heap) (locs1 : List Loc) (ls1 : Array Slot) (pc : Nat), cMW s A v a b1 K0 res.2.1 res.2.2 H1 locs1 → narrow .int (.int res.1) = .int res.1 → decode cX10_behindSign pc = .ok (.ireturn, 1) → W p l e R s m args below meth c H1 locs1 (xn res.2.1 - xn K0) (2 * (xn res.2.1 - xn K0)) Q (F0 m pc ls1 [.int res.1])) (x1 : Int32) (x4 : Int32) (x6 : Int32) (F : PF) (G : PG) (hm : cb_X10_behindSign_116 fu x1 x4 x6 F G = some res) {b : Nat} {H : Heap} {locs : List Loc} (hw : cMW s A v a b K0 F G H locs) {ls : Array Slot} (hl : lv_has ls 7 [(0, .ref (a 210)), (1, .int x1), (4, .int x4), (6, .int x6)]) : W p l e R s m args below meth c H locs (xn F - xn K0) (2 * (xn F - xn K0)) Q (F0 m 116 ls []) := by
  have hx := C.1
  have hb := C.2.1
  unfold cb_X10_behindSign_116 at hm
  refine lv_iload hx hb dX10_behindSign_116 (lv_at hl 3 rfl) ?_
  refine lv_bipush (v := 56) hx hb dX10_behindSign_118 (by decide) ?_
  refine lv_icmp_gt (tgt := 178) hx hb dX10_behindSign_120 (by decide) (fun c_1 => ?_) (fun c_1 => ?_)
  · have hm := (if_pos c_1).symm.trans hm
    exact cw_X10_behindSign_178 fu C hret x1 x4 x6 F G hm hw (lv_sub hl [0, 1, 2, 3] rfl)
  · have hm := (if_neg c_1).symm.trans hm
    exact cw_X10_behindSign_123 fu C hret x1 x4 x6 F G hm hw (lv_sub hl [0, 1, 2, 3] rfl)
theorem cn_X10_behindSign_109 (fu : Nat) {res : Int32 × PF × PG} (x1 : Int32) (x4 : Int32) (x6 : Int32) (F : PF) (G : PG) (hm : cb_X10_behindSign_109 fu x1 x4 x6 F G = some res) : xn F ≤ xn res.2.1 := by
  unfold cb_X10_behindSign_109 at hm
  by_cases c_1 : x6 < (54 : Int32)
  · have hm := (if_pos c_1).symm.trans hm
    exact (cn_X10_behindSign_178 fu x1 x4 x6 F G hm)
  · have hm := (if_neg c_1).symm.trans hm
    exact (cn_X10_behindSign_116 fu x1 x4 x6 F G hm)
theorem cw_X10_behindSign_109 (fu : Nat) {res : Int32 × PF × PG} (C : cMC p R s m args c A v RX10 cX10_behindSign 7 4 91 (xn res.2.1 - xn K0)) (hret : ∀ (b1 : Nat) (H1 : Heap) (locs1 : List Loc) (ls1 : Array Slot) (pc : Nat), cMW s A v a b1 K0 res.2.1 res.2.2 H1 locs1 → narrow .int (.int res.1) = .int res.1 → decode cX10_behindSign pc = .ok (.ireturn, 1) → W p l e R s m args below meth c H1 locs1 (xn res.2.1 - xn K0) (2 * (xn res.2.1 - xn K0)) Q (F0 m pc ls1 [.int res.1])) (x1 : Int32) (x4 : Int32) (x6 : Int32) (F : PF) (G : PG) (hm : cb_X10_behindSign_109 fu x1 x4 x6 F G = some res) {b : Nat} {H : Heap} {locs : List Loc} (hw : cMW s A v a b K0 F G H locs) {ls : Array Slot} (hl : lv_has ls 7 [(0, .ref (a 210)), (1, .int x1), (4, .int x4), (6, .int x6)]) : W p l e R s m args below meth c H locs (xn F - xn K0) (2 * (xn F - xn K0)) Q (F0 m 109 ls []) := by
  have hx := C.1
  have hb := C.2.1
  unfold cb_X10_behindSign_109 at hm
  refine lv_iload hx hb dX10_behindSign_109 (lv_at hl 3 rfl) ?_
  refine lv_bipush (v := 54) hx hb dX10_behindSign_111 (by decide) ?_
  refine lv_icmp_lt (tgt := 178) hx hb dX10_behindSign_113 (by decide) (fun c_1 => ?_) (fun c_1 => ?_)
  · have hm := (if_pos c_1).symm.trans hm
    exact cw_X10_behindSign_178 fu C hret x1 x4 x6 F G hm hw (lv_sub hl [0, 1, 2, 3] rfl)
  · have hm := (if_neg c_1).symm.trans hm
    exact cw_X10_behindSign_116 fu C hret x1 x4 x6 F G hm hw (lv_sub hl [0, 1, 2, 3] rfl)
theorem cn_X10_behindSign_102 (fu : Nat) {res : Int32 × PF × PG} (x1 : Int32) (x4 : Int32) (F : PF) (G : PG) (hm : cb_X10_behindSign_102 fu x1 x4 F G = some res) : xn F ≤ xn res.2.1 := by
  unfold cb_X10_behindSign_102 at hm
  exact (cn_X10_behindSign_109 fu x1 (x4 + 1) 56 F G hm)
theorem cw_X10_behindSign_102 (fu : Nat) {res : Int32 × PF × PG} (C : cMC p R s m args c A v RX10 cX10_behindSign 7 4 91 (xn res.2.1 - xn K0)) (hret : ∀ (b1 : Nat) (H1 : Heap) (locs1 : List Loc) (ls1 : Array Slot) (pc : Nat), cMW s A v a b1 K0 res.2.1 res.2.2 H1 locs1 → narrow .int (.int res.1) = .int res.1 → decode cX10_behindSign pc = .ok (.ireturn, 1) → W p l e R s m args below meth c H1 locs1 (xn res.2.1 - xn K0) (2 * (xn res.2.1 - xn K0)) Q (F0 m pc ls1 [.int res.1])) (x1 : Int32) (x4 : Int32) (F : PF) (G : PG) (hm : cb_X10_behindSign_102 fu x1 x4 F G = some res) {b : Nat} {H : Heap} {locs : List Loc} (hw : cMW s A v a b K0 F G H locs) {ls : Array Slot} (hl : lv_has ls 7 [(0, .ref (a 210)), (1, .int x1), (4, .int x4)]) : W p l e R s m args below meth c H locs (xn F - xn K0) (2 * (xn F - xn K0)) Q (F0 m 102 ls []) := by
  have hx := C.1
  have hb := C.2.1
  unfold cb_X10_behindSign_102 at hm
  refine lv_bipush (v := 56) hx hb dX10_behindSign_102 (by decide) ?_
  refine lv_istore (lv' := [(6, .int 56), (0, .ref (a 210)), (1, .int x1), (4, .int x4)]) hx hb dX10_behindSign_104 hl (by decide) rfl (fun ls hl => ?_)
  refine lv_iinc (v := (x4 + 1)) (lv' := [(4, .int (x4 + 1)), (6, .int 56), (0, .ref (a 210)), (1, .int x1)]) hx hb dX10_behindSign_106 hl (k := 3) rfl (by rfl) (by decide) rfl (fun ls hl => ?_)
  exact cw_X10_behindSign_109 fu C hret x1 (x4 + 1) 56 F G hm hw (lv_sub hl [2, 3, 0, 1] rfl)
theorem cn_X10_behindSign_98 (fu : Nat) {res : Int32 × PF × PG} (x1 : Int32) (x2 : Int32) (x4 : Int32) (x6 : Int32) (z0 : Int32) (F : PF) (G : PG) (hm : cb_X10_behindSign_98 fu x1 x2 x4 x6 z0 F G = some res) : xn F ≤ xn res.2.1 := by
  unfold cb_X10_behindSign_98 at hm
  by_cases c_1 : z0 = x2
  · have hm := (if_pos c_1).symm.trans hm
    exact (cn_X10_behindSign_102 fu x1 x4 F G hm)
  · have hm := (if_neg c_1).symm.trans hm
    exact (cn_X10_behindSign_109 fu x1 x4 x6 F G hm)
theorem cw_X10_behindSign_98 (fu : Nat) {res : Int32 × PF × PG} (C : cMC p R s m args c A v RX10 cX10_behindSign 7 4 91 (xn res.2.1 - xn K0)) (hret : ∀ (b1 : Nat) (H1 : Heap) (locs1 : List Loc) (ls1 : Array Slot) (pc : Nat), cMW s A v a b1 K0 res.2.1 res.2.2 H1 locs1 → narrow .int (.int res.1) = .int res.1 → decode cX10_behindSign pc = .ok (.ireturn, 1) → W p l e R s m args below meth c H1 locs1 (xn res.2.1 - xn K0) (2 * (xn res.2.1 - xn K0)) Q (F0 m pc ls1 [.int res.1])) (x1 : Int32) (x2 : Int32) (x4 : Int32) (x6 : Int32) (z0 : Int32) (F : PF) (G : PG) (hm : cb_X10_behindSign_98 fu x1 x2 x4 x6 z0 F G = some res) {b : Nat} {H : Heap} {locs : List Loc} (hw : cMW s A v a b K0 F G H locs) {ls : Array Slot} (hl : lv_has ls 7 [(0, .ref (a 210)), (1, .int x1), (2, .int x2), (4, .int x4), (6, .int x6)]) : W p l e R s m args below meth c H locs (xn F - xn K0) (2 * (xn F - xn K0)) Q (F0 m 98 ls [.int z0]) := by
  have hx := C.1
  have hb := C.2.1
  unfold cb_X10_behindSign_98 at hm
  refine lv_iload_n hx hb dX10_behindSign_98 rfl (lv_at hl 2 rfl) ?_
  refine lv_icmp_ne (tgt := 109) hx hb dX10_behindSign_99 (by decide) (fun c_1 => ?_) (fun c_1 => ?_)
  · have hm := (if_neg c_1).symm.trans hm
    exact cw_X10_behindSign_109 fu C hret x1 x4 x6 F G hm hw (lv_sub hl [0, 1, 3, 4] rfl)
  · have hm := (if_pos c_1).symm.trans hm
    exact cw_X10_behindSign_102 fu C hret x1 x4 F G hm hw (lv_sub hl [0, 1, 3] rfl)
theorem cn_X10_behindSign_89 (fu : Nat) {res : Int32 × PF × PG} (x1 : Int32) (x2 : Int32) (x4 : Int32) (x6 : Int32) (F : PF) (G : PG) (hm : cb_X10_behindSign_89 fu x1 x2 x4 x6 F G = some res) : xn F ≤ xn res.2.1 := by
  unfold cb_X10_behindSign_89 at hm
  obtain ⟨⟨r1, F1, G1⟩, hc, hm⟩ := bind_elim hm
  exact Nat.le_trans (cn_X9_at fu x4 F G _ hc) (cn_X10_behindSign_98 fu x1 x2 x4 x6 r1 F1 G1 hm)
theorem cw_X10_behindSign_89 (fu : Nat) {res : Int32 × PF × PG} (C : cMC p R s m args c A v RX10 cX10_behindSign 7 4 91 (xn res.2.1 - xn K0)) (hret : ∀ (b1 : Nat) (H1 : Heap) (locs1 : List Loc) (ls1 : Array Slot) (pc : Nat), cMW s A v a b1 K0 res.2.1 res.2.2 H1 locs1 → narrow .int (.int res.1) = .int res.1 → decode cX10_behindSign pc = .ok (.ireturn, 1) → W p l e R s m args below meth c H1 locs1 (xn res.2.1 - xn K0) (2 * (xn res.2.1 - xn K0)) Q (F0 m pc ls1 [.int res.1])) (x1 : Int32) (x2 : Int32) (x4 : Int32) (x6 : Int32) (F : PF) (G : PG) (hm : cb_X10_behindSign_89 fu x1 x2 x4 x6 F G = some res) {b : Nat} {H : Heap} {locs : List Loc} (hw : cMW s A v a b K0 F G H locs) {ls : Array Slot} (hl : lv_has ls 7 [(0, .ref (a 210)), (1, .int x1), (2, .int x2), (4, .int x4), (6, .int x6)]) : W p l e R s m args below meth c H locs (xn F - xn K0) (2 * (xn F - xn K0)) Q (F0 m 89 ls []) := by
  have hx := C.1
  have hb := C.2.1
  unfold cb_X10_behindSign_89 at hm
  refine lv_aload_n hx hb dX10_behindSign_89 rfl (lv_at hl 0 rfl) ?_
  refine cg_X10_33 C hw dX10_behindSign_90 ?_
  refine lv_iload hx hb dX10_behindSign_93 (lv_at hl 3 rfl) ?_
  obtain ⟨⟨r1, F1, G1⟩, hc, hm⟩ := bind_elim hm
  refine ccallI (n := 1) (As := [.int x4]) (rest := []) C hw (ck_X9_at l v a _ _ fu x4 F G r1 F1 G1 hc) (cn_X9_at fu x4 F G _ hc) (Nat.sub_le_sub_right (cn_X10_behindSign_98 fu x1 x2 x4 x6 r1 F1 G1 hm) _) (crecv_X9 C hw) cm_61 cm_62 cm_63 cm_6 cm_64 (by decide +kernel) rfl (by omega) (by omega) hl.1 rfl (Nat.le_of_ble_eq_true rfl) dX10_behindSign_95 (fun b H locs hw => ?_)
  exact cw_X10_behindSign_98 fu C hret x1 x2 x4 x6 r1 F1 G1 hm hw (lv_sub hl [0, 1, 2, 3, 4] rfl)
theorem cn_X10_behindSign_72 (fu : Nat) {res : Int32 × PF × PG} (x1 : Int32) (x2 : Int32) (x3 : Int32) (x4 : Int32) (F : PF) (G : PG) (hm : cb_X10_behindSign_72 fu x1 x2 x3 x4 F G = some res) : xn F ≤ xn res.2.1 := by
  unfold cb_X10_behindSign_72 at hm
  have hm := (ix_elim hm).2
  by_cases c_1 : (tb_3 x3.toNatClampNeg) = (55 : Int32)
  · have hm := (if_pos c_1).symm.trans hm
    exact (cn_X10_behindSign_89 fu x1 x2 (x4 + 1) (tb_3 x3.toNatClampNeg) F G hm)
  · have hm := (if_neg c_1).symm.trans hm
    exact (cn_X10_behindSign_109 fu x1 (x4 + 1) (tb_3 x3.toNatClampNeg) F G hm)
theorem cw_X10_behindSign_72 (fu : Nat) {res : Int32 × PF × PG} (C : cMC p R s m args c A v RX10 cX10_behindSign 7 4 91 (xn res.2.1 - xn K0)) (hret : ∀ (b1 : Nat) (H1 : Heap) (locs1 : List Loc) (ls1 : Array Slot) (pc : Nat), cMW s A v a b1 K0 res.2.1 res.2.2 H1 locs1 → narrow .int (.int res.1) = .int res.1 → decode cX10_behindSign pc = .ok (.ireturn, 1) → W p l e R s m args below meth c H1 locs1 (xn res.2.1 - xn K0) (2 * (xn res.2.1 - xn K0)) Q (F0 m pc ls1 [.int res.1])) (x1 : Int32) (x2 : Int32) (x3 : Int32) (x4 : Int32) (F : PF) (G : PG) (hm : cb_X10_behindSign_72 fu x1 x2 x3 x4 F G = some res) {b : Nat} {H : Heap} {locs : List Loc} (hw : cMW s A v a b K0 F G H locs) {ls : Array Slot} (hl : lv_has ls 7 [(0, .ref (a 210)), (1, .int x1), (2, .int x2), (3, .int x3), (4, .int x4)]) : W p l e R s m args below meth c H locs (xn F - xn K0) (2 * (xn F - xn K0)) Q (F0 m 72 ls []) := by
  have hx := C.1
  have hb := C.2.1
  unfold cb_X10_behindSign_72 at hm
  refine cgs_X10_124 C hw dX10_behindSign_72 ?_
  refine lv_iload_n hx hb dX10_behindSign_75 rfl (lv_at hl 3 rfl) ?_
  obtain ⟨hi, hm⟩ := ix_elim hm
  refine cta_3 C hw hi dX10_behindSign_76 ?_
  refine lv_istore (lv' := [(6, .int (tb_3 x3.toNatClampNeg)), (0, .ref (a 210)), (1, .int x1), (2, .int x2), (3, .int x3), (4, .int x4)]) hx hb dX10_behindSign_77 hl (by decide) rfl (fun ls hl => ?_)
  refine lv_iinc (v := (x4 + 1)) (lv' := [(4, .int (x4 + 1)), (6, .int (tb_3 x3.toNatClampNeg)), (0, .ref (a 210)), (1, .int x1), (2, .int x2), (3, .int x3)]) hx hb dX10_behindSign_79 hl (k := 5) rfl (by rfl) (by decide) rfl (fun ls hl => ?_)
  refine lv_iload hx hb dX10_behindSign_82 (lv_at hl 1 rfl) ?_
  refine lv_bipush (v := 55) hx hb dX10_behindSign_84 (by decide) ?_
  refine lv_icmp_ne (tgt := 109) hx hb dX10_behindSign_86 (by decide) (fun c_1 => ?_) (fun c_1 => ?_)
  · have hm := (if_neg c_1).symm.trans hm
    exact cw_X10_behindSign_109 fu C hret x1 (x4 + 1) (tb_3 x3.toNatClampNeg) F G hm hw (lv_sub hl [2, 3, 0, 1] rfl)
  · have hm := (if_pos c_1).symm.trans hm
    exact cw_X10_behindSign_89 fu C hret x1 x2 (x4 + 1) (tb_3 x3.toNatClampNeg) F G hm hw (lv_sub hl [2, 3, 4, 0, 1] rfl)
theorem cn_X10_behindSign_64 (fu : Nat) {res : Int32 × PF × PG} (x1 : Int32) (x2 : Int32) (x3 : Int32) (x4 : Int32) (x5 : Int32) (x6 : Int32) (F : PF) (G : PG) (hm : cb_X10_behindSign_64 fu x1 x2 x3 x4 x5 x6 F G = some res) : xn F ≤ xn res.2.1 := by
  unfold cb_X10_behindSign_64 at hm
  have hm := (ix_elim hm).2
  by_cases c_1 : (tb_3 x3.toNatClampNeg) = (0 : Int32)
  · have hm := (if_pos c_1).symm.trans hm
    exact (cn_X10_behindSign_153 fu x1 x3 x4 x5 x6 F G hm)
  · have hm := (if_neg c_1).symm.trans hm
    exact (cn_X10_behindSign_72 fu x1 x2 x3 x4 F G hm)
theorem cw_X10_behindSign_64 (fu : Nat) {res : Int32 × PF × PG} (C : cMC p R s m args c A v RX10 cX10_behindSign 7 4 91 (xn res.2.1 - xn K0)) (hret : ∀ (b1 : Nat) (H1 : Heap) (locs1 : List Loc) (ls1 : Array Slot) (pc : Nat), cMW s A v a b1 K0 res.2.1 res.2.2 H1 locs1 → narrow .int (.int res.1) = .int res.1 → decode cX10_behindSign pc = .ok (.ireturn, 1) → W p l e R s m args below meth c H1 locs1 (xn res.2.1 - xn K0) (2 * (xn res.2.1 - xn K0)) Q (F0 m pc ls1 [.int res.1])) (x1 : Int32) (x2 : Int32) (x3 : Int32) (x4 : Int32) (x5 : Int32) (x6 : Int32) (F : PF) (G : PG) (hm : cb_X10_behindSign_64 fu x1 x2 x3 x4 x5 x6 F G = some res) {b : Nat} {H : Heap} {locs : List Loc} (hw : cMW s A v a b K0 F G H locs) {ls : Array Slot} (hl : lv_has ls 7 [(0, .ref (a 210)), (1, .int x1), (2, .int x2), (3, .int x3), (4, .int x4), (5, .int x5), (6, .int x6)]) : W p l e R s m args below meth c H locs (xn F - xn K0) (2 * (xn F - xn K0)) Q (F0 m 64 ls []) := by
  have hx := C.1
  have hb := C.2.1
  unfold cb_X10_behindSign_64 at hm
  refine cgs_X10_124 C hw dX10_behindSign_64 ?_
  refine lv_iload_n hx hb dX10_behindSign_67 rfl (lv_at hl 3 rfl) ?_
  obtain ⟨hi, hm⟩ := ix_elim hm
  refine cta_3 C hw hi dX10_behindSign_68 ?_
  refine lv_if_eq (tgt := 153) hx hb dX10_behindSign_69 (by decide) (fun c_1 => ?_) (fun c_1 => ?_)
  · have hm := (if_pos c_1).symm.trans hm
    exact cw_X10_behindSign_153 fu C hret x1 x3 x4 x5 x6 F G hm hw (lv_sub hl [0, 1, 3, 4, 5, 6] rfl)
  · have hm := (if_neg c_1).symm.trans hm
    exact cw_X10_behindSign_72 fu C hret x1 x2 x3 x4 F G hm hw (lv_sub hl [0, 1, 2, 3, 4] rfl)
theorem cn_X10_behindSign_51 (fu : Nat) {res : Int32 × PF × PG} (x1 : Int32) (x2 : Int32) (x3 : Int32) (x4 : Int32) (x5 : Int32) (F : PF) (G : PG) (hm : cb_X10_behindSign_51 fu x1 x2 x3 x4 x5 F G = some res) : xn F ≤ xn res.2.1 := by
  unfold cb_X10_behindSign_51 at hm
  have hm := (ix_elim hm).2
  by_cases c_1 : x5 = x2
  · have hm := (if_pos c_1).symm.trans hm
    exact (cn_X10_behindSign_64 fu x1 x2 x3 x4 x5 (tb_2 x3.toNatClampNeg) F G hm)
  · have hm := (if_neg c_1).symm.trans hm
    exact (cn_X10_behindSign_153 fu x1 x3 x4 x5 (tb_2 x3.toNatClampNeg) F G hm)
theorem cw_X10_behindSign_51 (fu : Nat) {res : Int32 × PF × PG} (C : cMC p R s m args c A v RX10 cX10_behindSign 7 4 91 (xn res.2.1 - xn K0)) (hret : ∀ (b1 : Nat) (H1 : Heap) (locs1 : List Loc) (ls1 : Array Slot) (pc : Nat), cMW s A v a b1 K0 res.2.1 res.2.2 H1 locs1 → narrow .int (.int res.1) = .int res.1 → decode cX10_behindSign pc = .ok (.ireturn, 1) → W p l e R s m args below meth c H1 locs1 (xn res.2.1 - xn K0) (2 * (xn res.2.1 - xn K0)) Q (F0 m pc ls1 [.int res.1])) (x1 : Int32) (x2 : Int32) (x3 : Int32) (x4 : Int32) (x5 : Int32) (F : PF) (G : PG) (hm : cb_X10_behindSign_51 fu x1 x2 x3 x4 x5 F G = some res) {b : Nat} {H : Heap} {locs : List Loc} (hw : cMW s A v a b K0 F G H locs) {ls : Array Slot} (hl : lv_has ls 7 [(0, .ref (a 210)), (1, .int x1), (2, .int x2), (3, .int x3), (4, .int x4), (5, .int x5)]) : W p l e R s m args below meth c H locs (xn F - xn K0) (2 * (xn F - xn K0)) Q (F0 m 51 ls []) := by
  have hx := C.1
  have hb := C.2.1
  unfold cb_X10_behindSign_51 at hm
  refine cgs_X10_121 C hw dX10_behindSign_51 ?_
  refine lv_iload_n hx hb dX10_behindSign_54 rfl (lv_at hl 3 rfl) ?_
  obtain ⟨hi, hm⟩ := ix_elim hm
  refine cta_2 C hw hi dX10_behindSign_55 ?_
  refine lv_istore (lv' := [(6, .int (tb_2 x3.toNatClampNeg)), (0, .ref (a 210)), (1, .int x1), (2, .int x2), (3, .int x3), (4, .int x4), (5, .int x5)]) hx hb dX10_behindSign_56 hl (by decide) rfl (fun ls hl => ?_)
  refine lv_iload hx hb dX10_behindSign_58 (lv_at hl 6 rfl) ?_
  refine lv_iload_n hx hb dX10_behindSign_60 rfl (lv_at hl 3 rfl) ?_
  refine lv_icmp_ne (tgt := 153) hx hb dX10_behindSign_61 (by decide) (fun c_1 => ?_) (fun c_1 => ?_)
  · have hm := (if_neg c_1).symm.trans hm
    exact cw_X10_behindSign_153 fu C hret x1 x3 x4 x5 (tb_2 x3.toNatClampNeg) F G hm hw (lv_sub hl [1, 2, 4, 5, 6, 0] rfl)
  · have hm := (if_pos c_1).symm.trans hm
    exact cw_X10_behindSign_64 fu C hret x1 x2 x3 x4 x5 (tb_2 x3.toNatClampNeg) F G hm hw (lv_sub hl [1, 2, 3, 4, 5, 6, 0] rfl)
theorem cn_X10_behindSign_42 (fu : Nat) {res : Int32 × PF × PG} (x1 : Int32) (x2 : Int32) (x3 : Int32) (x4 : Int32) (x5 : Int32) (F : PF) (G : PG) (hm : cb_X10_behindSign_42 fu x1 x2 x3 x4 x5 F G = some res) : xn F ≤ xn res.2.1 := by
  unfold cb_X10_behindSign_42 at hm
  by_cases c_1 : x5 = (42 : Int32)
  · have hm := (if_pos c_1).symm.trans hm
    exact (cn_X10_behindSign_49 fu F G hm)
  · have hm := (if_neg c_1).symm.trans hm
    exact (cn_X10_behindSign_51 fu x1 x2 x3 x4 x5 F G hm)
theorem cw_X10_behindSign_42 (fu : Nat) {res : Int32 × PF × PG} (C : cMC p R s m args c A v RX10 cX10_behindSign 7 4 91 (xn res.2.1 - xn K0)) (hret : ∀ (b1 : Nat) (H1 : Heap) (locs1 : List Loc) (ls1 : Array Slot) (pc : Nat), cMW s A v a b1 K0 res.2.1 res.2.2 H1 locs1 → narrow .int (.int res.1) = .int res.1 → decode cX10_behindSign pc = .ok (.ireturn, 1) → W p l e R s m args below meth c H1 locs1 (xn res.2.1 - xn K0) (2 * (xn res.2.1 - xn K0)) Q (F0 m pc ls1 [.int res.1])) (x1 : Int32) (x2 : Int32) (x3 : Int32) (x4 : Int32) (x5 : Int32) (F : PF) (G : PG) (hm : cb_X10_behindSign_42 fu x1 x2 x3 x4 x5 F G = some res) {b : Nat} {H : Heap} {locs : List Loc} (hw : cMW s A v a b K0 F G H locs) {ls : Array Slot} (hl : lv_has ls 7 [(0, .ref (a 210)), (1, .int x1), (2, .int x2), (3, .int x3), (4, .int x4), (5, .int x5)]) : W p l e R s m args below meth c H locs (xn F - xn K0) (2 * (xn F - xn K0)) Q (F0 m 42 ls []) := by
  have hx := C.1
  have hb := C.2.1
  unfold cb_X10_behindSign_42 at hm
  refine lv_iload hx hb dX10_behindSign_42 (lv_at hl 5 rfl) ?_
  refine lv_bipush (v := 42) hx hb dX10_behindSign_44 (by decide) ?_
  refine lv_icmp_ne (tgt := 51) hx hb dX10_behindSign_46 (by decide) (fun c_1 => ?_) (fun c_1 => ?_)
  · have hm := (if_neg c_1).symm.trans hm
    exact cw_X10_behindSign_51 fu C hret x1 x2 x3 x4 x5 F G hm hw (lv_sub hl [0, 1, 2, 3, 4, 5] rfl)
  · have hm := (if_pos c_1).symm.trans hm
    exact cw_X10_behindSign_49 fu C hret F G hm hw (lv_sub hl [] rfl)
theorem cn_X10_behindSign_36 (fu : Nat) {res : Int32 × PF × PG} (x1 : Int32) (x2 : Int32) (x3 : Int32) (x4 : Int32) (x5 : Int32) (F : PF) (G : PG) (hm : cb_X10_behindSign_36 fu x1 x2 x3 x4 x5 F G = some res) : xn F ≤ xn res.2.1 := by
  unfold cb_X10_behindSign_36 at hm
  by_cases c_1 : x2 = (47 : Int32)
  · have hm := (if_pos c_1).symm.trans hm
    exact (cn_X10_behindSign_42 fu x1 x2 x3 x4 x5 F G hm)
  · have hm := (if_neg c_1).symm.trans hm
    exact (cn_X10_behindSign_51 fu x1 x2 x3 x4 x5 F G hm)
theorem cw_X10_behindSign_36 (fu : Nat) {res : Int32 × PF × PG} (C : cMC p R s m args c A v RX10 cX10_behindSign 7 4 91 (xn res.2.1 - xn K0)) (hret : ∀ (b1 : Nat) (H1 : Heap) (locs1 : List Loc) (ls1 : Array Slot) (pc : Nat), cMW s A v a b1 K0 res.2.1 res.2.2 H1 locs1 → narrow .int (.int res.1) = .int res.1 → decode cX10_behindSign pc = .ok (.ireturn, 1) → W p l e R s m args below meth c H1 locs1 (xn res.2.1 - xn K0) (2 * (xn res.2.1 - xn K0)) Q (F0 m pc ls1 [.int res.1])) (x1 : Int32) (x2 : Int32) (x3 : Int32) (x4 : Int32) (x5 : Int32) (F : PF) (G : PG) (hm : cb_X10_behindSign_36 fu x1 x2 x3 x4 x5 F G = some res) {b : Nat} {H : Heap} {locs : List Loc} (hw : cMW s A v a b K0 F G H locs) {ls : Array Slot} (hl : lv_has ls 7 [(0, .ref (a 210)), (1, .int x1), (2, .int x2), (3, .int x3), (4, .int x4), (5, .int x5)]) : W p l e R s m args below meth c H locs (xn F - xn K0) (2 * (xn F - xn K0)) Q (F0 m 36 ls []) := by
  have hx := C.1
  have hb := C.2.1
  unfold cb_X10_behindSign_36 at hm
  refine lv_iload_n hx hb dX10_behindSign_36 rfl (lv_at hl 2 rfl) ?_
  refine lv_bipush (v := 47) hx hb dX10_behindSign_37 (by decide) ?_
  refine lv_icmp_ne (tgt := 51) hx hb dX10_behindSign_39 (by decide) (fun c_1 => ?_) (fun c_1 => ?_)
  · have hm := (if_neg c_1).symm.trans hm
    exact cw_X10_behindSign_51 fu C hret x1 x2 x3 x4 x5 F G hm hw (lv_sub hl [0, 1, 2, 3, 4, 5] rfl)
  · have hm := (if_pos c_1).symm.trans hm
    exact cw_X10_behindSign_42 fu C hret x1 x2 x3 x4 x5 F G hm hw (lv_sub hl [0, 1, 2, 3, 4, 5] rfl)
theorem cn_X10_behindSign_28 (fu : Nat) {res : Int32 × PF × PG} (x1 : Int32) (x2 : Int32) (x3 : Int32) (x4 : Int32) (x5 : Int32) (F : PF) (G : PG) (hm : cb_X10_behindSign_28 fu x1 x2 x3 x4 x5 F G = some res) : xn F ≤ xn res.2.1 := by
  unfold cb_X10_behindSign_28 at hm
  by_cases c_1 : (23 : Int32) ≤ x3
  · have hm := (if_pos c_1).symm.trans hm
    exact (cn_X10_behindSign_49 fu F G hm)
  · have hm := (if_neg c_1).symm.trans hm
    exact (cn_X10_behindSign_36 fu x1 x2 x3 x4 x5 F G hm)
theorem cw_X10_behindSign_28 (fu : Nat) {res : Int32 × PF × PG} (C : cMC p R s m args c A v RX10 cX10_behindSign 7 4 91 (xn res.2.1 - xn K0)) (hret : ∀ (b1 : Nat) (H1 : Heap) (locs1 : List Loc) (ls1 : Array Slot) (pc : Nat), cMW s A v a b1 K0 res.2.1 res.2.2 H1 locs1 → narrow .int (.int res.1) = .int res.1 → decode cX10_behindSign pc = .ok (.ireturn, 1) → W p l e R s m args below meth c H1 locs1 (xn res.2.1 - xn K0) (2 * (xn res.2.1 - xn K0)) Q (F0 m pc ls1 [.int res.1])) (x1 : Int32) (x2 : Int32) (x3 : Int32) (x4 : Int32) (x5 : Int32) (F : PF) (G : PG) (hm : cb_X10_behindSign_28 fu x1 x2 x3 x4 x5 F G = some res) {b : Nat} {H : Heap} {locs : List Loc} (hw : cMW s A v a b K0 F G H locs) {ls : Array Slot} (hl : lv_has ls 7 [(0, .ref (a 210)), (1, .int x1), (2, .int x2), (3, .int x3), (4, .int x4), (5, .int x5)]) : W p l e R s m args below meth c H locs (xn F - xn K0) (2 * (xn F - xn K0)) Q (F0 m 28 ls []) := by
  have hx := C.1
  have hb := C.2.1
  unfold cb_X10_behindSign_28 at hm
  refine lv_iload_n hx hb dX10_behindSign_28 rfl (lv_at hl 3 rfl) ?_
  refine cgs_X10_121 C hw dX10_behindSign_29 ?_
  refine ctl_2 C hw dX10_behindSign_32 ?_
  refine lv_icmp_ge (tgt := 49) hx hb dX10_behindSign_33 (by decide) (fun c_1 => ?_) (fun c_1 => ?_)
  · have hm := (if_pos c_1).symm.trans hm
    exact cw_X10_behindSign_49 fu C hret F G hm hw (lv_sub hl [] rfl)
  · have hm := (if_neg c_1).symm.trans hm
    exact cw_X10_behindSign_36 fu C hret x1 x2 x3 x4 x5 F G hm hw (lv_sub hl [0, 1, 2, 3, 4, 5] rfl)
theorem cn_X10_behindSign_22 (fu : Nat) {res : Int32 × PF × PG} (x1 : Int32) (x2 : Int32) (x3 : Int32) (x4 : Int32) (z0 : Int32) (F : PF) (G : PG) (hm : cb_X10_behindSign_22 fu x1 x2 x3 x4 z0 F G = some res) : xn F ≤ xn res.2.1 := by
  unfold cb_X10_behindSign_22 at hm
  by_cases c_1 : x3 < (0 : Int32)
  · have hm := (if_pos c_1).symm.trans hm
    exact (cn_X10_behindSign_49 fu F G hm)
  · have hm := (if_neg c_1).symm.trans hm
    exact (cn_X10_behindSign_28 fu x1 x2 x3 x4 z0 F G hm)
theorem cw_X10_behindSign_22 (fu : Nat) {res : Int32 × PF × PG} (C : cMC p R s m args c A v RX10 cX10_behindSign 7 4 91 (xn res.2.1 - xn K0)) (hret : ∀ (b1 : Nat) (H1 : Heap) (locs1 : List Loc) (ls1 : Array Slot) (pc : Nat), cMW s A v a b1 K0 res.2.1 res.2.2 H1 locs1 → narrow .int (.int res.1) = .int res.1 → decode cX10_behindSign pc = .ok (.ireturn, 1) → W p l e R s m args below meth c H1 locs1 (xn res.2.1 - xn K0) (2 * (xn res.2.1 - xn K0)) Q (F0 m pc ls1 [.int res.1])) (x1 : Int32) (x2 : Int32) (x3 : Int32) (x4 : Int32) (z0 : Int32) (F : PF) (G : PG) (hm : cb_X10_behindSign_22 fu x1 x2 x3 x4 z0 F G = some res) {b : Nat} {H : Heap} {locs : List Loc} (hw : cMW s A v a b K0 F G H locs) {ls : Array Slot} (hl : lv_has ls 7 [(0, .ref (a 210)), (1, .int x1), (2, .int x2), (3, .int x3), (4, .int x4)]) : W p l e R s m args below meth c H locs (xn F - xn K0) (2 * (xn F - xn K0)) Q (F0 m 22 ls [.int z0]) := by
  have hx := C.1
  have hb := C.2.1
  unfold cb_X10_behindSign_22 at hm
  refine lv_istore (lv' := [(5, .int z0), (0, .ref (a 210)), (1, .int x1), (2, .int x2), (3, .int x3), (4, .int x4)]) hx hb dX10_behindSign_22 hl (by decide) rfl (fun ls hl => ?_)
  refine lv_iload_n hx hb dX10_behindSign_24 rfl (lv_at hl 4 rfl) ?_
  refine lv_if_lt (tgt := 49) hx hb dX10_behindSign_25 (by decide) (fun c_1 => ?_) (fun c_1 => ?_)
  · have hm := (if_pos c_1).symm.trans hm
    exact cw_X10_behindSign_49 fu C hret F G hm hw (lv_sub hl [] rfl)
  · have hm := (if_neg c_1).symm.trans hm
    exact cw_X10_behindSign_28 fu C hret x1 x2 x3 x4 z0 F G hm hw (lv_sub hl [1, 2, 3, 4, 5, 0] rfl)
theorem cn_X10_behindSign_7 (fu : Nat) {res : Int32 × PF × PG} (x1 : Int32) (x2 : Int32) (z0 : Int32) (F : PF) (G : PG) (hm : cb_X10_behindSign_7 fu x1 x2 z0 F G = some res) : xn F ≤ xn res.2.1 := by
  unfold cb_X10_behindSign_7 at hm
  obtain ⟨⟨r1, F1, G1⟩, hc, hm⟩ := bind_elim hm
  exact Nat.le_trans (cn_X9_at fu (x1 + (1 : Int32)) F G _ hc) (cn_X10_behindSign_22 fu x1 x2 z0 (x1 + (1 : Int32)) r1 F1 G1 hm)
theorem cw_X10_behindSign_7 (fu : Nat) {res : Int32 × PF × PG} (C : cMC p R s m args c A v RX10 cX10_behindSign 7 4 91 (xn res.2.1 - xn K0)) (hret : ∀ (b1 : Nat) (H1 : Heap) (locs1 : List Loc) (ls1 : Array Slot) (pc : Nat), cMW s A v a b1 K0 res.2.1 res.2.2 H1 locs1 → narrow .int (.int res.1) = .int res.1 → decode cX10_behindSign pc = .ok (.ireturn, 1) → W p l e R s m args below meth c H1 locs1 (xn res.2.1 - xn K0) (2 * (xn res.2.1 - xn K0)) Q (F0 m pc ls1 [.int res.1])) (x1 : Int32) (x2 : Int32) (z0 : Int32) (F : PF) (G : PG) (hm : cb_X10_behindSign_7 fu x1 x2 z0 F G = some res) {b : Nat} {H : Heap} {locs : List Loc} (hw : cMW s A v a b K0 F G H locs) {ls : Array Slot} (hl : lv_has ls 7 [(0, .ref (a 210)), (1, .int x1), (2, .int x2)]) : W p l e R s m args below meth c H locs (xn F - xn K0) (2 * (xn F - xn K0)) Q (F0 m 7 ls [.int z0]) := by
  have hx := C.1
  have hb := C.2.1
  unfold cb_X10_behindSign_7 at hm
  refine lv_istore_n (lv' := [(3, .int z0), (0, .ref (a 210)), (1, .int x1), (2, .int x2)]) hx hb dX10_behindSign_7 rfl hl (by decide) rfl (fun ls hl => ?_)
  refine lv_iload_n hx hb dX10_behindSign_8 rfl (lv_at hl 2 rfl) ?_
  refine lv_iconst (v := 1) hx hb dX10_behindSign_9 (by decide) ?_
  refine lv_iadd hx hb dX10_behindSign_10 ?_
  refine lv_istore (lv' := [(4, .int (x1 + (1 : Int32))), (3, .int z0), (0, .ref (a 210)), (1, .int x1), (2, .int x2)]) hx hb dX10_behindSign_11 hl (by decide) rfl (fun ls hl => ?_)
  refine lv_aload_n hx hb dX10_behindSign_13 rfl (lv_at hl 2 rfl) ?_
  refine cg_X10_33 C hw dX10_behindSign_14 ?_
  refine lv_iload hx hb dX10_behindSign_17 (lv_at hl 0 rfl) ?_
  obtain ⟨⟨r1, F1, G1⟩, hc, hm⟩ := bind_elim hm
  refine ccallI (n := 1) (As := [.int (x1 + (1 : Int32))]) (rest := []) C hw (ck_X9_at l v a _ _ fu (x1 + (1 : Int32)) F G r1 F1 G1 hc) (cn_X9_at fu (x1 + (1 : Int32)) F G _ hc) (Nat.sub_le_sub_right (cn_X10_behindSign_22 fu x1 x2 z0 (x1 + (1 : Int32)) r1 F1 G1 hm) _) (crecv_X9 C hw) cm_61 cm_62 cm_63 cm_6 cm_64 (by decide +kernel) rfl (by omega) (by omega) hl.1 rfl (Nat.le_of_ble_eq_true rfl) dX10_behindSign_19 (fun b H locs hw => ?_)
  exact cw_X10_behindSign_22 fu C hret x1 x2 z0 (x1 + (1 : Int32)) r1 F1 G1 hm hw (lv_sub hl [2, 3, 4, 1, 0] rfl)
theorem cn_X10_behindSign_0 (fu : Nat) {res : Int32 × PF × PG} (x1 : Int32) (x2 : Int32) (F : PF) (G : PG) (hm : cb_X10_behindSign_0 fu x1 x2 F G = some res) : xn F ≤ xn res.2.1 := by
  unfold cb_X10_behindSign_0 at hm
  obtain ⟨⟨r1, F1, G1⟩, hc, hm⟩ := bind_elim hm
  exact Nat.le_trans (cn_J0_indexOf_0f7a4 fu 3 ((x2.toUInt32 % 65536).toInt32) F G _ hc) (cn_X10_behindSign_7 fu x1 x2 r1 F1 G1 hm)
theorem cw_X10_behindSign_0 (fu : Nat) {res : Int32 × PF × PG} (C : cMC p R s m args c A v RX10 cX10_behindSign 7 4 91 (xn res.2.1 - xn K0)) (hret : ∀ (b1 : Nat) (H1 : Heap) (locs1 : List Loc) (ls1 : Array Slot) (pc : Nat), cMW s A v a b1 K0 res.2.1 res.2.2 H1 locs1 → narrow .int (.int res.1) = .int res.1 → decode cX10_behindSign pc = .ok (.ireturn, 1) → W p l e R s m args below meth c H1 locs1 (xn res.2.1 - xn K0) (2 * (xn res.2.1 - xn K0)) Q (F0 m pc ls1 [.int res.1])) (x1 : Int32) (x2 : Int32) (F : PF) (G : PG) (hm : cb_X10_behindSign_0 fu x1 x2 F G = some res) {b : Nat} {H : Heap} {locs : List Loc} (hw : cMW s A v a b K0 F G H locs) {ls : Array Slot} (hl : lv_has ls 7 [(0, .ref (a 210)), (1, .int x1), (2, .int x2)]) : W p l e R s m args below meth c H locs (xn F - xn K0) (2 * (xn F - xn K0)) Q (F0 m 0 ls []) := by
  have hx := C.1
  have hb := C.2.1
  unfold cb_X10_behindSign_0 at hm
  refine va_ldcS hx hb C.2.2.2.1 C.2.2.2.2.2.2.2.2.2.1.1.2.2.2.2.2.2 dX10_behindSign_0 ?_
  refine lv_iload_n hx hb dX10_behindSign_2 rfl (lv_at hl 2 rfl) ?_
  refine lv_i2c hx hb dX10_behindSign_3 rfl ?_
  obtain ⟨⟨r1, F1, G1⟩, hc, hm⟩ := bind_elim hm
  refine ccallI (n := 1) (As := [.int ((x2.toUInt32 % 65536).toInt32)]) (rest := []) C hw (ck_J0_indexOf_0f7a4 l v a _ _ fu 3 ((x2.toUInt32 % 65536).toInt32) F G r1 F1 G1 hc) (cn_J0_indexOf_0f7a4 fu 3 ((x2.toUInt32 % 65536).toInt32) F G _ hc) (Nat.sub_le_sub_right (cn_X10_behindSign_7 fu x1 x2 r1 F1 G1 hm) _) (vk_recv C.2.2.2.2.2.2.2.2.2.1.1.2.2.1 (clt_J0_indexOf_0f7a4 hc) hw.2.2.1) cm_169 cm_170 cm_171 cm_113 cm_172 (by decide +kernel) rfl (by omega) (by omega) hl.1 rfl (Nat.le_of_ble_eq_true rfl) dX10_behindSign_4 (fun b H locs hw => ?_)
  exact cw_X10_behindSign_7 fu C hret x1 x2 r1 F1 G1 hm hw (lv_sub hl [0, 1, 2] rfl)
theorem cn_X10_behindSign (fu : Nat) (x1 : Int32) (x2 : Int32) (F : PF) (G : PG) (q : Int32 × PF × PG) (hm : cf_X10_behindSign fu x1 x2 F G = some q) : xn F ≤ xn q.2.1 := cn_X10_behindSign_0 fu x1 x2 F G hm
theorem ck_X10_behindSign (l : Launch) (v : EV) (a : Nat → Nat) (b sz : Nat) (fu : Nat) (x1 : Int32) (x2 : Int32) (F : PF) (G : PG) (r : Int32) (F1 : PF) (G1 : PG) (hm : cf_X10_behindSign fu x1 x2 F G = some (r, F1, G1)) : cMI l yX10_behindSign cX10_behindSign 7 (some .int) 4 91 v a b sz [.ref (a 210), .int x1, .int x2] F G r F1 G1 := cMI.of (ty := .int) (by decide) rfl (Nat.le_of_ble_eq_true rfl) (fun p e R s m args below meth c Q A H locs ls C hw hl hret => cw_X10_behindSign_0 fu (res := (r, F1, G1)) C hret x1 x2 F G hm hw hl)
def cb_X10_digitOf_56 (fu : Nat) (z0 : Int32) (F : PF) (G : PG) : PR := some (z0, F, G)
def cb_X10_digitOf_54 (fu : Nat) (F : PF) (G : PG) : PR := cb_X10_digitOf_56 fu 16 F G
def cb_X10_digitOf_44 (fu : Nat) (x0 : Int32) (F : PF) (G : PG) : PR := cb_X10_digitOf_56 fu ((x0 - (65 : Int32)) + (10 : Int32)) F G
def cb_X10_digitOf_38 (fu : Nat) (x0 : Int32) (F : PF) (G : PG) : PR := if (70 : Int32) < x0 then cb_X10_digitOf_54 fu F G else cb_X10_digitOf_44 fu x0 F G
def cb_X10_digitOf_32 (fu : Nat) (x0 : Int32) (F : PF) (G : PG) : PR := if x0 < (65 : Int32) then cb_X10_digitOf_54 fu F G else cb_X10_digitOf_38 fu x0 F G
def cb_X10_digitOf_24 (fu : Nat) (x0 : Int32) (F : PF) (G : PG) : PR := some (((x0 - (97 : Int32)) + (10 : Int32)), F, G)
def cb_X10_digitOf_18 (fu : Nat) (x0 : Int32) (F : PF) (G : PG) : PR := if (102 : Int32) < x0 then cb_X10_digitOf_32 fu x0 F G else cb_X10_digitOf_24 fu x0 F G
def cb_X10_digitOf_12 (fu : Nat) (x0 : Int32) (F : PF) (G : PG) : PR := if x0 < (97 : Int32) then cb_X10_digitOf_32 fu x0 F G else cb_X10_digitOf_18 fu x0 F G
def cb_X10_digitOf_7 (fu : Nat) (x0 : Int32) (F : PF) (G : PG) : PR := some ((x0 - (48 : Int32)), F, G)
def cb_X10_digitOf_4 (fu : Nat) (x0 : Int32) (z0 : Int32) (F : PF) (G : PG) : PR := if z0 = (0 : Int32) then cb_X10_digitOf_12 fu x0 F G else cb_X10_digitOf_7 fu x0 F G
def cb_X10_digitOf_0 (fu : Nat) (x0 : Int32) (F : PF) (G : PG) : PR := (cf_X10_isDigit fu x0 F G).bind (fun q => cb_X10_digitOf_4 fu x0 q.1 q.2.1 q.2.2)
def cf_X10_digitOf (fu : Nat) (x0 : Int32) (F : PF) (G : PG) : PR := cb_X10_digitOf_0 fu x0 F G
theorem cn_X10_digitOf_56 (fu : Nat) {res : Int32 × PF × PG} (z0 : Int32) (F : PF) (G : PG) (hm : cb_X10_digitOf_56 fu z0 F G = some res) : xn F ≤ xn res.2.1 := by
  unfold cb_X10_digitOf_56 at hm
  obtain rfl := Option.some.inj hm
  exact Nat.le_refl _
theorem cw_X10_digitOf_56 (fu : Nat) {res : Int32 × PF × PG} (C : cMC p R s m args c A v RX10 cX10_digitOf 1 1 20 (xn res.2.1 - xn K0)) (hret : ∀ (b1 : Nat) (H1 : Heap) (locs1 : List Loc) (ls1 : Array Slot) (pc : Nat), cMW s A v a b1 K0 res.2.1 res.2.2 H1 locs1 → narrow .int (.int res.1) = .int res.1 → decode cX10_digitOf pc = .ok (.ireturn, 1) → W p l e R s m args below meth c H1 locs1 (xn res.2.1 - xn K0) (2 * (xn res.2.1 - xn K0)) Q (F0 m pc ls1 [.int res.1])) (z0 : Int32) (F : PF) (G : PG) (hm : cb_X10_digitOf_56 fu z0 F G = some res) {b : Nat} {H : Heap} {locs : List Loc} (hw : cMW s A v a b K0 F G H locs) {ls : Array Slot} (hl : lv_has ls 1 []) : W p l e R s m args below meth c H locs (xn F - xn K0) (2 * (xn F - xn K0)) Q (F0 m 56 ls [.int z0]) := by
  have hx := C.1
  have hb := C.2.1
  unfold cb_X10_digitOf_56 at hm
  obtain rfl := Option.some.inj hm
  exact hret _ _ _ _ _ hw rfl dX10_digitOf_56
theorem cn_X10_digitOf_54 (fu : Nat) {res : Int32 × PF × PG} (F : PF) (G : PG) (hm : cb_X10_digitOf_54 fu F G = some res) : xn F ≤ xn res.2.1 := by
  unfold cb_X10_digitOf_54 at hm
  exact (cn_X10_digitOf_56 fu 16 F G hm)
theorem cw_X10_digitOf_54 (fu : Nat) {res : Int32 × PF × PG} (C : cMC p R s m args c A v RX10 cX10_digitOf 1 1 20 (xn res.2.1 - xn K0)) (hret : ∀ (b1 : Nat) (H1 : Heap) (locs1 : List Loc) (ls1 : Array Slot) (pc : Nat), cMW s A v a b1 K0 res.2.1 res.2.2 H1 locs1 → narrow .int (.int res.1) = .int res.1 → decode cX10_digitOf pc = .ok (.ireturn, 1) → W p l e R s m args below meth c H1 locs1 (xn res.2.1 - xn K0) (2 * (xn res.2.1 - xn K0)) Q (F0 m pc ls1 [.int res.1])) (F : PF) (G : PG) (hm : cb_X10_digitOf_54 fu F G = some res) {b : Nat} {H : Heap} {locs : List Loc} (hw : cMW s A v a b K0 F G H locs) {ls : Array Slot} (hl : lv_has ls 1 []) : W p l e R s m args below meth c H locs (xn F - xn K0) (2 * (xn F - xn K0)) Q (F0 m 54 ls []) := by
  have hx := C.1
  have hb := C.2.1
  unfold cb_X10_digitOf_54 at hm
  refine lv_bipush (v := 16) hx hb dX10_digitOf_54 (by decide) ?_
  exact cw_X10_digitOf_56 fu C hret 16 F G hm hw (lv_sub hl [] rfl)
theorem cn_X10_digitOf_44 (fu : Nat) {res : Int32 × PF × PG} (x0 : Int32) (F : PF) (G : PG) (hm : cb_X10_digitOf_44 fu x0 F G = some res) : xn F ≤ xn res.2.1 := by
  unfold cb_X10_digitOf_44 at hm
  exact (cn_X10_digitOf_56 fu ((x0 - (65 : Int32)) + (10 : Int32)) F G hm)
theorem cw_X10_digitOf_44 (fu : Nat) {res : Int32 × PF × PG} (C : cMC p R s m args c A v RX10 cX10_digitOf 1 1 20 (xn res.2.1 - xn K0)) (hret : ∀ (b1 : Nat) (H1 : Heap) (locs1 : List Loc) (ls1 : Array Slot) (pc : Nat), cMW s A v a b1 K0 res.2.1 res.2.2 H1 locs1 → narrow .int (.int res.1) = .int res.1 → decode cX10_digitOf pc = .ok (.ireturn, 1) → W p l e R s m args below meth c H1 locs1 (xn res.2.1 - xn K0) (2 * (xn res.2.1 - xn K0)) Q (F0 m pc ls1 [.int res.1])) (x0 : Int32) (F : PF) (G : PG) (hm : cb_X10_digitOf_44 fu x0 F G = some res) {b : Nat} {H : Heap} {locs : List Loc} (hw : cMW s A v a b K0 F G H locs) {ls : Array Slot} (hl : lv_has ls 1 [(0, .int x0)]) : W p l e R s m args below meth c H locs (xn F - xn K0) (2 * (xn F - xn K0)) Q (F0 m 44 ls []) := by
  have hx := C.1
  have hb := C.2.1
  unfold cb_X10_digitOf_44 at hm
  refine lv_iload_n hx hb dX10_digitOf_44 rfl (lv_at hl 0 rfl) ?_
  refine lv_bipush (v := 65) hx hb dX10_digitOf_45 (by decide) ?_
  refine lv_isub hx hb dX10_digitOf_47 ?_
  refine lv_bipush (v := 10) hx hb dX10_digitOf_48 (by decide) ?_
  refine lv_iadd hx hb dX10_digitOf_50 ?_
  refine lv_goto (tgt := 56) hx hb dX10_digitOf_51 (by decide) ?_
  exact cw_X10_digitOf_56 fu C hret ((x0 - (65 : Int32)) + (10 : Int32)) F G hm hw (lv_sub hl [] rfl)
theorem cn_X10_digitOf_38 (fu : Nat) {res : Int32 × PF × PG} (x0 : Int32) (F : PF) (G : PG) (hm : cb_X10_digitOf_38 fu x0 F G = some res) : xn F ≤ xn res.2.1 := by
  unfold cb_X10_digitOf_38 at hm
  by_cases c_1 : (70 : Int32) < x0
  · have hm := (if_pos c_1).symm.trans hm
    exact (cn_X10_digitOf_54 fu F G hm)
  · have hm := (if_neg c_1).symm.trans hm
    exact (cn_X10_digitOf_44 fu x0 F G hm)
theorem cw_X10_digitOf_38 (fu : Nat) {res : Int32 × PF × PG} (C : cMC p R s m args c A v RX10 cX10_digitOf 1 1 20 (xn res.2.1 - xn K0)) (hret : ∀ (b1 : Nat) (H1 : Heap) (locs1 : List Loc) (ls1 : Array Slot) (pc : Nat), cMW s A v a b1 K0 res.2.1 res.2.2 H1 locs1 → narrow .int (.int res.1) = .int res.1 → decode cX10_digitOf pc = .ok (.ireturn, 1) → W p l e R s m args below meth c H1 locs1 (xn res.2.1 - xn K0) (2 * (xn res.2.1 - xn K0)) Q (F0 m pc ls1 [.int res.1])) (x0 : Int32) (F : PF) (G : PG) (hm : cb_X10_digitOf_38 fu x0 F G = some res) {b : Nat} {H : Heap} {locs : List Loc} (hw : cMW s A v a b K0 F G H locs) {ls : Array Slot} (hl : lv_has ls 1 [(0, .int x0)]) : W p l e R s m args below meth c H locs (xn F - xn K0) (2 * (xn F - xn K0)) Q (F0 m 38 ls []) := by
  have hx := C.1
  have hb := C.2.1
  unfold cb_X10_digitOf_38 at hm
  refine lv_iload_n hx hb dX10_digitOf_38 rfl (lv_at hl 0 rfl) ?_
  refine lv_bipush (v := 70) hx hb dX10_digitOf_39 (by decide) ?_
  refine lv_icmp_gt (tgt := 54) hx hb dX10_digitOf_41 (by decide) (fun c_1 => ?_) (fun c_1 => ?_)
  · have hm := (if_pos c_1).symm.trans hm
    exact cw_X10_digitOf_54 fu C hret F G hm hw (lv_sub hl [] rfl)
  · have hm := (if_neg c_1).symm.trans hm
    exact cw_X10_digitOf_44 fu C hret x0 F G hm hw (lv_sub hl [0] rfl)
theorem cn_X10_digitOf_32 (fu : Nat) {res : Int32 × PF × PG} (x0 : Int32) (F : PF) (G : PG) (hm : cb_X10_digitOf_32 fu x0 F G = some res) : xn F ≤ xn res.2.1 := by
  unfold cb_X10_digitOf_32 at hm
  by_cases c_1 : x0 < (65 : Int32)
  · have hm := (if_pos c_1).symm.trans hm
    exact (cn_X10_digitOf_54 fu F G hm)
  · have hm := (if_neg c_1).symm.trans hm
    exact (cn_X10_digitOf_38 fu x0 F G hm)
theorem cw_X10_digitOf_32 (fu : Nat) {res : Int32 × PF × PG} (C : cMC p R s m args c A v RX10 cX10_digitOf 1 1 20 (xn res.2.1 - xn K0)) (hret : ∀ (b1 : Nat) (H1 : Heap) (locs1 : List Loc) (ls1 : Array Slot) (pc : Nat), cMW s A v a b1 K0 res.2.1 res.2.2 H1 locs1 → narrow .int (.int res.1) = .int res.1 → decode cX10_digitOf pc = .ok (.ireturn, 1) → W p l e R s m args below meth c H1 locs1 (xn res.2.1 - xn K0) (2 * (xn res.2.1 - xn K0)) Q (F0 m pc ls1 [.int res.1])) (x0 : Int32) (F : PF) (G : PG) (hm : cb_X10_digitOf_32 fu x0 F G = some res) {b : Nat} {H : Heap} {locs : List Loc} (hw : cMW s A v a b K0 F G H locs) {ls : Array Slot} (hl : lv_has ls 1 [(0, .int x0)]) : W p l e R s m args below meth c H locs (xn F - xn K0) (2 * (xn F - xn K0)) Q (F0 m 32 ls []) := by
  have hx := C.1
  have hb := C.2.1
  unfold cb_X10_digitOf_32 at hm
  refine lv_iload_n hx hb dX10_digitOf_32 rfl (lv_at hl 0 rfl) ?_
  refine lv_bipush (v := 65) hx hb dX10_digitOf_33 (by decide) ?_
  refine lv_icmp_lt (tgt := 54) hx hb dX10_digitOf_35 (by decide) (fun c_1 => ?_) (fun c_1 => ?_)
  · have hm := (if_pos c_1).symm.trans hm
    exact cw_X10_digitOf_54 fu C hret F G hm hw (lv_sub hl [] rfl)
  · have hm := (if_neg c_1).symm.trans hm
    exact cw_X10_digitOf_38 fu C hret x0 F G hm hw (lv_sub hl [0] rfl)
theorem cn_X10_digitOf_24 (fu : Nat) {res : Int32 × PF × PG} (x0 : Int32) (F : PF) (G : PG) (hm : cb_X10_digitOf_24 fu x0 F G = some res) : xn F ≤ xn res.2.1 := by
  unfold cb_X10_digitOf_24 at hm
  obtain rfl := Option.some.inj hm
  exact Nat.le_refl _
theorem cw_X10_digitOf_24 (fu : Nat) {res : Int32 × PF × PG} (C : cMC p R s m args c A v RX10 cX10_digitOf 1 1 20 (xn res.2.1 - xn K0)) (hret : ∀ (b1 : Nat) (H1 : Heap) (locs1 : List Loc) (ls1 : Array Slot) (pc : Nat), cMW s A v a b1 K0 res.2.1 res.2.2 H1 locs1 → narrow .int (.int res.1) = .int res.1 → decode cX10_digitOf pc = .ok (.ireturn, 1) → W p l e R s m args below meth c H1 locs1 (xn res.2.1 - xn K0) (2 * (xn res.2.1 - xn K0)) Q (F0 m pc ls1 [.int res.1])) (x0 : Int32) (F : PF) (G : PG) (hm : cb_X10_digitOf_24 fu x0 F G = some res) {b : Nat} {H : Heap} {locs : List Loc} (hw : cMW s A v a b K0 F G H locs) {ls : Array Slot} (hl : lv_has ls 1 [(0, .int x0)]) : W p l e R s m args below meth c H locs (xn F - xn K0) (2 * (xn F - xn K0)) Q (F0 m 24 ls []) := by
  have hx := C.1
  have hb := C.2.1
  unfold cb_X10_digitOf_24 at hm
  refine lv_iload_n hx hb dX10_digitOf_24 rfl (lv_at hl 0 rfl) ?_
  refine lv_bipush (v := 97) hx hb dX10_digitOf_25 (by decide) ?_
  refine lv_isub hx hb dX10_digitOf_27 ?_
  refine lv_bipush (v := 10) hx hb dX10_digitOf_28 (by decide) ?_
  refine lv_iadd hx hb dX10_digitOf_30 ?_
  obtain rfl := Option.some.inj hm
  exact hret _ _ _ _ _ hw rfl dX10_digitOf_31
theorem cn_X10_digitOf_18 (fu : Nat) {res : Int32 × PF × PG} (x0 : Int32) (F : PF) (G : PG) (hm : cb_X10_digitOf_18 fu x0 F G = some res) : xn F ≤ xn res.2.1 := by
  unfold cb_X10_digitOf_18 at hm
  by_cases c_1 : (102 : Int32) < x0
  · have hm := (if_pos c_1).symm.trans hm
    exact (cn_X10_digitOf_32 fu x0 F G hm)
  · have hm := (if_neg c_1).symm.trans hm
    exact (cn_X10_digitOf_24 fu x0 F G hm)
theorem cw_X10_digitOf_18 (fu : Nat) {res : Int32 × PF × PG} (C : cMC p R s m args c A v RX10 cX10_digitOf 1 1 20 (xn res.2.1 - xn K0)) (hret : ∀ (b1 : Nat) (H1 : Heap) (locs1 : List Loc) (ls1 : Array Slot) (pc : Nat), cMW s A v a b1 K0 res.2.1 res.2.2 H1 locs1 → narrow .int (.int res.1) = .int res.1 → decode cX10_digitOf pc = .ok (.ireturn, 1) → W p l e R s m args below meth c H1 locs1 (xn res.2.1 - xn K0) (2 * (xn res.2.1 - xn K0)) Q (F0 m pc ls1 [.int res.1])) (x0 : Int32) (F : PF) (G : PG) (hm : cb_X10_digitOf_18 fu x0 F G = some res) {b : Nat} {H : Heap} {locs : List Loc} (hw : cMW s A v a b K0 F G H locs) {ls : Array Slot} (hl : lv_has ls 1 [(0, .int x0)]) : W p l e R s m args below meth c H locs (xn F - xn K0) (2 * (xn F - xn K0)) Q (F0 m 18 ls []) := by
  have hx := C.1
  have hb := C.2.1
  unfold cb_X10_digitOf_18 at hm
  refine lv_iload_n hx hb dX10_digitOf_18 rfl (lv_at hl 0 rfl) ?_
  refine lv_bipush (v := 102) hx hb dX10_digitOf_19 (by decide) ?_
  refine lv_icmp_gt (tgt := 32) hx hb dX10_digitOf_21 (by decide) (fun c_1 => ?_) (fun c_1 => ?_)
  · have hm := (if_pos c_1).symm.trans hm
    exact cw_X10_digitOf_32 fu C hret x0 F G hm hw (lv_sub hl [0] rfl)
  · have hm := (if_neg c_1).symm.trans hm
    exact cw_X10_digitOf_24 fu C hret x0 F G hm hw (lv_sub hl [0] rfl)
theorem cn_X10_digitOf_12 (fu : Nat) {res : Int32 × PF × PG} (x0 : Int32) (F : PF) (G : PG) (hm : cb_X10_digitOf_12 fu x0 F G = some res) : xn F ≤ xn res.2.1 := by
  unfold cb_X10_digitOf_12 at hm
  by_cases c_1 : x0 < (97 : Int32)
  · have hm := (if_pos c_1).symm.trans hm
    exact (cn_X10_digitOf_32 fu x0 F G hm)
  · have hm := (if_neg c_1).symm.trans hm
    exact (cn_X10_digitOf_18 fu x0 F G hm)
theorem cw_X10_digitOf_12 (fu : Nat) {res : Int32 × PF × PG} (C : cMC p R s m args c A v RX10 cX10_digitOf 1 1 20 (xn res.2.1 - xn K0)) (hret : ∀ (b1 : Nat) (H1 : Heap) (locs1 : List Loc) (ls1 : Array Slot) (pc : Nat), cMW s A v a b1 K0 res.2.1 res.2.2 H1 locs1 → narrow .int (.int res.1) = .int res.1 → decode cX10_digitOf pc = .ok (.ireturn, 1) → W p l e R s m args below meth c H1 locs1 (xn res.2.1 - xn K0) (2 * (xn res.2.1 - xn K0)) Q (F0 m pc ls1 [.int res.1])) (x0 : Int32) (F : PF) (G : PG) (hm : cb_X10_digitOf_12 fu x0 F G = some res) {b : Nat} {H : Heap} {locs : List Loc} (hw : cMW s A v a b K0 F G H locs) {ls : Array Slot} (hl : lv_has ls 1 [(0, .int x0)]) : W p l e R s m args below meth c H locs (xn F - xn K0) (2 * (xn F - xn K0)) Q (F0 m 12 ls []) := by
  have hx := C.1
  have hb := C.2.1
  unfold cb_X10_digitOf_12 at hm
  refine lv_iload_n hx hb dX10_digitOf_12 rfl (lv_at hl 0 rfl) ?_
  refine lv_bipush (v := 97) hx hb dX10_digitOf_13 (by decide) ?_
  refine lv_icmp_lt (tgt := 32) hx hb dX10_digitOf_15 (by decide) (fun c_1 => ?_) (fun c_1 => ?_)
  · have hm := (if_pos c_1).symm.trans hm
    exact cw_X10_digitOf_32 fu C hret x0 F G hm hw (lv_sub hl [0] rfl)
  · have hm := (if_neg c_1).symm.trans hm
    exact cw_X10_digitOf_18 fu C hret x0 F G hm hw (lv_sub hl [0] rfl)
theorem cn_X10_digitOf_7 (fu : Nat) {res : Int32 × PF × PG} (x0 : Int32) (F : PF) (G : PG) (hm : cb_X10_digitOf_7 fu x0 F G = some res) : xn F ≤ xn res.2.1 := by
  unfold cb_X10_digitOf_7 at hm
  obtain rfl := Option.some.inj hm
  exact Nat.le_refl _
theorem cw_X10_digitOf_7 (fu : Nat) {res : Int32 × PF × PG} (C : cMC p R s m args c A v RX10 cX10_digitOf 1 1 20 (xn res.2.1 - xn K0)) (hret : ∀ (b1 : Nat) (H1 : Heap) (locs1 : List Loc) (ls1 : Array Slot) (pc : Nat), cMW s A v a b1 K0 res.2.1 res.2.2 H1 locs1 → narrow .int (.int res.1) = .int res.1 → decode cX10_digitOf pc = .ok (.ireturn, 1) → W p l e R s m args below meth c H1 locs1 (xn res.2.1 - xn K0) (2 * (xn res.2.1 - xn K0)) Q (F0 m pc ls1 [.int res.1])) (x0 : Int32) (F : PF) (G : PG) (hm : cb_X10_digitOf_7 fu x0 F G = some res) {b : Nat} {H : Heap} {locs : List Loc} (hw : cMW s A v a b K0 F G H locs) {ls : Array Slot} (hl : lv_has ls 1 [(0, .int x0)]) : W p l e R s m args below meth c H locs (xn F - xn K0) (2 * (xn F - xn K0)) Q (F0 m 7 ls []) := by
  have hx := C.1
  have hb := C.2.1
  unfold cb_X10_digitOf_7 at hm
  refine lv_iload_n hx hb dX10_digitOf_7 rfl (lv_at hl 0 rfl) ?_
  refine lv_bipush (v := 48) hx hb dX10_digitOf_8 (by decide) ?_
  refine lv_isub hx hb dX10_digitOf_10 ?_
  obtain rfl := Option.some.inj hm
  exact hret _ _ _ _ _ hw rfl dX10_digitOf_11
theorem cn_X10_digitOf_4 (fu : Nat) {res : Int32 × PF × PG} (x0 : Int32) (z0 : Int32) (F : PF) (G : PG) (hm : cb_X10_digitOf_4 fu x0 z0 F G = some res) : xn F ≤ xn res.2.1 := by
  unfold cb_X10_digitOf_4 at hm
  by_cases c_1 : z0 = (0 : Int32)
  · have hm := (if_pos c_1).symm.trans hm
    exact (cn_X10_digitOf_12 fu x0 F G hm)
  · have hm := (if_neg c_1).symm.trans hm
    exact (cn_X10_digitOf_7 fu x0 F G hm)
theorem cw_X10_digitOf_4 (fu : Nat) {res : Int32 × PF × PG} (C : cMC p R s m args c A v RX10 cX10_digitOf 1 1 20 (xn res.2.1 - xn K0)) (hret : ∀ (b1 : Nat) (H1 : Heap) (locs1 : List Loc) (ls1 : Array Slot) (pc : Nat), cMW s A v a b1 K0 res.2.1 res.2.2 H1 locs1 → narrow .int (.int res.1) = .int res.1 → decode cX10_digitOf pc = .ok (.ireturn, 1) → W p l e R s m args below meth c H1 locs1 (xn res.2.1 - xn K0) (2 * (xn res.2.1 - xn K0)) Q (F0 m pc ls1 [.int res.1])) (x0 : Int32) (z0 : Int32) (F : PF) (G : PG) (hm : cb_X10_digitOf_4 fu x0 z0 F G = some res) {b : Nat} {H : Heap} {locs : List Loc} (hw : cMW s A v a b K0 F G H locs) {ls : Array Slot} (hl : lv_has ls 1 [(0, .int x0)]) : W p l e R s m args below meth c H locs (xn F - xn K0) (2 * (xn F - xn K0)) Q (F0 m 4 ls [.int z0]) := by
  have hx := C.1
  have hb := C.2.1
  unfold cb_X10_digitOf_4 at hm
  refine lv_if_eq (tgt := 12) hx hb dX10_digitOf_4 (by decide) (fun c_1 => ?_) (fun c_1 => ?_)
  · have hm := (if_pos c_1).symm.trans hm
    exact cw_X10_digitOf_12 fu C hret x0 F G hm hw (lv_sub hl [0] rfl)
  · have hm := (if_neg c_1).symm.trans hm
    exact cw_X10_digitOf_7 fu C hret x0 F G hm hw (lv_sub hl [0] rfl)
theorem cn_X10_digitOf_0 (fu : Nat) {res : Int32 × PF × PG} (x0 : Int32) (F : PF) (G : PG) (hm : cb_X10_digitOf_0 fu x0 F G = some res) : xn F ≤ xn res.2.1 := by
  unfold cb_X10_digitOf_0 at hm
  obtain ⟨⟨r1, F1, G1⟩, hc, hm⟩ := bind_elim hm
  exact Nat.le_trans (cn_X10_isDigit fu x0 F G _ hc) (cn_X10_digitOf_4 fu x0 r1 F1 G1 hm)
theorem cw_X10_digitOf_0 (fu : Nat) {res : Int32 × PF × PG} (C : cMC p R s m args c A v RX10 cX10_digitOf 1 1 20 (xn res.2.1 - xn K0)) (hret : ∀ (b1 : Nat) (H1 : Heap) (locs1 : List Loc) (ls1 : Array Slot) (pc : Nat), cMW s A v a b1 K0 res.2.1 res.2.2 H1 locs1 → narrow .int (.int res.1) = .int res.1 → decode cX10_digitOf pc = .ok (.ireturn, 1) → W p l e R s m args below meth c H1 locs1 (xn res.2.1 - xn K0) (2 * (xn res.2.1 - xn K0)) Q (F0 m pc ls1 [.int res.1])) (x0 : Int32) (F : PF) (G : PG) (hm : cb_X10_digitOf_0 fu x0 F G = some res) {b : Nat} {H : Heap} {locs : List Loc} (hw : cMW s A v a b K0 F G H locs) {ls : Array Slot} (hl : lv_has ls 1 [(0, .int x0)]) : W p l e R s m args below meth c H locs (xn F - xn K0) (2 * (xn F - xn K0)) Q (F0 m 0 ls []) := by
  have hx := C.1
  have hb := C.2.1
  unfold cb_X10_digitOf_0 at hm
  refine lv_iload_n hx hb dX10_digitOf_0 rfl (lv_at hl 0 rfl) ?_
  obtain ⟨⟨r1, F1, G1⟩, hc, hm⟩ := bind_elim hm
  refine ccallIS (n := 1) (As := [.int x0]) (rest := []) C hw (ck_X10_isDigit l v a _ _ fu x0 F G r1 F1 G1 hc) (cn_X10_isDigit fu x0 F G _ hc) (Nat.sub_le_sub_right (cn_X10_digitOf_4 fu x0 r1 F1 G1 hm) _) cm_77 cm_78 cm_46 cm_79 (by decide +kernel) rfl (by omega) (by omega) hl.1 rfl (Nat.le_of_ble_eq_true rfl) dX10_digitOf_1 (fun b H locs hw => ?_)
  exact cw_X10_digitOf_4 fu C hret x0 r1 F1 G1 hm hw (lv_sub hl [0] rfl)
theorem cn_X10_digitOf (fu : Nat) (x0 : Int32) (F : PF) (G : PG) (q : Int32 × PF × PG) (hm : cf_X10_digitOf fu x0 F G = some q) : xn F ≤ xn q.2.1 := cn_X10_digitOf_0 fu x0 F G hm
theorem ck_X10_digitOf (l : Launch) (v : EV) (a : Nat → Nat) (b sz : Nat) (fu : Nat) (x0 : Int32) (F : PF) (G : PG) (r : Int32) (F1 : PF) (G1 : PG) (hm : cf_X10_digitOf fu x0 F G = some (r, F1, G1)) : cMI l yX10_digitOf cX10_digitOf 1 (some .int) 1 20 v a b sz [.int x0] F G r F1 G1 := cMI.of (ty := .int) (by decide) rfl (Nat.le_of_ble_eq_true rfl) (fun p e R s m args below meth c Q A H locs ls C hw hl hret => cw_X10_digitOf_0 fu (res := (r, F1, G1)) C hret x0 F G hm hw hl)
def cb_X10_behindParts_33 (fu : Nat) (x2 : Int32) (F : PF) (G : PG) : PR := some (x2, F, G)
def cb_X10_behindParts_27 (fu : Nat) (ag_2 : Int32 → PF → PG → PR) (x2 : Int32) (F : PF) (G : PG) : PR := ag_2 (x2 + 1) F G
def cb_X10_behindParts_24 (fu : Nat) (ag_2 : Int32 → PF → PG → PR) (x2 : Int32) (z0 : Int32) (F : PF) (G : PG) : PR := if z0 = (0 : Int32) then cb_X10_behindParts_33 fu x2 F G else cb_X10_behindParts_27 fu ag_2 x2 F G
def cb_X10_behindParts_21 (fu : Nat) (ag_2 : Int32 → PF → PG → PR) (x2 : Int32) (z0 : Int32) (F : PF) (G : PG) : PR := (cf_X10_isPart fu z0 F G).bind (fun q => cb_X10_behindParts_24 fu ag_2 x2 q.1 q.2.1 q.2.2)
def cb_X10_behindParts_13 (fu : Nat) (ag_2 : Int32 → PF → PG → PR) (x2 : Int32) (F : PF) (G : PG) : PR := (cf_X9_at fu x2 F G).bind (fun q => cb_X10_behindParts_21 fu ag_2 x2 q.1 q.2.1 q.2.2)
def cb_X10_behindParts_2 (fu : Nat) (ag_2 : Int32 → PF → PG → PR) (x2 : Int32) (F : PF) (G : PG) : PR := if (F 88) ≤ x2 then cb_X10_behindParts_33 fu x2 F G else cb_X10_behindParts_13 fu ag_2 x2 F G
def cl_X10_behindParts_2 (fu : Nat) : Nat → Int32 → PF → PG → PR
  | 0 => fun _ _ _ => none
  | n + 1 => fun x2 F G => cb_X10_behindParts_2 fu (cl_X10_behindParts_2 fu n) x2 F G
def cb_X10_behindParts_0 (fu : Nat) (x1 : Int32) (F : PF) (G : PG) : PR := cl_X10_behindParts_2 fu fu x1 F G
def cf_X10_behindParts (fu : Nat) (x1 : Int32) (F : PF) (G : PG) : PR := cb_X10_behindParts_0 fu x1 F G
theorem cn_X10_behindParts_33 (fu : Nat) {res : Int32 × PF × PG} (x2 : Int32) (F : PF) (G : PG) (hm : cb_X10_behindParts_33 fu x2 F G = some res) : xn F ≤ xn res.2.1 := by
  unfold cb_X10_behindParts_33 at hm
  obtain rfl := Option.some.inj hm
  exact Nat.le_refl _
theorem cw_X10_behindParts_33 (fu : Nat) {res : Int32 × PF × PG} (C : cMC p R s m args c A v RX10 cX10_behindParts 3 2 40 (xn res.2.1 - xn K0)) (hret : ∀ (b1 : Nat) (H1 : Heap) (locs1 : List Loc) (ls1 : Array Slot) (pc : Nat), cMW s A v a b1 K0 res.2.1 res.2.2 H1 locs1 → narrow .int (.int res.1) = .int res.1 → decode cX10_behindParts pc = .ok (.ireturn, 1) → W p l e R s m args below meth c H1 locs1 (xn res.2.1 - xn K0) (2 * (xn res.2.1 - xn K0)) Q (F0 m pc ls1 [.int res.1])) (x2 : Int32) (F : PF) (G : PG) (hm : cb_X10_behindParts_33 fu x2 F G = some res) {b : Nat} {H : Heap} {locs : List Loc} (hw : cMW s A v a b K0 F G H locs) {ls : Array Slot} (hl : lv_has ls 3 [(2, .int x2)]) : W p l e R s m args below meth c H locs (xn F - xn K0) (2 * (xn F - xn K0)) Q (F0 m 33 ls []) := by
  have hx := C.1
  have hb := C.2.1
  unfold cb_X10_behindParts_33 at hm
  refine lv_iload_n hx hb dX10_behindParts_33 rfl (lv_at hl 0 rfl) ?_
  obtain rfl := Option.some.inj hm
  exact hret _ _ _ _ _ hw rfl dX10_behindParts_34
theorem cn_X10_behindParts_27 (fu : Nat) {res : Int32 × PF × PG} (ag_2 : Int32 → PF → PG → PR) (hagn_2 : ∀ (x2 : Int32) (F : PF) (G : PG), ag_2 x2 F G = some res → xn F ≤ xn res.2.1) (x2 : Int32) (F : PF) (G : PG) (hm : cb_X10_behindParts_27 fu ag_2 x2 F G = some res) : xn F ≤ xn res.2.1 := by
  unfold cb_X10_behindParts_27 at hm
  exact (hagn_2 (x2 + 1) F G hm)
theorem cw_X10_behindParts_27 (fu : Nat) {res : Int32 × PF × PG} (C : cMC p R s m args c A v RX10 cX10_behindParts 3 2 40 (xn res.2.1 - xn K0)) (hret : ∀ (b1 : Nat) (H1 : Heap) (locs1 : List Loc) (ls1 : Array Slot) (pc : Nat), cMW s A v a b1 K0 res.2.1 res.2.2 H1 locs1 → narrow .int (.int res.1) = .int res.1 → decode cX10_behindParts pc = .ok (.ireturn, 1) → W p l e R s m args below meth c H1 locs1 (xn res.2.1 - xn K0) (2 * (xn res.2.1 - xn K0)) Q (F0 m pc ls1 [.int res.1])) (ag_2 : Int32 → PF → PG → PR) (hag_2 : ∀ (x2 : Int32) (F : PF) (G : PG), ag_2 x2 F G = some res → ∀ (b : Nat) (H : Heap) (locs : List Loc) (ls : Array Slot), cMW s A v a b K0 F G H locs → lv_has ls 3 [(0, .ref (a 210)), (2, .int x2)] → W p l e R s m args below meth c H locs (xn F - xn K0) (2 * (xn F - xn K0)) Q (F0 m 2 ls [])) (hagn_2 : ∀ (x2 : Int32) (F : PF) (G : PG), ag_2 x2 F G = some res → xn F ≤ xn res.2.1) (x2 : Int32) (F : PF) (G : PG) (hm : cb_X10_behindParts_27 fu ag_2 x2 F G = some res) {b : Nat} {H : Heap} {locs : List Loc} (hw : cMW s A v a b K0 F G H locs) {ls : Array Slot} (hl : lv_has ls 3 [(0, .ref (a 210)), (2, .int x2)]) : W p l e R s m args below meth c H locs (xn F - xn K0) (2 * (xn F - xn K0)) Q (F0 m 27 ls []) := by
  have hx := C.1
  have hb := C.2.1
  unfold cb_X10_behindParts_27 at hm
  refine lv_iinc (v := (x2 + 1)) (lv' := [(2, .int (x2 + 1)), (0, .ref (a 210))]) hx hb dX10_behindParts_27 hl (k := 1) rfl (by rfl) (by decide) rfl (fun ls hl => ?_)
  refine lv_goto (tgt := 2) hx hb dX10_behindParts_30 (by decide) ?_
  exact hag_2 (x2 + 1) F G hm _ _ _ _ hw (lv_sub hl [1, 0] rfl)
theorem cn_X10_behindParts_24 (fu : Nat) {res : Int32 × PF × PG} (ag_2 : Int32 → PF → PG → PR) (hagn_2 : ∀ (x2 : Int32) (F : PF) (G : PG), ag_2 x2 F G = some res → xn F ≤ xn res.2.1) (x2 : Int32) (z0 : Int32) (F : PF) (G : PG) (hm : cb_X10_behindParts_24 fu ag_2 x2 z0 F G = some res) : xn F ≤ xn res.2.1 := by
  unfold cb_X10_behindParts_24 at hm
  by_cases c_1 : z0 = (0 : Int32)
  · have hm := (if_pos c_1).symm.trans hm
    exact (cn_X10_behindParts_33 fu x2 F G hm)
  · have hm := (if_neg c_1).symm.trans hm
    exact (cn_X10_behindParts_27 fu ag_2 hagn_2 x2 F G hm)
theorem cw_X10_behindParts_24 (fu : Nat) {res : Int32 × PF × PG} (C : cMC p R s m args c A v RX10 cX10_behindParts 3 2 40 (xn res.2.1 - xn K0)) (hret : ∀ (b1 : Nat) (H1 : Heap) (locs1 : List Loc) (ls1 : Array Slot) (pc : Nat), cMW s A v a b1 K0 res.2.1 res.2.2 H1 locs1 → narrow .int (.int res.1) = .int res.1 → decode cX10_behindParts pc = .ok (.ireturn, 1) → W p l e R s m args below meth c H1 locs1 (xn res.2.1 - xn K0) (2 * (xn res.2.1 - xn K0)) Q (F0 m pc ls1 [.int res.1])) (ag_2 : Int32 → PF → PG → PR) (hag_2 : ∀ (x2 : Int32) (F : PF) (G : PG), ag_2 x2 F G = some res → ∀ (b : Nat) (H : Heap) (locs : List Loc) (ls : Array Slot), cMW s A v a b K0 F G H locs → lv_has ls 3 [(0, .ref (a 210)), (2, .int x2)] → W p l e R s m args below meth c H locs (xn F - xn K0) (2 * (xn F - xn K0)) Q (F0 m 2 ls [])) (hagn_2 : ∀ (x2 : Int32) (F : PF) (G : PG), ag_2 x2 F G = some res → xn F ≤ xn res.2.1) (x2 : Int32) (z0 : Int32) (F : PF) (G : PG) (hm : cb_X10_behindParts_24 fu ag_2 x2 z0 F G = some res) {b : Nat} {H : Heap} {locs : List Loc} (hw : cMW s A v a b K0 F G H locs) {ls : Array Slot} (hl : lv_has ls 3 [(0, .ref (a 210)), (2, .int x2)]) : W p l e R s m args below meth c H locs (xn F - xn K0) (2 * (xn F - xn K0)) Q (F0 m 24 ls [.int z0]) := by
  have hx := C.1
  have hb := C.2.1
  unfold cb_X10_behindParts_24 at hm
  refine lv_if_eq (tgt := 33) hx hb dX10_behindParts_24 (by decide) (fun c_1 => ?_) (fun c_1 => ?_)
  · have hm := (if_pos c_1).symm.trans hm
    exact cw_X10_behindParts_33 fu C hret x2 F G hm hw (lv_sub hl [1] rfl)
  · have hm := (if_neg c_1).symm.trans hm
    exact cw_X10_behindParts_27 fu C hret ag_2 hag_2 hagn_2 x2 F G hm hw (lv_sub hl [0, 1] rfl)
theorem cn_X10_behindParts_21 (fu : Nat) {res : Int32 × PF × PG} (ag_2 : Int32 → PF → PG → PR) (hagn_2 : ∀ (x2 : Int32) (F : PF) (G : PG), ag_2 x2 F G = some res → xn F ≤ xn res.2.1) (x2 : Int32) (z0 : Int32) (F : PF) (G : PG) (hm : cb_X10_behindParts_21 fu ag_2 x2 z0 F G = some res) : xn F ≤ xn res.2.1 := by
  unfold cb_X10_behindParts_21 at hm
  obtain ⟨⟨r1, F1, G1⟩, hc, hm⟩ := bind_elim hm
  exact Nat.le_trans (cn_X10_isPart fu z0 F G _ hc) (cn_X10_behindParts_24 fu ag_2 hagn_2 x2 r1 F1 G1 hm)
theorem cw_X10_behindParts_21 (fu : Nat) {res : Int32 × PF × PG} (C : cMC p R s m args c A v RX10 cX10_behindParts 3 2 40 (xn res.2.1 - xn K0)) (hret : ∀ (b1 : Nat) (H1 : Heap) (locs1 : List Loc) (ls1 : Array Slot) (pc : Nat), cMW s A v a b1 K0 res.2.1 res.2.2 H1 locs1 → narrow .int (.int res.1) = .int res.1 → decode cX10_behindParts pc = .ok (.ireturn, 1) → W p l e R s m args below meth c H1 locs1 (xn res.2.1 - xn K0) (2 * (xn res.2.1 - xn K0)) Q (F0 m pc ls1 [.int res.1])) (ag_2 : Int32 → PF → PG → PR) (hag_2 : ∀ (x2 : Int32) (F : PF) (G : PG), ag_2 x2 F G = some res → ∀ (b : Nat) (H : Heap) (locs : List Loc) (ls : Array Slot), cMW s A v a b K0 F G H locs → lv_has ls 3 [(0, .ref (a 210)), (2, .int x2)] → W p l e R s m args below meth c H locs (xn F - xn K0) (2 * (xn F - xn K0)) Q (F0 m 2 ls [])) (hagn_2 : ∀ (x2 : Int32) (F : PF) (G : PG), ag_2 x2 F G = some res → xn F ≤ xn res.2.1) (x2 : Int32) (z0 : Int32) (F : PF) (G : PG) (hm : cb_X10_behindParts_21 fu ag_2 x2 z0 F G = some res) {b : Nat} {H : Heap} {locs : List Loc} (hw : cMW s A v a b K0 F G H locs) {ls : Array Slot} (hl : lv_has ls 3 [(0, .ref (a 210)), (2, .int x2)]) : W p l e R s m args below meth c H locs (xn F - xn K0) (2 * (xn F - xn K0)) Q (F0 m 21 ls [.int z0]) := by
  have hx := C.1
  have hb := C.2.1
  unfold cb_X10_behindParts_21 at hm
  obtain ⟨⟨r1, F1, G1⟩, hc, hm⟩ := bind_elim hm
  refine ccallIS (n := 1) (As := [.int z0]) (rest := []) C hw (ck_X10_isPart l v a _ _ fu z0 F G r1 F1 G1 hc) (cn_X10_isPart fu z0 F G _ hc) (Nat.sub_le_sub_right (cn_X10_behindParts_24 fu ag_2 hagn_2 x2 r1 F1 G1 hm) _) cm_89 cm_90 cm_46 cm_91 (by decide +kernel) rfl (by omega) (by omega) hl.1 rfl (Nat.le_of_ble_eq_true rfl) dX10_behindParts_21 (fun b H locs hw => ?_)
  exact cw_X10_behindParts_24 fu C hret ag_2 hag_2 hagn_2 x2 r1 F1 G1 hm hw (lv_sub hl [0, 1] rfl)
theorem cn_X10_behindParts_13 (fu : Nat) {res : Int32 × PF × PG} (ag_2 : Int32 → PF → PG → PR) (hagn_2 : ∀ (x2 : Int32) (F : PF) (G : PG), ag_2 x2 F G = some res → xn F ≤ xn res.2.1) (x2 : Int32) (F : PF) (G : PG) (hm : cb_X10_behindParts_13 fu ag_2 x2 F G = some res) : xn F ≤ xn res.2.1 := by
  unfold cb_X10_behindParts_13 at hm
  obtain ⟨⟨r1, F1, G1⟩, hc, hm⟩ := bind_elim hm
  exact Nat.le_trans (cn_X9_at fu x2 F G _ hc) (cn_X10_behindParts_21 fu ag_2 hagn_2 x2 r1 F1 G1 hm)
theorem cw_X10_behindParts_13 (fu : Nat) {res : Int32 × PF × PG} (C : cMC p R s m args c A v RX10 cX10_behindParts 3 2 40 (xn res.2.1 - xn K0)) (hret : ∀ (b1 : Nat) (H1 : Heap) (locs1 : List Loc) (ls1 : Array Slot) (pc : Nat), cMW s A v a b1 K0 res.2.1 res.2.2 H1 locs1 → narrow .int (.int res.1) = .int res.1 → decode cX10_behindParts pc = .ok (.ireturn, 1) → W p l e R s m args below meth c H1 locs1 (xn res.2.1 - xn K0) (2 * (xn res.2.1 - xn K0)) Q (F0 m pc ls1 [.int res.1])) (ag_2 : Int32 → PF → PG → PR) (hag_2 : ∀ (x2 : Int32) (F : PF) (G : PG), ag_2 x2 F G = some res → ∀ (b : Nat) (H : Heap) (locs : List Loc) (ls : Array Slot), cMW s A v a b K0 F G H locs → lv_has ls 3 [(0, .ref (a 210)), (2, .int x2)] → W p l e R s m args below meth c H locs (xn F - xn K0) (2 * (xn F - xn K0)) Q (F0 m 2 ls [])) (hagn_2 : ∀ (x2 : Int32) (F : PF) (G : PG), ag_2 x2 F G = some res → xn F ≤ xn res.2.1) (x2 : Int32) (F : PF) (G : PG) (hm : cb_X10_behindParts_13 fu ag_2 x2 F G = some res) {b : Nat} {H : Heap} {locs : List Loc} (hw : cMW s A v a b K0 F G H locs) {ls : Array Slot} (hl : lv_has ls 3 [(0, .ref (a 210)), (2, .int x2)]) : W p l e R s m args below meth c H locs (xn F - xn K0) (2 * (xn F - xn K0)) Q (F0 m 13 ls []) := by
  have hx := C.1
  have hb := C.2.1
  unfold cb_X10_behindParts_13 at hm
  refine lv_aload_n hx hb dX10_behindParts_13 rfl (lv_at hl 0 rfl) ?_
  refine cg_X10_33 C hw dX10_behindParts_14 ?_
  refine lv_iload_n hx hb dX10_behindParts_17 rfl (lv_at hl 1 rfl) ?_
  obtain ⟨⟨r1, F1, G1⟩, hc, hm⟩ := bind_elim hm
  refine ccallI (n := 1) (As := [.int x2]) (rest := []) C hw (ck_X9_at l v a _ _ fu x2 F G r1 F1 G1 hc) (cn_X9_at fu x2 F G _ hc) (Nat.sub_le_sub_right (cn_X10_behindParts_21 fu ag_2 hagn_2 x2 r1 F1 G1 hm) _) (crecv_X9 C hw) cm_61 cm_62 cm_63 cm_6 cm_64 (by decide +kernel) rfl (by omega) (by omega) hl.1 rfl (Nat.le_of_ble_eq_true rfl) dX10_behindParts_18 (fun b H locs hw => ?_)
  exact cw_X10_behindParts_21 fu C hret ag_2 hag_2 hagn_2 x2 r1 F1 G1 hm hw (lv_sub hl [0, 1] rfl)
theorem cn_X10_behindParts_2 (fu : Nat) {res : Int32 × PF × PG} (ag_2 : Int32 → PF → PG → PR) (hagn_2 : ∀ (x2 : Int32) (F : PF) (G : PG), ag_2 x2 F G = some res → xn F ≤ xn res.2.1) (x2 : Int32) (F : PF) (G : PG) (hm : cb_X10_behindParts_2 fu ag_2 x2 F G = some res) : xn F ≤ xn res.2.1 := by
  unfold cb_X10_behindParts_2 at hm
  by_cases c_1 : (F 88) ≤ x2
  · have hm := (if_pos c_1).symm.trans hm
    exact (cn_X10_behindParts_33 fu x2 F G hm)
  · have hm := (if_neg c_1).symm.trans hm
    exact (cn_X10_behindParts_13 fu ag_2 hagn_2 x2 F G hm)
theorem cw_X10_behindParts_2 (fu : Nat) {res : Int32 × PF × PG} (C : cMC p R s m args c A v RX10 cX10_behindParts 3 2 40 (xn res.2.1 - xn K0)) (hret : ∀ (b1 : Nat) (H1 : Heap) (locs1 : List Loc) (ls1 : Array Slot) (pc : Nat), cMW s A v a b1 K0 res.2.1 res.2.2 H1 locs1 → narrow .int (.int res.1) = .int res.1 → decode cX10_behindParts pc = .ok (.ireturn, 1) → W p l e R s m args below meth c H1 locs1 (xn res.2.1 - xn K0) (2 * (xn res.2.1 - xn K0)) Q (F0 m pc ls1 [.int res.1])) (ag_2 : Int32 → PF → PG → PR) (hag_2 : ∀ (x2 : Int32) (F : PF) (G : PG), ag_2 x2 F G = some res → ∀ (b : Nat) (H : Heap) (locs : List Loc) (ls : Array Slot), cMW s A v a b K0 F G H locs → lv_has ls 3 [(0, .ref (a 210)), (2, .int x2)] → W p l e R s m args below meth c H locs (xn F - xn K0) (2 * (xn F - xn K0)) Q (F0 m 2 ls [])) (hagn_2 : ∀ (x2 : Int32) (F : PF) (G : PG), ag_2 x2 F G = some res → xn F ≤ xn res.2.1) (x2 : Int32) (F : PF) (G : PG) (hm : cb_X10_behindParts_2 fu ag_2 x2 F G = some res) {b : Nat} {H : Heap} {locs : List Loc} (hw : cMW s A v a b K0 F G H locs) {ls : Array Slot} (hl : lv_has ls 3 [(0, .ref (a 210)), (2, .int x2)]) : W p l e R s m args below meth c H locs (xn F - xn K0) (2 * (xn F - xn K0)) Q (F0 m 2 ls []) := by
  have hx := C.1
  have hb := C.2.1
  unfold cb_X10_behindParts_2 at hm
  refine lv_iload_n hx hb dX10_behindParts_2 rfl (lv_at hl 1 rfl) ?_
  refine lv_aload_n hx hb dX10_behindParts_3 rfl (lv_at hl 0 rfl) ?_
  refine cg_X10_33 C hw dX10_behindParts_4 ?_
  refine cg_X10_50 C hw dX10_behindParts_7 ?_
  refine lv_icmp_ge (tgt := 33) hx hb dX10_behindParts_10 (by decide) (fun c_1 => ?_) (fun c_1 => ?_)
  · have hm := (if_pos c_1).symm.trans hm
    exact cw_X10_behindParts_33 fu C hret x2 F G hm hw (lv_sub hl [1] rfl)
  · have hm := (if_neg c_1).symm.trans hm
    exact cw_X10_behindParts_13 fu C hret ag_2 hag_2 hagn_2 x2 F G hm hw (lv_sub hl [0, 1] rfl)
theorem cnl_X10_behindParts_2 (fu : Nat) {res : Int32 × PF × PG} : ∀ (n : Nat) (x2 : Int32) (F : PF) (G : PG) (hm : cl_X10_behindParts_2 fu n x2 F G = some res), xn F ≤ xn res.2.1 := by
  intro n
  induction n with
  | zero =>
    intro x2 F G hm
    exact no_elim (show (none : PR) = some res from hm)
  | succ n ih =>
    intro x2 F G hm
    exact cn_X10_behindParts_2 fu (cl_X10_behindParts_2 fu n) (fun x2 F G hm => ih x2 F G hm) x2 F G hm
theorem cwl_X10_behindParts_2 (fu : Nat) {res : Int32 × PF × PG} (C : cMC p R s m args c A v RX10 cX10_behindParts 3 2 40 (xn res.2.1 - xn K0)) (hret : ∀ (b1 : Nat) (H1 : Heap) (locs1 : List Loc) (ls1 : Array Slot) (pc : Nat), cMW s A v a b1 K0 res.2.1 res.2.2 H1 locs1 → narrow .int (.int res.1) = .int res.1 → decode cX10_behindParts pc = .ok (.ireturn, 1) → W p l e R s m args below meth c H1 locs1 (xn res.2.1 - xn K0) (2 * (xn res.2.1 - xn K0)) Q (F0 m pc ls1 [.int res.1])) : ∀ (n : Nat) (x2 : Int32) (F : PF) (G : PG) (hm : cl_X10_behindParts_2 fu n x2 F G = some res) {b : Nat} {H : Heap} {locs : List Loc} (hw : cMW s A v a b K0 F G H locs) {ls : Array Slot} (hl : lv_has ls 3 [(0, .ref (a 210)), (2, .int x2)]), W p l e R s m args below meth c H locs (xn F - xn K0) (2 * (xn F - xn K0)) Q (F0 m 2 ls []) := by
  intro n
  induction n with
  | zero =>
    intro x2 F G hm
    exact no_elim (show (none : PR) = some res from hm)
  | succ n ih =>
    intro x2 F G hm b H locs hw ls hl
    exact cw_X10_behindParts_2 fu C hret (cl_X10_behindParts_2 fu n) (fun x2 F G hm b H locs ls hw hl => ih x2 F G hm hw hl) (fun x2 F G hm => cnl_X10_behindParts_2 fu n x2 F G hm) x2 F G hm hw hl
theorem cn_X10_behindParts_0 (fu : Nat) {res : Int32 × PF × PG} (x1 : Int32) (F : PF) (G : PG) (hm : cb_X10_behindParts_0 fu x1 F G = some res) : xn F ≤ xn res.2.1 := by
  unfold cb_X10_behindParts_0 at hm
  exact (cnl_X10_behindParts_2 fu fu x1 F G hm)
theorem cw_X10_behindParts_0 (fu : Nat) {res : Int32 × PF × PG} (C : cMC p R s m args c A v RX10 cX10_behindParts 3 2 40 (xn res.2.1 - xn K0)) (hret : ∀ (b1 : Nat) (H1 : Heap) (locs1 : List Loc) (ls1 : Array Slot) (pc : Nat), cMW s A v a b1 K0 res.2.1 res.2.2 H1 locs1 → narrow .int (.int res.1) = .int res.1 → decode cX10_behindParts pc = .ok (.ireturn, 1) → W p l e R s m args below meth c H1 locs1 (xn res.2.1 - xn K0) (2 * (xn res.2.1 - xn K0)) Q (F0 m pc ls1 [.int res.1])) (x1 : Int32) (F : PF) (G : PG) (hm : cb_X10_behindParts_0 fu x1 F G = some res) {b : Nat} {H : Heap} {locs : List Loc} (hw : cMW s A v a b K0 F G H locs) {ls : Array Slot} (hl : lv_has ls 3 [(0, .ref (a 210)), (1, .int x1)]) : W p l e R s m args below meth c H locs (xn F - xn K0) (2 * (xn F - xn K0)) Q (F0 m 0 ls []) := by
  have hx := C.1
  have hb := C.2.1
  unfold cb_X10_behindParts_0 at hm
  refine lv_iload_n hx hb dX10_behindParts_0 rfl (lv_at hl 1 rfl) ?_
  refine lv_istore_n (lv' := [(2, .int x1), (0, .ref (a 210)), (1, .int x1)]) hx hb dX10_behindParts_1 rfl hl (by decide) rfl (fun ls hl => ?_)
  exact cwl_X10_behindParts_2 fu C hret fu x1 F G hm hw (lv_sub hl [1, 0] rfl)
theorem cn_X10_behindParts (fu : Nat) (x1 : Int32) (F : PF) (G : PG) (q : Int32 × PF × PG) (hm : cf_X10_behindParts fu x1 F G = some q) : xn F ≤ xn q.2.1 := cn_X10_behindParts_0 fu x1 F G hm
theorem ck_X10_behindParts (l : Launch) (v : EV) (a : Nat → Nat) (b sz : Nat) (fu : Nat) (x1 : Int32) (F : PF) (G : PG) (r : Int32) (F1 : PF) (G1 : PG) (hm : cf_X10_behindParts fu x1 F G = some (r, F1, G1)) : cMI l yX10_behindParts cX10_behindParts 3 (some .int) 2 40 v a b sz [.ref (a 210), .int x1] F G r F1 G1 := cMI.of (ty := .int) (by decide) rfl (Nat.le_of_ble_eq_true rfl) (fun p e R s m args below meth c Q A H locs ls C hw hl hret => cw_X10_behindParts_0 fu (res := (r, F1, G1)) C hret x1 F G hm hw hl)
def cb_X10_behindNumber_94 (fu : Nat) (F : PF) (G : PG) : PR := some ((-1), F, G)
def cb_X10_behindNumber_170 (fu : Nat) (x2 : Int32) (F : PF) (G : PG) : PR := some (x2, F, G)
def cb_X10_behindNumber_161 (fu : Nat) (x1 : Int32) (x2 : Int32) (x7 : Int64) (F : PF) (G : PG) : PR := (cf_X10_add fu 3 (x7.toInt32) x1 F G).bind (fun q => cb_X10_behindNumber_170 fu x2 q.2.1 q.2.2)
def cb_X10_behindNumber_159 (fu : Nat) (F : PF) (G : PG) : PR := some ((-1), F, G)
def cb_X10_behindNumber_150 (fu : Nat) (x1 : Int32) (x2 : Int32) (x7 : Int64) (F : PF) (G : PG) : PR := if (lg_cmp x7 (4294967295 : Int64)) ≤ (0 : Int32) then cb_X10_behindNumber_161 fu x1 x2 x7 F G else cb_X10_behindNumber_159 fu F G
def cb_X10_behindNumber_132 (fu : Nat) (ag_103 : Int32 → Int32 → Int32 → Int64 → Int32 → PF → PG → PR) (x1 : Int32) (x2 : Int32) (x5 : Int32) (x7 : Int64) (x9 : Int32) (x10 : Int32) (F : PF) (G : PG) : PR := ag_103 x1 x2 x5 ((x7 * (x5.toInt64)) + (x10.toInt64)) (x9 + 1) F G
def cb_X10_behindNumber_130 (fu : Nat) (F : PF) (G : PG) : PR := some ((-1), F, G)
def cb_X10_behindNumber_121 (fu : Nat) (ag_103 : Int32 → Int32 → Int32 → Int64 → Int32 → PF → PG → PR) (x1 : Int32) (x2 : Int32) (x5 : Int32) (x7 : Int64) (x9 : Int32) (z0 : Int32) (F : PF) (G : PG) : PR := if z0 < x5 then cb_X10_behindNumber_132 fu ag_103 x1 x2 x5 x7 x9 z0 F G else cb_X10_behindNumber_130 fu F G
def cb_X10_behindNumber_118 (fu : Nat) (ag_103 : Int32 → Int32 → Int32 → Int64 → Int32 → PF → PG → PR) (x1 : Int32) (x2 : Int32) (x5 : Int32) (x7 : Int64) (x9 : Int32) (z0 : Int32) (F : PF) (G : PG) : PR := (cf_X10_digitOf fu z0 F G).bind (fun q => cb_X10_behindNumber_121 fu ag_103 x1 x2 x5 x7 x9 q.1 q.2.1 q.2.2)
def cb_X10_behindNumber_109 (fu : Nat) (ag_103 : Int32 → Int32 → Int32 → Int64 → Int32 → PF → PG → PR) (x1 : Int32) (x2 : Int32) (x5 : Int32) (x7 : Int64) (x9 : Int32) (F : PF) (G : PG) : PR := (cf_X9_at fu x9 F G).bind (fun q => cb_X10_behindNumber_118 fu ag_103 x1 x2 x5 x7 x9 q.1 q.2.1 q.2.2)
def cb_X10_behindNumber_103 (fu : Nat) (ag_103 : Int32 → Int32 → Int32 → Int64 → Int32 → PF → PG → PR) (x1 : Int32) (x2 : Int32) (x5 : Int32) (x7 : Int64) (x9 : Int32) (F : PF) (G : PG) : PR := if x2 ≤ x9 then cb_X10_behindNumber_150 fu x1 x2 x7 F G else cb_X10_behindNumber_109 fu ag_103 x1 x2 x5 x7 x9 F G
def cl_X10_behindNumber_103 (fu : Nat) : Nat → Int32 → Int32 → Int32 → Int64 → Int32 → PF → PG → PR
  | 0 => fun _ _ _ _ _ _ _ => none
  | n + 1 => fun x1 x2 x5 x7 x9 F G => cb_X10_behindNumber_103 fu (cl_X10_behindNumber_103 fu n) x1 x2 x5 x7 x9 F G
def cb_X10_behindNumber_96 (fu : Nat) (x1 : Int32) (x2 : Int32) (x4 : Int32) (x5 : Int32) (F : PF) (G : PG) : PR := cl_X10_behindNumber_103 fu fu x1 x2 x5 (0 : Int64) x4 F G
def cb_X10_behindNumber_91 (fu : Nat) (x1 : Int32) (x2 : Int32) (x4 : Int32) (x5 : Int32) (z0 : Int32) (z1 : Int32) (F : PF) (G : PG) : PR := if z1 ≤ z0 then cb_X10_behindNumber_96 fu x1 x2 x4 x5 F G else cb_X10_behindNumber_94 fu F G
def cb_X10_behindNumber_89 (fu : Nat) (x1 : Int32) (x2 : Int32) (x4 : Int32) (x5 : Int32) (z0 : Int32) (F : PF) (G : PG) : PR := cb_X10_behindNumber_91 fu x1 x2 x4 x5 10 z0 F G
def cb_X10_behindNumber_84 (fu : Nat) (x1 : Int32) (x2 : Int32) (x4 : Int32) (x5 : Int32) (z0 : Int32) (F : PF) (G : PG) : PR := cb_X10_behindNumber_91 fu x1 x2 x4 x5 8 z0 F G
def cb_X10_behindNumber_78 (fu : Nat) (x1 : Int32) (x2 : Int32) (x3 : Int32) (x4 : Int32) (x5 : Int32) (x6 : Int32) (F : PF) (G : PG) : PR := if x3 = (0 : Int32) then cb_X10_behindNumber_89 fu x1 x2 x4 x5 x6 F G else cb_X10_behindNumber_84 fu x1 x2 x4 x5 x6 F G
def cb_X10_behindNumber_64 (fu : Nat) (x1 : Int32) (x2 : Int32) (x3 : Int32) (x4 : Int32) (z0 : Int32) (F : PF) (G : PG) : PR := if (x2 - x4) < (1 : Int32) then cb_X10_behindNumber_94 fu F G else cb_X10_behindNumber_78 fu x1 x2 x3 x4 z0 (x2 - x4) F G
def cb_X10_behindNumber_62 (fu : Nat) (x1 : Int32) (x2 : Int32) (x3 : Int32) (x4 : Int32) (F : PF) (G : PG) : PR := cb_X10_behindNumber_64 fu x1 x2 x3 x4 10 F G
def cb_X10_behindNumber_57 (fu : Nat) (x1 : Int32) (x2 : Int32) (x3 : Int32) (x4 : Int32) (F : PF) (G : PG) : PR := cb_X10_behindNumber_64 fu x1 x2 x3 x4 16 F G
def cb_X10_behindNumber_51 (fu : Nat) (x1 : Int32) (x2 : Int32) (x3 : Int32) (z0 : Int32) (F : PF) (G : PG) : PR := if x3 = (0 : Int32) then cb_X10_behindNumber_62 fu x1 x2 x3 z0 F G else cb_X10_behindNumber_57 fu x1 x2 x3 z0 F G
def cb_X10_behindNumber_50 (fu : Nat) (x1 : Int32) (x2 : Int32) (x3 : Int32) (F : PF) (G : PG) : PR := cb_X10_behindNumber_51 fu x1 x2 x3 x1 F G
def cb_X10_behindNumber_44 (fu : Nat) (x1 : Int32) (x2 : Int32) (x3 : Int32) (F : PF) (G : PG) : PR := cb_X10_behindNumber_51 fu x1 x2 x3 (x1 + (2 : Int32)) F G
def cb_X10_behindNumber_39 (fu : Nat) (x1 : Int32) (x2 : Int32) (z0 : Int32) (F : PF) (G : PG) : PR := if z0 = (0 : Int32) then cb_X10_behindNumber_50 fu x1 x2 z0 F G else cb_X10_behindNumber_44 fu x1 x2 z0 F G
def cb_X10_behindNumber_38 (fu : Nat) (x1 : Int32) (x2 : Int32) (F : PF) (G : PG) : PR := cb_X10_behindNumber_39 fu x1 x2 0 F G
def cb_X10_behindNumber_34 (fu : Nat) (x1 : Int32) (x2 : Int32) (F : PF) (G : PG) : PR := cb_X10_behindNumber_39 fu x1 x2 1 F G
def cb_X10_behindNumber_29 (fu : Nat) (x1 : Int32) (x2 : Int32) (z0 : Int32) (F : PF) (G : PG) : PR := if z0 = (120 : Int32) then cb_X10_behindNumber_34 fu x1 x2 F G else cb_X10_behindNumber_38 fu x1 x2 F G
def cb_X10_behindNumber_19 (fu : Nat) (x1 : Int32) (x2 : Int32) (F : PF) (G : PG) : PR := (cf_X9_at fu (x1 + (1 : Int32)) F G).bind (fun q => cb_X10_behindNumber_29 fu x1 x2 q.1 q.2.1 q.2.2)
def cb_X10_behindNumber_14 (fu : Nat) (x1 : Int32) (x2 : Int32) (z0 : Int32) (F : PF) (G : PG) : PR := if z0 = (48 : Int32) then cb_X10_behindNumber_19 fu x1 x2 F G else cb_X10_behindNumber_38 fu x1 x2 F G
def cb_X10_behindNumber_5 (fu : Nat) (x1 : Int32) (z0 : Int32) (F : PF) (G : PG) : PR := (cf_X9_at fu x1 F G).bind (fun q => cb_X10_behindNumber_14 fu x1 z0 q.1 q.2.1 q.2.2)
def cb_X10_behindNumber_0 (fu : Nat) (x1 : Int32) (F : PF) (G : PG) : PR := (cf_X10_behindParts fu x1 F G).bind (fun q => cb_X10_behindNumber_5 fu x1 q.1 q.2.1 q.2.2)
def cf_X10_behindNumber (fu : Nat) (x1 : Int32) (F : PF) (G : PG) : PR := cb_X10_behindNumber_0 fu x1 F G
theorem cn_X10_behindNumber_94 (fu : Nat) {res : Int32 × PF × PG} (F : PF) (G : PG) (hm : cb_X10_behindNumber_94 fu F G = some res) : xn F ≤ xn res.2.1 := by
  unfold cb_X10_behindNumber_94 at hm
  obtain rfl := Option.some.inj hm
  exact Nat.le_refl _
theorem cw_X10_behindNumber_94 (fu : Nat) {res : Int32 × PF × PG} (C : cMC p R s m args c A v RX10 cX10_behindNumber 11 3 62 (xn res.2.1 - xn K0)) (hret : ∀ (b1 : Nat) (H1 : Heap) (locs1 : List Loc) (ls1 : Array Slot) (pc : Nat), cMW s A v a b1 K0 res.2.1 res.2.2 H1 locs1 → narrow .int (.int res.1) = .int res.1 → decode cX10_behindNumber pc = .ok (.ireturn, 1) → W p l e R s m args below meth c H1 locs1 (xn res.2.1 - xn K0) (2 * (xn res.2.1 - xn K0)) Q (F0 m pc ls1 [.int res.1])) (F : PF) (G : PG) (hm : cb_X10_behindNumber_94 fu F G = some res) {b : Nat} {H : Heap} {locs : List Loc} (hw : cMW s A v a b K0 F G H locs) {ls : Array Slot} (hl : lv_has ls 11 []) : W p l e R s m args below meth c H locs (xn F - xn K0) (2 * (xn F - xn K0)) Q (F0 m 94 ls []) := by
  have hx := C.1
  have hb := C.2.1
  unfold cb_X10_behindNumber_94 at hm
  refine lv_iconst (v := (-1)) hx hb dX10_behindNumber_94 (by decide) ?_
  obtain rfl := Option.some.inj hm
  exact hret _ _ _ _ _ hw rfl dX10_behindNumber_95
theorem cn_X10_behindNumber_170 (fu : Nat) {res : Int32 × PF × PG} (x2 : Int32) (F : PF) (G : PG) (hm : cb_X10_behindNumber_170 fu x2 F G = some res) : xn F ≤ xn res.2.1 := by
  unfold cb_X10_behindNumber_170 at hm
  obtain rfl := Option.some.inj hm
  exact Nat.le_refl _
theorem cw_X10_behindNumber_170 (fu : Nat) {res : Int32 × PF × PG} (C : cMC p R s m args c A v RX10 cX10_behindNumber 11 3 62 (xn res.2.1 - xn K0)) (hret : ∀ (b1 : Nat) (H1 : Heap) (locs1 : List Loc) (ls1 : Array Slot) (pc : Nat), cMW s A v a b1 K0 res.2.1 res.2.2 H1 locs1 → narrow .int (.int res.1) = .int res.1 → decode cX10_behindNumber pc = .ok (.ireturn, 1) → W p l e R s m args below meth c H1 locs1 (xn res.2.1 - xn K0) (2 * (xn res.2.1 - xn K0)) Q (F0 m pc ls1 [.int res.1])) (x2 : Int32) (F : PF) (G : PG) (hm : cb_X10_behindNumber_170 fu x2 F G = some res) {b : Nat} {H : Heap} {locs : List Loc} (hw : cMW s A v a b K0 F G H locs) {ls : Array Slot} (hl : lv_has ls 11 [(2, .int x2)]) : W p l e R s m args below meth c H locs (xn F - xn K0) (2 * (xn F - xn K0)) Q (F0 m 170 ls []) := by
  have hx := C.1
  have hb := C.2.1
  unfold cb_X10_behindNumber_170 at hm
  refine lv_iload_n hx hb dX10_behindNumber_170 rfl (lv_at hl 0 rfl) ?_
  obtain rfl := Option.some.inj hm
  exact hret _ _ _ _ _ hw rfl dX10_behindNumber_171
theorem cn_X10_behindNumber_161 (fu : Nat) {res : Int32 × PF × PG} (x1 : Int32) (x2 : Int32) (x7 : Int64) (F : PF) (G : PG) (hm : cb_X10_behindNumber_161 fu x1 x2 x7 F G = some res) : xn F ≤ xn res.2.1 := by
  unfold cb_X10_behindNumber_161 at hm
  obtain ⟨⟨r1, F1, G1⟩, hc, hm⟩ := bind_elim hm
  exact Nat.le_trans (cn_X10_add fu 3 (x7.toInt32) x1 F G _ hc) (cn_X10_behindNumber_170 fu x2 F1 G1 hm)
theorem cw_X10_behindNumber_161 (fu : Nat) {res : Int32 × PF × PG} (C : cMC p R s m args c A v RX10 cX10_behindNumber 11 3 62 (xn res.2.1 - xn K0)) (hret : ∀ (b1 : Nat) (H1 : Heap) (locs1 : List Loc) (ls1 : Array Slot) (pc : Nat), cMW s A v a b1 K0 res.2.1 res.2.2 H1 locs1 → narrow .int (.int res.1) = .int res.1 → decode cX10_behindNumber pc = .ok (.ireturn, 1) → W p l e R s m args below meth c H1 locs1 (xn res.2.1 - xn K0) (2 * (xn res.2.1 - xn K0)) Q (F0 m pc ls1 [.int res.1])) (x1 : Int32) (x2 : Int32) (x7 : Int64) (F : PF) (G : PG) (hm : cb_X10_behindNumber_161 fu x1 x2 x7 F G = some res) {b : Nat} {H : Heap} {locs : List Loc} (hw : cMW s A v a b K0 F G H locs) {ls : Array Slot} (hl : lv_has ls 11 [(0, .ref (a 210)), (1, .int x1), (2, .int x2), (7, .long x7)]) : W p l e R s m args below meth c H locs (xn F - xn K0) (2 * (xn F - xn K0)) Q (F0 m 161 ls []) := by
  have hx := C.1
  have hb := C.2.1
  unfold cb_X10_behindNumber_161 at hm
  refine lv_aload_n hx hb dX10_behindNumber_161 rfl (lv_at hl 0 rfl) ?_
  refine lv_iconst (v := 3) hx hb dX10_behindNumber_162 (by decide) ?_
  refine lv_lload hx hb dX10_behindNumber_163 (lv_at hl 3 rfl) ?_
  refine lv_l2i hx hb dX10_behindNumber_165 rfl ?_
  refine lv_iload_n hx hb dX10_behindNumber_166 rfl (lv_at hl 1 rfl) ?_
  obtain ⟨⟨r1, F1, G1⟩, hc, hm⟩ := bind_elim hm
  refine ccallV (n := 3) (As := [.int 3, .int (x7.toInt32), .int x1]) (rest := []) C hw (ck_X10_add l v a _ _ fu 3 (x7.toInt32) x1 F G r1 F1 G1 hc) (cn_X10_add fu 3 (x7.toInt32) x1 F G _ hc) (Nat.sub_le_sub_right (cn_X10_behindNumber_170 fu x2 F1 G1 hm) _) (crecv_X10 C hw) cm_95 cm_96 cm_97 cm_46 cm_98 (by decide +kernel) rfl (by omega) (by omega) hl.1 rfl (Nat.le_of_ble_eq_true rfl) dX10_behindNumber_167 (fun b H locs hw => ?_)
  exact cw_X10_behindNumber_170 fu C hret x2 F1 G1 hm hw (lv_sub hl [2] rfl)
theorem cn_X10_behindNumber_159 (fu : Nat) {res : Int32 × PF × PG} (F : PF) (G : PG) (hm : cb_X10_behindNumber_159 fu F G = some res) : xn F ≤ xn res.2.1 := by
  unfold cb_X10_behindNumber_159 at hm
  obtain rfl := Option.some.inj hm
  exact Nat.le_refl _
theorem cw_X10_behindNumber_159 (fu : Nat) {res : Int32 × PF × PG} (C : cMC p R s m args c A v RX10 cX10_behindNumber 11 3 62 (xn res.2.1 - xn K0)) (hret : ∀ (b1 : Nat) (H1 : Heap) (locs1 : List Loc) (ls1 : Array Slot) (pc : Nat), cMW s A v a b1 K0 res.2.1 res.2.2 H1 locs1 → narrow .int (.int res.1) = .int res.1 → decode cX10_behindNumber pc = .ok (.ireturn, 1) → W p l e R s m args below meth c H1 locs1 (xn res.2.1 - xn K0) (2 * (xn res.2.1 - xn K0)) Q (F0 m pc ls1 [.int res.1])) (F : PF) (G : PG) (hm : cb_X10_behindNumber_159 fu F G = some res) {b : Nat} {H : Heap} {locs : List Loc} (hw : cMW s A v a b K0 F G H locs) {ls : Array Slot} (hl : lv_has ls 11 []) : W p l e R s m args below meth c H locs (xn F - xn K0) (2 * (xn F - xn K0)) Q (F0 m 159 ls []) := by
  have hx := C.1
  have hb := C.2.1
  unfold cb_X10_behindNumber_159 at hm
  refine lv_iconst (v := (-1)) hx hb dX10_behindNumber_159 (by decide) ?_
  obtain rfl := Option.some.inj hm
  exact hret _ _ _ _ _ hw rfl dX10_behindNumber_160
theorem cn_X10_behindNumber_150 (fu : Nat) {res : Int32 × PF × PG} (x1 : Int32) (x2 : Int32) (x7 : Int64) (F : PF) (G : PG) (hm : cb_X10_behindNumber_150 fu x1 x2 x7 F G = some res) : xn F ≤ xn res.2.1 := by
  unfold cb_X10_behindNumber_150 at hm
  by_cases c_1 : (lg_cmp x7 (4294967295 : Int64)) ≤ (0 : Int32)
  · have hm := (if_pos c_1).symm.trans hm
    exact (cn_X10_behindNumber_161 fu x1 x2 x7 F G hm)
  · have hm := (if_neg c_1).symm.trans hm
    exact (cn_X10_behindNumber_159 fu F G hm)
theorem cw_X10_behindNumber_150 (fu : Nat) {res : Int32 × PF × PG} (C : cMC p R s m args c A v RX10 cX10_behindNumber 11 3 62 (xn res.2.1 - xn K0)) (hret : ∀ (b1 : Nat) (H1 : Heap) (locs1 : List Loc) (ls1 : Array Slot) (pc : Nat), cMW s A v a b1 K0 res.2.1 res.2.2 H1 locs1 → narrow .int (.int res.1) = .int res.1 → decode cX10_behindNumber pc = .ok (.ireturn, 1) → W p l e R s m args below meth c H1 locs1 (xn res.2.1 - xn K0) (2 * (xn res.2.1 - xn K0)) Q (F0 m pc ls1 [.int res.1])) (x1 : Int32) (x2 : Int32) (x7 : Int64) (F : PF) (G : PG) (hm : cb_X10_behindNumber_150 fu x1 x2 x7 F G = some res) {b : Nat} {H : Heap} {locs : List Loc} (hw : cMW s A v a b K0 F G H locs) {ls : Array Slot} (hl : lv_has ls 11 [(0, .ref (a 210)), (1, .int x1), (2, .int x2), (7, .long x7)]) : W p l e R s m args below meth c H locs (xn F - xn K0) (2 * (xn F - xn K0)) Q (F0 m 150 ls []) := by
  have hx := C.1
  have hb := C.2.1
  unfold cb_X10_behindNumber_150 at hm
  refine lv_lload hx hb dX10_behindNumber_150 (lv_at hl 3 rfl) ?_
  refine lv_ldc2 (v := 4294967295) hx hb C.2.2.2.1 (C.2.2.2.2.1 _ cm_84) dX10_behindNumber_152 ?_
  refine W.lcmp hx hb dX10_behindNumber_155 ?_
  refine lv_if_le (tgt := 161) hx hb dX10_behindNumber_156 (by decide) (fun c_1 => ?_) (fun c_1 => ?_)
  · have hm := (if_pos c_1).symm.trans hm
    exact cw_X10_behindNumber_161 fu C hret x1 x2 x7 F G hm hw (lv_sub hl [0, 1, 2, 3] rfl)
  · have hm := (if_neg c_1).symm.trans hm
    exact cw_X10_behindNumber_159 fu C hret F G hm hw (lv_sub hl [] rfl)
theorem cn_X10_behindNumber_132 (fu : Nat) {res : Int32 × PF × PG} (ag_103 : Int32 → Int32 → Int32 → Int64 → Int32 → PF → PG → PR) (hagn_103 : ∀ (x1 : Int32) (x2 : Int32) (x5 : Int32) (x7 : Int64) (x9 : Int32) (F : PF) (G : PG), ag_103 x1 x2 x5 x7 x9 F G = some res → xn F ≤ xn res.2.1) (x1 : Int32) (x2 : Int32) (x5 : Int32) (x7 : Int64) (x9 : Int32) (x10 : Int32) (F : PF) (G : PG) (hm : cb_X10_behindNumber_132 fu ag_103 x1 x2 x5 x7 x9 x10 F G = some res) : xn F ≤ xn res.2.1 := by
  unfold cb_X10_behindNumber_132 at hm
  exact (hagn_103 x1 x2 x5 ((x7 * (x5.toInt64)) + (x10.toInt64)) (x9 + 1) F G hm)
theorem cw_X10_behindNumber_132 (fu : Nat) {res : Int32 × PF × PG} (C : cMC p R s m args c A v RX10 cX10_behindNumber 11 3 62 (xn res.2.1 - xn K0)) (hret : ∀ (b1 : Nat) (H1 : Heap) (locs1 : List Loc) (ls1 : Array Slot) (pc : Nat), cMW s A v a b1 K0 res.2.1 res.2.2 H1 locs1 → narrow .int (.int res.1) = .int res.1 → decode cX10_behindNumber pc = .ok (.ireturn, 1) → W p l e R s m args below meth c H1 locs1 (xn res.2.1 - xn K0) (2 * (xn res.2.1 - xn K0)) Q (F0 m pc ls1 [.int res.1])) (ag_103 : Int32 → Int32 → Int32 → Int64 → Int32 → PF → PG → PR) (hag_103 : ∀ (x1 : Int32) (x2 : Int32) (x5 : Int32) (x7 : Int64) (x9 : Int32) (F : PF) (G : PG), ag_103 x1 x2 x5 x7 x9 F G = some res → ∀ (b : Nat) (H : Heap) (locs : List Loc) (ls : Array Slot), cMW s A v a b K0 F G H locs → lv_has ls 11 [(0, .ref (a 210)), (1, .int x1), (2, .int x2), (5, .int x5), (7, .long x7), (9, .int x9)] → W p l e R s m args below meth c H locs (xn F - xn K0) (2 * (xn F - xn K0)) Q (F0 m 103 ls [])) (hagn_103 : ∀ (x1 : Int32) (x2 : Int32) (x5 : Int32) (x7 : Int64) (x9 : Int32) (F : PF) (G : PG), ag_103 x1 x2 x5 x7 x9 F G = some res → xn F ≤ xn res.2.1) (x1 : Int32) (x2 : Int32) (x5 : Int32) (x7 : Int64) (x9 : Int32) (x10 : Int32) (F : PF) (G : PG) (hm : cb_X10_behindNumber_132 fu ag_103 x1 x2 x5 x7 x9 x10 F G = some res) {b : Nat} {H : Heap} {locs : List Loc} (hw : cMW s A v a b K0 F G H locs) {ls : Array Slot} (hl : lv_has ls 11 [(0, .ref (a 210)), (1, .int x1), (2, .int x2), (5, .int x5), (7, .long x7), (9, .int x9), (10, .int x10)]) : W p l e R s m args below meth c H locs (xn F - xn K0) (2 * (xn F - xn K0)) Q (F0 m 132 ls []) := by
  have hx := C.1
  have hb := C.2.1
  unfold cb_X10_behindNumber_132 at hm
  refine lv_lload hx hb dX10_behindNumber_132 (lv_at hl 4 rfl) ?_
  refine lv_iload hx hb dX10_behindNumber_134 (lv_at hl 3 rfl) ?_
  refine lv_i2l hx hb dX10_behindNumber_136 rfl ?_
  refine lv_lmul hx hb dX10_behindNumber_137 ?_
  refine lv_iload hx hb dX10_behindNumber_138 (lv_at hl 6 rfl) ?_
  refine lv_i2l hx hb dX10_behindNumber_140 rfl ?_
  refine lv_ladd hx hb dX10_behindNumber_141 ?_
  refine lv_lstore (lv' := [(7, .long ((x7 * (x5.toInt64)) + (x10.toInt64))), (0, .ref (a 210)), (1, .int x1), (2, .int x2), (5, .int x5), (9, .int x9), (10, .int x10)]) hx hb dX10_behindNumber_142 hl (by decide) rfl (fun ls hl => ?_)
  refine lv_iinc (v := (x9 + 1)) (lv' := [(9, .int (x9 + 1)), (7, .long ((x7 * (x5.toInt64)) + (x10.toInt64))), (0, .ref (a 210)), (1, .int x1), (2, .int x2), (5, .int x5), (10, .int x10)]) hx hb dX10_behindNumber_144 hl (k := 5) rfl (by rfl) (by decide) rfl (fun ls hl => ?_)
  refine lv_goto (tgt := 103) hx hb dX10_behindNumber_147 (by decide) ?_
  exact hag_103 x1 x2 x5 ((x7 * (x5.toInt64)) + (x10.toInt64)) (x9 + 1) F G hm _ _ _ _ hw (lv_sub hl [2, 3, 4, 5, 1, 0] rfl)
theorem cn_X10_behindNumber_130 (fu : Nat) {res : Int32 × PF × PG} (F : PF) (G : PG) (hm : cb_X10_behindNumber_130 fu F G = some res) : xn F ≤ xn res.2.1 := by
  unfold cb_X10_behindNumber_130 at hm
  obtain rfl := Option.some.inj hm
  exact Nat.le_refl _
theorem cw_X10_behindNumber_130 (fu : Nat) {res : Int32 × PF × PG} (C : cMC p R s m args c A v RX10 cX10_behindNumber 11 3 62 (xn res.2.1 - xn K0)) (hret : ∀ (b1 : Nat) (H1 : Heap) (locs1 : List Loc) (ls1 : Array Slot) (pc : Nat), cMW s A v a b1 K0 res.2.1 res.2.2 H1 locs1 → narrow .int (.int res.1) = .int res.1 → decode cX10_behindNumber pc = .ok (.ireturn, 1) → W p l e R s m args below meth c H1 locs1 (xn res.2.1 - xn K0) (2 * (xn res.2.1 - xn K0)) Q (F0 m pc ls1 [.int res.1])) (F : PF) (G : PG) (hm : cb_X10_behindNumber_130 fu F G = some res) {b : Nat} {H : Heap} {locs : List Loc} (hw : cMW s A v a b K0 F G H locs) {ls : Array Slot} (hl : lv_has ls 11 []) : W p l e R s m args below meth c H locs (xn F - xn K0) (2 * (xn F - xn K0)) Q (F0 m 130 ls []) := by
  have hx := C.1
  have hb := C.2.1
  unfold cb_X10_behindNumber_130 at hm
  refine lv_iconst (v := (-1)) hx hb dX10_behindNumber_130 (by decide) ?_
  obtain rfl := Option.some.inj hm
  exact hret _ _ _ _ _ hw rfl dX10_behindNumber_131
theorem cn_X10_behindNumber_121 (fu : Nat) {res : Int32 × PF × PG} (ag_103 : Int32 → Int32 → Int32 → Int64 → Int32 → PF → PG → PR) (hagn_103 : ∀ (x1 : Int32) (x2 : Int32) (x5 : Int32) (x7 : Int64) (x9 : Int32) (F : PF) (G : PG), ag_103 x1 x2 x5 x7 x9 F G = some res → xn F ≤ xn res.2.1) (x1 : Int32) (x2 : Int32) (x5 : Int32) (x7 : Int64) (x9 : Int32) (z0 : Int32) (F : PF) (G : PG) (hm : cb_X10_behindNumber_121 fu ag_103 x1 x2 x5 x7 x9 z0 F G = some res) : xn F ≤ xn res.2.1 := by
  unfold cb_X10_behindNumber_121 at hm
  by_cases c_1 : z0 < x5
  · have hm := (if_pos c_1).symm.trans hm
    exact (cn_X10_behindNumber_132 fu ag_103 hagn_103 x1 x2 x5 x7 x9 z0 F G hm)
  · have hm := (if_neg c_1).symm.trans hm
    exact (cn_X10_behindNumber_130 fu F G hm)
theorem cw_X10_behindNumber_121 (fu : Nat) {res : Int32 × PF × PG} (C : cMC p R s m args c A v RX10 cX10_behindNumber 11 3 62 (xn res.2.1 - xn K0)) (hret : ∀ (b1 : Nat) (H1 : Heap) (locs1 : List Loc) (ls1 : Array Slot) (pc : Nat), cMW s A v a b1 K0 res.2.1 res.2.2 H1 locs1 → narrow .int (.int res.1) = .int res.1 → decode cX10_behindNumber pc = .ok (.ireturn, 1) → W p l e R s m args below meth c H1 locs1 (xn res.2.1 - xn K0) (2 * (xn res.2.1 - xn K0)) Q (F0 m pc ls1 [.int res.1])) (ag_103 : Int32 → Int32 → Int32 → Int64 → Int32 → PF → PG → PR) (hag_103 : ∀ (x1 : Int32) (x2 : Int32) (x5 : Int32) (x7 : Int64) (x9 : Int32) (F : PF) (G : PG), ag_103 x1 x2 x5 x7 x9 F G = some res → ∀ (b : Nat) (H : Heap) (locs : List Loc) (ls : Array Slot), cMW s A v a b K0 F G H locs → lv_has ls 11 [(0, .ref (a 210)), (1, .int x1), (2, .int x2), (5, .int x5), (7, .long x7), (9, .int x9)] → W p l e R s m args below meth c H locs (xn F - xn K0) (2 * (xn F - xn K0)) Q (F0 m 103 ls [])) (hagn_103 : ∀ (x1 : Int32) (x2 : Int32) (x5 : Int32) (x7 : Int64) (x9 : Int32) (F : PF) (G : PG), ag_103 x1 x2 x5 x7 x9 F G = some res → xn F ≤ xn res.2.1) (x1 : Int32) (x2 : Int32) (x5 : Int32) (x7 : Int64) (x9 : Int32) (z0 : Int32) (F : PF) (G : PG) (hm : cb_X10_behindNumber_121 fu ag_103 x1 x2 x5 x7 x9 z0 F G = some res) {b : Nat} {H : Heap} {locs : List Loc} (hw : cMW s A v a b K0 F G H locs) {ls : Array Slot} (hl : lv_has ls 11 [(0, .ref (a 210)), (1, .int x1), (2, .int x2), (5, .int x5), (7, .long x7), (9, .int x9)]) : W p l e R s m args below meth c H locs (xn F - xn K0) (2 * (xn F - xn K0)) Q (F0 m 121 ls [.int z0]) := by
  have hx := C.1
  have hb := C.2.1
  unfold cb_X10_behindNumber_121 at hm
  refine lv_istore (lv' := [(10, .int z0), (0, .ref (a 210)), (1, .int x1), (2, .int x2), (5, .int x5), (7, .long x7), (9, .int x9)]) hx hb dX10_behindNumber_121 hl (by decide) rfl (fun ls hl => ?_)
  refine lv_iload hx hb dX10_behindNumber_123 (lv_at hl 0 rfl) ?_
  refine lv_iload hx hb dX10_behindNumber_125 (lv_at hl 4 rfl) ?_
  refine lv_icmp_lt (tgt := 132) hx hb dX10_behindNumber_127 (by decide) (fun c_1 => ?_) (fun c_1 => ?_)
  · have hm := (if_pos c_1).symm.trans hm
    exact cw_X10_behindNumber_132 fu C hret ag_103 hag_103 hagn_103 x1 x2 x5 x7 x9 z0 F G hm hw (lv_sub hl [1, 2, 3, 4, 5, 6, 0] rfl)
  · have hm := (if_neg c_1).symm.trans hm
    exact cw_X10_behindNumber_130 fu C hret F G hm hw (lv_sub hl [] rfl)
theorem cn_X10_behindNumber_118 (fu : Nat) {res : Int32 × PF × PG} (ag_103 : Int32 → Int32 → Int32 → Int64 → Int32 → PF → PG → PR) (hagn_103 : ∀ (x1 : Int32) (x2 : Int32) (x5 : Int32) (x7 : Int64) (x9 : Int32) (F : PF) (G : PG), ag_103 x1 x2 x5 x7 x9 F G = some res → xn F ≤ xn res.2.1) (x1 : Int32) (x2 : Int32) (x5 : Int32) (x7 : Int64) (x9 : Int32) (z0 : Int32) (F : PF) (G : PG) (hm : cb_X10_behindNumber_118 fu ag_103 x1 x2 x5 x7 x9 z0 F G = some res) : xn F ≤ xn res.2.1 := by
  unfold cb_X10_behindNumber_118 at hm
  obtain ⟨⟨r1, F1, G1⟩, hc, hm⟩ := bind_elim hm
  exact Nat.le_trans (cn_X10_digitOf fu z0 F G _ hc) (cn_X10_behindNumber_121 fu ag_103 hagn_103 x1 x2 x5 x7 x9 r1 F1 G1 hm)
theorem cw_X10_behindNumber_118 (fu : Nat) {res : Int32 × PF × PG} (C : cMC p R s m args c A v RX10 cX10_behindNumber 11 3 62 (xn res.2.1 - xn K0)) (hret : ∀ (b1 : Nat) (H1 : Heap) (locs1 : List Loc) (ls1 : Array Slot) (pc : Nat), cMW s A v a b1 K0 res.2.1 res.2.2 H1 locs1 → narrow .int (.int res.1) = .int res.1 → decode cX10_behindNumber pc = .ok (.ireturn, 1) → W p l e R s m args below meth c H1 locs1 (xn res.2.1 - xn K0) (2 * (xn res.2.1 - xn K0)) Q (F0 m pc ls1 [.int res.1])) (ag_103 : Int32 → Int32 → Int32 → Int64 → Int32 → PF → PG → PR) (hag_103 : ∀ (x1 : Int32) (x2 : Int32) (x5 : Int32) (x7 : Int64) (x9 : Int32) (F : PF) (G : PG), ag_103 x1 x2 x5 x7 x9 F G = some res → ∀ (b : Nat) (H : Heap) (locs : List Loc) (ls : Array Slot), cMW s A v a b K0 F G H locs → lv_has ls 11 [(0, .ref (a 210)), (1, .int x1), (2, .int x2), (5, .int x5), (7, .long x7), (9, .int x9)] → W p l e R s m args below meth c H locs (xn F - xn K0) (2 * (xn F - xn K0)) Q (F0 m 103 ls [])) (hagn_103 : ∀ (x1 : Int32) (x2 : Int32) (x5 : Int32) (x7 : Int64) (x9 : Int32) (F : PF) (G : PG), ag_103 x1 x2 x5 x7 x9 F G = some res → xn F ≤ xn res.2.1) (x1 : Int32) (x2 : Int32) (x5 : Int32) (x7 : Int64) (x9 : Int32) (z0 : Int32) (F : PF) (G : PG) (hm : cb_X10_behindNumber_118 fu ag_103 x1 x2 x5 x7 x9 z0 F G = some res) {b : Nat} {H : Heap} {locs : List Loc} (hw : cMW s A v a b K0 F G H locs) {ls : Array Slot} (hl : lv_has ls 11 [(0, .ref (a 210)), (1, .int x1), (2, .int x2), (5, .int x5), (7, .long x7), (9, .int x9)]) : W p l e R s m args below meth c H locs (xn F - xn K0) (2 * (xn F - xn K0)) Q (F0 m 118 ls [.int z0]) := by
  have hx := C.1
  have hb := C.2.1
  unfold cb_X10_behindNumber_118 at hm
  obtain ⟨⟨r1, F1, G1⟩, hc, hm⟩ := bind_elim hm
  refine ccallIS (n := 1) (As := [.int z0]) (rest := []) C hw (ck_X10_digitOf l v a _ _ fu z0 F G r1 F1 G1 hc) (cn_X10_digitOf fu z0 F G _ hc) (Nat.sub_le_sub_right (cn_X10_behindNumber_121 fu ag_103 hagn_103 x1 x2 x5 x7 x9 r1 F1 G1 hm) _) cm_92 cm_93 cm_46 cm_94 (by decide +kernel) rfl (by omega) (by omega) hl.1 rfl (Nat.le_of_ble_eq_true rfl) dX10_behindNumber_118 (fun b H locs hw => ?_)
  exact cw_X10_behindNumber_121 fu C hret ag_103 hag_103 hagn_103 x1 x2 x5 x7 x9 r1 F1 G1 hm hw (lv_sub hl [0, 1, 2, 3, 4, 5] rfl)
theorem cn_X10_behindNumber_109 (fu : Nat) {res : Int32 × PF × PG} (ag_103 : Int32 → Int32 → Int32 → Int64 → Int32 → PF → PG → PR) (hagn_103 : ∀ (x1 : Int32) (x2 : Int32) (x5 : Int32) (x7 : Int64) (x9 : Int32) (F : PF) (G : PG), ag_103 x1 x2 x5 x7 x9 F G = some res → xn F ≤ xn res.2.1) (x1 : Int32) (x2 : Int32) (x5 : Int32) (x7 : Int64) (x9 : Int32) (F : PF) (G : PG) (hm : cb_X10_behindNumber_109 fu ag_103 x1 x2 x5 x7 x9 F G = some res) : xn F ≤ xn res.2.1 := by
  unfold cb_X10_behindNumber_109 at hm
  obtain ⟨⟨r1, F1, G1⟩, hc, hm⟩ := bind_elim hm
  exact Nat.le_trans (cn_X9_at fu x9 F G _ hc) (cn_X10_behindNumber_118 fu ag_103 hagn_103 x1 x2 x5 x7 x9 r1 F1 G1 hm)
theorem cw_X10_behindNumber_109 (fu : Nat) {res : Int32 × PF × PG} (C : cMC p R s m args c A v RX10 cX10_behindNumber 11 3 62 (xn res.2.1 - xn K0)) (hret : ∀ (b1 : Nat) (H1 : Heap) (locs1 : List Loc) (ls1 : Array Slot) (pc : Nat), cMW s A v a b1 K0 res.2.1 res.2.2 H1 locs1 → narrow .int (.int res.1) = .int res.1 → decode cX10_behindNumber pc = .ok (.ireturn, 1) → W p l e R s m args below meth c H1 locs1 (xn res.2.1 - xn K0) (2 * (xn res.2.1 - xn K0)) Q (F0 m pc ls1 [.int res.1])) (ag_103 : Int32 → Int32 → Int32 → Int64 → Int32 → PF → PG → PR) (hag_103 : ∀ (x1 : Int32) (x2 : Int32) (x5 : Int32) (x7 : Int64) (x9 : Int32) (F : PF) (G : PG), ag_103 x1 x2 x5 x7 x9 F G = some res → ∀ (b : Nat) (H : Heap) (locs : List Loc) (ls : Array Slot), cMW s A v a b K0 F G H locs → lv_has ls 11 [(0, .ref (a 210)), (1, .int x1), (2, .int x2), (5, .int x5), (7, .long x7), (9, .int x9)] → W p l e R s m args below meth c H locs (xn F - xn K0) (2 * (xn F - xn K0)) Q (F0 m 103 ls [])) (hagn_103 : ∀ (x1 : Int32) (x2 : Int32) (x5 : Int32) (x7 : Int64) (x9 : Int32) (F : PF) (G : PG), ag_103 x1 x2 x5 x7 x9 F G = some res → xn F ≤ xn res.2.1) (x1 : Int32) (x2 : Int32) (x5 : Int32) (x7 : Int64) (x9 : Int32) (F : PF) (G : PG) (hm : cb_X10_behindNumber_109 fu ag_103 x1 x2 x5 x7 x9 F G = some res) {b : Nat} {H : Heap} {locs : List Loc} (hw : cMW s A v a b K0 F G H locs) {ls : Array Slot} (hl : lv_has ls 11 [(0, .ref (a 210)), (1, .int x1), (2, .int x2), (5, .int x5), (7, .long x7), (9, .int x9)]) : W p l e R s m args below meth c H locs (xn F - xn K0) (2 * (xn F - xn K0)) Q (F0 m 109 ls []) := by
  have hx := C.1
  have hb := C.2.1
  unfold cb_X10_behindNumber_109 at hm
  refine lv_aload_n hx hb dX10_behindNumber_109 rfl (lv_at hl 0 rfl) ?_
  refine cg_X10_33 C hw dX10_behindNumber_110 ?_
  refine lv_iload hx hb dX10_behindNumber_113 (lv_at hl 5 rfl) ?_
  obtain ⟨⟨r1, F1, G1⟩, hc, hm⟩ := bind_elim hm
  refine ccallI (n := 1) (As := [.int x9]) (rest := []) C hw (ck_X9_at l v a _ _ fu x9 F G r1 F1 G1 hc) (cn_X9_at fu x9 F G _ hc) (Nat.sub_le_sub_right (cn_X10_behindNumber_118 fu ag_103 hagn_103 x1 x2 x5 x7 x9 r1 F1 G1 hm) _) (crecv_X9 C hw) cm_61 cm_62 cm_63 cm_6 cm_64 (by decide +kernel) rfl (by omega) (by omega) hl.1 rfl (Nat.le_of_ble_eq_true rfl) dX10_behindNumber_115 (fun b H locs hw => ?_)
  exact cw_X10_behindNumber_118 fu C hret ag_103 hag_103 hagn_103 x1 x2 x5 x7 x9 r1 F1 G1 hm hw (lv_sub hl [0, 1, 2, 3, 4, 5] rfl)
theorem cn_X10_behindNumber_103 (fu : Nat) {res : Int32 × PF × PG} (ag_103 : Int32 → Int32 → Int32 → Int64 → Int32 → PF → PG → PR) (hagn_103 : ∀ (x1 : Int32) (x2 : Int32) (x5 : Int32) (x7 : Int64) (x9 : Int32) (F : PF) (G : PG), ag_103 x1 x2 x5 x7 x9 F G = some res → xn F ≤ xn res.2.1) (x1 : Int32) (x2 : Int32) (x5 : Int32) (x7 : Int64) (x9 : Int32) (F : PF) (G : PG) (hm : cb_X10_behindNumber_103 fu ag_103 x1 x2 x5 x7 x9 F G = some res) : xn F ≤ xn res.2.1 := by
  unfold cb_X10_behindNumber_103 at hm
  by_cases c_1 : x2 ≤ x9
  · have hm := (if_pos c_1).symm.trans hm
    exact (cn_X10_behindNumber_150 fu x1 x2 x7 F G hm)
  · have hm := (if_neg c_1).symm.trans hm
    exact (cn_X10_behindNumber_109 fu ag_103 hagn_103 x1 x2 x5 x7 x9 F G hm)
theorem cw_X10_behindNumber_103 (fu : Nat) {res : Int32 × PF × PG} (C : cMC p R s m args c A v RX10 cX10_behindNumber 11 3 62 (xn res.2.1 - xn K0)) (hret : ∀ (b1 : Nat) (H1 : Heap) (locs1 : List Loc) (ls1 : Array Slot) (pc : Nat), cMW s A v a b1 K0 res.2.1 res.2.2 H1 locs1 → narrow .int (.int res.1) = .int res.1 → decode cX10_behindNumber pc = .ok (.ireturn, 1) → W p l e R s m args below meth c H1 locs1 (xn res.2.1 - xn K0) (2 * (xn res.2.1 - xn K0)) Q (F0 m pc ls1 [.int res.1])) (ag_103 : Int32 → Int32 → Int32 → Int64 → Int32 → PF → PG → PR) (hag_103 : ∀ (x1 : Int32) (x2 : Int32) (x5 : Int32) (x7 : Int64) (x9 : Int32) (F : PF) (G : PG), ag_103 x1 x2 x5 x7 x9 F G = some res → ∀ (b : Nat) (H : Heap) (locs : List Loc) (ls : Array Slot), cMW s A v a b K0 F G H locs → lv_has ls 11 [(0, .ref (a 210)), (1, .int x1), (2, .int x2), (5, .int x5), (7, .long x7), (9, .int x9)] → W p l e R s m args below meth c H locs (xn F - xn K0) (2 * (xn F - xn K0)) Q (F0 m 103 ls [])) (hagn_103 : ∀ (x1 : Int32) (x2 : Int32) (x5 : Int32) (x7 : Int64) (x9 : Int32) (F : PF) (G : PG), ag_103 x1 x2 x5 x7 x9 F G = some res → xn F ≤ xn res.2.1) (x1 : Int32) (x2 : Int32) (x5 : Int32) (x7 : Int64) (x9 : Int32) (F : PF) (G : PG) (hm : cb_X10_behindNumber_103 fu ag_103 x1 x2 x5 x7 x9 F G = some res) {b : Nat} {H : Heap} {locs : List Loc} (hw : cMW s A v a b K0 F G H locs) {ls : Array Slot} (hl : lv_has ls 11 [(0, .ref (a 210)), (1, .int x1), (2, .int x2), (5, .int x5), (7, .long x7), (9, .int x9)]) : W p l e R s m args below meth c H locs (xn F - xn K0) (2 * (xn F - xn K0)) Q (F0 m 103 ls []) := by
  have hx := C.1
  have hb := C.2.1
  unfold cb_X10_behindNumber_103 at hm
  refine lv_iload hx hb dX10_behindNumber_103 (lv_at hl 5 rfl) ?_
  refine lv_iload_n hx hb dX10_behindNumber_105 rfl (lv_at hl 2 rfl) ?_
  refine lv_icmp_ge (tgt := 150) hx hb dX10_behindNumber_106 (by decide) (fun c_1 => ?_) (fun c_1 => ?_)
  · have hm := (if_pos c_1).symm.trans hm
    exact cw_X10_behindNumber_150 fu C hret x1 x2 x7 F G hm hw (lv_sub hl [0, 1, 2, 4] rfl)
  · have hm := (if_neg c_1).symm.trans hm
    exact cw_X10_behindNumber_109 fu C hret ag_103 hag_103 hagn_103 x1 x2 x5 x7 x9 F G hm hw (lv_sub hl [0, 1, 2, 3, 4, 5] rfl)
theorem cnl_X10_behindNumber_103 (fu : Nat) {res : Int32 × PF × PG} : ∀ (n : Nat) (x1 : Int32) (x2 : Int32) (x5 : Int32) (x7 : Int64) (x9 : Int32) (F : PF) (G : PG) (hm : cl_X10_behindNumber_103 fu n x1 x2 x5 x7 x9 F G = some res), xn F ≤ xn res.2.1 := by
  intro n
  induction n with
  | zero =>
    intro x1 x2 x5 x7 x9 F G hm
    exact no_elim (show (none : PR) = some res from hm)
  | succ n ih =>
    intro x1 x2 x5 x7 x9 F G hm
    exact cn_X10_behindNumber_103 fu (cl_X10_behindNumber_103 fu n) (fun x1 x2 x5 x7 x9 F G hm => ih x1 x2 x5 x7 x9 F G hm) x1 x2 x5 x7 x9 F G hm
theorem cwl_X10_behindNumber_103 (fu : Nat) {res : Int32 × PF × PG} (C : cMC p R s m args c A v RX10 cX10_behindNumber 11 3 62 (xn res.2.1 - xn K0)) (hret : ∀ (b1 : Nat) (H1 : Heap) (locs1 : List Loc) (ls1 : Array Slot) (pc : Nat), cMW s A v a b1 K0 res.2.1 res.2.2 H1 locs1 → narrow .int (.int res.1) = .int res.1 → decode cX10_behindNumber pc = .ok (.ireturn, 1) → W p l e R s m args below meth c H1 locs1 (xn res.2.1 - xn K0) (2 * (xn res.2.1 - xn K0)) Q (F0 m pc ls1 [.int res.1])) : ∀ (n : Nat) (x1 : Int32) (x2 : Int32) (x5 : Int32) (x7 : Int64) (x9 : Int32) (F : PF) (G : PG) (hm : cl_X10_behindNumber_103 fu n x1 x2 x5 x7 x9 F G = some res) {b : Nat} {H : Heap} {locs : List Loc} (hw : cMW s A v a b K0 F G H locs) {ls : Array Slot} (hl : lv_has ls 11 [(0, .ref (a 210)), (1, .int x1), (2, .int x2), (5, .int x5), (7, .long x7), (9, .int x9)]), W p l e R s m args below meth c H locs (xn F - xn K0) (2 * (xn F - xn K0)) Q (F0 m 103 ls []) := by
  intro n
  induction n with
  | zero =>
    intro x1 x2 x5 x7 x9 F G hm
    exact no_elim (show (none : PR) = some res from hm)
  | succ n ih =>
    intro x1 x2 x5 x7 x9 F G hm b H locs hw ls hl
    exact cw_X10_behindNumber_103 fu C hret (cl_X10_behindNumber_103 fu n) (fun x1 x2 x5 x7 x9 F G hm b H locs ls hw hl => ih x1 x2 x5 x7 x9 F G hm hw hl) (fun x1 x2 x5 x7 x9 F G hm => cnl_X10_behindNumber_103 fu n x1 x2 x5 x7 x9 F G hm) x1 x2 x5 x7 x9 F G hm hw hl
theorem cn_X10_behindNumber_96 (fu : Nat) {res : Int32 × PF × PG} (x1 : Int32) (x2 : Int32) (x4 : Int32) (x5 : Int32) (F : PF) (G : PG) (hm : cb_X10_behindNumber_96 fu x1 x2 x4 x5 F G = some res) : xn F ≤ xn res.2.1 := by
  unfold cb_X10_behindNumber_96 at hm
  exact (cnl_X10_behindNumber_103 fu fu x1 x2 x5 (0 : Int64) x4 F G hm)
theorem cw_X10_behindNumber_96 (fu : Nat) {res : Int32 × PF × PG} (C : cMC p R s m args c A v RX10 cX10_behindNumber 11 3 62 (xn res.2.1 - xn K0)) (hret : ∀ (b1 : Nat) (H1 : Heap) (locs1 : List Loc) (ls1 : Array Slot) (pc : Nat), cMW s A v a b1 K0 res.2.1 res.2.2 H1 locs1 → narrow .int (.int res.1) = .int res.1 → decode cX10_behindNumber pc = .ok (.ireturn, 1) → W p l e R s m args below meth c H1 locs1 (xn res.2.1 - xn K0) (2 * (xn res.2.1 - xn K0)) Q (F0 m pc ls1 [.int res.1])) (x1 : Int32) (x2 : Int32) (x4 : Int32) (x5 : Int32) (F : PF) (G : PG) (hm : cb_X10_behindNumber_96 fu x1 x2 x4 x5 F G = some res) {b : Nat} {H : Heap} {locs : List Loc} (hw : cMW s A v a b K0 F G H locs) {ls : Array Slot} (hl : lv_has ls 11 [(0, .ref (a 210)), (1, .int x1), (2, .int x2), (4, .int x4), (5, .int x5)]) : W p l e R s m args below meth c H locs (xn F - xn K0) (2 * (xn F - xn K0)) Q (F0 m 96 ls []) := by
  have hx := C.1
  have hb := C.2.1
  unfold cb_X10_behindNumber_96 at hm
  refine lv_lconst (v := 0) hx hb dX10_behindNumber_96 (by decide) ?_
  refine lv_lstore (lv' := [(7, .long 0), (0, .ref (a 210)), (1, .int x1), (2, .int x2), (4, .int x4), (5, .int x5)]) hx hb dX10_behindNumber_97 hl (by decide) rfl (fun ls hl => ?_)
  refine lv_iload hx hb dX10_behindNumber_99 (lv_at hl 4 rfl) ?_
  refine lv_istore (lv' := [(9, .int x4), (7, .long 0), (0, .ref (a 210)), (1, .int x1), (2, .int x2), (4, .int x4), (5, .int x5)]) hx hb dX10_behindNumber_101 hl (by decide) rfl (fun ls hl => ?_)
  exact cwl_X10_behindNumber_103 fu C hret fu x1 x2 x5 (0 : Int64) x4 F G hm hw (lv_sub hl [2, 3, 4, 6, 1, 0] rfl)
theorem cn_X10_behindNumber_91 (fu : Nat) {res : Int32 × PF × PG} (x1 : Int32) (x2 : Int32) (x4 : Int32) (x5 : Int32) (z0 : Int32) (z1 : Int32) (F : PF) (G : PG) (hm : cb_X10_behindNumber_91 fu x1 x2 x4 x5 z0 z1 F G = some res) : xn F ≤ xn res.2.1 := by
  unfold cb_X10_behindNumber_91 at hm
  by_cases c_1 : z1 ≤ z0
  · have hm := (if_pos c_1).symm.trans hm
    exact (cn_X10_behindNumber_96 fu x1 x2 x4 x5 F G hm)
  · have hm := (if_neg c_1).symm.trans hm
    exact (cn_X10_behindNumber_94 fu F G hm)
theorem cw_X10_behindNumber_91 (fu : Nat) {res : Int32 × PF × PG} (C : cMC p R s m args c A v RX10 cX10_behindNumber 11 3 62 (xn res.2.1 - xn K0)) (hret : ∀ (b1 : Nat) (H1 : Heap) (locs1 : List Loc) (ls1 : Array Slot) (pc : Nat), cMW s A v a b1 K0 res.2.1 res.2.2 H1 locs1 → narrow .int (.int res.1) = .int res.1 → decode cX10_behindNumber pc = .ok (.ireturn, 1) → W p l e R s m args below meth c H1 locs1 (xn res.2.1 - xn K0) (2 * (xn res.2.1 - xn K0)) Q (F0 m pc ls1 [.int res.1])) (x1 : Int32) (x2 : Int32) (x4 : Int32) (x5 : Int32) (z0 : Int32) (z1 : Int32) (F : PF) (G : PG) (hm : cb_X10_behindNumber_91 fu x1 x2 x4 x5 z0 z1 F G = some res) {b : Nat} {H : Heap} {locs : List Loc} (hw : cMW s A v a b K0 F G H locs) {ls : Array Slot} (hl : lv_has ls 11 [(0, .ref (a 210)), (1, .int x1), (2, .int x2), (4, .int x4), (5, .int x5)]) : W p l e R s m args below meth c H locs (xn F - xn K0) (2 * (xn F - xn K0)) Q (F0 m 91 ls [.int z0, .int z1]) := by
  have hx := C.1
  have hb := C.2.1
  unfold cb_X10_behindNumber_91 at hm
  refine lv_icmp_le (tgt := 96) hx hb dX10_behindNumber_91 (by decide) (fun c_1 => ?_) (fun c_1 => ?_)
  · have hm := (if_pos c_1).symm.trans hm
    exact cw_X10_behindNumber_96 fu C hret x1 x2 x4 x5 F G hm hw (lv_sub hl [0, 1, 2, 3, 4] rfl)
  · have hm := (if_neg c_1).symm.trans hm
    exact cw_X10_behindNumber_94 fu C hret F G hm hw (lv_sub hl [] rfl)
theorem cn_X10_behindNumber_89 (fu : Nat) {res : Int32 × PF × PG} (x1 : Int32) (x2 : Int32) (x4 : Int32) (x5 : Int32) (z0 : Int32) (F : PF) (G : PG) (hm : cb_X10_behindNumber_89 fu x1 x2 x4 x5 z0 F G = some res) : xn F ≤ xn res.2.1 := by
  unfold cb_X10_behindNumber_89 at hm
  exact (cn_X10_behindNumber_91 fu x1 x2 x4 x5 10 z0 F G hm)
theorem cw_X10_behindNumber_89 (fu : Nat) {res : Int32 × PF × PG} (C : cMC p R s m args c A v RX10 cX10_behindNumber 11 3 62 (xn res.2.1 - xn K0)) (hret : ∀ (b1 : Nat) (H1 : Heap) (locs1 : List Loc) (ls1 : Array Slot) (pc : Nat), cMW s A v a b1 K0 res.2.1 res.2.2 H1 locs1 → narrow .int (.int res.1) = .int res.1 → decode cX10_behindNumber pc = .ok (.ireturn, 1) → W p l e R s m args below meth c H1 locs1 (xn res.2.1 - xn K0) (2 * (xn res.2.1 - xn K0)) Q (F0 m pc ls1 [.int res.1])) (x1 : Int32) (x2 : Int32) (x4 : Int32) (x5 : Int32) (z0 : Int32) (F : PF) (G : PG) (hm : cb_X10_behindNumber_89 fu x1 x2 x4 x5 z0 F G = some res) {b : Nat} {H : Heap} {locs : List Loc} (hw : cMW s A v a b K0 F G H locs) {ls : Array Slot} (hl : lv_has ls 11 [(0, .ref (a 210)), (1, .int x1), (2, .int x2), (4, .int x4), (5, .int x5)]) : W p l e R s m args below meth c H locs (xn F - xn K0) (2 * (xn F - xn K0)) Q (F0 m 89 ls [.int z0]) := by
  have hx := C.1
  have hb := C.2.1
  unfold cb_X10_behindNumber_89 at hm
  refine lv_bipush (v := 10) hx hb dX10_behindNumber_89 (by decide) ?_
  exact cw_X10_behindNumber_91 fu C hret x1 x2 x4 x5 10 z0 F G hm hw (lv_sub hl [0, 1, 2, 3, 4] rfl)
theorem cn_X10_behindNumber_84 (fu : Nat) {res : Int32 × PF × PG} (x1 : Int32) (x2 : Int32) (x4 : Int32) (x5 : Int32) (z0 : Int32) (F : PF) (G : PG) (hm : cb_X10_behindNumber_84 fu x1 x2 x4 x5 z0 F G = some res) : xn F ≤ xn res.2.1 := by
  unfold cb_X10_behindNumber_84 at hm
  exact (cn_X10_behindNumber_91 fu x1 x2 x4 x5 8 z0 F G hm)
theorem cw_X10_behindNumber_84 (fu : Nat) {res : Int32 × PF × PG} (C : cMC p R s m args c A v RX10 cX10_behindNumber 11 3 62 (xn res.2.1 - xn K0)) (hret : ∀ (b1 : Nat) (H1 : Heap) (locs1 : List Loc) (ls1 : Array Slot) (pc : Nat), cMW s A v a b1 K0 res.2.1 res.2.2 H1 locs1 → narrow .int (.int res.1) = .int res.1 → decode cX10_behindNumber pc = .ok (.ireturn, 1) → W p l e R s m args below meth c H1 locs1 (xn res.2.1 - xn K0) (2 * (xn res.2.1 - xn K0)) Q (F0 m pc ls1 [.int res.1])) (x1 : Int32) (x2 : Int32) (x4 : Int32) (x5 : Int32) (z0 : Int32) (F : PF) (G : PG) (hm : cb_X10_behindNumber_84 fu x1 x2 x4 x5 z0 F G = some res) {b : Nat} {H : Heap} {locs : List Loc} (hw : cMW s A v a b K0 F G H locs) {ls : Array Slot} (hl : lv_has ls 11 [(0, .ref (a 210)), (1, .int x1), (2, .int x2), (4, .int x4), (5, .int x5)]) : W p l e R s m args below meth c H locs (xn F - xn K0) (2 * (xn F - xn K0)) Q (F0 m 84 ls [.int z0]) := by
  have hx := C.1
  have hb := C.2.1
  unfold cb_X10_behindNumber_84 at hm
  refine lv_bipush (v := 8) hx hb dX10_behindNumber_84 (by decide) ?_
  refine lv_goto (tgt := 91) hx hb dX10_behindNumber_86 (by decide) ?_
  exact cw_X10_behindNumber_91 fu C hret x1 x2 x4 x5 8 z0 F G hm hw (lv_sub hl [0, 1, 2, 3, 4] rfl)
theorem cn_X10_behindNumber_78 (fu : Nat) {res : Int32 × PF × PG} (x1 : Int32) (x2 : Int32) (x3 : Int32) (x4 : Int32) (x5 : Int32) (x6 : Int32) (F : PF) (G : PG) (hm : cb_X10_behindNumber_78 fu x1 x2 x3 x4 x5 x6 F G = some res) : xn F ≤ xn res.2.1 := by
  unfold cb_X10_behindNumber_78 at hm
  by_cases c_1 : x3 = (0 : Int32)
  · have hm := (if_pos c_1).symm.trans hm
    exact (cn_X10_behindNumber_89 fu x1 x2 x4 x5 x6 F G hm)
  · have hm := (if_neg c_1).symm.trans hm
    exact (cn_X10_behindNumber_84 fu x1 x2 x4 x5 x6 F G hm)
theorem cw_X10_behindNumber_78 (fu : Nat) {res : Int32 × PF × PG} (C : cMC p R s m args c A v RX10 cX10_behindNumber 11 3 62 (xn res.2.1 - xn K0)) (hret : ∀ (b1 : Nat) (H1 : Heap) (locs1 : List Loc) (ls1 : Array Slot) (pc : Nat), cMW s A v a b1 K0 res.2.1 res.2.2 H1 locs1 → narrow .int (.int res.1) = .int res.1 → decode cX10_behindNumber pc = .ok (.ireturn, 1) → W p l e R s m args below meth c H1 locs1 (xn res.2.1 - xn K0) (2 * (xn res.2.1 - xn K0)) Q (F0 m pc ls1 [.int res.1])) (x1 : Int32) (x2 : Int32) (x3 : Int32) (x4 : Int32) (x5 : Int32) (x6 : Int32) (F : PF) (G : PG) (hm : cb_X10_behindNumber_78 fu x1 x2 x3 x4 x5 x6 F G = some res) {b : Nat} {H : Heap} {locs : List Loc} (hw : cMW s A v a b K0 F G H locs) {ls : Array Slot} (hl : lv_has ls 11 [(0, .ref (a 210)), (1, .int x1), (2, .int x2), (3, .int x3), (4, .int x4), (5, .int x5), (6, .int x6)]) : W p l e R s m args below meth c H locs (xn F - xn K0) (2 * (xn F - xn K0)) Q (F0 m 78 ls []) := by
  have hx := C.1
  have hb := C.2.1
  unfold cb_X10_behindNumber_78 at hm
  refine lv_iload hx hb dX10_behindNumber_78 (lv_at hl 6 rfl) ?_
  refine lv_iload_n hx hb dX10_behindNumber_80 rfl (lv_at hl 3 rfl) ?_
  refine lv_if_eq (tgt := 89) hx hb dX10_behindNumber_81 (by decide) (fun c_1 => ?_) (fun c_1 => ?_)
  · have hm := (if_pos c_1).symm.trans hm
    exact cw_X10_behindNumber_89 fu C hret x1 x2 x4 x5 x6 F G hm hw (lv_sub hl [0, 1, 2, 4, 5] rfl)
  · have hm := (if_neg c_1).symm.trans hm
    exact cw_X10_behindNumber_84 fu C hret x1 x2 x4 x5 x6 F G hm hw (lv_sub hl [0, 1, 2, 4, 5] rfl)
theorem cn_X10_behindNumber_64 (fu : Nat) {res : Int32 × PF × PG} (x1 : Int32) (x2 : Int32) (x3 : Int32) (x4 : Int32) (z0 : Int32) (F : PF) (G : PG) (hm : cb_X10_behindNumber_64 fu x1 x2 x3 x4 z0 F G = some res) : xn F ≤ xn res.2.1 := by
  unfold cb_X10_behindNumber_64 at hm
  by_cases c_1 : (x2 - x4) < (1 : Int32)
  · have hm := (if_pos c_1).symm.trans hm
    exact (cn_X10_behindNumber_94 fu F G hm)
  · have hm := (if_neg c_1).symm.trans hm
    exact (cn_X10_behindNumber_78 fu x1 x2 x3 x4 z0 (x2 - x4) F G hm)
theorem cw_X10_behindNumber_64 (fu : Nat) {res : Int32 × PF × PG} (C : cMC p R s m args c A v RX10 cX10_behindNumber 11 3 62 (xn res.2.1 - xn K0)) (hret : ∀ (b1 : Nat) (H1 : Heap) (locs1 : List Loc) (ls1 : Array Slot) (pc : Nat), cMW s A v a b1 K0 res.2.1 res.2.2 H1 locs1 → narrow .int (.int res.1) = .int res.1 → decode cX10_behindNumber pc = .ok (.ireturn, 1) → W p l e R s m args below meth c H1 locs1 (xn res.2.1 - xn K0) (2 * (xn res.2.1 - xn K0)) Q (F0 m pc ls1 [.int res.1])) (x1 : Int32) (x2 : Int32) (x3 : Int32) (x4 : Int32) (z0 : Int32) (F : PF) (G : PG) (hm : cb_X10_behindNumber_64 fu x1 x2 x3 x4 z0 F G = some res) {b : Nat} {H : Heap} {locs : List Loc} (hw : cMW s A v a b K0 F G H locs) {ls : Array Slot} (hl : lv_has ls 11 [(0, .ref (a 210)), (1, .int x1), (2, .int x2), (3, .int x3), (4, .int x4)]) : W p l e R s m args below meth c H locs (xn F - xn K0) (2 * (xn F - xn K0)) Q (F0 m 64 ls [.int z0]) := by
  have hx := C.1
  have hb := C.2.1
  unfold cb_X10_behindNumber_64 at hm
  refine lv_istore (lv' := [(5, .int z0), (0, .ref (a 210)), (1, .int x1), (2, .int x2), (3, .int x3), (4, .int x4)]) hx hb dX10_behindNumber_64 hl (by decide) rfl (fun ls hl => ?_)
  refine lv_iload_n hx hb dX10_behindNumber_66 rfl (lv_at hl 3 rfl) ?_
  refine lv_iload hx hb dX10_behindNumber_67 (lv_at hl 5 rfl) ?_
  refine lv_isub hx hb dX10_behindNumber_69 ?_
  refine lv_istore (lv' := [(6, .int (x2 - x4)), (5, .int z0), (0, .ref (a 210)), (1, .int x1), (2, .int x2), (3, .int x3), (4, .int x4)]) hx hb dX10_behindNumber_70 hl (by decide) rfl (fun ls hl => ?_)
  refine lv_iload hx hb dX10_behindNumber_72 (lv_at hl 0 rfl) ?_
  refine lv_iconst (v := 1) hx hb dX10_behindNumber_74 (by decide) ?_
  refine lv_icmp_lt (tgt := 94) hx hb dX10_behindNumber_75 (by decide) (fun c_1 => ?_) (fun c_1 => ?_)
  · have hm := (if_pos c_1).symm.trans hm
    exact cw_X10_behindNumber_94 fu C hret F G hm hw (lv_sub hl [] rfl)
  · have hm := (if_neg c_1).symm.trans hm
    exact cw_X10_behindNumber_78 fu C hret x1 x2 x3 x4 z0 (x2 - x4) F G hm hw (lv_sub hl [2, 3, 4, 5, 6, 1, 0] rfl)
theorem cn_X10_behindNumber_62 (fu : Nat) {res : Int32 × PF × PG} (x1 : Int32) (x2 : Int32) (x3 : Int32) (x4 : Int32) (F : PF) (G : PG) (hm : cb_X10_behindNumber_62 fu x1 x2 x3 x4 F G = some res) : xn F ≤ xn res.2.1 := by
  unfold cb_X10_behindNumber_62 at hm
  exact (cn_X10_behindNumber_64 fu x1 x2 x3 x4 10 F G hm)
theorem cw_X10_behindNumber_62 (fu : Nat) {res : Int32 × PF × PG} (C : cMC p R s m args c A v RX10 cX10_behindNumber 11 3 62 (xn res.2.1 - xn K0)) (hret : ∀ (b1 : Nat) (H1 : Heap) (locs1 : List Loc) (ls1 : Array Slot) (pc : Nat), cMW s A v a b1 K0 res.2.1 res.2.2 H1 locs1 → narrow .int (.int res.1) = .int res.1 → decode cX10_behindNumber pc = .ok (.ireturn, 1) → W p l e R s m args below meth c H1 locs1 (xn res.2.1 - xn K0) (2 * (xn res.2.1 - xn K0)) Q (F0 m pc ls1 [.int res.1])) (x1 : Int32) (x2 : Int32) (x3 : Int32) (x4 : Int32) (F : PF) (G : PG) (hm : cb_X10_behindNumber_62 fu x1 x2 x3 x4 F G = some res) {b : Nat} {H : Heap} {locs : List Loc} (hw : cMW s A v a b K0 F G H locs) {ls : Array Slot} (hl : lv_has ls 11 [(0, .ref (a 210)), (1, .int x1), (2, .int x2), (3, .int x3), (4, .int x4)]) : W p l e R s m args below meth c H locs (xn F - xn K0) (2 * (xn F - xn K0)) Q (F0 m 62 ls []) := by
  have hx := C.1
  have hb := C.2.1
  unfold cb_X10_behindNumber_62 at hm
  refine lv_bipush (v := 10) hx hb dX10_behindNumber_62 (by decide) ?_
  exact cw_X10_behindNumber_64 fu C hret x1 x2 x3 x4 10 F G hm hw (lv_sub hl [0, 1, 2, 3, 4] rfl)
theorem cn_X10_behindNumber_57 (fu : Nat) {res : Int32 × PF × PG} (x1 : Int32) (x2 : Int32) (x3 : Int32) (x4 : Int32) (F : PF) (G : PG) (hm : cb_X10_behindNumber_57 fu x1 x2 x3 x4 F G = some res) : xn F ≤ xn res.2.1 := by
  unfold cb_X10_behindNumber_57 at hm
  exact (cn_X10_behindNumber_64 fu x1 x2 x3 x4 16 F G hm)
theorem cw_X10_behindNumber_57 (fu : Nat) {res : Int32 × PF × PG} (C : cMC p R s m args c A v RX10 cX10_behindNumber 11 3 62 (xn res.2.1 - xn K0)) (hret : ∀ (b1 : Nat) (H1 : Heap) (locs1 : List Loc) (ls1 : Array Slot) (pc : Nat), cMW s A v a b1 K0 res.2.1 res.2.2 H1 locs1 → narrow .int (.int res.1) = .int res.1 → decode cX10_behindNumber pc = .ok (.ireturn, 1) → W p l e R s m args below meth c H1 locs1 (xn res.2.1 - xn K0) (2 * (xn res.2.1 - xn K0)) Q (F0 m pc ls1 [.int res.1])) (x1 : Int32) (x2 : Int32) (x3 : Int32) (x4 : Int32) (F : PF) (G : PG) (hm : cb_X10_behindNumber_57 fu x1 x2 x3 x4 F G = some res) {b : Nat} {H : Heap} {locs : List Loc} (hw : cMW s A v a b K0 F G H locs) {ls : Array Slot} (hl : lv_has ls 11 [(0, .ref (a 210)), (1, .int x1), (2, .int x2), (3, .int x3), (4, .int x4)]) : W p l e R s m args below meth c H locs (xn F - xn K0) (2 * (xn F - xn K0)) Q (F0 m 57 ls []) := by
  have hx := C.1
  have hb := C.2.1
  unfold cb_X10_behindNumber_57 at hm
  refine lv_bipush (v := 16) hx hb dX10_behindNumber_57 (by decide) ?_
  refine lv_goto (tgt := 64) hx hb dX10_behindNumber_59 (by decide) ?_
  exact cw_X10_behindNumber_64 fu C hret x1 x2 x3 x4 16 F G hm hw (lv_sub hl [0, 1, 2, 3, 4] rfl)
theorem cn_X10_behindNumber_51 (fu : Nat) {res : Int32 × PF × PG} (x1 : Int32) (x2 : Int32) (x3 : Int32) (z0 : Int32) (F : PF) (G : PG) (hm : cb_X10_behindNumber_51 fu x1 x2 x3 z0 F G = some res) : xn F ≤ xn res.2.1 := by
  unfold cb_X10_behindNumber_51 at hm
  by_cases c_1 : x3 = (0 : Int32)
  · have hm := (if_pos c_1).symm.trans hm
    exact (cn_X10_behindNumber_62 fu x1 x2 x3 z0 F G hm)
  · have hm := (if_neg c_1).symm.trans hm
    exact (cn_X10_behindNumber_57 fu x1 x2 x3 z0 F G hm)
theorem cw_X10_behindNumber_51 (fu : Nat) {res : Int32 × PF × PG} (C : cMC p R s m args c A v RX10 cX10_behindNumber 11 3 62 (xn res.2.1 - xn K0)) (hret : ∀ (b1 : Nat) (H1 : Heap) (locs1 : List Loc) (ls1 : Array Slot) (pc : Nat), cMW s A v a b1 K0 res.2.1 res.2.2 H1 locs1 → narrow .int (.int res.1) = .int res.1 → decode cX10_behindNumber pc = .ok (.ireturn, 1) → W p l e R s m args below meth c H1 locs1 (xn res.2.1 - xn K0) (2 * (xn res.2.1 - xn K0)) Q (F0 m pc ls1 [.int res.1])) (x1 : Int32) (x2 : Int32) (x3 : Int32) (z0 : Int32) (F : PF) (G : PG) (hm : cb_X10_behindNumber_51 fu x1 x2 x3 z0 F G = some res) {b : Nat} {H : Heap} {locs : List Loc} (hw : cMW s A v a b K0 F G H locs) {ls : Array Slot} (hl : lv_has ls 11 [(0, .ref (a 210)), (1, .int x1), (2, .int x2), (3, .int x3)]) : W p l e R s m args below meth c H locs (xn F - xn K0) (2 * (xn F - xn K0)) Q (F0 m 51 ls [.int z0]) := by
  have hx := C.1
  have hb := C.2.1
  unfold cb_X10_behindNumber_51 at hm
  refine lv_istore (lv' := [(4, .int z0), (0, .ref (a 210)), (1, .int x1), (2, .int x2), (3, .int x3)]) hx hb dX10_behindNumber_51 hl (by decide) rfl (fun ls hl => ?_)
  refine lv_iload_n hx hb dX10_behindNumber_53 rfl (lv_at hl 4 rfl) ?_
  refine lv_if_eq (tgt := 62) hx hb dX10_behindNumber_54 (by decide) (fun c_1 => ?_) (fun c_1 => ?_)
  · have hm := (if_pos c_1).symm.trans hm
    exact cw_X10_behindNumber_62 fu C hret x1 x2 x3 z0 F G hm hw (lv_sub hl [1, 2, 3, 4, 0] rfl)
  · have hm := (if_neg c_1).symm.trans hm
    exact cw_X10_behindNumber_57 fu C hret x1 x2 x3 z0 F G hm hw (lv_sub hl [1, 2, 3, 4, 0] rfl)
theorem cn_X10_behindNumber_50 (fu : Nat) {res : Int32 × PF × PG} (x1 : Int32) (x2 : Int32) (x3 : Int32) (F : PF) (G : PG) (hm : cb_X10_behindNumber_50 fu x1 x2 x3 F G = some res) : xn F ≤ xn res.2.1 := by
  unfold cb_X10_behindNumber_50 at hm
  exact (cn_X10_behindNumber_51 fu x1 x2 x3 x1 F G hm)
theorem cw_X10_behindNumber_50 (fu : Nat) {res : Int32 × PF × PG} (C : cMC p R s m args c A v RX10 cX10_behindNumber 11 3 62 (xn res.2.1 - xn K0)) (hret : ∀ (b1 : Nat) (H1 : Heap) (locs1 : List Loc) (ls1 : Array Slot) (pc : Nat), cMW s A v a b1 K0 res.2.1 res.2.2 H1 locs1 → narrow .int (.int res.1) = .int res.1 → decode cX10_behindNumber pc = .ok (.ireturn, 1) → W p l e R s m args below meth c H1 locs1 (xn res.2.1 - xn K0) (2 * (xn res.2.1 - xn K0)) Q (F0 m pc ls1 [.int res.1])) (x1 : Int32) (x2 : Int32) (x3 : Int32) (F : PF) (G : PG) (hm : cb_X10_behindNumber_50 fu x1 x2 x3 F G = some res) {b : Nat} {H : Heap} {locs : List Loc} (hw : cMW s A v a b K0 F G H locs) {ls : Array Slot} (hl : lv_has ls 11 [(0, .ref (a 210)), (1, .int x1), (2, .int x2), (3, .int x3)]) : W p l e R s m args below meth c H locs (xn F - xn K0) (2 * (xn F - xn K0)) Q (F0 m 50 ls []) := by
  have hx := C.1
  have hb := C.2.1
  unfold cb_X10_behindNumber_50 at hm
  refine lv_iload_n hx hb dX10_behindNumber_50 rfl (lv_at hl 1 rfl) ?_
  exact cw_X10_behindNumber_51 fu C hret x1 x2 x3 x1 F G hm hw (lv_sub hl [0, 1, 2, 3] rfl)
theorem cn_X10_behindNumber_44 (fu : Nat) {res : Int32 × PF × PG} (x1 : Int32) (x2 : Int32) (x3 : Int32) (F : PF) (G : PG) (hm : cb_X10_behindNumber_44 fu x1 x2 x3 F G = some res) : xn F ≤ xn res.2.1 := by
  unfold cb_X10_behindNumber_44 at hm
  exact (cn_X10_behindNumber_51 fu x1 x2 x3 (x1 + (2 : Int32)) F G hm)
theorem cw_X10_behindNumber_44 (fu : Nat) {res : Int32 × PF × PG} (C : cMC p R s m args c A v RX10 cX10_behindNumber 11 3 62 (xn res.2.1 - xn K0)) (hret : ∀ (b1 : Nat) (H1 : Heap) (locs1 : List Loc) (ls1 : Array Slot) (pc : Nat), cMW s A v a b1 K0 res.2.1 res.2.2 H1 locs1 → narrow .int (.int res.1) = .int res.1 → decode cX10_behindNumber pc = .ok (.ireturn, 1) → W p l e R s m args below meth c H1 locs1 (xn res.2.1 - xn K0) (2 * (xn res.2.1 - xn K0)) Q (F0 m pc ls1 [.int res.1])) (x1 : Int32) (x2 : Int32) (x3 : Int32) (F : PF) (G : PG) (hm : cb_X10_behindNumber_44 fu x1 x2 x3 F G = some res) {b : Nat} {H : Heap} {locs : List Loc} (hw : cMW s A v a b K0 F G H locs) {ls : Array Slot} (hl : lv_has ls 11 [(0, .ref (a 210)), (1, .int x1), (2, .int x2), (3, .int x3)]) : W p l e R s m args below meth c H locs (xn F - xn K0) (2 * (xn F - xn K0)) Q (F0 m 44 ls []) := by
  have hx := C.1
  have hb := C.2.1
  unfold cb_X10_behindNumber_44 at hm
  refine lv_iload_n hx hb dX10_behindNumber_44 rfl (lv_at hl 1 rfl) ?_
  refine lv_iconst (v := 2) hx hb dX10_behindNumber_45 (by decide) ?_
  refine lv_iadd hx hb dX10_behindNumber_46 ?_
  refine lv_goto (tgt := 51) hx hb dX10_behindNumber_47 (by decide) ?_
  exact cw_X10_behindNumber_51 fu C hret x1 x2 x3 (x1 + (2 : Int32)) F G hm hw (lv_sub hl [0, 1, 2, 3] rfl)
theorem cn_X10_behindNumber_39 (fu : Nat) {res : Int32 × PF × PG} (x1 : Int32) (x2 : Int32) (z0 : Int32) (F : PF) (G : PG) (hm : cb_X10_behindNumber_39 fu x1 x2 z0 F G = some res) : xn F ≤ xn res.2.1 := by
  unfold cb_X10_behindNumber_39 at hm
  by_cases c_1 : z0 = (0 : Int32)
  · have hm := (if_pos c_1).symm.trans hm
    exact (cn_X10_behindNumber_50 fu x1 x2 z0 F G hm)
  · have hm := (if_neg c_1).symm.trans hm
    exact (cn_X10_behindNumber_44 fu x1 x2 z0 F G hm)
theorem cw_X10_behindNumber_39 (fu : Nat) {res : Int32 × PF × PG} (C : cMC p R s m args c A v RX10 cX10_behindNumber 11 3 62 (xn res.2.1 - xn K0)) (hret : ∀ (b1 : Nat) (H1 : Heap) (locs1 : List Loc) (ls1 : Array Slot) (pc : Nat), cMW s A v a b1 K0 res.2.1 res.2.2 H1 locs1 → narrow .int (.int res.1) = .int res.1 → decode cX10_behindNumber pc = .ok (.ireturn, 1) → W p l e R s m args below meth c H1 locs1 (xn res.2.1 - xn K0) (2 * (xn res.2.1 - xn K0)) Q (F0 m pc ls1 [.int res.1])) (x1 : Int32) (x2 : Int32) (z0 : Int32) (F : PF) (G : PG) (hm : cb_X10_behindNumber_39 fu x1 x2 z0 F G = some res) {b : Nat} {H : Heap} {locs : List Loc} (hw : cMW s A v a b K0 F G H locs) {ls : Array Slot} (hl : lv_has ls 11 [(0, .ref (a 210)), (1, .int x1), (2, .int x2)]) : W p l e R s m args below meth c H locs (xn F - xn K0) (2 * (xn F - xn K0)) Q (F0 m 39 ls [.int z0]) := by
  have hx := C.1
  have hb := C.2.1
  unfold cb_X10_behindNumber_39 at hm
  refine lv_istore_n (lv' := [(3, .int z0), (0, .ref (a 210)), (1, .int x1), (2, .int x2)]) hx hb dX10_behindNumber_39 rfl hl (by decide) rfl (fun ls hl => ?_)
  refine lv_iload_n hx hb dX10_behindNumber_40 rfl (lv_at hl 0 rfl) ?_
  refine lv_if_eq (tgt := 50) hx hb dX10_behindNumber_41 (by decide) (fun c_1 => ?_) (fun c_1 => ?_)
  · have hm := (if_pos c_1).symm.trans hm
    exact cw_X10_behindNumber_50 fu C hret x1 x2 z0 F G hm hw (lv_sub hl [1, 2, 3, 0] rfl)
  · have hm := (if_neg c_1).symm.trans hm
    exact cw_X10_behindNumber_44 fu C hret x1 x2 z0 F G hm hw (lv_sub hl [1, 2, 3, 0] rfl)
theorem cn_X10_behindNumber_38 (fu : Nat) {res : Int32 × PF × PG} (x1 : Int32) (x2 : Int32) (F : PF) (G : PG) (hm : cb_X10_behindNumber_38 fu x1 x2 F G = some res) : xn F ≤ xn res.2.1 := by
  unfold cb_X10_behindNumber_38 at hm
  exact (cn_X10_behindNumber_39 fu x1 x2 0 F G hm)
theorem cw_X10_behindNumber_38 (fu : Nat) {res : Int32 × PF × PG} (C : cMC p R s m args c A v RX10 cX10_behindNumber 11 3 62 (xn res.2.1 - xn K0)) (hret : ∀ (b1 : Nat) (H1 : Heap) (locs1 : List Loc) (ls1 : Array Slot) (pc : Nat), cMW s A v a b1 K0 res.2.1 res.2.2 H1 locs1 → narrow .int (.int res.1) = .int res.1 → decode cX10_behindNumber pc = .ok (.ireturn, 1) → W p l e R s m args below meth c H1 locs1 (xn res.2.1 - xn K0) (2 * (xn res.2.1 - xn K0)) Q (F0 m pc ls1 [.int res.1])) (x1 : Int32) (x2 : Int32) (F : PF) (G : PG) (hm : cb_X10_behindNumber_38 fu x1 x2 F G = some res) {b : Nat} {H : Heap} {locs : List Loc} (hw : cMW s A v a b K0 F G H locs) {ls : Array Slot} (hl : lv_has ls 11 [(0, .ref (a 210)), (1, .int x1), (2, .int x2)]) : W p l e R s m args below meth c H locs (xn F - xn K0) (2 * (xn F - xn K0)) Q (F0 m 38 ls []) := by
  have hx := C.1
  have hb := C.2.1
  unfold cb_X10_behindNumber_38 at hm
  refine lv_iconst (v := 0) hx hb dX10_behindNumber_38 (by decide) ?_
  exact cw_X10_behindNumber_39 fu C hret x1 x2 0 F G hm hw (lv_sub hl [0, 1, 2] rfl)
theorem cn_X10_behindNumber_34 (fu : Nat) {res : Int32 × PF × PG} (x1 : Int32) (x2 : Int32) (F : PF) (G : PG) (hm : cb_X10_behindNumber_34 fu x1 x2 F G = some res) : xn F ≤ xn res.2.1 := by
  unfold cb_X10_behindNumber_34 at hm
  exact (cn_X10_behindNumber_39 fu x1 x2 1 F G hm)
theorem cw_X10_behindNumber_34 (fu : Nat) {res : Int32 × PF × PG} (C : cMC p R s m args c A v RX10 cX10_behindNumber 11 3 62 (xn res.2.1 - xn K0)) (hret : ∀ (b1 : Nat) (H1 : Heap) (locs1 : List Loc) (ls1 : Array Slot) (pc : Nat), cMW s A v a b1 K0 res.2.1 res.2.2 H1 locs1 → narrow .int (.int res.1) = .int res.1 → decode cX10_behindNumber pc = .ok (.ireturn, 1) → W p l e R s m args below meth c H1 locs1 (xn res.2.1 - xn K0) (2 * (xn res.2.1 - xn K0)) Q (F0 m pc ls1 [.int res.1])) (x1 : Int32) (x2 : Int32) (F : PF) (G : PG) (hm : cb_X10_behindNumber_34 fu x1 x2 F G = some res) {b : Nat} {H : Heap} {locs : List Loc} (hw : cMW s A v a b K0 F G H locs) {ls : Array Slot} (hl : lv_has ls 11 [(0, .ref (a 210)), (1, .int x1), (2, .int x2)]) : W p l e R s m args below meth c H locs (xn F - xn K0) (2 * (xn F - xn K0)) Q (F0 m 34 ls []) := by
  have hx := C.1
  have hb := C.2.1
  unfold cb_X10_behindNumber_34 at hm
  refine lv_iconst (v := 1) hx hb dX10_behindNumber_34 (by decide) ?_
  refine lv_goto (tgt := 39) hx hb dX10_behindNumber_35 (by decide) ?_
  exact cw_X10_behindNumber_39 fu C hret x1 x2 1 F G hm hw (lv_sub hl [0, 1, 2] rfl)
theorem cn_X10_behindNumber_29 (fu : Nat) {res : Int32 × PF × PG} (x1 : Int32) (x2 : Int32) (z0 : Int32) (F : PF) (G : PG) (hm : cb_X10_behindNumber_29 fu x1 x2 z0 F G = some res) : xn F ≤ xn res.2.1 := by
  unfold cb_X10_behindNumber_29 at hm
  by_cases c_1 : z0 = (120 : Int32)
  · have hm := (if_pos c_1).symm.trans hm
    exact (cn_X10_behindNumber_34 fu x1 x2 F G hm)
  · have hm := (if_neg c_1).symm.trans hm
    exact (cn_X10_behindNumber_38 fu x1 x2 F G hm)
theorem cw_X10_behindNumber_29 (fu : Nat) {res : Int32 × PF × PG} (C : cMC p R s m args c A v RX10 cX10_behindNumber 11 3 62 (xn res.2.1 - xn K0)) (hret : ∀ (b1 : Nat) (H1 : Heap) (locs1 : List Loc) (ls1 : Array Slot) (pc : Nat), cMW s A v a b1 K0 res.2.1 res.2.2 H1 locs1 → narrow .int (.int res.1) = .int res.1 → decode cX10_behindNumber pc = .ok (.ireturn, 1) → W p l e R s m args below meth c H1 locs1 (xn res.2.1 - xn K0) (2 * (xn res.2.1 - xn K0)) Q (F0 m pc ls1 [.int res.1])) (x1 : Int32) (x2 : Int32) (z0 : Int32) (F : PF) (G : PG) (hm : cb_X10_behindNumber_29 fu x1 x2 z0 F G = some res) {b : Nat} {H : Heap} {locs : List Loc} (hw : cMW s A v a b K0 F G H locs) {ls : Array Slot} (hl : lv_has ls 11 [(0, .ref (a 210)), (1, .int x1), (2, .int x2)]) : W p l e R s m args below meth c H locs (xn F - xn K0) (2 * (xn F - xn K0)) Q (F0 m 29 ls [.int z0]) := by
  have hx := C.1
  have hb := C.2.1
  unfold cb_X10_behindNumber_29 at hm
  refine lv_bipush (v := 120) hx hb dX10_behindNumber_29 (by decide) ?_
  refine lv_icmp_ne (tgt := 38) hx hb dX10_behindNumber_31 (by decide) (fun c_1 => ?_) (fun c_1 => ?_)
  · have hm := (if_neg c_1).symm.trans hm
    exact cw_X10_behindNumber_38 fu C hret x1 x2 F G hm hw (lv_sub hl [0, 1, 2] rfl)
  · have hm := (if_pos c_1).symm.trans hm
    exact cw_X10_behindNumber_34 fu C hret x1 x2 F G hm hw (lv_sub hl [0, 1, 2] rfl)
theorem cn_X10_behindNumber_19 (fu : Nat) {res : Int32 × PF × PG} (x1 : Int32) (x2 : Int32) (F : PF) (G : PG) (hm : cb_X10_behindNumber_19 fu x1 x2 F G = some res) : xn F ≤ xn res.2.1 := by
  unfold cb_X10_behindNumber_19 at hm
  obtain ⟨⟨r1, F1, G1⟩, hc, hm⟩ := bind_elim hm
  exact Nat.le_trans (cn_X9_at fu (x1 + (1 : Int32)) F G _ hc) (cn_X10_behindNumber_29 fu x1 x2 r1 F1 G1 hm)
theorem cw_X10_behindNumber_19 (fu : Nat) {res : Int32 × PF × PG} (C : cMC p R s m args c A v RX10 cX10_behindNumber 11 3 62 (xn res.2.1 - xn K0)) (hret : ∀ (b1 : Nat) (H1 : Heap) (locs1 : List Loc) (ls1 : Array Slot) (pc : Nat), cMW s A v a b1 K0 res.2.1 res.2.2 H1 locs1 → narrow .int (.int res.1) = .int res.1 → decode cX10_behindNumber pc = .ok (.ireturn, 1) → W p l e R s m args below meth c H1 locs1 (xn res.2.1 - xn K0) (2 * (xn res.2.1 - xn K0)) Q (F0 m pc ls1 [.int res.1])) (x1 : Int32) (x2 : Int32) (F : PF) (G : PG) (hm : cb_X10_behindNumber_19 fu x1 x2 F G = some res) {b : Nat} {H : Heap} {locs : List Loc} (hw : cMW s A v a b K0 F G H locs) {ls : Array Slot} (hl : lv_has ls 11 [(0, .ref (a 210)), (1, .int x1), (2, .int x2)]) : W p l e R s m args below meth c H locs (xn F - xn K0) (2 * (xn F - xn K0)) Q (F0 m 19 ls []) := by
  have hx := C.1
  have hb := C.2.1
  unfold cb_X10_behindNumber_19 at hm
  refine lv_aload_n hx hb dX10_behindNumber_19 rfl (lv_at hl 0 rfl) ?_
  refine cg_X10_33 C hw dX10_behindNumber_20 ?_
  refine lv_iload_n hx hb dX10_behindNumber_23 rfl (lv_at hl 1 rfl) ?_
  refine lv_iconst (v := 1) hx hb dX10_behindNumber_24 (by decide) ?_
  refine lv_iadd hx hb dX10_behindNumber_25 ?_
  obtain ⟨⟨r1, F1, G1⟩, hc, hm⟩ := bind_elim hm
  refine ccallI (n := 1) (As := [.int (x1 + (1 : Int32))]) (rest := []) C hw (ck_X9_at l v a _ _ fu (x1 + (1 : Int32)) F G r1 F1 G1 hc) (cn_X9_at fu (x1 + (1 : Int32)) F G _ hc) (Nat.sub_le_sub_right (cn_X10_behindNumber_29 fu x1 x2 r1 F1 G1 hm) _) (crecv_X9 C hw) cm_61 cm_62 cm_63 cm_6 cm_64 (by decide +kernel) rfl (by omega) (by omega) hl.1 rfl (Nat.le_of_ble_eq_true rfl) dX10_behindNumber_26 (fun b H locs hw => ?_)
  exact cw_X10_behindNumber_29 fu C hret x1 x2 r1 F1 G1 hm hw (lv_sub hl [0, 1, 2] rfl)
theorem cn_X10_behindNumber_14 (fu : Nat) {res : Int32 × PF × PG} (x1 : Int32) (x2 : Int32) (z0 : Int32) (F : PF) (G : PG) (hm : cb_X10_behindNumber_14 fu x1 x2 z0 F G = some res) : xn F ≤ xn res.2.1 := by
  unfold cb_X10_behindNumber_14 at hm
  by_cases c_1 : z0 = (48 : Int32)
  · have hm := (if_pos c_1).symm.trans hm
    exact (cn_X10_behindNumber_19 fu x1 x2 F G hm)
  · have hm := (if_neg c_1).symm.trans hm
    exact (cn_X10_behindNumber_38 fu x1 x2 F G hm)
theorem cw_X10_behindNumber_14 (fu : Nat) {res : Int32 × PF × PG} (C : cMC p R s m args c A v RX10 cX10_behindNumber 11 3 62 (xn res.2.1 - xn K0)) (hret : ∀ (b1 : Nat) (H1 : Heap) (locs1 : List Loc) (ls1 : Array Slot) (pc : Nat), cMW s A v a b1 K0 res.2.1 res.2.2 H1 locs1 → narrow .int (.int res.1) = .int res.1 → decode cX10_behindNumber pc = .ok (.ireturn, 1) → W p l e R s m args below meth c H1 locs1 (xn res.2.1 - xn K0) (2 * (xn res.2.1 - xn K0)) Q (F0 m pc ls1 [.int res.1])) (x1 : Int32) (x2 : Int32) (z0 : Int32) (F : PF) (G : PG) (hm : cb_X10_behindNumber_14 fu x1 x2 z0 F G = some res) {b : Nat} {H : Heap} {locs : List Loc} (hw : cMW s A v a b K0 F G H locs) {ls : Array Slot} (hl : lv_has ls 11 [(0, .ref (a 210)), (1, .int x1), (2, .int x2)]) : W p l e R s m args below meth c H locs (xn F - xn K0) (2 * (xn F - xn K0)) Q (F0 m 14 ls [.int z0]) := by
  have hx := C.1
  have hb := C.2.1
  unfold cb_X10_behindNumber_14 at hm
  refine lv_bipush (v := 48) hx hb dX10_behindNumber_14 (by decide) ?_
  refine lv_icmp_ne (tgt := 38) hx hb dX10_behindNumber_16 (by decide) (fun c_1 => ?_) (fun c_1 => ?_)
  · have hm := (if_neg c_1).symm.trans hm
    exact cw_X10_behindNumber_38 fu C hret x1 x2 F G hm hw (lv_sub hl [0, 1, 2] rfl)
  · have hm := (if_pos c_1).symm.trans hm
    exact cw_X10_behindNumber_19 fu C hret x1 x2 F G hm hw (lv_sub hl [0, 1, 2] rfl)
theorem cn_X10_behindNumber_5 (fu : Nat) {res : Int32 × PF × PG} (x1 : Int32) (z0 : Int32) (F : PF) (G : PG) (hm : cb_X10_behindNumber_5 fu x1 z0 F G = some res) : xn F ≤ xn res.2.1 := by
  unfold cb_X10_behindNumber_5 at hm
  obtain ⟨⟨r1, F1, G1⟩, hc, hm⟩ := bind_elim hm
  exact Nat.le_trans (cn_X9_at fu x1 F G _ hc) (cn_X10_behindNumber_14 fu x1 z0 r1 F1 G1 hm)
theorem cw_X10_behindNumber_5 (fu : Nat) {res : Int32 × PF × PG} (C : cMC p R s m args c A v RX10 cX10_behindNumber 11 3 62 (xn res.2.1 - xn K0)) (hret : ∀ (b1 : Nat) (H1 : Heap) (locs1 : List Loc) (ls1 : Array Slot) (pc : Nat), cMW s A v a b1 K0 res.2.1 res.2.2 H1 locs1 → narrow .int (.int res.1) = .int res.1 → decode cX10_behindNumber pc = .ok (.ireturn, 1) → W p l e R s m args below meth c H1 locs1 (xn res.2.1 - xn K0) (2 * (xn res.2.1 - xn K0)) Q (F0 m pc ls1 [.int res.1])) (x1 : Int32) (z0 : Int32) (F : PF) (G : PG) (hm : cb_X10_behindNumber_5 fu x1 z0 F G = some res) {b : Nat} {H : Heap} {locs : List Loc} (hw : cMW s A v a b K0 F G H locs) {ls : Array Slot} (hl : lv_has ls 11 [(0, .ref (a 210)), (1, .int x1)]) : W p l e R s m args below meth c H locs (xn F - xn K0) (2 * (xn F - xn K0)) Q (F0 m 5 ls [.int z0]) := by
  have hx := C.1
  have hb := C.2.1
  unfold cb_X10_behindNumber_5 at hm
  refine lv_istore_n (lv' := [(2, .int z0), (0, .ref (a 210)), (1, .int x1)]) hx hb dX10_behindNumber_5 rfl hl (by decide) rfl (fun ls hl => ?_)
  refine lv_aload_n hx hb dX10_behindNumber_6 rfl (lv_at hl 1 rfl) ?_
  refine cg_X10_33 C hw dX10_behindNumber_7 ?_
  refine lv_iload_n hx hb dX10_behindNumber_10 rfl (lv_at hl 2 rfl) ?_
  obtain ⟨⟨r1, F1, G1⟩, hc, hm⟩ := bind_elim hm
  refine ccallI (n := 1) (As := [.int x1]) (rest := []) C hw (ck_X9_at l v a _ _ fu x1 F G r1 F1 G1 hc) (cn_X9_at fu x1 F G _ hc) (Nat.sub_le_sub_right (cn_X10_behindNumber_14 fu x1 z0 r1 F1 G1 hm) _) (crecv_X9 C hw) cm_61 cm_62 cm_63 cm_6 cm_64 (by decide +kernel) rfl (by omega) (by omega) hl.1 rfl (Nat.le_of_ble_eq_true rfl) dX10_behindNumber_11 (fun b H locs hw => ?_)
  exact cw_X10_behindNumber_14 fu C hret x1 z0 r1 F1 G1 hm hw (lv_sub hl [1, 2, 0] rfl)
theorem cn_X10_behindNumber_0 (fu : Nat) {res : Int32 × PF × PG} (x1 : Int32) (F : PF) (G : PG) (hm : cb_X10_behindNumber_0 fu x1 F G = some res) : xn F ≤ xn res.2.1 := by
  unfold cb_X10_behindNumber_0 at hm
  obtain ⟨⟨r1, F1, G1⟩, hc, hm⟩ := bind_elim hm
  exact Nat.le_trans (cn_X10_behindParts fu x1 F G _ hc) (cn_X10_behindNumber_5 fu x1 r1 F1 G1 hm)
theorem cw_X10_behindNumber_0 (fu : Nat) {res : Int32 × PF × PG} (C : cMC p R s m args c A v RX10 cX10_behindNumber 11 3 62 (xn res.2.1 - xn K0)) (hret : ∀ (b1 : Nat) (H1 : Heap) (locs1 : List Loc) (ls1 : Array Slot) (pc : Nat), cMW s A v a b1 K0 res.2.1 res.2.2 H1 locs1 → narrow .int (.int res.1) = .int res.1 → decode cX10_behindNumber pc = .ok (.ireturn, 1) → W p l e R s m args below meth c H1 locs1 (xn res.2.1 - xn K0) (2 * (xn res.2.1 - xn K0)) Q (F0 m pc ls1 [.int res.1])) (x1 : Int32) (F : PF) (G : PG) (hm : cb_X10_behindNumber_0 fu x1 F G = some res) {b : Nat} {H : Heap} {locs : List Loc} (hw : cMW s A v a b K0 F G H locs) {ls : Array Slot} (hl : lv_has ls 11 [(0, .ref (a 210)), (1, .int x1)]) : W p l e R s m args below meth c H locs (xn F - xn K0) (2 * (xn F - xn K0)) Q (F0 m 0 ls []) := by
  have hx := C.1
  have hb := C.2.1
  unfold cb_X10_behindNumber_0 at hm
  refine lv_aload_n hx hb dX10_behindNumber_0 rfl (lv_at hl 0 rfl) ?_
  refine lv_iload_n hx hb dX10_behindNumber_1 rfl (lv_at hl 1 rfl) ?_
  obtain ⟨⟨r1, F1, G1⟩, hc, hm⟩ := bind_elim hm
  refine ccallI (n := 1) (As := [.int x1]) (rest := []) C hw (ck_X10_behindParts l v a _ _ fu x1 F G r1 F1 G1 hc) (cn_X10_behindParts fu x1 F G _ hc) (Nat.sub_le_sub_right (cn_X10_behindNumber_5 fu x1 r1 F1 G1 hm) _) (crecv_X10 C hw) cm_85 cm_86 cm_87 cm_46 cm_88 (by decide +kernel) rfl (by omega) (by omega) hl.1 rfl (Nat.le_of_ble_eq_true rfl) dX10_behindNumber_2 (fun b H locs hw => ?_)
  exact cw_X10_behindNumber_5 fu C hret x1 r1 F1 G1 hm hw (lv_sub hl [0, 1] rfl)
theorem cn_X10_behindNumber (fu : Nat) (x1 : Int32) (F : PF) (G : PG) (q : Int32 × PF × PG) (hm : cf_X10_behindNumber fu x1 F G = some q) : xn F ≤ xn q.2.1 := cn_X10_behindNumber_0 fu x1 F G hm
theorem ck_X10_behindNumber (l : Launch) (v : EV) (a : Nat → Nat) (b sz : Nat) (fu : Nat) (x1 : Int32) (F : PF) (G : PG) (r : Int32) (F1 : PF) (G1 : PG) (hm : cf_X10_behindNumber fu x1 F G = some (r, F1, G1)) : cMI l yX10_behindNumber cX10_behindNumber 11 (some .int) 3 62 v a b sz [.ref (a 210), .int x1] F G r F1 G1 := cMI.of (ty := .int) (by decide) rfl (Nat.le_of_ble_eq_true rfl) (fun p e R s m args below meth c Q A H locs ls C hw hl hret => cw_X10_behindNumber_0 fu (res := (r, F1, G1)) C hret x1 F G hm hw hl)
def cb_X10_wordAt_113 (fu : Nat) (F : PF) (G : PG) : PR := some ((-1), F, G)
def cb_X10_wordAt_107 (fu : Nat) (ag_2 : Int32 → Int32 → Int32 → PF → PG → PR) (x1 : Int32) (x2 : Int32) (x3 : Int32) (F : PF) (G : PG) : PR := ag_2 x1 x2 (x3 + 1) F G
def cb_X10_wordAt_105 (fu : Nat) (x3 : Int32) (F : PF) (G : PG) : PR := some (x3, F, G)
def cb_X10_wordAt_100 (fu : Nat) (ag_2 : Int32 → Int32 → Int32 → PF → PG → PR) (x1 : Int32) (x2 : Int32) (x3 : Int32) (x5 : Int32) (F : PF) (G : PG) : PR := if x5 = (0 : Int32) then cb_X10_wordAt_107 fu ag_2 x1 x2 x3 F G else cb_X10_wordAt_105 fu x3 F G
def cb_X10_wordAt_92 (fu : Nat) (ag_2 : Int32 → Int32 → Int32 → PF → PG → PR) (ag_52 : Int32 → Int32 → Int32 → Int32 → Int32 → Int32 → PF → PG → PR) (x1 : Int32) (x2 : Int32) (x3 : Int32) (x4 : Int32) (x6 : Int32) (z0 : Int32) (F : PF) (G : PG) : PR := ag_52 x1 x2 x3 x4 z0 (x6 + 1) F G
def cb_X10_wordAt_91 (fu : Nat) (ag_2 : Int32 → Int32 → Int32 → PF → PG → PR) (ag_52 : Int32 → Int32 → Int32 → Int32 → Int32 → Int32 → PF → PG → PR) (x1 : Int32) (x2 : Int32) (x3 : Int32) (x4 : Int32) (x6 : Int32) (F : PF) (G : PG) : PR := cb_X10_wordAt_92 fu ag_2 ag_52 x1 x2 x3 x4 x6 0 F G
def cb_X10_wordAt_87 (fu : Nat) (ag_2 : Int32 → Int32 → Int32 → PF → PG → PR) (ag_52 : Int32 → Int32 → Int32 → Int32 → Int32 → Int32 → PF → PG → PR) (x1 : Int32) (x2 : Int32) (x3 : Int32) (x4 : Int32) (x6 : Int32) (F : PF) (G : PG) : PR := cb_X10_wordAt_92 fu ag_2 ag_52 x1 x2 x3 x4 x6 1 F G
def cb_X10_wordAt_84 (fu : Nat) (ag_2 : Int32 → Int32 → Int32 → PF → PG → PR) (ag_52 : Int32 → Int32 → Int32 → Int32 → Int32 → Int32 → PF → PG → PR) (x1 : Int32) (x2 : Int32) (x3 : Int32) (x4 : Int32) (x6 : Int32) (z0 : Int32) (z1 : Int32) (F : PF) (G : PG) : PR := if z1 = z0 then cb_X10_wordAt_87 fu ag_2 ag_52 x1 x2 x3 x4 x6 F G else cb_X10_wordAt_91 fu ag_2 ag_52 x1 x2 x3 x4 x6 F G
def cb_X10_wordAt_73 (fu : Nat) (ag_2 : Int32 → Int32 → Int32 → PF → PG → PR) (ag_52 : Int32 → Int32 → Int32 → Int32 → Int32 → Int32 → PF → PG → PR) (x1 : Int32) (x2 : Int32) (x3 : Int32) (x4 : Int32) (x6 : Int32) (z0 : Int32) (F : PF) (G : PG) : PR := (cf_X9_at fu (x1 + x6) F G).bind (fun q => cb_X10_wordAt_84 fu ag_2 ag_52 x1 x2 x3 x4 x6 q.1 z0 q.2.1 q.2.2)
def cb_X10_wordAt_63 (fu : Nat) (ag_2 : Int32 → Int32 → Int32 → PF → PG → PR) (ag_52 : Int32 → Int32 → Int32 → Int32 → Int32 → Int32 → PF → PG → PR) (x1 : Int32) (x2 : Int32) (x3 : Int32) (x4 : Int32) (x6 : Int32) (F : PF) (G : PG) : PR := (cf_J0_charAt_5068e fu 2 (x4 + x6) F G).bind (fun q => cb_X10_wordAt_73 fu ag_2 ag_52 x1 x2 x3 x4 x6 q.1 q.2.1 q.2.2)
def cb_X10_wordAt_58 (fu : Nat) (ag_2 : Int32 → Int32 → Int32 → PF → PG → PR) (ag_52 : Int32 → Int32 → Int32 → Int32 → Int32 → Int32 → PF → PG → PR) (x1 : Int32) (x2 : Int32) (x3 : Int32) (x4 : Int32) (x5 : Int32) (x6 : Int32) (F : PF) (G : PG) : PR := if x5 = (0 : Int32) then cb_X10_wordAt_100 fu ag_2 x1 x2 x3 x5 F G else cb_X10_wordAt_63 fu ag_2 ag_52 x1 x2 x3 x4 x6 F G
def cb_X10_wordAt_52 (fu : Nat) (ag_2 : Int32 → Int32 → Int32 → PF → PG → PR) (ag_52 : Int32 → Int32 → Int32 → Int32 → Int32 → Int32 → PF → PG → PR) (x1 : Int32) (x2 : Int32) (x3 : Int32) (x4 : Int32) (x5 : Int32) (x6 : Int32) (F : PF) (G : PG) : PR := if x2 ≤ x6 then cb_X10_wordAt_100 fu ag_2 x1 x2 x3 x5 F G else cb_X10_wordAt_58 fu ag_2 ag_52 x1 x2 x3 x4 x5 x6 F G
def cl_X10_wordAt_52 (fu : Nat) (ag_2 : Int32 → Int32 → Int32 → PF → PG → PR) : Nat → Int32 → Int32 → Int32 → Int32 → Int32 → Int32 → PF → PG → PR
  | 0 => fun _ _ _ _ _ _ _ _ => none
  | n + 1 => fun x1 x2 x3 x4 x5 x6 F G => cb_X10_wordAt_52 fu ag_2 (cl_X10_wordAt_52 fu ag_2 n) x1 x2 x3 x4 x5 x6 F G
def cb_X10_wordAt_47 (fu : Nat) (ag_2 : Int32 → Int32 → Int32 → PF → PG → PR) (x1 : Int32) (x2 : Int32) (x3 : Int32) (x4 : Int32) (z0 : Int32) (F : PF) (G : PG) : PR := cl_X10_wordAt_52 fu ag_2 fu x1 x2 x3 x4 z0 0 F G
def cb_X10_wordAt_42 (fu : Nat) (ag_2 : Int32 → Int32 → Int32 → PF → PG → PR) (x1 : Int32) (x2 : Int32) (x3 : Int32) (x4 : Int32) (F : PF) (G : PG) : PR := cb_X10_wordAt_47 fu ag_2 x1 x2 x3 x4 1 F G
def cb_X10_wordAt_46 (fu : Nat) (ag_2 : Int32 → Int32 → Int32 → PF → PG → PR) (x1 : Int32) (x2 : Int32) (x3 : Int32) (x4 : Int32) (F : PF) (G : PG) : PR := cb_X10_wordAt_47 fu ag_2 x1 x2 x3 x4 0 F G
def cb_X10_wordAt_37 (fu : Nat) (ag_2 : Int32 → Int32 → Int32 → PF → PG → PR) (x1 : Int32) (x2 : Int32) (x3 : Int32) (x4 : Int32) (z0 : Int32) (F : PF) (G : PG) : PR := if z0 = (32 : Int32) then cb_X10_wordAt_42 fu ag_2 x1 x2 x3 x4 F G else cb_X10_wordAt_46 fu ag_2 x1 x2 x3 x4 F G
def cb_X10_wordAt_28 (fu : Nat) (ag_2 : Int32 → Int32 → Int32 → PF → PG → PR) (x1 : Int32) (x2 : Int32) (x3 : Int32) (x4 : Int32) (F : PF) (G : PG) : PR := (cf_J0_charAt_5068e fu 2 (x4 + x2) F G).bind (fun q => cb_X10_wordAt_37 fu ag_2 x1 x2 x3 x4 q.1 q.2.1 q.2.2)
def cb_X10_wordAt_14 (fu : Nat) (ag_2 : Int32 → Int32 → Int32 → PF → PG → PR) (x1 : Int32) (x2 : Int32) (x3 : Int32) (F : PF) (G : PG) : PR := if x2 = (8 : Int32) then cb_X10_wordAt_42 fu ag_2 x1 x2 x3 ((x3 - (4 : Int32)) * (8 : Int32)) F G else cb_X10_wordAt_28 fu ag_2 x1 x2 x3 ((x3 - (4 : Int32)) * (8 : Int32)) F G
def cb_X10_wordAt_8 (fu : Nat) (ag_2 : Int32 → Int32 → Int32 → PF → PG → PR) (x1 : Int32) (x2 : Int32) (x3 : Int32) (F : PF) (G : PG) : PR := if (8 : Int32) < x2 then cb_X10_wordAt_113 fu F G else cb_X10_wordAt_14 fu ag_2 x1 x2 x3 F G
def cb_X10_wordAt_2 (fu : Nat) (ag_2 : Int32 → Int32 → Int32 → PF → PG → PR) (x1 : Int32) (x2 : Int32) (x3 : Int32) (F : PF) (G : PG) : PR := if (18 : Int32) < x3 then cb_X10_wordAt_113 fu F G else cb_X10_wordAt_8 fu ag_2 x1 x2 x3 F G
def cl_X10_wordAt_2 (fu : Nat) : Nat → Int32 → Int32 → Int32 → PF → PG → PR
  | 0 => fun _ _ _ _ _ => none
  | n + 1 => fun x1 x2 x3 F G => cb_X10_wordAt_2 fu (cl_X10_wordAt_2 fu n) x1 x2 x3 F G
def cb_X10_wordAt_0 (fu : Nat) (x1 : Int32) (x2 : Int32) (F : PF) (G : PG) : PR := cl_X10_wordAt_2 fu fu x1 x2 4 F G
def cf_X10_wordAt (fu : Nat) (x1 : Int32) (x2 : Int32) (F : PF) (G : PG) : PR := cb_X10_wordAt_0 fu x1 x2 F G
theorem cn_X10_wordAt_113 (fu : Nat) {res : Int32 × PF × PG} (F : PF) (G : PG) (hm : cb_X10_wordAt_113 fu F G = some res) : xn F ≤ xn res.2.1 := by
  unfold cb_X10_wordAt_113 at hm
  obtain rfl := Option.some.inj hm
  exact Nat.le_refl _
theorem cw_X10_wordAt_113 (fu : Nat) {res : Int32 × PF × PG} (C : cMC p R s m args c A v RX10 cX10_wordAt 7 4 85 (xn res.2.1 - xn K0)) (hret : ∀ (b1 : Nat) (H1 : Heap) (locs1 : List Loc) (ls1 : Array Slot) (pc : Nat), cMW s A v a b1 K0 res.2.1 res.2.2 H1 locs1 → narrow .int (.int res.1) = .int res.1 → decode cX10_wordAt pc = .ok (.ireturn, 1) → W p l e R s m args below meth c H1 locs1 (xn res.2.1 - xn K0) (2 * (xn res.2.1 - xn K0)) Q (F0 m pc ls1 [.int res.1])) (F : PF) (G : PG) (hm : cb_X10_wordAt_113 fu F G = some res) {b : Nat} {H : Heap} {locs : List Loc} (hw : cMW s A v a b K0 F G H locs) {ls : Array Slot} (hl : lv_has ls 7 []) : W p l e R s m args below meth c H locs (xn F - xn K0) (2 * (xn F - xn K0)) Q (F0 m 113 ls []) := by
  have hx := C.1
  have hb := C.2.1
  unfold cb_X10_wordAt_113 at hm
  refine lv_iconst (v := (-1)) hx hb dX10_wordAt_113 (by decide) ?_
  obtain rfl := Option.some.inj hm
  exact hret _ _ _ _ _ hw rfl dX10_wordAt_114
theorem cn_X10_wordAt_107 (fu : Nat) {res : Int32 × PF × PG} (ag_2 : Int32 → Int32 → Int32 → PF → PG → PR) (hagn_2 : ∀ (x1 : Int32) (x2 : Int32) (x3 : Int32) (F : PF) (G : PG), ag_2 x1 x2 x3 F G = some res → xn F ≤ xn res.2.1) (x1 : Int32) (x2 : Int32) (x3 : Int32) (F : PF) (G : PG) (hm : cb_X10_wordAt_107 fu ag_2 x1 x2 x3 F G = some res) : xn F ≤ xn res.2.1 := by
  unfold cb_X10_wordAt_107 at hm
  exact (hagn_2 x1 x2 (x3 + 1) F G hm)
theorem cw_X10_wordAt_107 (fu : Nat) {res : Int32 × PF × PG} (C : cMC p R s m args c A v RX10 cX10_wordAt 7 4 85 (xn res.2.1 - xn K0)) (hret : ∀ (b1 : Nat) (H1 : Heap) (locs1 : List Loc) (ls1 : Array Slot) (pc : Nat), cMW s A v a b1 K0 res.2.1 res.2.2 H1 locs1 → narrow .int (.int res.1) = .int res.1 → decode cX10_wordAt pc = .ok (.ireturn, 1) → W p l e R s m args below meth c H1 locs1 (xn res.2.1 - xn K0) (2 * (xn res.2.1 - xn K0)) Q (F0 m pc ls1 [.int res.1])) (ag_2 : Int32 → Int32 → Int32 → PF → PG → PR) (hag_2 : ∀ (x1 : Int32) (x2 : Int32) (x3 : Int32) (F : PF) (G : PG), ag_2 x1 x2 x3 F G = some res → ∀ (b : Nat) (H : Heap) (locs : List Loc) (ls : Array Slot), cMW s A v a b K0 F G H locs → lv_has ls 7 [(0, .ref (a 210)), (1, .int x1), (2, .int x2), (3, .int x3)] → W p l e R s m args below meth c H locs (xn F - xn K0) (2 * (xn F - xn K0)) Q (F0 m 2 ls [])) (hagn_2 : ∀ (x1 : Int32) (x2 : Int32) (x3 : Int32) (F : PF) (G : PG), ag_2 x1 x2 x3 F G = some res → xn F ≤ xn res.2.1) (x1 : Int32) (x2 : Int32) (x3 : Int32) (F : PF) (G : PG) (hm : cb_X10_wordAt_107 fu ag_2 x1 x2 x3 F G = some res) {b : Nat} {H : Heap} {locs : List Loc} (hw : cMW s A v a b K0 F G H locs) {ls : Array Slot} (hl : lv_has ls 7 [(0, .ref (a 210)), (1, .int x1), (2, .int x2), (3, .int x3)]) : W p l e R s m args below meth c H locs (xn F - xn K0) (2 * (xn F - xn K0)) Q (F0 m 107 ls []) := by
  have hx := C.1
  have hb := C.2.1
  unfold cb_X10_wordAt_107 at hm
  refine lv_iinc (v := (x3 + 1)) (lv' := [(3, .int (x3 + 1)), (0, .ref (a 210)), (1, .int x1), (2, .int x2)]) hx hb dX10_wordAt_107 hl (k := 3) rfl (by rfl) (by decide) rfl (fun ls hl => ?_)
  refine lv_goto (tgt := 2) hx hb dX10_wordAt_110 (by decide) ?_
  exact hag_2 x1 x2 (x3 + 1) F G hm _ _ _ _ hw (lv_sub hl [1, 2, 3, 0] rfl)
theorem cn_X10_wordAt_105 (fu : Nat) {res : Int32 × PF × PG} (x3 : Int32) (F : PF) (G : PG) (hm : cb_X10_wordAt_105 fu x3 F G = some res) : xn F ≤ xn res.2.1 := by
  unfold cb_X10_wordAt_105 at hm
  obtain rfl := Option.some.inj hm
  exact Nat.le_refl _
theorem cw_X10_wordAt_105 (fu : Nat) {res : Int32 × PF × PG} (C : cMC p R s m args c A v RX10 cX10_wordAt 7 4 85 (xn res.2.1 - xn K0)) (hret : ∀ (b1 : Nat) (H1 : Heap) (locs1 : List Loc) (ls1 : Array Slot) (pc : Nat), cMW s A v a b1 K0 res.2.1 res.2.2 H1 locs1 → narrow .int (.int res.1) = .int res.1 → decode cX10_wordAt pc = .ok (.ireturn, 1) → W p l e R s m args below meth c H1 locs1 (xn res.2.1 - xn K0) (2 * (xn res.2.1 - xn K0)) Q (F0 m pc ls1 [.int res.1])) (x3 : Int32) (F : PF) (G : PG) (hm : cb_X10_wordAt_105 fu x3 F G = some res) {b : Nat} {H : Heap} {locs : List Loc} (hw : cMW s A v a b K0 F G H locs) {ls : Array Slot} (hl : lv_has ls 7 [(3, .int x3)]) : W p l e R s m args below meth c H locs (xn F - xn K0) (2 * (xn F - xn K0)) Q (F0 m 105 ls []) := by
  have hx := C.1
  have hb := C.2.1
  unfold cb_X10_wordAt_105 at hm
  refine lv_iload_n hx hb dX10_wordAt_105 rfl (lv_at hl 0 rfl) ?_
  obtain rfl := Option.some.inj hm
  exact hret _ _ _ _ _ hw rfl dX10_wordAt_106
theorem cn_X10_wordAt_100 (fu : Nat) {res : Int32 × PF × PG} (ag_2 : Int32 → Int32 → Int32 → PF → PG → PR) (hagn_2 : ∀ (x1 : Int32) (x2 : Int32) (x3 : Int32) (F : PF) (G : PG), ag_2 x1 x2 x3 F G = some res → xn F ≤ xn res.2.1) (x1 : Int32) (x2 : Int32) (x3 : Int32) (x5 : Int32) (F : PF) (G : PG) (hm : cb_X10_wordAt_100 fu ag_2 x1 x2 x3 x5 F G = some res) : xn F ≤ xn res.2.1 := by
  unfold cb_X10_wordAt_100 at hm
  by_cases c_1 : x5 = (0 : Int32)
  · have hm := (if_pos c_1).symm.trans hm
    exact (cn_X10_wordAt_107 fu ag_2 hagn_2 x1 x2 x3 F G hm)
  · have hm := (if_neg c_1).symm.trans hm
    exact (cn_X10_wordAt_105 fu x3 F G hm)
theorem cw_X10_wordAt_100 (fu : Nat) {res : Int32 × PF × PG} (C : cMC p R s m args c A v RX10 cX10_wordAt 7 4 85 (xn res.2.1 - xn K0)) (hret : ∀ (b1 : Nat) (H1 : Heap) (locs1 : List Loc) (ls1 : Array Slot) (pc : Nat), cMW s A v a b1 K0 res.2.1 res.2.2 H1 locs1 → narrow .int (.int res.1) = .int res.1 → decode cX10_wordAt pc = .ok (.ireturn, 1) → W p l e R s m args below meth c H1 locs1 (xn res.2.1 - xn K0) (2 * (xn res.2.1 - xn K0)) Q (F0 m pc ls1 [.int res.1])) (ag_2 : Int32 → Int32 → Int32 → PF → PG → PR) (hag_2 : ∀ (x1 : Int32) (x2 : Int32) (x3 : Int32) (F : PF) (G : PG), ag_2 x1 x2 x3 F G = some res → ∀ (b : Nat) (H : Heap) (locs : List Loc) (ls : Array Slot), cMW s A v a b K0 F G H locs → lv_has ls 7 [(0, .ref (a 210)), (1, .int x1), (2, .int x2), (3, .int x3)] → W p l e R s m args below meth c H locs (xn F - xn K0) (2 * (xn F - xn K0)) Q (F0 m 2 ls [])) (hagn_2 : ∀ (x1 : Int32) (x2 : Int32) (x3 : Int32) (F : PF) (G : PG), ag_2 x1 x2 x3 F G = some res → xn F ≤ xn res.2.1) (x1 : Int32) (x2 : Int32) (x3 : Int32) (x5 : Int32) (F : PF) (G : PG) (hm : cb_X10_wordAt_100 fu ag_2 x1 x2 x3 x5 F G = some res) {b : Nat} {H : Heap} {locs : List Loc} (hw : cMW s A v a b K0 F G H locs) {ls : Array Slot} (hl : lv_has ls 7 [(0, .ref (a 210)), (1, .int x1), (2, .int x2), (3, .int x3), (5, .int x5)]) : W p l e R s m args below meth c H locs (xn F - xn K0) (2 * (xn F - xn K0)) Q (F0 m 100 ls []) := by
  have hx := C.1
  have hb := C.2.1
  unfold cb_X10_wordAt_100 at hm
  refine lv_iload hx hb dX10_wordAt_100 (lv_at hl 4 rfl) ?_
  refine lv_if_eq (tgt := 107) hx hb dX10_wordAt_102 (by decide) (fun c_1 => ?_) (fun c_1 => ?_)
  · have hm := (if_pos c_1).symm.trans hm
    exact cw_X10_wordAt_107 fu C hret ag_2 hag_2 hagn_2 x1 x2 x3 F G hm hw (lv_sub hl [0, 1, 2, 3] rfl)
  · have hm := (if_neg c_1).symm.trans hm
    exact cw_X10_wordAt_105 fu C hret x3 F G hm hw (lv_sub hl [3] rfl)
theorem cn_X10_wordAt_92 (fu : Nat) {res : Int32 × PF × PG} (ag_2 : Int32 → Int32 → Int32 → PF → PG → PR) (hagn_2 : ∀ (x1 : Int32) (x2 : Int32) (x3 : Int32) (F : PF) (G : PG), ag_2 x1 x2 x3 F G = some res → xn F ≤ xn res.2.1) (ag_52 : Int32 → Int32 → Int32 → Int32 → Int32 → Int32 → PF → PG → PR) (hagn_52 : ∀ (x1 : Int32) (x2 : Int32) (x3 : Int32) (x4 : Int32) (x5 : Int32) (x6 : Int32) (F : PF) (G : PG), ag_52 x1 x2 x3 x4 x5 x6 F G = some res → xn F ≤ xn res.2.1) (x1 : Int32) (x2 : Int32) (x3 : Int32) (x4 : Int32) (x6 : Int32) (z0 : Int32) (F : PF) (G : PG) (hm : cb_X10_wordAt_92 fu ag_2 ag_52 x1 x2 x3 x4 x6 z0 F G = some res) : xn F ≤ xn res.2.1 := by
  unfold cb_X10_wordAt_92 at hm
  exact (hagn_52 x1 x2 x3 x4 z0 (x6 + 1) F G hm)
theorem cw_X10_wordAt_92 (fu : Nat) {res : Int32 × PF × PG} (C : cMC p R s m args c A v RX10 cX10_wordAt 7 4 85 (xn res.2.1 - xn K0)) (hret : ∀ (b1 : Nat) (H1 : Heap) (locs1 : List Loc) (ls1 : Array Slot) (pc : Nat), cMW s A v a b1 K0 res.2.1 res.2.2 H1 locs1 → narrow .int (.int res.1) = .int res.1 → decode cX10_wordAt pc = .ok (.ireturn, 1) → W p l e R s m args below meth c H1 locs1 (xn res.2.1 - xn K0) (2 * (xn res.2.1 - xn K0)) Q (F0 m pc ls1 [.int res.1])) (ag_2 : Int32 → Int32 → Int32 → PF → PG → PR) (hag_2 : ∀ (x1 : Int32) (x2 : Int32) (x3 : Int32) (F : PF) (G : PG), ag_2 x1 x2 x3 F G = some res → ∀ (b : Nat) (H : Heap) (locs : List Loc) (ls : Array Slot), cMW s A v a b K0 F G H locs → lv_has ls 7 [(0, .ref (a 210)), (1, .int x1), (2, .int x2), (3, .int x3)] → W p l e R s m args below meth c H locs (xn F - xn K0) (2 * (xn F - xn K0)) Q (F0 m 2 ls [])) (hagn_2 : ∀ (x1 : Int32) (x2 : Int32) (x3 : Int32) (F : PF) (G : PG), ag_2 x1 x2 x3 F G = some res → xn F ≤ xn res.2.1) (ag_52 : Int32 → Int32 → Int32 → Int32 → Int32 → Int32 → PF → PG → PR) (hag_52 : ∀ (x1 : Int32) (x2 : Int32) (x3 : Int32) (x4 : Int32) (x5 : Int32) (x6 : Int32) (F : PF) (G : PG), ag_52 x1 x2 x3 x4 x5 x6 F G = some res → ∀ (b : Nat) (H : Heap) (locs : List Loc) (ls : Array Slot), cMW s A v a b K0 F G H locs → lv_has ls 7 [(0, .ref (a 210)), (1, .int x1), (2, .int x2), (3, .int x3), (4, .int x4), (5, .int x5), (6, .int x6)] → W p l e R s m args below meth c H locs (xn F - xn K0) (2 * (xn F - xn K0)) Q (F0 m 52 ls [])) (hagn_52 : ∀ (x1 : Int32) (x2 : Int32) (x3 : Int32) (x4 : Int32) (x5 : Int32) (x6 : Int32) (F : PF) (G : PG), ag_52 x1 x2 x3 x4 x5 x6 F G = some res → xn F ≤ xn res.2.1) (x1 : Int32) (x2 : Int32) (x3 : Int32) (x4 : Int32) (x6 : Int32) (z0 : Int32) (F : PF) (G : PG) (hm : cb_X10_wordAt_92 fu ag_2 ag_52 x1 x2 x3 x4 x6 z0 F G = some res) {b : Nat} {H : Heap} {locs : List Loc} (hw : cMW s A v a b K0 F G H locs) {ls : Array Slot} (hl : lv_has ls 7 [(0, .ref (a 210)), (1, .int x1), (2, .int x2), (3, .int x3), (4, .int x4), (6, .int x6)]) : W p l e R s m args below meth c H locs (xn F - xn K0) (2 * (xn F - xn K0)) Q (F0 m 92 ls [.int z0]) := by
  have hx := C.1
  have hb := C.2.1
  unfold cb_X10_wordAt_92 at hm
  refine lv_istore (lv' := [(5, .int z0), (0, .ref (a 210)), (1, .int x1), (2, .int x2), (3, .int x3), (4, .int x4), (6, .int x6)]) hx hb dX10_wordAt_92 hl (by decide) rfl (fun ls hl => ?_)
  refine lv_iinc (v := (x6 + 1)) (lv' := [(6, .int (x6 + 1)), (5, .int z0), (0, .ref (a 210)), (1, .int x1), (2, .int x2), (3, .int x3), (4, .int x4)]) hx hb dX10_wordAt_94 hl (k := 6) rfl (by rfl) (by decide) rfl (fun ls hl => ?_)
  refine lv_goto (tgt := 52) hx hb dX10_wordAt_97 (by decide) ?_
  exact hag_52 x1 x2 x3 x4 z0 (x6 + 1) F G hm _ _ _ _ hw (lv_sub hl [2, 3, 4, 5, 6, 1, 0] rfl)
theorem cn_X10_wordAt_91 (fu : Nat) {res : Int32 × PF × PG} (ag_2 : Int32 → Int32 → Int32 → PF → PG → PR) (hagn_2 : ∀ (x1 : Int32) (x2 : Int32) (x3 : Int32) (F : PF) (G : PG), ag_2 x1 x2 x3 F G = some res → xn F ≤ xn res.2.1) (ag_52 : Int32 → Int32 → Int32 → Int32 → Int32 → Int32 → PF → PG → PR) (hagn_52 : ∀ (x1 : Int32) (x2 : Int32) (x3 : Int32) (x4 : Int32) (x5 : Int32) (x6 : Int32) (F : PF) (G : PG), ag_52 x1 x2 x3 x4 x5 x6 F G = some res → xn F ≤ xn res.2.1) (x1 : Int32) (x2 : Int32) (x3 : Int32) (x4 : Int32) (x6 : Int32) (F : PF) (G : PG) (hm : cb_X10_wordAt_91 fu ag_2 ag_52 x1 x2 x3 x4 x6 F G = some res) : xn F ≤ xn res.2.1 := by
  unfold cb_X10_wordAt_91 at hm
  exact (cn_X10_wordAt_92 fu ag_2 hagn_2 ag_52 hagn_52 x1 x2 x3 x4 x6 0 F G hm)
theorem cw_X10_wordAt_91 (fu : Nat) {res : Int32 × PF × PG} (C : cMC p R s m args c A v RX10 cX10_wordAt 7 4 85 (xn res.2.1 - xn K0)) (hret : ∀ (b1 : Nat) (H1 : Heap) (locs1 : List Loc) (ls1 : Array Slot) (pc : Nat), cMW s A v a b1 K0 res.2.1 res.2.2 H1 locs1 → narrow .int (.int res.1) = .int res.1 → decode cX10_wordAt pc = .ok (.ireturn, 1) → W p l e R s m args below meth c H1 locs1 (xn res.2.1 - xn K0) (2 * (xn res.2.1 - xn K0)) Q (F0 m pc ls1 [.int res.1])) (ag_2 : Int32 → Int32 → Int32 → PF → PG → PR) (hag_2 : ∀ (x1 : Int32) (x2 : Int32) (x3 : Int32) (F : PF) (G : PG), ag_2 x1 x2 x3 F G = some res → ∀ (b : Nat) (H : Heap) (locs : List Loc) (ls : Array Slot), cMW s A v a b K0 F G H locs → lv_has ls 7 [(0, .ref (a 210)), (1, .int x1), (2, .int x2), (3, .int x3)] → W p l e R s m args below meth c H locs (xn F - xn K0) (2 * (xn F - xn K0)) Q (F0 m 2 ls [])) (hagn_2 : ∀ (x1 : Int32) (x2 : Int32) (x3 : Int32) (F : PF) (G : PG), ag_2 x1 x2 x3 F G = some res → xn F ≤ xn res.2.1) (ag_52 : Int32 → Int32 → Int32 → Int32 → Int32 → Int32 → PF → PG → PR) (hag_52 : ∀ (x1 : Int32) (x2 : Int32) (x3 : Int32) (x4 : Int32) (x5 : Int32) (x6 : Int32) (F : PF) (G : PG), ag_52 x1 x2 x3 x4 x5 x6 F G = some res → ∀ (b : Nat) (H : Heap) (locs : List Loc) (ls : Array Slot), cMW s A v a b K0 F G H locs → lv_has ls 7 [(0, .ref (a 210)), (1, .int x1), (2, .int x2), (3, .int x3), (4, .int x4), (5, .int x5), (6, .int x6)] → W p l e R s m args below meth c H locs (xn F - xn K0) (2 * (xn F - xn K0)) Q (F0 m 52 ls [])) (hagn_52 : ∀ (x1 : Int32) (x2 : Int32) (x3 : Int32) (x4 : Int32) (x5 : Int32) (x6 : Int32) (F : PF) (G : PG), ag_52 x1 x2 x3 x4 x5 x6 F G = some res → xn F ≤ xn res.2.1) (x1 : Int32) (x2 : Int32) (x3 : Int32) (x4 : Int32) (x6 : Int32) (F : PF) (G : PG) (hm : cb_X10_wordAt_91 fu ag_2 ag_52 x1 x2 x3 x4 x6 F G = some res) {b : Nat} {H : Heap} {locs : List Loc} (hw : cMW s A v a b K0 F G H locs) {ls : Array Slot} (hl : lv_has ls 7 [(0, .ref (a 210)), (1, .int x1), (2, .int x2), (3, .int x3), (4, .int x4), (6, .int x6)]) : W p l e R s m args below meth c H locs (xn F - xn K0) (2 * (xn F - xn K0)) Q (F0 m 91 ls []) := by
  have hx := C.1
  have hb := C.2.1
  unfold cb_X10_wordAt_91 at hm
  refine lv_iconst (v := 0) hx hb dX10_wordAt_91 (by decide) ?_
  exact cw_X10_wordAt_92 fu C hret ag_2 hag_2 hagn_2 ag_52 hag_52 hagn_52 x1 x2 x3 x4 x6 0 F G hm hw (lv_sub hl [0, 1, 2, 3, 4, 5] rfl)
theorem cn_X10_wordAt_87 (fu : Nat) {res : Int32 × PF × PG} (ag_2 : Int32 → Int32 → Int32 → PF → PG → PR) (hagn_2 : ∀ (x1 : Int32) (x2 : Int32) (x3 : Int32) (F : PF) (G : PG), ag_2 x1 x2 x3 F G = some res → xn F ≤ xn res.2.1) (ag_52 : Int32 → Int32 → Int32 → Int32 → Int32 → Int32 → PF → PG → PR) (hagn_52 : ∀ (x1 : Int32) (x2 : Int32) (x3 : Int32) (x4 : Int32) (x5 : Int32) (x6 : Int32) (F : PF) (G : PG), ag_52 x1 x2 x3 x4 x5 x6 F G = some res → xn F ≤ xn res.2.1) (x1 : Int32) (x2 : Int32) (x3 : Int32) (x4 : Int32) (x6 : Int32) (F : PF) (G : PG) (hm : cb_X10_wordAt_87 fu ag_2 ag_52 x1 x2 x3 x4 x6 F G = some res) : xn F ≤ xn res.2.1 := by
  unfold cb_X10_wordAt_87 at hm
  exact (cn_X10_wordAt_92 fu ag_2 hagn_2 ag_52 hagn_52 x1 x2 x3 x4 x6 1 F G hm)
theorem cw_X10_wordAt_87 (fu : Nat) {res : Int32 × PF × PG} (C : cMC p R s m args c A v RX10 cX10_wordAt 7 4 85 (xn res.2.1 - xn K0)) (hret : ∀ (b1 : Nat) (H1 : Heap) (locs1 : List Loc) (ls1 : Array Slot) (pc : Nat), cMW s A v a b1 K0 res.2.1 res.2.2 H1 locs1 → narrow .int (.int res.1) = .int res.1 → decode cX10_wordAt pc = .ok (.ireturn, 1) → W p l e R s m args below meth c H1 locs1 (xn res.2.1 - xn K0) (2 * (xn res.2.1 - xn K0)) Q (F0 m pc ls1 [.int res.1])) (ag_2 : Int32 → Int32 → Int32 → PF → PG → PR) (hag_2 : ∀ (x1 : Int32) (x2 : Int32) (x3 : Int32) (F : PF) (G : PG), ag_2 x1 x2 x3 F G = some res → ∀ (b : Nat) (H : Heap) (locs : List Loc) (ls : Array Slot), cMW s A v a b K0 F G H locs → lv_has ls 7 [(0, .ref (a 210)), (1, .int x1), (2, .int x2), (3, .int x3)] → W p l e R s m args below meth c H locs (xn F - xn K0) (2 * (xn F - xn K0)) Q (F0 m 2 ls [])) (hagn_2 : ∀ (x1 : Int32) (x2 : Int32) (x3 : Int32) (F : PF) (G : PG), ag_2 x1 x2 x3 F G = some res → xn F ≤ xn res.2.1) (ag_52 : Int32 → Int32 → Int32 → Int32 → Int32 → Int32 → PF → PG → PR) (hag_52 : ∀ (x1 : Int32) (x2 : Int32) (x3 : Int32) (x4 : Int32) (x5 : Int32) (x6 : Int32) (F : PF) (G : PG), ag_52 x1 x2 x3 x4 x5 x6 F G = some res → ∀ (b : Nat) (H : Heap) (locs : List Loc) (ls : Array Slot), cMW s A v a b K0 F G H locs → lv_has ls 7 [(0, .ref (a 210)), (1, .int x1), (2, .int x2), (3, .int x3), (4, .int x4), (5, .int x5), (6, .int x6)] → W p l e R s m args below meth c H locs (xn F - xn K0) (2 * (xn F - xn K0)) Q (F0 m 52 ls [])) (hagn_52 : ∀ (x1 : Int32) (x2 : Int32) (x3 : Int32) (x4 : Int32) (x5 : Int32) (x6 : Int32) (F : PF) (G : PG), ag_52 x1 x2 x3 x4 x5 x6 F G = some res → xn F ≤ xn res.2.1) (x1 : Int32) (x2 : Int32) (x3 : Int32) (x4 : Int32) (x6 : Int32) (F : PF) (G : PG) (hm : cb_X10_wordAt_87 fu ag_2 ag_52 x1 x2 x3 x4 x6 F G = some res) {b : Nat} {H : Heap} {locs : List Loc} (hw : cMW s A v a b K0 F G H locs) {ls : Array Slot} (hl : lv_has ls 7 [(0, .ref (a 210)), (1, .int x1), (2, .int x2), (3, .int x3), (4, .int x4), (6, .int x6)]) : W p l e R s m args below meth c H locs (xn F - xn K0) (2 * (xn F - xn K0)) Q (F0 m 87 ls []) := by
  have hx := C.1
  have hb := C.2.1
  unfold cb_X10_wordAt_87 at hm
  refine lv_iconst (v := 1) hx hb dX10_wordAt_87 (by decide) ?_
  refine lv_goto (tgt := 92) hx hb dX10_wordAt_88 (by decide) ?_
  exact cw_X10_wordAt_92 fu C hret ag_2 hag_2 hagn_2 ag_52 hag_52 hagn_52 x1 x2 x3 x4 x6 1 F G hm hw (lv_sub hl [0, 1, 2, 3, 4, 5] rfl)
theorem cn_X10_wordAt_84 (fu : Nat) {res : Int32 × PF × PG} (ag_2 : Int32 → Int32 → Int32 → PF → PG → PR) (hagn_2 : ∀ (x1 : Int32) (x2 : Int32) (x3 : Int32) (F : PF) (G : PG), ag_2 x1 x2 x3 F G = some res → xn F ≤ xn res.2.1) (ag_52 : Int32 → Int32 → Int32 → Int32 → Int32 → Int32 → PF → PG → PR) (hagn_52 : ∀ (x1 : Int32) (x2 : Int32) (x3 : Int32) (x4 : Int32) (x5 : Int32) (x6 : Int32) (F : PF) (G : PG), ag_52 x1 x2 x3 x4 x5 x6 F G = some res → xn F ≤ xn res.2.1) (x1 : Int32) (x2 : Int32) (x3 : Int32) (x4 : Int32) (x6 : Int32) (z0 : Int32) (z1 : Int32) (F : PF) (G : PG) (hm : cb_X10_wordAt_84 fu ag_2 ag_52 x1 x2 x3 x4 x6 z0 z1 F G = some res) : xn F ≤ xn res.2.1 := by
  unfold cb_X10_wordAt_84 at hm
  by_cases c_1 : z1 = z0
  · have hm := (if_pos c_1).symm.trans hm
    exact (cn_X10_wordAt_87 fu ag_2 hagn_2 ag_52 hagn_52 x1 x2 x3 x4 x6 F G hm)
  · have hm := (if_neg c_1).symm.trans hm
    exact (cn_X10_wordAt_91 fu ag_2 hagn_2 ag_52 hagn_52 x1 x2 x3 x4 x6 F G hm)
theorem cw_X10_wordAt_84 (fu : Nat) {res : Int32 × PF × PG} (C : cMC p R s m args c A v RX10 cX10_wordAt 7 4 85 (xn res.2.1 - xn K0)) (hret : ∀ (b1 : Nat) (H1 : Heap) (locs1 : List Loc) (ls1 : Array Slot) (pc : Nat), cMW s A v a b1 K0 res.2.1 res.2.2 H1 locs1 → narrow .int (.int res.1) = .int res.1 → decode cX10_wordAt pc = .ok (.ireturn, 1) → W p l e R s m args below meth c H1 locs1 (xn res.2.1 - xn K0) (2 * (xn res.2.1 - xn K0)) Q (F0 m pc ls1 [.int res.1])) (ag_2 : Int32 → Int32 → Int32 → PF → PG → PR) (hag_2 : ∀ (x1 : Int32) (x2 : Int32) (x3 : Int32) (F : PF) (G : PG), ag_2 x1 x2 x3 F G = some res → ∀ (b : Nat) (H : Heap) (locs : List Loc) (ls : Array Slot), cMW s A v a b K0 F G H locs → lv_has ls 7 [(0, .ref (a 210)), (1, .int x1), (2, .int x2), (3, .int x3)] → W p l e R s m args below meth c H locs (xn F - xn K0) (2 * (xn F - xn K0)) Q (F0 m 2 ls [])) (hagn_2 : ∀ (x1 : Int32) (x2 : Int32) (x3 : Int32) (F : PF) (G : PG), ag_2 x1 x2 x3 F G = some res → xn F ≤ xn res.2.1) (ag_52 : Int32 → Int32 → Int32 → Int32 → Int32 → Int32 → PF → PG → PR) (hag_52 : ∀ (x1 : Int32) (x2 : Int32) (x3 : Int32) (x4 : Int32) (x5 : Int32) (x6 : Int32) (F : PF) (G : PG), ag_52 x1 x2 x3 x4 x5 x6 F G = some res → ∀ (b : Nat) (H : Heap) (locs : List Loc) (ls : Array Slot), cMW s A v a b K0 F G H locs → lv_has ls 7 [(0, .ref (a 210)), (1, .int x1), (2, .int x2), (3, .int x3), (4, .int x4), (5, .int x5), (6, .int x6)] → W p l e R s m args below meth c H locs (xn F - xn K0) (2 * (xn F - xn K0)) Q (F0 m 52 ls [])) (hagn_52 : ∀ (x1 : Int32) (x2 : Int32) (x3 : Int32) (x4 : Int32) (x5 : Int32) (x6 : Int32) (F : PF) (G : PG), ag_52 x1 x2 x3 x4 x5 x6 F G = some res → xn F ≤ xn res.2.1) (x1 : Int32) (x2 : Int32) (x3 : Int32) (x4 : Int32) (x6 : Int32) (z0 : Int32) (z1 : Int32) (F : PF) (G : PG) (hm : cb_X10_wordAt_84 fu ag_2 ag_52 x1 x2 x3 x4 x6 z0 z1 F G = some res) {b : Nat} {H : Heap} {locs : List Loc} (hw : cMW s A v a b K0 F G H locs) {ls : Array Slot} (hl : lv_has ls 7 [(0, .ref (a 210)), (1, .int x1), (2, .int x2), (3, .int x3), (4, .int x4), (6, .int x6)]) : W p l e R s m args below meth c H locs (xn F - xn K0) (2 * (xn F - xn K0)) Q (F0 m 84 ls [.int z0, .int z1]) := by
  have hx := C.1
  have hb := C.2.1
  unfold cb_X10_wordAt_84 at hm
  refine lv_icmp_ne (tgt := 91) hx hb dX10_wordAt_84 (by decide) (fun c_1 => ?_) (fun c_1 => ?_)
  · have hm := (if_neg c_1).symm.trans hm
    exact cw_X10_wordAt_91 fu C hret ag_2 hag_2 hagn_2 ag_52 hag_52 hagn_52 x1 x2 x3 x4 x6 F G hm hw (lv_sub hl [0, 1, 2, 3, 4, 5] rfl)
  · have hm := (if_pos c_1).symm.trans hm
    exact cw_X10_wordAt_87 fu C hret ag_2 hag_2 hagn_2 ag_52 hag_52 hagn_52 x1 x2 x3 x4 x6 F G hm hw (lv_sub hl [0, 1, 2, 3, 4, 5] rfl)
theorem cn_X10_wordAt_73 (fu : Nat) {res : Int32 × PF × PG} (ag_2 : Int32 → Int32 → Int32 → PF → PG → PR) (hagn_2 : ∀ (x1 : Int32) (x2 : Int32) (x3 : Int32) (F : PF) (G : PG), ag_2 x1 x2 x3 F G = some res → xn F ≤ xn res.2.1) (ag_52 : Int32 → Int32 → Int32 → Int32 → Int32 → Int32 → PF → PG → PR) (hagn_52 : ∀ (x1 : Int32) (x2 : Int32) (x3 : Int32) (x4 : Int32) (x5 : Int32) (x6 : Int32) (F : PF) (G : PG), ag_52 x1 x2 x3 x4 x5 x6 F G = some res → xn F ≤ xn res.2.1) (x1 : Int32) (x2 : Int32) (x3 : Int32) (x4 : Int32) (x6 : Int32) (z0 : Int32) (F : PF) (G : PG) (hm : cb_X10_wordAt_73 fu ag_2 ag_52 x1 x2 x3 x4 x6 z0 F G = some res) : xn F ≤ xn res.2.1 := by
  unfold cb_X10_wordAt_73 at hm
  obtain ⟨⟨r1, F1, G1⟩, hc, hm⟩ := bind_elim hm
  exact Nat.le_trans (cn_X9_at fu (x1 + x6) F G _ hc) (cn_X10_wordAt_84 fu ag_2 hagn_2 ag_52 hagn_52 x1 x2 x3 x4 x6 r1 z0 F1 G1 hm)
theorem cw_X10_wordAt_73 (fu : Nat) {res : Int32 × PF × PG} (C : cMC p R s m args c A v RX10 cX10_wordAt 7 4 85 (xn res.2.1 - xn K0)) (hret : ∀ (b1 : Nat) (H1 : Heap) (locs1 : List Loc) (ls1 : Array Slot) (pc : Nat), cMW s A v a b1 K0 res.2.1 res.2.2 H1 locs1 → narrow .int (.int res.1) = .int res.1 → decode cX10_wordAt pc = .ok (.ireturn, 1) → W p l e R s m args below meth c H1 locs1 (xn res.2.1 - xn K0) (2 * (xn res.2.1 - xn K0)) Q (F0 m pc ls1 [.int res.1])) (ag_2 : Int32 → Int32 → Int32 → PF → PG → PR) (hag_2 : ∀ (x1 : Int32) (x2 : Int32) (x3 : Int32) (F : PF) (G : PG), ag_2 x1 x2 x3 F G = some res → ∀ (b : Nat) (H : Heap) (locs : List Loc) (ls : Array Slot), cMW s A v a b K0 F G H locs → lv_has ls 7 [(0, .ref (a 210)), (1, .int x1), (2, .int x2), (3, .int x3)] → W p l e R s m args below meth c H locs (xn F - xn K0) (2 * (xn F - xn K0)) Q (F0 m 2 ls [])) (hagn_2 : ∀ (x1 : Int32) (x2 : Int32) (x3 : Int32) (F : PF) (G : PG), ag_2 x1 x2 x3 F G = some res → xn F ≤ xn res.2.1) (ag_52 : Int32 → Int32 → Int32 → Int32 → Int32 → Int32 → PF → PG → PR) (hag_52 : ∀ (x1 : Int32) (x2 : Int32) (x3 : Int32) (x4 : Int32) (x5 : Int32) (x6 : Int32) (F : PF) (G : PG), ag_52 x1 x2 x3 x4 x5 x6 F G = some res → ∀ (b : Nat) (H : Heap) (locs : List Loc) (ls : Array Slot), cMW s A v a b K0 F G H locs → lv_has ls 7 [(0, .ref (a 210)), (1, .int x1), (2, .int x2), (3, .int x3), (4, .int x4), (5, .int x5), (6, .int x6)] → W p l e R s m args below meth c H locs (xn F - xn K0) (2 * (xn F - xn K0)) Q (F0 m 52 ls [])) (hagn_52 : ∀ (x1 : Int32) (x2 : Int32) (x3 : Int32) (x4 : Int32) (x5 : Int32) (x6 : Int32) (F : PF) (G : PG), ag_52 x1 x2 x3 x4 x5 x6 F G = some res → xn F ≤ xn res.2.1) (x1 : Int32) (x2 : Int32) (x3 : Int32) (x4 : Int32) (x6 : Int32) (z0 : Int32) (F : PF) (G : PG) (hm : cb_X10_wordAt_73 fu ag_2 ag_52 x1 x2 x3 x4 x6 z0 F G = some res) {b : Nat} {H : Heap} {locs : List Loc} (hw : cMW s A v a b K0 F G H locs) {ls : Array Slot} (hl : lv_has ls 7 [(0, .ref (a 210)), (1, .int x1), (2, .int x2), (3, .int x3), (4, .int x4), (6, .int x6)]) : W p l e R s m args below meth c H locs (xn F - xn K0) (2 * (xn F - xn K0)) Q (F0 m 73 ls [.int z0]) := by
  have hx := C.1
  have hb := C.2.1
  unfold cb_X10_wordAt_73 at hm
  refine lv_aload_n hx hb dX10_wordAt_73 rfl (lv_at hl 0 rfl) ?_
  refine cg_X10_33 C hw dX10_wordAt_74 ?_
  refine lv_iload_n hx hb dX10_wordAt_77 rfl (lv_at hl 1 rfl) ?_
  refine lv_iload hx hb dX10_wordAt_78 (lv_at hl 5 rfl) ?_
  refine lv_iadd hx hb dX10_wordAt_80 ?_
  obtain ⟨⟨r1, F1, G1⟩, hc, hm⟩ := bind_elim hm
  refine ccallI (n := 1) (As := [.int (x1 + x6)]) (rest := [.int z0]) C hw (ck_X9_at l v a _ _ fu (x1 + x6) F G r1 F1 G1 hc) (cn_X9_at fu (x1 + x6) F G _ hc) (Nat.sub_le_sub_right (cn_X10_wordAt_84 fu ag_2 hagn_2 ag_52 hagn_52 x1 x2 x3 x4 x6 r1 z0 F1 G1 hm) _) (crecv_X9 C hw) cm_61 cm_62 cm_63 cm_6 cm_64 (by decide +kernel) rfl (by omega) (by omega) hl.1 rfl (Nat.le_of_ble_eq_true rfl) dX10_wordAt_81 (fun b H locs hw => ?_)
  exact cw_X10_wordAt_84 fu C hret ag_2 hag_2 hagn_2 ag_52 hag_52 hagn_52 x1 x2 x3 x4 x6 r1 z0 F1 G1 hm hw (lv_sub hl [0, 1, 2, 3, 4, 5] rfl)
theorem cn_X10_wordAt_63 (fu : Nat) {res : Int32 × PF × PG} (ag_2 : Int32 → Int32 → Int32 → PF → PG → PR) (hagn_2 : ∀ (x1 : Int32) (x2 : Int32) (x3 : Int32) (F : PF) (G : PG), ag_2 x1 x2 x3 F G = some res → xn F ≤ xn res.2.1) (ag_52 : Int32 → Int32 → Int32 → Int32 → Int32 → Int32 → PF → PG → PR) (hagn_52 : ∀ (x1 : Int32) (x2 : Int32) (x3 : Int32) (x4 : Int32) (x5 : Int32) (x6 : Int32) (F : PF) (G : PG), ag_52 x1 x2 x3 x4 x5 x6 F G = some res → xn F ≤ xn res.2.1) (x1 : Int32) (x2 : Int32) (x3 : Int32) (x4 : Int32) (x6 : Int32) (F : PF) (G : PG) (hm : cb_X10_wordAt_63 fu ag_2 ag_52 x1 x2 x3 x4 x6 F G = some res) : xn F ≤ xn res.2.1 := by
  unfold cb_X10_wordAt_63 at hm
  obtain ⟨⟨r1, F1, G1⟩, hc, hm⟩ := bind_elim hm
  exact Nat.le_trans (cn_J0_charAt_5068e fu 2 (x4 + x6) F G _ hc) (cn_X10_wordAt_73 fu ag_2 hagn_2 ag_52 hagn_52 x1 x2 x3 x4 x6 r1 F1 G1 hm)
theorem cw_X10_wordAt_63 (fu : Nat) {res : Int32 × PF × PG} (C : cMC p R s m args c A v RX10 cX10_wordAt 7 4 85 (xn res.2.1 - xn K0)) (hret : ∀ (b1 : Nat) (H1 : Heap) (locs1 : List Loc) (ls1 : Array Slot) (pc : Nat), cMW s A v a b1 K0 res.2.1 res.2.2 H1 locs1 → narrow .int (.int res.1) = .int res.1 → decode cX10_wordAt pc = .ok (.ireturn, 1) → W p l e R s m args below meth c H1 locs1 (xn res.2.1 - xn K0) (2 * (xn res.2.1 - xn K0)) Q (F0 m pc ls1 [.int res.1])) (ag_2 : Int32 → Int32 → Int32 → PF → PG → PR) (hag_2 : ∀ (x1 : Int32) (x2 : Int32) (x3 : Int32) (F : PF) (G : PG), ag_2 x1 x2 x3 F G = some res → ∀ (b : Nat) (H : Heap) (locs : List Loc) (ls : Array Slot), cMW s A v a b K0 F G H locs → lv_has ls 7 [(0, .ref (a 210)), (1, .int x1), (2, .int x2), (3, .int x3)] → W p l e R s m args below meth c H locs (xn F - xn K0) (2 * (xn F - xn K0)) Q (F0 m 2 ls [])) (hagn_2 : ∀ (x1 : Int32) (x2 : Int32) (x3 : Int32) (F : PF) (G : PG), ag_2 x1 x2 x3 F G = some res → xn F ≤ xn res.2.1) (ag_52 : Int32 → Int32 → Int32 → Int32 → Int32 → Int32 → PF → PG → PR) (hag_52 : ∀ (x1 : Int32) (x2 : Int32) (x3 : Int32) (x4 : Int32) (x5 : Int32) (x6 : Int32) (F : PF) (G : PG), ag_52 x1 x2 x3 x4 x5 x6 F G = some res → ∀ (b : Nat) (H : Heap) (locs : List Loc) (ls : Array Slot), cMW s A v a b K0 F G H locs → lv_has ls 7 [(0, .ref (a 210)), (1, .int x1), (2, .int x2), (3, .int x3), (4, .int x4), (5, .int x5), (6, .int x6)] → W p l e R s m args below meth c H locs (xn F - xn K0) (2 * (xn F - xn K0)) Q (F0 m 52 ls [])) (hagn_52 : ∀ (x1 : Int32) (x2 : Int32) (x3 : Int32) (x4 : Int32) (x5 : Int32) (x6 : Int32) (F : PF) (G : PG), ag_52 x1 x2 x3 x4 x5 x6 F G = some res → xn F ≤ xn res.2.1) (x1 : Int32) (x2 : Int32) (x3 : Int32) (x4 : Int32) (x6 : Int32) (F : PF) (G : PG) (hm : cb_X10_wordAt_63 fu ag_2 ag_52 x1 x2 x3 x4 x6 F G = some res) {b : Nat} {H : Heap} {locs : List Loc} (hw : cMW s A v a b K0 F G H locs) {ls : Array Slot} (hl : lv_has ls 7 [(0, .ref (a 210)), (1, .int x1), (2, .int x2), (3, .int x3), (4, .int x4), (6, .int x6)]) : W p l e R s m args below meth c H locs (xn F - xn K0) (2 * (xn F - xn K0)) Q (F0 m 63 ls []) := by
  have hx := C.1
  have hb := C.2.1
  unfold cb_X10_wordAt_63 at hm
  refine va_ldcS hx hb C.2.2.2.1 C.2.2.2.2.2.2.2.2.2.1.1.2.2.2.2.2.1 dX10_wordAt_63 ?_
  refine lv_iload hx hb dX10_wordAt_65 (lv_at hl 4 rfl) ?_
  refine lv_iload hx hb dX10_wordAt_67 (lv_at hl 5 rfl) ?_
  refine lv_iadd hx hb dX10_wordAt_69 ?_
  obtain ⟨⟨r1, F1, G1⟩, hc, hm⟩ := bind_elim hm
  refine ccallI (n := 1) (As := [.int (x4 + x6)]) (rest := []) C hw (ck_J0_charAt_5068e l v a _ _ fu 2 (x4 + x6) F G r1 F1 G1 hc) (cn_J0_charAt_5068e fu 2 (x4 + x6) F G _ hc) (Nat.sub_le_sub_right (cn_X10_wordAt_73 fu ag_2 hagn_2 ag_52 hagn_52 x1 x2 x3 x4 x6 r1 F1 G1 hm) _) (vk_recv C.2.2.2.2.2.2.2.2.2.1.1.2.2.1 (clt_J0_charAt_5068e hc) hw.2.2.1) cm_110 cm_111 cm_112 cm_113 cm_114 (by decide +kernel) rfl (by omega) (by omega) hl.1 rfl (Nat.le_of_ble_eq_true rfl) dX10_wordAt_70 (fun b H locs hw => ?_)
  exact cw_X10_wordAt_73 fu C hret ag_2 hag_2 hagn_2 ag_52 hag_52 hagn_52 x1 x2 x3 x4 x6 r1 F1 G1 hm hw (lv_sub hl [0, 1, 2, 3, 4, 5] rfl)
theorem cn_X10_wordAt_58 (fu : Nat) {res : Int32 × PF × PG} (ag_2 : Int32 → Int32 → Int32 → PF → PG → PR) (hagn_2 : ∀ (x1 : Int32) (x2 : Int32) (x3 : Int32) (F : PF) (G : PG), ag_2 x1 x2 x3 F G = some res → xn F ≤ xn res.2.1) (ag_52 : Int32 → Int32 → Int32 → Int32 → Int32 → Int32 → PF → PG → PR) (hagn_52 : ∀ (x1 : Int32) (x2 : Int32) (x3 : Int32) (x4 : Int32) (x5 : Int32) (x6 : Int32) (F : PF) (G : PG), ag_52 x1 x2 x3 x4 x5 x6 F G = some res → xn F ≤ xn res.2.1) (x1 : Int32) (x2 : Int32) (x3 : Int32) (x4 : Int32) (x5 : Int32) (x6 : Int32) (F : PF) (G : PG) (hm : cb_X10_wordAt_58 fu ag_2 ag_52 x1 x2 x3 x4 x5 x6 F G = some res) : xn F ≤ xn res.2.1 := by
  unfold cb_X10_wordAt_58 at hm
  by_cases c_1 : x5 = (0 : Int32)
  · have hm := (if_pos c_1).symm.trans hm
    exact (cn_X10_wordAt_100 fu ag_2 hagn_2 x1 x2 x3 x5 F G hm)
  · have hm := (if_neg c_1).symm.trans hm
    exact (cn_X10_wordAt_63 fu ag_2 hagn_2 ag_52 hagn_52 x1 x2 x3 x4 x6 F G hm)
theorem cw_X10_wordAt_58 (fu : Nat) {res : Int32 × PF × PG} (C : cMC p R s m args c A v RX10 cX10_wordAt 7 4 85 (xn res.2.1 - xn K0)) (hret : ∀ (b1 : Nat) (H1 : Heap) (locs1 : List Loc) (ls1 : Array Slot) (pc : Nat), cMW s A v a b1 K0 res.2.1 res.2.2 H1 locs1 → narrow .int (.int res.1) = .int res.1 → decode cX10_wordAt pc = .ok (.ireturn, 1) → W p l e R s m args below meth c H1 locs1 (xn res.2.1 - xn K0) (2 * (xn res.2.1 - xn K0)) Q (F0 m pc ls1 [.int res.1])) (ag_2 : Int32 → Int32 → Int32 → PF → PG → PR) (hag_2 : ∀ (x1 : Int32) (x2 : Int32) (x3 : Int32) (F : PF) (G : PG), ag_2 x1 x2 x3 F G = some res → ∀ (b : Nat) (H : Heap) (locs : List Loc) (ls : Array Slot), cMW s A v a b K0 F G H locs → lv_has ls 7 [(0, .ref (a 210)), (1, .int x1), (2, .int x2), (3, .int x3)] → W p l e R s m args below meth c H locs (xn F - xn K0) (2 * (xn F - xn K0)) Q (F0 m 2 ls [])) (hagn_2 : ∀ (x1 : Int32) (x2 : Int32) (x3 : Int32) (F : PF) (G : PG), ag_2 x1 x2 x3 F G = some res → xn F ≤ xn res.2.1) (ag_52 : Int32 → Int32 → Int32 → Int32 → Int32 → Int32 → PF → PG → PR) (hag_52 : ∀ (x1 : Int32) (x2 : Int32) (x3 : Int32) (x4 : Int32) (x5 : Int32) (x6 : Int32) (F : PF) (G : PG), ag_52 x1 x2 x3 x4 x5 x6 F G = some res → ∀ (b : Nat) (H : Heap) (locs : List Loc) (ls : Array Slot), cMW s A v a b K0 F G H locs → lv_has ls 7 [(0, .ref (a 210)), (1, .int x1), (2, .int x2), (3, .int x3), (4, .int x4), (5, .int x5), (6, .int x6)] → W p l e R s m args below meth c H locs (xn F - xn K0) (2 * (xn F - xn K0)) Q (F0 m 52 ls [])) (hagn_52 : ∀ (x1 : Int32) (x2 : Int32) (x3 : Int32) (x4 : Int32) (x5 : Int32) (x6 : Int32) (F : PF) (G : PG), ag_52 x1 x2 x3 x4 x5 x6 F G = some res → xn F ≤ xn res.2.1) (x1 : Int32) (x2 : Int32) (x3 : Int32) (x4 : Int32) (x5 : Int32) (x6 : Int32) (F : PF) (G : PG) (hm : cb_X10_wordAt_58 fu ag_2 ag_52 x1 x2 x3 x4 x5 x6 F G = some res) {b : Nat} {H : Heap} {locs : List Loc} (hw : cMW s A v a b K0 F G H locs) {ls : Array Slot} (hl : lv_has ls 7 [(0, .ref (a 210)), (1, .int x1), (2, .int x2), (3, .int x3), (4, .int x4), (5, .int x5), (6, .int x6)]) : W p l e R s m args below meth c H locs (xn F - xn K0) (2 * (xn F - xn K0)) Q (F0 m 58 ls []) := by
  have hx := C.1
  have hb := C.2.1
  unfold cb_X10_wordAt_58 at hm
  refine lv_iload hx hb dX10_wordAt_58 (lv_at hl 5 rfl) ?_
  refine lv_if_eq (tgt := 100) hx hb dX10_wordAt_60 (by decide) (fun c_1 => ?_) (fun c_1 => ?_)
  · have hm := (if_pos c_1).symm.trans hm
    exact cw_X10_wordAt_100 fu C hret ag_2 hag_2 hagn_2 x1 x2 x3 x5 F G hm hw (lv_sub hl [0, 1, 2, 3, 5] rfl)
  · have hm := (if_neg c_1).symm.trans hm
    exact cw_X10_wordAt_63 fu C hret ag_2 hag_2 hagn_2 ag_52 hag_52 hagn_52 x1 x2 x3 x4 x6 F G hm hw (lv_sub hl [0, 1, 2, 3, 4, 6] rfl)
theorem cn_X10_wordAt_52 (fu : Nat) {res : Int32 × PF × PG} (ag_2 : Int32 → Int32 → Int32 → PF → PG → PR) (hagn_2 : ∀ (x1 : Int32) (x2 : Int32) (x3 : Int32) (F : PF) (G : PG), ag_2 x1 x2 x3 F G = some res → xn F ≤ xn res.2.1) (ag_52 : Int32 → Int32 → Int32 → Int32 → Int32 → Int32 → PF → PG → PR) (hagn_52 : ∀ (x1 : Int32) (x2 : Int32) (x3 : Int32) (x4 : Int32) (x5 : Int32) (x6 : Int32) (F : PF) (G : PG), ag_52 x1 x2 x3 x4 x5 x6 F G = some res → xn F ≤ xn res.2.1) (x1 : Int32) (x2 : Int32) (x3 : Int32) (x4 : Int32) (x5 : Int32) (x6 : Int32) (F : PF) (G : PG) (hm : cb_X10_wordAt_52 fu ag_2 ag_52 x1 x2 x3 x4 x5 x6 F G = some res) : xn F ≤ xn res.2.1 := by
  unfold cb_X10_wordAt_52 at hm
  by_cases c_1 : x2 ≤ x6
  · have hm := (if_pos c_1).symm.trans hm
    exact (cn_X10_wordAt_100 fu ag_2 hagn_2 x1 x2 x3 x5 F G hm)
  · have hm := (if_neg c_1).symm.trans hm
    exact (cn_X10_wordAt_58 fu ag_2 hagn_2 ag_52 hagn_52 x1 x2 x3 x4 x5 x6 F G hm)
theorem cw_X10_wordAt_52 (fu : Nat) {res : Int32 × PF × PG} (C : cMC p R s m args c A v RX10 cX10_wordAt 7 4 85 (xn res.2.1 - xn K0)) (hret : ∀ (b1 : Nat) (H1 : Heap) (locs1 : List Loc) (ls1 : Array Slot) (pc : Nat), cMW s A v a b1 K0 res.2.1 res.2.2 H1 locs1 → narrow .int (.int res.1) = .int res.1 → decode cX10_wordAt pc = .ok (.ireturn, 1) → W p l e R s m args below meth c H1 locs1 (xn res.2.1 - xn K0) (2 * (xn res.2.1 - xn K0)) Q (F0 m pc ls1 [.int res.1])) (ag_2 : Int32 → Int32 → Int32 → PF → PG → PR) (hag_2 : ∀ (x1 : Int32) (x2 : Int32) (x3 : Int32) (F : PF) (G : PG), ag_2 x1 x2 x3 F G = some res → ∀ (b : Nat) (H : Heap) (locs : List Loc) (ls : Array Slot), cMW s A v a b K0 F G H locs → lv_has ls 7 [(0, .ref (a 210)), (1, .int x1), (2, .int x2), (3, .int x3)] → W p l e R s m args below meth c H locs (xn F - xn K0) (2 * (xn F - xn K0)) Q (F0 m 2 ls [])) (hagn_2 : ∀ (x1 : Int32) (x2 : Int32) (x3 : Int32) (F : PF) (G : PG), ag_2 x1 x2 x3 F G = some res → xn F ≤ xn res.2.1) (ag_52 : Int32 → Int32 → Int32 → Int32 → Int32 → Int32 → PF → PG → PR) (hag_52 : ∀ (x1 : Int32) (x2 : Int32) (x3 : Int32) (x4 : Int32) (x5 : Int32) (x6 : Int32) (F : PF) (G : PG), ag_52 x1 x2 x3 x4 x5 x6 F G = some res → ∀ (b : Nat) (H : Heap) (locs : List Loc) (ls : Array Slot), cMW s A v a b K0 F G H locs → lv_has ls 7 [(0, .ref (a 210)), (1, .int x1), (2, .int x2), (3, .int x3), (4, .int x4), (5, .int x5), (6, .int x6)] → W p l e R s m args below meth c H locs (xn F - xn K0) (2 * (xn F - xn K0)) Q (F0 m 52 ls [])) (hagn_52 : ∀ (x1 : Int32) (x2 : Int32) (x3 : Int32) (x4 : Int32) (x5 : Int32) (x6 : Int32) (F : PF) (G : PG), ag_52 x1 x2 x3 x4 x5 x6 F G = some res → xn F ≤ xn res.2.1) (x1 : Int32) (x2 : Int32) (x3 : Int32) (x4 : Int32) (x5 : Int32) (x6 : Int32) (F : PF) (G : PG) (hm : cb_X10_wordAt_52 fu ag_2 ag_52 x1 x2 x3 x4 x5 x6 F G = some res) {b : Nat} {H : Heap} {locs : List Loc} (hw : cMW s A v a b K0 F G H locs) {ls : Array Slot} (hl : lv_has ls 7 [(0, .ref (a 210)), (1, .int x1), (2, .int x2), (3, .int x3), (4, .int x4), (5, .int x5), (6, .int x6)]) : W p l e R s m args below meth c H locs (xn F - xn K0) (2 * (xn F - xn K0)) Q (F0 m 52 ls []) := by
  have hx := C.1
  have hb := C.2.1
  unfold cb_X10_wordAt_52 at hm
  refine lv_iload hx hb dX10_wordAt_52 (lv_at hl 6 rfl) ?_
  refine lv_iload_n hx hb dX10_wordAt_54 rfl (lv_at hl 2 rfl) ?_
  refine lv_icmp_ge (tgt := 100) hx hb dX10_wordAt_55 (by decide) (fun c_1 => ?_) (fun c_1 => ?_)
  · have hm := (if_pos c_1).symm.trans hm
    exact cw_X10_wordAt_100 fu C hret ag_2 hag_2 hagn_2 x1 x2 x3 x5 F G hm hw (lv_sub hl [0, 1, 2, 3, 5] rfl)
  · have hm := (if_neg c_1).symm.trans hm
    exact cw_X10_wordAt_58 fu C hret ag_2 hag_2 hagn_2 ag_52 hag_52 hagn_52 x1 x2 x3 x4 x5 x6 F G hm hw (lv_sub hl [0, 1, 2, 3, 4, 5, 6] rfl)
theorem cnl_X10_wordAt_52 (fu : Nat) {res : Int32 × PF × PG} (ag_2 : Int32 → Int32 → Int32 → PF → PG → PR) (hagn_2 : ∀ (x1 : Int32) (x2 : Int32) (x3 : Int32) (F : PF) (G : PG), ag_2 x1 x2 x3 F G = some res → xn F ≤ xn res.2.1) : ∀ (n : Nat) (x1 : Int32) (x2 : Int32) (x3 : Int32) (x4 : Int32) (x5 : Int32) (x6 : Int32) (F : PF) (G : PG) (hm : cl_X10_wordAt_52 fu ag_2 n x1 x2 x3 x4 x5 x6 F G = some res), xn F ≤ xn res.2.1 := by
  intro n
  induction n with
  | zero =>
    intro x1 x2 x3 x4 x5 x6 F G hm
    exact no_elim (show (none : PR) = some res from hm)
  | succ n ih =>
    intro x1 x2 x3 x4 x5 x6 F G hm
    exact cn_X10_wordAt_52 fu ag_2 hagn_2 (cl_X10_wordAt_52 fu ag_2 n) (fun x1 x2 x3 x4 x5 x6 F G hm => ih x1 x2 x3 x4 x5 x6 F G hm) x1 x2 x3 x4 x5 x6 F G hm
theorem cwl_X10_wordAt_52 (fu : Nat) {res : Int32 × PF × PG} (C : cMC p R s m args c A v RX10 cX10_wordAt 7 4 85 (xn res.2.1 - xn K0)) (hret : ∀ (b1 : Nat) (H1 : Heap) (locs1 : List Loc) (ls1 : Array Slot) (pc : Nat), cMW s A v a b1 K0 res.2.1 res.2.2 H1 locs1 → narrow .int (.int res.1) = .int res.1 → decode cX10_wordAt pc = .ok (.ireturn, 1) → W p l e R s m args below meth c H1 locs1 (xn res.2.1 - xn K0) (2 * (xn res.2.1 - xn K0)) Q (F0 m pc ls1 [.int res.1])) (ag_2 : Int32 → Int32 → Int32 → PF → PG → PR) (hag_2 : ∀ (x1 : Int32) (x2 : Int32) (x3 : Int32) (F : PF) (G : PG), ag_2 x1 x2 x3 F G = some res → ∀ (b : Nat) (H : Heap) (locs : List Loc) (ls : Array Slot), cMW s A v a b K0 F G H locs → lv_has ls 7 [(0, .ref (a 210)), (1, .int x1), (2, .int x2), (3, .int x3)] → W p l e R s m args below meth c H locs (xn F - xn K0) (2 * (xn F - xn K0)) Q (F0 m 2 ls [])) (hagn_2 : ∀ (x1 : Int32) (x2 : Int32) (x3 : Int32) (F : PF) (G : PG), ag_2 x1 x2 x3 F G = some res → xn F ≤ xn res.2.1) : ∀ (n : Nat) (x1 : Int32) (x2 : Int32) (x3 : Int32) (x4 : Int32) (x5 : Int32) (x6 : Int32) (F : PF) (G : PG) (hm : cl_X10_wordAt_52 fu ag_2 n x1 x2 x3 x4 x5 x6 F G = some res) {b : Nat} {H : Heap} {locs : List Loc} (hw : cMW s A v a b K0 F G H locs) {ls : Array Slot} (hl : lv_has ls 7 [(0, .ref (a 210)), (1, .int x1), (2, .int x2), (3, .int x3), (4, .int x4), (5, .int x5), (6, .int x6)]), W p l e R s m args below meth c H locs (xn F - xn K0) (2 * (xn F - xn K0)) Q (F0 m 52 ls []) := by
  intro n
  induction n with
  | zero =>
    intro x1 x2 x3 x4 x5 x6 F G hm
    exact no_elim (show (none : PR) = some res from hm)
  | succ n ih =>
    intro x1 x2 x3 x4 x5 x6 F G hm b H locs hw ls hl
    exact cw_X10_wordAt_52 fu C hret ag_2 hag_2 hagn_2 (cl_X10_wordAt_52 fu ag_2 n) (fun x1 x2 x3 x4 x5 x6 F G hm b H locs ls hw hl => ih x1 x2 x3 x4 x5 x6 F G hm hw hl) (fun x1 x2 x3 x4 x5 x6 F G hm => cnl_X10_wordAt_52 fu ag_2 hagn_2 n x1 x2 x3 x4 x5 x6 F G hm) x1 x2 x3 x4 x5 x6 F G hm hw hl
theorem cn_X10_wordAt_47 (fu : Nat) {res : Int32 × PF × PG} (ag_2 : Int32 → Int32 → Int32 → PF → PG → PR) (hagn_2 : ∀ (x1 : Int32) (x2 : Int32) (x3 : Int32) (F : PF) (G : PG), ag_2 x1 x2 x3 F G = some res → xn F ≤ xn res.2.1) (x1 : Int32) (x2 : Int32) (x3 : Int32) (x4 : Int32) (z0 : Int32) (F : PF) (G : PG) (hm : cb_X10_wordAt_47 fu ag_2 x1 x2 x3 x4 z0 F G = some res) : xn F ≤ xn res.2.1 := by
  unfold cb_X10_wordAt_47 at hm
  exact (cnl_X10_wordAt_52 fu ag_2 hagn_2 fu x1 x2 x3 x4 z0 0 F G hm)
theorem cw_X10_wordAt_47 (fu : Nat) {res : Int32 × PF × PG} (C : cMC p R s m args c A v RX10 cX10_wordAt 7 4 85 (xn res.2.1 - xn K0)) (hret : ∀ (b1 : Nat) (H1 : Heap) (locs1 : List Loc) (ls1 : Array Slot) (pc : Nat), cMW s A v a b1 K0 res.2.1 res.2.2 H1 locs1 → narrow .int (.int res.1) = .int res.1 → decode cX10_wordAt pc = .ok (.ireturn, 1) → W p l e R s m args below meth c H1 locs1 (xn res.2.1 - xn K0) (2 * (xn res.2.1 - xn K0)) Q (F0 m pc ls1 [.int res.1])) (ag_2 : Int32 → Int32 → Int32 → PF → PG → PR) (hag_2 : ∀ (x1 : Int32) (x2 : Int32) (x3 : Int32) (F : PF) (G : PG), ag_2 x1 x2 x3 F G = some res → ∀ (b : Nat) (H : Heap) (locs : List Loc) (ls : Array Slot), cMW s A v a b K0 F G H locs → lv_has ls 7 [(0, .ref (a 210)), (1, .int x1), (2, .int x2), (3, .int x3)] → W p l e R s m args below meth c H locs (xn F - xn K0) (2 * (xn F - xn K0)) Q (F0 m 2 ls [])) (hagn_2 : ∀ (x1 : Int32) (x2 : Int32) (x3 : Int32) (F : PF) (G : PG), ag_2 x1 x2 x3 F G = some res → xn F ≤ xn res.2.1) (x1 : Int32) (x2 : Int32) (x3 : Int32) (x4 : Int32) (z0 : Int32) (F : PF) (G : PG) (hm : cb_X10_wordAt_47 fu ag_2 x1 x2 x3 x4 z0 F G = some res) {b : Nat} {H : Heap} {locs : List Loc} (hw : cMW s A v a b K0 F G H locs) {ls : Array Slot} (hl : lv_has ls 7 [(0, .ref (a 210)), (1, .int x1), (2, .int x2), (3, .int x3), (4, .int x4)]) : W p l e R s m args below meth c H locs (xn F - xn K0) (2 * (xn F - xn K0)) Q (F0 m 47 ls [.int z0]) := by
  have hx := C.1
  have hb := C.2.1
  unfold cb_X10_wordAt_47 at hm
  refine lv_istore (lv' := [(5, .int z0), (0, .ref (a 210)), (1, .int x1), (2, .int x2), (3, .int x3), (4, .int x4)]) hx hb dX10_wordAt_47 hl (by decide) rfl (fun ls hl => ?_)
  refine lv_iconst (v := 0) hx hb dX10_wordAt_49 (by decide) ?_
  refine lv_istore (lv' := [(6, .int 0), (5, .int z0), (0, .ref (a 210)), (1, .int x1), (2, .int x2), (3, .int x3), (4, .int x4)]) hx hb dX10_wordAt_50 hl (by decide) rfl (fun ls hl => ?_)
  exact cwl_X10_wordAt_52 fu C hret ag_2 hag_2 hagn_2 fu x1 x2 x3 x4 z0 0 F G hm hw (lv_sub hl [2, 3, 4, 5, 6, 1, 0] rfl)
theorem cn_X10_wordAt_42 (fu : Nat) {res : Int32 × PF × PG} (ag_2 : Int32 → Int32 → Int32 → PF → PG → PR) (hagn_2 : ∀ (x1 : Int32) (x2 : Int32) (x3 : Int32) (F : PF) (G : PG), ag_2 x1 x2 x3 F G = some res → xn F ≤ xn res.2.1) (x1 : Int32) (x2 : Int32) (x3 : Int32) (x4 : Int32) (F : PF) (G : PG) (hm : cb_X10_wordAt_42 fu ag_2 x1 x2 x3 x4 F G = some res) : xn F ≤ xn res.2.1 := by
  unfold cb_X10_wordAt_42 at hm
  exact (cn_X10_wordAt_47 fu ag_2 hagn_2 x1 x2 x3 x4 1 F G hm)
theorem cw_X10_wordAt_42 (fu : Nat) {res : Int32 × PF × PG} (C : cMC p R s m args c A v RX10 cX10_wordAt 7 4 85 (xn res.2.1 - xn K0)) (hret : ∀ (b1 : Nat) (H1 : Heap) (locs1 : List Loc) (ls1 : Array Slot) (pc : Nat), cMW s A v a b1 K0 res.2.1 res.2.2 H1 locs1 → narrow .int (.int res.1) = .int res.1 → decode cX10_wordAt pc = .ok (.ireturn, 1) → W p l e R s m args below meth c H1 locs1 (xn res.2.1 - xn K0) (2 * (xn res.2.1 - xn K0)) Q (F0 m pc ls1 [.int res.1])) (ag_2 : Int32 → Int32 → Int32 → PF → PG → PR) (hag_2 : ∀ (x1 : Int32) (x2 : Int32) (x3 : Int32) (F : PF) (G : PG), ag_2 x1 x2 x3 F G = some res → ∀ (b : Nat) (H : Heap) (locs : List Loc) (ls : Array Slot), cMW s A v a b K0 F G H locs → lv_has ls 7 [(0, .ref (a 210)), (1, .int x1), (2, .int x2), (3, .int x3)] → W p l e R s m args below meth c H locs (xn F - xn K0) (2 * (xn F - xn K0)) Q (F0 m 2 ls [])) (hagn_2 : ∀ (x1 : Int32) (x2 : Int32) (x3 : Int32) (F : PF) (G : PG), ag_2 x1 x2 x3 F G = some res → xn F ≤ xn res.2.1) (x1 : Int32) (x2 : Int32) (x3 : Int32) (x4 : Int32) (F : PF) (G : PG) (hm : cb_X10_wordAt_42 fu ag_2 x1 x2 x3 x4 F G = some res) {b : Nat} {H : Heap} {locs : List Loc} (hw : cMW s A v a b K0 F G H locs) {ls : Array Slot} (hl : lv_has ls 7 [(0, .ref (a 210)), (1, .int x1), (2, .int x2), (3, .int x3), (4, .int x4)]) : W p l e R s m args below meth c H locs (xn F - xn K0) (2 * (xn F - xn K0)) Q (F0 m 42 ls []) := by
  have hx := C.1
  have hb := C.2.1
  unfold cb_X10_wordAt_42 at hm
  refine lv_iconst (v := 1) hx hb dX10_wordAt_42 (by decide) ?_
  refine lv_goto (tgt := 47) hx hb dX10_wordAt_43 (by decide) ?_
  exact cw_X10_wordAt_47 fu C hret ag_2 hag_2 hagn_2 x1 x2 x3 x4 1 F G hm hw (lv_sub hl [0, 1, 2, 3, 4] rfl)
theorem cn_X10_wordAt_46 (fu : Nat) {res : Int32 × PF × PG} (ag_2 : Int32 → Int32 → Int32 → PF → PG → PR) (hagn_2 : ∀ (x1 : Int32) (x2 : Int32) (x3 : Int32) (F : PF) (G : PG), ag_2 x1 x2 x3 F G = some res → xn F ≤ xn res.2.1) (x1 : Int32) (x2 : Int32) (x3 : Int32) (x4 : Int32) (F : PF) (G : PG) (hm : cb_X10_wordAt_46 fu ag_2 x1 x2 x3 x4 F G = some res) : xn F ≤ xn res.2.1 := by
  unfold cb_X10_wordAt_46 at hm
  exact (cn_X10_wordAt_47 fu ag_2 hagn_2 x1 x2 x3 x4 0 F G hm)
theorem cw_X10_wordAt_46 (fu : Nat) {res : Int32 × PF × PG} (C : cMC p R s m args c A v RX10 cX10_wordAt 7 4 85 (xn res.2.1 - xn K0)) (hret : ∀ (b1 : Nat) (H1 : Heap) (locs1 : List Loc) (ls1 : Array Slot) (pc : Nat), cMW s A v a b1 K0 res.2.1 res.2.2 H1 locs1 → narrow .int (.int res.1) = .int res.1 → decode cX10_wordAt pc = .ok (.ireturn, 1) → W p l e R s m args below meth c H1 locs1 (xn res.2.1 - xn K0) (2 * (xn res.2.1 - xn K0)) Q (F0 m pc ls1 [.int res.1])) (ag_2 : Int32 → Int32 → Int32 → PF → PG → PR) (hag_2 : ∀ (x1 : Int32) (x2 : Int32) (x3 : Int32) (F : PF) (G : PG), ag_2 x1 x2 x3 F G = some res → ∀ (b : Nat) (H : Heap) (locs : List Loc) (ls : Array Slot), cMW s A v a b K0 F G H locs → lv_has ls 7 [(0, .ref (a 210)), (1, .int x1), (2, .int x2), (3, .int x3)] → W p l e R s m args below meth c H locs (xn F - xn K0) (2 * (xn F - xn K0)) Q (F0 m 2 ls [])) (hagn_2 : ∀ (x1 : Int32) (x2 : Int32) (x3 : Int32) (F : PF) (G : PG), ag_2 x1 x2 x3 F G = some res → xn F ≤ xn res.2.1) (x1 : Int32) (x2 : Int32) (x3 : Int32) (x4 : Int32) (F : PF) (G : PG) (hm : cb_X10_wordAt_46 fu ag_2 x1 x2 x3 x4 F G = some res) {b : Nat} {H : Heap} {locs : List Loc} (hw : cMW s A v a b K0 F G H locs) {ls : Array Slot} (hl : lv_has ls 7 [(0, .ref (a 210)), (1, .int x1), (2, .int x2), (3, .int x3), (4, .int x4)]) : W p l e R s m args below meth c H locs (xn F - xn K0) (2 * (xn F - xn K0)) Q (F0 m 46 ls []) := by
  have hx := C.1
  have hb := C.2.1
  unfold cb_X10_wordAt_46 at hm
  refine lv_iconst (v := 0) hx hb dX10_wordAt_46 (by decide) ?_
  exact cw_X10_wordAt_47 fu C hret ag_2 hag_2 hagn_2 x1 x2 x3 x4 0 F G hm hw (lv_sub hl [0, 1, 2, 3, 4] rfl)
theorem cn_X10_wordAt_37 (fu : Nat) {res : Int32 × PF × PG} (ag_2 : Int32 → Int32 → Int32 → PF → PG → PR) (hagn_2 : ∀ (x1 : Int32) (x2 : Int32) (x3 : Int32) (F : PF) (G : PG), ag_2 x1 x2 x3 F G = some res → xn F ≤ xn res.2.1) (x1 : Int32) (x2 : Int32) (x3 : Int32) (x4 : Int32) (z0 : Int32) (F : PF) (G : PG) (hm : cb_X10_wordAt_37 fu ag_2 x1 x2 x3 x4 z0 F G = some res) : xn F ≤ xn res.2.1 := by
  unfold cb_X10_wordAt_37 at hm
  by_cases c_1 : z0 = (32 : Int32)
  · have hm := (if_pos c_1).symm.trans hm
    exact (cn_X10_wordAt_42 fu ag_2 hagn_2 x1 x2 x3 x4 F G hm)
  · have hm := (if_neg c_1).symm.trans hm
    exact (cn_X10_wordAt_46 fu ag_2 hagn_2 x1 x2 x3 x4 F G hm)
theorem cw_X10_wordAt_37 (fu : Nat) {res : Int32 × PF × PG} (C : cMC p R s m args c A v RX10 cX10_wordAt 7 4 85 (xn res.2.1 - xn K0)) (hret : ∀ (b1 : Nat) (H1 : Heap) (locs1 : List Loc) (ls1 : Array Slot) (pc : Nat), cMW s A v a b1 K0 res.2.1 res.2.2 H1 locs1 → narrow .int (.int res.1) = .int res.1 → decode cX10_wordAt pc = .ok (.ireturn, 1) → W p l e R s m args below meth c H1 locs1 (xn res.2.1 - xn K0) (2 * (xn res.2.1 - xn K0)) Q (F0 m pc ls1 [.int res.1])) (ag_2 : Int32 → Int32 → Int32 → PF → PG → PR) (hag_2 : ∀ (x1 : Int32) (x2 : Int32) (x3 : Int32) (F : PF) (G : PG), ag_2 x1 x2 x3 F G = some res → ∀ (b : Nat) (H : Heap) (locs : List Loc) (ls : Array Slot), cMW s A v a b K0 F G H locs → lv_has ls 7 [(0, .ref (a 210)), (1, .int x1), (2, .int x2), (3, .int x3)] → W p l e R s m args below meth c H locs (xn F - xn K0) (2 * (xn F - xn K0)) Q (F0 m 2 ls [])) (hagn_2 : ∀ (x1 : Int32) (x2 : Int32) (x3 : Int32) (F : PF) (G : PG), ag_2 x1 x2 x3 F G = some res → xn F ≤ xn res.2.1) (x1 : Int32) (x2 : Int32) (x3 : Int32) (x4 : Int32) (z0 : Int32) (F : PF) (G : PG) (hm : cb_X10_wordAt_37 fu ag_2 x1 x2 x3 x4 z0 F G = some res) {b : Nat} {H : Heap} {locs : List Loc} (hw : cMW s A v a b K0 F G H locs) {ls : Array Slot} (hl : lv_has ls 7 [(0, .ref (a 210)), (1, .int x1), (2, .int x2), (3, .int x3), (4, .int x4)]) : W p l e R s m args below meth c H locs (xn F - xn K0) (2 * (xn F - xn K0)) Q (F0 m 37 ls [.int z0]) := by
  have hx := C.1
  have hb := C.2.1
  unfold cb_X10_wordAt_37 at hm
  refine lv_bipush (v := 32) hx hb dX10_wordAt_37 (by decide) ?_
  refine lv_icmp_ne (tgt := 46) hx hb dX10_wordAt_39 (by decide) (fun c_1 => ?_) (fun c_1 => ?_)
  · have hm := (if_neg c_1).symm.trans hm
    exact cw_X10_wordAt_46 fu C hret ag_2 hag_2 hagn_2 x1 x2 x3 x4 F G hm hw (lv_sub hl [0, 1, 2, 3, 4] rfl)
  · have hm := (if_pos c_1).symm.trans hm
    exact cw_X10_wordAt_42 fu C hret ag_2 hag_2 hagn_2 x1 x2 x3 x4 F G hm hw (lv_sub hl [0, 1, 2, 3, 4] rfl)
theorem cn_X10_wordAt_28 (fu : Nat) {res : Int32 × PF × PG} (ag_2 : Int32 → Int32 → Int32 → PF → PG → PR) (hagn_2 : ∀ (x1 : Int32) (x2 : Int32) (x3 : Int32) (F : PF) (G : PG), ag_2 x1 x2 x3 F G = some res → xn F ≤ xn res.2.1) (x1 : Int32) (x2 : Int32) (x3 : Int32) (x4 : Int32) (F : PF) (G : PG) (hm : cb_X10_wordAt_28 fu ag_2 x1 x2 x3 x4 F G = some res) : xn F ≤ xn res.2.1 := by
  unfold cb_X10_wordAt_28 at hm
  obtain ⟨⟨r1, F1, G1⟩, hc, hm⟩ := bind_elim hm
  exact Nat.le_trans (cn_J0_charAt_5068e fu 2 (x4 + x2) F G _ hc) (cn_X10_wordAt_37 fu ag_2 hagn_2 x1 x2 x3 x4 r1 F1 G1 hm)
theorem cw_X10_wordAt_28 (fu : Nat) {res : Int32 × PF × PG} (C : cMC p R s m args c A v RX10 cX10_wordAt 7 4 85 (xn res.2.1 - xn K0)) (hret : ∀ (b1 : Nat) (H1 : Heap) (locs1 : List Loc) (ls1 : Array Slot) (pc : Nat), cMW s A v a b1 K0 res.2.1 res.2.2 H1 locs1 → narrow .int (.int res.1) = .int res.1 → decode cX10_wordAt pc = .ok (.ireturn, 1) → W p l e R s m args below meth c H1 locs1 (xn res.2.1 - xn K0) (2 * (xn res.2.1 - xn K0)) Q (F0 m pc ls1 [.int res.1])) (ag_2 : Int32 → Int32 → Int32 → PF → PG → PR) (hag_2 : ∀ (x1 : Int32) (x2 : Int32) (x3 : Int32) (F : PF) (G : PG), ag_2 x1 x2 x3 F G = some res → ∀ (b : Nat) (H : Heap) (locs : List Loc) (ls : Array Slot), cMW s A v a b K0 F G H locs → lv_has ls 7 [(0, .ref (a 210)), (1, .int x1), (2, .int x2), (3, .int x3)] → W p l e R s m args below meth c H locs (xn F - xn K0) (2 * (xn F - xn K0)) Q (F0 m 2 ls [])) (hagn_2 : ∀ (x1 : Int32) (x2 : Int32) (x3 : Int32) (F : PF) (G : PG), ag_2 x1 x2 x3 F G = some res → xn F ≤ xn res.2.1) (x1 : Int32) (x2 : Int32) (x3 : Int32) (x4 : Int32) (F : PF) (G : PG) (hm : cb_X10_wordAt_28 fu ag_2 x1 x2 x3 x4 F G = some res) {b : Nat} {H : Heap} {locs : List Loc} (hw : cMW s A v a b K0 F G H locs) {ls : Array Slot} (hl : lv_has ls 7 [(0, .ref (a 210)), (1, .int x1), (2, .int x2), (3, .int x3), (4, .int x4)]) : W p l e R s m args below meth c H locs (xn F - xn K0) (2 * (xn F - xn K0)) Q (F0 m 28 ls []) := by
  have hx := C.1
  have hb := C.2.1
  unfold cb_X10_wordAt_28 at hm
  refine va_ldcS hx hb C.2.2.2.1 C.2.2.2.2.2.2.2.2.2.1.1.2.2.2.2.2.1 dX10_wordAt_28 ?_
  refine lv_iload hx hb dX10_wordAt_30 (lv_at hl 4 rfl) ?_
  refine lv_iload_n hx hb dX10_wordAt_32 rfl (lv_at hl 2 rfl) ?_
  refine lv_iadd hx hb dX10_wordAt_33 ?_
  obtain ⟨⟨r1, F1, G1⟩, hc, hm⟩ := bind_elim hm
  refine ccallI (n := 1) (As := [.int (x4 + x2)]) (rest := []) C hw (ck_J0_charAt_5068e l v a _ _ fu 2 (x4 + x2) F G r1 F1 G1 hc) (cn_J0_charAt_5068e fu 2 (x4 + x2) F G _ hc) (Nat.sub_le_sub_right (cn_X10_wordAt_37 fu ag_2 hagn_2 x1 x2 x3 x4 r1 F1 G1 hm) _) (vk_recv C.2.2.2.2.2.2.2.2.2.1.1.2.2.1 (clt_J0_charAt_5068e hc) hw.2.2.1) cm_110 cm_111 cm_112 cm_113 cm_114 (by decide +kernel) rfl (by omega) (by omega) hl.1 rfl (Nat.le_of_ble_eq_true rfl) dX10_wordAt_34 (fun b H locs hw => ?_)
  exact cw_X10_wordAt_37 fu C hret ag_2 hag_2 hagn_2 x1 x2 x3 x4 r1 F1 G1 hm hw (lv_sub hl [0, 1, 2, 3, 4] rfl)
theorem cn_X10_wordAt_14 (fu : Nat) {res : Int32 × PF × PG} (ag_2 : Int32 → Int32 → Int32 → PF → PG → PR) (hagn_2 : ∀ (x1 : Int32) (x2 : Int32) (x3 : Int32) (F : PF) (G : PG), ag_2 x1 x2 x3 F G = some res → xn F ≤ xn res.2.1) (x1 : Int32) (x2 : Int32) (x3 : Int32) (F : PF) (G : PG) (hm : cb_X10_wordAt_14 fu ag_2 x1 x2 x3 F G = some res) : xn F ≤ xn res.2.1 := by
  unfold cb_X10_wordAt_14 at hm
  by_cases c_1 : x2 = (8 : Int32)
  · have hm := (if_pos c_1).symm.trans hm
    exact (cn_X10_wordAt_42 fu ag_2 hagn_2 x1 x2 x3 ((x3 - (4 : Int32)) * (8 : Int32)) F G hm)
  · have hm := (if_neg c_1).symm.trans hm
    exact (cn_X10_wordAt_28 fu ag_2 hagn_2 x1 x2 x3 ((x3 - (4 : Int32)) * (8 : Int32)) F G hm)
theorem cw_X10_wordAt_14 (fu : Nat) {res : Int32 × PF × PG} (C : cMC p R s m args c A v RX10 cX10_wordAt 7 4 85 (xn res.2.1 - xn K0)) (hret : ∀ (b1 : Nat) (H1 : Heap) (locs1 : List Loc) (ls1 : Array Slot) (pc : Nat), cMW s A v a b1 K0 res.2.1 res.2.2 H1 locs1 → narrow .int (.int res.1) = .int res.1 → decode cX10_wordAt pc = .ok (.ireturn, 1) → W p l e R s m args below meth c H1 locs1 (xn res.2.1 - xn K0) (2 * (xn res.2.1 - xn K0)) Q (F0 m pc ls1 [.int res.1])) (ag_2 : Int32 → Int32 → Int32 → PF → PG → PR) (hag_2 : ∀ (x1 : Int32) (x2 : Int32) (x3 : Int32) (F : PF) (G : PG), ag_2 x1 x2 x3 F G = some res → ∀ (b : Nat) (H : Heap) (locs : List Loc) (ls : Array Slot), cMW s A v a b K0 F G H locs → lv_has ls 7 [(0, .ref (a 210)), (1, .int x1), (2, .int x2), (3, .int x3)] → W p l e R s m args below meth c H locs (xn F - xn K0) (2 * (xn F - xn K0)) Q (F0 m 2 ls [])) (hagn_2 : ∀ (x1 : Int32) (x2 : Int32) (x3 : Int32) (F : PF) (G : PG), ag_2 x1 x2 x3 F G = some res → xn F ≤ xn res.2.1) (x1 : Int32) (x2 : Int32) (x3 : Int32) (F : PF) (G : PG) (hm : cb_X10_wordAt_14 fu ag_2 x1 x2 x3 F G = some res) {b : Nat} {H : Heap} {locs : List Loc} (hw : cMW s A v a b K0 F G H locs) {ls : Array Slot} (hl : lv_has ls 7 [(0, .ref (a 210)), (1, .int x1), (2, .int x2), (3, .int x3)]) : W p l e R s m args below meth c H locs (xn F - xn K0) (2 * (xn F - xn K0)) Q (F0 m 14 ls []) := by
  have hx := C.1
  have hb := C.2.1
  unfold cb_X10_wordAt_14 at hm
  refine lv_iload_n hx hb dX10_wordAt_14 rfl (lv_at hl 3 rfl) ?_
  refine lv_iconst (v := 4) hx hb dX10_wordAt_15 (by decide) ?_
  refine lv_isub hx hb dX10_wordAt_16 ?_
  refine lv_bipush (v := 8) hx hb dX10_wordAt_17 (by decide) ?_
  refine lv_imul hx hb dX10_wordAt_19 ?_
  refine lv_istore (lv' := [(4, .int ((x3 - (4 : Int32)) * (8 : Int32))), (0, .ref (a 210)), (1, .int x1), (2, .int x2), (3, .int x3)]) hx hb dX10_wordAt_20 hl (by decide) rfl (fun ls hl => ?_)
  refine lv_iload_n hx hb dX10_wordAt_22 rfl (lv_at hl 3 rfl) ?_
  refine lv_bipush (v := 8) hx hb dX10_wordAt_23 (by decide) ?_
  refine lv_icmp_eq (tgt := 42) hx hb dX10_wordAt_25 (by decide) (fun c_1 => ?_) (fun c_1 => ?_)
  · have hm := (if_pos c_1).symm.trans hm
    exact cw_X10_wordAt_42 fu C hret ag_2 hag_2 hagn_2 x1 x2 x3 ((x3 - (4 : Int32)) * (8 : Int32)) F G hm hw (lv_sub hl [1, 2, 3, 4, 0] rfl)
  · have hm := (if_neg c_1).symm.trans hm
    exact cw_X10_wordAt_28 fu C hret ag_2 hag_2 hagn_2 x1 x2 x3 ((x3 - (4 : Int32)) * (8 : Int32)) F G hm hw (lv_sub hl [1, 2, 3, 4, 0] rfl)
theorem cn_X10_wordAt_8 (fu : Nat) {res : Int32 × PF × PG} (ag_2 : Int32 → Int32 → Int32 → PF → PG → PR) (hagn_2 : ∀ (x1 : Int32) (x2 : Int32) (x3 : Int32) (F : PF) (G : PG), ag_2 x1 x2 x3 F G = some res → xn F ≤ xn res.2.1) (x1 : Int32) (x2 : Int32) (x3 : Int32) (F : PF) (G : PG) (hm : cb_X10_wordAt_8 fu ag_2 x1 x2 x3 F G = some res) : xn F ≤ xn res.2.1 := by
  unfold cb_X10_wordAt_8 at hm
  by_cases c_1 : (8 : Int32) < x2
  · have hm := (if_pos c_1).symm.trans hm
    exact (cn_X10_wordAt_113 fu F G hm)
  · have hm := (if_neg c_1).symm.trans hm
    exact (cn_X10_wordAt_14 fu ag_2 hagn_2 x1 x2 x3 F G hm)
theorem cw_X10_wordAt_8 (fu : Nat) {res : Int32 × PF × PG} (C : cMC p R s m args c A v RX10 cX10_wordAt 7 4 85 (xn res.2.1 - xn K0)) (hret : ∀ (b1 : Nat) (H1 : Heap) (locs1 : List Loc) (ls1 : Array Slot) (pc : Nat), cMW s A v a b1 K0 res.2.1 res.2.2 H1 locs1 → narrow .int (.int res.1) = .int res.1 → decode cX10_wordAt pc = .ok (.ireturn, 1) → W p l e R s m args below meth c H1 locs1 (xn res.2.1 - xn K0) (2 * (xn res.2.1 - xn K0)) Q (F0 m pc ls1 [.int res.1])) (ag_2 : Int32 → Int32 → Int32 → PF → PG → PR) (hag_2 : ∀ (x1 : Int32) (x2 : Int32) (x3 : Int32) (F : PF) (G : PG), ag_2 x1 x2 x3 F G = some res → ∀ (b : Nat) (H : Heap) (locs : List Loc) (ls : Array Slot), cMW s A v a b K0 F G H locs → lv_has ls 7 [(0, .ref (a 210)), (1, .int x1), (2, .int x2), (3, .int x3)] → W p l e R s m args below meth c H locs (xn F - xn K0) (2 * (xn F - xn K0)) Q (F0 m 2 ls [])) (hagn_2 : ∀ (x1 : Int32) (x2 : Int32) (x3 : Int32) (F : PF) (G : PG), ag_2 x1 x2 x3 F G = some res → xn F ≤ xn res.2.1) (x1 : Int32) (x2 : Int32) (x3 : Int32) (F : PF) (G : PG) (hm : cb_X10_wordAt_8 fu ag_2 x1 x2 x3 F G = some res) {b : Nat} {H : Heap} {locs : List Loc} (hw : cMW s A v a b K0 F G H locs) {ls : Array Slot} (hl : lv_has ls 7 [(0, .ref (a 210)), (1, .int x1), (2, .int x2), (3, .int x3)]) : W p l e R s m args below meth c H locs (xn F - xn K0) (2 * (xn F - xn K0)) Q (F0 m 8 ls []) := by
  have hx := C.1
  have hb := C.2.1
  unfold cb_X10_wordAt_8 at hm
  refine lv_iload_n hx hb dX10_wordAt_8 rfl (lv_at hl 2 rfl) ?_
  refine lv_bipush (v := 8) hx hb dX10_wordAt_9 (by decide) ?_
  refine lv_icmp_gt (tgt := 113) hx hb dX10_wordAt_11 (by decide) (fun c_1 => ?_) (fun c_1 => ?_)
  · have hm := (if_pos c_1).symm.trans hm
    exact cw_X10_wordAt_113 fu C hret F G hm hw (lv_sub hl [] rfl)
  · have hm := (if_neg c_1).symm.trans hm
    exact cw_X10_wordAt_14 fu C hret ag_2 hag_2 hagn_2 x1 x2 x3 F G hm hw (lv_sub hl [0, 1, 2, 3] rfl)
theorem cn_X10_wordAt_2 (fu : Nat) {res : Int32 × PF × PG} (ag_2 : Int32 → Int32 → Int32 → PF → PG → PR) (hagn_2 : ∀ (x1 : Int32) (x2 : Int32) (x3 : Int32) (F : PF) (G : PG), ag_2 x1 x2 x3 F G = some res → xn F ≤ xn res.2.1) (x1 : Int32) (x2 : Int32) (x3 : Int32) (F : PF) (G : PG) (hm : cb_X10_wordAt_2 fu ag_2 x1 x2 x3 F G = some res) : xn F ≤ xn res.2.1 := by
  unfold cb_X10_wordAt_2 at hm
  by_cases c_1 : (18 : Int32) < x3
  · have hm := (if_pos c_1).symm.trans hm
    exact (cn_X10_wordAt_113 fu F G hm)
  · have hm := (if_neg c_1).symm.trans hm
    exact (cn_X10_wordAt_8 fu ag_2 hagn_2 x1 x2 x3 F G hm)
theorem cw_X10_wordAt_2 (fu : Nat) {res : Int32 × PF × PG} (C : cMC p R s m args c A v RX10 cX10_wordAt 7 4 85 (xn res.2.1 - xn K0)) (hret : ∀ (b1 : Nat) (H1 : Heap) (locs1 : List Loc) (ls1 : Array Slot) (pc : Nat), cMW s A v a b1 K0 res.2.1 res.2.2 H1 locs1 → narrow .int (.int res.1) = .int res.1 → decode cX10_wordAt pc = .ok (.ireturn, 1) → W p l e R s m args below meth c H1 locs1 (xn res.2.1 - xn K0) (2 * (xn res.2.1 - xn K0)) Q (F0 m pc ls1 [.int res.1])) (ag_2 : Int32 → Int32 → Int32 → PF → PG → PR) (hag_2 : ∀ (x1 : Int32) (x2 : Int32) (x3 : Int32) (F : PF) (G : PG), ag_2 x1 x2 x3 F G = some res → ∀ (b : Nat) (H : Heap) (locs : List Loc) (ls : Array Slot), cMW s A v a b K0 F G H locs → lv_has ls 7 [(0, .ref (a 210)), (1, .int x1), (2, .int x2), (3, .int x3)] → W p l e R s m args below meth c H locs (xn F - xn K0) (2 * (xn F - xn K0)) Q (F0 m 2 ls [])) (hagn_2 : ∀ (x1 : Int32) (x2 : Int32) (x3 : Int32) (F : PF) (G : PG), ag_2 x1 x2 x3 F G = some res → xn F ≤ xn res.2.1) (x1 : Int32) (x2 : Int32) (x3 : Int32) (F : PF) (G : PG) (hm : cb_X10_wordAt_2 fu ag_2 x1 x2 x3 F G = some res) {b : Nat} {H : Heap} {locs : List Loc} (hw : cMW s A v a b K0 F G H locs) {ls : Array Slot} (hl : lv_has ls 7 [(0, .ref (a 210)), (1, .int x1), (2, .int x2), (3, .int x3)]) : W p l e R s m args below meth c H locs (xn F - xn K0) (2 * (xn F - xn K0)) Q (F0 m 2 ls []) := by
  have hx := C.1
  have hb := C.2.1
  unfold cb_X10_wordAt_2 at hm
  refine lv_iload_n hx hb dX10_wordAt_2 rfl (lv_at hl 3 rfl) ?_
  refine lv_bipush (v := 18) hx hb dX10_wordAt_3 (by decide) ?_
  refine lv_icmp_gt (tgt := 113) hx hb dX10_wordAt_5 (by decide) (fun c_1 => ?_) (fun c_1 => ?_)
  · have hm := (if_pos c_1).symm.trans hm
    exact cw_X10_wordAt_113 fu C hret F G hm hw (lv_sub hl [] rfl)
  · have hm := (if_neg c_1).symm.trans hm
    exact cw_X10_wordAt_8 fu C hret ag_2 hag_2 hagn_2 x1 x2 x3 F G hm hw (lv_sub hl [0, 1, 2, 3] rfl)
theorem cnl_X10_wordAt_2 (fu : Nat) {res : Int32 × PF × PG} : ∀ (n : Nat) (x1 : Int32) (x2 : Int32) (x3 : Int32) (F : PF) (G : PG) (hm : cl_X10_wordAt_2 fu n x1 x2 x3 F G = some res), xn F ≤ xn res.2.1 := by
  intro n
  induction n with
  | zero =>
    intro x1 x2 x3 F G hm
    exact no_elim (show (none : PR) = some res from hm)
  | succ n ih =>
    intro x1 x2 x3 F G hm
    exact cn_X10_wordAt_2 fu (cl_X10_wordAt_2 fu n) (fun x1 x2 x3 F G hm => ih x1 x2 x3 F G hm) x1 x2 x3 F G hm
theorem cwl_X10_wordAt_2 (fu : Nat) {res : Int32 × PF × PG} (C : cMC p R s m args c A v RX10 cX10_wordAt 7 4 85 (xn res.2.1 - xn K0)) (hret : ∀ (b1 : Nat) (H1 : Heap) (locs1 : List Loc) (ls1 : Array Slot) (pc : Nat), cMW s A v a b1 K0 res.2.1 res.2.2 H1 locs1 → narrow .int (.int res.1) = .int res.1 → decode cX10_wordAt pc = .ok (.ireturn, 1) → W p l e R s m args below meth c H1 locs1 (xn res.2.1 - xn K0) (2 * (xn res.2.1 - xn K0)) Q (F0 m pc ls1 [.int res.1])) : ∀ (n : Nat) (x1 : Int32) (x2 : Int32) (x3 : Int32) (F : PF) (G : PG) (hm : cl_X10_wordAt_2 fu n x1 x2 x3 F G = some res) {b : Nat} {H : Heap} {locs : List Loc} (hw : cMW s A v a b K0 F G H locs) {ls : Array Slot} (hl : lv_has ls 7 [(0, .ref (a 210)), (1, .int x1), (2, .int x2), (3, .int x3)]), W p l e R s m args below meth c H locs (xn F - xn K0) (2 * (xn F - xn K0)) Q (F0 m 2 ls []) := by
  intro n
  induction n with
  | zero =>
    intro x1 x2 x3 F G hm
    exact no_elim (show (none : PR) = some res from hm)
  | succ n ih =>
    intro x1 x2 x3 F G hm b H locs hw ls hl
    exact cw_X10_wordAt_2 fu C hret (cl_X10_wordAt_2 fu n) (fun x1 x2 x3 F G hm b H locs ls hw hl => ih x1 x2 x3 F G hm hw hl) (fun x1 x2 x3 F G hm => cnl_X10_wordAt_2 fu n x1 x2 x3 F G hm) x1 x2 x3 F G hm hw hl
theorem cn_X10_wordAt_0 (fu : Nat) {res : Int32 × PF × PG} (x1 : Int32) (x2 : Int32) (F : PF) (G : PG) (hm : cb_X10_wordAt_0 fu x1 x2 F G = some res) : xn F ≤ xn res.2.1 := by
  unfold cb_X10_wordAt_0 at hm
  exact (cnl_X10_wordAt_2 fu fu x1 x2 4 F G hm)
theorem cw_X10_wordAt_0 (fu : Nat) {res : Int32 × PF × PG} (C : cMC p R s m args c A v RX10 cX10_wordAt 7 4 85 (xn res.2.1 - xn K0)) (hret : ∀ (b1 : Nat) (H1 : Heap) (locs1 : List Loc) (ls1 : Array Slot) (pc : Nat), cMW s A v a b1 K0 res.2.1 res.2.2 H1 locs1 → narrow .int (.int res.1) = .int res.1 → decode cX10_wordAt pc = .ok (.ireturn, 1) → W p l e R s m args below meth c H1 locs1 (xn res.2.1 - xn K0) (2 * (xn res.2.1 - xn K0)) Q (F0 m pc ls1 [.int res.1])) (x1 : Int32) (x2 : Int32) (F : PF) (G : PG) (hm : cb_X10_wordAt_0 fu x1 x2 F G = some res) {b : Nat} {H : Heap} {locs : List Loc} (hw : cMW s A v a b K0 F G H locs) {ls : Array Slot} (hl : lv_has ls 7 [(0, .ref (a 210)), (1, .int x1), (2, .int x2)]) : W p l e R s m args below meth c H locs (xn F - xn K0) (2 * (xn F - xn K0)) Q (F0 m 0 ls []) := by
  have hx := C.1
  have hb := C.2.1
  unfold cb_X10_wordAt_0 at hm
  refine lv_iconst (v := 4) hx hb dX10_wordAt_0 (by decide) ?_
  refine lv_istore_n (lv' := [(3, .int 4), (0, .ref (a 210)), (1, .int x1), (2, .int x2)]) hx hb dX10_wordAt_1 rfl hl (by decide) rfl (fun ls hl => ?_)
  exact cwl_X10_wordAt_2 fu C hret fu x1 x2 4 F G hm hw (lv_sub hl [1, 2, 3, 0] rfl)
theorem cn_X10_wordAt (fu : Nat) (x1 : Int32) (x2 : Int32) (F : PF) (G : PG) (q : Int32 × PF × PG) (hm : cf_X10_wordAt fu x1 x2 F G = some q) : xn F ≤ xn q.2.1 := cn_X10_wordAt_0 fu x1 x2 F G hm
theorem ck_X10_wordAt (l : Launch) (v : EV) (a : Nat → Nat) (b sz : Nat) (fu : Nat) (x1 : Int32) (x2 : Int32) (F : PF) (G : PG) (r : Int32) (F1 : PF) (G1 : PG) (hm : cf_X10_wordAt fu x1 x2 F G = some (r, F1, G1)) : cMI l yX10_wordAt cX10_wordAt 7 (some .int) 4 85 v a b sz [.ref (a 210), .int x1, .int x2] F G r F1 G1 := cMI.of (ty := .int) (by decide) rfl (Nat.le_of_ble_eq_true rfl) (fun p e R s m args below meth c Q A H locs ls C hw hl hret => cw_X10_wordAt_0 fu (res := (r, F1, G1)) C hret x1 x2 F G hm hw hl)
end MB
