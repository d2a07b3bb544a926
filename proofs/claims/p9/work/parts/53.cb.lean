section MB
variable {p : Program} {l : Launch} {e : Env} {R : Room} {s : State} {m : MethodId} {args : Array Value} {below : List Frame} {meth : Method} {c : Code} {H : Heap} {locs : List Loc} {Q : State → Prop} {A : Nat → Prop} {v : EV} {a : Nat → Nat} {b ce : Nat} {own : String} {cc : ByteArray} {nL fr lo : Nat} {K0 : PF}
def cb_X10_isName_74 (fu : Nat) (x4 : Int32) (F : PF) (G : PG) : PR := if b01 x4 = true then (some (x4, F, G)) else none
def cb_X10_isName_66 (fu : Nat) (ag_20 : Int32 → Int32 → Int32 → Int32 → Int32 → PF → PG → PR) (x1 : Int32) (x2 : Int32) (x3 : Int32) (x5 : Int32) (z0 : Int32) (F : PF) (G : PG) : PR := ag_20 x1 x2 x3 z0 (x5 + 1) F G
def cb_X10_isName_65 (fu : Nat) (ag_20 : Int32 → Int32 → Int32 → Int32 → Int32 → PF → PG → PR) (x1 : Int32) (x2 : Int32) (x3 : Int32) (x5 : Int32) (F : PF) (G : PG) : PR := cb_X10_isName_66 fu ag_20 x1 x2 x3 x5 0 F G
def cb_X10_isName_61 (fu : Nat) (ag_20 : Int32 → Int32 → Int32 → Int32 → Int32 → PF → PG → PR) (x1 : Int32) (x2 : Int32) (x3 : Int32) (x5 : Int32) (F : PF) (G : PG) : PR := cb_X10_isName_66 fu ag_20 x1 x2 x3 x5 1 F G
def cb_X10_isName_58 (fu : Nat) (ag_20 : Int32 → Int32 → Int32 → Int32 → Int32 → PF → PG → PR) (x1 : Int32) (x2 : Int32) (x3 : Int32) (x5 : Int32) (z0 : Int32) (z1 : Int32) (F : PF) (G : PG) : PR := if z1 = z0 then cb_X10_isName_61 fu ag_20 x1 x2 x3 x5 F G else cb_X10_isName_65 fu ag_20 x1 x2 x3 x5 F G
def cb_X10_isName_47 (fu : Nat) (ag_20 : Int32 → Int32 → Int32 → Int32 → Int32 → PF → PG → PR) (x1 : Int32) (x2 : Int32) (x3 : Int32) (x5 : Int32) (z0 : Int32) (F : PF) (G : PG) : PR := (cf_X9_at fu (x2 + x5) F G).bind (fun q => cb_X10_isName_58 fu ag_20 x1 x2 x3 x5 q.1 z0 q.2.1 q.2.2)
def cb_X10_isName_31 (fu : Nat) (ag_20 : Int32 → Int32 → Int32 → Int32 → Int32 → PF → PG → PR) (x1 : Int32) (x2 : Int32) (x3 : Int32) (x5 : Int32) (F : PF) (G : PG) : PR := if ixb x1 1408 = true then ((cf_X9_at fu ((G 96 x1.toNatClampNeg) + x5) F G).bind (fun q => cb_X10_isName_47 fu ag_20 x1 x2 x3 x5 q.1 q.2.1 q.2.2)) else none
def cb_X10_isName_26 (fu : Nat) (ag_20 : Int32 → Int32 → Int32 → Int32 → Int32 → PF → PG → PR) (x1 : Int32) (x2 : Int32) (x3 : Int32) (x4 : Int32) (x5 : Int32) (F : PF) (G : PG) : PR := if x4 = (0 : Int32) then cb_X10_isName_74 fu x4 F G else cb_X10_isName_31 fu ag_20 x1 x2 x3 x5 F G
def cb_X10_isName_20 (fu : Nat) (ag_20 : Int32 → Int32 → Int32 → Int32 → Int32 → PF → PG → PR) (x1 : Int32) (x2 : Int32) (x3 : Int32) (x4 : Int32) (x5 : Int32) (F : PF) (G : PG) : PR := if x3 ≤ x5 then cb_X10_isName_74 fu x4 F G else cb_X10_isName_26 fu ag_20 x1 x2 x3 x4 x5 F G
def cl_X10_isName_20 (fu : Nat) : Nat → Int32 → Int32 → Int32 → Int32 → Int32 → PF → PG → PR
  | 0 => fun _ _ _ _ _ _ _ => none
  | n + 1 => fun x1 x2 x3 x4 x5 F G => cb_X10_isName_20 fu (cl_X10_isName_20 fu n) x1 x2 x3 x4 x5 F G
def cb_X10_isName_15 (fu : Nat) (x1 : Int32) (x2 : Int32) (x3 : Int32) (z0 : Int32) (F : PF) (G : PG) : PR := cl_X10_isName_20 fu fu x1 x2 x3 z0 0 F G
def cb_X10_isName_14 (fu : Nat) (x1 : Int32) (x2 : Int32) (x3 : Int32) (F : PF) (G : PG) : PR := cb_X10_isName_15 fu x1 x2 x3 0 F G
def cb_X10_isName_10 (fu : Nat) (x1 : Int32) (x2 : Int32) (x3 : Int32) (F : PF) (G : PG) : PR := cb_X10_isName_15 fu x1 x2 x3 1 F G
def cb_X10_isName_0 (fu : Nat) (x1 : Int32) (x2 : Int32) (x3 : Int32) (F : PF) (G : PG) : PR := if ixb x1 1408 = true then (if (G 97 x1.toNatClampNeg) = x3 then cb_X10_isName_10 fu x1 x2 x3 F G else cb_X10_isName_14 fu x1 x2 x3 F G) else none
def cf_X10_isName (fu : Nat) (x1 : Int32) (x2 : Int32) (x3 : Int32) (F : PF) (G : PG) : PR := cb_X10_isName_0 fu x1 x2 x3 F G
theorem cn_X10_isName_74 (fu : Nat) {res : Int32 × PF × PG} (x4 : Int32) (F : PF) (G : PG) (hm : cb_X10_isName_74 fu x4 F G = some res) : xn F ≤ xn res.2.1 := by
  unfold cb_X10_isName_74 at hm
  have hm := (b01_elim hm).2
  obtain rfl := Option.some.inj hm
  exact Nat.le_refl _
theorem cw_X10_isName_74 (fu : Nat) {res : Int32 × PF × PG} (C : cMC p R s m args c A v RX10 cX10_isName 6 1 21 (xn res.2.1 - xn K0)) (hret : ∀ (b1 : Nat) (H1 : Heap) (locs1 : List Loc) (ls1 : Array Slot) (pc : Nat), cMW s A v a b1 K0 res.2.1 res.2.2 H1 locs1 → narrow .boolean (.int res.1) = .int res.1 → decode cX10_isName pc = .ok (.ireturn, 1) → W p l e R s m args below meth c H1 locs1 (xn res.2.1 - xn K0) (2 * (xn res.2.1 - xn K0)) Q (F0 m pc ls1 [.int res.1])) (x4 : Int32) (F : PF) (G : PG) (hm : cb_X10_isName_74 fu x4 F G = some res) {b : Nat} {H : Heap} {locs : List Loc} (hw : cMW s A v a b K0 F G H locs) {ls : Array Slot} (hl : lv_has ls 6 [(4, .int x4)]) : W p l e R s m args below meth c H locs (xn F - xn K0) (2 * (xn F - xn K0)) Q (F0 m 74 ls []) := by
  have hx := C.1
  have hb := C.2.1
  unfold cb_X10_isName_74 at hm
  refine lv_iload hx hb dX10_isName_74 (lv_at hl 0 rfl) ?_
  obtain ⟨hz, hm⟩ := b01_elim hm
  obtain rfl := Option.some.inj hm
  exact hret _ _ _ _ _ hw (b01_nar hz) dX10_isName_76
theorem cn_X10_isName_66 (fu : Nat) {res : Int32 × PF × PG} (ag_20 : Int32 → Int32 → Int32 → Int32 → Int32 → PF → PG → PR) (hagn_20 : ∀ (x1 : Int32) (x2 : Int32) (x3 : Int32) (x4 : Int32) (x5 : Int32) (F : PF) (G : PG), ag_20 x1 x2 x3 x4 x5 F G = some res → xn F ≤ xn res.2.1) (x1 : Int32) (x2 : Int32) (x3 : Int32) (x5 : Int32) (z0 : Int32) (F : PF) (G : PG) (hm : cb_X10_isName_66 fu ag_20 x1 x2 x3 x5 z0 F G = some res) : xn F ≤ xn res.2.1 := by
  unfold cb_X10_isName_66 at hm
  exact (hagn_20 x1 x2 x3 z0 (x5 + 1) F G hm)
theorem cw_X10_isName_66 (fu : Nat) {res : Int32 × PF × PG} (C : cMC p R s m args c A v RX10 cX10_isName 6 1 21 (xn res.2.1 - xn K0)) (hret : ∀ (b1 : Nat) (H1 : Heap) (locs1 : List Loc) (ls1 : Array Slot) (pc : Nat), cMW s A v a b1 K0 res.2.1 res.2.2 H1 locs1 → narrow .boolean (.int res.1) = .int res.1 → decode cX10_isName pc = .ok (.ireturn, 1) → W p l e R s m args below meth c H1 locs1 (xn res.2.1 - xn K0) (2 * (xn res.2.1 - xn K0)) Q (F0 m pc ls1 [.int res.1])) (ag_20 : Int32 → Int32 → Int32 → Int32 → Int32 → PF → PG → PR) (hag_20 : ∀ (x1 : Int32) (x2 : Int32) (x3 : Int32) (x4 : Int32) (x5 : Int32) (F : PF) (G : PG), ag_20 x1 x2 x3 x4 x5 F G = some res → ∀ (b : Nat) (H : Heap) (locs : List Loc) (ls : Array Slot), cMW s A v a b K0 F G H locs → lv_has ls 6 [(0, .ref (a 210)), (1, .int x1), (2, .int x2), (3, .int x3), (4, .int x4), (5, .int x5)] → W p l e R s m args below meth c H locs (xn F - xn K0) (2 * (xn F - xn K0)) Q (F0 m 20 ls [])) (hagn_20 : ∀ (x1 : Int32) (x2 : Int32) (x3 : Int32) (x4 : Int32) (x5 : Int32) (F : PF) (G : PG), ag_20 x1 x2 x3 x4 x5 F G = some res → xn F ≤ xn res.2.1) (x1 : Int32) (x2 : Int32) (x3 : Int32) (x5 : Int32) (z0 : Int32) (F : PF) (G : PG) (hm : cb_X10_isName_66 fu ag_20 x1 x2 x3 x5 z0 F G = some res) {b : Nat} {H : Heap} {locs : List Loc} (hw : cMW s A v a b K0 F G H locs) {ls : Array Slot} (hl : lv_has ls 6 [(0, .ref (a 210)), (1, .int x1), (2, .int x2), (3, .int x3), (5, .int x5)]) : W p l e R s m args below meth c H locs (xn F - xn K0) (2 * (xn F - xn K0)) Q (F0 m 66 ls [.int z0]) := by
  have hx := C.1
  have hb := C.2.1
  unfold cb_X10_isName_66 at hm
  refine lv_istore (lv' := [(4, .int z0), (0, .ref (a 210)), (1, .int x1), (2, .int x2), (3, .int x3), (5, .int x5)]) hx hb dX10_isName_66 hl (by decide) rfl (fun ls hl => ?_)
  refine lv_iinc (v := (x5 + 1)) (lv' := [(5, .int (x5 + 1)), (4, .int z0), (0, .ref (a 210)), (1, .int x1), (2, .int x2), (3, .int x3)]) hx hb dX10_isName_68 hl (k := 5) rfl (by rfl) (by decide) rfl (fun ls hl => ?_)
  refine lv_goto (tgt := 20) hx hb dX10_isName_71 (by decide) ?_
  exact hag_20 x1 x2 x3 z0 (x5 + 1) F G hm _ _ _ _ hw (lv_sub hl [2, 3, 4, 5, 1, 0] rfl)
theorem cn_X10_isName_65 (fu : Nat) {res : Int32 × PF × PG} (ag_20 : Int32 → Int32 → Int32 → Int32 → Int32 → PF → PG → PR) (hagn_20 : ∀ (x1 : Int32) (x2 : Int32) (x3 : Int32) (x4 : Int32) (x5 : Int32) (F : PF) (G : PG), ag_20 x1 x2 x3 x4 x5 F G = some res → xn F ≤ xn res.2.1) (x1 : Int32) (x2 : Int32) (x3 : Int32) (x5 : Int32) (F : PF) (G : PG) (hm : cb_X10_isName_65 fu ag_20 x1 x2 x3 x5 F G = some res) : xn F ≤ xn res.2.1 := by
  unfold cb_X10_isName_65 at hm
  exact (cn_X10_isName_66 fu ag_20 hagn_20 x1 x2 x3 x5 0 F G hm)
theorem cw_X10_isName_65 (fu : Nat) {res : Int32 × PF × PG} (C : cMC p R s m args c A v RX10 cX10_isName 6 1 21 (xn res.2.1 - xn K0)) (hret : ∀ (b1 : Nat) (H1 : Heap) (locs1 : List Loc) (ls1 : Array Slot) (pc : Nat), cMW s A v a b1 K0 res.2.1 res.2.2 H1 locs1 → narrow .boolean (.int res.1) = .int res.1 → decode cX10_isName pc = .ok (.ireturn, 1) → W p l e R s m args below meth c H1 locs1 (xn res.2.1 - xn K0) (2 * (xn res.2.1 - xn K0)) Q (F0 m pc ls1 [.int res.1])) (ag_20 : Int32 → Int32 → Int32 → Int32 → Int32 → PF → PG → PR) (hag_20 : ∀ (x1 : Int32) (x2 : Int32) (x3 : Int32) (x4 : Int32) (x5 : Int32) (F : PF) (G : PG), ag_20 x1 x2 x3 x4 x5 F G = some res → ∀ (b : Nat) (H : Heap) (locs : List Loc) (ls : Array Slot), cMW s A v a b K0 F G H locs → lv_has ls 6 [(0, .ref (a 210)), (1, .int x1), (2, .int x2), (3, .int x3), (4, .int x4), (5, .int x5)] → W p l e R s m args below meth c H locs (xn F - xn K0) (2 * (xn F - xn K0)) Q (F0 m 20 ls [])) (hagn_20 : ∀ (x1 : Int32) (x2 : Int32) (x3 : Int32) (x4 : Int32) (x5 : Int32) (F : PF) (G : PG), ag_20 x1 x2 x3 x4 x5 F G = some res → xn F ≤ xn res.2.1) (x1 : Int32) (x2 : Int32) (x3 : Int32) (x5 : Int32) (F : PF) (G : PG) (hm : cb_X10_isName_65 fu ag_20 x1 x2 x3 x5 F G = some res) {b : Nat} {H : Heap} {locs : List Loc} (hw : cMW s A v a b K0 F G H locs) {ls : Array Slot} (hl : lv_has ls 6 [(0, .ref (a 210)), (1, .int x1), (2, .int x2), (3, .int x3), (5, .int x5)]) : W p l e R s m args below meth c H locs (xn F - xn K0) (2 * (xn F - xn K0)) Q (F0 m 65 ls []) := by
  have hx := C.1
  have hb := C.2.1
  unfold cb_X10_isName_65 at hm
  refine lv_iconst (v := 0) hx hb dX10_isName_65 (by decide) ?_
  exact cw_X10_isName_66 fu C hret ag_20 hag_20 hagn_20 x1 x2 x3 x5 0 F G hm hw (lv_sub hl [0, 1, 2, 3, 4] rfl)
theorem cn_X10_isName_61 (fu : Nat) {res : Int32 × PF × PG} (ag_20 : Int32 → Int32 → Int32 → Int32 → Int32 → PF → PG → PR) (hagn_20 : ∀ (x1 : Int32) (x2 : Int32) (x3 : Int32) (x4 : Int32) (x5 : Int32) (F : PF) (G : PG), ag_20 x1 x2 x3 x4 x5 F G = some res → xn F ≤ xn res.2.1) (x1 : Int32) (x2 : Int32) (x3 : Int32) (x5 : Int32) (F : PF) (G : PG) (hm : cb_X10_isName_61 fu ag_20 x1 x2 x3 x5 F G = some res) : xn F ≤ xn res.2.1 := by
  unfold cb_X10_isName_61 at hm
  exact (cn_X10_isName_66 fu ag_20 hagn_20 x1 x2 x3 x5 1 F G hm)
theorem cw_X10_isName_61 (fu : Nat) {res : Int32 × PF × PG} (C : cMC p R s m args c A v RX10 cX10_isName 6 1 21 (xn res.2.1 - xn K0)) (hret : ∀ (b1 : Nat) (H1 : Heap) (locs1 : List Loc) (ls1 : Array Slot) (pc : Nat), cMW s A v a b1 K0 res.2.1 res.2.2 H1 locs1 → narrow .boolean (.int res.1) = .int res.1 → decode cX10_isName pc = .ok (.ireturn, 1) → W p l e R s m args below meth c H1 locs1 (xn res.2.1 - xn K0) (2 * (xn res.2.1 - xn K0)) Q (F0 m pc ls1 [.int res.1])) (ag_20 : Int32 → Int32 → Int32 → Int32 → Int32 → PF → PG → PR) (hag_20 : ∀ (x1 : Int32) (x2 : Int32) (x3 : Int32) (x4 : Int32) (x5 : Int32) (F : PF) (G : PG), ag_20 x1 x2 x3 x4 x5 F G = some res → ∀ (b : Nat) (H : Heap) (locs : List Loc) (ls : Array Slot), cMW s A v a b K0 F G H locs → lv_has ls 6 [(0, .ref (a 210)), (1, .int x1), (2, .int x2), (3, .int x3), (4, .int x4), (5, .int x5)] → W p l e R s m args below meth c H locs (xn F - xn K0) (2 * (xn F - xn K0)) Q (F0 m 20 ls [])) (hagn_20 : ∀ (x1 : Int32) (x2 : Int32) (x3 : Int32) (x4 : Int32) (x5 : Int32) (F : PF) (G : PG), ag_20 x1 x2 x3 x4 x5 F G = some res → xn F ≤ xn res.2.1) (x1 : Int32) (x2 : Int32) (x3 : Int32) (x5 : Int32) (F : PF) (G : PG) (hm : cb_X10_isName_61 fu ag_20 x1 x2 x3 x5 F G = some res) {b : Nat} {H : Heap} {locs : List Loc} (hw : cMW s A v a b K0 F G H locs) {ls : Array Slot} (hl : lv_has ls 6 [(0, .ref (a 210)), (1, .int x1), (2, .int x2), (3, .int x3), (5, .int x5)]) : W p l e R s m args below meth c H locs (xn F - xn K0) (2 * (xn F - xn K0)) Q (F0 m 61 ls []) := by
  have hx := C.1
  have hb := C.2.1
  unfold cb_X10_isName_61 at hm
  refine lv_iconst (v := 1) hx hb dX10_isName_61 (by decide) ?_
  refine lv_goto (tgt := 66) hx hb dX10_isName_62 (by decide) ?_
  exact cw_X10_isName_66 fu C hret ag_20 hag_20 hagn_20 x1 x2 x3 x5 1 F G hm hw (lv_sub hl [0, 1, 2, 3, 4] rfl)
theorem cn_X10_isName_58 (fu : Nat) {res : Int32 × PF × PG} (ag_20 : Int32 → Int32 → Int32 → Int32 → Int32 → PF → PG → PR) (hagn_20 : ∀ (x1 : Int32) (x2 : Int32) (x3 : Int32) (x4 : Int32) (x5 : Int32) (F : PF) (G : PG), ag_20 x1 x2 x3 x4 x5 F G = some res → xn F ≤ xn res.2.1) (x1 : Int32) (x2 : Int32) (x3 : Int32) (x5 : Int32) (z0 : Int32) (z1 : Int32) (F : PF) (G : PG) (hm : cb_X10_isName_58 fu ag_20 x1 x2 x3 x5 z0 z1 F G = some res) : xn F ≤ xn res.2.1 := by
  unfold cb_X10_isName_58 at hm
  by_cases c_1 : z1 = z0
  · have hm := (if_pos c_1).symm.trans hm
    exact (cn_X10_isName_61 fu ag_20 hagn_20 x1 x2 x3 x5 F G hm)
  · have hm := (if_neg c_1).symm.trans hm
    exact (cn_X10_isName_65 fu ag_20 hagn_20 x1 x2 x3 x5 F G hm)
theorem cw_X10_isName_58 (fu : Nat) {res : Int32 × PF × PG} (C : cMC p R s m args c A v RX10 cX10_isName 6 1 21 (xn res.2.1 - xn K0)) (hret : ∀ (b1 : Nat) (H1 : Heap) (locs1 : List Loc) (ls1 : Array Slot) (pc : Nat), cMW s A v a b1 K0 res.2.1 res.2.2 H1 locs1 → narrow .boolean (.int res.1) = .int res.1 → decode cX10_isName pc = .ok (.ireturn, 1) → W p l e R s m args below meth c H1 locs1 (xn res.2.1 - xn K0) (2 * (xn res.2.1 - xn K0)) Q (F0 m pc ls1 [.int res.1])) (ag_20 : Int32 → Int32 → Int32 → Int32 → Int32 → PF → PG → PR) (hag_20 : ∀ (x1 : Int32) (x2 : Int32) (x3 : Int32) (x4 : Int32) (x5 : Int32) (F : PF) (G : PG), ag_20 x1 x2 x3 x4 x5 F G = some res → ∀ (b : Nat) (H : Heap) (locs : List Loc) (ls : Array Slot), cMW s A v a b K0 F G H locs → lv_has ls 6 [(0, .ref (a 210)), (1, .int x1), (2, .int x2), (3, .int x3), (4, .int x4), (5, .int x5)] → W p l e R s m args below meth c H locs (xn F - xn K0) (2 * (xn F - xn K0)) Q (F0 m 20 ls [])) (hagn_20 : ∀ (x1 : Int32) (x2 : Int32) (x3 : Int32) (x4 : Int32) (x5 : Int32) (F : PF) (G : PG), ag_20 x1 x2 x3 x4 x5 F G = some res → xn F ≤ xn res.2.1) (x1 : Int32) (x2 : Int32) (x3 : Int32) (x5 : Int32) (z0 : Int32) (z1 : Int32) (F : PF) (G : PG) (hm : cb_X10_isName_58 fu ag_20 x1 x2 x3 x5 z0 z1 F G = some res) {b : Nat} {H : Heap} {locs : List Loc} (hw : cMW s A v a b K0 F G H locs) {ls : Array Slot} (hl : lv_has ls 6 [(0, .ref (a 210)), (1, .int x1), (2, .int x2), (3, .int x3), (5, .int x5)]) : W p l e R s m args below meth c H locs (xn F - xn K0) (2 * (xn F - xn K0)) Q (F0 m 58 ls [.int z0, .int z1]) := by
  have hx := C.1
  have hb := C.2.1
  unfold cb_X10_isName_58 at hm
  refine lv_icmp_ne (tgt := 65) hx hb dX10_isName_58 (by decide) (fun c_1 => ?_) (fun c_1 => ?_)
  · have hm := (if_neg c_1).symm.trans hm
    exact cw_X10_isName_65 fu C hret ag_20 hag_20 hagn_20 x1 x2 x3 x5 F G hm hw (lv_sub hl [0, 1, 2, 3, 4] rfl)
  · have hm := (if_pos c_1).symm.trans hm
    exact cw_X10_isName_61 fu C hret ag_20 hag_20 hagn_20 x1 x2 x3 x5 F G hm hw (lv_sub hl [0, 1, 2, 3, 4] rfl)
theorem cn_X10_isName_47 (fu : Nat) {res : Int32 × PF × PG} (ag_20 : Int32 → Int32 → Int32 → Int32 → Int32 → PF → PG → PR) (hagn_20 : ∀ (x1 : Int32) (x2 : Int32) (x3 : Int32) (x4 : Int32) (x5 : Int32) (F : PF) (G : PG), ag_20 x1 x2 x3 x4 x5 F G = some res → xn F ≤ xn res.2.1) (x1 : Int32) (x2 : Int32) (x3 : Int32) (x5 : Int32) (z0 : Int32) (F : PF) (G : PG) (hm : cb_X10_isName_47 fu ag_20 x1 x2 x3 x5 z0 F G = some res) : xn F ≤ xn res.2.1 := by
  unfold cb_X10_isName_47 at hm
  obtain ⟨⟨r1, F1, G1⟩, hc, hm⟩ := bind_elim hm
  exact Nat.le_trans (cn_X9_at fu (x2 + x5) F G _ hc) (cn_X10_isName_58 fu ag_20 hagn_20 x1 x2 x3 x5 r1 z0 F1 G1 hm)
theorem cw_X10_isName_47 (fu : Nat) {res : Int32 × PF × PG} (C : cMC p R s m args c A v RX10 cX10_isName 6 1 21 (xn res.2.1 - xn K0)) (hret : ∀ (b1 : Nat) (H1 : Heap) (locs1 : List Loc) (ls1 : Array Slot) (pc : Nat), cMW s A v a b1 K0 res.2.1 res.2.2 H1 locs1 → narrow .boolean (.int res.1) = .int res.1 → decode cX10_isName pc = .ok (.ireturn, 1) → W p l e R s m args below meth c H1 locs1 (xn res.2.1 - xn K0) (2 * (xn res.2.1 - xn K0)) Q (F0 m pc ls1 [.int res.1])) (ag_20 : Int32 → Int32 → Int32 → Int32 → Int32 → PF → PG → PR) (hag_20 : ∀ (x1 : Int32) (x2 : Int32) (x3 : Int32) (x4 : Int32) (x5 : Int32) (F : PF) (G : PG), ag_20 x1 x2 x3 x4 x5 F G = some res → ∀ (b : Nat) (H : Heap) (locs : List Loc) (ls : Array Slot), cMW s A v a b K0 F G H locs → lv_has ls 6 [(0, .ref (a 210)), (1, .int x1), (2, .int x2), (3, .int x3), (4, .int x4), (5, .int x5)] → W p l e R s m args below meth c H locs (xn F - xn K0) (2 * (xn F - xn K0)) Q (F0 m 20 ls [])) (hagn_20 : ∀ (x1 : Int32) (x2 : Int32) (x3 : Int32) (x4 : Int32) (x5 : Int32) (F : PF) (G : PG), ag_20 x1 x2 x3 x4 x5 F G = some res → xn F ≤ xn res.2.1) (x1 : Int32) (x2 : Int32) (x3 : Int32) (x5 : Int32) (z0 : Int32) (F : PF) (G : PG) (hm : cb_X10_isName_47 fu ag_20 x1 x2 x3 x5 z0 F G = some res) {b : Nat} {H : Heap} {locs : List Loc} (hw : cMW s A v a b K0 F G H locs) {ls : Array Slot} (hl : lv_has ls 6 [(0, .ref (a 210)), (1, .int x1), (2, .int x2), (3, .int x3), (5, .int x5)]) : W p l e R s m args below meth c H locs (xn F - xn K0) (2 * (xn F - xn K0)) Q (F0 m 47 ls [.int z0]) := by
  have hx := C.1
  have hb := C.2.1
  unfold cb_X10_isName_47 at hm
  refine lv_aload_n hx hb dX10_isName_47 rfl (lv_at hl 0 rfl) ?_
  refine cg_X10_33 C hw dX10_isName_48 ?_
  refine lv_iload_n hx hb dX10_isName_51 rfl (lv_at hl 2 rfl) ?_
  refine lv_iload hx hb dX10_isName_52 (lv_at hl 4 rfl) ?_
  refine lv_iadd hx hb dX10_isName_54 ?_
  obtain ⟨⟨r1, F1, G1⟩, hc, hm⟩ := bind_elim hm
  refine ccallI (n := 1) (As := [.int (x2 + x5)]) (rest := [.int z0]) C hw (ck_X9_at l v a _ _ fu (x2 + x5) F G r1 F1 G1 hc) (cn_X9_at fu (x2 + x5) F G _ hc) (Nat.sub_le_sub_right (cn_X10_isName_58 fu ag_20 hagn_20 x1 x2 x3 x5 r1 z0 F1 G1 hm) _) (crecv_X9 C hw) cm_61 cm_62 cm_63 cm_6 cm_64 (by decide +kernel) rfl (by omega) (by omega) hl.1 rfl (Nat.le_of_ble_eq_true rfl) dX10_isName_55 (fun b H locs hw => ?_)
  exact cw_X10_isName_58 fu C hret ag_20 hag_20 hagn_20 x1 x2 x3 x5 r1 z0 F1 G1 hm hw (lv_sub hl [0, 1, 2, 3, 4] rfl)
theorem cn_X10_isName_31 (fu : Nat) {res : Int32 × PF × PG} (ag_20 : Int32 → Int32 → Int32 → Int32 → Int32 → PF → PG → PR) (hagn_20 : ∀ (x1 : Int32) (x2 : Int32) (x3 : Int32) (x4 : Int32) (x5 : Int32) (F : PF) (G : PG), ag_20 x1 x2 x3 x4 x5 F G = some res → xn F ≤ xn res.2.1) (x1 : Int32) (x2 : Int32) (x3 : Int32) (x5 : Int32) (F : PF) (G : PG) (hm : cb_X10_isName_31 fu ag_20 x1 x2 x3 x5 F G = some res) : xn F ≤ xn res.2.1 := by
  unfold cb_X10_isName_31 at hm
  have hm := (ix_elim hm).2
  obtain ⟨⟨r1, F1, G1⟩, hc, hm⟩ := bind_elim hm
  exact Nat.le_trans (cn_X9_at fu ((G 96 x1.toNatClampNeg) + x5) F G _ hc) (cn_X10_isName_47 fu ag_20 hagn_20 x1 x2 x3 x5 r1 F1 G1 hm)
theorem cw_X10_isName_31 (fu : Nat) {res : Int32 × PF × PG} (C : cMC p R s m args c A v RX10 cX10_isName 6 1 21 (xn res.2.1 - xn K0)) (hret : ∀ (b1 : Nat) (H1 : Heap) (locs1 : List Loc) (ls1 : Array Slot) (pc : Nat), cMW s A v a b1 K0 res.2.1 res.2.2 H1 locs1 → narrow .boolean (.int res.1) = .int res.1 → decode cX10_isName pc = .ok (.ireturn, 1) → W p l e R s m args below meth c H1 locs1 (xn res.2.1 - xn K0) (2 * (xn res.2.1 - xn K0)) Q (F0 m pc ls1 [.int res.1])) (ag_20 : Int32 → Int32 → Int32 → Int32 → Int32 → PF → PG → PR) (hag_20 : ∀ (x1 : Int32) (x2 : Int32) (x3 : Int32) (x4 : Int32) (x5 : Int32) (F : PF) (G : PG), ag_20 x1 x2 x3 x4 x5 F G = some res → ∀ (b : Nat) (H : Heap) (locs : List Loc) (ls : Array Slot), cMW s A v a b K0 F G H locs → lv_has ls 6 [(0, .ref (a 210)), (1, .int x1), (2, .int x2), (3, .int x3), (4, .int x4), (5, .int x5)] → W p l e R s m args below meth c H locs (xn F - xn K0) (2 * (xn F - xn K0)) Q (F0 m 20 ls [])) (hagn_20 : ∀ (x1 : Int32) (x2 : Int32) (x3 : Int32) (x4 : Int32) (x5 : Int32) (F : PF) (G : PG), ag_20 x1 x2 x3 x4 x5 F G = some res → xn F ≤ xn res.2.1) (x1 : Int32) (x2 : Int32) (x3 : Int32) (x5 : Int32) (F : PF) (G : PG) (hm : cb_X10_isName_31 fu ag_20 x1 x2 x3 x5 F G = some res) {b : Nat} {H : Heap} {locs : List Loc} (hw : cMW s A v a b K0 F G H locs) {ls : Array Slot} (hl : lv_has ls 6 [(0, .ref (a 210)), (1, .int x1), (2, .int x2), (3, .int x3), (5, .int x5)]) : W p l e R s m args below meth c H locs (xn F - xn K0) (2 * (xn F - xn K0)) Q (F0 m 31 ls []) := by
  have hx := C.1
  have hb := C.2.1
  unfold cb_X10_isName_31 at hm
  refine lv_aload_n hx hb dX10_isName_31 rfl (lv_at hl 0 rfl) ?_
  refine cg_X10_33 C hw dX10_isName_32 ?_
  refine lv_aload_n hx hb dX10_isName_35 rfl (lv_at hl 0 rfl) ?_
  refine cg_X10_27 C hw dX10_isName_36 ?_
  refine lv_iload_n hx hb dX10_isName_39 rfl (lv_at hl 1 rfl) ?_
  obtain ⟨hi, hm⟩ := ix_elim hm
  refine cal_96 C hw hi dX10_isName_40 ?_
  refine lv_iload hx hb dX10_isName_41 (lv_at hl 4 rfl) ?_
  refine lv_iadd hx hb dX10_isName_43 ?_
  obtain ⟨⟨r1, F1, G1⟩, hc, hm⟩ := bind_elim hm
  refine ccallI (n := 1) (As := [.int ((G 96 x1.toNatClampNeg) + x5)]) (rest := []) C hw (ck_X9_at l v a _ _ fu ((G 96 x1.toNatClampNeg) + x5) F G r1 F1 G1 hc) (cn_X9_at fu ((G 96 x1.toNatClampNeg) + x5) F G _ hc) (Nat.sub_le_sub_right (cn_X10_isName_47 fu ag_20 hagn_20 x1 x2 x3 x5 r1 F1 G1 hm) _) (crecv_X9 C hw) cm_61 cm_62 cm_63 cm_6 cm_64 (by decide +kernel) rfl (by omega) (by omega) hl.1 rfl (Nat.le_of_ble_eq_true rfl) dX10_isName_44 (fun b H locs hw => ?_)
  exact cw_X10_isName_47 fu C hret ag_20 hag_20 hagn_20 x1 x2 x3 x5 r1 F1 G1 hm hw (lv_sub hl [0, 1, 2, 3, 4] rfl)
theorem cn_X10_isName_26 (fu : Nat) {res : Int32 × PF × PG} (ag_20 : Int32 → Int32 → Int32 → Int32 → Int32 → PF → PG → PR) (hagn_20 : ∀ (x1 : Int32) (x2 : Int32) (x3 : Int32) (x4 : Int32) (x5 : Int32) (F : PF) (G : PG), ag_20 x1 x2 x3 x4 x5 F G = some res → xn F ≤ xn res.2.1) (x1 : Int32) (x2 : Int32) (x3 : Int32) (x4 : Int32) (x5 : Int32) (F : PF) (G : PG) (hm : cb_X10_isName_26 fu ag_20 x1 x2 x3 x4 x5 F G = some res) : xn F ≤ xn res.2.1 := by
  unfold cb_X10_isName_26 at hm
  by_cases c_1 : x4 = (0 : Int32)
  · have hm := (if_pos c_1).symm.trans hm
    exact (cn_X10_isName_74 fu x4 F G hm)
  · have hm := (if_neg c_1).symm.trans hm
    exact (cn_X10_isName_31 fu ag_20 hagn_20 x1 x2 x3 x5 F G hm)
theorem cw_X10_isName_26 (fu : Nat) {res : Int32 × PF × PG} (C : cMC p R s m args c A v RX10 cX10_isName 6 1 21 (xn res.2.1 - xn K0)) (hret : ∀ (b1 : Nat) (H1 : Heap) (locs1 : List Loc) (ls1 : Array Slot) (pc : Nat), cMW s A v a b1 K0 res.2.1 res.2.2 H1 locs1 → narrow .boolean (.int res.1) = .int res.1 → decode cX10_isName pc = .ok (.ireturn, 1) → W p l e R s m args below meth c H1 locs1 (xn res.2.1 - xn K0) (2 * (xn res.2.1 - xn K0)) Q (F0 m pc ls1 [.int res.1])) (ag_20 : Int32 → Int32 → Int32 → Int32 → Int32 → PF → PG → PR) (hag_20 : ∀ (x1 : Int32) (x2 : Int32) (x3 : Int32) (x4 : Int32) (x5 : Int32) (F : PF) (G : PG), ag_20 x1 x2 x3 x4 x5 F G = some res → ∀ (b : Nat) (H : Heap) (locs : List Loc) (ls : Array Slot), cMW s A v a b K0 F G H locs → lv_has ls 6 [(0, .ref (a 210)), (1, .int x1), (2, .int x2), (3, .int x3), (4, .int x4), (5, .int x5)] → W p l e R s m args below meth c H locs (xn F - xn K0) (2 * (xn F - xn K0)) Q (F0 m 20 ls [])) (hagn_20 : ∀ (x1 : Int32) (x2 : Int32) (x3 : Int32) (x4 : Int32) (x5 : Int32) (F : PF) (G : PG), ag_20 x1 x2 x3 x4 x5 F G = some res → xn F ≤ xn res.2.1) (x1 : Int32) (x2 : Int32) (x3 : Int32) (x4 : Int32) (x5 : Int32) (F : PF) (G : PG) (hm : cb_X10_isName_26 fu ag_20 x1 x2 x3 x4 x5 F G = some res) {b : Nat} {H : Heap} {locs : List Loc} (hw : cMW s A v a b K0 F G H locs) {ls : Array Slot} (hl : lv_has ls 6 [(0, .ref (a 210)), (1, .int x1), (2, .int x2), (3, .int x3), (4, .int x4), (5, .int x5)]) : W p l e R s m args below meth c H locs (xn F - xn K0) (2 * (xn F - xn K0)) Q (F0 m 26 ls []) := by
  have hx := C.1
  have hb := C.2.1
  unfold cb_X10_isName_26 at hm
  refine lv_iload hx hb dX10_isName_26 (lv_at hl 4 rfl) ?_
  refine lv_if_eq (tgt := 74) hx hb dX10_isName_28 (by decide) (fun c_1 => ?_) (fun c_1 => ?_)
  · have hm := (if_pos c_1).symm.trans hm
    exact cw_X10_isName_74 fu C hret x4 F G hm hw (lv_sub hl [4] rfl)
  · have hm := (if_neg c_1).symm.trans hm
    exact cw_X10_isName_31 fu C hret ag_20 hag_20 hagn_20 x1 x2 x3 x5 F G hm hw (lv_sub hl [0, 1, 2, 3, 5] rfl)
theorem cn_X10_isName_20 (fu : Nat) {res : Int32 × PF × PG} (ag_20 : Int32 → Int32 → Int32 → Int32 → Int32 → PF → PG → PR) (hagn_20 : ∀ (x1 : Int32) (x2 : Int32) (x3 : Int32) (x4 : Int32) (x5 : Int32) (F : PF) (G : PG), ag_20 x1 x2 x3 x4 x5 F G = some res → xn F ≤ xn res.2.1) (x1 : Int32) (x2 : Int32) (x3 : Int32) (x4 : Int32) (x5 : Int32) (F : PF) (G : PG) (hm : cb_X10_isName_20 fu ag_20 x1 x2 x3 x4 x5 F G = some res) : xn F ≤ xn res.2.1 := by
  unfold cb_X10_isName_20 at hm
  by_cases c_1 : x3 ≤ x5
  · have hm := (if_pos c_1).symm.trans hm
    exact (cn_X10_isName_74 fu x4 F G hm)
  · have hm := (if_neg c_1).symm.trans hm
    exact (cn_X10_isName_26 fu ag_20 hagn_20 x1 x2 x3 x4 x5 F G hm)
theorem cw_X10_isName_20 (fu : Nat) {res : Int32 × PF × PG} (C : cMC p R s m args c A v RX10 cX10_isName 6 1 21 (xn res.2.1 - xn K0)) (hret : ∀ (b1 : Nat) (H1 : Heap) (locs1 : List Loc) (ls1 : Array Slot) (pc : Nat), cMW s A v a b1 K0 res.2.1 res.2.2 H1 locs1 → narrow .boolean (.int res.1) = .int res.1 → decode cX10_isName pc = .ok (.ireturn, 1) → W p l e R s m args below meth c H1 locs1 (xn res.2.1 - xn K0) (2 * (xn res.2.1 - xn K0)) Q (F0 m pc ls1 [.int res.1])) (ag_20 : Int32 → Int32 → Int32 → Int32 → Int32 → PF → PG → PR) (hag_20 : ∀ (x1 : Int32) (x2 : Int32) (x3 : Int32) (x4 : Int32) (x5 : Int32) (F : PF) (G : PG), ag_20 x1 x2 x3 x4 x5 F G = some res → ∀ (b : Nat) (H : Heap) (locs : List Loc) (ls : Array Slot), cMW s A v a b K0 F G H locs → lv_has ls 6 [(0, .ref (a 210)), (1, .int x1), (2, .int x2), (3, .int x3), (4, .int x4), (5, .int x5)] → W p l e R s m args below meth c H locs (xn F - xn K0) (2 * (xn F - xn K0)) Q (F0 m 20 ls [])) (hagn_20 : ∀ (x1 : Int32) (x2 : Int32) (x3 : Int32) (x4 : Int32) (x5 : Int32) (F : PF) (G : PG), ag_20 x1 x2 x3 x4 x5 F G = some res → xn F ≤ xn res.2.1) (x1 : Int32) (x2 : Int32) (x3 : Int32) (x4 : Int32) (x5 : Int32) (F : PF) (G : PG) (hm : cb_X10_isName_20 fu ag_20 x1 x2 x3 x4 x5 F G = some res) {b : Nat} {H : Heap} {locs : List Loc} (hw : cMW s A v a b K0 F G H locs) {ls : Array Slot} (hl : lv_has ls 6 [(0, .ref (a 210)), (1, .int x1), (2, .int x2), (3, .int x3), (4, .int x4), (5, .int x5)]) : W p l e R s m args below meth c H locs (xn F - xn K0) (2 * (xn F - xn K0)) Q (F0 m 20 ls []) := by
  have hx := C.1
  have hb := C.2.1
  unfold cb_X10_isName_20 at hm
  refine lv_iload hx hb dX10_isName_20 (lv_at hl 5 rfl) ?_
  refine lv_iload_n hx hb dX10_isName_22 rfl (lv_at hl 3 rfl) ?_
  refine lv_icmp_ge (tgt := 74) hx hb dX10_isName_23 (by decide) (fun c_1 => ?_) (fun c_1 => ?_)
  · have hm := (if_pos c_1).symm.trans hm
    exact cw_X10_isName_74 fu C hret x4 F G hm hw (lv_sub hl [4] rfl)
  · have hm := (if_neg c_1).symm.trans hm
    exact cw_X10_isName_26 fu C hret ag_20 hag_20 hagn_20 x1 x2 x3 x4 x5 F G hm hw (lv_sub hl [0, 1, 2, 3, 4, 5] rfl)
theorem cnl_X10_isName_20 (fu : Nat) {res : Int32 × PF × PG} : ∀ (n : Nat) (x1 : Int32) (x2 : Int32) (x3 : Int32) (x4 : Int32) (x5 : Int32) (F : PF) (G : PG) (hm : cl_X10_isName_20 fu n x1 x2 x3 x4 x5 F G = some res), xn F ≤ xn res.2.1 := by
  intro n
  induction n with
  | zero =>
    intro x1 x2 x3 x4 x5 F G hm
    exact no_elim (show (none : PR) = some res from hm)
  | succ n ih =>
    intro x1 x2 x3 x4 x5 F G hm
    exact cn_X10_isName_20 fu (cl_X10_isName_20 fu n) (fun x1 x2 x3 x4 x5 F G hm => ih x1 x2 x3 x4 x5 F G hm) x1 x2 x3 x4 x5 F G hm
theorem cwl_X10_isName_20 (fu : Nat) {res : Int32 × PF × PG} (C : cMC p R s m args c A v RX10 cX10_isName 6 1 21 (xn res.2.1 - xn K0)) (hret : ∀ (b1 : Nat) (H1 : Heap) (locs1 : List Loc) (ls1 : Array Slot) (pc : Nat), cMW s A v a b1 K0 res.2.1 res.2.2 H1 locs1 → narrow .boolean (.int res.1) = .int res.1 → decode cX10_isName pc = .ok (.ireturn, 1) → W p l e R s m args below meth c H1 locs1 (xn res.2.1 - xn K0) (2 * (xn res.2.1 - xn K0)) Q (F0 m pc ls1 [.int res.1])) : ∀ (n : Nat) (x1 : Int32) (x2 : Int32) (x3 : Int32) (x4 : Int32) (x5 : Int32) (F : PF) (G : PG) (hm : cl_X10_isName_20 fu n x1 x2 x3 x4 x5 F G = some res) {b : Nat} {H : Heap} {locs : List Loc} (hw : cMW s A v a b K0 F G H locs) {ls : Array Slot} (hl : lv_has ls 6 [(0, .ref (a 210)), (1, .int x1), (2, .int x2), (3, .int x3), (4, .int x4), (5, .int x5)]), W p l e R s m args below meth c H locs (xn F - xn K0) (2 * (xn F - xn K0)) Q (F0 m 20 ls []) := by
  intro n
  induction n with
  | zero =>
    intro x1 x2 x3 x4 x5 F G hm
    exact no_elim (show (none : PR) = some res from hm)
  | succ n ih =>
    intro x1 x2 x3 x4 x5 F G hm b H locs hw ls hl
    exact cw_X10_isName_20 fu C hret (cl_X10_isName_20 fu n) (fun x1 x2 x3 x4 x5 F G hm b H locs ls hw hl => ih x1 x2 x3 x4 x5 F G hm hw hl) (fun x1 x2 x3 x4 x5 F G hm => cnl_X10_isName_20 fu n x1 x2 x3 x4 x5 F G hm) x1 x2 x3 x4 x5 F G hm hw hl
theorem cn_X10_isName_15 (fu : Nat) {res : Int32 × PF × PG} (x1 : Int32) (x2 : Int32) (x3 : Int32) (z0 : Int32) (F : PF) (G : PG) (hm : cb_X10_isName_15 fu x1 x2 x3 z0 F G = some res) : xn F ≤ xn res.2.1 := by
  unfold cb_X10_isName_15 at hm
  exact (cnl_X10_isName_20 fu fu x1 x2 x3 z0 0 F G hm)
theorem cw_X10_isName_15 (fu : Nat) {res : Int32 × PF × PG} (C : cMC p R s m args c A v RX10 cX10_isName 6 1 21 (xn res.2.1 - xn K0)) (hret : ∀ (b1 : Nat) (H1 : Heap) (locs1 : List Loc) (ls1 : Array Slot) (pc : Nat), cMW s A v a b1 K0 res.2.1 res.2.2 H1 locs1 → narrow .boolean (.int res.1) = .int res.1 → decode cX10_isName pc = .ok (.ireturn, 1) → W p l e R s m args below meth c H1 locs1 (xn res.2.1 - xn K0) (2 * (xn res.2.1 - xn K0)) Q (F0 m pc ls1 [.int res.1])) (x1 : Int32) (x2 : Int32) (x3 : Int32) (z0 : Int32) (F : PF) (G : PG) (hm : cb_X10_isName_15 fu x1 x2 x3 z0 F G = some res) {b : Nat} {H : Heap} {locs : List Loc} (hw : cMW s A v a b K0 F G H locs) {ls : Array Slot} (hl : lv_has ls 6 [(0, .ref (a 210)), (1, .int x1), (2, .int x2), (3, .int x3)]) : W p l e R s m args below meth c H locs (xn F - xn K0) (2 * (xn F - xn K0)) Q (F0 m 15 ls [.int z0]) := by
  have hx := C.1
  have hb := C.2.1
  unfold cb_X10_isName_15 at hm
  refine lv_istore (lv' := [(4, .int z0), (0, .ref (a 210)), (1, .int x1), (2, .int x2), (3, .int x3)]) hx hb dX10_isName_15 hl (by decide) rfl (fun ls hl => ?_)
  refine lv_iconst (v := 0) hx hb dX10_isName_17 (by decide) ?_
  refine lv_istore (lv' := [(5, .int 0), (4, .int z0), (0, .ref (a 210)), (1, .int x1), (2, .int x2), (3, .int x3)]) hx hb dX10_isName_18 hl (by decide) rfl (fun ls hl => ?_)
  exact cwl_X10_isName_20 fu C hret fu x1 x2 x3 z0 0 F G hm hw (lv_sub hl [2, 3, 4, 5, 1, 0] rfl)
theorem cn_X10_isName_14 (fu : Nat) {res : Int32 × PF × PG} (x1 : Int32) (x2 : Int32) (x3 : Int32) (F : PF) (G : PG) (hm : cb_X10_isName_14 fu x1 x2 x3 F G = some res) : xn F ≤ xn res.2.1 := by
  unfold cb_X10_isName_14 at hm
  exact (cn_X10_isName_15 fu x1 x2 x3 0 F G hm)
theorem cw_X10_isName_14 (fu : Nat) {res : Int32 × PF × PG} (C : cMC p R s m args c A v RX10 cX10_isName 6 1 21 (xn res.2.1 - xn K0)) (hret : ∀ (b1 : Nat) (H1 : Heap) (locs1 : List Loc) (ls1 : Array Slot) (pc : Nat), cMW s A v a b1 K0 res.2.1 res.2.2 H1 locs1 → narrow .boolean (.int res.1) = .int res.1 → decode cX10_isName pc = .ok (.ireturn, 1) → W p l e R s m args below meth c H1 locs1 (xn res.2.1 - xn K0) (2 * (xn res.2.1 - xn K0)) Q (F0 m pc ls1 [.int res.1])) (x1 : Int32) (x2 : Int32) (x3 : Int32) (F : PF) (G : PG) (hm : cb_X10_isName_14 fu x1 x2 x3 F G = some res) {b : Nat} {H : Heap} {locs : List Loc} (hw : cMW s A v a b K0 F G H locs) {ls : Array Slot} (hl : lv_has ls 6 [(0, .ref (a 210)), (1, .int x1), (2, .int x2), (3, .int x3)]) : W p l e R s m args below meth c H locs (xn F - xn K0) (2 * (xn F - xn K0)) Q (F0 m 14 ls []) := by
  have hx := C.1
  have hb := C.2.1
  unfold cb_X10_isName_14 at hm
  refine lv_iconst (v := 0) hx hb dX10_isName_14 (by decide) ?_
  exact cw_X10_isName_15 fu C hret x1 x2 x3 0 F G hm hw (lv_sub hl [0, 1, 2, 3] rfl)
theorem cn_X10_isName_10 (fu : Nat) {res : Int32 × PF × PG} (x1 : Int32) (x2 : Int32) (x3 : Int32) (F : PF) (G : PG) (hm : cb_X10_isName_10 fu x1 x2 x3 F G = some res) : xn F ≤ xn res.2.1 := by
  unfold cb_X10_isName_10 at hm
  exact (cn_X10_isName_15 fu x1 x2 x3 1 F G hm)
theorem cw_X10_isName_10 (fu : Nat) {res : Int32 × PF × PG} (C : cMC p R s m args c A v RX10 cX10_isName 6 1 21 (xn res.2.1 - xn K0)) (hret : ∀ (b1 : Nat) (H1 : Heap) (locs1 : List Loc) (ls1 : Array Slot) (pc : Nat), cMW s A v a b1 K0 res.2.1 res.2.2 H1 locs1 → narrow .boolean (.int res.1) = .int res.1 → decode cX10_isName pc = .ok (.ireturn, 1) → W p l e R s m args below meth c H1 locs1 (xn res.2.1 - xn K0) (2 * (xn res.2.1 - xn K0)) Q (F0 m pc ls1 [.int res.1])) (x1 : Int32) (x2 : Int32) (x3 : Int32) (F : PF) (G : PG) (hm : cb_X10_isName_10 fu x1 x2 x3 F G = some res) {b : Nat} {H : Heap} {locs : List Loc} (hw : cMW s A v a b K0 F G H locs) {ls : Array Slot} (hl : lv_has ls 6 [(0, .ref (a 210)), (1, .int x1), (2, .int x2), (3, .int x3)]) : W p l e R s m args below meth c H locs (xn F - xn K0) (2 * (xn F - xn K0)) Q (F0 m 10 ls []) := by
  have hx := C.1
  have hb := C.2.1
  unfold cb_X10_isName_10 at hm
  refine lv_iconst (v := 1) hx hb dX10_isName_10 (by decide) ?_
  refine lv_goto (tgt := 15) hx hb dX10_isName_11 (by decide) ?_
  exact cw_X10_isName_15 fu C hret x1 x2 x3 1 F G hm hw (lv_sub hl [0, 1, 2, 3] rfl)
theorem cn_X10_isName_0 (fu : Nat) {res : Int32 × PF × PG} (x1 : Int32) (x2 : Int32) (x3 : Int32) (F : PF) (G : PG) (hm : cb_X10_isName_0 fu x1 x2 x3 F G = some res) : xn F ≤ xn res.2.1 := by
  unfold cb_X10_isName_0 at hm
  have hm := (ix_elim hm).2
  by_cases c_1 : (G 97 x1.toNatClampNeg) = x3
  · have hm := (if_pos c_1).symm.trans hm
    exact (cn_X10_isName_10 fu x1 x2 x3 F G hm)
  · have hm := (if_neg c_1).symm.trans hm
    exact (cn_X10_isName_14 fu x1 x2 x3 F G hm)
theorem cw_X10_isName_0 (fu : Nat) {res : Int32 × PF × PG} (C : cMC p R s m args c A v RX10 cX10_isName 6 1 21 (xn res.2.1 - xn K0)) (hret : ∀ (b1 : Nat) (H1 : Heap) (locs1 : List Loc) (ls1 : Array Slot) (pc : Nat), cMW s A v a b1 K0 res.2.1 res.2.2 H1 locs1 → narrow .boolean (.int res.1) = .int res.1 → decode cX10_isName pc = .ok (.ireturn, 1) → W p l e R s m args below meth c H1 locs1 (xn res.2.1 - xn K0) (2 * (xn res.2.1 - xn K0)) Q (F0 m pc ls1 [.int res.1])) (x1 : Int32) (x2 : Int32) (x3 : Int32) (F : PF) (G : PG) (hm : cb_X10_isName_0 fu x1 x2 x3 F G = some res) {b : Nat} {H : Heap} {locs : List Loc} (hw : cMW s A v a b K0 F G H locs) {ls : Array Slot} (hl : lv_has ls 6 [(0, .ref (a 210)), (1, .int x1), (2, .int x2), (3, .int x3)]) : W p l e R s m args below meth c H locs (xn F - xn K0) (2 * (xn F - xn K0)) Q (F0 m 0 ls []) := by
  have hx := C.1
  have hb := C.2.1
  unfold cb_X10_isName_0 at hm
  refine lv_aload_n hx hb dX10_isName_0 rfl (lv_at hl 0 rfl) ?_
  refine cg_X10_30 C hw dX10_isName_1 ?_
  refine lv_iload_n hx hb dX10_isName_4 rfl (lv_at hl 1 rfl) ?_
  obtain ⟨hi, hm⟩ := ix_elim hm
  refine cal_97 C hw hi dX10_isName_5 ?_
  refine lv_iload_n hx hb dX10_isName_6 rfl (lv_at hl 3 rfl) ?_
  refine lv_icmp_ne (tgt := 14) hx hb dX10_isName_7 (by decide) (fun c_1 => ?_) (fun c_1 => ?_)
  · have hm := (if_neg c_1).symm.trans hm
    exact cw_X10_isName_14 fu C hret x1 x2 x3 F G hm hw (lv_sub hl [0, 1, 2, 3] rfl)
  · have hm := (if_pos c_1).symm.trans hm
    exact cw_X10_isName_10 fu C hret x1 x2 x3 F G hm hw (lv_sub hl [0, 1, 2, 3] rfl)
theorem cn_X10_isName (fu : Nat) (x1 : Int32) (x2 : Int32) (x3 : Int32) (F : PF) (G : PG) (q : Int32 × PF × PG) (hm : cf_X10_isName fu x1 x2 x3 F G = some q) : xn F ≤ xn q.2.1 := cn_X10_isName_0 fu x1 x2 x3 F G hm
theorem ck_X10_isName (l : Launch) (v : EV) (a : Nat → Nat) (b sz : Nat) (fu : Nat) (x1 : Int32) (x2 : Int32) (x3 : Int32) (F : PF) (G : PG) (r : Int32) (F1 : PF) (G1 : PG) (hm : cf_X10_isName fu x1 x2 x3 F G = some (r, F1, G1)) : cMI l yX10_isName cX10_isName 6 (some .boolean) 1 21 v a b sz [.ref (a 210), .int x1, .int x2, .int x3] F G r F1 G1 := cMI.of (ty := .boolean) (by decide) rfl (Nat.le_of_ble_eq_true rfl) (fun p e R s m args below meth c Q A H locs ls C hw hl hret => cw_X10_isName_0 fu (res := (r, F1, G1)) C hret x1 x2 x3 F G hm hw hl)
def cb_X10_nameAt_178 (fu : Nat) (F : PF) (G : PG) : PR := some (((F 98) - (1 : Int32)), F, G)
def cb_X10_nameAt_168 (fu : Nat) (F : PF) (G : PG) : PR := cb_X10_nameAt_178 fu (fup F 98 ((F 98) + (1 : Int32))) G
def cb_X10_nameAt_157 (fu : Nat) (x4 : Int32) (F : PF) (G : PG) : PR := if ixb x4 1024 = true then (cb_X10_nameAt_168 fu F (gup G 94 x4.toNatClampNeg (F 98))) else none
def cb_X10_nameAt_141 (fu : Nat) (x4 : Int32) (F : PF) (G : PG) : PR := if ixb x4 1024 = true then (if ixb (F 98) 1408 = true then (cb_X10_nameAt_157 fu x4 F (gup G 95 (F 98).toNatClampNeg (G 94 x4.toNatClampNeg))) else none) else none
def cb_X10_nameAt_131 (fu : Nat) (x2 : Int32) (x4 : Int32) (F : PF) (G : PG) : PR := if ixb (F 98) 1408 = true then (cb_X10_nameAt_141 fu x4 F (gup G 97 (F 98).toNatClampNeg x2)) else none
def cb_X10_nameAt_121 (fu : Nat) (x1 : Int32) (x2 : Int32) (x4 : Int32) (F : PF) (G : PG) : PR := if ixb (F 98) 1408 = true then (cb_X10_nameAt_131 fu x2 x4 F (gup G 96 (F 98).toNatClampNeg x1)) else none
def cb_X10_nameAt_119 (fu : Nat) (F : PF) (G : PG) : PR := some (0, F, G)
def cb_X10_nameAt_109 (fu : Nat) (x1 : Int32) (x2 : Int32) (x4 : Int32) (F : PF) (G : PG) : PR := if (F 98) < (1408 : Int32) then cb_X10_nameAt_121 fu x1 x2 x4 F G else cb_X10_nameAt_119 fu F G
def cb_X10_nameAt_94 (fu : Nat) (ag_58 : Int32 → Int32 → Int32 → Int32 → Int32 → PF → PG → PR) (x1 : Int32) (x2 : Int32) (x4 : Int32) (x5 : Int32) (x6 : Int32) (F : PF) (G : PG) : PR := if ixb x5 1408 = true then (ag_58 x1 x2 x4 (G 95 x5.toNatClampNeg) (x6 + 1) F G) else none
def cb_X10_nameAt_91 (fu : Nat) (x5 : Int32) (F : PF) (G : PG) : PR := some (x5, F, G)
def cb_X10_nameAt_88 (fu : Nat) (ag_58 : Int32 → Int32 → Int32 → Int32 → Int32 → PF → PG → PR) (x1 : Int32) (x2 : Int32) (x4 : Int32) (x5 : Int32) (x6 : Int32) (z0 : Int32) (F : PF) (G : PG) : PR := if z0 = (0 : Int32) then cb_X10_nameAt_94 fu ag_58 x1 x2 x4 x5 x6 F G else cb_X10_nameAt_91 fu x5 F G
def cb_X10_nameAt_80 (fu : Nat) (ag_58 : Int32 → Int32 → Int32 → Int32 → Int32 → PF → PG → PR) (x1 : Int32) (x2 : Int32) (x4 : Int32) (x5 : Int32) (x6 : Int32) (F : PF) (G : PG) : PR := (cf_X10_isName fu x5 x1 x2 F G).bind (fun q => cb_X10_nameAt_88 fu ag_58 x1 x2 x4 x5 x6 q.1 q.2.1 q.2.2)
def cb_X10_nameAt_72 (fu : Nat) (ag_58 : Int32 → Int32 → Int32 → Int32 → Int32 → PF → PG → PR) (x1 : Int32) (x2 : Int32) (x4 : Int32) (x5 : Int32) (x6 : Int32) (F : PF) (G : PG) : PR := if (1408 : Int32) ≤ x5 then cb_X10_nameAt_109 fu x1 x2 x4 F G else cb_X10_nameAt_80 fu ag_58 x1 x2 x4 x5 x6 F G
def cb_X10_nameAt_67 (fu : Nat) (ag_58 : Int32 → Int32 → Int32 → Int32 → Int32 → PF → PG → PR) (x1 : Int32) (x2 : Int32) (x4 : Int32) (x5 : Int32) (x6 : Int32) (F : PF) (G : PG) : PR := if x5 < (0 : Int32) then cb_X10_nameAt_109 fu x1 x2 x4 F G else cb_X10_nameAt_72 fu ag_58 x1 x2 x4 x5 x6 F G
def cb_X10_nameAt_58 (fu : Nat) (ag_58 : Int32 → Int32 → Int32 → Int32 → Int32 → PF → PG → PR) (x1 : Int32) (x2 : Int32) (x4 : Int32) (x5 : Int32) (x6 : Int32) (F : PF) (G : PG) : PR := if (F 98) ≤ x6 then cb_X10_nameAt_109 fu x1 x2 x4 F G else cb_X10_nameAt_67 fu ag_58 x1 x2 x4 x5 x6 F G
def cl_X10_nameAt_58 (fu : Nat) : Nat → Int32 → Int32 → Int32 → Int32 → Int32 → PF → PG → PR
  | 0 => fun _ _ _ _ _ _ _ => none
  | n + 1 => fun x1 x2 x4 x5 x6 F G => cb_X10_nameAt_58 fu (cl_X10_nameAt_58 fu n) x1 x2 x4 x5 x6 F G
def cb_X10_nameAt_34 (fu : Nat) (x1 : Int32) (x2 : Int32) (x3 : Int32) (F : PF) (G : PG) : PR := if ixb ((x3 ^^^ ((x3.toUInt32 >>> ((10 : Int32).toUInt32 &&& Int32.toUInt32 31)).toInt32)) &&& (1023 : Int32)) 1024 = true then (cl_X10_nameAt_58 fu fu x1 x2 ((x3 ^^^ ((x3.toUInt32 >>> ((10 : Int32).toUInt32 &&& Int32.toUInt32 31)).toInt32)) &&& (1023 : Int32)) (G 94 ((x3 ^^^ ((x3.toUInt32 >>> ((10 : Int32).toUInt32 &&& Int32.toUInt32 31)).toInt32)) &&& (1023 : Int32)).toNatClampNeg) 0 F G) else none
def cb_X10_nameAt_26 (fu : Nat) (ag_5 : Int32 → Int32 → Int32 → Int32 → PF → PG → PR) (x1 : Int32) (x2 : Int32) (x4 : Int32) (z0 : Int32) (z1 : Int32) (F : PF) (G : PG) : PR := ag_5 x1 x2 (z1 + z0) (x4 + 1) F G
def cb_X10_nameAt_11 (fu : Nat) (ag_5 : Int32 → Int32 → Int32 → Int32 → PF → PG → PR) (x1 : Int32) (x2 : Int32) (x3 : Int32) (x4 : Int32) (F : PF) (G : PG) : PR := (cf_X9_at fu (x1 + x4) F G).bind (fun q => cb_X10_nameAt_26 fu ag_5 x1 x2 x4 q.1 (x3 * (31 : Int32)) q.2.1 q.2.2)
def cb_X10_nameAt_5 (fu : Nat) (ag_5 : Int32 → Int32 → Int32 → Int32 → PF → PG → PR) (x1 : Int32) (x2 : Int32) (x3 : Int32) (x4 : Int32) (F : PF) (G : PG) : PR := if x2 ≤ x4 then cb_X10_nameAt_34 fu x1 x2 x3 F G else cb_X10_nameAt_11 fu ag_5 x1 x2 x3 x4 F G
def cl_X10_nameAt_5 (fu : Nat) : Nat → Int32 → Int32 → Int32 → Int32 → PF → PG → PR
  | 0 => fun _ _ _ _ _ _ => none
  | n + 1 => fun x1 x2 x3 x4 F G => cb_X10_nameAt_5 fu (cl_X10_nameAt_5 fu n) x1 x2 x3 x4 F G
def cb_X10_nameAt_0 (fu : Nat) (x1 : Int32) (x2 : Int32) (F : PF) (G : PG) : PR := cl_X10_nameAt_5 fu fu x1 x2 x2 0 F G
def cf_X10_nameAt (fu : Nat) (x1 : Int32) (x2 : Int32) (F : PF) (G : PG) : PR := cb_X10_nameAt_0 fu x1 x2 F G
theorem cn_X10_nameAt_178 (fu : Nat) {res : Int32 × PF × PG} (F : PF) (G : PG) (hm : cb_X10_nameAt_178 fu F G = some res) : xn F ≤ xn res.2.1 := by
  unfold cb_X10_nameAt_178 at hm
  obtain rfl := Option.some.inj hm
  exact Nat.le_refl _
theorem cw_X10_nameAt_178 (fu : Nat) {res : Int32 × PF × PG} (C : cMC p R s m args c A v RX10 cX10_nameAt 7 2 46 (xn res.2.1 - xn K0)) (hret : ∀ (b1 : Nat) (H1 : Heap) (locs1 : List Loc) (ls1 : Array Slot) (pc : Nat), cMW s A v a b1 K0 res.2.1 res.2.2 H1 locs1 → narrow .int (.int res.1) = .int res.1 → decode cX10_nameAt pc = .ok (.ireturn, 1) → W p l e R s m args below meth c H1 locs1 (xn res.2.1 - xn K0) (2 * (xn res.2.1 - xn K0)) Q (F0 m pc ls1 [.int res.1])) (F : PF) (G : PG) (hm : cb_X10_nameAt_178 fu F G = some res) {b : Nat} {H : Heap} {locs : List Loc} (hw : cMW s A v a b K0 F G H locs) {ls : Array Slot} (hl : lv_has ls 7 [(0, .ref (a 210))]) : W p l e R s m args below meth c H locs (xn F - xn K0) (2 * (xn F - xn K0)) Q (F0 m 178 ls []) := by
  have hx := C.1
  have hb := C.2.1
  unfold cb_X10_nameAt_178 at hm
  refine lv_aload_n hx hb dX10_nameAt_178 rfl (lv_at hl 0 rfl) ?_
  refine cg_X10_41 C hw dX10_nameAt_179 ?_
  refine lv_iconst (v := 1) hx hb dX10_nameAt_182 (by decide) ?_
  refine lv_isub hx hb dX10_nameAt_183 ?_
  obtain rfl := Option.some.inj hm
  exact hret _ _ _ _ _ hw rfl dX10_nameAt_184
theorem cn_X10_nameAt_168 (fu : Nat) {res : Int32 × PF × PG} (F : PF) (G : PG) (hm : cb_X10_nameAt_168 fu F G = some res) : xn F ≤ xn res.2.1 := by
  unfold cb_X10_nameAt_168 at hm
  exact Nat.le_trans (Nat.le_of_eq (xn_fup (by decide)).symm) (cn_X10_nameAt_178 fu (fup F 98 ((F 98) + (1 : Int32))) G hm)
theorem cw_X10_nameAt_168 (fu : Nat) {res : Int32 × PF × PG} (C : cMC p R s m args c A v RX10 cX10_nameAt 7 2 46 (xn res.2.1 - xn K0)) (hret : ∀ (b1 : Nat) (H1 : Heap) (locs1 : List Loc) (ls1 : Array Slot) (pc : Nat), cMW s A v a b1 K0 res.2.1 res.2.2 H1 locs1 → narrow .int (.int res.1) = .int res.1 → decode cX10_nameAt pc = .ok (.ireturn, 1) → W p l e R s m args below meth c H1 locs1 (xn res.2.1 - xn K0) (2 * (xn res.2.1 - xn K0)) Q (F0 m pc ls1 [.int res.1])) (F : PF) (G : PG) (hm : cb_X10_nameAt_168 fu F G = some res) {b : Nat} {H : Heap} {locs : List Loc} (hw : cMW s A v a b K0 F G H locs) {ls : Array Slot} (hl : lv_has ls 7 [(0, .ref (a 210))]) : W p l e R s m args below meth c H locs (xn F - xn K0) (2 * (xn F - xn K0)) Q (F0 m 168 ls []) := by
  have hx := C.1
  have hb := C.2.1
  unfold cb_X10_nameAt_168 at hm
  refine lv_aload_n hx hb dX10_nameAt_168 rfl (lv_at hl 0 rfl) ?_
  refine lv_dup hx hb dX10_nameAt_169 rfl ?_
  refine cg_X10_41 C hw dX10_nameAt_170 ?_
  refine lv_iconst (v := 1) hx hb dX10_nameAt_173 (by decide) ?_
  refine lv_iadd hx hb dX10_nameAt_174 ?_
  refine cp_X10_41 C hw dX10_nameAt_175 (fun H locs hw => ?_)
  exact cw_X10_nameAt_178 fu C hret (fup F 98 ((F 98) + (1 : Int32))) G hm hw (lv_sub hl [0] rfl)
theorem cn_X10_nameAt_157 (fu : Nat) {res : Int32 × PF × PG} (x4 : Int32) (F : PF) (G : PG) (hm : cb_X10_nameAt_157 fu x4 F G = some res) : xn F ≤ xn res.2.1 := by
  unfold cb_X10_nameAt_157 at hm
  have hm := (ix_elim hm).2
  exact (cn_X10_nameAt_168 fu F (gup G 94 x4.toNatClampNeg (F 98)) hm)
theorem cw_X10_nameAt_157 (fu : Nat) {res : Int32 × PF × PG} (C : cMC p R s m args c A v RX10 cX10_nameAt 7 2 46 (xn res.2.1 - xn K0)) (hret : ∀ (b1 : Nat) (H1 : Heap) (locs1 : List Loc) (ls1 : Array Slot) (pc : Nat), cMW s A v a b1 K0 res.2.1 res.2.2 H1 locs1 → narrow .int (.int res.1) = .int res.1 → decode cX10_nameAt pc = .ok (.ireturn, 1) → W p l e R s m args below meth c H1 locs1 (xn res.2.1 - xn K0) (2 * (xn res.2.1 - xn K0)) Q (F0 m pc ls1 [.int res.1])) (x4 : Int32) (F : PF) (G : PG) (hm : cb_X10_nameAt_157 fu x4 F G = some res) {b : Nat} {H : Heap} {locs : List Loc} (hw : cMW s A v a b K0 F G H locs) {ls : Array Slot} (hl : lv_has ls 7 [(0, .ref (a 210)), (4, .int x4)]) : W p l e R s m args below meth c H locs (xn F - xn K0) (2 * (xn F - xn K0)) Q (F0 m 157 ls []) := by
  have hx := C.1
  have hb := C.2.1
  unfold cb_X10_nameAt_157 at hm
  refine lv_aload_n hx hb dX10_nameAt_157 rfl (lv_at hl 0 rfl) ?_
  refine cg_X10_21 C hw dX10_nameAt_158 ?_
  refine lv_iload hx hb dX10_nameAt_161 (lv_at hl 1 rfl) ?_
  refine lv_aload_n hx hb dX10_nameAt_163 rfl (lv_at hl 0 rfl) ?_
  refine cg_X10_41 C hw dX10_nameAt_164 ?_
  obtain ⟨hi, hm⟩ := ix_elim hm
  refine cas_94 C hw hi dX10_nameAt_167 (fun H locs hw => ?_)
  exact cw_X10_nameAt_168 fu C hret F (gup G 94 x4.toNatClampNeg (F 98)) hm hw (lv_sub hl [0] rfl)
theorem cn_X10_nameAt_141 (fu : Nat) {res : Int32 × PF × PG} (x4 : Int32) (F : PF) (G : PG) (hm : cb_X10_nameAt_141 fu x4 F G = some res) : xn F ≤ xn res.2.1 := by
  unfold cb_X10_nameAt_141 at hm
  have hm := (ix_elim hm).2
  have hm := (ix_elim hm).2
  exact (cn_X10_nameAt_157 fu x4 F (gup G 95 (F 98).toNatClampNeg (G 94 x4.toNatClampNeg)) hm)
theorem cw_X10_nameAt_141 (fu : Nat) {res : Int32 × PF × PG} (C : cMC p R s m args c A v RX10 cX10_nameAt 7 2 46 (xn res.2.1 - xn K0)) (hret : ∀ (b1 : Nat) (H1 : Heap) (locs1 : List Loc) (ls1 : Array Slot) (pc : Nat), cMW s A v a b1 K0 res.2.1 res.2.2 H1 locs1 → narrow .int (.int res.1) = .int res.1 → decode cX10_nameAt pc = .ok (.ireturn, 1) → W p l e R s m args below meth c H1 locs1 (xn res.2.1 - xn K0) (2 * (xn res.2.1 - xn K0)) Q (F0 m pc ls1 [.int res.1])) (x4 : Int32) (F : PF) (G : PG) (hm : cb_X10_nameAt_141 fu x4 F G = some res) {b : Nat} {H : Heap} {locs : List Loc} (hw : cMW s A v a b K0 F G H locs) {ls : Array Slot} (hl : lv_has ls 7 [(0, .ref (a 210)), (4, .int x4)]) : W p l e R s m args below meth c H locs (xn F - xn K0) (2 * (xn F - xn K0)) Q (F0 m 141 ls []) := by
  have hx := C.1
  have hb := C.2.1
  unfold cb_X10_nameAt_141 at hm
  refine lv_aload_n hx hb dX10_nameAt_141 rfl (lv_at hl 0 rfl) ?_
  refine cg_X10_24 C hw dX10_nameAt_142 ?_
  refine lv_aload_n hx hb dX10_nameAt_145 rfl (lv_at hl 0 rfl) ?_
  refine cg_X10_41 C hw dX10_nameAt_146 ?_
  refine lv_aload_n hx hb dX10_nameAt_149 rfl (lv_at hl 0 rfl) ?_
  refine cg_X10_21 C hw dX10_nameAt_150 ?_
  refine lv_iload hx hb dX10_nameAt_153 (lv_at hl 1 rfl) ?_
  obtain ⟨hi, hm⟩ := ix_elim hm
  refine cal_94 C hw hi dX10_nameAt_155 ?_
  obtain ⟨hi, hm⟩ := ix_elim hm
  refine cas_95 C hw hi dX10_nameAt_156 (fun H locs hw => ?_)
  exact cw_X10_nameAt_157 fu C hret x4 F (gup G 95 (F 98).toNatClampNeg (G 94 x4.toNatClampNeg)) hm hw (lv_sub hl [0, 1] rfl)
theorem cn_X10_nameAt_131 (fu : Nat) {res : Int32 × PF × PG} (x2 : Int32) (x4 : Int32) (F : PF) (G : PG) (hm : cb_X10_nameAt_131 fu x2 x4 F G = some res) : xn F ≤ xn res.2.1 := by
  unfold cb_X10_nameAt_131 at hm
  have hm := (ix_elim hm).2
  exact (cn_X10_nameAt_141 fu x4 F (gup G 97 (F 98).toNatClampNeg x2) hm)
theorem cw_X10_nameAt_131 (fu : Nat) {res : Int32 × PF × PG} (C : cMC p R s m args c A v RX10 cX10_nameAt 7 2 46 (xn res.2.1 - xn K0)) (hret : ∀ (b1 : Nat) (H1 : Heap) (locs1 : List Loc) (ls1 : Array Slot) (pc : Nat), cMW s A v a b1 K0 res.2.1 res.2.2 H1 locs1 → narrow .int (.int res.1) = .int res.1 → decode cX10_nameAt pc = .ok (.ireturn, 1) → W p l e R s m args below meth c H1 locs1 (xn res.2.1 - xn K0) (2 * (xn res.2.1 - xn K0)) Q (F0 m pc ls1 [.int res.1])) (x2 : Int32) (x4 : Int32) (F : PF) (G : PG) (hm : cb_X10_nameAt_131 fu x2 x4 F G = some res) {b : Nat} {H : Heap} {locs : List Loc} (hw : cMW s A v a b K0 F G H locs) {ls : Array Slot} (hl : lv_has ls 7 [(0, .ref (a 210)), (2, .int x2), (4, .int x4)]) : W p l e R s m args below meth c H locs (xn F - xn K0) (2 * (xn F - xn K0)) Q (F0 m 131 ls []) := by
  have hx := C.1
  have hb := C.2.1
  unfold cb_X10_nameAt_131 at hm
  refine lv_aload_n hx hb dX10_nameAt_131 rfl (lv_at hl 0 rfl) ?_
  refine cg_X10_30 C hw dX10_nameAt_132 ?_
  refine lv_aload_n hx hb dX10_nameAt_135 rfl (lv_at hl 0 rfl) ?_
  refine cg_X10_41 C hw dX10_nameAt_136 ?_
  refine lv_iload_n hx hb dX10_nameAt_139 rfl (lv_at hl 1 rfl) ?_
  obtain ⟨hi, hm⟩ := ix_elim hm
  refine cas_97 C hw hi dX10_nameAt_140 (fun H locs hw => ?_)
  exact cw_X10_nameAt_141 fu C hret x4 F (gup G 97 (F 98).toNatClampNeg x2) hm hw (lv_sub hl [0, 2] rfl)
theorem cn_X10_nameAt_121 (fu : Nat) {res : Int32 × PF × PG} (x1 : Int32) (x2 : Int32) (x4 : Int32) (F : PF) (G : PG) (hm : cb_X10_nameAt_121 fu x1 x2 x4 F G = some res) : xn F ≤ xn res.2.1 := by
  unfold cb_X10_nameAt_121 at hm
  have hm := (ix_elim hm).2
  exact (cn_X10_nameAt_131 fu x2 x4 F (gup G 96 (F 98).toNatClampNeg x1) hm)
theorem cw_X10_nameAt_121 (fu : Nat) {res : Int32 × PF × PG} (C : cMC p R s m args c A v RX10 cX10_nameAt 7 2 46 (xn res.2.1 - xn K0)) (hret : ∀ (b1 : Nat) (H1 : Heap) (locs1 : List Loc) (ls1 : Array Slot) (pc : Nat), cMW s A v a b1 K0 res.2.1 res.2.2 H1 locs1 → narrow .int (.int res.1) = .int res.1 → decode cX10_nameAt pc = .ok (.ireturn, 1) → W p l e R s m args below meth c H1 locs1 (xn res.2.1 - xn K0) (2 * (xn res.2.1 - xn K0)) Q (F0 m pc ls1 [.int res.1])) (x1 : Int32) (x2 : Int32) (x4 : Int32) (F : PF) (G : PG) (hm : cb_X10_nameAt_121 fu x1 x2 x4 F G = some res) {b : Nat} {H : Heap} {locs : List Loc} (hw : cMW s A v a b K0 F G H locs) {ls : Array Slot} (hl : lv_has ls 7 [(0, .ref (a 210)), (1, .int x1), (2, .int x2), (4, .int x4)]) : W p l e R s m args below meth c H locs (xn F - xn K0) (2 * (xn F - xn K0)) Q (F0 m 121 ls []) := by
  have hx := C.1
  have hb := C.2.1
  unfold cb_X10_nameAt_121 at hm
  refine lv_aload_n hx hb dX10_nameAt_121 rfl (lv_at hl 0 rfl) ?_
  refine cg_X10_27 C hw dX10_nameAt_122 ?_
  refine lv_aload_n hx hb dX10_nameAt_125 rfl (lv_at hl 0 rfl) ?_
  refine cg_X10_41 C hw dX10_nameAt_126 ?_
  refine lv_iload_n hx hb dX10_nameAt_129 rfl (lv_at hl 1 rfl) ?_
  obtain ⟨hi, hm⟩ := ix_elim hm
  refine cas_96 C hw hi dX10_nameAt_130 (fun H locs hw => ?_)
  exact cw_X10_nameAt_131 fu C hret x2 x4 F (gup G 96 (F 98).toNatClampNeg x1) hm hw (lv_sub hl [0, 2, 3] rfl)
theorem cn_X10_nameAt_119 (fu : Nat) {res : Int32 × PF × PG} (F : PF) (G : PG) (hm : cb_X10_nameAt_119 fu F G = some res) : xn F ≤ xn res.2.1 := by
  unfold cb_X10_nameAt_119 at hm
  obtain rfl := Option.some.inj hm
  exact Nat.le_refl _
theorem cw_X10_nameAt_119 (fu : Nat) {res : Int32 × PF × PG} (C : cMC p R s m args c A v RX10 cX10_nameAt 7 2 46 (xn res.2.1 - xn K0)) (hret : ∀ (b1 : Nat) (H1 : Heap) (locs1 : List Loc) (ls1 : Array Slot) (pc : Nat), cMW s A v a b1 K0 res.2.1 res.2.2 H1 locs1 → narrow .int (.int res.1) = .int res.1 → decode cX10_nameAt pc = .ok (.ireturn, 1) → W p l e R s m args below meth c H1 locs1 (xn res.2.1 - xn K0) (2 * (xn res.2.1 - xn K0)) Q (F0 m pc ls1 [.int res.1])) (F : PF) (G : PG) (hm : cb_X10_nameAt_119 fu F G = some res) {b : Nat} {H : Heap} {locs : List Loc} (hw : cMW s A v a b K0 F G H locs) {ls : Array Slot} (hl : lv_has ls 7 []) : W p l e R s m args below meth c H locs (xn F - xn K0) (2 * (xn F - xn K0)) Q (F0 m 119 ls []) := by
  have hx := C.1
  have hb := C.2.1
  unfold cb_X10_nameAt_119 at hm
  refine lv_iconst (v := 0) hx hb dX10_nameAt_119 (by decide) ?_
  obtain rfl := Option.some.inj hm
  exact hret _ _ _ _ _ hw rfl dX10_nameAt_120
theorem cn_X10_nameAt_109 (fu : Nat) {res : Int32 × PF × PG} (x1 : Int32) (x2 : Int32) (x4 : Int32) (F : PF) (G : PG) (hm : cb_X10_nameAt_109 fu x1 x2 x4 F G = some res) : xn F ≤ xn res.2.1 := by
  unfold cb_X10_nameAt_109 at hm
  by_cases c_1 : (F 98) < (1408 : Int32)
  · have hm := (if_pos c_1).symm.trans hm
    exact (cn_X10_nameAt_121 fu x1 x2 x4 F G hm)
  · have hm := (if_neg c_1).symm.trans hm
    exact (cn_X10_nameAt_119 fu F G hm)
theorem cw_X10_nameAt_109 (fu : Nat) {res : Int32 × PF × PG} (C : cMC p R s m args c A v RX10 cX10_nameAt 7 2 46 (xn res.2.1 - xn K0)) (hret : ∀ (b1 : Nat) (H1 : Heap) (locs1 : List Loc) (ls1 : Array Slot) (pc : Nat), cMW s A v a b1 K0 res.2.1 res.2.2 H1 locs1 → narrow .int (.int res.1) = .int res.1 → decode cX10_nameAt pc = .ok (.ireturn, 1) → W p l e R s m args below meth c H1 locs1 (xn res.2.1 - xn K0) (2 * (xn res.2.1 - xn K0)) Q (F0 m pc ls1 [.int res.1])) (x1 : Int32) (x2 : Int32) (x4 : Int32) (F : PF) (G : PG) (hm : cb_X10_nameAt_109 fu x1 x2 x4 F G = some res) {b : Nat} {H : Heap} {locs : List Loc} (hw : cMW s A v a b K0 F G H locs) {ls : Array Slot} (hl : lv_has ls 7 [(0, .ref (a 210)), (1, .int x1), (2, .int x2), (4, .int x4)]) : W p l e R s m args below meth c H locs (xn F - xn K0) (2 * (xn F - xn K0)) Q (F0 m 109 ls []) := by
  have hx := C.1
  have hb := C.2.1
  unfold cb_X10_nameAt_109 at hm
  refine lv_aload_n hx hb dX10_nameAt_109 rfl (lv_at hl 0 rfl) ?_
  refine cg_X10_41 C hw dX10_nameAt_110 ?_
  refine lv_sipush (v := 1408) hx hb dX10_nameAt_113 (by decide) ?_
  refine lv_icmp_lt (tgt := 121) hx hb dX10_nameAt_116 (by decide) (fun c_1 => ?_) (fun c_1 => ?_)
  · have hm := (if_pos c_1).symm.trans hm
    exact cw_X10_nameAt_121 fu C hret x1 x2 x4 F G hm hw (lv_sub hl [0, 1, 2, 3] rfl)
  · have hm := (if_neg c_1).symm.trans hm
    exact cw_X10_nameAt_119 fu C hret F G hm hw (lv_sub hl [] rfl)
theorem cn_X10_nameAt_94 (fu : Nat) {res : Int32 × PF × PG} (ag_58 : Int32 → Int32 → Int32 → Int32 → Int32 → PF → PG → PR) (hagn_58 : ∀ (x1 : Int32) (x2 : Int32) (x4 : Int32) (x5 : Int32) (x6 : Int32) (F : PF) (G : PG), ag_58 x1 x2 x4 x5 x6 F G = some res → xn F ≤ xn res.2.1) (x1 : Int32) (x2 : Int32) (x4 : Int32) (x5 : Int32) (x6 : Int32) (F : PF) (G : PG) (hm : cb_X10_nameAt_94 fu ag_58 x1 x2 x4 x5 x6 F G = some res) : xn F ≤ xn res.2.1 := by
  unfold cb_X10_nameAt_94 at hm
  have hm := (ix_elim hm).2
  exact (hagn_58 x1 x2 x4 (G 95 x5.toNatClampNeg) (x6 + 1) F G hm)
theorem cw_X10_nameAt_94 (fu : Nat) {res : Int32 × PF × PG} (C : cMC p R s m args c A v RX10 cX10_nameAt 7 2 46 (xn res.2.1 - xn K0)) (hret : ∀ (b1 : Nat) (H1 : Heap) (locs1 : List Loc) (ls1 : Array Slot) (pc : Nat), cMW s A v a b1 K0 res.2.1 res.2.2 H1 locs1 → narrow .int (.int res.1) = .int res.1 → decode cX10_nameAt pc = .ok (.ireturn, 1) → W p l e R s m args below meth c H1 locs1 (xn res.2.1 - xn K0) (2 * (xn res.2.1 - xn K0)) Q (F0 m pc ls1 [.int res.1])) (ag_58 : Int32 → Int32 → Int32 → Int32 → Int32 → PF → PG → PR) (hag_58 : ∀ (x1 : Int32) (x2 : Int32) (x4 : Int32) (x5 : Int32) (x6 : Int32) (F : PF) (G : PG), ag_58 x1 x2 x4 x5 x6 F G = some res → ∀ (b : Nat) (H : Heap) (locs : List Loc) (ls : Array Slot), cMW s A v a b K0 F G H locs → lv_has ls 7 [(0, .ref (a 210)), (1, .int x1), (2, .int x2), (4, .int x4), (5, .int x5), (6, .int x6)] → W p l e R s m args below meth c H locs (xn F - xn K0) (2 * (xn F - xn K0)) Q (F0 m 58 ls [])) (hagn_58 : ∀ (x1 : Int32) (x2 : Int32) (x4 : Int32) (x5 : Int32) (x6 : Int32) (F : PF) (G : PG), ag_58 x1 x2 x4 x5 x6 F G = some res → xn F ≤ xn res.2.1) (x1 : Int32) (x2 : Int32) (x4 : Int32) (x5 : Int32) (x6 : Int32) (F : PF) (G : PG) (hm : cb_X10_nameAt_94 fu ag_58 x1 x2 x4 x5 x6 F G = some res) {b : Nat} {H : Heap} {locs : List Loc} (hw : cMW s A v a b K0 F G H locs) {ls : Array Slot} (hl : lv_has ls 7 [(0, .ref (a 210)), (1, .int x1), (2, .int x2), (4, .int x4), (5, .int x5), (6, .int x6)]) : W p l e R s m args below meth c H locs (xn F - xn K0) (2 * (xn F - xn K0)) Q (F0 m 94 ls []) := by
  have hx := C.1
  have hb := C.2.1
  unfold cb_X10_nameAt_94 at hm
  refine lv_aload_n hx hb dX10_nameAt_94 rfl (lv_at hl 0 rfl) ?_
  refine cg_X10_24 C hw dX10_nameAt_95 ?_
  refine lv_iload hx hb dX10_nameAt_98 (lv_at hl 4 rfl) ?_
  obtain ⟨hi, hm⟩ := ix_elim hm
  refine cal_95 C hw hi dX10_nameAt_100 ?_
  refine lv_istore (lv' := [(5, .int (G 95 x5.toNatClampNeg)), (0, .ref (a 210)), (1, .int x1), (2, .int x2), (4, .int x4), (6, .int x6)]) hx hb dX10_nameAt_101 hl (by decide) rfl (fun ls hl => ?_)
  refine lv_iinc (v := (x6 + 1)) (lv' := [(6, .int (x6 + 1)), (5, .int (G 95 x5.toNatClampNeg)), (0, .ref (a 210)), (1, .int x1), (2, .int x2), (4, .int x4)]) hx hb dX10_nameAt_103 hl (k := 5) rfl (by rfl) (by decide) rfl (fun ls hl => ?_)
  refine lv_goto (tgt := 58) hx hb dX10_nameAt_106 (by decide) ?_
  exact hag_58 x1 x2 x4 (G 95 x5.toNatClampNeg) (x6 + 1) F G hm _ _ _ _ hw (lv_sub hl [2, 3, 4, 5, 1, 0] rfl)
theorem cn_X10_nameAt_91 (fu : Nat) {res : Int32 × PF × PG} (x5 : Int32) (F : PF) (G : PG) (hm : cb_X10_nameAt_91 fu x5 F G = some res) : xn F ≤ xn res.2.1 := by
  unfold cb_X10_nameAt_91 at hm
  obtain rfl := Option.some.inj hm
  exact Nat.le_refl _
theorem cw_X10_nameAt_91 (fu : Nat) {res : Int32 × PF × PG} (C : cMC p R s m args c A v RX10 cX10_nameAt 7 2 46 (xn res.2.1 - xn K0)) (hret : ∀ (b1 : Nat) (H1 : Heap) (locs1 : List Loc) (ls1 : Array Slot) (pc : Nat), cMW s A v a b1 K0 res.2.1 res.2.2 H1 locs1 → narrow .int (.int res.1) = .int res.1 → decode cX10_nameAt pc = .ok (.ireturn, 1) → W p l e R s m args below meth c H1 locs1 (xn res.2.1 - xn K0) (2 * (xn res.2.1 - xn K0)) Q (F0 m pc ls1 [.int res.1])) (x5 : Int32) (F : PF) (G : PG) (hm : cb_X10_nameAt_91 fu x5 F G = some res) {b : Nat} {H : Heap} {locs : List Loc} (hw : cMW s A v a b K0 F G H locs) {ls : Array Slot} (hl : lv_has ls 7 [(5, .int x5)]) : W p l e R s m args below meth c H locs (xn F - xn K0) (2 * (xn F - xn K0)) Q (F0 m 91 ls []) := by
  have hx := C.1
  have hb := C.2.1
  unfold cb_X10_nameAt_91 at hm
  refine lv_iload hx hb dX10_nameAt_91 (lv_at hl 0 rfl) ?_
  obtain rfl := Option.some.inj hm
  exact hret _ _ _ _ _ hw rfl dX10_nameAt_93
theorem cn_X10_nameAt_88 (fu : Nat) {res : Int32 × PF × PG} (ag_58 : Int32 → Int32 → Int32 → Int32 → Int32 → PF → PG → PR) (hagn_58 : ∀ (x1 : Int32) (x2 : Int32) (x4 : Int32) (x5 : Int32) (x6 : Int32) (F : PF) (G : PG), ag_58 x1 x2 x4 x5 x6 F G = some res → xn F ≤ xn res.2.1) (x1 : Int32) (x2 : Int32) (x4 : Int32) (x5 : Int32) (x6 : Int32) (z0 : Int32) (F : PF) (G : PG) (hm : cb_X10_nameAt_88 fu ag_58 x1 x2 x4 x5 x6 z0 F G = some res) : xn F ≤ xn res.2.1 := by
  unfold cb_X10_nameAt_88 at hm
  by_cases c_1 : z0 = (0 : Int32)
  · have hm := (if_pos c_1).symm.trans hm
    exact (cn_X10_nameAt_94 fu ag_58 hagn_58 x1 x2 x4 x5 x6 F G hm)
  · have hm := (if_neg c_1).symm.trans hm
    exact (cn_X10_nameAt_91 fu x5 F G hm)
theorem cw_X10_nameAt_88 (fu : Nat) {res : Int32 × PF × PG} (C : cMC p R s m args c A v RX10 cX10_nameAt 7 2 46 (xn res.2.1 - xn K0)) (hret : ∀ (b1 : Nat) (H1 : Heap) (locs1 : List Loc) (ls1 : Array Slot) (pc : Nat), cMW s A v a b1 K0 res.2.1 res.2.2 H1 locs1 → narrow .int (.int res.1) = .int res.1 → decode cX10_nameAt pc = .ok (.ireturn, 1) → W p l e R s m args below meth c H1 locs1 (xn res.2.1 - xn K0) (2 * (xn res.2.1 - xn K0)) Q (F0 m pc ls1 [.int res.1])) (ag_58 : Int32 → Int32 → Int32 → Int32 → Int32 → PF → PG → PR) (hag_58 : ∀ (x1 : Int32) (x2 : Int32) (x4 : Int32) (x5 : Int32) (x6 : Int32) (F : PF) (G : PG), ag_58 x1 x2 x4 x5 x6 F G = some res → ∀ (b : Nat) (H : Heap) (locs : List Loc) (ls : Array Slot), cMW s A v a b K0 F G H locs → lv_has ls 7 [(0, .ref (a 210)), (1, .int x1), (2, .int x2), (4, .int x4), (5, .int x5), (6, .int x6)] → W p l e R s m args below meth c H locs (xn F - xn K0) (2 * (xn F - xn K0)) Q (F0 m 58 ls [])) (hagn_58 : ∀ (x1 : Int32) (x2 : Int32) (x4 : Int32) (x5 : Int32) (x6 : Int32) (F : PF) (G : PG), ag_58 x1 x2 x4 x5 x6 F G = some res → xn F ≤ xn res.2.1) (x1 : Int32) (x2 : Int32) (x4 : Int32) (x5 : Int32) (x6 : Int32) (z0 : Int32) (F : PF) (G : PG) (hm : cb_X10_nameAt_88 fu ag_58 x1 x2 x4 x5 x6 z0 F G = some res) {b : Nat} {H : Heap} {locs : List Loc} (hw : cMW s A v a b K0 F G H locs) {ls : Array Slot} (hl : lv_has ls 7 [(0, .ref (a 210)), (1, .int x1), (2, .int x2), (4, .int x4), (5, .int x5), (6, .int x6)]) : W p l e R s m args below meth c H locs (xn F - xn K0) (2 * (xn F - xn K0)) Q (F0 m 88 ls [.int z0]) := by
  have hx := C.1
  have hb := C.2.1
  unfold cb_X10_nameAt_88 at hm
  refine lv_if_eq (tgt := 94) hx hb dX10_nameAt_88 (by decide) (fun c_1 => ?_) (fun c_1 => ?_)
  · have hm := (if_pos c_1).symm.trans hm
    exact cw_X10_nameAt_94 fu C hret ag_58 hag_58 hagn_58 x1 x2 x4 x5 x6 F G hm hw (lv_sub hl [0, 1, 2, 3, 4, 5] rfl)
  · have hm := (if_neg c_1).symm.trans hm
    exact cw_X10_nameAt_91 fu C hret x5 F G hm hw (lv_sub hl [4] rfl)
theorem cn_X10_nameAt_80 (fu : Nat) {res : Int32 × PF × PG} (ag_58 : Int32 → Int32 → Int32 → Int32 → Int32 → PF → PG → PR) (hagn_58 : ∀ (x1 : Int32) (x2 : Int32) (x4 : Int32) (x5 : Int32) (x6 : Int32) (F : PF) (G : PG), ag_58 x1 x2 x4 x5 x6 F G = some res → xn F ≤ xn res.2.1) (x1 : Int32) (x2 : Int32) (x4 : Int32) (x5 : Int32) (x6 : Int32) (F : PF) (G : PG) (hm : cb_X10_nameAt_80 fu ag_58 x1 x2 x4 x5 x6 F G = some res) : xn F ≤ xn res.2.1 := by
  unfold cb_X10_nameAt_80 at hm
  obtain ⟨⟨r1, F1, G1⟩, hc, hm⟩ := bind_elim hm
  exact Nat.le_trans (cn_X10_isName fu x5 x1 x2 F G _ hc) (cn_X10_nameAt_88 fu ag_58 hagn_58 x1 x2 x4 x5 x6 r1 F1 G1 hm)
theorem cw_X10_nameAt_80 (fu : Nat) {res : Int32 × PF × PG} (C : cMC p R s m args c A v RX10 cX10_nameAt 7 2 46 (xn res.2.1 - xn K0)) (hret : ∀ (b1 : Nat) (H1 : Heap) (locs1 : List Loc) (ls1 : Array Slot) (pc : Nat), cMW s A v a b1 K0 res.2.1 res.2.2 H1 locs1 → narrow .int (.int res.1) = .int res.1 → decode cX10_nameAt pc = .ok (.ireturn, 1) → W p l e R s m args below meth c H1 locs1 (xn res.2.1 - xn K0) (2 * (xn res.2.1 - xn K0)) Q (F0 m pc ls1 [.int res.1])) (ag_58 : Int32 → Int32 → Int32 → Int32 → Int32 → PF → PG → PR) (hag_58 : ∀ (x1 : Int32) (x2 : Int32) (x4 : Int32) (x5 : Int32) (x6 : Int32) (F : PF) (G : PG), ag_58 x1 x2 x4 x5 x6 F G = some res → ∀ (b : Nat) (H : Heap) (locs : List Loc) (ls : Array Slot), cMW s A v a b K0 F G H locs → lv_has ls 7 [(0, .ref (a 210)), (1, .int x1), (2, .int x2), (4, .int x4), (5, .int x5), (6, .int x6)] → W p l e R s m args below meth c H locs (xn F - xn K0) (2 * (xn F - xn K0)) Q (F0 m 58 ls [])) (hagn_58 : ∀ (x1 : Int32) (x2 : Int32) (x4 : Int32) (x5 : Int32) (x6 : Int32) (F : PF) (G : PG), ag_58 x1 x2 x4 x5 x6 F G = some res → xn F ≤ xn res.2.1) (x1 : Int32) (x2 : Int32) (x4 : Int32) (x5 : Int32) (x6 : Int32) (F : PF) (G : PG) (hm : cb_X10_nameAt_80 fu ag_58 x1 x2 x4 x5 x6 F G = some res) {b : Nat} {H : Heap} {locs : List Loc} (hw : cMW s A v a b K0 F G H locs) {ls : Array Slot} (hl : lv_has ls 7 [(0, .ref (a 210)), (1, .int x1), (2, .int x2), (4, .int x4), (5, .int x5), (6, .int x6)]) : W p l e R s m args below meth c H locs (xn F - xn K0) (2 * (xn F - xn K0)) Q (F0 m 80 ls []) := by
  have hx := C.1
  have hb := C.2.1
  unfold cb_X10_nameAt_80 at hm
  refine lv_aload_n hx hb dX10_nameAt_80 rfl (lv_at hl 0 rfl) ?_
  refine lv_iload hx hb dX10_nameAt_81 (lv_at hl 4 rfl) ?_
  refine lv_iload_n hx hb dX10_nameAt_83 rfl (lv_at hl 1 rfl) ?_
  refine lv_iload_n hx hb dX10_nameAt_84 rfl (lv_at hl 2 rfl) ?_
  obtain ⟨⟨r1, F1, G1⟩, hc, hm⟩ := bind_elim hm
  refine ccallI (n := 3) (As := [.int x5, .int x1, .int x2]) (rest := []) C hw (ck_X10_isName l v a _ _ fu x5 x1 x2 F G r1 F1 G1 hc) (cn_X10_isName fu x5 x1 x2 F G _ hc) (Nat.sub_le_sub_right (cn_X10_nameAt_88 fu ag_58 hagn_58 x1 x2 x4 x5 x6 r1 F1 G1 hm) _) (crecv_X10 C hw) cm_158 cm_159 cm_160 cm_46 cm_161 (by decide +kernel) rfl (by omega) (by omega) hl.1 rfl (Nat.le_of_ble_eq_true rfl) dX10_nameAt_85 (fun b H locs hw => ?_)
  exact cw_X10_nameAt_88 fu C hret ag_58 hag_58 hagn_58 x1 x2 x4 x5 x6 r1 F1 G1 hm hw (lv_sub hl [0, 1, 2, 3, 4, 5] rfl)
theorem cn_X10_nameAt_72 (fu : Nat) {res : Int32 × PF × PG} (ag_58 : Int32 → Int32 → Int32 → Int32 → Int32 → PF → PG → PR) (hagn_58 : ∀ (x1 : Int32) (x2 : Int32) (x4 : Int32) (x5 : Int32) (x6 : Int32) (F : PF) (G : PG), ag_58 x1 x2 x4 x5 x6 F G = some res → xn F ≤ xn res.2.1) (x1 : Int32) (x2 : Int32) (x4 : Int32) (x5 : Int32) (x6 : Int32) (F : PF) (G : PG) (hm : cb_X10_nameAt_72 fu ag_58 x1 x2 x4 x5 x6 F G = some res) : xn F ≤ xn res.2.1 := by
  unfold cb_X10_nameAt_72 at hm
  by_cases c_1 : (1408 : Int32) ≤ x5
  · have hm := (if_pos c_1).symm.trans hm
    exact (cn_X10_nameAt_109 fu x1 x2 x4 F G hm)
  · have hm := (if_neg c_1).symm.trans hm
    exact (cn_X10_nameAt_80 fu ag_58 hagn_58 x1 x2 x4 x5 x6 F G hm)
theorem cw_X10_nameAt_72 (fu : Nat) {res : Int32 × PF × PG} (C : cMC p R s m args c A v RX10 cX10_nameAt 7 2 46 (xn res.2.1 - xn K0)) (hret : ∀ (b1 : Nat) (H1 : Heap) (locs1 : List Loc) (ls1 : Array Slot) (pc : Nat), cMW s A v a b1 K0 res.2.1 res.2.2 H1 locs1 → narrow .int (.int res.1) = .int res.1 → decode cX10_nameAt pc = .ok (.ireturn, 1) → W p l e R s m args below meth c H1 locs1 (xn res.2.1 - xn K0) (2 * (xn res.2.1 - xn K0)) Q (F0 m pc ls1 [.int res.1])) (ag_58 : Int32 → Int32 → Int32 → Int32 → Int32 → PF → PG → PR) (hag_58 : ∀ (x1 : Int32) (x2 : Int32) (x4 : Int32) (x5 : Int32) (x6 : Int32) (F : PF) (G : PG), ag_58 x1 x2 x4 x5 x6 F G = some res → ∀ (b : Nat) (H : Heap) (locs : List Loc) (ls : Array Slot), cMW s A v a b K0 F G H locs → lv_has ls 7 [(0, .ref (a 210)), (1, .int x1), (2, .int x2), (4, .int x4), (5, .int x5), (6, .int x6)] → W p l e R s m args below meth c H locs (xn F - xn K0) (2 * (xn F - xn K0)) Q (F0 m 58 ls [])) (hagn_58 : ∀ (x1 : Int32) (x2 : Int32) (x4 : Int32) (x5 : Int32) (x6 : Int32) (F : PF) (G : PG), ag_58 x1 x2 x4 x5 x6 F G = some res → xn F ≤ xn res.2.1) (x1 : Int32) (x2 : Int32) (x4 : Int32) (x5 : Int32) (x6 : Int32) (F : PF) (G : PG) (hm : cb_X10_nameAt_72 fu ag_58 x1 x2 x4 x5 x6 F G = some res) {b : Nat} {H : Heap} {locs : List Loc} (hw : cMW s A v a b K0 F G H locs) {ls : Array Slot} (hl : lv_has ls 7 [(0, .ref (a 210)), (1, .int x1), (2, .int x2), (4, .int x4), (5, .int x5), (6, .int x6)]) : W p l e R s m args below meth c H locs (xn F - xn K0) (2 * (xn F - xn K0)) Q (F0 m 72 ls []) := by
  have hx := C.1
  have hb := C.2.1
  unfold cb_X10_nameAt_72 at hm
  refine lv_iload hx hb dX10_nameAt_72 (lv_at hl 4 rfl) ?_
  refine lv_sipush (v := 1408) hx hb dX10_nameAt_74 (by decide) ?_
  refine lv_icmp_ge (tgt := 109) hx hb dX10_nameAt_77 (by decide) (fun c_1 => ?_) (fun c_1 => ?_)
  · have hm := (if_pos c_1).symm.trans hm
    exact cw_X10_nameAt_109 fu C hret x1 x2 x4 F G hm hw (lv_sub hl [0, 1, 2, 3] rfl)
  · have hm := (if_neg c_1).symm.trans hm
    exact cw_X10_nameAt_80 fu C hret ag_58 hag_58 hagn_58 x1 x2 x4 x5 x6 F G hm hw (lv_sub hl [0, 1, 2, 3, 4, 5] rfl)
theorem cn_X10_nameAt_67 (fu : Nat) {res : Int32 × PF × PG} (ag_58 : Int32 → Int32 → Int32 → Int32 → Int32 → PF → PG → PR) (hagn_58 : ∀ (x1 : Int32) (x2 : Int32) (x4 : Int32) (x5 : Int32) (x6 : Int32) (F : PF) (G : PG), ag_58 x1 x2 x4 x5 x6 F G = some res → xn F ≤ xn res.2.1) (x1 : Int32) (x2 : Int32) (x4 : Int32) (x5 : Int32) (x6 : Int32) (F : PF) (G : PG) (hm : cb_X10_nameAt_67 fu ag_58 x1 x2 x4 x5 x6 F G = some res) : xn F ≤ xn res.2.1 := by
  unfold cb_X10_nameAt_67 at hm
  by_cases c_1 : x5 < (0 : Int32)
  · have hm := (if_pos c_1).symm.trans hm
    exact (cn_X10_nameAt_109 fu x1 x2 x4 F G hm)
  · have hm := (if_neg c_1).symm.trans hm
    exact (cn_X10_nameAt_72 fu ag_58 hagn_58 x1 x2 x4 x5 x6 F G hm)
theorem cw_X10_nameAt_67 (fu : Nat) {res : Int32 × PF × PG} (C : cMC p R s m args c A v RX10 cX10_nameAt 7 2 46 (xn res.2.1 - xn K0)) (hret : ∀ (b1 : Nat) (H1 : Heap) (locs1 : List Loc) (ls1 : Array Slot) (pc : Nat), cMW s A v a b1 K0 res.2.1 res.2.2 H1 locs1 → narrow .int (.int res.1) = .int res.1 → decode cX10_nameAt pc = .ok (.ireturn, 1) → W p l e R s m args below meth c H1 locs1 (xn res.2.1 - xn K0) (2 * (xn res.2.1 - xn K0)) Q (F0 m pc ls1 [.int res.1])) (ag_58 : Int32 → Int32 → Int32 → Int32 → Int32 → PF → PG → PR) (hag_58 : ∀ (x1 : Int32) (x2 : Int32) (x4 : Int32) (x5 : Int32) (x6 : Int32) (F : PF) (G : PG), ag_58 x1 x2 x4 x5 x6 F G = some res → ∀ (b : Nat) (H : Heap) (locs : List Loc) (ls : Array Slot), cMW s A v a b K0 F G H locs → lv_has ls 7 [(0, .ref (a 210)), (1, .int x1), (2, .int x2), (4, .int x4), (5, .int x5), (6, .int x6)] → W p l e R s m args below meth c H locs (xn F - xn K0) (2 * (xn F - xn K0)) Q (F0 m 58 ls [])) (hagn_58 : ∀ (x1 : Int32) (x2 : Int32) (x4 : Int32) (x5 : Int32) (x6 : Int32) (F : PF) (G : PG), ag_58 x1 x2 x4 x5 x6 F G = some res → xn F ≤ xn res.2.1) (x1 : Int32) (x2 : Int32) (x4 : Int32) (x5 : Int32) (x6 : Int32) (F : PF) (G : PG) (hm : cb_X10_nameAt_67 fu ag_58 x1 x2 x4 x5 x6 F G = some res) {b : Nat} {H : Heap} {locs : List Loc} (hw : cMW s A v a b K0 F G H locs) {ls : Array Slot} (hl : lv_has ls 7 [(0, .ref (a 210)), (1, .int x1), (2, .int x2), (4, .int x4), (5, .int x5), (6, .int x6)]) : W p l e R s m args below meth c H locs (xn F - xn K0) (2 * (xn F - xn K0)) Q (F0 m 67 ls []) := by
  have hx := C.1
  have hb := C.2.1
  unfold cb_X10_nameAt_67 at hm
  refine lv_iload hx hb dX10_nameAt_67 (lv_at hl 4 rfl) ?_
  refine lv_if_lt (tgt := 109) hx hb dX10_nameAt_69 (by decide) (fun c_1 => ?_) (fun c_1 => ?_)
  · have hm := (if_pos c_1).symm.trans hm
    exact cw_X10_nameAt_109 fu C hret x1 x2 x4 F G hm hw (lv_sub hl [0, 1, 2, 3] rfl)
  · have hm := (if_neg c_1).symm.trans hm
    exact cw_X10_nameAt_72 fu C hret ag_58 hag_58 hagn_58 x1 x2 x4 x5 x6 F G hm hw (lv_sub hl [0, 1, 2, 3, 4, 5] rfl)
theorem cn_X10_nameAt_58 (fu : Nat) {res : Int32 × PF × PG} (ag_58 : Int32 → Int32 → Int32 → Int32 → Int32 → PF → PG → PR) (hagn_58 : ∀ (x1 : Int32) (x2 : Int32) (x4 : Int32) (x5 : Int32) (x6 : Int32) (F : PF) (G : PG), ag_58 x1 x2 x4 x5 x6 F G = some res → xn F ≤ xn res.2.1) (x1 : Int32) (x2 : Int32) (x4 : Int32) (x5 : Int32) (x6 : Int32) (F : PF) (G : PG) (hm : cb_X10_nameAt_58 fu ag_58 x1 x2 x4 x5 x6 F G = some res) : xn F ≤ xn res.2.1 := by
  unfold cb_X10_nameAt_58 at hm
  by_cases c_1 : (F 98) ≤ x6
  · have hm := (if_pos c_1).symm.trans hm
    exact (cn_X10_nameAt_109 fu x1 x2 x4 F G hm)
  · have hm := (if_neg c_1).symm.trans hm
    exact (cn_X10_nameAt_67 fu ag_58 hagn_58 x1 x2 x4 x5 x6 F G hm)
theorem cw_X10_nameAt_58 (fu : Nat) {res : Int32 × PF × PG} (C : cMC p R s m args c A v RX10 cX10_nameAt 7 2 46 (xn res.2.1 - xn K0)) (hret : ∀ (b1 : Nat) (H1 : Heap) (locs1 : List Loc) (ls1 : Array Slot) (pc : Nat), cMW s A v a b1 K0 res.2.1 res.2.2 H1 locs1 → narrow .int (.int res.1) = .int res.1 → decode cX10_nameAt pc = .ok (.ireturn, 1) → W p l e R s m args below meth c H1 locs1 (xn res.2.1 - xn K0) (2 * (xn res.2.1 - xn K0)) Q (F0 m pc ls1 [.int res.1])) (ag_58 : Int32 → Int32 → Int32 → Int32 → Int32 → PF → PG → PR) (hag_58 : ∀ (x1 : Int32) (x2 : Int32) (x4 : Int32) (x5 : Int32) (x6 : Int32) (F : PF) (G : PG), ag_58 x1 x2 x4 x5 x6 F G = some res → ∀ (b : Nat) (H : Heap) (locs : List Loc) (ls : Array Slot), cMW s A v a b K0 F G H locs → lv_has ls 7 [(0, .ref (a 210)), (1, .int x1), (2, .int x2), (4, .int x4), (5, .int x5), (6, .int x6)] → W p l e R s m args below meth c H locs (xn F - xn K0) (2 * (xn F - xn K0)) Q (F0 m 58 ls [])) (hagn_58 : ∀ (x1 : Int32) (x2 : Int32) (x4 : Int32) (x5 : Int32) (x6 : Int32) (F : PF) (G : PG), ag_58 x1 x2 x4 x5 x6 F G = some res → xn F ≤ xn res.2.1) (x1 : Int32) (x2 : Int32) (x4 : Int32) (x5 : Int32) (x6 : Int32) (F : PF) (G : PG) (hm : cb_X10_nameAt_58 fu ag_58 x1 x2 x4 x5 x6 F G = some res) {b : Nat} {H : Heap} {locs : List Loc} (hw : cMW s A v a b K0 F G H locs) {ls : Array Slot} (hl : lv_has ls 7 [(0, .ref (a 210)), (1, .int x1), (2, .int x2), (4, .int x4), (5, .int x5), (6, .int x6)]) : W p l e R s m args below meth c H locs (xn F - xn K0) (2 * (xn F - xn K0)) Q (F0 m 58 ls []) := by
  have hx := C.1
  have hb := C.2.1
  unfold cb_X10_nameAt_58 at hm
  refine lv_iload hx hb dX10_nameAt_58 (lv_at hl 5 rfl) ?_
  refine lv_aload_n hx hb dX10_nameAt_60 rfl (lv_at hl 0 rfl) ?_
  refine cg_X10_41 C hw dX10_nameAt_61 ?_
  refine lv_icmp_ge (tgt := 109) hx hb dX10_nameAt_64 (by decide) (fun c_1 => ?_) (fun c_1 => ?_)
  · have hm := (if_pos c_1).symm.trans hm
    exact cw_X10_nameAt_109 fu C hret x1 x2 x4 F G hm hw (lv_sub hl [0, 1, 2, 3] rfl)
  · have hm := (if_neg c_1).symm.trans hm
    exact cw_X10_nameAt_67 fu C hret ag_58 hag_58 hagn_58 x1 x2 x4 x5 x6 F G hm hw (lv_sub hl [0, 1, 2, 3, 4, 5] rfl)
theorem cnl_X10_nameAt_58 (fu : Nat) {res : Int32 × PF × PG} : ∀ (n : Nat) (x1 : Int32) (x2 : Int32) (x4 : Int32) (x5 : Int32) (x6 : Int32) (F : PF) (G : PG) (hm : cl_X10_nameAt_58 fu n x1 x2 x4 x5 x6 F G = some res), xn F ≤ xn res.2.1 := by
  intro n
  induction n with
  | zero =>
    intro x1 x2 x4 x5 x6 F G hm
    exact no_elim (show (none : PR) = some res from hm)
  | succ n ih =>
    intro x1 x2 x4 x5 x6 F G hm
    exact cn_X10_nameAt_58 fu (cl_X10_nameAt_58 fu n) (fun x1 x2 x4 x5 x6 F G hm => ih x1 x2 x4 x5 x6 F G hm) x1 x2 x4 x5 x6 F G hm
theorem cwl_X10_nameAt_58 (fu : Nat) {res : Int32 × PF × PG} (C : cMC p R s m args c A v RX10 cX10_nameAt 7 2 46 (xn res.2.1 - xn K0)) (hret : ∀ (b1 : Nat) (H1 : Heap) (locs1 : List Loc) (ls1 : Array Slot) (pc : Nat), cMW s A v a b1 K0 res.2.1 res.2.2 H1 locs1 → narrow .int (.int res.1) = .int res.1 → decode cX10_nameAt pc = .ok (.ireturn, 1) → W p l e R s m args below meth c H1 locs1 (xn res.2.1 - xn K0) (2 * (xn res.2.1 - xn K0)) Q (F0 m pc ls1 [.int res.1])) : ∀ (n : Nat) (x1 : Int32) (x2 : Int32) (x4 : Int32) (x5 : Int32) (x6 : Int32) (F : PF) (G : PG) (hm : cl_X10_nameAt_58 fu n x1 x2 x4 x5 x6 F G = some res) {b : Nat} {H : Heap} {locs : List Loc} (hw : cMW s A v a b K0 F G H locs) {ls : Array Slot} (hl : lv_has ls 7 [(0, .ref (a 210)), (1, .int x1), (2, .int x2), (4, .int x4), (5, .int x5), (6, .int x6)]), W p l e R s m args below meth c H locs (xn F - xn K0) (2 * (xn F - xn K0)) Q (F0 m 58 ls []) := by
  intro n
  induction n with
  | zero =>
    intro x1 x2 x4 x5 x6 F G hm
    exact no_elim (show (none : PR) = some res from hm)
  | succ n ih =>
    intro x1 x2 x4 x5 x6 F G hm b H locs hw ls hl
    exact cw_X10_nameAt_58 fu C hret (cl_X10_nameAt_58 fu n) (fun x1 x2 x4 x5 x6 F G hm b H locs ls hw hl => ih x1 x2 x4 x5 x6 F G hm hw hl) (fun x1 x2 x4 x5 x6 F G hm => cnl_X10_nameAt_58 fu n x1 x2 x4 x5 x6 F G hm) x1 x2 x4 x5 x6 F G hm hw hl
theorem cn_X10_nameAt_34 (fu : Nat) {res : Int32 × PF × PG} (x1 : Int32) (x2 : Int32) (x3 : Int32) (F : PF) (G : PG) (hm : cb_X10_nameAt_34 fu x1 x2 x3 F G = some res) : xn F ≤ xn res.2.1 := by
  unfold cb_X10_nameAt_34 at hm
  have hm := (ix_elim hm).2
  exact (cnl_X10_nameAt_58 fu fu x1 x2 ((x3 ^^^ ((x3.toUInt32 >>> ((10 : Int32).toUInt32 &&& Int32.toUInt32 31)).toInt32)) &&& (1023 : Int32)) (G 94 ((x3 ^^^ ((x3.toUInt32 >>> ((10 : Int32).toUInt32 &&& Int32.toUInt32 31)).toInt32)) &&& (1023 : Int32)).toNatClampNeg) 0 F G hm)
theorem cw_X10_nameAt_34 (fu : Nat) {res : Int32 × PF × PG} (C : cMC p R s m args c A v RX10 cX10_nameAt 7 2 46 (xn res.2.1 - xn K0)) (hret : ∀ (b1 : Nat) (H1 : Heap) (locs1 : List Loc) (ls1 : Array Slot) (pc : Nat), cMW s A v a b1 K0 res.2.1 res.2.2 H1 locs1 → narrow .int (.int res.1) = .int res.1 → decode cX10_nameAt pc = .ok (.ireturn, 1) → W p l e R s m args below meth c H1 locs1 (xn res.2.1 - xn K0) (2 * (xn res.2.1 - xn K0)) Q (F0 m pc ls1 [.int res.1])) (x1 : Int32) (x2 : Int32) (x3 : Int32) (F : PF) (G : PG) (hm : cb_X10_nameAt_34 fu x1 x2 x3 F G = some res) {b : Nat} {H : Heap} {locs : List Loc} (hw : cMW s A v a b K0 F G H locs) {ls : Array Slot} (hl : lv_has ls 7 [(0, .ref (a 210)), (1, .int x1), (2, .int x2), (3, .int x3)]) : W p l e R s m args below meth c H locs (xn F - xn K0) (2 * (xn F - xn K0)) Q (F0 m 34 ls []) := by
  have hx := C.1
  have hb := C.2.1
  unfold cb_X10_nameAt_34 at hm
  refine lv_iload_n hx hb dX10_nameAt_34 rfl (lv_at hl 3 rfl) ?_
  refine lv_iload_n hx hb dX10_nameAt_35 rfl (lv_at hl 3 rfl) ?_
  refine lv_bipush (v := 10) hx hb dX10_nameAt_36 (by decide) ?_
  refine lv_iushr hx hb dX10_nameAt_38 rfl ?_
  refine lv_ixor hx hb dX10_nameAt_39 ?_
  refine lv_sipush (v := 1023) hx hb dX10_nameAt_40 (by decide) ?_
  refine lv_iand hx hb dX10_nameAt_43 ?_
  refine lv_istore (lv' := [(4, .int ((x3 ^^^ ((x3.toUInt32 >>> ((10 : Int32).toUInt32 &&& Int32.toUInt32 31)).toInt32)) &&& (1023 : Int32))), (0, .ref (a 210)), (1, .int x1), (2, .int x2), (3, .int x3)]) hx hb dX10_nameAt_44 hl (by decide) rfl (fun ls hl => ?_)
  refine lv_aload_n hx hb dX10_nameAt_46 rfl (lv_at hl 1 rfl) ?_
  refine cg_X10_21 C hw dX10_nameAt_47 ?_
  refine lv_iload hx hb dX10_nameAt_50 (lv_at hl 0 rfl) ?_
  obtain ⟨hi, hm⟩ := ix_elim hm
  refine cal_94 C hw hi dX10_nameAt_52 ?_
  refine lv_istore (lv' := [(5, .int (G 94 ((x3 ^^^ ((x3.toUInt32 >>> ((10 : Int32).toUInt32 &&& Int32.toUInt32 31)).toInt32)) &&& (1023 : Int32)).toNatClampNeg)), (4, .int ((x3 ^^^ ((x3.toUInt32 >>> ((10 : Int32).toUInt32 &&& Int32.toUInt32 31)).toInt32)) &&& (1023 : Int32))), (0, .ref (a 210)), (1, .int x1), (2, .int x2), (3, .int x3)]) hx hb dX10_nameAt_53 hl (by decide) rfl (fun ls hl => ?_)
  refine lv_iconst (v := 0) hx hb dX10_nameAt_55 (by decide) ?_
  refine lv_istore (lv' := [(6, .int 0), (5, .int (G 94 ((x3 ^^^ ((x3.toUInt32 >>> ((10 : Int32).toUInt32 &&& Int32.toUInt32 31)).toInt32)) &&& (1023 : Int32)).toNatClampNeg)), (4, .int ((x3 ^^^ ((x3.toUInt32 >>> ((10 : Int32).toUInt32 &&& Int32.toUInt32 31)).toInt32)) &&& (1023 : Int32))), (0, .ref (a 210)), (1, .int x1), (2, .int x2), (3, .int x3)]) hx hb dX10_nameAt_56 hl (by decide) rfl (fun ls hl => ?_)
  exact cwl_X10_nameAt_58 fu C hret fu x1 x2 ((x3 ^^^ ((x3.toUInt32 >>> ((10 : Int32).toUInt32 &&& Int32.toUInt32 31)).toInt32)) &&& (1023 : Int32)) (G 94 ((x3 ^^^ ((x3.toUInt32 >>> ((10 : Int32).toUInt32 &&& Int32.toUInt32 31)).toInt32)) &&& (1023 : Int32)).toNatClampNeg) 0 F G hm hw (lv_sub hl [3, 4, 5, 2, 1, 0] rfl)
theorem cn_X10_nameAt_26 (fu : Nat) {res : Int32 × PF × PG} (ag_5 : Int32 → Int32 → Int32 → Int32 → PF → PG → PR) (hagn_5 : ∀ (x1 : Int32) (x2 : Int32) (x3 : Int32) (x4 : Int32) (F : PF) (G : PG), ag_5 x1 x2 x3 x4 F G = some res → xn F ≤ xn res.2.1) (x1 : Int32) (x2 : Int32) (x4 : Int32) (z0 : Int32) (z1 : Int32) (F : PF) (G : PG) (hm : cb_X10_nameAt_26 fu ag_5 x1 x2 x4 z0 z1 F G = some res) : xn F ≤ xn res.2.1 := by
  unfold cb_X10_nameAt_26 at hm
  exact (hagn_5 x1 x2 (z1 + z0) (x4 + 1) F G hm)
theorem cw_X10_nameAt_26 (fu : Nat) {res : Int32 × PF × PG} (C : cMC p R s m args c A v RX10 cX10_nameAt 7 2 46 (xn res.2.1 - xn K0)) (hret : ∀ (b1 : Nat) (H1 : Heap) (locs1 : List Loc) (ls1 : Array Slot) (pc : Nat), cMW s A v a b1 K0 res.2.1 res.2.2 H1 locs1 → narrow .int (.int res.1) = .int res.1 → decode cX10_nameAt pc = .ok (.ireturn, 1) → W p l e R s m args below meth c H1 locs1 (xn res.2.1 - xn K0) (2 * (xn res.2.1 - xn K0)) Q (F0 m pc ls1 [.int res.1])) (ag_5 : Int32 → Int32 → Int32 → Int32 → PF → PG → PR) (hag_5 : ∀ (x1 : Int32) (x2 : Int32) (x3 : Int32) (x4 : Int32) (F : PF) (G : PG), ag_5 x1 x2 x3 x4 F G = some res → ∀ (b : Nat) (H : Heap) (locs : List Loc) (ls : Array Slot), cMW s A v a b K0 F G H locs → lv_has ls 7 [(0, .ref (a 210)), (1, .int x1), (2, .int x2), (3, .int x3), (4, .int x4)] → W p l e R s m args below meth c H locs (xn F - xn K0) (2 * (xn F - xn K0)) Q (F0 m 5 ls [])) (hagn_5 : ∀ (x1 : Int32) (x2 : Int32) (x3 : Int32) (x4 : Int32) (F : PF) (G : PG), ag_5 x1 x2 x3 x4 F G = some res → xn F ≤ xn res.2.1) (x1 : Int32) (x2 : Int32) (x4 : Int32) (z0 : Int32) (z1 : Int32) (F : PF) (G : PG) (hm : cb_X10_nameAt_26 fu ag_5 x1 x2 x4 z0 z1 F G = some res) {b : Nat} {H : Heap} {locs : List Loc} (hw : cMW s A v a b K0 F G H locs) {ls : Array Slot} (hl : lv_has ls 7 [(0, .ref (a 210)), (1, .int x1), (2, .int x2), (4, .int x4)]) : W p l e R s m args below meth c H locs (xn F - xn K0) (2 * (xn F - xn K0)) Q (F0 m 26 ls [.int z0, .int z1]) := by
  have hx := C.1
  have hb := C.2.1
  unfold cb_X10_nameAt_26 at hm
  refine lv_iadd hx hb dX10_nameAt_26 ?_
  refine lv_istore_n (lv' := [(3, .int (z1 + z0)), (0, .ref (a 210)), (1, .int x1), (2, .int x2), (4, .int x4)]) hx hb dX10_nameAt_27 rfl hl (by decide) rfl (fun ls hl => ?_)
  refine lv_iinc (v := (x4 + 1)) (lv' := [(4, .int (x4 + 1)), (3, .int (z1 + z0)), (0, .ref (a 210)), (1, .int x1), (2, .int x2)]) hx hb dX10_nameAt_28 hl (k := 4) rfl (by rfl) (by decide) rfl (fun ls hl => ?_)
  refine lv_goto (tgt := 5) hx hb dX10_nameAt_31 (by decide) ?_
  exact hag_5 x1 x2 (z1 + z0) (x4 + 1) F G hm _ _ _ _ hw (lv_sub hl [2, 3, 4, 1, 0] rfl)
theorem cn_X10_nameAt_11 (fu : Nat) {res : Int32 × PF × PG} (ag_5 : Int32 → Int32 → Int32 → Int32 → PF → PG → PR) (hagn_5 : ∀ (x1 : Int32) (x2 : Int32) (x3 : Int32) (x4 : Int32) (F : PF) (G : PG), ag_5 x1 x2 x3 x4 F G = some res → xn F ≤ xn res.2.1) (x1 : Int32) (x2 : Int32) (x3 : Int32) (x4 : Int32) (F : PF) (G : PG) (hm : cb_X10_nameAt_11 fu ag_5 x1 x2 x3 x4 F G = some res) : xn F ≤ xn res.2.1 := by
  unfold cb_X10_nameAt_11 at hm
  obtain ⟨⟨r1, F1, G1⟩, hc, hm⟩ := bind_elim hm
  exact Nat.le_trans (cn_X9_at fu (x1 + x4) F G _ hc) (cn_X10_nameAt_26 fu ag_5 hagn_5 x1 x2 x4 r1 (x3 * (31 : Int32)) F1 G1 hm)
theorem cw_X10_nameAt_11 (fu : Nat) {res : Int32 × PF × PG} (C : cMC p R s m args c A v RX10 cX10_nameAt 7 2 46 (xn res.2.1 - xn K0)) (hret : ∀ (b1 : Nat) (H1 : Heap) (locs1 : List Loc) (ls1 : Array Slot) (pc : Nat), cMW s A v a b1 K0 res.2.1 res.2.2 H1 locs1 → narrow .int (.int res.1) = .int res.1 → decode cX10_nameAt pc = .ok (.ireturn, 1) → W p l e R s m args below meth c H1 locs1 (xn res.2.1 - xn K0) (2 * (xn res.2.1 - xn K0)) Q (F0 m pc ls1 [.int res.1])) (ag_5 : Int32 → Int32 → Int32 → Int32 → PF → PG → PR) (hag_5 : ∀ (x1 : Int32) (x2 : Int32) (x3 : Int32) (x4 : Int32) (F : PF) (G : PG), ag_5 x1 x2 x3 x4 F G = some res → ∀ (b : Nat) (H : Heap) (locs : List Loc) (ls : Array Slot), cMW s A v a b K0 F G H locs → lv_has ls 7 [(0, .ref (a 210)), (1, .int x1), (2, .int x2), (3, .int x3), (4, .int x4)] → W p l e R s m args below meth c H locs (xn F - xn K0) (2 * (xn F - xn K0)) Q (F0 m 5 ls [])) (hagn_5 : ∀ (x1 : Int32) (x2 : Int32) (x3 : Int32) (x4 : Int32) (F : PF) (G : PG), ag_5 x1 x2 x3 x4 F G = some res → xn F ≤ xn res.2.1) (x1 : Int32) (x2 : Int32) (x3 : Int32) (x4 : Int32) (F : PF) (G : PG) (hm : cb_X10_nameAt_11 fu ag_5 x1 x2 x3 x4 F G = some res) {b : Nat} {H : Heap} {locs : List Loc} (hw : cMW s A v a b K0 F G H locs) {ls : Array Slot} (hl : lv_has ls 7 [(0, .ref (a 210)), (1, .int x1), (2, .int x2), (3, .int x3), (4, .int x4)]) : W p l e R s m args below meth c H locs (xn F - xn K0) (2 * (xn F - xn K0)) Q (F0 m 11 ls []) := by
  have hx := C.1
  have hb := C.2.1
  unfold cb_X10_nameAt_11 at hm
  refine lv_iload_n hx hb dX10_nameAt_11 rfl (lv_at hl 3 rfl) ?_
  refine lv_bipush (v := 31) hx hb dX10_nameAt_12 (by decide) ?_
  refine lv_imul hx hb dX10_nameAt_14 ?_
  refine lv_aload_n hx hb dX10_nameAt_15 rfl (lv_at hl 0 rfl) ?_
  refine cg_X10_33 C hw dX10_nameAt_16 ?_
  refine lv_iload_n hx hb dX10_nameAt_19 rfl (lv_at hl 1 rfl) ?_
  refine lv_iload hx hb dX10_nameAt_20 (lv_at hl 4 rfl) ?_
  refine lv_iadd hx hb dX10_nameAt_22 ?_
  obtain ⟨⟨r1, F1, G1⟩, hc, hm⟩ := bind_elim hm
  refine ccallI (n := 1) (As := [.int (x1 + x4)]) (rest := [.int (x3 * (31 : Int32))]) C hw (ck_X9_at l v a _ _ fu (x1 + x4) F G r1 F1 G1 hc) (cn_X9_at fu (x1 + x4) F G _ hc) (Nat.sub_le_sub_right (cn_X10_nameAt_26 fu ag_5 hagn_5 x1 x2 x4 r1 (x3 * (31 : Int32)) F1 G1 hm) _) (crecv_X9 C hw) cm_61 cm_62 cm_63 cm_6 cm_64 (by decide +kernel) rfl (by omega) (by omega) hl.1 rfl (Nat.le_of_ble_eq_true rfl) dX10_nameAt_23 (fun b H locs hw => ?_)
  exact cw_X10_nameAt_26 fu C hret ag_5 hag_5 hagn_5 x1 x2 x4 r1 (x3 * (31 : Int32)) F1 G1 hm hw (lv_sub hl [0, 1, 2, 4] rfl)
theorem cn_X10_nameAt_5 (fu : Nat) {res : Int32 × PF × PG} (ag_5 : Int32 → Int32 → Int32 → Int32 → PF → PG → PR) (hagn_5 : ∀ (x1 : Int32) (x2 : Int32) (x3 : Int32) (x4 : Int32) (F : PF) (G : PG), ag_5 x1 x2 x3 x4 F G = some res → xn F ≤ xn res.2.1) (x1 : Int32) (x2 : Int32) (x3 : Int32) (x4 : Int32) (F : PF) (G : PG) (hm : cb_X10_nameAt_5 fu ag_5 x1 x2 x3 x4 F G = some res) : xn F ≤ xn res.2.1 := by
  unfold cb_X10_nameAt_5 at hm
  by_cases c_1 : x2 ≤ x4
  · have hm := (if_pos c_1).symm.trans hm
    exact (cn_X10_nameAt_34 fu x1 x2 x3 F G hm)
  · have hm := (if_neg c_1).symm.trans hm
    exact (cn_X10_nameAt_11 fu ag_5 hagn_5 x1 x2 x3 x4 F G hm)
theorem cw_X10_nameAt_5 (fu : Nat) {res : Int32 × PF × PG} (C : cMC p R s m args c A v RX10 cX10_nameAt 7 2 46 (xn res.2.1 - xn K0)) (hret : ∀ (b1 : Nat) (H1 : Heap) (locs1 : List Loc) (ls1 : Array Slot) (pc : Nat), cMW s A v a b1 K0 res.2.1 res.2.2 H1 locs1 → narrow .int (.int res.1) = .int res.1 → decode cX10_nameAt pc = .ok (.ireturn, 1) → W p l e R s m args below meth c H1 locs1 (xn res.2.1 - xn K0) (2 * (xn res.2.1 - xn K0)) Q (F0 m pc ls1 [.int res.1])) (ag_5 : Int32 → Int32 → Int32 → Int32 → PF → PG → PR) (hag_5 : ∀ (x1 : Int32) (x2 : Int32) (x3 : Int32) (x4 : Int32) (F : PF) (G : PG), ag_5 x1 x2 x3 x4 F G = some res → ∀ (b : Nat) (H : Heap) (locs : List Loc) (ls : Array Slot), cMW s A v a b K0 F G H locs → lv_has ls 7 [(0, .ref (a 210)), (1, .int x1), (2, .int x2), (3, .int x3), (4, .int x4)] → W p l e R s m args below meth c H locs (xn F - xn K0) (2 * (xn F - xn K0)) Q (F0 m 5 ls [])) (hagn_5 : ∀ (x1 : Int32) (x2 : Int32) (x3 : Int32) (x4 : Int32) (F : PF) (G : PG), ag_5 x1 x2 x3 x4 F G = some res → xn F ≤ xn res.2.1) (x1 : Int32) (x2 : Int32) (x3 : Int32) (x4 : Int32) (F : PF) (G : PG) (hm : cb_X10_nameAt_5 fu ag_5 x1 x2 x3 x4 F G = some res) {b : Nat} {H : Heap} {locs : List Loc} (hw : cMW s A v a b K0 F G H locs) {ls : Array Slot} (hl : lv_has ls 7 [(0, .ref (a 210)), (1, .int x1), (2, .int x2), (3, .int x3), (4, .int x4)]) : W p l e R s m args below meth c H locs (xn F - xn K0) (2 * (xn F - xn K0)) Q (F0 m 5 ls []) := by
  have hx := C.1
  have hb := C.2.1
  unfold cb_X10_nameAt_5 at hm
  refine lv_iload hx hb dX10_nameAt_5 (lv_at hl 4 rfl) ?_
  refine lv_iload_n hx hb dX10_nameAt_7 rfl (lv_at hl 2 rfl) ?_
  refine lv_icmp_ge (tgt := 34) hx hb dX10_nameAt_8 (by decide) (fun c_1 => ?_) (fun c_1 => ?_)
  · have hm := (if_pos c_1).symm.trans hm
    exact cw_X10_nameAt_34 fu C hret x1 x2 x3 F G hm hw (lv_sub hl [0, 1, 2, 3] rfl)
  · have hm := (if_neg c_1).symm.trans hm
    exact cw_X10_nameAt_11 fu C hret ag_5 hag_5 hagn_5 x1 x2 x3 x4 F G hm hw (lv_sub hl [0, 1, 2, 3, 4] rfl)
theorem cnl_X10_nameAt_5 (fu : Nat) {res : Int32 × PF × PG} : ∀ (n : Nat) (x1 : Int32) (x2 : Int32) (x3 : Int32) (x4 : Int32) (F : PF) (G : PG) (hm : cl_X10_nameAt_5 fu n x1 x2 x3 x4 F G = some res), xn F ≤ xn res.2.1 := by
  intro n
  induction n with
  | zero =>
    intro x1 x2 x3 x4 F G hm
    exact no_elim (show (none : PR) = some res from hm)
  | succ n ih =>
    intro x1 x2 x3 x4 F G hm
    exact cn_X10_nameAt_5 fu (cl_X10_nameAt_5 fu n) (fun x1 x2 x3 x4 F G hm => ih x1 x2 x3 x4 F G hm) x1 x2 x3 x4 F G hm
theorem cwl_X10_nameAt_5 (fu : Nat) {res : Int32 × PF × PG} (C : cMC p R s m args c A v RX10 cX10_nameAt 7 2 46 (xn res.2.1 - xn K0)) (hret : ∀ (b1 : Nat) (H1 : Heap) (locs1 : List Loc) (ls1 : Array Slot) (pc : Nat), cMW s A v a b1 K0 res.2.1 res.2.2 H1 locs1 → narrow .int (.int res.1) = .int res.1 → decode cX10_nameAt pc = .ok (.ireturn, 1) → W p l e R s m args below meth c H1 locs1 (xn res.2.1 - xn K0) (2 * (xn res.2.1 - xn K0)) Q (F0 m pc ls1 [.int res.1])) : ∀ (n : Nat) (x1 : Int32) (x2 : Int32) (x3 : Int32) (x4 : Int32) (F : PF) (G : PG) (hm : cl_X10_nameAt_5 fu n x1 x2 x3 x4 F G = some res) {b : Nat} {H : Heap} {locs : List Loc} (hw : cMW s A v a b K0 F G H locs) {ls : Array Slot} (hl : lv_has ls 7 [(0, .ref (a 210)), (1, .int x1), (2, .int x2), (3, .int x3), (4, .int x4)]), W p l e R s m args below meth c H locs (xn F - xn K0) (2 * (xn F - xn K0)) Q (F0 m 5 ls []) := by
  intro n
  induction n with
  | zero =>
    intro x1 x2 x3 x4 F G hm
    exact no_elim (show (none : PR) = some res from hm)
  | succ n ih =>
    intro x1 x2 x3 x4 F G hm b H locs hw ls hl
    exact cw_X10_nameAt_5 fu C hret (cl_X10_nameAt_5 fu n) (fun x1 x2 x3 x4 F G hm b H locs ls hw hl => ih x1 x2 x3 x4 F G hm hw hl) (fun x1 x2 x3 x4 F G hm => cnl_X10_nameAt_5 fu n x1 x2 x3 x4 F G hm) x1 x2 x3 x4 F G hm hw hl
theorem cn_X10_nameAt_0 (fu : Nat) {res : Int32 × PF × PG} (x1 : Int32) (x2 : Int32) (F : PF) (G : PG) (hm : cb_X10_nameAt_0 fu x1 x2 F G = some res) : xn F ≤ xn res.2.1 := by
  unfold cb_X10_nameAt_0 at hm
  exact (cnl_X10_nameAt_5 fu fu x1 x2 x2 0 F G hm)
theorem cw_X10_nameAt_0 (fu : Nat) {res : Int32 × PF × PG} (C : cMC p R s m args c A v RX10 cX10_nameAt 7 2 46 (xn res.2.1 - xn K0)) (hret : ∀ (b1 : Nat) (H1 : Heap) (locs1 : List Loc) (ls1 : Array Slot) (pc : Nat), cMW s A v a b1 K0 res.2.1 res.2.2 H1 locs1 → narrow .int (.int res.1) = .int res.1 → decode cX10_nameAt pc = .ok (.ireturn, 1) → W p l e R s m args below meth c H1 locs1 (xn res.2.1 - xn K0) (2 * (xn res.2.1 - xn K0)) Q (F0 m pc ls1 [.int res.1])) (x1 : Int32) (x2 : Int32) (F : PF) (G : PG) (hm : cb_X10_nameAt_0 fu x1 x2 F G = some res) {b : Nat} {H : Heap} {locs : List Loc} (hw : cMW s A v a b K0 F G H locs) {ls : Array Slot} (hl : lv_has ls 7 [(0, .ref (a 210)), (1, .int x1), (2, .int x2)]) : W p l e R s m args below meth c H locs (xn F - xn K0) (2 * (xn F - xn K0)) Q (F0 m 0 ls []) := by
  have hx := C.1
  have hb := C.2.1
  unfold cb_X10_nameAt_0 at hm
  refine lv_iload_n hx hb dX10_nameAt_0 rfl (lv_at hl 2 rfl) ?_
  refine lv_istore_n (lv' := [(3, .int x2), (0, .ref (a 210)), (1, .int x1), (2, .int x2)]) hx hb dX10_nameAt_1 rfl hl (by decide) rfl (fun ls hl => ?_)
  refine lv_iconst (v := 0) hx hb dX10_nameAt_2 (by decide) ?_
  refine lv_istore (lv' := [(4, .int 0), (3, .int x2), (0, .ref (a 210)), (1, .int x1), (2, .int x2)]) hx hb dX10_nameAt_3 hl (by decide) rfl (fun ls hl => ?_)
  exact cwl_X10_nameAt_5 fu C hret fu x1 x2 x2 0 F G hm hw (lv_sub hl [2, 3, 4, 1, 0] rfl)
theorem cn_X10_nameAt (fu : Nat) (x1 : Int32) (x2 : Int32) (F : PF) (G : PG) (q : Int32 × PF × PG) (hm : cf_X10_nameAt fu x1 x2 F G = some q) : xn F ≤ xn q.2.1 := cn_X10_nameAt_0 fu x1 x2 F G hm
theorem ck_X10_nameAt (l : Launch) (v : EV) (a : Nat → Nat) (b sz : Nat) (fu : Nat) (x1 : Int32) (x2 : Int32) (F : PF) (G : PG) (r : Int32) (F1 : PF) (G1 : PG) (hm : cf_X10_nameAt fu x1 x2 F G = some (r, F1, G1)) : cMI l yX10_nameAt cX10_nameAt 7 (some .int) 2 46 v a b sz [.ref (a 210), .int x1, .int x2] F G r F1 G1 := cMI.of (ty := .int) (by decide) rfl (Nat.le_of_ble_eq_true rfl) (fun p e R s m args below meth c Q A H locs ls C hw hl hret => cw_X10_nameAt_0 fu (res := (r, F1, G1)) C hret x1 x2 F G hm hw hl)
def cb_X10_behindName_55 (fu : Nat) (x2 : Int32) (F : PF) (G : PG) : PR := some (x2, F, G)
def cb_X10_behindName_51 (fu : Nat) (x1 : Int32) (x2 : Int32) (z0 : Int32) (z1 : Int32) (F : PF) (G : PG) : PR := (cf_X10_add fu z1 z0 x1 F G).bind (fun q => cb_X10_behindName_55 fu x2 q.2.1 q.2.2)
def cb_X10_behindName_43 (fu : Nat) (x1 : Int32) (x2 : Int32) (x3 : Int32) (F : PF) (G : PG) : PR := (cf_X10_nameAt fu x1 x3 F G).bind (fun q => cb_X10_behindName_51 fu x1 x2 q.1 2 q.2.1 q.2.2)
def cb_X10_behindName_40 (fu : Nat) (x2 : Int32) (F : PF) (G : PG) : PR := cb_X10_behindName_55 fu x2 F G
def cb_X10_behindName_32 (fu : Nat) (x1 : Int32) (x2 : Int32) (x4 : Int32) (F : PF) (G : PG) : PR := (cf_X10_add fu x4 0 x1 F G).bind (fun q => cb_X10_behindName_40 fu x2 q.2.1 q.2.2)
def cb_X10_behindName_24 (fu : Nat) (x1 : Int32) (x2 : Int32) (x3 : Int32) (z0 : Int32) (F : PF) (G : PG) : PR := if z0 = (-1 : Int32) then cb_X10_behindName_43 fu x1 x2 x3 F G else cb_X10_behindName_32 fu x1 x2 z0 F G
def cb_X10_behindName_18 (fu : Nat) (x1 : Int32) (x2 : Int32) (x3 : Int32) (F : PF) (G : PG) : PR := (cf_X10_wordAt fu x1 x3 F G).bind (fun q => cb_X10_behindName_24 fu x1 x2 x3 q.1 q.2.1 q.2.2)
def cb_X10_behindName_16 (fu : Nat) (F : PF) (G : PG) : PR := some ((-1), F, G)
def cb_X10_behindName_5 (fu : Nat) (x1 : Int32) (z0 : Int32) (F : PF) (G : PG) : PR := if (z0 - x1) ≤ (16 : Int32) then cb_X10_behindName_18 fu x1 z0 (z0 - x1) F G else cb_X10_behindName_16 fu F G
def cb_X10_behindName_0 (fu : Nat) (x1 : Int32) (F : PF) (G : PG) : PR := (cf_X10_behindParts fu x1 F G).bind (fun q => cb_X10_behindName_5 fu x1 q.1 q.2.1 q.2.2)
def cf_X10_behindName (fu : Nat) (x1 : Int32) (F : PF) (G : PG) : PR := cb_X10_behindName_0 fu x1 F G
theorem cn_X10_behindName_55 (fu : Nat) {res : Int32 × PF × PG} (x2 : Int32) (F : PF) (G : PG) (hm : cb_X10_behindName_55 fu x2 F G = some res) : xn F ≤ xn res.2.1 := by
  unfold cb_X10_behindName_55 at hm
  obtain rfl := Option.some.inj hm
  exact Nat.le_refl _
theorem cw_X10_behindName_55 (fu : Nat) {res : Int32 × PF × PG} (C : cMC p R s m args c A v RX10 cX10_behindName 5 5 111 (xn res.2.1 - xn K0)) (hret : ∀ (b1 : Nat) (H1 : Heap) (locs1 : List Loc) (ls1 : Array Slot) (pc : Nat), cMW s A v a b1 K0 res.2.1 res.2.2 H1 locs1 → narrow .int (.int res.1) = .int res.1 → decode cX10_behindName pc = .ok (.ireturn, 1) → W p l e R s m args below meth c H1 locs1 (xn res.2.1 - xn K0) (2 * (xn res.2.1 - xn K0)) Q (F0 m pc ls1 [.int res.1])) (x2 : Int32) (F : PF) (G : PG) (hm : cb_X10_behindName_55 fu x2 F G = some res) {b : Nat} {H : Heap} {locs : List Loc} (hw : cMW s A v a b K0 F G H locs) {ls : Array Slot} (hl : lv_has ls 5 [(2, .int x2)]) : W p l e R s m args below meth c H locs (xn F - xn K0) (2 * (xn F - xn K0)) Q (F0 m 55 ls []) := by
  have hx := C.1
  have hb := C.2.1
  unfold cb_X10_behindName_55 at hm
  refine lv_iload_n hx hb dX10_behindName_55 rfl (lv_at hl 0 rfl) ?_
  obtain rfl := Option.some.inj hm
  exact hret _ _ _ _ _ hw rfl dX10_behindName_56
theorem cn_X10_behindName_51 (fu : Nat) {res : Int32 × PF × PG} (x1 : Int32) (x2 : Int32) (z0 : Int32) (z1 : Int32) (F : PF) (G : PG) (hm : cb_X10_behindName_51 fu x1 x2 z0 z1 F G = some res) : xn F ≤ xn res.2.1 := by
  unfold cb_X10_behindName_51 at hm
  obtain ⟨⟨r1, F1, G1⟩, hc, hm⟩ := bind_elim hm
  exact Nat.le_trans (cn_X10_add fu z1 z0 x1 F G _ hc) (cn_X10_behindName_55 fu x2 F1 G1 hm)
theorem cw_X10_behindName_51 (fu : Nat) {res : Int32 × PF × PG} (C : cMC p R s m args c A v RX10 cX10_behindName 5 5 111 (xn res.2.1 - xn K0)) (hret : ∀ (b1 : Nat) (H1 : Heap) (locs1 : List Loc) (ls1 : Array Slot) (pc : Nat), cMW s A v a b1 K0 res.2.1 res.2.2 H1 locs1 → narrow .int (.int res.1) = .int res.1 → decode cX10_behindName pc = .ok (.ireturn, 1) → W p l e R s m args below meth c H1 locs1 (xn res.2.1 - xn K0) (2 * (xn res.2.1 - xn K0)) Q (F0 m pc ls1 [.int res.1])) (x1 : Int32) (x2 : Int32) (z0 : Int32) (z1 : Int32) (F : PF) (G : PG) (hm : cb_X10_behindName_51 fu x1 x2 z0 z1 F G = some res) {b : Nat} {H : Heap} {locs : List Loc} (hw : cMW s A v a b K0 F G H locs) {ls : Array Slot} (hl : lv_has ls 5 [(1, .int x1), (2, .int x2)]) : W p l e R s m args below meth c H locs (xn F - xn K0) (2 * (xn F - xn K0)) Q (F0 m 51 ls [.int z0, .int z1, .ref (a 210)]) := by
  have hx := C.1
  have hb := C.2.1
  unfold cb_X10_behindName_51 at hm
  refine lv_iload_n hx hb dX10_behindName_51 rfl (lv_at hl 0 rfl) ?_
  obtain ⟨⟨r1, F1, G1⟩, hc, hm⟩ := bind_elim hm
  refine ccallV (n := 3) (As := [.int z1, .int z0, .int x1]) (rest := []) C hw (ck_X10_add l v a _ _ fu z1 z0 x1 F G r1 F1 G1 hc) (cn_X10_add fu z1 z0 x1 F G _ hc) (Nat.sub_le_sub_right (cn_X10_behindName_55 fu x2 F1 G1 hm) _) (crecv_X10 C hw) cm_95 cm_96 cm_97 cm_46 cm_98 (by decide +kernel) rfl (by omega) (by omega) hl.1 rfl (Nat.le_of_ble_eq_true rfl) dX10_behindName_52 (fun b H locs hw => ?_)
  exact cw_X10_behindName_55 fu C hret x2 F1 G1 hm hw (lv_sub hl [1] rfl)
theorem cn_X10_behindName_43 (fu : Nat) {res : Int32 × PF × PG} (x1 : Int32) (x2 : Int32) (x3 : Int32) (F : PF) (G : PG) (hm : cb_X10_behindName_43 fu x1 x2 x3 F G = some res) : xn F ≤ xn res.2.1 := by
  unfold cb_X10_behindName_43 at hm
  obtain ⟨⟨r1, F1, G1⟩, hc, hm⟩ := bind_elim hm
  exact Nat.le_trans (cn_X10_nameAt fu x1 x3 F G _ hc) (cn_X10_behindName_51 fu x1 x2 r1 2 F1 G1 hm)
theorem cw_X10_behindName_43 (fu : Nat) {res : Int32 × PF × PG} (C : cMC p R s m args c A v RX10 cX10_behindName 5 5 111 (xn res.2.1 - xn K0)) (hret : ∀ (b1 : Nat) (H1 : Heap) (locs1 : List Loc) (ls1 : Array Slot) (pc : Nat), cMW s A v a b1 K0 res.2.1 res.2.2 H1 locs1 → narrow .int (.int res.1) = .int res.1 → decode cX10_behindName pc = .ok (.ireturn, 1) → W p l e R s m args below meth c H1 locs1 (xn res.2.1 - xn K0) (2 * (xn res.2.1 - xn K0)) Q (F0 m pc ls1 [.int res.1])) (x1 : Int32) (x2 : Int32) (x3 : Int32) (F : PF) (G : PG) (hm : cb_X10_behindName_43 fu x1 x2 x3 F G = some res) {b : Nat} {H : Heap} {locs : List Loc} (hw : cMW s A v a b K0 F G H locs) {ls : Array Slot} (hl : lv_has ls 5 [(0, .ref (a 210)), (1, .int x1), (2, .int x2), (3, .int x3)]) : W p l e R s m args below meth c H locs (xn F - xn K0) (2 * (xn F - xn K0)) Q (F0 m 43 ls []) := by
  have hx := C.1
  have hb := C.2.1
  unfold cb_X10_behindName_43 at hm
  refine lv_aload_n hx hb dX10_behindName_43 rfl (lv_at hl 0 rfl) ?_
  refine lv_iconst (v := 2) hx hb dX10_behindName_44 (by decide) ?_
  refine lv_aload_n hx hb dX10_behindName_45 rfl (lv_at hl 0 rfl) ?_
  refine lv_iload_n hx hb dX10_behindName_46 rfl (lv_at hl 1 rfl) ?_
  refine lv_iload_n hx hb dX10_behindName_47 rfl (lv_at hl 3 rfl) ?_
  obtain ⟨⟨r1, F1, G1⟩, hc, hm⟩ := bind_elim hm
  refine ccallI (n := 2) (As := [.int x1, .int x3]) (rest := [.int 2, .ref (a 210)]) C hw (ck_X10_nameAt l v a _ _ fu x1 x3 F G r1 F1 G1 hc) (cn_X10_nameAt fu x1 x3 F G _ hc) (Nat.sub_le_sub_right (cn_X10_behindName_51 fu x1 x2 r1 2 F1 G1 hm) _) (crecv_X10 C hw) cm_151 cm_152 cm_153 cm_46 cm_154 (by decide +kernel) rfl (by omega) (by omega) hl.1 rfl (Nat.le_of_ble_eq_true rfl) dX10_behindName_48 (fun b H locs hw => ?_)
  exact cw_X10_behindName_51 fu C hret x1 x2 r1 2 F1 G1 hm hw (lv_sub hl [1, 2] rfl)
theorem cn_X10_behindName_40 (fu : Nat) {res : Int32 × PF × PG} (x2 : Int32) (F : PF) (G : PG) (hm : cb_X10_behindName_40 fu x2 F G = some res) : xn F ≤ xn res.2.1 := by
  unfold cb_X10_behindName_40 at hm
  exact (cn_X10_behindName_55 fu x2 F G hm)
theorem cw_X10_behindName_40 (fu : Nat) {res : Int32 × PF × PG} (C : cMC p R s m args c A v RX10 cX10_behindName 5 5 111 (xn res.2.1 - xn K0)) (hret : ∀ (b1 : Nat) (H1 : Heap) (locs1 : List Loc) (ls1 : Array Slot) (pc : Nat), cMW s A v a b1 K0 res.2.1 res.2.2 H1 locs1 → narrow .int (.int res.1) = .int res.1 → decode cX10_behindName pc = .ok (.ireturn, 1) → W p l e R s m args below meth c H1 locs1 (xn res.2.1 - xn K0) (2 * (xn res.2.1 - xn K0)) Q (F0 m pc ls1 [.int res.1])) (x2 : Int32) (F : PF) (G : PG) (hm : cb_X10_behindName_40 fu x2 F G = some res) {b : Nat} {H : Heap} {locs : List Loc} (hw : cMW s A v a b K0 F G H locs) {ls : Array Slot} (hl : lv_has ls 5 [(2, .int x2)]) : W p l e R s m args below meth c H locs (xn F - xn K0) (2 * (xn F - xn K0)) Q (F0 m 40 ls []) := by
  have hx := C.1
  have hb := C.2.1
  unfold cb_X10_behindName_40 at hm
  refine lv_goto (tgt := 55) hx hb dX10_behindName_40 (by decide) ?_
  exact cw_X10_behindName_55 fu C hret x2 F G hm hw (lv_sub hl [0] rfl)
theorem cn_X10_behindName_32 (fu : Nat) {res : Int32 × PF × PG} (x1 : Int32) (x2 : Int32) (x4 : Int32) (F : PF) (G : PG) (hm : cb_X10_behindName_32 fu x1 x2 x4 F G = some res) : xn F ≤ xn res.2.1 := by
  unfold cb_X10_behindName_32 at hm
  obtain ⟨⟨r1, F1, G1⟩, hc, hm⟩ := bind_elim hm
  exact Nat.le_trans (cn_X10_add fu x4 0 x1 F G _ hc) (cn_X10_behindName_40 fu x2 F1 G1 hm)
theorem cw_X10_behindName_32 (fu : Nat) {res : Int32 × PF × PG} (C : cMC p R s m args c A v RX10 cX10_behindName 5 5 111 (xn res.2.1 - xn K0)) (hret : ∀ (b1 : Nat) (H1 : Heap) (locs1 : List Loc) (ls1 : Array Slot) (pc : Nat), cMW s A v a b1 K0 res.2.1 res.2.2 H1 locs1 → narrow .int (.int res.1) = .int res.1 → decode cX10_behindName pc = .ok (.ireturn, 1) → W p l e R s m args below meth c H1 locs1 (xn res.2.1 - xn K0) (2 * (xn res.2.1 - xn K0)) Q (F0 m pc ls1 [.int res.1])) (x1 : Int32) (x2 : Int32) (x4 : Int32) (F : PF) (G : PG) (hm : cb_X10_behindName_32 fu x1 x2 x4 F G = some res) {b : Nat} {H : Heap} {locs : List Loc} (hw : cMW s A v a b K0 F G H locs) {ls : Array Slot} (hl : lv_has ls 5 [(0, .ref (a 210)), (1, .int x1), (2, .int x2), (4, .int x4)]) : W p l e R s m args below meth c H locs (xn F - xn K0) (2 * (xn F - xn K0)) Q (F0 m 32 ls []) := by
  have hx := C.1
  have hb := C.2.1
  unfold cb_X10_behindName_32 at hm
  refine lv_aload_n hx hb dX10_behindName_32 rfl (lv_at hl 0 rfl) ?_
  refine lv_iload hx hb dX10_behindName_33 (lv_at hl 3 rfl) ?_
  refine lv_iconst (v := 0) hx hb dX10_behindName_35 (by decide) ?_
  refine lv_iload_n hx hb dX10_behindName_36 rfl (lv_at hl 1 rfl) ?_
  obtain ⟨⟨r1, F1, G1⟩, hc, hm⟩ := bind_elim hm
  refine ccallV (n := 3) (As := [.int x4, .int 0, .int x1]) (rest := []) C hw (ck_X10_add l v a _ _ fu x4 0 x1 F G r1 F1 G1 hc) (cn_X10_add fu x4 0 x1 F G _ hc) (Nat.sub_le_sub_right (cn_X10_behindName_40 fu x2 F1 G1 hm) _) (crecv_X10 C hw) cm_95 cm_96 cm_97 cm_46 cm_98 (by decide +kernel) rfl (by omega) (by omega) hl.1 rfl (Nat.le_of_ble_eq_true rfl) dX10_behindName_37 (fun b H locs hw => ?_)
  exact cw_X10_behindName_40 fu C hret x2 F1 G1 hm hw (lv_sub hl [2] rfl)
theorem cn_X10_behindName_24 (fu : Nat) {res : Int32 × PF × PG} (x1 : Int32) (x2 : Int32) (x3 : Int32) (z0 : Int32) (F : PF) (G : PG) (hm : cb_X10_behindName_24 fu x1 x2 x3 z0 F G = some res) : xn F ≤ xn res.2.1 := by
  unfold cb_X10_behindName_24 at hm
  by_cases c_1 : z0 = (-1 : Int32)
  · have hm := (if_pos c_1).symm.trans hm
    exact (cn_X10_behindName_43 fu x1 x2 x3 F G hm)
  · have hm := (if_neg c_1).symm.trans hm
    exact (cn_X10_behindName_32 fu x1 x2 z0 F G hm)
theorem cw_X10_behindName_24 (fu : Nat) {res : Int32 × PF × PG} (C : cMC p R s m args c A v RX10 cX10_behindName 5 5 111 (xn res.2.1 - xn K0)) (hret : ∀ (b1 : Nat) (H1 : Heap) (locs1 : List Loc) (ls1 : Array Slot) (pc : Nat), cMW s A v a b1 K0 res.2.1 res.2.2 H1 locs1 → narrow .int (.int res.1) = .int res.1 → decode cX10_behindName pc = .ok (.ireturn, 1) → W p l e R s m args below meth c H1 locs1 (xn res.2.1 - xn K0) (2 * (xn res.2.1 - xn K0)) Q (F0 m pc ls1 [.int res.1])) (x1 : Int32) (x2 : Int32) (x3 : Int32) (z0 : Int32) (F : PF) (G : PG) (hm : cb_X10_behindName_24 fu x1 x2 x3 z0 F G = some res) {b : Nat} {H : Heap} {locs : List Loc} (hw : cMW s A v a b K0 F G H locs) {ls : Array Slot} (hl : lv_has ls 5 [(0, .ref (a 210)), (1, .int x1), (2, .int x2), (3, .int x3)]) : W p l e R s m args below meth c H locs (xn F - xn K0) (2 * (xn F - xn K0)) Q (F0 m 24 ls [.int z0]) := by
  have hx := C.1
  have hb := C.2.1
  unfold cb_X10_behindName_24 at hm
  refine lv_istore (lv' := [(4, .int z0), (0, .ref (a 210)), (1, .int x1), (2, .int x2), (3, .int x3)]) hx hb dX10_behindName_24 hl (by decide) rfl (fun ls hl => ?_)
  refine lv_iload hx hb dX10_behindName_26 (lv_at hl 0 rfl) ?_
  refine lv_iconst (v := (-1)) hx hb dX10_behindName_28 (by decide) ?_
  refine lv_icmp_eq (tgt := 43) hx hb dX10_behindName_29 (by decide) (fun c_1 => ?_) (fun c_1 => ?_)
  · have hm := (if_pos c_1).symm.trans hm
    exact cw_X10_behindName_43 fu C hret x1 x2 x3 F G hm hw (lv_sub hl [1, 2, 3, 4] rfl)
  · have hm := (if_neg c_1).symm.trans hm
    exact cw_X10_behindName_32 fu C hret x1 x2 z0 F G hm hw (lv_sub hl [1, 2, 3, 0] rfl)
theorem cn_X10_behindName_18 (fu : Nat) {res : Int32 × PF × PG} (x1 : Int32) (x2 : Int32) (x3 : Int32) (F : PF) (G : PG) (hm : cb_X10_behindName_18 fu x1 x2 x3 F G = some res) : xn F ≤ xn res.2.1 := by
  unfold cb_X10_behindName_18 at hm
  obtain ⟨⟨r1, F1, G1⟩, hc, hm⟩ := bind_elim hm
  exact Nat.le_trans (cn_X10_wordAt fu x1 x3 F G _ hc) (cn_X10_behindName_24 fu x1 x2 x3 r1 F1 G1 hm)
theorem cw_X10_behindName_18 (fu : Nat) {res : Int32 × PF × PG} (C : cMC p R s m args c A v RX10 cX10_behindName 5 5 111 (xn res.2.1 - xn K0)) (hret : ∀ (b1 : Nat) (H1 : Heap) (locs1 : List Loc) (ls1 : Array Slot) (pc : Nat), cMW s A v a b1 K0 res.2.1 res.2.2 H1 locs1 → narrow .int (.int res.1) = .int res.1 → decode cX10_behindName pc = .ok (.ireturn, 1) → W p l e R s m args below meth c H1 locs1 (xn res.2.1 - xn K0) (2 * (xn res.2.1 - xn K0)) Q (F0 m pc ls1 [.int res.1])) (x1 : Int32) (x2 : Int32) (x3 : Int32) (F : PF) (G : PG) (hm : cb_X10_behindName_18 fu x1 x2 x3 F G = some res) {b : Nat} {H : Heap} {locs : List Loc} (hw : cMW s A v a b K0 F G H locs) {ls : Array Slot} (hl : lv_has ls 5 [(0, .ref (a 210)), (1, .int x1), (2, .int x2), (3, .int x3)]) : W p l e R s m args below meth c H locs (xn F - xn K0) (2 * (xn F - xn K0)) Q (F0 m 18 ls []) := by
  have hx := C.1
  have hb := C.2.1
  unfold cb_X10_behindName_18 at hm
  refine lv_aload_n hx hb dX10_behindName_18 rfl (lv_at hl 0 rfl) ?_
  refine lv_iload_n hx hb dX10_behindName_19 rfl (lv_at hl 1 rfl) ?_
  refine lv_iload_n hx hb dX10_behindName_20 rfl (lv_at hl 3 rfl) ?_
  obtain ⟨⟨r1, F1, G1⟩, hc, hm⟩ := bind_elim hm
  refine ccallI (n := 2) (As := [.int x1, .int x3]) (rest := []) C hw (ck_X10_wordAt l v a _ _ fu x1 x3 F G r1 F1 G1 hc) (cn_X10_wordAt fu x1 x3 F G _ hc) (Nat.sub_le_sub_right (cn_X10_behindName_24 fu x1 x2 x3 r1 F1 G1 hm) _) (crecv_X10 C hw) cm_106 cm_107 cm_108 cm_46 cm_109 (by decide +kernel) rfl (by omega) (by omega) hl.1 rfl (Nat.le_of_ble_eq_true rfl) dX10_behindName_21 (fun b H locs hw => ?_)
  exact cw_X10_behindName_24 fu C hret x1 x2 x3 r1 F1 G1 hm hw (lv_sub hl [0, 1, 2, 3] rfl)
theorem cn_X10_behindName_16 (fu : Nat) {res : Int32 × PF × PG} (F : PF) (G : PG) (hm : cb_X10_behindName_16 fu F G = some res) : xn F ≤ xn res.2.1 := by
  unfold cb_X10_behindName_16 at hm
  obtain rfl := Option.some.inj hm
  exact Nat.le_refl _
theorem cw_X10_behindName_16 (fu : Nat) {res : Int32 × PF × PG} (C : cMC p R s m args c A v RX10 cX10_behindName 5 5 111 (xn res.2.1 - xn K0)) (hret : ∀ (b1 : Nat) (H1 : Heap) (locs1 : List Loc) (ls1 : Array Slot) (pc : Nat), cMW s A v a b1 K0 res.2.1 res.2.2 H1 locs1 → narrow .int (.int res.1) = .int res.1 → decode cX10_behindName pc = .ok (.ireturn, 1) → W p l e R s m args below meth c H1 locs1 (xn res.2.1 - xn K0) (2 * (xn res.2.1 - xn K0)) Q (F0 m pc ls1 [.int res.1])) (F : PF) (G : PG) (hm : cb_X10_behindName_16 fu F G = some res) {b : Nat} {H : Heap} {locs : List Loc} (hw : cMW s A v a b K0 F G H locs) {ls : Array Slot} (hl : lv_has ls 5 []) : W p l e R s m args below meth c H locs (xn F - xn K0) (2 * (xn F - xn K0)) Q (F0 m 16 ls []) := by
  have hx := C.1
  have hb := C.2.1
  unfold cb_X10_behindName_16 at hm
  refine lv_iconst (v := (-1)) hx hb dX10_behindName_16 (by decide) ?_
  obtain rfl := Option.some.inj hm
  exact hret _ _ _ _ _ hw rfl dX10_behindName_17
theorem cn_X10_behindName_5 (fu : Nat) {res : Int32 × PF × PG} (x1 : Int32) (z0 : Int32) (F : PF) (G : PG) (hm : cb_X10_behindName_5 fu x1 z0 F G = some res) : xn F ≤ xn res.2.1 := by
  unfold cb_X10_behindName_5 at hm
  by_cases c_1 : (z0 - x1) ≤ (16 : Int32)
  · have hm := (if_pos c_1).symm.trans hm
    exact (cn_X10_behindName_18 fu x1 z0 (z0 - x1) F G hm)
  · have hm := (if_neg c_1).symm.trans hm
    exact (cn_X10_behindName_16 fu F G hm)
theorem cw_X10_behindName_5 (fu : Nat) {res : Int32 × PF × PG} (C : cMC p R s m args c A v RX10 cX10_behindName 5 5 111 (xn res.2.1 - xn K0)) (hret : ∀ (b1 : Nat) (H1 : Heap) (locs1 : List Loc) (ls1 : Array Slot) (pc : Nat), cMW s A v a b1 K0 res.2.1 res.2.2 H1 locs1 → narrow .int (.int res.1) = .int res.1 → decode cX10_behindName pc = .ok (.ireturn, 1) → W p l e R s m args below meth c H1 locs1 (xn res.2.1 - xn K0) (2 * (xn res.2.1 - xn K0)) Q (F0 m pc ls1 [.int res.1])) (x1 : Int32) (z0 : Int32) (F : PF) (G : PG) (hm : cb_X10_behindName_5 fu x1 z0 F G = some res) {b : Nat} {H : Heap} {locs : List Loc} (hw : cMW s A v a b K0 F G H locs) {ls : Array Slot} (hl : lv_has ls 5 [(0, .ref (a 210)), (1, .int x1)]) : W p l e R s m args below meth c H locs (xn F - xn K0) (2 * (xn F - xn K0)) Q (F0 m 5 ls [.int z0]) := by
  have hx := C.1
  have hb := C.2.1
  unfold cb_X10_behindName_5 at hm
  refine lv_istore_n (lv' := [(2, .int z0), (0, .ref (a 210)), (1, .int x1)]) hx hb dX10_behindName_5 rfl hl (by decide) rfl (fun ls hl => ?_)
  refine lv_iload_n hx hb dX10_behindName_6 rfl (lv_at hl 0 rfl) ?_
  refine lv_iload_n hx hb dX10_behindName_7 rfl (lv_at hl 2 rfl) ?_
  refine lv_isub hx hb dX10_behindName_8 ?_
  refine lv_istore_n (lv' := [(3, .int (z0 - x1)), (2, .int z0), (0, .ref (a 210)), (1, .int x1)]) hx hb dX10_behindName_9 rfl hl (by decide) rfl (fun ls hl => ?_)
  refine lv_iload_n hx hb dX10_behindName_10 rfl (lv_at hl 0 rfl) ?_
  refine lv_bipush (v := 16) hx hb dX10_behindName_11 (by decide) ?_
  refine lv_icmp_le (tgt := 18) hx hb dX10_behindName_13 (by decide) (fun c_1 => ?_) (fun c_1 => ?_)
  · have hm := (if_pos c_1).symm.trans hm
    exact cw_X10_behindName_18 fu C hret x1 z0 (z0 - x1) F G hm hw (lv_sub hl [2, 3, 1, 0] rfl)
  · have hm := (if_neg c_1).symm.trans hm
    exact cw_X10_behindName_16 fu C hret F G hm hw (lv_sub hl [] rfl)
theorem cn_X10_behindName_0 (fu : Nat) {res : Int32 × PF × PG} (x1 : Int32) (F : PF) (G : PG) (hm : cb_X10_behindName_0 fu x1 F G = some res) : xn F ≤ xn res.2.1 := by
  unfold cb_X10_behindName_0 at hm
  obtain ⟨⟨r1, F1, G1⟩, hc, hm⟩ := bind_elim hm
  exact Nat.le_trans (cn_X10_behindParts fu x1 F G _ hc) (cn_X10_behindName_5 fu x1 r1 F1 G1 hm)
theorem cw_X10_behindName_0 (fu : Nat) {res : Int32 × PF × PG} (C : cMC p R s m args c A v RX10 cX10_behindName 5 5 111 (xn res.2.1 - xn K0)) (hret : ∀ (b1 : Nat) (H1 : Heap) (locs1 : List Loc) (ls1 : Array Slot) (pc : Nat), cMW s A v a b1 K0 res.2.1 res.2.2 H1 locs1 → narrow .int (.int res.1) = .int res.1 → decode cX10_behindName pc = .ok (.ireturn, 1) → W p l e R s m args below meth c H1 locs1 (xn res.2.1 - xn K0) (2 * (xn res.2.1 - xn K0)) Q (F0 m pc ls1 [.int res.1])) (x1 : Int32) (F : PF) (G : PG) (hm : cb_X10_behindName_0 fu x1 F G = some res) {b : Nat} {H : Heap} {locs : List Loc} (hw : cMW s A v a b K0 F G H locs) {ls : Array Slot} (hl : lv_has ls 5 [(0, .ref (a 210)), (1, .int x1)]) : W p l e R s m args below meth c H locs (xn F - xn K0) (2 * (xn F - xn K0)) Q (F0 m 0 ls []) := by
  have hx := C.1
  have hb := C.2.1
  unfold cb_X10_behindName_0 at hm
  refine lv_aload_n hx hb dX10_behindName_0 rfl (lv_at hl 0 rfl) ?_
  refine lv_iload_n hx hb dX10_behindName_1 rfl (lv_at hl 1 rfl) ?_
  obtain ⟨⟨r1, F1, G1⟩, hc, hm⟩ := bind_elim hm
  refine ccallI (n := 1) (As := [.int x1]) (rest := []) C hw (ck_X10_behindParts l v a _ _ fu x1 F G r1 F1 G1 hc) (cn_X10_behindParts fu x1 F G _ hc) (Nat.sub_le_sub_right (cn_X10_behindName_5 fu x1 r1 F1 G1 hm) _) (crecv_X10 C hw) cm_85 cm_86 cm_87 cm_46 cm_88 (by decide +kernel) rfl (by omega) (by omega) hl.1 rfl (Nat.le_of_ble_eq_true rfl) dX10_behindName_2 (fun b H locs hw => ?_)
  exact cw_X10_behindName_5 fu C hret x1 r1 F1 G1 hm hw (lv_sub hl [0, 1] rfl)
theorem cn_X10_behindName (fu : Nat) (x1 : Int32) (F : PF) (G : PG) (q : Int32 × PF × PG) (hm : cf_X10_behindName fu x1 F G = some q) : xn F ≤ xn q.2.1 := cn_X10_behindName_0 fu x1 F G hm
theorem ck_X10_behindName (l : Launch) (v : EV) (a : Nat → Nat) (b sz : Nat) (fu : Nat) (x1 : Int32) (F : PF) (G : PG) (r : Int32) (F1 : PF) (G1 : PG) (hm : cf_X10_behindName fu x1 F G = some (r, F1, G1)) : cMI l yX10_behindName cX10_behindName 5 (some .int) 5 111 v a b sz [.ref (a 210), .int x1] F G r F1 G1 := cMI.of (ty := .int) (by decide) rfl (Nat.le_of_ble_eq_true rfl) (fun p e R s m args below meth c Q A H locs ls C hw hl hret => cw_X10_behindName_0 fu (res := (r, F1, G1)) C hret x1 F G hm hw hl)
def cb_X10_behindToken_60 (fu : Nat) (x3 : Int32) (F : PF) (G : PG) : PR := some (x3, F, G)
def cb_X10_behindToken_53 (fu : Nat) (x1 : Int32) (x3 : Int32) (F : PF) (G : PG) : PR := (cf_X10_add fu 1 0 x1 F G).bind (fun q => cb_X10_behindToken_60 fu x3 q.2.1 q.2.2)
def cb_X10_behindToken_48 (fu : Nat) (x1 : Int32) (x3 : Int32) (F : PF) (G : PG) : PR := if x3 = (-1 : Int32) then cb_X10_behindToken_53 fu x1 x3 F G else cb_X10_behindToken_60 fu x3 F G
def cb_X10_behindToken_47 (fu : Nat) (x1 : Int32) (z0 : Int32) (F : PF) (G : PG) : PR := cb_X10_behindToken_48 fu x1 z0 F G
def cb_X10_behindToken_41 (fu : Nat) (x1 : Int32) (x2 : Int32) (F : PF) (G : PG) : PR := (cf_X10_behindSign fu x1 x2 F G).bind (fun q => cb_X10_behindToken_47 fu x1 q.1 q.2.1 q.2.2)
def cb_X10_behindToken_37 (fu : Nat) (x1 : Int32) (z0 : Int32) (F : PF) (G : PG) : PR := cb_X10_behindToken_48 fu x1 z0 F G
def cb_X10_behindToken_32 (fu : Nat) (x1 : Int32) (F : PF) (G : PG) : PR := (cf_X10_behindName fu x1 F G).bind (fun q => cb_X10_behindToken_37 fu x1 q.1 q.2.1 q.2.2)
def cb_X10_behindToken_29 (fu : Nat) (x1 : Int32) (x2 : Int32) (z0 : Int32) (F : PF) (G : PG) : PR := if z0 = (0 : Int32) then cb_X10_behindToken_41 fu x1 x2 F G else cb_X10_behindToken_32 fu x1 F G
def cb_X10_behindToken_25 (fu : Nat) (x1 : Int32) (x2 : Int32) (F : PF) (G : PG) : PR := (cf_X10_isPart fu x2 F G).bind (fun q => cb_X10_behindToken_29 fu x1 x2 q.1 q.2.1 q.2.2)
def cb_X10_behindToken_21 (fu : Nat) (x1 : Int32) (z0 : Int32) (F : PF) (G : PG) : PR := cb_X10_behindToken_48 fu x1 z0 F G
def cb_X10_behindToken_16 (fu : Nat) (x1 : Int32) (F : PF) (G : PG) : PR := (cf_X10_behindNumber fu x1 F G).bind (fun q => cb_X10_behindToken_21 fu x1 q.1 q.2.1 q.2.2)
def cb_X10_behindToken_13 (fu : Nat) (x1 : Int32) (x2 : Int32) (z0 : Int32) (F : PF) (G : PG) : PR := if z0 = (0 : Int32) then cb_X10_behindToken_25 fu x1 x2 F G else cb_X10_behindToken_16 fu x1 F G
def cb_X10_behindToken_8 (fu : Nat) (x1 : Int32) (z0 : Int32) (F : PF) (G : PG) : PR := (cf_X10_isDigit fu z0 F G).bind (fun q => cb_X10_behindToken_13 fu x1 z0 q.1 q.2.1 q.2.2)
def cb_X10_behindToken_0 (fu : Nat) (x1 : Int32) (F : PF) (G : PG) : PR := (cf_X9_at fu x1 F G).bind (fun q => cb_X10_behindToken_8 fu x1 q.1 q.2.1 q.2.2)
def cf_X10_behindToken (fu : Nat) (x1 : Int32) (F : PF) (G : PG) : PR := cb_X10_behindToken_0 fu x1 F G
theorem cn_X10_behindToken_60 (fu : Nat) {res : Int32 × PF × PG} (x3 : Int32) (F : PF) (G : PG) (hm : cb_X10_behindToken_60 fu x3 F G = some res) : xn F ≤ xn res.2.1 := by
  unfold cb_X10_behindToken_60 at hm
  obtain rfl := Option.some.inj hm
  exact Nat.le_refl _
theorem cw_X10_behindToken_60 (fu : Nat) {res : Int32 × PF × PG} (C : cMC p R s m args c A v RX10 cX10_behindToken 4 6 135 (xn res.2.1 - xn K0)) (hret : ∀ (b1 : Nat) (H1 : Heap) (locs1 : List Loc) (ls1 : Array Slot) (pc : Nat), cMW s A v a b1 K0 res.2.1 res.2.2 H1 locs1 → narrow .int (.int res.1) = .int res.1 → decode cX10_behindToken pc = .ok (.ireturn, 1) → W p l e R s m args below meth c H1 locs1 (xn res.2.1 - xn K0) (2 * (xn res.2.1 - xn K0)) Q (F0 m pc ls1 [.int res.1])) (x3 : Int32) (F : PF) (G : PG) (hm : cb_X10_behindToken_60 fu x3 F G = some res) {b : Nat} {H : Heap} {locs : List Loc} (hw : cMW s A v a b K0 F G H locs) {ls : Array Slot} (hl : lv_has ls 4 [(3, .int x3)]) : W p l e R s m args below meth c H locs (xn F - xn K0) (2 * (xn F - xn K0)) Q (F0 m 60 ls []) := by
  have hx := C.1
  have hb := C.2.1
  unfold cb_X10_behindToken_60 at hm
  refine lv_iload_n hx hb dX10_behindToken_60 rfl (lv_at hl 0 rfl) ?_
  obtain rfl := Option.some.inj hm
  exact hret _ _ _ _ _ hw rfl dX10_behindToken_61
theorem cn_X10_behindToken_53 (fu : Nat) {res : Int32 × PF × PG} (x1 : Int32) (x3 : Int32) (F : PF) (G : PG) (hm : cb_X10_behindToken_53 fu x1 x3 F G = some res) : xn F ≤ xn res.2.1 := by
  unfold cb_X10_behindToken_53 at hm
  obtain ⟨⟨r1, F1, G1⟩, hc, hm⟩ := bind_elim hm
  exact Nat.le_trans (cn_X10_add fu 1 0 x1 F G _ hc) (cn_X10_behindToken_60 fu x3 F1 G1 hm)
theorem cw_X10_behindToken_53 (fu : Nat) {res : Int32 × PF × PG} (C : cMC p R s m args c A v RX10 cX10_behindToken 4 6 135 (xn res.2.1 - xn K0)) (hret : ∀ (b1 : Nat) (H1 : Heap) (locs1 : List Loc) (ls1 : Array Slot) (pc : Nat), cMW s A v a b1 K0 res.2.1 res.2.2 H1 locs1 → narrow .int (.int res.1) = .int res.1 → decode cX10_behindToken pc = .ok (.ireturn, 1) → W p l e R s m args below meth c H1 locs1 (xn res.2.1 - xn K0) (2 * (xn res.2.1 - xn K0)) Q (F0 m pc ls1 [.int res.1])) (x1 : Int32) (x3 : Int32) (F : PF) (G : PG) (hm : cb_X10_behindToken_53 fu x1 x3 F G = some res) {b : Nat} {H : Heap} {locs : List Loc} (hw : cMW s A v a b K0 F G H locs) {ls : Array Slot} (hl : lv_has ls 4 [(0, .ref (a 210)), (1, .int x1), (3, .int x3)]) : W p l e R s m args below meth c H locs (xn F - xn K0) (2 * (xn F - xn K0)) Q (F0 m 53 ls []) := by
  have hx := C.1
  have hb := C.2.1
  unfold cb_X10_behindToken_53 at hm
  refine lv_aload_n hx hb dX10_behindToken_53 rfl (lv_at hl 0 rfl) ?_
  refine lv_iconst (v := 1) hx hb dX10_behindToken_54 (by decide) ?_
  refine lv_iconst (v := 0) hx hb dX10_behindToken_55 (by decide) ?_
  refine lv_iload_n hx hb dX10_behindToken_56 rfl (lv_at hl 1 rfl) ?_
  obtain ⟨⟨r1, F1, G1⟩, hc, hm⟩ := bind_elim hm
  refine ccallV (n := 3) (As := [.int 1, .int 0, .int x1]) (rest := []) C hw (ck_X10_add l v a _ _ fu 1 0 x1 F G r1 F1 G1 hc) (cn_X10_add fu 1 0 x1 F G _ hc) (Nat.sub_le_sub_right (cn_X10_behindToken_60 fu x3 F1 G1 hm) _) (crecv_X10 C hw) cm_95 cm_96 cm_97 cm_46 cm_98 (by decide +kernel) rfl (by omega) (by omega) hl.1 rfl (Nat.le_of_ble_eq_true rfl) dX10_behindToken_57 (fun b H locs hw => ?_)
  exact cw_X10_behindToken_60 fu C hret x3 F1 G1 hm hw (lv_sub hl [2] rfl)
theorem cn_X10_behindToken_48 (fu : Nat) {res : Int32 × PF × PG} (x1 : Int32) (x3 : Int32) (F : PF) (G : PG) (hm : cb_X10_behindToken_48 fu x1 x3 F G = some res) : xn F ≤ xn res.2.1 := by
  unfold cb_X10_behindToken_48 at hm
  by_cases c_1 : x3 = (-1 : Int32)
  · have hm := (if_pos c_1).symm.trans hm
    exact (cn_X10_behindToken_53 fu x1 x3 F G hm)
  · have hm := (if_neg c_1).symm.trans hm
    exact (cn_X10_behindToken_60 fu x3 F G hm)
theorem cw_X10_behindToken_48 (fu : Nat) {res : Int32 × PF × PG} (C : cMC p R s m args c A v RX10 cX10_behindToken 4 6 135 (xn res.2.1 - xn K0)) (hret : ∀ (b1 : Nat) (H1 : Heap) (locs1 : List Loc) (ls1 : Array Slot) (pc : Nat), cMW s A v a b1 K0 res.2.1 res.2.2 H1 locs1 → narrow .int (.int res.1) = .int res.1 → decode cX10_behindToken pc = .ok (.ireturn, 1) → W p l e R s m args below meth c H1 locs1 (xn res.2.1 - xn K0) (2 * (xn res.2.1 - xn K0)) Q (F0 m pc ls1 [.int res.1])) (x1 : Int32) (x3 : Int32) (F : PF) (G : PG) (hm : cb_X10_behindToken_48 fu x1 x3 F G = some res) {b : Nat} {H : Heap} {locs : List Loc} (hw : cMW s A v a b K0 F G H locs) {ls : Array Slot} (hl : lv_has ls 4 [(0, .ref (a 210)), (1, .int x1), (3, .int x3)]) : W p l e R s m args below meth c H locs (xn F - xn K0) (2 * (xn F - xn K0)) Q (F0 m 48 ls []) := by
  have hx := C.1
  have hb := C.2.1
  unfold cb_X10_behindToken_48 at hm
  refine lv_iload_n hx hb dX10_behindToken_48 rfl (lv_at hl 2 rfl) ?_
  refine lv_iconst (v := (-1)) hx hb dX10_behindToken_49 (by decide) ?_
  refine lv_icmp_ne (tgt := 60) hx hb dX10_behindToken_50 (by decide) (fun c_1 => ?_) (fun c_1 => ?_)
  · have hm := (if_neg c_1).symm.trans hm
    exact cw_X10_behindToken_60 fu C hret x3 F G hm hw (lv_sub hl [2] rfl)
  · have hm := (if_pos c_1).symm.trans hm
    exact cw_X10_behindToken_53 fu C hret x1 x3 F G hm hw (lv_sub hl [0, 1, 2] rfl)
theorem cn_X10_behindToken_47 (fu : Nat) {res : Int32 × PF × PG} (x1 : Int32) (z0 : Int32) (F : PF) (G : PG) (hm : cb_X10_behindToken_47 fu x1 z0 F G = some res) : xn F ≤ xn res.2.1 := by
  unfold cb_X10_behindToken_47 at hm
  exact (cn_X10_behindToken_48 fu x1 z0 F G hm)
theorem cw_X10_behindToken_47 (fu : Nat) {res : Int32 × PF × PG} (C : cMC p R s m args c A v RX10 cX10_behindToken 4 6 135 (xn res.2.1 - xn K0)) (hret : ∀ (b1 : Nat) (H1 : Heap) (locs1 : List Loc) (ls1 : Array Slot) (pc : Nat), cMW s A v a b1 K0 res.2.1 res.2.2 H1 locs1 → narrow .int (.int res.1) = .int res.1 → decode cX10_behindToken pc = .ok (.ireturn, 1) → W p l e R s m args below meth c H1 locs1 (xn res.2.1 - xn K0) (2 * (xn res.2.1 - xn K0)) Q (F0 m pc ls1 [.int res.1])) (x1 : Int32) (z0 : Int32) (F : PF) (G : PG) (hm : cb_X10_behindToken_47 fu x1 z0 F G = some res) {b : Nat} {H : Heap} {locs : List Loc} (hw : cMW s A v a b K0 F G H locs) {ls : Array Slot} (hl : lv_has ls 4 [(0, .ref (a 210)), (1, .int x1)]) : W p l e R s m args below meth c H locs (xn F - xn K0) (2 * (xn F - xn K0)) Q (F0 m 47 ls [.int z0]) := by
  have hx := C.1
  have hb := C.2.1
  unfold cb_X10_behindToken_47 at hm
  refine lv_istore_n (lv' := [(3, .int z0), (0, .ref (a 210)), (1, .int x1)]) hx hb dX10_behindToken_47 rfl hl (by decide) rfl (fun ls hl => ?_)
  exact cw_X10_behindToken_48 fu C hret x1 z0 F G hm hw (lv_sub hl [1, 2, 0] rfl)
theorem cn_X10_behindToken_41 (fu : Nat) {res : Int32 × PF × PG} (x1 : Int32) (x2 : Int32) (F : PF) (G : PG) (hm : cb_X10_behindToken_41 fu x1 x2 F G = some res) : xn F ≤ xn res.2.1 := by
  unfold cb_X10_behindToken_41 at hm
  obtain ⟨⟨r1, F1, G1⟩, hc, hm⟩ := bind_elim hm
  exact Nat.le_trans (cn_X10_behindSign fu x1 x2 F G _ hc) (cn_X10_behindToken_47 fu x1 r1 F1 G1 hm)
theorem cw_X10_behindToken_41 (fu : Nat) {res : Int32 × PF × PG} (C : cMC p R s m args c A v RX10 cX10_behindToken 4 6 135 (xn res.2.1 - xn K0)) (hret : ∀ (b1 : Nat) (H1 : Heap) (locs1 : List Loc) (ls1 : Array Slot) (pc : Nat), cMW s A v a b1 K0 res.2.1 res.2.2 H1 locs1 → narrow .int (.int res.1) = .int res.1 → decode cX10_behindToken pc = .ok (.ireturn, 1) → W p l e R s m args below meth c H1 locs1 (xn res.2.1 - xn K0) (2 * (xn res.2.1 - xn K0)) Q (F0 m pc ls1 [.int res.1])) (x1 : Int32) (x2 : Int32) (F : PF) (G : PG) (hm : cb_X10_behindToken_41 fu x1 x2 F G = some res) {b : Nat} {H : Heap} {locs : List Loc} (hw : cMW s A v a b K0 F G H locs) {ls : Array Slot} (hl : lv_has ls 4 [(0, .ref (a 210)), (1, .int x1), (2, .int x2)]) : W p l e R s m args below meth c H locs (xn F - xn K0) (2 * (xn F - xn K0)) Q (F0 m 41 ls []) := by
  have hx := C.1
  have hb := C.2.1
  unfold cb_X10_behindToken_41 at hm
  refine lv_aload_n hx hb dX10_behindToken_41 rfl (lv_at hl 0 rfl) ?_
  refine lv_iload_n hx hb dX10_behindToken_42 rfl (lv_at hl 1 rfl) ?_
  refine lv_iload_n hx hb dX10_behindToken_43 rfl (lv_at hl 2 rfl) ?_
  obtain ⟨⟨r1, F1, G1⟩, hc, hm⟩ := bind_elim hm
  refine ccallI (n := 2) (As := [.int x1, .int x2]) (rest := []) C hw (ck_X10_behindSign l v a _ _ fu x1 x2 F G r1 F1 G1 hc) (cn_X10_behindSign fu x1 x2 F G _ hc) (Nat.sub_le_sub_right (cn_X10_behindToken_47 fu x1 r1 F1 G1 hm) _) (crecv_X10 C hw) cm_162 cm_163 cm_164 cm_46 cm_165 (by decide +kernel) rfl (by omega) (by omega) hl.1 rfl (Nat.le_of_ble_eq_true rfl) dX10_behindToken_44 (fun b H locs hw => ?_)
  exact cw_X10_behindToken_47 fu C hret x1 r1 F1 G1 hm hw (lv_sub hl [0, 1] rfl)
theorem cn_X10_behindToken_37 (fu : Nat) {res : Int32 × PF × PG} (x1 : Int32) (z0 : Int32) (F : PF) (G : PG) (hm : cb_X10_behindToken_37 fu x1 z0 F G = some res) : xn F ≤ xn res.2.1 := by
  unfold cb_X10_behindToken_37 at hm
  exact (cn_X10_behindToken_48 fu x1 z0 F G hm)
theorem cw_X10_behindToken_37 (fu : Nat) {res : Int32 × PF × PG} (C : cMC p R s m args c A v RX10 cX10_behindToken 4 6 135 (xn res.2.1 - xn K0)) (hret : ∀ (b1 : Nat) (H1 : Heap) (locs1 : List Loc) (ls1 : Array Slot) (pc : Nat), cMW s A v a b1 K0 res.2.1 res.2.2 H1 locs1 → narrow .int (.int res.1) = .int res.1 → decode cX10_behindToken pc = .ok (.ireturn, 1) → W p l e R s m args below meth c H1 locs1 (xn res.2.1 - xn K0) (2 * (xn res.2.1 - xn K0)) Q (F0 m pc ls1 [.int res.1])) (x1 : Int32) (z0 : Int32) (F : PF) (G : PG) (hm : cb_X10_behindToken_37 fu x1 z0 F G = some res) {b : Nat} {H : Heap} {locs : List Loc} (hw : cMW s A v a b K0 F G H locs) {ls : Array Slot} (hl : lv_has ls 4 [(0, .ref (a 210)), (1, .int x1)]) : W p l e R s m args below meth c H locs (xn F - xn K0) (2 * (xn F - xn K0)) Q (F0 m 37 ls [.int z0]) := by
  have hx := C.1
  have hb := C.2.1
  unfold cb_X10_behindToken_37 at hm
  refine lv_istore_n (lv' := [(3, .int z0), (0, .ref (a 210)), (1, .int x1)]) hx hb dX10_behindToken_37 rfl hl (by decide) rfl (fun ls hl => ?_)
  refine lv_goto (tgt := 48) hx hb dX10_behindToken_38 (by decide) ?_
  exact cw_X10_behindToken_48 fu C hret x1 z0 F G hm hw (lv_sub hl [1, 2, 0] rfl)
theorem cn_X10_behindToken_32 (fu : Nat) {res : Int32 × PF × PG} (x1 : Int32) (F : PF) (G : PG) (hm : cb_X10_behindToken_32 fu x1 F G = some res) : xn F ≤ xn res.2.1 := by
  unfold cb_X10_behindToken_32 at hm
  obtain ⟨⟨r1, F1, G1⟩, hc, hm⟩ := bind_elim hm
  exact Nat.le_trans (cn_X10_behindName fu x1 F G _ hc) (cn_X10_behindToken_37 fu x1 r1 F1 G1 hm)
theorem cw_X10_behindToken_32 (fu : Nat) {res : Int32 × PF × PG} (C : cMC p R s m args c A v RX10 cX10_behindToken 4 6 135 (xn res.2.1 - xn K0)) (hret : ∀ (b1 : Nat) (H1 : Heap) (locs1 : List Loc) (ls1 : Array Slot) (pc : Nat), cMW s A v a b1 K0 res.2.1 res.2.2 H1 locs1 → narrow .int (.int res.1) = .int res.1 → decode cX10_behindToken pc = .ok (.ireturn, 1) → W p l e R s m args below meth c H1 locs1 (xn res.2.1 - xn K0) (2 * (xn res.2.1 - xn K0)) Q (F0 m pc ls1 [.int res.1])) (x1 : Int32) (F : PF) (G : PG) (hm : cb_X10_behindToken_32 fu x1 F G = some res) {b : Nat} {H : Heap} {locs : List Loc} (hw : cMW s A v a b K0 F G H locs) {ls : Array Slot} (hl : lv_has ls 4 [(0, .ref (a 210)), (1, .int x1)]) : W p l e R s m args below meth c H locs (xn F - xn K0) (2 * (xn F - xn K0)) Q (F0 m 32 ls []) := by
  have hx := C.1
  have hb := C.2.1
  unfold cb_X10_behindToken_32 at hm
  refine lv_aload_n hx hb dX10_behindToken_32 rfl (lv_at hl 0 rfl) ?_
  refine lv_iload_n hx hb dX10_behindToken_33 rfl (lv_at hl 1 rfl) ?_
  obtain ⟨⟨r1, F1, G1⟩, hc, hm⟩ := bind_elim hm
  refine ccallI (n := 1) (As := [.int x1]) (rest := []) C hw (ck_X10_behindName l v a _ _ fu x1 F G r1 F1 G1 hc) (cn_X10_behindName fu x1 F G _ hc) (Nat.sub_le_sub_right (cn_X10_behindToken_37 fu x1 r1 F1 G1 hm) _) (crecv_X10 C hw) cm_102 cm_103 cm_104 cm_46 cm_105 (by decide +kernel) rfl (by omega) (by omega) hl.1 rfl (Nat.le_of_ble_eq_true rfl) dX10_behindToken_34 (fun b H locs hw => ?_)
  exact cw_X10_behindToken_37 fu C hret x1 r1 F1 G1 hm hw (lv_sub hl [0, 1] rfl)
theorem cn_X10_behindToken_29 (fu : Nat) {res : Int32 × PF × PG} (x1 : Int32) (x2 : Int32) (z0 : Int32) (F : PF) (G : PG) (hm : cb_X10_behindToken_29 fu x1 x2 z0 F G = some res) : xn F ≤ xn res.2.1 := by
  unfold cb_X10_behindToken_29 at hm
  by_cases c_1 : z0 = (0 : Int32)
  · have hm := (if_pos c_1).symm.trans hm
    exact (cn_X10_behindToken_41 fu x1 x2 F G hm)
  · have hm := (if_neg c_1).symm.trans hm
    exact (cn_X10_behindToken_32 fu x1 F G hm)
theorem cw_X10_behindToken_29 (fu : Nat) {res : Int32 × PF × PG} (C : cMC p R s m args c A v RX10 cX10_behindToken 4 6 135 (xn res.2.1 - xn K0)) (hret : ∀ (b1 : Nat) (H1 : Heap) (locs1 : List Loc) (ls1 : Array Slot) (pc : Nat), cMW s A v a b1 K0 res.2.1 res.2.2 H1 locs1 → narrow .int (.int res.1) = .int res.1 → decode cX10_behindToken pc = .ok (.ireturn, 1) → W p l e R s m args below meth c H1 locs1 (xn res.2.1 - xn K0) (2 * (xn res.2.1 - xn K0)) Q (F0 m pc ls1 [.int res.1])) (x1 : Int32) (x2 : Int32) (z0 : Int32) (F : PF) (G : PG) (hm : cb_X10_behindToken_29 fu x1 x2 z0 F G = some res) {b : Nat} {H : Heap} {locs : List Loc} (hw : cMW s A v a b K0 F G H locs) {ls : Array Slot} (hl : lv_has ls 4 [(0, .ref (a 210)), (1, .int x1), (2, .int x2)]) : W p l e R s m args below meth c H locs (xn F - xn K0) (2 * (xn F - xn K0)) Q (F0 m 29 ls [.int z0]) := by
  have hx := C.1
  have hb := C.2.1
  unfold cb_X10_behindToken_29 at hm
  refine lv_if_eq (tgt := 41) hx hb dX10_behindToken_29 (by decide) (fun c_1 => ?_) (fun c_1 => ?_)
  · have hm := (if_pos c_1).symm.trans hm
    exact cw_X10_behindToken_41 fu C hret x1 x2 F G hm hw (lv_sub hl [0, 1, 2] rfl)
  · have hm := (if_neg c_1).symm.trans hm
    exact cw_X10_behindToken_32 fu C hret x1 F G hm hw (lv_sub hl [0, 1] rfl)
theorem cn_X10_behindToken_25 (fu : Nat) {res : Int32 × PF × PG} (x1 : Int32) (x2 : Int32) (F : PF) (G : PG) (hm : cb_X10_behindToken_25 fu x1 x2 F G = some res) : xn F ≤ xn res.2.1 := by
  unfold cb_X10_behindToken_25 at hm
  obtain ⟨⟨r1, F1, G1⟩, hc, hm⟩ := bind_elim hm
  exact Nat.le_trans (cn_X10_isPart fu x2 F G _ hc) (cn_X10_behindToken_29 fu x1 x2 r1 F1 G1 hm)
theorem cw_X10_behindToken_25 (fu : Nat) {res : Int32 × PF × PG} (C : cMC p R s m args c A v RX10 cX10_behindToken 4 6 135 (xn res.2.1 - xn K0)) (hret : ∀ (b1 : Nat) (H1 : Heap) (locs1 : List Loc) (ls1 : Array Slot) (pc : Nat), cMW s A v a b1 K0 res.2.1 res.2.2 H1 locs1 → narrow .int (.int res.1) = .int res.1 → decode cX10_behindToken pc = .ok (.ireturn, 1) → W p l e R s m args below meth c H1 locs1 (xn res.2.1 - xn K0) (2 * (xn res.2.1 - xn K0)) Q (F0 m pc ls1 [.int res.1])) (x1 : Int32) (x2 : Int32) (F : PF) (G : PG) (hm : cb_X10_behindToken_25 fu x1 x2 F G = some res) {b : Nat} {H : Heap} {locs : List Loc} (hw : cMW s A v a b K0 F G H locs) {ls : Array Slot} (hl : lv_has ls 4 [(0, .ref (a 210)), (1, .int x1), (2, .int x2)]) : W p l e R s m args below meth c H locs (xn F - xn K0) (2 * (xn F - xn K0)) Q (F0 m 25 ls []) := by
  have hx := C.1
  have hb := C.2.1
  unfold cb_X10_behindToken_25 at hm
  refine lv_iload_n hx hb dX10_behindToken_25 rfl (lv_at hl 2 rfl) ?_
  obtain ⟨⟨r1, F1, G1⟩, hc, hm⟩ := bind_elim hm
  refine ccallIS (n := 1) (As := [.int x2]) (rest := []) C hw (ck_X10_isPart l v a _ _ fu x2 F G r1 F1 G1 hc) (cn_X10_isPart fu x2 F G _ hc) (Nat.sub_le_sub_right (cn_X10_behindToken_29 fu x1 x2 r1 F1 G1 hm) _) cm_89 cm_90 cm_46 cm_91 (by decide +kernel) rfl (by omega) (by omega) hl.1 rfl (Nat.le_of_ble_eq_true rfl) dX10_behindToken_26 (fun b H locs hw => ?_)
  exact cw_X10_behindToken_29 fu C hret x1 x2 r1 F1 G1 hm hw (lv_sub hl [0, 1, 2] rfl)
theorem cn_X10_behindToken_21 (fu : Nat) {res : Int32 × PF × PG} (x1 : Int32) (z0 : Int32) (F : PF) (G : PG) (hm : cb_X10_behindToken_21 fu x1 z0 F G = some res) : xn F ≤ xn res.2.1 := by
  unfold cb_X10_behindToken_21 at hm
  exact (cn_X10_behindToken_48 fu x1 z0 F G hm)
theorem cw_X10_behindToken_21 (fu : Nat) {res : Int32 × PF × PG} (C : cMC p R s m args c A v RX10 cX10_behindToken 4 6 135 (xn res.2.1 - xn K0)) (hret : ∀ (b1 : Nat) (H1 : Heap) (locs1 : List Loc) (ls1 : Array Slot) (pc : Nat), cMW s A v a b1 K0 res.2.1 res.2.2 H1 locs1 → narrow .int (.int res.1) = .int res.1 → decode cX10_behindToken pc = .ok (.ireturn, 1) → W p l e R s m args below meth c H1 locs1 (xn res.2.1 - xn K0) (2 * (xn res.2.1 - xn K0)) Q (F0 m pc ls1 [.int res.1])) (x1 : Int32) (z0 : Int32) (F : PF) (G : PG) (hm : cb_X10_behindToken_21 fu x1 z0 F G = some res) {b : Nat} {H : Heap} {locs : List Loc} (hw : cMW s A v a b K0 F G H locs) {ls : Array Slot} (hl : lv_has ls 4 [(0, .ref (a 210)), (1, .int x1)]) : W p l e R s m args below meth c H locs (xn F - xn K0) (2 * (xn F - xn K0)) Q (F0 m 21 ls [.int z0]) := by
  have hx := C.1
  have hb := C.2.1
  unfold cb_X10_behindToken_21 at hm
  refine lv_istore_n (lv' := [(3, .int z0), (0, .ref (a 210)), (1, .int x1)]) hx hb dX10_behindToken_21 rfl hl (by decide) rfl (fun ls hl => ?_)
  refine lv_goto (tgt := 48) hx hb dX10_behindToken_22 (by decide) ?_
  exact cw_X10_behindToken_48 fu C hret x1 z0 F G hm hw (lv_sub hl [1, 2, 0] rfl)
theorem cn_X10_behindToken_16 (fu : Nat) {res : Int32 × PF × PG} (x1 : Int32) (F : PF) (G : PG) (hm : cb_X10_behindToken_16 fu x1 F G = some res) : xn F ≤ xn res.2.1 := by
  unfold cb_X10_behindToken_16 at hm
  obtain ⟨⟨r1, F1, G1⟩, hc, hm⟩ := bind_elim hm
  exact Nat.le_trans (cn_X10_behindNumber fu x1 F G _ hc) (cn_X10_behindToken_21 fu x1 r1 F1 G1 hm)
theorem cw_X10_behindToken_16 (fu : Nat) {res : Int32 × PF × PG} (C : cMC p R s m args c A v RX10 cX10_behindToken 4 6 135 (xn res.2.1 - xn K0)) (hret : ∀ (b1 : Nat) (H1 : Heap) (locs1 : List Loc) (ls1 : Array Slot) (pc : Nat), cMW s A v a b1 K0 res.2.1 res.2.2 H1 locs1 → narrow .int (.int res.1) = .int res.1 → decode cX10_behindToken pc = .ok (.ireturn, 1) → W p l e R s m args below meth c H1 locs1 (xn res.2.1 - xn K0) (2 * (xn res.2.1 - xn K0)) Q (F0 m pc ls1 [.int res.1])) (x1 : Int32) (F : PF) (G : PG) (hm : cb_X10_behindToken_16 fu x1 F G = some res) {b : Nat} {H : Heap} {locs : List Loc} (hw : cMW s A v a b K0 F G H locs) {ls : Array Slot} (hl : lv_has ls 4 [(0, .ref (a 210)), (1, .int x1)]) : W p l e R s m args below meth c H locs (xn F - xn K0) (2 * (xn F - xn K0)) Q (F0 m 16 ls []) := by
  have hx := C.1
  have hb := C.2.1
  unfold cb_X10_behindToken_16 at hm
  refine lv_aload_n hx hb dX10_behindToken_16 rfl (lv_at hl 0 rfl) ?_
  refine lv_iload_n hx hb dX10_behindToken_17 rfl (lv_at hl 1 rfl) ?_
  obtain ⟨⟨r1, F1, G1⟩, hc, hm⟩ := bind_elim hm
  refine ccallI (n := 1) (As := [.int x1]) (rest := []) C hw (ck_X10_behindNumber l v a _ _ fu x1 F G r1 F1 G1 hc) (cn_X10_behindNumber fu x1 F G _ hc) (Nat.sub_le_sub_right (cn_X10_behindToken_21 fu x1 r1 F1 G1 hm) _) (crecv_X10 C hw) cm_80 cm_81 cm_82 cm_46 cm_83 (by decide +kernel) rfl (by omega) (by omega) hl.1 rfl (Nat.le_of_ble_eq_true rfl) dX10_behindToken_18 (fun b H locs hw => ?_)
  exact cw_X10_behindToken_21 fu C hret x1 r1 F1 G1 hm hw (lv_sub hl [0, 1] rfl)
theorem cn_X10_behindToken_13 (fu : Nat) {res : Int32 × PF × PG} (x1 : Int32) (x2 : Int32) (z0 : Int32) (F : PF) (G : PG) (hm : cb_X10_behindToken_13 fu x1 x2 z0 F G = some res) : xn F ≤ xn res.2.1 := by
  unfold cb_X10_behindToken_13 at hm
  by_cases c_1 : z0 = (0 : Int32)
  · have hm := (if_pos c_1).symm.trans hm
    exact (cn_X10_behindToken_25 fu x1 x2 F G hm)
  · have hm := (if_neg c_1).symm.trans hm
    exact (cn_X10_behindToken_16 fu x1 F G hm)
theorem cw_X10_behindToken_13 (fu : Nat) {res : Int32 × PF × PG} (C : cMC p R s m args c A v RX10 cX10_behindToken 4 6 135 (xn res.2.1 - xn K0)) (hret : ∀ (b1 : Nat) (H1 : Heap) (locs1 : List Loc) (ls1 : Array Slot) (pc : Nat), cMW s A v a b1 K0 res.2.1 res.2.2 H1 locs1 → narrow .int (.int res.1) = .int res.1 → decode cX10_behindToken pc = .ok (.ireturn, 1) → W p l e R s m args below meth c H1 locs1 (xn res.2.1 - xn K0) (2 * (xn res.2.1 - xn K0)) Q (F0 m pc ls1 [.int res.1])) (x1 : Int32) (x2 : Int32) (z0 : Int32) (F : PF) (G : PG) (hm : cb_X10_behindToken_13 fu x1 x2 z0 F G = some res) {b : Nat} {H : Heap} {locs : List Loc} (hw : cMW s A v a b K0 F G H locs) {ls : Array Slot} (hl : lv_has ls 4 [(0, .ref (a 210)), (1, .int x1), (2, .int x2)]) : W p l e R s m args below meth c H locs (xn F - xn K0) (2 * (xn F - xn K0)) Q (F0 m 13 ls [.int z0]) := by
  have hx := C.1
  have hb := C.2.1
  unfold cb_X10_behindToken_13 at hm
  refine lv_if_eq (tgt := 25) hx hb dX10_behindToken_13 (by decide) (fun c_1 => ?_) (fun c_1 => ?_)
  · have hm := (if_pos c_1).symm.trans hm
    exact cw_X10_behindToken_25 fu C hret x1 x2 F G hm hw (lv_sub hl [0, 1, 2] rfl)
  · have hm := (if_neg c_1).symm.trans hm
    exact cw_X10_behindToken_16 fu C hret x1 F G hm hw (lv_sub hl [0, 1] rfl)
theorem cn_X10_behindToken_8 (fu : Nat) {res : Int32 × PF × PG} (x1 : Int32) (z0 : Int32) (F : PF) (G : PG) (hm : cb_X10_behindToken_8 fu x1 z0 F G = some res) : xn F ≤ xn res.2.1 := by
  unfold cb_X10_behindToken_8 at hm
  obtain ⟨⟨r1, F1, G1⟩, hc, hm⟩ := bind_elim hm
  exact Nat.le_trans (cn_X10_isDigit fu z0 F G _ hc) (cn_X10_behindToken_13 fu x1 z0 r1 F1 G1 hm)
theorem cw_X10_behindToken_8 (fu : Nat) {res : Int32 × PF × PG} (C : cMC p R s m args c A v RX10 cX10_behindToken 4 6 135 (xn res.2.1 - xn K0)) (hret : ∀ (b1 : Nat) (H1 : Heap) (locs1 : List Loc) (ls1 : Array Slot) (pc : Nat), cMW s A v a b1 K0 res.2.1 res.2.2 H1 locs1 → narrow .int (.int res.1) = .int res.1 → decode cX10_behindToken pc = .ok (.ireturn, 1) → W p l e R s m args below meth c H1 locs1 (xn res.2.1 - xn K0) (2 * (xn res.2.1 - xn K0)) Q (F0 m pc ls1 [.int res.1])) (x1 : Int32) (z0 : Int32) (F : PF) (G : PG) (hm : cb_X10_behindToken_8 fu x1 z0 F G = some res) {b : Nat} {H : Heap} {locs : List Loc} (hw : cMW s A v a b K0 F G H locs) {ls : Array Slot} (hl : lv_has ls 4 [(0, .ref (a 210)), (1, .int x1)]) : W p l e R s m args below meth c H locs (xn F - xn K0) (2 * (xn F - xn K0)) Q (F0 m 8 ls [.int z0]) := by
  have hx := C.1
  have hb := C.2.1
  unfold cb_X10_behindToken_8 at hm
  refine lv_istore_n (lv' := [(2, .int z0), (0, .ref (a 210)), (1, .int x1)]) hx hb dX10_behindToken_8 rfl hl (by decide) rfl (fun ls hl => ?_)
  refine lv_iload_n hx hb dX10_behindToken_9 rfl (lv_at hl 0 rfl) ?_
  obtain ⟨⟨r1, F1, G1⟩, hc, hm⟩ := bind_elim hm
  refine ccallIS (n := 1) (As := [.int z0]) (rest := []) C hw (ck_X10_isDigit l v a _ _ fu z0 F G r1 F1 G1 hc) (cn_X10_isDigit fu z0 F G _ hc) (Nat.sub_le_sub_right (cn_X10_behindToken_13 fu x1 z0 r1 F1 G1 hm) _) cm_77 cm_78 cm_46 cm_79 (by decide +kernel) rfl (by omega) (by omega) hl.1 rfl (Nat.le_of_ble_eq_true rfl) dX10_behindToken_10 (fun b H locs hw => ?_)
  exact cw_X10_behindToken_13 fu C hret x1 z0 r1 F1 G1 hm hw (lv_sub hl [1, 2, 0] rfl)
theorem cn_X10_behindToken_0 (fu : Nat) {res : Int32 × PF × PG} (x1 : Int32) (F : PF) (G : PG) (hm : cb_X10_behindToken_0 fu x1 F G = some res) : xn F ≤ xn res.2.1 := by
  unfold cb_X10_behindToken_0 at hm
  obtain ⟨⟨r1, F1, G1⟩, hc, hm⟩ := bind_elim hm
  exact Nat.le_trans (cn_X9_at fu x1 F G _ hc) (cn_X10_behindToken_8 fu x1 r1 F1 G1 hm)
theorem cw_X10_behindToken_0 (fu : Nat) {res : Int32 × PF × PG} (C : cMC p R s m args c A v RX10 cX10_behindToken 4 6 135 (xn res.2.1 - xn K0)) (hret : ∀ (b1 : Nat) (H1 : Heap) (locs1 : List Loc) (ls1 : Array Slot) (pc : Nat), cMW s A v a b1 K0 res.2.1 res.2.2 H1 locs1 → narrow .int (.int res.1) = .int res.1 → decode cX10_behindToken pc = .ok (.ireturn, 1) → W p l e R s m args below meth c H1 locs1 (xn res.2.1 - xn K0) (2 * (xn res.2.1 - xn K0)) Q (F0 m pc ls1 [.int res.1])) (x1 : Int32) (F : PF) (G : PG) (hm : cb_X10_behindToken_0 fu x1 F G = some res) {b : Nat} {H : Heap} {locs : List Loc} (hw : cMW s A v a b K0 F G H locs) {ls : Array Slot} (hl : lv_has ls 4 [(0, .ref (a 210)), (1, .int x1)]) : W p l e R s m args below meth c H locs (xn F - xn K0) (2 * (xn F - xn K0)) Q (F0 m 0 ls []) := by
  have hx := C.1
  have hb := C.2.1
  unfold cb_X10_behindToken_0 at hm
  refine lv_aload_n hx hb dX10_behindToken_0 rfl (lv_at hl 0 rfl) ?_
  refine cg_X10_33 C hw dX10_behindToken_1 ?_
  refine lv_iload_n hx hb dX10_behindToken_4 rfl (lv_at hl 1 rfl) ?_
  obtain ⟨⟨r1, F1, G1⟩, hc, hm⟩ := bind_elim hm
  refine ccallI (n := 1) (As := [.int x1]) (rest := []) C hw (ck_X9_at l v a _ _ fu x1 F G r1 F1 G1 hc) (cn_X9_at fu x1 F G _ hc) (Nat.sub_le_sub_right (cn_X10_behindToken_8 fu x1 r1 F1 G1 hm) _) (crecv_X9 C hw) cm_61 cm_62 cm_63 cm_6 cm_64 (by decide +kernel) rfl (by omega) (by omega) hl.1 rfl (Nat.le_of_ble_eq_true rfl) dX10_behindToken_5 (fun b H locs hw => ?_)
  exact cw_X10_behindToken_8 fu C hret x1 r1 F1 G1 hm hw (lv_sub hl [0, 1] rfl)
theorem cn_X10_behindToken (fu : Nat) (x1 : Int32) (F : PF) (G : PG) (q : Int32 × PF × PG) (hm : cf_X10_behindToken fu x1 F G = some q) : xn F ≤ xn q.2.1 := cn_X10_behindToken_0 fu x1 F G hm
theorem ck_X10_behindToken (l : Launch) (v : EV) (a : Nat → Nat) (b sz : Nat) (fu : Nat) (x1 : Int32) (F : PF) (G : PG) (r : Int32) (F1 : PF) (G1 : PG) (hm : cf_X10_behindToken fu x1 F G = some (r, F1, G1)) : cMI l yX10_behindToken cX10_behindToken 4 (some .int) 6 135 v a b sz [.ref (a 210), .int x1] F G r F1 G1 := cMI.of (ty := .int) (by decide) rfl (Nat.le_of_ble_eq_true rfl) (fun p e R s m args below meth c Q A H locs ls C hw hl hret => cw_X10_behindToken_0 fu (res := (r, F1, G1)) C hret x1 F G hm hw hl)
def cb_X10_scan_88 (fu : Nat) (F : PF) (G : PG) : PR := some (0, F, G)
def cb_X10_scan_75 (fu : Nat) (F : PF) (G : PG) : PR := (cf_X10_add fu 0 0 (F 88) F G).bind (fun q => cb_X10_scan_88 fu q.2.1 q.2.2)
def cb_X10_scan_69 (fu : Nat) (ag_22 : Int32 → Int32 → PF → PG → PR) (x1 : Int32) (x2 : Int32) (F : PF) (G : PG) : PR := ag_22 x1 (x2 + 1) F G
def cb_X10_scan_68 (fu : Nat) (F : PF) (G : PG) : PR := some (0, F, G)
def cb_X10_scan_63 (fu : Nat) (ag_22 : Int32 → Int32 → PF → PG → PR) (x1 : Int32) (x2 : Int32) (F : PF) (G : PG) : PR := if x1 = (-1 : Int32) then cb_X10_scan_68 fu F G else cb_X10_scan_69 fu ag_22 x1 x2 F G
def cb_X10_scan_62 (fu : Nat) (ag_22 : Int32 → Int32 → PF → PG → PR) (x2 : Int32) (z0 : Int32) (F : PF) (G : PG) : PR := cb_X10_scan_63 fu ag_22 z0 x2 F G
def cb_X10_scan_57 (fu : Nat) (ag_22 : Int32 → Int32 → PF → PG → PR) (x1 : Int32) (x2 : Int32) (F : PF) (G : PG) : PR := (cf_X10_behindToken fu x1 F G).bind (fun q => cb_X10_scan_62 fu ag_22 x2 q.1 q.2.1 q.2.2)
def cb_X10_scan_45 (fu : Nat) (ag_22 : Int32 → Int32 → PF → PG → PR) (x2 : Int32) (z0 : Int32) (F : PF) (G : PG) : PR := if (F 88) ≤ z0 then cb_X10_scan_63 fu ag_22 z0 x2 F G else cb_X10_scan_57 fu ag_22 z0 x2 F G
def cb_X10_scan_40 (fu : Nat) (ag_22 : Int32 → Int32 → PF → PG → PR) (x1 : Int32) (x2 : Int32) (F : PF) (G : PG) : PR := (cf_X10_behindGap fu x1 F G).bind (fun q => cb_X10_scan_45 fu ag_22 x2 q.1 q.2.1 q.2.2)
def cb_X10_scan_29 (fu : Nat) (ag_22 : Int32 → Int32 → PF → PG → PR) (x1 : Int32) (x2 : Int32) (F : PF) (G : PG) : PR := if (F 88) ≤ x1 then cb_X10_scan_75 fu F G else cb_X10_scan_40 fu ag_22 x1 x2 F G
def cb_X10_scan_22 (fu : Nat) (ag_22 : Int32 → Int32 → PF → PG → PR) (x1 : Int32) (x2 : Int32) (F : PF) (G : PG) : PR := if (4001 : Int32) ≤ x2 then cb_X10_scan_75 fu F G else cb_X10_scan_29 fu ag_22 x1 x2 F G
def cl_X10_scan_22 (fu : Nat) : Nat → Int32 → Int32 → PF → PG → PR
  | 0 => fun _ _ _ _ => none
  | n + 1 => fun x1 x2 F G => cb_X10_scan_22 fu (cl_X10_scan_22 fu n) x1 x2 F G
def cb_X10_scan_18 (fu : Nat) (F : PF) (G : PG) : PR := cl_X10_scan_22 fu fu 0 0 F G
def cb_X10_scan_10 (fu : Nat) (F : PF) (G : PG) : PR := (cf_fill_94 fu (-1) F G).bind (fun q => cb_X10_scan_18 fu q.2.1 q.2.2)
def cb_X10_scan_5 (fu : Nat) (F : PF) (G : PG) : PR := cb_X10_scan_10 fu (fup F 98 (0 : Int32)) G
def cb_X10_scan_0 (fu : Nat) (F : PF) (G : PG) : PR := cb_X10_scan_5 fu (fup F 93 (0 : Int32)) G
def cf_X10_scan (fu : Nat) (F : PF) (G : PG) : PR := cb_X10_scan_0 fu F G
theorem cn_X10_scan_88 (fu : Nat) {res : Int32 × PF × PG} (F : PF) (G : PG) (hm : cb_X10_scan_88 fu F G = some res) : xn F ≤ xn res.2.1 := by
  unfold cb_X10_scan_88 at hm
  obtain rfl := Option.some.inj hm
  exact Nat.le_refl _
theorem cw_X10_scan_88 (fu : Nat) {res : Int32 × PF × PG} (C : cMC p R s m args c A v RX10 cX10_scan 3 7 158 (xn res.2.1 - xn K0)) (hret : ∀ (b1 : Nat) (H1 : Heap) (locs1 : List Loc) (ls1 : Array Slot) (pc : Nat), cMW s A v a b1 K0 res.2.1 res.2.2 H1 locs1 → decode cX10_scan pc = .ok (.return_, 1) → W p l e R s m args below meth c H1 locs1 (xn res.2.1 - xn K0) (2 * (xn res.2.1 - xn K0)) Q (F0 m pc ls1 [])) (F : PF) (G : PG) (hm : cb_X10_scan_88 fu F G = some res) {b : Nat} {H : Heap} {locs : List Loc} (hw : cMW s A v a b K0 F G H locs) {ls : Array Slot} (hl : lv_has ls 3 []) : W p l e R s m args below meth c H locs (xn F - xn K0) (2 * (xn F - xn K0)) Q (F0 m 88 ls []) := by
  have hx := C.1
  have hb := C.2.1
  unfold cb_X10_scan_88 at hm
  obtain rfl := Option.some.inj hm
  exact hret _ _ _ _ _ hw dX10_scan_88
theorem cn_X10_scan_75 (fu : Nat) {res : Int32 × PF × PG} (F : PF) (G : PG) (hm : cb_X10_scan_75 fu F G = some res) : xn F ≤ xn res.2.1 := by
  unfold cb_X10_scan_75 at hm
  obtain ⟨⟨r1, F1, G1⟩, hc, hm⟩ := bind_elim hm
  exact Nat.le_trans (cn_X10_add fu 0 0 (F 88) F G _ hc) (cn_X10_scan_88 fu F1 G1 hm)
theorem cw_X10_scan_75 (fu : Nat) {res : Int32 × PF × PG} (C : cMC p R s m args c A v RX10 cX10_scan 3 7 158 (xn res.2.1 - xn K0)) (hret : ∀ (b1 : Nat) (H1 : Heap) (locs1 : List Loc) (ls1 : Array Slot) (pc : Nat), cMW s A v a b1 K0 res.2.1 res.2.2 H1 locs1 → decode cX10_scan pc = .ok (.return_, 1) → W p l e R s m args below meth c H1 locs1 (xn res.2.1 - xn K0) (2 * (xn res.2.1 - xn K0)) Q (F0 m pc ls1 [])) (F : PF) (G : PG) (hm : cb_X10_scan_75 fu F G = some res) {b : Nat} {H : Heap} {locs : List Loc} (hw : cMW s A v a b K0 F G H locs) {ls : Array Slot} (hl : lv_has ls 3 [(0, .ref (a 210))]) : W p l e R s m args below meth c H locs (xn F - xn K0) (2 * (xn F - xn K0)) Q (F0 m 75 ls []) := by
  have hx := C.1
  have hb := C.2.1
  unfold cb_X10_scan_75 at hm
  refine lv_aload_n hx hb dX10_scan_75 rfl (lv_at hl 0 rfl) ?_
  refine lv_iconst (v := 0) hx hb dX10_scan_76 (by decide) ?_
  refine lv_iconst (v := 0) hx hb dX10_scan_77 (by decide) ?_
  refine lv_aload_n hx hb dX10_scan_78 rfl (lv_at hl 0 rfl) ?_
  refine cg_X10_33 C hw dX10_scan_79 ?_
  refine cg_X10_50 C hw dX10_scan_82 ?_
  obtain ⟨⟨r1, F1, G1⟩, hc, hm⟩ := bind_elim hm
  refine ccallV (n := 3) (As := [.int 0, .int 0, .int (F 88)]) (rest := []) C hw (ck_X10_add l v a _ _ fu 0 0 (F 88) F G r1 F1 G1 hc) (cn_X10_add fu 0 0 (F 88) F G _ hc) (Nat.sub_le_sub_right (cn_X10_scan_88 fu F1 G1 hm) _) (crecv_X10 C hw) cm_95 cm_96 cm_97 cm_46 cm_98 (by decide +kernel) rfl (by omega) (by omega) hl.1 rfl (Nat.le_of_ble_eq_true rfl) dX10_scan_85 (fun b H locs hw => ?_)
  exact cw_X10_scan_88 fu C hret F1 G1 hm hw (lv_sub hl [] rfl)
theorem cn_X10_scan_69 (fu : Nat) {res : Int32 × PF × PG} (ag_22 : Int32 → Int32 → PF → PG → PR) (hagn_22 : ∀ (x1 : Int32) (x2 : Int32) (F : PF) (G : PG), ag_22 x1 x2 F G = some res → xn F ≤ xn res.2.1) (x1 : Int32) (x2 : Int32) (F : PF) (G : PG) (hm : cb_X10_scan_69 fu ag_22 x1 x2 F G = some res) : xn F ≤ xn res.2.1 := by
  unfold cb_X10_scan_69 at hm
  exact (hagn_22 x1 (x2 + 1) F G hm)
theorem cw_X10_scan_69 (fu : Nat) {res : Int32 × PF × PG} (C : cMC p R s m args c A v RX10 cX10_scan 3 7 158 (xn res.2.1 - xn K0)) (hret : ∀ (b1 : Nat) (H1 : Heap) (locs1 : List Loc) (ls1 : Array Slot) (pc : Nat), cMW s A v a b1 K0 res.2.1 res.2.2 H1 locs1 → decode cX10_scan pc = .ok (.return_, 1) → W p l e R s m args below meth c H1 locs1 (xn res.2.1 - xn K0) (2 * (xn res.2.1 - xn K0)) Q (F0 m pc ls1 [])) (ag_22 : Int32 → Int32 → PF → PG → PR) (hag_22 : ∀ (x1 : Int32) (x2 : Int32) (F : PF) (G : PG), ag_22 x1 x2 F G = some res → ∀ (b : Nat) (H : Heap) (locs : List Loc) (ls : Array Slot), cMW s A v a b K0 F G H locs → lv_has ls 3 [(0, .ref (a 210)), (1, .int x1), (2, .int x2)] → W p l e R s m args below meth c H locs (xn F - xn K0) (2 * (xn F - xn K0)) Q (F0 m 22 ls [])) (hagn_22 : ∀ (x1 : Int32) (x2 : Int32) (F : PF) (G : PG), ag_22 x1 x2 F G = some res → xn F ≤ xn res.2.1) (x1 : Int32) (x2 : Int32) (F : PF) (G : PG) (hm : cb_X10_scan_69 fu ag_22 x1 x2 F G = some res) {b : Nat} {H : Heap} {locs : List Loc} (hw : cMW s A v a b K0 F G H locs) {ls : Array Slot} (hl : lv_has ls 3 [(0, .ref (a 210)), (1, .int x1), (2, .int x2)]) : W p l e R s m args below meth c H locs (xn F - xn K0) (2 * (xn F - xn K0)) Q (F0 m 69 ls []) := by
  have hx := C.1
  have hb := C.2.1
  unfold cb_X10_scan_69 at hm
  refine lv_iinc (v := (x2 + 1)) (lv' := [(2, .int (x2 + 1)), (0, .ref (a 210)), (1, .int x1)]) hx hb dX10_scan_69 hl (k := 2) rfl (by rfl) (by decide) rfl (fun ls hl => ?_)
  refine lv_goto (tgt := 22) hx hb dX10_scan_72 (by decide) ?_
  exact hag_22 x1 (x2 + 1) F G hm _ _ _ _ hw (lv_sub hl [1, 2, 0] rfl)
theorem cn_X10_scan_68 (fu : Nat) {res : Int32 × PF × PG} (F : PF) (G : PG) (hm : cb_X10_scan_68 fu F G = some res) : xn F ≤ xn res.2.1 := by
  unfold cb_X10_scan_68 at hm
  obtain rfl := Option.some.inj hm
  exact Nat.le_refl _
theorem cw_X10_scan_68 (fu : Nat) {res : Int32 × PF × PG} (C : cMC p R s m args c A v RX10 cX10_scan 3 7 158 (xn res.2.1 - xn K0)) (hret : ∀ (b1 : Nat) (H1 : Heap) (locs1 : List Loc) (ls1 : Array Slot) (pc : Nat), cMW s A v a b1 K0 res.2.1 res.2.2 H1 locs1 → decode cX10_scan pc = .ok (.return_, 1) → W p l e R s m args below meth c H1 locs1 (xn res.2.1 - xn K0) (2 * (xn res.2.1 - xn K0)) Q (F0 m pc ls1 [])) (F : PF) (G : PG) (hm : cb_X10_scan_68 fu F G = some res) {b : Nat} {H : Heap} {locs : List Loc} (hw : cMW s A v a b K0 F G H locs) {ls : Array Slot} (hl : lv_has ls 3 []) : W p l e R s m args below meth c H locs (xn F - xn K0) (2 * (xn F - xn K0)) Q (F0 m 68 ls []) := by
  have hx := C.1
  have hb := C.2.1
  unfold cb_X10_scan_68 at hm
  obtain rfl := Option.some.inj hm
  exact hret _ _ _ _ _ hw dX10_scan_68
theorem cn_X10_scan_63 (fu : Nat) {res : Int32 × PF × PG} (ag_22 : Int32 → Int32 → PF → PG → PR) (hagn_22 : ∀ (x1 : Int32) (x2 : Int32) (F : PF) (G : PG), ag_22 x1 x2 F G = some res → xn F ≤ xn res.2.1) (x1 : Int32) (x2 : Int32) (F : PF) (G : PG) (hm : cb_X10_scan_63 fu ag_22 x1 x2 F G = some res) : xn F ≤ xn res.2.1 := by
  unfold cb_X10_scan_63 at hm
  by_cases c_1 : x1 = (-1 : Int32)
  · have hm := (if_pos c_1).symm.trans hm
    exact (cn_X10_scan_68 fu F G hm)
  · have hm := (if_neg c_1).symm.trans hm
    exact (cn_X10_scan_69 fu ag_22 hagn_22 x1 x2 F G hm)
theorem cw_X10_scan_63 (fu : Nat) {res : Int32 × PF × PG} (C : cMC p R s m args c A v RX10 cX10_scan 3 7 158 (xn res.2.1 - xn K0)) (hret : ∀ (b1 : Nat) (H1 : Heap) (locs1 : List Loc) (ls1 : Array Slot) (pc : Nat), cMW s A v a b1 K0 res.2.1 res.2.2 H1 locs1 → decode cX10_scan pc = .ok (.return_, 1) → W p l e R s m args below meth c H1 locs1 (xn res.2.1 - xn K0) (2 * (xn res.2.1 - xn K0)) Q (F0 m pc ls1 [])) (ag_22 : Int32 → Int32 → PF → PG → PR) (hag_22 : ∀ (x1 : Int32) (x2 : Int32) (F : PF) (G : PG), ag_22 x1 x2 F G = some res → ∀ (b : Nat) (H : Heap) (locs : List Loc) (ls : Array Slot), cMW s A v a b K0 F G H locs → lv_has ls 3 [(0, .ref (a 210)), (1, .int x1), (2, .int x2)] → W p l e R s m args below meth c H locs (xn F - xn K0) (2 * (xn F - xn K0)) Q (F0 m 22 ls [])) (hagn_22 : ∀ (x1 : Int32) (x2 : Int32) (F : PF) (G : PG), ag_22 x1 x2 F G = some res → xn F ≤ xn res.2.1) (x1 : Int32) (x2 : Int32) (F : PF) (G : PG) (hm : cb_X10_scan_63 fu ag_22 x1 x2 F G = some res) {b : Nat} {H : Heap} {locs : List Loc} (hw : cMW s A v a b K0 F G H locs) {ls : Array Slot} (hl : lv_has ls 3 [(0, .ref (a 210)), (1, .int x1), (2, .int x2)]) : W p l e R s m args below meth c H locs (xn F - xn K0) (2 * (xn F - xn K0)) Q (F0 m 63 ls []) := by
  have hx := C.1
  have hb := C.2.1
  unfold cb_X10_scan_63 at hm
  refine lv_iload_n hx hb dX10_scan_63 rfl (lv_at hl 1 rfl) ?_
  refine lv_iconst (v := (-1)) hx hb dX10_scan_64 (by decide) ?_
  refine lv_icmp_ne (tgt := 69) hx hb dX10_scan_65 (by decide) (fun c_1 => ?_) (fun c_1 => ?_)
  · have hm := (if_neg c_1).symm.trans hm
    exact cw_X10_scan_69 fu C hret ag_22 hag_22 hagn_22 x1 x2 F G hm hw (lv_sub hl [0, 1, 2] rfl)
  · have hm := (if_pos c_1).symm.trans hm
    exact cw_X10_scan_68 fu C hret F G hm hw (lv_sub hl [] rfl)
theorem cn_X10_scan_62 (fu : Nat) {res : Int32 × PF × PG} (ag_22 : Int32 → Int32 → PF → PG → PR) (hagn_22 : ∀ (x1 : Int32) (x2 : Int32) (F : PF) (G : PG), ag_22 x1 x2 F G = some res → xn F ≤ xn res.2.1) (x2 : Int32) (z0 : Int32) (F : PF) (G : PG) (hm : cb_X10_scan_62 fu ag_22 x2 z0 F G = some res) : xn F ≤ xn res.2.1 := by
  unfold cb_X10_scan_62 at hm
  exact (cn_X10_scan_63 fu ag_22 hagn_22 z0 x2 F G hm)
theorem cw_X10_scan_62 (fu : Nat) {res : Int32 × PF × PG} (C : cMC p R s m args c A v RX10 cX10_scan 3 7 158 (xn res.2.1 - xn K0)) (hret : ∀ (b1 : Nat) (H1 : Heap) (locs1 : List Loc) (ls1 : Array Slot) (pc : Nat), cMW s A v a b1 K0 res.2.1 res.2.2 H1 locs1 → decode cX10_scan pc = .ok (.return_, 1) → W p l e R s m args below meth c H1 locs1 (xn res.2.1 - xn K0) (2 * (xn res.2.1 - xn K0)) Q (F0 m pc ls1 [])) (ag_22 : Int32 → Int32 → PF → PG → PR) (hag_22 : ∀ (x1 : Int32) (x2 : Int32) (F : PF) (G : PG), ag_22 x1 x2 F G = some res → ∀ (b : Nat) (H : Heap) (locs : List Loc) (ls : Array Slot), cMW s A v a b K0 F G H locs → lv_has ls 3 [(0, .ref (a 210)), (1, .int x1), (2, .int x2)] → W p l e R s m args below meth c H locs (xn F - xn K0) (2 * (xn F - xn K0)) Q (F0 m 22 ls [])) (hagn_22 : ∀ (x1 : Int32) (x2 : Int32) (F : PF) (G : PG), ag_22 x1 x2 F G = some res → xn F ≤ xn res.2.1) (x2 : Int32) (z0 : Int32) (F : PF) (G : PG) (hm : cb_X10_scan_62 fu ag_22 x2 z0 F G = some res) {b : Nat} {H : Heap} {locs : List Loc} (hw : cMW s A v a b K0 F G H locs) {ls : Array Slot} (hl : lv_has ls 3 [(0, .ref (a 210)), (2, .int x2)]) : W p l e R s m args below meth c H locs (xn F - xn K0) (2 * (xn F - xn K0)) Q (F0 m 62 ls [.int z0]) := by
  have hx := C.1
  have hb := C.2.1
  unfold cb_X10_scan_62 at hm
  refine lv_istore_n (lv' := [(1, .int z0), (0, .ref (a 210)), (2, .int x2)]) hx hb dX10_scan_62 rfl hl (by decide) rfl (fun ls hl => ?_)
  exact cw_X10_scan_63 fu C hret ag_22 hag_22 hagn_22 z0 x2 F G hm hw (lv_sub hl [1, 0, 2] rfl)
theorem cn_X10_scan_57 (fu : Nat) {res : Int32 × PF × PG} (ag_22 : Int32 → Int32 → PF → PG → PR) (hagn_22 : ∀ (x1 : Int32) (x2 : Int32) (F : PF) (G : PG), ag_22 x1 x2 F G = some res → xn F ≤ xn res.2.1) (x1 : Int32) (x2 : Int32) (F : PF) (G : PG) (hm : cb_X10_scan_57 fu ag_22 x1 x2 F G = some res) : xn F ≤ xn res.2.1 := by
  unfold cb_X10_scan_57 at hm
  obtain ⟨⟨r1, F1, G1⟩, hc, hm⟩ := bind_elim hm
  exact Nat.le_trans (cn_X10_behindToken fu x1 F G _ hc) (cn_X10_scan_62 fu ag_22 hagn_22 x2 r1 F1 G1 hm)
theorem cw_X10_scan_57 (fu : Nat) {res : Int32 × PF × PG} (C : cMC p R s m args c A v RX10 cX10_scan 3 7 158 (xn res.2.1 - xn K0)) (hret : ∀ (b1 : Nat) (H1 : Heap) (locs1 : List Loc) (ls1 : Array Slot) (pc : Nat), cMW s A v a b1 K0 res.2.1 res.2.2 H1 locs1 → decode cX10_scan pc = .ok (.return_, 1) → W p l e R s m args below meth c H1 locs1 (xn res.2.1 - xn K0) (2 * (xn res.2.1 - xn K0)) Q (F0 m pc ls1 [])) (ag_22 : Int32 → Int32 → PF → PG → PR) (hag_22 : ∀ (x1 : Int32) (x2 : Int32) (F : PF) (G : PG), ag_22 x1 x2 F G = some res → ∀ (b : Nat) (H : Heap) (locs : List Loc) (ls : Array Slot), cMW s A v a b K0 F G H locs → lv_has ls 3 [(0, .ref (a 210)), (1, .int x1), (2, .int x2)] → W p l e R s m args below meth c H locs (xn F - xn K0) (2 * (xn F - xn K0)) Q (F0 m 22 ls [])) (hagn_22 : ∀ (x1 : Int32) (x2 : Int32) (F : PF) (G : PG), ag_22 x1 x2 F G = some res → xn F ≤ xn res.2.1) (x1 : Int32) (x2 : Int32) (F : PF) (G : PG) (hm : cb_X10_scan_57 fu ag_22 x1 x2 F G = some res) {b : Nat} {H : Heap} {locs : List Loc} (hw : cMW s A v a b K0 F G H locs) {ls : Array Slot} (hl : lv_has ls 3 [(0, .ref (a 210)), (1, .int x1), (2, .int x2)]) : W p l e R s m args below meth c H locs (xn F - xn K0) (2 * (xn F - xn K0)) Q (F0 m 57 ls []) := by
  have hx := C.1
  have hb := C.2.1
  unfold cb_X10_scan_57 at hm
  refine lv_aload_n hx hb dX10_scan_57 rfl (lv_at hl 0 rfl) ?_
  refine lv_iload_n hx hb dX10_scan_58 rfl (lv_at hl 1 rfl) ?_
  obtain ⟨⟨r1, F1, G1⟩, hc, hm⟩ := bind_elim hm
  refine ccallI (n := 1) (As := [.int x1]) (rest := []) C hw (ck_X10_behindToken l v a _ _ fu x1 F G r1 F1 G1 hc) (cn_X10_behindToken fu x1 F G _ hc) (Nat.sub_le_sub_right (cn_X10_scan_62 fu ag_22 hagn_22 x2 r1 F1 G1 hm) _) (crecv_X10 C hw) cm_73 cm_74 cm_75 cm_46 cm_76 (by decide +kernel) rfl (by omega) (by omega) hl.1 rfl (Nat.le_of_ble_eq_true rfl) dX10_scan_59 (fun b H locs hw => ?_)
  exact cw_X10_scan_62 fu C hret ag_22 hag_22 hagn_22 x2 r1 F1 G1 hm hw (lv_sub hl [0, 2] rfl)
theorem cn_X10_scan_45 (fu : Nat) {res : Int32 × PF × PG} (ag_22 : Int32 → Int32 → PF → PG → PR) (hagn_22 : ∀ (x1 : Int32) (x2 : Int32) (F : PF) (G : PG), ag_22 x1 x2 F G = some res → xn F ≤ xn res.2.1) (x2 : Int32) (z0 : Int32) (F : PF) (G : PG) (hm : cb_X10_scan_45 fu ag_22 x2 z0 F G = some res) : xn F ≤ xn res.2.1 := by
  unfold cb_X10_scan_45 at hm
  by_cases c_1 : (F 88) ≤ z0
  · have hm := (if_pos c_1).symm.trans hm
    exact (cn_X10_scan_63 fu ag_22 hagn_22 z0 x2 F G hm)
  · have hm := (if_neg c_1).symm.trans hm
    exact (cn_X10_scan_57 fu ag_22 hagn_22 z0 x2 F G hm)
theorem cw_X10_scan_45 (fu : Nat) {res : Int32 × PF × PG} (C : cMC p R s m args c A v RX10 cX10_scan 3 7 158 (xn res.2.1 - xn K0)) (hret : ∀ (b1 : Nat) (H1 : Heap) (locs1 : List Loc) (ls1 : Array Slot) (pc : Nat), cMW s A v a b1 K0 res.2.1 res.2.2 H1 locs1 → decode cX10_scan pc = .ok (.return_, 1) → W p l e R s m args below meth c H1 locs1 (xn res.2.1 - xn K0) (2 * (xn res.2.1 - xn K0)) Q (F0 m pc ls1 [])) (ag_22 : Int32 → Int32 → PF → PG → PR) (hag_22 : ∀ (x1 : Int32) (x2 : Int32) (F : PF) (G : PG), ag_22 x1 x2 F G = some res → ∀ (b : Nat) (H : Heap) (locs : List Loc) (ls : Array Slot), cMW s A v a b K0 F G H locs → lv_has ls 3 [(0, .ref (a 210)), (1, .int x1), (2, .int x2)] → W p l e R s m args below meth c H locs (xn F - xn K0) (2 * (xn F - xn K0)) Q (F0 m 22 ls [])) (hagn_22 : ∀ (x1 : Int32) (x2 : Int32) (F : PF) (G : PG), ag_22 x1 x2 F G = some res → xn F ≤ xn res.2.1) (x2 : Int32) (z0 : Int32) (F : PF) (G : PG) (hm : cb_X10_scan_45 fu ag_22 x2 z0 F G = some res) {b : Nat} {H : Heap} {locs : List Loc} (hw : cMW s A v a b K0 F G H locs) {ls : Array Slot} (hl : lv_has ls 3 [(0, .ref (a 210)), (2, .int x2)]) : W p l e R s m args below meth c H locs (xn F - xn K0) (2 * (xn F - xn K0)) Q (F0 m 45 ls [.int z0]) := by
  have hx := C.1
  have hb := C.2.1
  unfold cb_X10_scan_45 at hm
  refine lv_istore_n (lv' := [(1, .int z0), (0, .ref (a 210)), (2, .int x2)]) hx hb dX10_scan_45 rfl hl (by decide) rfl (fun ls hl => ?_)
  refine lv_iload_n hx hb dX10_scan_46 rfl (lv_at hl 0 rfl) ?_
  refine lv_aload_n hx hb dX10_scan_47 rfl (lv_at hl 1 rfl) ?_
  refine cg_X10_33 C hw dX10_scan_48 ?_
  refine cg_X10_50 C hw dX10_scan_51 ?_
  refine lv_icmp_ge (tgt := 63) hx hb dX10_scan_54 (by decide) (fun c_1 => ?_) (fun c_1 => ?_)
  · have hm := (if_pos c_1).symm.trans hm
    exact cw_X10_scan_63 fu C hret ag_22 hag_22 hagn_22 z0 x2 F G hm hw (lv_sub hl [1, 0, 2] rfl)
  · have hm := (if_neg c_1).symm.trans hm
    exact cw_X10_scan_57 fu C hret ag_22 hag_22 hagn_22 z0 x2 F G hm hw (lv_sub hl [1, 0, 2] rfl)
theorem cn_X10_scan_40 (fu : Nat) {res : Int32 × PF × PG} (ag_22 : Int32 → Int32 → PF → PG → PR) (hagn_22 : ∀ (x1 : Int32) (x2 : Int32) (F : PF) (G : PG), ag_22 x1 x2 F G = some res → xn F ≤ xn res.2.1) (x1 : Int32) (x2 : Int32) (F : PF) (G : PG) (hm : cb_X10_scan_40 fu ag_22 x1 x2 F G = some res) : xn F ≤ xn res.2.1 := by
  unfold cb_X10_scan_40 at hm
  obtain ⟨⟨r1, F1, G1⟩, hc, hm⟩ := bind_elim hm
  exact Nat.le_trans (cn_X10_behindGap fu x1 F G _ hc) (cn_X10_scan_45 fu ag_22 hagn_22 x2 r1 F1 G1 hm)
theorem cw_X10_scan_40 (fu : Nat) {res : Int32 × PF × PG} (C : cMC p R s m args c A v RX10 cX10_scan 3 7 158 (xn res.2.1 - xn K0)) (hret : ∀ (b1 : Nat) (H1 : Heap) (locs1 : List Loc) (ls1 : Array Slot) (pc : Nat), cMW s A v a b1 K0 res.2.1 res.2.2 H1 locs1 → decode cX10_scan pc = .ok (.return_, 1) → W p l e R s m args below meth c H1 locs1 (xn res.2.1 - xn K0) (2 * (xn res.2.1 - xn K0)) Q (F0 m pc ls1 [])) (ag_22 : Int32 → Int32 → PF → PG → PR) (hag_22 : ∀ (x1 : Int32) (x2 : Int32) (F : PF) (G : PG), ag_22 x1 x2 F G = some res → ∀ (b : Nat) (H : Heap) (locs : List Loc) (ls : Array Slot), cMW s A v a b K0 F G H locs → lv_has ls 3 [(0, .ref (a 210)), (1, .int x1), (2, .int x2)] → W p l e R s m args below meth c H locs (xn F - xn K0) (2 * (xn F - xn K0)) Q (F0 m 22 ls [])) (hagn_22 : ∀ (x1 : Int32) (x2 : Int32) (F : PF) (G : PG), ag_22 x1 x2 F G = some res → xn F ≤ xn res.2.1) (x1 : Int32) (x2 : Int32) (F : PF) (G : PG) (hm : cb_X10_scan_40 fu ag_22 x1 x2 F G = some res) {b : Nat} {H : Heap} {locs : List Loc} (hw : cMW s A v a b K0 F G H locs) {ls : Array Slot} (hl : lv_has ls 3 [(0, .ref (a 210)), (1, .int x1), (2, .int x2)]) : W p l e R s m args below meth c H locs (xn F - xn K0) (2 * (xn F - xn K0)) Q (F0 m 40 ls []) := by
  have hx := C.1
  have hb := C.2.1
  unfold cb_X10_scan_40 at hm
  refine lv_aload_n hx hb dX10_scan_40 rfl (lv_at hl 0 rfl) ?_
  refine lv_iload_n hx hb dX10_scan_41 rfl (lv_at hl 1 rfl) ?_
  obtain ⟨⟨r1, F1, G1⟩, hc, hm⟩ := bind_elim hm
  refine ccallI (n := 1) (As := [.int x1]) (rest := []) C hw (ck_X10_behindGap l v a _ _ fu x1 F G r1 F1 G1 hc) (cn_X10_behindGap fu x1 F G _ hc) (Nat.sub_le_sub_right (cn_X10_scan_45 fu ag_22 hagn_22 x2 r1 F1 G1 hm) _) (crecv_X10 C hw) cm_57 cm_58 cm_59 cm_46 cm_60 (by decide +kernel) rfl (by omega) (by omega) hl.1 rfl (Nat.le_of_ble_eq_true rfl) dX10_scan_42 (fun b H locs hw => ?_)
  exact cw_X10_scan_45 fu C hret ag_22 hag_22 hagn_22 x2 r1 F1 G1 hm hw (lv_sub hl [0, 2] rfl)
theorem cn_X10_scan_29 (fu : Nat) {res : Int32 × PF × PG} (ag_22 : Int32 → Int32 → PF → PG → PR) (hagn_22 : ∀ (x1 : Int32) (x2 : Int32) (F : PF) (G : PG), ag_22 x1 x2 F G = some res → xn F ≤ xn res.2.1) (x1 : Int32) (x2 : Int32) (F : PF) (G : PG) (hm : cb_X10_scan_29 fu ag_22 x1 x2 F G = some res) : xn F ≤ xn res.2.1 := by
  unfold cb_X10_scan_29 at hm
  by_cases c_1 : (F 88) ≤ x1
  · have hm := (if_pos c_1).symm.trans hm
    exact (cn_X10_scan_75 fu F G hm)
  · have hm := (if_neg c_1).symm.trans hm
    exact (cn_X10_scan_40 fu ag_22 hagn_22 x1 x2 F G hm)
theorem cw_X10_scan_29 (fu : Nat) {res : Int32 × PF × PG} (C : cMC p R s m args c A v RX10 cX10_scan 3 7 158 (xn res.2.1 - xn K0)) (hret : ∀ (b1 : Nat) (H1 : Heap) (locs1 : List Loc) (ls1 : Array Slot) (pc : Nat), cMW s A v a b1 K0 res.2.1 res.2.2 H1 locs1 → decode cX10_scan pc = .ok (.return_, 1) → W p l e R s m args below meth c H1 locs1 (xn res.2.1 - xn K0) (2 * (xn res.2.1 - xn K0)) Q (F0 m pc ls1 [])) (ag_22 : Int32 → Int32 → PF → PG → PR) (hag_22 : ∀ (x1 : Int32) (x2 : Int32) (F : PF) (G : PG), ag_22 x1 x2 F G = some res → ∀ (b : Nat) (H : Heap) (locs : List Loc) (ls : Array Slot), cMW s A v a b K0 F G H locs → lv_has ls 3 [(0, .ref (a 210)), (1, .int x1), (2, .int x2)] → W p l e R s m args below meth c H locs (xn F - xn K0) (2 * (xn F - xn K0)) Q (F0 m 22 ls [])) (hagn_22 : ∀ (x1 : Int32) (x2 : Int32) (F : PF) (G : PG), ag_22 x1 x2 F G = some res → xn F ≤ xn res.2.1) (x1 : Int32) (x2 : Int32) (F : PF) (G : PG) (hm : cb_X10_scan_29 fu ag_22 x1 x2 F G = some res) {b : Nat} {H : Heap} {locs : List Loc} (hw : cMW s A v a b K0 F G H locs) {ls : Array Slot} (hl : lv_has ls 3 [(0, .ref (a 210)), (1, .int x1), (2, .int x2)]) : W p l e R s m args below meth c H locs (xn F - xn K0) (2 * (xn F - xn K0)) Q (F0 m 29 ls []) := by
  have hx := C.1
  have hb := C.2.1
  unfold cb_X10_scan_29 at hm
  refine lv_iload_n hx hb dX10_scan_29 rfl (lv_at hl 1 rfl) ?_
  refine lv_aload_n hx hb dX10_scan_30 rfl (lv_at hl 0 rfl) ?_
  refine cg_X10_33 C hw dX10_scan_31 ?_
  refine cg_X10_50 C hw dX10_scan_34 ?_
  refine lv_icmp_ge (tgt := 75) hx hb dX10_scan_37 (by decide) (fun c_1 => ?_) (fun c_1 => ?_)
  · have hm := (if_pos c_1).symm.trans hm
    exact cw_X10_scan_75 fu C hret F G hm hw (lv_sub hl [0] rfl)
  · have hm := (if_neg c_1).symm.trans hm
    exact cw_X10_scan_40 fu C hret ag_22 hag_22 hagn_22 x1 x2 F G hm hw (lv_sub hl [0, 1, 2] rfl)
theorem cn_X10_scan_22 (fu : Nat) {res : Int32 × PF × PG} (ag_22 : Int32 → Int32 → PF → PG → PR) (hagn_22 : ∀ (x1 : Int32) (x2 : Int32) (F : PF) (G : PG), ag_22 x1 x2 F G = some res → xn F ≤ xn res.2.1) (x1 : Int32) (x2 : Int32) (F : PF) (G : PG) (hm : cb_X10_scan_22 fu ag_22 x1 x2 F G = some res) : xn F ≤ xn res.2.1 := by
  unfold cb_X10_scan_22 at hm
  by_cases c_1 : (4001 : Int32) ≤ x2
  · have hm := (if_pos c_1).symm.trans hm
    exact (cn_X10_scan_75 fu F G hm)
  · have hm := (if_neg c_1).symm.trans hm
    exact (cn_X10_scan_29 fu ag_22 hagn_22 x1 x2 F G hm)
theorem cw_X10_scan_22 (fu : Nat) {res : Int32 × PF × PG} (C : cMC p R s m args c A v RX10 cX10_scan 3 7 158 (xn res.2.1 - xn K0)) (hret : ∀ (b1 : Nat) (H1 : Heap) (locs1 : List Loc) (ls1 : Array Slot) (pc : Nat), cMW s A v a b1 K0 res.2.1 res.2.2 H1 locs1 → decode cX10_scan pc = .ok (.return_, 1) → W p l e R s m args below meth c H1 locs1 (xn res.2.1 - xn K0) (2 * (xn res.2.1 - xn K0)) Q (F0 m pc ls1 [])) (ag_22 : Int32 → Int32 → PF → PG → PR) (hag_22 : ∀ (x1 : Int32) (x2 : Int32) (F : PF) (G : PG), ag_22 x1 x2 F G = some res → ∀ (b : Nat) (H : Heap) (locs : List Loc) (ls : Array Slot), cMW s A v a b K0 F G H locs → lv_has ls 3 [(0, .ref (a 210)), (1, .int x1), (2, .int x2)] → W p l e R s m args below meth c H locs (xn F - xn K0) (2 * (xn F - xn K0)) Q (F0 m 22 ls [])) (hagn_22 : ∀ (x1 : Int32) (x2 : Int32) (F : PF) (G : PG), ag_22 x1 x2 F G = some res → xn F ≤ xn res.2.1) (x1 : Int32) (x2 : Int32) (F : PF) (G : PG) (hm : cb_X10_scan_22 fu ag_22 x1 x2 F G = some res) {b : Nat} {H : Heap} {locs : List Loc} (hw : cMW s A v a b K0 F G H locs) {ls : Array Slot} (hl : lv_has ls 3 [(0, .ref (a 210)), (1, .int x1), (2, .int x2)]) : W p l e R s m args below meth c H locs (xn F - xn K0) (2 * (xn F - xn K0)) Q (F0 m 22 ls []) := by
  have hx := C.1
  have hb := C.2.1
  unfold cb_X10_scan_22 at hm
  refine lv_iload_n hx hb dX10_scan_22 rfl (lv_at hl 2 rfl) ?_
  refine lv_sipush (v := 4001) hx hb dX10_scan_23 (by decide) ?_
  refine lv_icmp_ge (tgt := 75) hx hb dX10_scan_26 (by decide) (fun c_1 => ?_) (fun c_1 => ?_)
  · have hm := (if_pos c_1).symm.trans hm
    exact cw_X10_scan_75 fu C hret F G hm hw (lv_sub hl [0] rfl)
  · have hm := (if_neg c_1).symm.trans hm
    exact cw_X10_scan_29 fu C hret ag_22 hag_22 hagn_22 x1 x2 F G hm hw (lv_sub hl [0, 1, 2] rfl)
theorem cnl_X10_scan_22 (fu : Nat) {res : Int32 × PF × PG} : ∀ (n : Nat) (x1 : Int32) (x2 : Int32) (F : PF) (G : PG) (hm : cl_X10_scan_22 fu n x1 x2 F G = some res), xn F ≤ xn res.2.1 := by
  intro n
  induction n with
  | zero =>
    intro x1 x2 F G hm
    exact no_elim (show (none : PR) = some res from hm)
  | succ n ih =>
    intro x1 x2 F G hm
    exact cn_X10_scan_22 fu (cl_X10_scan_22 fu n) (fun x1 x2 F G hm => ih x1 x2 F G hm) x1 x2 F G hm
theorem cwl_X10_scan_22 (fu : Nat) {res : Int32 × PF × PG} (C : cMC p R s m args c A v RX10 cX10_scan 3 7 158 (xn res.2.1 - xn K0)) (hret : ∀ (b1 : Nat) (H1 : Heap) (locs1 : List Loc) (ls1 : Array Slot) (pc : Nat), cMW s A v a b1 K0 res.2.1 res.2.2 H1 locs1 → decode cX10_scan pc = .ok (.return_, 1) → W p l e R s m args below meth c H1 locs1 (xn res.2.1 - xn K0) (2 * (xn res.2.1 - xn K0)) Q (F0 m pc ls1 [])) : ∀ (n : Nat) (x1 : Int32) (x2 : Int32) (F : PF) (G : PG) (hm : cl_X10_scan_22 fu n x1 x2 F G = some res) {b : Nat} {H : Heap} {locs : List Loc} (hw : cMW s A v a b K0 F G H locs) {ls : Array Slot} (hl : lv_has ls 3 [(0, .ref (a 210)), (1, .int x1), (2, .int x2)]), W p l e R s m args below meth c H locs (xn F - xn K0) (2 * (xn F - xn K0)) Q (F0 m 22 ls []) := by
  intro n
  induction n with
  | zero =>
    intro x1 x2 F G hm
    exact no_elim (show (none : PR) = some res from hm)
  | succ n ih =>
    intro x1 x2 F G hm b H locs hw ls hl
    exact cw_X10_scan_22 fu C hret (cl_X10_scan_22 fu n) (fun x1 x2 F G hm b H locs ls hw hl => ih x1 x2 F G hm hw hl) (fun x1 x2 F G hm => cnl_X10_scan_22 fu n x1 x2 F G hm) x1 x2 F G hm hw hl
theorem cn_X10_scan_18 (fu : Nat) {res : Int32 × PF × PG} (F : PF) (G : PG) (hm : cb_X10_scan_18 fu F G = some res) : xn F ≤ xn res.2.1 := by
  unfold cb_X10_scan_18 at hm
  exact (cnl_X10_scan_22 fu fu 0 0 F G hm)
theorem cw_X10_scan_18 (fu : Nat) {res : Int32 × PF × PG} (C : cMC p R s m args c A v RX10 cX10_scan 3 7 158 (xn res.2.1 - xn K0)) (hret : ∀ (b1 : Nat) (H1 : Heap) (locs1 : List Loc) (ls1 : Array Slot) (pc : Nat), cMW s A v a b1 K0 res.2.1 res.2.2 H1 locs1 → decode cX10_scan pc = .ok (.return_, 1) → W p l e R s m args below meth c H1 locs1 (xn res.2.1 - xn K0) (2 * (xn res.2.1 - xn K0)) Q (F0 m pc ls1 [])) (F : PF) (G : PG) (hm : cb_X10_scan_18 fu F G = some res) {b : Nat} {H : Heap} {locs : List Loc} (hw : cMW s A v a b K0 F G H locs) {ls : Array Slot} (hl : lv_has ls 3 [(0, .ref (a 210))]) : W p l e R s m args below meth c H locs (xn F - xn K0) (2 * (xn F - xn K0)) Q (F0 m 18 ls []) := by
  have hx := C.1
  have hb := C.2.1
  unfold cb_X10_scan_18 at hm
  refine lv_iconst (v := 0) hx hb dX10_scan_18 (by decide) ?_
  refine lv_istore_n (lv' := [(1, .int 0), (0, .ref (a 210))]) hx hb dX10_scan_19 rfl hl (by decide) rfl (fun ls hl => ?_)
  refine lv_iconst (v := 0) hx hb dX10_scan_20 (by decide) ?_
  refine lv_istore_n (lv' := [(2, .int 0), (1, .int 0), (0, .ref (a 210))]) hx hb dX10_scan_21 rfl hl (by decide) rfl (fun ls hl => ?_)
  exact cwl_X10_scan_22 fu C hret fu 0 0 F G hm hw (lv_sub hl [2, 1, 0] rfl)
theorem cn_X10_scan_10 (fu : Nat) {res : Int32 × PF × PG} (F : PF) (G : PG) (hm : cb_X10_scan_10 fu F G = some res) : xn F ≤ xn res.2.1 := by
  unfold cb_X10_scan_10 at hm
  obtain ⟨⟨r1, F1, G1⟩, hc, hm⟩ := bind_elim hm
  exact Nat.le_trans (cn_fill_94 fu (-1) F G _ hc) (cn_X10_scan_18 fu F1 G1 hm)
theorem cw_X10_scan_10 (fu : Nat) {res : Int32 × PF × PG} (C : cMC p R s m args c A v RX10 cX10_scan 3 7 158 (xn res.2.1 - xn K0)) (hret : ∀ (b1 : Nat) (H1 : Heap) (locs1 : List Loc) (ls1 : Array Slot) (pc : Nat), cMW s A v a b1 K0 res.2.1 res.2.2 H1 locs1 → decode cX10_scan pc = .ok (.return_, 1) → W p l e R s m args below meth c H1 locs1 (xn res.2.1 - xn K0) (2 * (xn res.2.1 - xn K0)) Q (F0 m pc ls1 [])) (F : PF) (G : PG) (hm : cb_X10_scan_10 fu F G = some res) {b : Nat} {H : Heap} {locs : List Loc} (hw : cMW s A v a b K0 F G H locs) {ls : Array Slot} (hl : lv_has ls 3 [(0, .ref (a 210))]) : W p l e R s m args below meth c H locs (xn F - xn K0) (2 * (xn F - xn K0)) Q (F0 m 10 ls []) := by
  have hx := C.1
  have hb := C.2.1
  unfold cb_X10_scan_10 at hm
  refine lv_aload_n hx hb dX10_scan_10 rfl (lv_at hl 0 rfl) ?_
  refine cg_X10_21 C hw dX10_scan_11 ?_
  refine lv_iconst (v := (-1)) hx hb dX10_scan_14 (by decide) ?_
  obtain ⟨⟨r1, F1, G1⟩, hc, hm⟩ := bind_elim hm
  refine ccallVS (n := 2) (As := [.ref (a 94), .int (-1)]) (rest := []) C hw (ck_fill_94 l v a _ _ fu (-1) F G r1 F1 G1 hc) (cn_fill_94 fu (-1) F G _ hc) (Nat.sub_le_sub_right (cn_X10_scan_18 fu F1 G1 hm) _) cm_53 cm_54 cm_55 cm_56 (by decide +kernel) rfl (by omega) (by omega) hl.1 rfl (Nat.le_of_ble_eq_true rfl) dX10_scan_15 (fun b H locs hw => ?_)
  exact cw_X10_scan_18 fu C hret F1 G1 hm hw (lv_sub hl [0] rfl)
theorem cn_X10_scan_5 (fu : Nat) {res : Int32 × PF × PG} (F : PF) (G : PG) (hm : cb_X10_scan_5 fu F G = some res) : xn F ≤ xn res.2.1 := by
  unfold cb_X10_scan_5 at hm
  exact Nat.le_trans (Nat.le_of_eq (xn_fup (by decide)).symm) (cn_X10_scan_10 fu (fup F 98 (0 : Int32)) G hm)
theorem cw_X10_scan_5 (fu : Nat) {res : Int32 × PF × PG} (C : cMC p R s m args c A v RX10 cX10_scan 3 7 158 (xn res.2.1 - xn K0)) (hret : ∀ (b1 : Nat) (H1 : Heap) (locs1 : List Loc) (ls1 : Array Slot) (pc : Nat), cMW s A v a b1 K0 res.2.1 res.2.2 H1 locs1 → decode cX10_scan pc = .ok (.return_, 1) → W p l e R s m args below meth c H1 locs1 (xn res.2.1 - xn K0) (2 * (xn res.2.1 - xn K0)) Q (F0 m pc ls1 [])) (F : PF) (G : PG) (hm : cb_X10_scan_5 fu F G = some res) {b : Nat} {H : Heap} {locs : List Loc} (hw : cMW s A v a b K0 F G H locs) {ls : Array Slot} (hl : lv_has ls 3 [(0, .ref (a 210))]) : W p l e R s m args below meth c H locs (xn F - xn K0) (2 * (xn F - xn K0)) Q (F0 m 5 ls []) := by
  have hx := C.1
  have hb := C.2.1
  unfold cb_X10_scan_5 at hm
  refine lv_aload_n hx hb dX10_scan_5 rfl (lv_at hl 0 rfl) ?_
  refine lv_iconst (v := 0) hx hb dX10_scan_6 (by decide) ?_
  refine cp_X10_41 C hw dX10_scan_7 (fun H locs hw => ?_)
  exact cw_X10_scan_10 fu C hret (fup F 98 (0 : Int32)) G hm hw (lv_sub hl [0] rfl)
theorem cn_X10_scan_0 (fu : Nat) {res : Int32 × PF × PG} (F : PF) (G : PG) (hm : cb_X10_scan_0 fu F G = some res) : xn F ≤ xn res.2.1 := by
  unfold cb_X10_scan_0 at hm
  exact Nat.le_trans (Nat.le_of_eq (xn_fup (by decide)).symm) (cn_X10_scan_5 fu (fup F 93 (0 : Int32)) G hm)
theorem cw_X10_scan_0 (fu : Nat) {res : Int32 × PF × PG} (C : cMC p R s m args c A v RX10 cX10_scan 3 7 158 (xn res.2.1 - xn K0)) (hret : ∀ (b1 : Nat) (H1 : Heap) (locs1 : List Loc) (ls1 : Array Slot) (pc : Nat), cMW s A v a b1 K0 res.2.1 res.2.2 H1 locs1 → decode cX10_scan pc = .ok (.return_, 1) → W p l e R s m args below meth c H1 locs1 (xn res.2.1 - xn K0) (2 * (xn res.2.1 - xn K0)) Q (F0 m pc ls1 [])) (F : PF) (G : PG) (hm : cb_X10_scan_0 fu F G = some res) {b : Nat} {H : Heap} {locs : List Loc} (hw : cMW s A v a b K0 F G H locs) {ls : Array Slot} (hl : lv_has ls 3 [(0, .ref (a 210))]) : W p l e R s m args below meth c H locs (xn F - xn K0) (2 * (xn F - xn K0)) Q (F0 m 0 ls []) := by
  have hx := C.1
  have hb := C.2.1
  unfold cb_X10_scan_0 at hm
  refine lv_aload_n hx hb dX10_scan_0 rfl (lv_at hl 0 rfl) ?_
  refine lv_iconst (v := 0) hx hb dX10_scan_1 (by decide) ?_
  refine cp_X10_37 C hw dX10_scan_2 (fun H locs hw => ?_)
  exact cw_X10_scan_5 fu C hret (fup F 93 (0 : Int32)) G hm hw (lv_sub hl [0] rfl)
theorem cn_X10_scan (fu : Nat) (F : PF) (G : PG) (q : Int32 × PF × PG) (hm : cf_X10_scan fu F G = some q) : xn F ≤ xn q.2.1 := cn_X10_scan_0 fu F G hm
theorem ck_X10_scan (l : Launch) (v : EV) (a : Nat → Nat) (b sz : Nat) (fu : Nat) (F : PF) (G : PG) (r : Int32) (F1 : PF) (G1 : PG) (hm : cf_X10_scan fu F G = some (r, F1, G1)) : cMV l yX10_scan cX10_scan 3 7 158 v a b sz [.ref (a 210)] F G F1 G1 := cMV.of (by decide) (Nat.le_of_ble_eq_true rfl) (fun p e R s m args below meth c Q A H locs ls C hw hl hret => cw_X10_scan_0 fu (res := (r, F1, G1)) C hret F G hm hw hl)
def cb_X10_mainId_100 (fu : Nat) (x1 : Int32) (F : PF) (G : PG) : PR := some (x1, F, G)
def cb_X10_mainId_94 (fu : Nat) (ag_4 : Int32 → Int32 → PF → PG → PR) (x1 : Int32) (x2 : Int32) (F : PF) (G : PG) : PR := ag_4 x1 (x2 + 1) F G
def cb_X10_mainId_92 (fu : Nat) (ag_4 : Int32 → Int32 → PF → PG → PR) (x2 : Int32) (F : PF) (G : PG) : PR := cb_X10_mainId_94 fu ag_4 x2 x2 F G
def cb_X10_mainId_87 (fu : Nat) (ag_4 : Int32 → Int32 → PF → PG → PR) (x1 : Int32) (x2 : Int32) (z0 : Int32) (F : PF) (G : PG) : PR := if z0 = (110 : Int32) then cb_X10_mainId_92 fu ag_4 x2 F G else cb_X10_mainId_94 fu ag_4 x1 x2 F G
def cb_X10_mainId_77 (fu : Nat) (ag_4 : Int32 → Int32 → PF → PG → PR) (x1 : Int32) (x2 : Int32) (x3 : Int32) (F : PF) (G : PG) : PR := (cf_X9_at fu (x3 + (3 : Int32)) F G).bind (fun q => cb_X10_mainId_87 fu ag_4 x1 x2 q.1 q.2.1 q.2.2)
def cb_X10_mainId_72 (fu : Nat) (ag_4 : Int32 → Int32 → PF → PG → PR) (x1 : Int32) (x2 : Int32) (x3 : Int32) (z0 : Int32) (F : PF) (G : PG) : PR := if z0 = (105 : Int32) then cb_X10_mainId_77 fu ag_4 x1 x2 x3 F G else cb_X10_mainId_94 fu ag_4 x1 x2 F G
def cb_X10_mainId_62 (fu : Nat) (ag_4 : Int32 → Int32 → PF → PG → PR) (x1 : Int32) (x2 : Int32) (x3 : Int32) (F : PF) (G : PG) : PR := (cf_X9_at fu (x3 + (2 : Int32)) F G).bind (fun q => cb_X10_mainId_72 fu ag_4 x1 x2 x3 q.1 q.2.1 q.2.2)
def cb_X10_mainId_57 (fu : Nat) (ag_4 : Int32 → Int32 → PF → PG → PR) (x1 : Int32) (x2 : Int32) (x3 : Int32) (z0 : Int32) (F : PF) (G : PG) : PR := if z0 = (97 : Int32) then cb_X10_mainId_62 fu ag_4 x1 x2 x3 F G else cb_X10_mainId_94 fu ag_4 x1 x2 F G
def cb_X10_mainId_47 (fu : Nat) (ag_4 : Int32 → Int32 → PF → PG → PR) (x1 : Int32) (x2 : Int32) (x3 : Int32) (F : PF) (G : PG) : PR := (cf_X9_at fu (x3 + (1 : Int32)) F G).bind (fun q => cb_X10_mainId_57 fu ag_4 x1 x2 x3 q.1 q.2.1 q.2.2)
def cb_X10_mainId_42 (fu : Nat) (ag_4 : Int32 → Int32 → PF → PG → PR) (x1 : Int32) (x2 : Int32) (x3 : Int32) (z0 : Int32) (F : PF) (G : PG) : PR := if z0 = (109 : Int32) then cb_X10_mainId_47 fu ag_4 x1 x2 x3 F G else cb_X10_mainId_94 fu ag_4 x1 x2 F G
def cb_X10_mainId_34 (fu : Nat) (ag_4 : Int32 → Int32 → PF → PG → PR) (x1 : Int32) (x2 : Int32) (x3 : Int32) (F : PF) (G : PG) : PR := (cf_X9_at fu x3 F G).bind (fun q => cb_X10_mainId_42 fu ag_4 x1 x2 x3 q.1 q.2.1 q.2.2)
def cb_X10_mainId_17 (fu : Nat) (ag_4 : Int32 → Int32 → PF → PG → PR) (x1 : Int32) (x2 : Int32) (F : PF) (G : PG) : PR := if ixb x2 1408 = true then (if ixb x2 1408 = true then (if (G 97 x2.toNatClampNeg) = (4 : Int32) then cb_X10_mainId_34 fu ag_4 x1 x2 (G 96 x2.toNatClampNeg) F G else cb_X10_mainId_94 fu ag_4 x1 x2 F G) else none) else none
def cb_X10_mainId_12 (fu : Nat) (ag_4 : Int32 → Int32 → PF → PG → PR) (x1 : Int32) (x2 : Int32) (F : PF) (G : PG) : PR := if x1 = (-1 : Int32) then cb_X10_mainId_17 fu ag_4 x1 x2 F G else cb_X10_mainId_100 fu x1 F G
def cb_X10_mainId_4 (fu : Nat) (ag_4 : Int32 → Int32 → PF → PG → PR) (x1 : Int32) (x2 : Int32) (F : PF) (G : PG) : PR := if (F 98) ≤ x2 then cb_X10_mainId_100 fu x1 F G else cb_X10_mainId_12 fu ag_4 x1 x2 F G
def cl_X10_mainId_4 (fu : Nat) : Nat → Int32 → Int32 → PF → PG → PR
  | 0 => fun _ _ _ _ => none
  | n + 1 => fun x1 x2 F G => cb_X10_mainId_4 fu (cl_X10_mainId_4 fu n) x1 x2 F G
def cb_X10_mainId_0 (fu : Nat) (F : PF) (G : PG) : PR := cl_X10_mainId_4 fu fu (-1) 0 F G
def cf_X10_mainId (fu : Nat) (F : PF) (G : PG) : PR := cb_X10_mainId_0 fu F G
theorem cn_X10_mainId_100 (fu : Nat) {res : Int32 × PF × PG} (x1 : Int32) (F : PF) (G : PG) (hm : cb_X10_mainId_100 fu x1 F G = some res) : xn F ≤ xn res.2.1 := by
  unfold cb_X10_mainId_100 at hm
  obtain rfl := Option.some.inj hm
  exact Nat.le_refl _
theorem cw_X10_mainId_100 (fu : Nat) {res : Int32 × PF × PG} (C : cMC p R s m args c A v RX10 cX10_mainId 4 1 21 (xn res.2.1 - xn K0)) (hret : ∀ (b1 : Nat) (H1 : Heap) (locs1 : List Loc) (ls1 : Array Slot) (pc : Nat), cMW s A v a b1 K0 res.2.1 res.2.2 H1 locs1 → narrow .int (.int res.1) = .int res.1 → decode cX10_mainId pc = .ok (.ireturn, 1) → W p l e R s m args below meth c H1 locs1 (xn res.2.1 - xn K0) (2 * (xn res.2.1 - xn K0)) Q (F0 m pc ls1 [.int res.1])) (x1 : Int32) (F : PF) (G : PG) (hm : cb_X10_mainId_100 fu x1 F G = some res) {b : Nat} {H : Heap} {locs : List Loc} (hw : cMW s A v a b K0 F G H locs) {ls : Array Slot} (hl : lv_has ls 4 [(1, .int x1)]) : W p l e R s m args below meth c H locs (xn F - xn K0) (2 * (xn F - xn K0)) Q (F0 m 100 ls []) := by
  have hx := C.1
  have hb := C.2.1
  unfold cb_X10_mainId_100 at hm
  refine lv_iload_n hx hb dX10_mainId_100 rfl (lv_at hl 0 rfl) ?_
  obtain rfl := Option.some.inj hm
  exact hret _ _ _ _ _ hw rfl dX10_mainId_101
theorem cn_X10_mainId_94 (fu : Nat) {res : Int32 × PF × PG} (ag_4 : Int32 → Int32 → PF → PG → PR) (hagn_4 : ∀ (x1 : Int32) (x2 : Int32) (F : PF) (G : PG), ag_4 x1 x2 F G = some res → xn F ≤ xn res.2.1) (x1 : Int32) (x2 : Int32) (F : PF) (G : PG) (hm : cb_X10_mainId_94 fu ag_4 x1 x2 F G = some res) : xn F ≤ xn res.2.1 := by
  unfold cb_X10_mainId_94 at hm
  exact (hagn_4 x1 (x2 + 1) F G hm)
theorem cw_X10_mainId_94 (fu : Nat) {res : Int32 × PF × PG} (C : cMC p R s m args c A v RX10 cX10_mainId 4 1 21 (xn res.2.1 - xn K0)) (hret : ∀ (b1 : Nat) (H1 : Heap) (locs1 : List Loc) (ls1 : Array Slot) (pc : Nat), cMW s A v a b1 K0 res.2.1 res.2.2 H1 locs1 → narrow .int (.int res.1) = .int res.1 → decode cX10_mainId pc = .ok (.ireturn, 1) → W p l e R s m args below meth c H1 locs1 (xn res.2.1 - xn K0) (2 * (xn res.2.1 - xn K0)) Q (F0 m pc ls1 [.int res.1])) (ag_4 : Int32 → Int32 → PF → PG → PR) (hag_4 : ∀ (x1 : Int32) (x2 : Int32) (F : PF) (G : PG), ag_4 x1 x2 F G = some res → ∀ (b : Nat) (H : Heap) (locs : List Loc) (ls : Array Slot), cMW s A v a b K0 F G H locs → lv_has ls 4 [(0, .ref (a 210)), (1, .int x1), (2, .int x2)] → W p l e R s m args below meth c H locs (xn F - xn K0) (2 * (xn F - xn K0)) Q (F0 m 4 ls [])) (hagn_4 : ∀ (x1 : Int32) (x2 : Int32) (F : PF) (G : PG), ag_4 x1 x2 F G = some res → xn F ≤ xn res.2.1) (x1 : Int32) (x2 : Int32) (F : PF) (G : PG) (hm : cb_X10_mainId_94 fu ag_4 x1 x2 F G = some res) {b : Nat} {H : Heap} {locs : List Loc} (hw : cMW s A v a b K0 F G H locs) {ls : Array Slot} (hl : lv_has ls 4 [(0, .ref (a 210)), (1, .int x1), (2, .int x2)]) : W p l e R s m args below meth c H locs (xn F - xn K0) (2 * (xn F - xn K0)) Q (F0 m 94 ls []) := by
  have hx := C.1
  have hb := C.2.1
  unfold cb_X10_mainId_94 at hm
  refine lv_iinc (v := (x2 + 1)) (lv' := [(2, .int (x2 + 1)), (0, .ref (a 210)), (1, .int x1)]) hx hb dX10_mainId_94 hl (k := 2) rfl (by rfl) (by decide) rfl (fun ls hl => ?_)
  refine lv_goto (tgt := 4) hx hb dX10_mainId_97 (by decide) ?_
  exact hag_4 x1 (x2 + 1) F G hm _ _ _ _ hw (lv_sub hl [1, 2, 0] rfl)
theorem cn_X10_mainId_92 (fu : Nat) {res : Int32 × PF × PG} (ag_4 : Int32 → Int32 → PF → PG → PR) (hagn_4 : ∀ (x1 : Int32) (x2 : Int32) (F : PF) (G : PG), ag_4 x1 x2 F G = some res → xn F ≤ xn res.2.1) (x2 : Int32) (F : PF) (G : PG) (hm : cb_X10_mainId_92 fu ag_4 x2 F G = some res) : xn F ≤ xn res.2.1 := by
  unfold cb_X10_mainId_92 at hm
  exact (cn_X10_mainId_94 fu ag_4 hagn_4 x2 x2 F G hm)
theorem cw_X10_mainId_92 (fu : Nat) {res : Int32 × PF × PG} (C : cMC p R s m args c A v RX10 cX10_mainId 4 1 21 (xn res.2.1 - xn K0)) (hret : ∀ (b1 : Nat) (H1 : Heap) (locs1 : List Loc) (ls1 : Array Slot) (pc : Nat), cMW s A v a b1 K0 res.2.1 res.2.2 H1 locs1 → narrow .int (.int res.1) = .int res.1 → decode cX10_mainId pc = .ok (.ireturn, 1) → W p l e R s m args below meth c H1 locs1 (xn res.2.1 - xn K0) (2 * (xn res.2.1 - xn K0)) Q (F0 m pc ls1 [.int res.1])) (ag_4 : Int32 → Int32 → PF → PG → PR) (hag_4 : ∀ (x1 : Int32) (x2 : Int32) (F : PF) (G : PG), ag_4 x1 x2 F G = some res → ∀ (b : Nat) (H : Heap) (locs : List Loc) (ls : Array Slot), cMW s A v a b K0 F G H locs → lv_has ls 4 [(0, .ref (a 210)), (1, .int x1), (2, .int x2)] → W p l e R s m args below meth c H locs (xn F - xn K0) (2 * (xn F - xn K0)) Q (F0 m 4 ls [])) (hagn_4 : ∀ (x1 : Int32) (x2 : Int32) (F : PF) (G : PG), ag_4 x1 x2 F G = some res → xn F ≤ xn res.2.1) (x2 : Int32) (F : PF) (G : PG) (hm : cb_X10_mainId_92 fu ag_4 x2 F G = some res) {b : Nat} {H : Heap} {locs : List Loc} (hw : cMW s A v a b K0 F G H locs) {ls : Array Slot} (hl : lv_has ls 4 [(0, .ref (a 210)), (2, .int x2)]) : W p l e R s m args below meth c H locs (xn F - xn K0) (2 * (xn F - xn K0)) Q (F0 m 92 ls []) := by
  have hx := C.1
  have hb := C.2.1
  unfold cb_X10_mainId_92 at hm
  refine lv_iload_n hx hb dX10_mainId_92 rfl (lv_at hl 1 rfl) ?_
  refine lv_istore_n (lv' := [(1, .int x2), (0, .ref (a 210)), (2, .int x2)]) hx hb dX10_mainId_93 rfl hl (by decide) rfl (fun ls hl => ?_)
  exact cw_X10_mainId_94 fu C hret ag_4 hag_4 hagn_4 x2 x2 F G hm hw (lv_sub hl [1, 0, 2] rfl)
theorem cn_X10_mainId_87 (fu : Nat) {res : Int32 × PF × PG} (ag_4 : Int32 → Int32 → PF → PG → PR) (hagn_4 : ∀ (x1 : Int32) (x2 : Int32) (F : PF) (G : PG), ag_4 x1 x2 F G = some res → xn F ≤ xn res.2.1) (x1 : Int32) (x2 : Int32) (z0 : Int32) (F : PF) (G : PG) (hm : cb_X10_mainId_87 fu ag_4 x1 x2 z0 F G = some res) : xn F ≤ xn res.2.1 := by
  unfold cb_X10_mainId_87 at hm
  by_cases c_1 : z0 = (110 : Int32)
  · have hm := (if_pos c_1).symm.trans hm
    exact (cn_X10_mainId_92 fu ag_4 hagn_4 x2 F G hm)
  · have hm := (if_neg c_1).symm.trans hm
    exact (cn_X10_mainId_94 fu ag_4 hagn_4 x1 x2 F G hm)
theorem cw_X10_mainId_87 (fu : Nat) {res : Int32 × PF × PG} (C : cMC p R s m args c A v RX10 cX10_mainId 4 1 21 (xn res.2.1 - xn K0)) (hret : ∀ (b1 : Nat) (H1 : Heap) (locs1 : List Loc) (ls1 : Array Slot) (pc : Nat), cMW s A v a b1 K0 res.2.1 res.2.2 H1 locs1 → narrow .int (.int res.1) = .int res.1 → decode cX10_mainId pc = .ok (.ireturn, 1) → W p l e R s m args below meth c H1 locs1 (xn res.2.1 - xn K0) (2 * (xn res.2.1 - xn K0)) Q (F0 m pc ls1 [.int res.1])) (ag_4 : Int32 → Int32 → PF → PG → PR) (hag_4 : ∀ (x1 : Int32) (x2 : Int32) (F : PF) (G : PG), ag_4 x1 x2 F G = some res → ∀ (b : Nat) (H : Heap) (locs : List Loc) (ls : Array Slot), cMW s A v a b K0 F G H locs → lv_has ls 4 [(0, .ref (a 210)), (1, .int x1), (2, .int x2)] → W p l e R s m args below meth c H locs (xn F - xn K0) (2 * (xn F - xn K0)) Q (F0 m 4 ls [])) (hagn_4 : ∀ (x1 : Int32) (x2 : Int32) (F : PF) (G : PG), ag_4 x1 x2 F G = some res → xn F ≤ xn res.2.1) (x1 : Int32) (x2 : Int32) (z0 : Int32) (F : PF) (G : PG) (hm : cb_X10_mainId_87 fu ag_4 x1 x2 z0 F G = some res) {b : Nat} {H : Heap} {locs : List Loc} (hw : cMW s A v a b K0 F G H locs) {ls : Array Slot} (hl : lv_has ls 4 [(0, .ref (a 210)), (1, .int x1), (2, .int x2)]) : W p l e R s m args below meth c H locs (xn F - xn K0) (2 * (xn F - xn K0)) Q (F0 m 87 ls [.int z0]) := by
  have hx := C.1
  have hb := C.2.1
  unfold cb_X10_mainId_87 at hm
  refine lv_bipush (v := 110) hx hb dX10_mainId_87 (by decide) ?_
  refine lv_icmp_ne (tgt := 94) hx hb dX10_mainId_89 (by decide) (fun c_1 => ?_) (fun c_1 => ?_)
  · have hm := (if_neg c_1).symm.trans hm
    exact cw_X10_mainId_94 fu C hret ag_4 hag_4 hagn_4 x1 x2 F G hm hw (lv_sub hl [0, 1, 2] rfl)
  · have hm := (if_pos c_1).symm.trans hm
    exact cw_X10_mainId_92 fu C hret ag_4 hag_4 hagn_4 x2 F G hm hw (lv_sub hl [0, 2] rfl)
theorem cn_X10_mainId_77 (fu : Nat) {res : Int32 × PF × PG} (ag_4 : Int32 → Int32 → PF → PG → PR) (hagn_4 : ∀ (x1 : Int32) (x2 : Int32) (F : PF) (G : PG), ag_4 x1 x2 F G = some res → xn F ≤ xn res.2.1) (x1 : Int32) (x2 : Int32) (x3 : Int32) (F : PF) (G : PG) (hm : cb_X10_mainId_77 fu ag_4 x1 x2 x3 F G = some res) : xn F ≤ xn res.2.1 := by
  unfold cb_X10_mainId_77 at hm
  obtain ⟨⟨r1, F1, G1⟩, hc, hm⟩ := bind_elim hm
  exact Nat.le_trans (cn_X9_at fu (x3 + (3 : Int32)) F G _ hc) (cn_X10_mainId_87 fu ag_4 hagn_4 x1 x2 r1 F1 G1 hm)
theorem cw_X10_mainId_77 (fu : Nat) {res : Int32 × PF × PG} (C : cMC p R s m args c A v RX10 cX10_mainId 4 1 21 (xn res.2.1 - xn K0)) (hret : ∀ (b1 : Nat) (H1 : Heap) (locs1 : List Loc) (ls1 : Array Slot) (pc : Nat), cMW s A v a b1 K0 res.2.1 res.2.2 H1 locs1 → narrow .int (.int res.1) = .int res.1 → decode cX10_mainId pc = .ok (.ireturn, 1) → W p l e R s m args below meth c H1 locs1 (xn res.2.1 - xn K0) (2 * (xn res.2.1 - xn K0)) Q (F0 m pc ls1 [.int res.1])) (ag_4 : Int32 → Int32 → PF → PG → PR) (hag_4 : ∀ (x1 : Int32) (x2 : Int32) (F : PF) (G : PG), ag_4 x1 x2 F G = some res → ∀ (b : Nat) (H : Heap) (locs : List Loc) (ls : Array Slot), cMW s A v a b K0 F G H locs → lv_has ls 4 [(0, .ref (a 210)), (1, .int x1), (2, .int x2)] → W p l e R s m args below meth c H locs (xn F - xn K0) (2 * (xn F - xn K0)) Q (F0 m 4 ls [])) (hagn_4 : ∀ (x1 : Int32) (x2 : Int32) (F : PF) (G : PG), ag_4 x1 x2 F G = some res → xn F ≤ xn res.2.1) (x1 : Int32) (x2 : Int32) (x3 : Int32) (F : PF) (G : PG) (hm : cb_X10_mainId_77 fu ag_4 x1 x2 x3 F G = some res) {b : Nat} {H : Heap} {locs : List Loc} (hw : cMW s A v a b K0 F G H locs) {ls : Array Slot} (hl : lv_has ls 4 [(0, .ref (a 210)), (1, .int x1), (2, .int x2), (3, .int x3)]) : W p l e R s m args below meth c H locs (xn F - xn K0) (2 * (xn F - xn K0)) Q (F0 m 77 ls []) := by
  have hx := C.1
  have hb := C.2.1
  unfold cb_X10_mainId_77 at hm
  refine lv_aload_n hx hb dX10_mainId_77 rfl (lv_at hl 0 rfl) ?_
  refine cg_X10_33 C hw dX10_mainId_78 ?_
  refine lv_iload_n hx hb dX10_mainId_81 rfl (lv_at hl 3 rfl) ?_
  refine lv_iconst (v := 3) hx hb dX10_mainId_82 (by decide) ?_
  refine lv_iadd hx hb dX10_mainId_83 ?_
  obtain ⟨⟨r1, F1, G1⟩, hc, hm⟩ := bind_elim hm
  refine ccallI (n := 1) (As := [.int (x3 + (3 : Int32))]) (rest := []) C hw (ck_X9_at l v a _ _ fu (x3 + (3 : Int32)) F G r1 F1 G1 hc) (cn_X9_at fu (x3 + (3 : Int32)) F G _ hc) (Nat.sub_le_sub_right (cn_X10_mainId_87 fu ag_4 hagn_4 x1 x2 r1 F1 G1 hm) _) (crecv_X9 C hw) cm_61 cm_62 cm_63 cm_6 cm_64 (by decide +kernel) rfl (by omega) (by omega) hl.1 rfl (Nat.le_of_ble_eq_true rfl) dX10_mainId_84 (fun b H locs hw => ?_)
  exact cw_X10_mainId_87 fu C hret ag_4 hag_4 hagn_4 x1 x2 r1 F1 G1 hm hw (lv_sub hl [0, 1, 2] rfl)
theorem cn_X10_mainId_72 (fu : Nat) {res : Int32 × PF × PG} (ag_4 : Int32 → Int32 → PF → PG → PR) (hagn_4 : ∀ (x1 : Int32) (x2 : Int32) (F : PF) (G : PG), ag_4 x1 x2 F G = some res → xn F ≤ xn res.2.1) (x1 : Int32) (x2 : Int32) (x3 : Int32) (z0 : Int32) (F : PF) (G : PG) (hm : cb_X10_mainId_72 fu ag_4 x1 x2 x3 z0 F G = some res) : xn F ≤ xn res.2.1 := by
  unfold cb_X10_mainId_72 at hm
  by_cases c_1 : z0 = (105 : Int32)
  · have hm := (if_pos c_1).symm.trans hm
    exact (cn_X10_mainId_77 fu ag_4 hagn_4 x1 x2 x3 F G hm)
  · have hm := (if_neg c_1).symm.trans hm
    exact (cn_X10_mainId_94 fu ag_4 hagn_4 x1 x2 F G hm)
theorem cw_X10_mainId_72 (fu : Nat) {res : Int32 × PF × PG} (C : cMC p R s m args c A v RX10 cX10_mainId 4 1 21 (xn res.2.1 - xn K0)) (hret : ∀ (b1 : Nat) (H1 : Heap) (locs1 : List Loc) (ls1 : Array Slot) (pc : Nat), cMW s A v a b1 K0 res.2.1 res.2.2 H1 locs1 → narrow .int (.int res.1) = .int res.1 → decode cX10_mainId pc = .ok (.ireturn, 1) → W p l e R s m args below meth c H1 locs1 (xn res.2.1 - xn K0) (2 * (xn res.2.1 - xn K0)) Q (F0 m pc ls1 [.int res.1])) (ag_4 : Int32 → Int32 → PF → PG → PR) (hag_4 : ∀ (x1 : Int32) (x2 : Int32) (F : PF) (G : PG), ag_4 x1 x2 F G = some res → ∀ (b : Nat) (H : Heap) (locs : List Loc) (ls : Array Slot), cMW s A v a b K0 F G H locs → lv_has ls 4 [(0, .ref (a 210)), (1, .int x1), (2, .int x2)] → W p l e R s m args below meth c H locs (xn F - xn K0) (2 * (xn F - xn K0)) Q (F0 m 4 ls [])) (hagn_4 : ∀ (x1 : Int32) (x2 : Int32) (F : PF) (G : PG), ag_4 x1 x2 F G = some res → xn F ≤ xn res.2.1) (x1 : Int32) (x2 : Int32) (x3 : Int32) (z0 : Int32) (F : PF) (G : PG) (hm : cb_X10_mainId_72 fu ag_4 x1 x2 x3 z0 F G = some res) {b : Nat} {H : Heap} {locs : List Loc} (hw : cMW s A v a b K0 F G H locs) {ls : Array Slot} (hl : lv_has ls 4 [(0, .ref (a 210)), (1, .int x1), (2, .int x2), (3, .int x3)]) : W p l e R s m args below meth c H locs (xn F - xn K0) (2 * (xn F - xn K0)) Q (F0 m 72 ls [.int z0]) := by
  have hx := C.1
  have hb := C.2.1
  unfold cb_X10_mainId_72 at hm
  refine lv_bipush (v := 105) hx hb dX10_mainId_72 (by decide) ?_
  refine lv_icmp_ne (tgt := 94) hx hb dX10_mainId_74 (by decide) (fun c_1 => ?_) (fun c_1 => ?_)
  · have hm := (if_neg c_1).symm.trans hm
    exact cw_X10_mainId_94 fu C hret ag_4 hag_4 hagn_4 x1 x2 F G hm hw (lv_sub hl [0, 1, 2] rfl)
  · have hm := (if_pos c_1).symm.trans hm
    exact cw_X10_mainId_77 fu C hret ag_4 hag_4 hagn_4 x1 x2 x3 F G hm hw (lv_sub hl [0, 1, 2, 3] rfl)
theorem cn_X10_mainId_62 (fu : Nat) {res : Int32 × PF × PG} (ag_4 : Int32 → Int32 → PF → PG → PR) (hagn_4 : ∀ (x1 : Int32) (x2 : Int32) (F : PF) (G : PG), ag_4 x1 x2 F G = some res → xn F ≤ xn res.2.1) (x1 : Int32) (x2 : Int32) (x3 : Int32) (F : PF) (G : PG) (hm : cb_X10_mainId_62 fu ag_4 x1 x2 x3 F G = some res) : xn F ≤ xn res.2.1 := by
  unfold cb_X10_mainId_62 at hm
  obtain ⟨⟨r1, F1, G1⟩, hc, hm⟩ := bind_elim hm
  exact Nat.le_trans (cn_X9_at fu (x3 + (2 : Int32)) F G _ hc) (cn_X10_mainId_72 fu ag_4 hagn_4 x1 x2 x3 r1 F1 G1 hm)
theorem cw_X10_mainId_62 (fu : Nat) {res : Int32 × PF × PG} (C : cMC p R s m args c A v RX10 cX10_mainId 4 1 21 (xn res.2.1 - xn K0)) (hret : ∀ (b1 : Nat) (H1 : Heap) (locs1 : List Loc) (ls1 : Array Slot) (pc : Nat), cMW s A v a b1 K0 res.2.1 res.2.2 H1 locs1 → narrow .int (.int res.1) = .int res.1 → decode cX10_mainId pc = .ok (.ireturn, 1) → W p l e R s m args below meth c H1 locs1 (xn res.2.1 - xn K0) (2 * (xn res.2.1 - xn K0)) Q (F0 m pc ls1 [.int res.1])) (ag_4 : Int32 → Int32 → PF → PG → PR) (hag_4 : ∀ (x1 : Int32) (x2 : Int32) (F : PF) (G : PG), ag_4 x1 x2 F G = some res → ∀ (b : Nat) (H : Heap) (locs : List Loc) (ls : Array Slot), cMW s A v a b K0 F G H locs → lv_has ls 4 [(0, .ref (a 210)), (1, .int x1), (2, .int x2)] → W p l e R s m args below meth c H locs (xn F - xn K0) (2 * (xn F - xn K0)) Q (F0 m 4 ls [])) (hagn_4 : ∀ (x1 : Int32) (x2 : Int32) (F : PF) (G : PG), ag_4 x1 x2 F G = some res → xn F ≤ xn res.2.1) (x1 : Int32) (x2 : Int32) (x3 : Int32) (F : PF) (G : PG) (hm : cb_X10_mainId_62 fu ag_4 x1 x2 x3 F G = some res) {b : Nat} {H : Heap} {locs : List Loc} (hw : cMW s A v a b K0 F G H locs) {ls : Array Slot} (hl : lv_has ls 4 [(0, .ref (a 210)), (1, .int x1), (2, .int x2), (3, .int x3)]) : W p l e R s m args below meth c H locs (xn F - xn K0) (2 * (xn F - xn K0)) Q (F0 m 62 ls []) := by
  have hx := C.1
  have hb := C.2.1
  unfold cb_X10_mainId_62 at hm
  refine lv_aload_n hx hb dX10_mainId_62 rfl (lv_at hl 0 rfl) ?_
  refine cg_X10_33 C hw dX10_mainId_63 ?_
  refine lv_iload_n hx hb dX10_mainId_66 rfl (lv_at hl 3 rfl) ?_
  refine lv_iconst (v := 2) hx hb dX10_mainId_67 (by decide) ?_
  refine lv_iadd hx hb dX10_mainId_68 ?_
  obtain ⟨⟨r1, F1, G1⟩, hc, hm⟩ := bind_elim hm
  refine ccallI (n := 1) (As := [.int (x3 + (2 : Int32))]) (rest := []) C hw (ck_X9_at l v a _ _ fu (x3 + (2 : Int32)) F G r1 F1 G1 hc) (cn_X9_at fu (x3 + (2 : Int32)) F G _ hc) (Nat.sub_le_sub_right (cn_X10_mainId_72 fu ag_4 hagn_4 x1 x2 x3 r1 F1 G1 hm) _) (crecv_X9 C hw) cm_61 cm_62 cm_63 cm_6 cm_64 (by decide +kernel) rfl (by omega) (by omega) hl.1 rfl (Nat.le_of_ble_eq_true rfl) dX10_mainId_69 (fun b H locs hw => ?_)
  exact cw_X10_mainId_72 fu C hret ag_4 hag_4 hagn_4 x1 x2 x3 r1 F1 G1 hm hw (lv_sub hl [0, 1, 2, 3] rfl)
theorem cn_X10_mainId_57 (fu : Nat) {res : Int32 × PF × PG} (ag_4 : Int32 → Int32 → PF → PG → PR) (hagn_4 : ∀ (x1 : Int32) (x2 : Int32) (F : PF) (G : PG), ag_4 x1 x2 F G = some res → xn F ≤ xn res.2.1) (x1 : Int32) (x2 : Int32) (x3 : Int32) (z0 : Int32) (F : PF) (G : PG) (hm : cb_X10_mainId_57 fu ag_4 x1 x2 x3 z0 F G = some res) : xn F ≤ xn res.2.1 := by
  unfold cb_X10_mainId_57 at hm
  by_cases c_1 : z0 = (97 : Int32)
  · have hm := (if_pos c_1).symm.trans hm
    exact (cn_X10_mainId_62 fu ag_4 hagn_4 x1 x2 x3 F G hm)
  · have hm := (if_neg c_1).symm.trans hm
    exact (cn_X10_mainId_94 fu ag_4 hagn_4 x1 x2 F G hm)
theorem cw_X10_mainId_57 (fu : Nat) {res : Int32 × PF × PG} (C : cMC p R s m args c A v RX10 cX10_mainId 4 1 21 (xn res.2.1 - xn K0)) (hret : ∀ (b1 : Nat) (H1 : Heap) (locs1 : List Loc) (ls1 : Array Slot) (pc : Nat), cMW s A v a b1 K0 res.2.1 res.2.2 H1 locs1 → narrow .int (.int res.1) = .int res.1 → decode cX10_mainId pc = .ok (.ireturn, 1) → W p l e R s m args below meth c H1 locs1 (xn res.2.1 - xn K0) (2 * (xn res.2.1 - xn K0)) Q (F0 m pc ls1 [.int res.1])) (ag_4 : Int32 → Int32 → PF → PG → PR) (hag_4 : ∀ (x1 : Int32) (x2 : Int32) (F : PF) (G : PG), ag_4 x1 x2 F G = some res → ∀ (b : Nat) (H : Heap) (locs : List Loc) (ls : Array Slot), cMW s A v a b K0 F G H locs → lv_has ls 4 [(0, .ref (a 210)), (1, .int x1), (2, .int x2)] → W p l e R s m args below meth c H locs (xn F - xn K0) (2 * (xn F - xn K0)) Q (F0 m 4 ls [])) (hagn_4 : ∀ (x1 : Int32) (x2 : Int32) (F : PF) (G : PG), ag_4 x1 x2 F G = some res → xn F ≤ xn res.2.1) (x1 : Int32) (x2 : Int32) (x3 : Int32) (z0 : Int32) (F : PF) (G : PG) (hm : cb_X10_mainId_57 fu ag_4 x1 x2 x3 z0 F G = some res) {b : Nat} {H : Heap} {locs : List Loc} (hw : cMW s A v a b K0 F G H locs) {ls : Array Slot} (hl : lv_has ls 4 [(0, .ref (a 210)), (1, .int x1), (2, .int x2), (3, .int x3)]) : W p l e R s m args below meth c H locs (xn F - xn K0) (2 * (xn F - xn K0)) Q (F0 m 57 ls [.int z0]) := by
  have hx := C.1
  have hb := C.2.1
  unfold cb_X10_mainId_57 at hm
  refine lv_bipush (v := 97) hx hb dX10_mainId_57 (by decide) ?_
  refine lv_icmp_ne (tgt := 94) hx hb dX10_mainId_59 (by decide) (fun c_1 => ?_) (fun c_1 => ?_)
  · have hm := (if_neg c_1).symm.trans hm
    exact cw_X10_mainId_94 fu C hret ag_4 hag_4 hagn_4 x1 x2 F G hm hw (lv_sub hl [0, 1, 2] rfl)
  · have hm := (if_pos c_1).symm.trans hm
    exact cw_X10_mainId_62 fu C hret ag_4 hag_4 hagn_4 x1 x2 x3 F G hm hw (lv_sub hl [0, 1, 2, 3] rfl)
theorem cn_X10_mainId_47 (fu : Nat) {res : Int32 × PF × PG} (ag_4 : Int32 → Int32 → PF → PG → PR) (hagn_4 : ∀ (x1 : Int32) (x2 : Int32) (F : PF) (G : PG), ag_4 x1 x2 F G = some res → xn F ≤ xn res.2.1) (x1 : Int32) (x2 : Int32) (x3 : Int32) (F : PF) (G : PG) (hm : cb_X10_mainId_47 fu ag_4 x1 x2 x3 F G = some res) : xn F ≤ xn res.2.1 := by
  unfold cb_X10_mainId_47 at hm
  obtain ⟨⟨r1, F1, G1⟩, hc, hm⟩ := bind_elim hm
  exact Nat.le_trans (cn_X9_at fu (x3 + (1 : Int32)) F G _ hc) (cn_X10_mainId_57 fu ag_4 hagn_4 x1 x2 x3 r1 F1 G1 hm)
theorem cw_X10_mainId_47 (fu : Nat) {res : Int32 × PF × PG} (C : cMC p R s m args c A v RX10 cX10_mainId 4 1 21 (xn res.2.1 - xn K0)) (hret : ∀ (b1 : Nat) (H1 : Heap) (locs1 : List Loc) (ls1 : Array Slot) (pc : Nat), cMW s A v a b1 K0 res.2.1 res.2.2 H1 locs1 → narrow .int (.int res.1) = .int res.1 → decode cX10_mainId pc = .ok (.ireturn, 1) → W p l e R s m args below meth c H1 locs1 (xn res.2.1 - xn K0) (2 * (xn res.2.1 - xn K0)) Q (F0 m pc ls1 [.int res.1])) (ag_4 : Int32 → Int32 → PF → PG → PR) (hag_4 : ∀ (x1 : Int32) (x2 : Int32) (F : PF) (G : PG), ag_4 x1 x2 F G = some res → ∀ (b : Nat) (H : Heap) (locs : List Loc) (ls : Array Slot), cMW s A v a b K0 F G H locs → lv_has ls 4 [(0, .ref (a 210)), (1, .int x1), (2, .int x2)] → W p l e R s m args below meth c H locs (xn F - xn K0) (2 * (xn F - xn K0)) Q (F0 m 4 ls [])) (hagn_4 : ∀ (x1 : Int32) (x2 : Int32) (F : PF) (G : PG), ag_4 x1 x2 F G = some res → xn F ≤ xn res.2.1) (x1 : Int32) (x2 : Int32) (x3 : Int32) (F : PF) (G : PG) (hm : cb_X10_mainId_47 fu ag_4 x1 x2 x3 F G = some res) {b : Nat} {H : Heap} {locs : List Loc} (hw : cMW s A v a b K0 F G H locs) {ls : Array Slot} (hl : lv_has ls 4 [(0, .ref (a 210)), (1, .int x1), (2, .int x2), (3, .int x3)]) : W p l e R s m args below meth c H locs (xn F - xn K0) (2 * (xn F - xn K0)) Q (F0 m 47 ls []) := by
  have hx := C.1
  have hb := C.2.1
  unfold cb_X10_mainId_47 at hm
  refine lv_aload_n hx hb dX10_mainId_47 rfl (lv_at hl 0 rfl) ?_
  refine cg_X10_33 C hw dX10_mainId_48 ?_
  refine lv_iload_n hx hb dX10_mainId_51 rfl (lv_at hl 3 rfl) ?_
  refine lv_iconst (v := 1) hx hb dX10_mainId_52 (by decide) ?_
  refine lv_iadd hx hb dX10_mainId_53 ?_
  obtain ⟨⟨r1, F1, G1⟩, hc, hm⟩ := bind_elim hm
  refine ccallI (n := 1) (As := [.int (x3 + (1 : Int32))]) (rest := []) C hw (ck_X9_at l v a _ _ fu (x3 + (1 : Int32)) F G r1 F1 G1 hc) (cn_X9_at fu (x3 + (1 : Int32)) F G _ hc) (Nat.sub_le_sub_right (cn_X10_mainId_57 fu ag_4 hagn_4 x1 x2 x3 r1 F1 G1 hm) _) (crecv_X9 C hw) cm_61 cm_62 cm_63 cm_6 cm_64 (by decide +kernel) rfl (by omega) (by omega) hl.1 rfl (Nat.le_of_ble_eq_true rfl) dX10_mainId_54 (fun b H locs hw => ?_)
  exact cw_X10_mainId_57 fu C hret ag_4 hag_4 hagn_4 x1 x2 x3 r1 F1 G1 hm hw (lv_sub hl [0, 1, 2, 3] rfl)
theorem cn_X10_mainId_42 (fu : Nat) {res : Int32 × PF × PG} (ag_4 : Int32 → Int32 → PF → PG → PR) (hagn_4 : ∀ (x1 : Int32) (x2 : Int32) (F : PF) (G : PG), ag_4 x1 x2 F G = some res → xn F ≤ xn res.2.1) (x1 : Int32) (x2 : Int32) (x3 : Int32) (z0 : Int32) (F : PF) (G : PG) (hm : cb_X10_mainId_42 fu ag_4 x1 x2 x3 z0 F G = some res) : xn F ≤ xn res.2.1 := by
  unfold cb_X10_mainId_42 at hm
  by_cases c_1 : z0 = (109 : Int32)
  · have hm := (if_pos c_1).symm.trans hm
    exact (cn_X10_mainId_47 fu ag_4 hagn_4 x1 x2 x3 F G hm)
  · have hm := (if_neg c_1).symm.trans hm
    exact (cn_X10_mainId_94 fu ag_4 hagn_4 x1 x2 F G hm)
theorem cw_X10_mainId_42 (fu : Nat) {res : Int32 × PF × PG} (C : cMC p R s m args c A v RX10 cX10_mainId 4 1 21 (xn res.2.1 - xn K0)) (hret : ∀ (b1 : Nat) (H1 : Heap) (locs1 : List Loc) (ls1 : Array Slot) (pc : Nat), cMW s A v a b1 K0 res.2.1 res.2.2 H1 locs1 → narrow .int (.int res.1) = .int res.1 → decode cX10_mainId pc = .ok (.ireturn, 1) → W p l e R s m args below meth c H1 locs1 (xn res.2.1 - xn K0) (2 * (xn res.2.1 - xn K0)) Q (F0 m pc ls1 [.int res.1])) (ag_4 : Int32 → Int32 → PF → PG → PR) (hag_4 : ∀ (x1 : Int32) (x2 : Int32) (F : PF) (G : PG), ag_4 x1 x2 F G = some res → ∀ (b : Nat) (H : Heap) (locs : List Loc) (ls : Array Slot), cMW s A v a b K0 F G H locs → lv_has ls 4 [(0, .ref (a 210)), (1, .int x1), (2, .int x2)] → W p l e R s m args below meth c H locs (xn F - xn K0) (2 * (xn F - xn K0)) Q (F0 m 4 ls [])) (hagn_4 : ∀ (x1 : Int32) (x2 : Int32) (F : PF) (G : PG), ag_4 x1 x2 F G = some res → xn F ≤ xn res.2.1) (x1 : Int32) (x2 : Int32) (x3 : Int32) (z0 : Int32) (F : PF) (G : PG) (hm : cb_X10_mainId_42 fu ag_4 x1 x2 x3 z0 F G = some res) {b : Nat} {H : Heap} {locs : List Loc} (hw : cMW s A v a b K0 F G H locs) {ls : Array Slot} (hl : lv_has ls 4 [(0, .ref (a 210)), (1, .int x1), (2, .int x2), (3, .int x3)]) : W p l e R s m args below meth c H locs (xn F - xn K0) (2 * (xn F - xn K0)) Q (F0 m 42 ls [.int z0]) := by
  have hx := C.1
  have hb := C.2.1
  unfold cb_X10_mainId_42 at hm
  refine lv_bipush (v := 109) hx hb dX10_mainId_42 (by decide) ?_
  refine lv_icmp_ne (tgt := 94) hx hb dX10_mainId_44 (by decide) (fun c_1 => ?_) (fun c_1 => ?_)
  · have hm := (if_neg c_1).symm.trans hm
    exact cw_X10_mainId_94 fu C hret ag_4 hag_4 hagn_4 x1 x2 F G hm hw (lv_sub hl [0, 1, 2] rfl)
  · have hm := (if_pos c_1).symm.trans hm
    exact cw_X10_mainId_47 fu C hret ag_4 hag_4 hagn_4 x1 x2 x3 F G hm hw (lv_sub hl [0, 1, 2, 3] rfl)
theorem cn_X10_mainId_34 (fu : Nat) {res : Int32 × PF × PG} (ag_4 : Int32 → Int32 → PF → PG → PR) (hagn_4 : ∀ (x1 : Int32) (x2 : Int32) (F : PF) (G : PG), ag_4 x1 x2 F G = some res → xn F ≤ xn res.2.1) (x1 : Int32) (x2 : Int32) (x3 : Int32) (F : PF) (G : PG) (hm : cb_X10_mainId_34 fu ag_4 x1 x2 x3 F G = some res) : xn F ≤ xn res.2.1 := by
  unfold cb_X10_mainId_34 at hm
  obtain ⟨⟨r1, F1, G1⟩, hc, hm⟩ := bind_elim hm
  exact Nat.le_trans (cn_X9_at fu x3 F G _ hc) (cn_X10_mainId_42 fu ag_4 hagn_4 x1 x2 x3 r1 F1 G1 hm)
theorem cw_X10_mainId_34 (fu : Nat) {res : Int32 × PF × PG} (C : cMC p R s m args c A v RX10 cX10_mainId 4 1 21 (xn res.2.1 - xn K0)) (hret : ∀ (b1 : Nat) (H1 : Heap) (locs1 : List Loc) (ls1 : Array Slot) (pc : Nat), cMW s A v a b1 K0 res.2.1 res.2.2 H1 locs1 → narrow .int (.int res.1) = .int res.1 → decode cX10_mainId pc = .ok (.ireturn, 1) → W p l e R s m args below meth c H1 locs1 (xn res.2.1 - xn K0) (2 * (xn res.2.1 - xn K0)) Q (F0 m pc ls1 [.int res.1])) (ag_4 : Int32 → Int32 → PF → PG → PR) (hag_4 : ∀ (x1 : Int32) (x2 : Int32) (F : PF) (G : PG), ag_4 x1 x2 F G = some res → ∀ (b : Nat) (H : Heap) (locs : List Loc) (ls : Array Slot), cMW s A v a b K0 F G H locs → lv_has ls 4 [(0, .ref (a 210)), (1, .int x1), (2, .int x2)] → W p l e R s m args below meth c H locs (xn F - xn K0) (2 * (xn F - xn K0)) Q (F0 m 4 ls [])) (hagn_4 : ∀ (x1 : Int32) (x2 : Int32) (F : PF) (G : PG), ag_4 x1 x2 F G = some res → xn F ≤ xn res.2.1) (x1 : Int32) (x2 : Int32) (x3 : Int32) (F : PF) (G : PG) (hm : cb_X10_mainId_34 fu ag_4 x1 x2 x3 F G = some res) {b : Nat} {H : Heap} {locs : List Loc} (hw : cMW s A v a b K0 F G H locs) {ls : Array Slot} (hl : lv_has ls 4 [(0, .ref (a 210)), (1, .int x1), (2, .int x2), (3, .int x3)]) : W p l e R s m args below meth c H locs (xn F - xn K0) (2 * (xn F - xn K0)) Q (F0 m 34 ls []) := by
  have hx := C.1
  have hb := C.2.1
  unfold cb_X10_mainId_34 at hm
  refine lv_aload_n hx hb dX10_mainId_34 rfl (lv_at hl 0 rfl) ?_
  refine cg_X10_33 C hw dX10_mainId_35 ?_
  refine lv_iload_n hx hb dX10_mainId_38 rfl (lv_at hl 3 rfl) ?_
  obtain ⟨⟨r1, F1, G1⟩, hc, hm⟩ := bind_elim hm
  refine ccallI (n := 1) (As := [.int x3]) (rest := []) C hw (ck_X9_at l v a _ _ fu x3 F G r1 F1 G1 hc) (cn_X9_at fu x3 F G _ hc) (Nat.sub_le_sub_right (cn_X10_mainId_42 fu ag_4 hagn_4 x1 x2 x3 r1 F1 G1 hm) _) (crecv_X9 C hw) cm_61 cm_62 cm_63 cm_6 cm_64 (by decide +kernel) rfl (by omega) (by omega) hl.1 rfl (Nat.le_of_ble_eq_true rfl) dX10_mainId_39 (fun b H locs hw => ?_)
  exact cw_X10_mainId_42 fu C hret ag_4 hag_4 hagn_4 x1 x2 x3 r1 F1 G1 hm hw (lv_sub hl [0, 1, 2, 3] rfl)
theorem cn_X10_mainId_17 (fu : Nat) {res : Int32 × PF × PG} (ag_4 : Int32 → Int32 → PF → PG → PR) (hagn_4 : ∀ (x1 : Int32) (x2 : Int32) (F : PF) (G : PG), ag_4 x1 x2 F G = some res → xn F ≤ xn res.2.1) (x1 : Int32) (x2 : Int32) (F : PF) (G : PG) (hm : cb_X10_mainId_17 fu ag_4 x1 x2 F G = some res) : xn F ≤ xn res.2.1 := by
  unfold cb_X10_mainId_17 at hm
  have hm := (ix_elim hm).2
  have hm := (ix_elim hm).2
  by_cases c_1 : (G 97 x2.toNatClampNeg) = (4 : Int32)
  · have hm := (if_pos c_1).symm.trans hm
    exact (cn_X10_mainId_34 fu ag_4 hagn_4 x1 x2 (G 96 x2.toNatClampNeg) F G hm)
  · have hm := (if_neg c_1).symm.trans hm
    exact (cn_X10_mainId_94 fu ag_4 hagn_4 x1 x2 F G hm)
theorem cw_X10_mainId_17 (fu : Nat) {res : Int32 × PF × PG} (C : cMC p R s m args c A v RX10 cX10_mainId 4 1 21 (xn res.2.1 - xn K0)) (hret : ∀ (b1 : Nat) (H1 : Heap) (locs1 : List Loc) (ls1 : Array Slot) (pc : Nat), cMW s A v a b1 K0 res.2.1 res.2.2 H1 locs1 → narrow .int (.int res.1) = .int res.1 → decode cX10_mainId pc = .ok (.ireturn, 1) → W p l e R s m args below meth c H1 locs1 (xn res.2.1 - xn K0) (2 * (xn res.2.1 - xn K0)) Q (F0 m pc ls1 [.int res.1])) (ag_4 : Int32 → Int32 → PF → PG → PR) (hag_4 : ∀ (x1 : Int32) (x2 : Int32) (F : PF) (G : PG), ag_4 x1 x2 F G = some res → ∀ (b : Nat) (H : Heap) (locs : List Loc) (ls : Array Slot), cMW s A v a b K0 F G H locs → lv_has ls 4 [(0, .ref (a 210)), (1, .int x1), (2, .int x2)] → W p l e R s m args below meth c H locs (xn F - xn K0) (2 * (xn F - xn K0)) Q (F0 m 4 ls [])) (hagn_4 : ∀ (x1 : Int32) (x2 : Int32) (F : PF) (G : PG), ag_4 x1 x2 F G = some res → xn F ≤ xn res.2.1) (x1 : Int32) (x2 : Int32) (F : PF) (G : PG) (hm : cb_X10_mainId_17 fu ag_4 x1 x2 F G = some res) {b : Nat} {H : Heap} {locs : List Loc} (hw : cMW s A v a b K0 F G H locs) {ls : Array Slot} (hl : lv_has ls 4 [(0, .ref (a 210)), (1, .int x1), (2, .int x2)]) : W p l e R s m args below meth c H locs (xn F - xn K0) (2 * (xn F - xn K0)) Q (F0 m 17 ls []) := by
  have hx := C.1
  have hb := C.2.1
  unfold cb_X10_mainId_17 at hm
  refine lv_aload_n hx hb dX10_mainId_17 rfl (lv_at hl 0 rfl) ?_
  refine cg_X10_27 C hw dX10_mainId_18 ?_
  refine lv_iload_n hx hb dX10_mainId_21 rfl (lv_at hl 2 rfl) ?_
  obtain ⟨hi, hm⟩ := ix_elim hm
  refine cal_96 C hw hi dX10_mainId_22 ?_
  refine lv_istore_n (lv' := [(3, .int (G 96 x2.toNatClampNeg)), (0, .ref (a 210)), (1, .int x1), (2, .int x2)]) hx hb dX10_mainId_23 rfl hl (by decide) rfl (fun ls hl => ?_)
  refine lv_aload_n hx hb dX10_mainId_24 rfl (lv_at hl 1 rfl) ?_
  refine cg_X10_30 C hw dX10_mainId_25 ?_
  refine lv_iload_n hx hb dX10_mainId_28 rfl (lv_at hl 3 rfl) ?_
  obtain ⟨hi, hm⟩ := ix_elim hm
  refine cal_97 C hw hi dX10_mainId_29 ?_
  refine lv_iconst (v := 4) hx hb dX10_mainId_30 (by decide) ?_
  refine lv_icmp_ne (tgt := 94) hx hb dX10_mainId_31 (by decide) (fun c_1 => ?_) (fun c_1 => ?_)
  · have hm := (if_neg c_1).symm.trans hm
    exact cw_X10_mainId_94 fu C hret ag_4 hag_4 hagn_4 x1 x2 F G hm hw (lv_sub hl [1, 2, 3] rfl)
  · have hm := (if_pos c_1).symm.trans hm
    exact cw_X10_mainId_34 fu C hret ag_4 hag_4 hagn_4 x1 x2 (G 96 x2.toNatClampNeg) F G hm hw (lv_sub hl [1, 2, 3, 0] rfl)
theorem cn_X10_mainId_12 (fu : Nat) {res : Int32 × PF × PG} (ag_4 : Int32 → Int32 → PF → PG → PR) (hagn_4 : ∀ (x1 : Int32) (x2 : Int32) (F : PF) (G : PG), ag_4 x1 x2 F G = some res → xn F ≤ xn res.2.1) (x1 : Int32) (x2 : Int32) (F : PF) (G : PG) (hm : cb_X10_mainId_12 fu ag_4 x1 x2 F G = some res) : xn F ≤ xn res.2.1 := by
  unfold cb_X10_mainId_12 at hm
  by_cases c_1 : x1 = (-1 : Int32)
  · have hm := (if_pos c_1).symm.trans hm
    exact (cn_X10_mainId_17 fu ag_4 hagn_4 x1 x2 F G hm)
  · have hm := (if_neg c_1).symm.trans hm
    exact (cn_X10_mainId_100 fu x1 F G hm)
theorem cw_X10_mainId_12 (fu : Nat) {res : Int32 × PF × PG} (C : cMC p R s m args c A v RX10 cX10_mainId 4 1 21 (xn res.2.1 - xn K0)) (hret : ∀ (b1 : Nat) (H1 : Heap) (locs1 : List Loc) (ls1 : Array Slot) (pc : Nat), cMW s A v a b1 K0 res.2.1 res.2.2 H1 locs1 → narrow .int (.int res.1) = .int res.1 → decode cX10_mainId pc = .ok (.ireturn, 1) → W p l e R s m args below meth c H1 locs1 (xn res.2.1 - xn K0) (2 * (xn res.2.1 - xn K0)) Q (F0 m pc ls1 [.int res.1])) (ag_4 : Int32 → Int32 → PF → PG → PR) (hag_4 : ∀ (x1 : Int32) (x2 : Int32) (F : PF) (G : PG), ag_4 x1 x2 F G = some res → ∀ (b : Nat) (H : Heap) (locs : List Loc) (ls : Array Slot), cMW s A v a b K0 F G H locs → lv_has ls 4 [(0, .ref (a 210)), (1, .int x1), (2, .int x2)] → W p l e R s m args below meth c H locs (xn F - xn K0) (2 * (xn F - xn K0)) Q (F0 m 4 ls [])) (hagn_4 : ∀ (x1 : Int32) (x2 : Int32) (F : PF) (G : PG), ag_4 x1 x2 F G = some res → xn F ≤ xn res.2.1) (x1 : Int32) (x2 : Int32) (F : PF) (G : PG) (hm : cb_X10_mainId_12 fu ag_4 x1 x2 F G = some res) {b : Nat} {H : Heap} {locs : List Loc} (hw : cMW s A v a b K0 F G H locs) {ls : Array Slot} (hl : lv_has ls 4 [(0, .ref (a 210)), (1, .int x1), (2, .int x2)]) : W p l e R s m args below meth c H locs (xn F - xn K0) (2 * (xn F - xn K0)) Q (F0 m 12 ls []) := by
  have hx := C.1
  have hb := C.2.1
  unfold cb_X10_mainId_12 at hm
  refine lv_iload_n hx hb dX10_mainId_12 rfl (lv_at hl 1 rfl) ?_
  refine lv_iconst (v := (-1)) hx hb dX10_mainId_13 (by decide) ?_
  refine lv_icmp_ne (tgt := 100) hx hb dX10_mainId_14 (by decide) (fun c_1 => ?_) (fun c_1 => ?_)
  · have hm := (if_neg c_1).symm.trans hm
    exact cw_X10_mainId_100 fu C hret x1 F G hm hw (lv_sub hl [1] rfl)
  · have hm := (if_pos c_1).symm.trans hm
    exact cw_X10_mainId_17 fu C hret ag_4 hag_4 hagn_4 x1 x2 F G hm hw (lv_sub hl [0, 1, 2] rfl)
theorem cn_X10_mainId_4 (fu : Nat) {res : Int32 × PF × PG} (ag_4 : Int32 → Int32 → PF → PG → PR) (hagn_4 : ∀ (x1 : Int32) (x2 : Int32) (F : PF) (G : PG), ag_4 x1 x2 F G = some res → xn F ≤ xn res.2.1) (x1 : Int32) (x2 : Int32) (F : PF) (G : PG) (hm : cb_X10_mainId_4 fu ag_4 x1 x2 F G = some res) : xn F ≤ xn res.2.1 := by
  unfold cb_X10_mainId_4 at hm
  by_cases c_1 : (F 98) ≤ x2
  · have hm := (if_pos c_1).symm.trans hm
    exact (cn_X10_mainId_100 fu x1 F G hm)
  · have hm := (if_neg c_1).symm.trans hm
    exact (cn_X10_mainId_12 fu ag_4 hagn_4 x1 x2 F G hm)
theorem cw_X10_mainId_4 (fu : Nat) {res : Int32 × PF × PG} (C : cMC p R s m args c A v RX10 cX10_mainId 4 1 21 (xn res.2.1 - xn K0)) (hret : ∀ (b1 : Nat) (H1 : Heap) (locs1 : List Loc) (ls1 : Array Slot) (pc : Nat), cMW s A v a b1 K0 res.2.1 res.2.2 H1 locs1 → narrow .int (.int res.1) = .int res.1 → decode cX10_mainId pc = .ok (.ireturn, 1) → W p l e R s m args below meth c H1 locs1 (xn res.2.1 - xn K0) (2 * (xn res.2.1 - xn K0)) Q (F0 m pc ls1 [.int res.1])) (ag_4 : Int32 → Int32 → PF → PG → PR) (hag_4 : ∀ (x1 : Int32) (x2 : Int32) (F : PF) (G : PG), ag_4 x1 x2 F G = some res → ∀ (b : Nat) (H : Heap) (locs : List Loc) (ls : Array Slot), cMW s A v a b K0 F G H locs → lv_has ls 4 [(0, .ref (a 210)), (1, .int x1), (2, .int x2)] → W p l e R s m args below meth c H locs (xn F - xn K0) (2 * (xn F - xn K0)) Q (F0 m 4 ls [])) (hagn_4 : ∀ (x1 : Int32) (x2 : Int32) (F : PF) (G : PG), ag_4 x1 x2 F G = some res → xn F ≤ xn res.2.1) (x1 : Int32) (x2 : Int32) (F : PF) (G : PG) (hm : cb_X10_mainId_4 fu ag_4 x1 x2 F G = some res) {b : Nat} {H : Heap} {locs : List Loc} (hw : cMW s A v a b K0 F G H locs) {ls : Array Slot} (hl : lv_has ls 4 [(0, .ref (a 210)), (1, .int x1), (2, .int x2)]) : W p l e R s m args below meth c H locs (xn F - xn K0) (2 * (xn F - xn K0)) Q (F0 m 4 ls []) := by
  have hx := C.1
  have hb := C.2.1
  unfold cb_X10_mainId_4 at hm
  refine lv_iload_n hx hb dX10_mainId_4 rfl (lv_at hl 2 rfl) ?_
  refine lv_aload_n hx hb dX10_mainId_5 rfl (lv_at hl 0 rfl) ?_
  refine cg_X10_41 C hw dX10_mainId_6 ?_
  refine lv_icmp_ge (tgt := 100) hx hb dX10_mainId_9 (by decide) (fun c_1 => ?_) (fun c_1 => ?_)
  · have hm := (if_pos c_1).symm.trans hm
    exact cw_X10_mainId_100 fu C hret x1 F G hm hw (lv_sub hl [1] rfl)
  · have hm := (if_neg c_1).symm.trans hm
    exact cw_X10_mainId_12 fu C hret ag_4 hag_4 hagn_4 x1 x2 F G hm hw (lv_sub hl [0, 1, 2] rfl)
theorem cnl_X10_mainId_4 (fu : Nat) {res : Int32 × PF × PG} : ∀ (n : Nat) (x1 : Int32) (x2 : Int32) (F : PF) (G : PG) (hm : cl_X10_mainId_4 fu n x1 x2 F G = some res), xn F ≤ xn res.2.1 := by
  intro n
  induction n with
  | zero =>
    intro x1 x2 F G hm
    exact no_elim (show (none : PR) = some res from hm)
  | succ n ih =>
    intro x1 x2 F G hm
    exact cn_X10_mainId_4 fu (cl_X10_mainId_4 fu n) (fun x1 x2 F G hm => ih x1 x2 F G hm) x1 x2 F G hm
theorem cwl_X10_mainId_4 (fu : Nat) {res : Int32 × PF × PG} (C : cMC p R s m args c A v RX10 cX10_mainId 4 1 21 (xn res.2.1 - xn K0)) (hret : ∀ (b1 : Nat) (H1 : Heap) (locs1 : List Loc) (ls1 : Array Slot) (pc : Nat), cMW s A v a b1 K0 res.2.1 res.2.2 H1 locs1 → narrow .int (.int res.1) = .int res.1 → decode cX10_mainId pc = .ok (.ireturn, 1) → W p l e R s m args below meth c H1 locs1 (xn res.2.1 - xn K0) (2 * (xn res.2.1 - xn K0)) Q (F0 m pc ls1 [.int res.1])) : ∀ (n : Nat) (x1 : Int32) (x2 : Int32) (F : PF) (G : PG) (hm : cl_X10_mainId_4 fu n x1 x2 F G = some res) {b : Nat} {H : Heap} {locs : List Loc} (hw : cMW s A v a b K0 F G H locs) {ls : Array Slot} (hl : lv_has ls 4 [(0, .ref (a 210)), (1, .int x1), (2, .int x2)]), W p l e R s m args below meth c H locs (xn F - xn K0) (2 * (xn F - xn K0)) Q (F0 m 4 ls []) := by
  intro n
  induction n with
  | zero =>
    intro x1 x2 F G hm
    exact no_elim (show (none : PR) = some res from hm)
  | succ n ih =>
    intro x1 x2 F G hm b H locs hw ls hl
    exact cw_X10_mainId_4 fu C hret (cl_X10_mainId_4 fu n) (fun x1 x2 F G hm b H locs ls hw hl => ih x1 x2 F G hm hw hl) (fun x1 x2 F G hm => cnl_X10_mainId_4 fu n x1 x2 F G hm) x1 x2 F G hm hw hl
theorem cn_X10_mainId_0 (fu : Nat) {res : Int32 × PF × PG} (F : PF) (G : PG) (hm : cb_X10_mainId_0 fu F G = some res) : xn F ≤ xn res.2.1 := by
  unfold cb_X10_mainId_0 at hm
  exact (cnl_X10_mainId_4 fu fu (-1) 0 F G hm)
theorem cw_X10_mainId_0 (fu : Nat) {res : Int32 × PF × PG} (C : cMC p R s m args c A v RX10 cX10_mainId 4 1 21 (xn res.2.1 - xn K0)) (hret : ∀ (b1 : Nat) (H1 : Heap) (locs1 : List Loc) (ls1 : Array Slot) (pc : Nat), cMW s A v a b1 K0 res.2.1 res.2.2 H1 locs1 → narrow .int (.int res.1) = .int res.1 → decode cX10_mainId pc = .ok (.ireturn, 1) → W p l e R s m args below meth c H1 locs1 (xn res.2.1 - xn K0) (2 * (xn res.2.1 - xn K0)) Q (F0 m pc ls1 [.int res.1])) (F : PF) (G : PG) (hm : cb_X10_mainId_0 fu F G = some res) {b : Nat} {H : Heap} {locs : List Loc} (hw : cMW s A v a b K0 F G H locs) {ls : Array Slot} (hl : lv_has ls 4 [(0, .ref (a 210))]) : W p l e R s m args below meth c H locs (xn F - xn K0) (2 * (xn F - xn K0)) Q (F0 m 0 ls []) := by
  have hx := C.1
  have hb := C.2.1
  unfold cb_X10_mainId_0 at hm
  refine lv_iconst (v := (-1)) hx hb dX10_mainId_0 (by decide) ?_
  refine lv_istore_n (lv' := [(1, .int (-1)), (0, .ref (a 210))]) hx hb dX10_mainId_1 rfl hl (by decide) rfl (fun ls hl => ?_)
  refine lv_iconst (v := 0) hx hb dX10_mainId_2 (by decide) ?_
  refine lv_istore_n (lv' := [(2, .int 0), (1, .int (-1)), (0, .ref (a 210))]) hx hb dX10_mainId_3 rfl hl (by decide) rfl (fun ls hl => ?_)
  exact cwl_X10_mainId_4 fu C hret fu (-1) 0 F G hm hw (lv_sub hl [2, 1, 0] rfl)
theorem cn_X10_mainId (fu : Nat) (F : PF) (G : PG) (q : Int32 × PF × PG) (hm : cf_X10_mainId fu F G = some q) : xn F ≤ xn q.2.1 := cn_X10_mainId_0 fu F G hm
theorem ck_X10_mainId (l : Launch) (v : EV) (a : Nat → Nat) (b sz : Nat) (fu : Nat) (F : PF) (G : PG) (r : Int32) (F1 : PF) (G1 : PG) (hm : cf_X10_mainId fu F G = some (r, F1, G1)) : cMI l yX10_mainId cX10_mainId 4 (some .int) 1 21 v a b sz [.ref (a 210)] F G r F1 G1 := cMI.of (ty := .int) (by decide) rfl (Nat.le_of_ble_eq_true rfl) (fun p e R s m args below meth c Q A H locs ls C hw hl hret => cw_X10_mainId_0 fu (res := (r, F1, G1)) C hret F G hm hw hl)
def cb_X11_feed_57 (fu : Nat) (F : PF) (G : PG) : PR := some ((F 88), F, G)
def cb_X11_feed_48 (fu : Nat) (x5 : Int32) (F : PF) (G : PG) : PR := (cf_X9_take fu x5 F G).bind (fun q => cb_X11_feed_57 fu q.2.1 q.2.2)
def cb_X11_feed_39 (fu : Nat) (x4 : Int32) (x5 : Int32) (F : PF) (G : PG) : PR := (cf_X9_take fu x4 F G).bind (fun q => cb_X11_feed_48 fu x5 q.2.1 q.2.2)
def cb_X11_feed_31 (fu : Nat) (x3 : Int32) (x4 : Int32) (x5 : Int32) (F : PF) (G : PG) : PR := (cf_X9_take fu x3 F G).bind (fun q => cb_X11_feed_39 fu x4 x5 q.2.1 q.2.2)
def cb_X11_feed_23 (fu : Nat) (x2 : Int32) (x3 : Int32) (x4 : Int32) (x5 : Int32) (F : PF) (G : PG) : PR := (cf_X9_take fu x2 F G).bind (fun q => cb_X11_feed_31 fu x3 x4 x5 q.2.1 q.2.2)
def cb_X11_feed_15 (fu : Nat) (x1 : Int32) (x2 : Int32) (x3 : Int32) (x4 : Int32) (x5 : Int32) (F : PF) (G : PG) : PR := (cf_X9_take fu x1 F G).bind (fun q => cb_X11_feed_23 fu x2 x3 x4 x5 q.2.1 q.2.2)
def cb_X11_feed_13 (fu : Nat) (F : PF) (G : PG) : PR := some ((-1), F, G)
def cb_X11_feed_0 (fu : Nat) (x1 : Int32) (x2 : Int32) (x3 : Int32) (x4 : Int32) (x5 : Int32) (F : PF) (G : PG) : PR := if (F 88) ≤ (3980 : Int32) then cb_X11_feed_15 fu x1 x2 x3 x4 x5 F G else cb_X11_feed_13 fu F G
def cf_X11_feed (fu : Nat) (x1 : Int32) (x2 : Int32) (x3 : Int32) (x4 : Int32) (x5 : Int32) (F : PF) (G : PG) : PR := cb_X11_feed_0 fu x1 x2 x3 x4 x5 F G
theorem cn_X11_feed_57 (fu : Nat) {res : Int32 × PF × PG} (F : PF) (G : PG) (hm : cb_X11_feed_57 fu F G = some res) : xn F ≤ xn res.2.1 := by
  unfold cb_X11_feed_57 at hm
  obtain rfl := Option.some.inj hm
  exact Nat.le_refl _
theorem cw_X11_feed_57 (fu : Nat) {res : Int32 × PF × PG} (C : cMC p R s m args c A v RX11 cX11_feed 6 1 22 (xn res.2.1 - xn K0)) (hret : ∀ (b1 : Nat) (H1 : Heap) (locs1 : List Loc) (ls1 : Array Slot) (pc : Nat), cMW s A v a b1 K0 res.2.1 res.2.2 H1 locs1 → narrow .int (.int res.1) = .int res.1 → decode cX11_feed pc = .ok (.ireturn, 1) → W p l e R s m args below meth c H1 locs1 (xn res.2.1 - xn K0) (2 * (xn res.2.1 - xn K0)) Q (F0 m pc ls1 [.int res.1])) (F : PF) (G : PG) (hm : cb_X11_feed_57 fu F G = some res) {b : Nat} {H : Heap} {locs : List Loc} (hw : cMW s A v a b K0 F G H locs) {ls : Array Slot} (hl : lv_has ls 6 [(0, .ref (a 211))]) : W p l e R s m args below meth c H locs (xn F - xn K0) (2 * (xn F - xn K0)) Q (F0 m 57 ls []) := by
  have hx := C.1
  have hb := C.2.1
  unfold cb_X11_feed_57 at hm
  refine lv_aload_n hx hb dX11_feed_57 rfl (lv_at hl 0 rfl) ?_
  refine cg_X11_15 C hw dX11_feed_58 ?_
  refine cg_X11_82 C hw dX11_feed_61 ?_
  obtain rfl := Option.some.inj hm
  exact hret _ _ _ _ _ hw rfl dX11_feed_64
theorem cn_X11_feed_48 (fu : Nat) {res : Int32 × PF × PG} (x5 : Int32) (F : PF) (G : PG) (hm : cb_X11_feed_48 fu x5 F G = some res) : xn F ≤ xn res.2.1 := by
  unfold cb_X11_feed_48 at hm
  obtain ⟨⟨r1, F1, G1⟩, hc, hm⟩ := bind_elim hm
  exact Nat.le_trans (cn_X9_take fu x5 F G _ hc) (cn_X11_feed_57 fu F1 G1 hm)
theorem cw_X11_feed_48 (fu : Nat) {res : Int32 × PF × PG} (C : cMC p R s m args c A v RX11 cX11_feed 6 1 22 (xn res.2.1 - xn K0)) (hret : ∀ (b1 : Nat) (H1 : Heap) (locs1 : List Loc) (ls1 : Array Slot) (pc : Nat), cMW s A v a b1 K0 res.2.1 res.2.2 H1 locs1 → narrow .int (.int res.1) = .int res.1 → decode cX11_feed pc = .ok (.ireturn, 1) → W p l e R s m args below meth c H1 locs1 (xn res.2.1 - xn K0) (2 * (xn res.2.1 - xn K0)) Q (F0 m pc ls1 [.int res.1])) (x5 : Int32) (F : PF) (G : PG) (hm : cb_X11_feed_48 fu x5 F G = some res) {b : Nat} {H : Heap} {locs : List Loc} (hw : cMW s A v a b K0 F G H locs) {ls : Array Slot} (hl : lv_has ls 6 [(0, .ref (a 211)), (5, .int x5)]) : W p l e R s m args below meth c H locs (xn F - xn K0) (2 * (xn F - xn K0)) Q (F0 m 48 ls []) := by
  have hx := C.1
  have hb := C.2.1
  unfold cb_X11_feed_48 at hm
  refine lv_aload_n hx hb dX11_feed_48 rfl (lv_at hl 0 rfl) ?_
  refine cg_X11_15 C hw dX11_feed_49 ?_
  refine lv_iload hx hb dX11_feed_52 (lv_at hl 1 rfl) ?_
  obtain ⟨⟨r1, F1, G1⟩, hc, hm⟩ := bind_elim hm
  refine ccallV (n := 1) (As := [.int x5]) (rest := []) C hw (ck_X9_take l v a _ _ fu x5 F G r1 F1 G1 hc) (cn_X9_take fu x5 F G _ hc) (Nat.sub_le_sub_right (cn_X11_feed_57 fu F1 G1 hm) _) (crecv_X9 C hw) cm_3 cm_4 cm_5 cm_6 cm_7 (by decide +kernel) rfl (by omega) (by omega) hl.1 rfl (Nat.le_of_ble_eq_true rfl) dX11_feed_54 (fun b H locs hw => ?_)
  exact cw_X11_feed_57 fu C hret F1 G1 hm hw (lv_sub hl [0] rfl)
theorem cn_X11_feed_39 (fu : Nat) {res : Int32 × PF × PG} (x4 : Int32) (x5 : Int32) (F : PF) (G : PG) (hm : cb_X11_feed_39 fu x4 x5 F G = some res) : xn F ≤ xn res.2.1 := by
  unfold cb_X11_feed_39 at hm
  obtain ⟨⟨r1, F1, G1⟩, hc, hm⟩ := bind_elim hm
  exact Nat.le_trans (cn_X9_take fu x4 F G _ hc) (cn_X11_feed_48 fu x5 F1 G1 hm)
theorem cw_X11_feed_39 (fu : Nat) {res : Int32 × PF × PG} (C : cMC p R s m args c A v RX11 cX11_feed 6 1 22 (xn res.2.1 - xn K0)) (hret : ∀ (b1 : Nat) (H1 : Heap) (locs1 : List Loc) (ls1 : Array Slot) (pc : Nat), cMW s A v a b1 K0 res.2.1 res.2.2 H1 locs1 → narrow .int (.int res.1) = .int res.1 → decode cX11_feed pc = .ok (.ireturn, 1) → W p l e R s m args below meth c H1 locs1 (xn res.2.1 - xn K0) (2 * (xn res.2.1 - xn K0)) Q (F0 m pc ls1 [.int res.1])) (x4 : Int32) (x5 : Int32) (F : PF) (G : PG) (hm : cb_X11_feed_39 fu x4 x5 F G = some res) {b : Nat} {H : Heap} {locs : List Loc} (hw : cMW s A v a b K0 F G H locs) {ls : Array Slot} (hl : lv_has ls 6 [(0, .ref (a 211)), (4, .int x4), (5, .int x5)]) : W p l e R s m args below meth c H locs (xn F - xn K0) (2 * (xn F - xn K0)) Q (F0 m 39 ls []) := by
  have hx := C.1
  have hb := C.2.1
  unfold cb_X11_feed_39 at hm
  refine lv_aload_n hx hb dX11_feed_39 rfl (lv_at hl 0 rfl) ?_
  refine cg_X11_15 C hw dX11_feed_40 ?_
  refine lv_iload hx hb dX11_feed_43 (lv_at hl 1 rfl) ?_
  obtain ⟨⟨r1, F1, G1⟩, hc, hm⟩ := bind_elim hm
  refine ccallV (n := 1) (As := [.int x4]) (rest := []) C hw (ck_X9_take l v a _ _ fu x4 F G r1 F1 G1 hc) (cn_X9_take fu x4 F G _ hc) (Nat.sub_le_sub_right (cn_X11_feed_48 fu x5 F1 G1 hm) _) (crecv_X9 C hw) cm_3 cm_4 cm_5 cm_6 cm_7 (by decide +kernel) rfl (by omega) (by omega) hl.1 rfl (Nat.le_of_ble_eq_true rfl) dX11_feed_45 (fun b H locs hw => ?_)
  exact cw_X11_feed_48 fu C hret x5 F1 G1 hm hw (lv_sub hl [0, 2] rfl)
theorem cn_X11_feed_31 (fu : Nat) {res : Int32 × PF × PG} (x3 : Int32) (x4 : Int32) (x5 : Int32) (F : PF) (G : PG) (hm : cb_X11_feed_31 fu x3 x4 x5 F G = some res) : xn F ≤ xn res.2.1 := by
  unfold cb_X11_feed_31 at hm
  obtain ⟨⟨r1, F1, G1⟩, hc, hm⟩ := bind_elim hm
  exact Nat.le_trans (cn_X9_take fu x3 F G _ hc) (cn_X11_feed_39 fu x4 x5 F1 G1 hm)
theorem cw_X11_feed_31 (fu : Nat) {res : Int32 × PF × PG} (C : cMC p R s m args c A v RX11 cX11_feed 6 1 22 (xn res.2.1 - xn K0)) (hret : ∀ (b1 : Nat) (H1 : Heap) (locs1 : List Loc) (ls1 : Array Slot) (pc : Nat), cMW s A v a b1 K0 res.2.1 res.2.2 H1 locs1 → narrow .int (.int res.1) = .int res.1 → decode cX11_feed pc = .ok (.ireturn, 1) → W p l e R s m args below meth c H1 locs1 (xn res.2.1 - xn K0) (2 * (xn res.2.1 - xn K0)) Q (F0 m pc ls1 [.int res.1])) (x3 : Int32) (x4 : Int32) (x5 : Int32) (F : PF) (G : PG) (hm : cb_X11_feed_31 fu x3 x4 x5 F G = some res) {b : Nat} {H : Heap} {locs : List Loc} (hw : cMW s A v a b K0 F G H locs) {ls : Array Slot} (hl : lv_has ls 6 [(0, .ref (a 211)), (3, .int x3), (4, .int x4), (5, .int x5)]) : W p l e R s m args below meth c H locs (xn F - xn K0) (2 * (xn F - xn K0)) Q (F0 m 31 ls []) := by
  have hx := C.1
  have hb := C.2.1
  unfold cb_X11_feed_31 at hm
  refine lv_aload_n hx hb dX11_feed_31 rfl (lv_at hl 0 rfl) ?_
  refine cg_X11_15 C hw dX11_feed_32 ?_
  refine lv_iload_n hx hb dX11_feed_35 rfl (lv_at hl 1 rfl) ?_
  obtain ⟨⟨r1, F1, G1⟩, hc, hm⟩ := bind_elim hm
  refine ccallV (n := 1) (As := [.int x3]) (rest := []) C hw (ck_X9_take l v a _ _ fu x3 F G r1 F1 G1 hc) (cn_X9_take fu x3 F G _ hc) (Nat.sub_le_sub_right (cn_X11_feed_39 fu x4 x5 F1 G1 hm) _) (crecv_X9 C hw) cm_3 cm_4 cm_5 cm_6 cm_7 (by decide +kernel) rfl (by omega) (by omega) hl.1 rfl (Nat.le_of_ble_eq_true rfl) dX11_feed_36 (fun b H locs hw => ?_)
  exact cw_X11_feed_39 fu C hret x4 x5 F1 G1 hm hw (lv_sub hl [0, 2, 3] rfl)
theorem cn_X11_feed_23 (fu : Nat) {res : Int32 × PF × PG} (x2 : Int32) (x3 : Int32) (x4 : Int32) (x5 : Int32) (F : PF) (G : PG) (hm : cb_X11_feed_23 fu x2 x3 x4 x5 F G = some res) : xn F ≤ xn res.2.1 := by
  unfold cb_X11_feed_23 at hm
  obtain ⟨⟨r1, F1, G1⟩, hc, hm⟩ := bind_elim hm
  exact Nat.le_trans (cn_X9_take fu x2 F G _ hc) (cn_X11_feed_31 fu x3 x4 x5 F1 G1 hm)
theorem cw_X11_feed_23 (fu : Nat) {res : Int32 × PF × PG} (C : cMC p R s m args c A v RX11 cX11_feed 6 1 22 (xn res.2.1 - xn K0)) (hret : ∀ (b1 : Nat) (H1 : Heap) (locs1 : List Loc) (ls1 : Array Slot) (pc : Nat), cMW s A v a b1 K0 res.2.1 res.2.2 H1 locs1 → narrow .int (.int res.1) = .int res.1 → decode cX11_feed pc = .ok (.ireturn, 1) → W p l e R s m args below meth c H1 locs1 (xn res.2.1 - xn K0) (2 * (xn res.2.1 - xn K0)) Q (F0 m pc ls1 [.int res.1])) (x2 : Int32) (x3 : Int32) (x4 : Int32) (x5 : Int32) (F : PF) (G : PG) (hm : cb_X11_feed_23 fu x2 x3 x4 x5 F G = some res) {b : Nat} {H : Heap} {locs : List Loc} (hw : cMW s A v a b K0 F G H locs) {ls : Array Slot} (hl : lv_has ls 6 [(0, .ref (a 211)), (2, .int x2), (3, .int x3), (4, .int x4), (5, .int x5)]) : W p l e R s m args below meth c H locs (xn F - xn K0) (2 * (xn F - xn K0)) Q (F0 m 23 ls []) := by
  have hx := C.1
  have hb := C.2.1
  unfold cb_X11_feed_23 at hm
  refine lv_aload_n hx hb dX11_feed_23 rfl (lv_at hl 0 rfl) ?_
  refine cg_X11_15 C hw dX11_feed_24 ?_
  refine lv_iload_n hx hb dX11_feed_27 rfl (lv_at hl 1 rfl) ?_
  obtain ⟨⟨r1, F1, G1⟩, hc, hm⟩ := bind_elim hm
  refine ccallV (n := 1) (As := [.int x2]) (rest := []) C hw (ck_X9_take l v a _ _ fu x2 F G r1 F1 G1 hc) (cn_X9_take fu x2 F G _ hc) (Nat.sub_le_sub_right (cn_X11_feed_31 fu x3 x4 x5 F1 G1 hm) _) (crecv_X9 C hw) cm_3 cm_4 cm_5 cm_6 cm_7 (by decide +kernel) rfl (by omega) (by omega) hl.1 rfl (Nat.le_of_ble_eq_true rfl) dX11_feed_28 (fun b H locs hw => ?_)
  exact cw_X11_feed_31 fu C hret x3 x4 x5 F1 G1 hm hw (lv_sub hl [0, 2, 3, 4] rfl)
theorem cn_X11_feed_15 (fu : Nat) {res : Int32 × PF × PG} (x1 : Int32) (x2 : Int32) (x3 : Int32) (x4 : Int32) (x5 : Int32) (F : PF) (G : PG) (hm : cb_X11_feed_15 fu x1 x2 x3 x4 x5 F G = some res) : xn F ≤ xn res.2.1 := by
  unfold cb_X11_feed_15 at hm
  obtain ⟨⟨r1, F1, G1⟩, hc, hm⟩ := bind_elim hm
  exact Nat.le_trans (cn_X9_take fu x1 F G _ hc) (cn_X11_feed_23 fu x2 x3 x4 x5 F1 G1 hm)
theorem cw_X11_feed_15 (fu : Nat) {res : Int32 × PF × PG} (C : cMC p R s m args c A v RX11 cX11_feed 6 1 22 (xn res.2.1 - xn K0)) (hret : ∀ (b1 : Nat) (H1 : Heap) (locs1 : List Loc) (ls1 : Array Slot) (pc : Nat), cMW s A v a b1 K0 res.2.1 res.2.2 H1 locs1 → narrow .int (.int res.1) = .int res.1 → decode cX11_feed pc = .ok (.ireturn, 1) → W p l e R s m args below meth c H1 locs1 (xn res.2.1 - xn K0) (2 * (xn res.2.1 - xn K0)) Q (F0 m pc ls1 [.int res.1])) (x1 : Int32) (x2 : Int32) (x3 : Int32) (x4 : Int32) (x5 : Int32) (F : PF) (G : PG) (hm : cb_X11_feed_15 fu x1 x2 x3 x4 x5 F G = some res) {b : Nat} {H : Heap} {locs : List Loc} (hw : cMW s A v a b K0 F G H locs) {ls : Array Slot} (hl : lv_has ls 6 [(0, .ref (a 211)), (1, .int x1), (2, .int x2), (3, .int x3), (4, .int x4), (5, .int x5)]) : W p l e R s m args below meth c H locs (xn F - xn K0) (2 * (xn F - xn K0)) Q (F0 m 15 ls []) := by
  have hx := C.1
  have hb := C.2.1
  unfold cb_X11_feed_15 at hm
  refine lv_aload_n hx hb dX11_feed_15 rfl (lv_at hl 0 rfl) ?_
  refine cg_X11_15 C hw dX11_feed_16 ?_
  refine lv_iload_n hx hb dX11_feed_19 rfl (lv_at hl 1 rfl) ?_
  obtain ⟨⟨r1, F1, G1⟩, hc, hm⟩ := bind_elim hm
  refine ccallV (n := 1) (As := [.int x1]) (rest := []) C hw (ck_X9_take l v a _ _ fu x1 F G r1 F1 G1 hc) (cn_X9_take fu x1 F G _ hc) (Nat.sub_le_sub_right (cn_X11_feed_23 fu x2 x3 x4 x5 F1 G1 hm) _) (crecv_X9 C hw) cm_3 cm_4 cm_5 cm_6 cm_7 (by decide +kernel) rfl (by omega) (by omega) hl.1 rfl (Nat.le_of_ble_eq_true rfl) dX11_feed_20 (fun b H locs hw => ?_)
  exact cw_X11_feed_23 fu C hret x2 x3 x4 x5 F1 G1 hm hw (lv_sub hl [0, 2, 3, 4, 5] rfl)
theorem cn_X11_feed_13 (fu : Nat) {res : Int32 × PF × PG} (F : PF) (G : PG) (hm : cb_X11_feed_13 fu F G = some res) : xn F ≤ xn res.2.1 := by
  unfold cb_X11_feed_13 at hm
  obtain rfl := Option.some.inj hm
  exact Nat.le_refl _
theorem cw_X11_feed_13 (fu : Nat) {res : Int32 × PF × PG} (C : cMC p R s m args c A v RX11 cX11_feed 6 1 22 (xn res.2.1 - xn K0)) (hret : ∀ (b1 : Nat) (H1 : Heap) (locs1 : List Loc) (ls1 : Array Slot) (pc : Nat), cMW s A v a b1 K0 res.2.1 res.2.2 H1 locs1 → narrow .int (.int res.1) = .int res.1 → decode cX11_feed pc = .ok (.ireturn, 1) → W p l e R s m args below meth c H1 locs1 (xn res.2.1 - xn K0) (2 * (xn res.2.1 - xn K0)) Q (F0 m pc ls1 [.int res.1])) (F : PF) (G : PG) (hm : cb_X11_feed_13 fu F G = some res) {b : Nat} {H : Heap} {locs : List Loc} (hw : cMW s A v a b K0 F G H locs) {ls : Array Slot} (hl : lv_has ls 6 []) : W p l e R s m args below meth c H locs (xn F - xn K0) (2 * (xn F - xn K0)) Q (F0 m 13 ls []) := by
  have hx := C.1
  have hb := C.2.1
  unfold cb_X11_feed_13 at hm
  refine lv_iconst (v := (-1)) hx hb dX11_feed_13 (by decide) ?_
  obtain rfl := Option.some.inj hm
  exact hret _ _ _ _ _ hw rfl dX11_feed_14
theorem cn_X11_feed_0 (fu : Nat) {res : Int32 × PF × PG} (x1 : Int32) (x2 : Int32) (x3 : Int32) (x4 : Int32) (x5 : Int32) (F : PF) (G : PG) (hm : cb_X11_feed_0 fu x1 x2 x3 x4 x5 F G = some res) : xn F ≤ xn res.2.1 := by
  unfold cb_X11_feed_0 at hm
  by_cases c_1 : (F 88) ≤ (3980 : Int32)
  · have hm := (if_pos c_1).symm.trans hm
    exact (cn_X11_feed_15 fu x1 x2 x3 x4 x5 F G hm)
  · have hm := (if_neg c_1).symm.trans hm
    exact (cn_X11_feed_13 fu F G hm)
theorem cw_X11_feed_0 (fu : Nat) {res : Int32 × PF × PG} (C : cMC p R s m args c A v RX11 cX11_feed 6 1 22 (xn res.2.1 - xn K0)) (hret : ∀ (b1 : Nat) (H1 : Heap) (locs1 : List Loc) (ls1 : Array Slot) (pc : Nat), cMW s A v a b1 K0 res.2.1 res.2.2 H1 locs1 → narrow .int (.int res.1) = .int res.1 → decode cX11_feed pc = .ok (.ireturn, 1) → W p l e R s m args below meth c H1 locs1 (xn res.2.1 - xn K0) (2 * (xn res.2.1 - xn K0)) Q (F0 m pc ls1 [.int res.1])) (x1 : Int32) (x2 : Int32) (x3 : Int32) (x4 : Int32) (x5 : Int32) (F : PF) (G : PG) (hm : cb_X11_feed_0 fu x1 x2 x3 x4 x5 F G = some res) {b : Nat} {H : Heap} {locs : List Loc} (hw : cMW s A v a b K0 F G H locs) {ls : Array Slot} (hl : lv_has ls 6 [(0, .ref (a 211)), (1, .int x1), (2, .int x2), (3, .int x3), (4, .int x4), (5, .int x5)]) : W p l e R s m args below meth c H locs (xn F - xn K0) (2 * (xn F - xn K0)) Q (F0 m 0 ls []) := by
  have hx := C.1
  have hb := C.2.1
  unfold cb_X11_feed_0 at hm
  refine lv_aload_n hx hb dX11_feed_0 rfl (lv_at hl 0 rfl) ?_
  refine cg_X11_15 C hw dX11_feed_1 ?_
  refine cg_X11_82 C hw dX11_feed_4 ?_
  refine lv_sipush (v := 3980) hx hb dX11_feed_7 (by decide) ?_
  refine lv_icmp_le (tgt := 15) hx hb dX11_feed_10 (by decide) (fun c_1 => ?_) (fun c_1 => ?_)
  · have hm := (if_pos c_1).symm.trans hm
    exact cw_X11_feed_15 fu C hret x1 x2 x3 x4 x5 F G hm hw (lv_sub hl [0, 1, 2, 3, 4, 5] rfl)
  · have hm := (if_neg c_1).symm.trans hm
    exact cw_X11_feed_13 fu C hret F G hm hw (lv_sub hl [] rfl)
theorem cn_X11_feed (fu : Nat) (x1 : Int32) (x2 : Int32) (x3 : Int32) (x4 : Int32) (x5 : Int32) (F : PF) (G : PG) (q : Int32 × PF × PG) (hm : cf_X11_feed fu x1 x2 x3 x4 x5 F G = some q) : xn F ≤ xn q.2.1 := cn_X11_feed_0 fu x1 x2 x3 x4 x5 F G hm
theorem ck_X11_feed (l : Launch) (v : EV) (a : Nat → Nat) (b sz : Nat) (fu : Nat) (x1 : Int32) (x2 : Int32) (x3 : Int32) (x4 : Int32) (x5 : Int32) (F : PF) (G : PG) (r : Int32) (F1 : PF) (G1 : PG) (hm : cf_X11_feed fu x1 x2 x3 x4 x5 F G = some (r, F1, G1)) : cMI l yX11_feed cX11_feed 6 (some .int) 1 22 v a b sz [.ref (a 211), .int x1, .int x2, .int x3, .int x4, .int x5] F G r F1 G1 := cMI.of (ty := .int) (by decide) rfl (Nat.le_of_ble_eq_true rfl) (fun p e R s m args below meth c Q A H locs ls C hw hl hret => cw_X11_feed_0 fu (res := (r, F1, G1)) C hret x1 x2 x3 x4 x5 F G hm hw hl)
def cb_X11_end_15 (fu : Nat) (F : PF) (G : PG) : PR := some ((-1), F, G)
def cb_X11_end_25 (fu : Nat) (x1 : Int32) (F : PF) (G : PG) : PR := some (x1, F, G)
def cb_X11_end_17 (fu : Nat) (x1 : Int32) (F : PF) (G : PG) : PR := cb_X11_end_25 fu x1 (fup F 88 x1) G
def cb_X11_end_4 (fu : Nat) (x1 : Int32) (F : PF) (G : PG) : PR := if x1 ≤ (F 88) then cb_X11_end_17 fu x1 F G else cb_X11_end_15 fu F G
def cb_X11_end_0 (fu : Nat) (x1 : Int32) (F : PF) (G : PG) : PR := if x1 < (0 : Int32) then cb_X11_end_15 fu F G else cb_X11_end_4 fu x1 F G
def cf_X11_end (fu : Nat) (x1 : Int32) (F : PF) (G : PG) : PR := cb_X11_end_0 fu x1 F G
theorem cn_X11_end_15 (fu : Nat) {res : Int32 × PF × PG} (F : PF) (G : PG) (hm : cb_X11_end_15 fu F G = some res) : xn F ≤ xn res.2.1 := by
  unfold cb_X11_end_15 at hm
  obtain rfl := Option.some.inj hm
  exact Nat.le_refl _
theorem cw_X11_end_15 (fu : Nat) {res : Int32 × PF × PG} (C : cMC p R s m args c A v RX11 cX11_end 2 0 0 (xn res.2.1 - xn K0)) (hret : ∀ (b1 : Nat) (H1 : Heap) (locs1 : List Loc) (ls1 : Array Slot) (pc : Nat), cMW s A v a b1 K0 res.2.1 res.2.2 H1 locs1 → narrow .int (.int res.1) = .int res.1 → decode cX11_end pc = .ok (.ireturn, 1) → W p l e R s m args below meth c H1 locs1 (xn res.2.1 - xn K0) (2 * (xn res.2.1 - xn K0)) Q (F0 m pc ls1 [.int res.1])) (F : PF) (G : PG) (hm : cb_X11_end_15 fu F G = some res) {b : Nat} {H : Heap} {locs : List Loc} (hw : cMW s A v a b K0 F G H locs) {ls : Array Slot} (hl : lv_has ls 2 []) : W p l e R s m args below meth c H locs (xn F - xn K0) (2 * (xn F - xn K0)) Q (F0 m 15 ls []) := by
  have hx := C.1
  have hb := C.2.1
  unfold cb_X11_end_15 at hm
  refine lv_iconst (v := (-1)) hx hb dX11_end_15 (by decide) ?_
  obtain rfl := Option.some.inj hm
  exact hret _ _ _ _ _ hw rfl dX11_end_16
theorem cn_X11_end_25 (fu : Nat) {res : Int32 × PF × PG} (x1 : Int32) (F : PF) (G : PG) (hm : cb_X11_end_25 fu x1 F G = some res) : xn F ≤ xn res.2.1 := by
  unfold cb_X11_end_25 at hm
  obtain rfl := Option.some.inj hm
  exact Nat.le_refl _
theorem cw_X11_end_25 (fu : Nat) {res : Int32 × PF × PG} (C : cMC p R s m args c A v RX11 cX11_end 2 0 0 (xn res.2.1 - xn K0)) (hret : ∀ (b1 : Nat) (H1 : Heap) (locs1 : List Loc) (ls1 : Array Slot) (pc : Nat), cMW s A v a b1 K0 res.2.1 res.2.2 H1 locs1 → narrow .int (.int res.1) = .int res.1 → decode cX11_end pc = .ok (.ireturn, 1) → W p l e R s m args below meth c H1 locs1 (xn res.2.1 - xn K0) (2 * (xn res.2.1 - xn K0)) Q (F0 m pc ls1 [.int res.1])) (x1 : Int32) (F : PF) (G : PG) (hm : cb_X11_end_25 fu x1 F G = some res) {b : Nat} {H : Heap} {locs : List Loc} (hw : cMW s A v a b K0 F G H locs) {ls : Array Slot} (hl : lv_has ls 2 [(1, .int x1)]) : W p l e R s m args below meth c H locs (xn F - xn K0) (2 * (xn F - xn K0)) Q (F0 m 25 ls []) := by
  have hx := C.1
  have hb := C.2.1
  unfold cb_X11_end_25 at hm
  refine lv_iload_n hx hb dX11_end_25 rfl (lv_at hl 0 rfl) ?_
  obtain rfl := Option.some.inj hm
  exact hret _ _ _ _ _ hw rfl dX11_end_26
theorem cn_X11_end_17 (fu : Nat) {res : Int32 × PF × PG} (x1 : Int32) (F : PF) (G : PG) (hm : cb_X11_end_17 fu x1 F G = some res) : xn F ≤ xn res.2.1 := by
  unfold cb_X11_end_17 at hm
  exact Nat.le_trans (Nat.le_of_eq (xn_fup (by decide)).symm) (cn_X11_end_25 fu x1 (fup F 88 x1) G hm)
theorem cw_X11_end_17 (fu : Nat) {res : Int32 × PF × PG} (C : cMC p R s m args c A v RX11 cX11_end 2 0 0 (xn res.2.1 - xn K0)) (hret : ∀ (b1 : Nat) (H1 : Heap) (locs1 : List Loc) (ls1 : Array Slot) (pc : Nat), cMW s A v a b1 K0 res.2.1 res.2.2 H1 locs1 → narrow .int (.int res.1) = .int res.1 → decode cX11_end pc = .ok (.ireturn, 1) → W p l e R s m args below meth c H1 locs1 (xn res.2.1 - xn K0) (2 * (xn res.2.1 - xn K0)) Q (F0 m pc ls1 [.int res.1])) (x1 : Int32) (F : PF) (G : PG) (hm : cb_X11_end_17 fu x1 F G = some res) {b : Nat} {H : Heap} {locs : List Loc} (hw : cMW s A v a b K0 F G H locs) {ls : Array Slot} (hl : lv_has ls 2 [(0, .ref (a 211)), (1, .int x1)]) : W p l e R s m args below meth c H locs (xn F - xn K0) (2 * (xn F - xn K0)) Q (F0 m 17 ls []) := by
  have hx := C.1
  have hb := C.2.1
  unfold cb_X11_end_17 at hm
  refine lv_aload_n hx hb dX11_end_17 rfl (lv_at hl 0 rfl) ?_
  refine cg_X11_15 C hw dX11_end_18 ?_
  refine lv_iload_n hx hb dX11_end_21 rfl (lv_at hl 1 rfl) ?_
  refine cp_X11_82 C hw dX11_end_22 (fun H locs hw => ?_)
  exact cw_X11_end_25 fu C hret x1 (fup F 88 x1) G hm hw (lv_sub hl [1] rfl)
theorem cn_X11_end_4 (fu : Nat) {res : Int32 × PF × PG} (x1 : Int32) (F : PF) (G : PG) (hm : cb_X11_end_4 fu x1 F G = some res) : xn F ≤ xn res.2.1 := by
  unfold cb_X11_end_4 at hm
  by_cases c_1 : x1 ≤ (F 88)
  · have hm := (if_pos c_1).symm.trans hm
    exact (cn_X11_end_17 fu x1 F G hm)
  · have hm := (if_neg c_1).symm.trans hm
    exact (cn_X11_end_15 fu F G hm)
theorem cw_X11_end_4 (fu : Nat) {res : Int32 × PF × PG} (C : cMC p R s m args c A v RX11 cX11_end 2 0 0 (xn res.2.1 - xn K0)) (hret : ∀ (b1 : Nat) (H1 : Heap) (locs1 : List Loc) (ls1 : Array Slot) (pc : Nat), cMW s A v a b1 K0 res.2.1 res.2.2 H1 locs1 → narrow .int (.int res.1) = .int res.1 → decode cX11_end pc = .ok (.ireturn, 1) → W p l e R s m args below meth c H1 locs1 (xn res.2.1 - xn K0) (2 * (xn res.2.1 - xn K0)) Q (F0 m pc ls1 [.int res.1])) (x1 : Int32) (F : PF) (G : PG) (hm : cb_X11_end_4 fu x1 F G = some res) {b : Nat} {H : Heap} {locs : List Loc} (hw : cMW s A v a b K0 F G H locs) {ls : Array Slot} (hl : lv_has ls 2 [(0, .ref (a 211)), (1, .int x1)]) : W p l e R s m args below meth c H locs (xn F - xn K0) (2 * (xn F - xn K0)) Q (F0 m 4 ls []) := by
  have hx := C.1
  have hb := C.2.1
  unfold cb_X11_end_4 at hm
  refine lv_iload_n hx hb dX11_end_4 rfl (lv_at hl 1 rfl) ?_
  refine lv_aload_n hx hb dX11_end_5 rfl (lv_at hl 0 rfl) ?_
  refine cg_X11_15 C hw dX11_end_6 ?_
  refine cg_X11_82 C hw dX11_end_9 ?_
  refine lv_icmp_le (tgt := 17) hx hb dX11_end_12 (by decide) (fun c_1 => ?_) (fun c_1 => ?_)
  · have hm := (if_pos c_1).symm.trans hm
    exact cw_X11_end_17 fu C hret x1 F G hm hw (lv_sub hl [0, 1] rfl)
  · have hm := (if_neg c_1).symm.trans hm
    exact cw_X11_end_15 fu C hret F G hm hw (lv_sub hl [] rfl)
theorem cn_X11_end_0 (fu : Nat) {res : Int32 × PF × PG} (x1 : Int32) (F : PF) (G : PG) (hm : cb_X11_end_0 fu x1 F G = some res) : xn F ≤ xn res.2.1 := by
  unfold cb_X11_end_0 at hm
  by_cases c_1 : x1 < (0 : Int32)
  · have hm := (if_pos c_1).symm.trans hm
    exact (cn_X11_end_15 fu F G hm)
  · have hm := (if_neg c_1).symm.trans hm
    exact (cn_X11_end_4 fu x1 F G hm)
theorem cw_X11_end_0 (fu : Nat) {res : Int32 × PF × PG} (C : cMC p R s m args c A v RX11 cX11_end 2 0 0 (xn res.2.1 - xn K0)) (hret : ∀ (b1 : Nat) (H1 : Heap) (locs1 : List Loc) (ls1 : Array Slot) (pc : Nat), cMW s A v a b1 K0 res.2.1 res.2.2 H1 locs1 → narrow .int (.int res.1) = .int res.1 → decode cX11_end pc = .ok (.ireturn, 1) → W p l e R s m args below meth c H1 locs1 (xn res.2.1 - xn K0) (2 * (xn res.2.1 - xn K0)) Q (F0 m pc ls1 [.int res.1])) (x1 : Int32) (F : PF) (G : PG) (hm : cb_X11_end_0 fu x1 F G = some res) {b : Nat} {H : Heap} {locs : List Loc} (hw : cMW s A v a b K0 F G H locs) {ls : Array Slot} (hl : lv_has ls 2 [(0, .ref (a 211)), (1, .int x1)]) : W p l e R s m args below meth c H locs (xn F - xn K0) (2 * (xn F - xn K0)) Q (F0 m 0 ls []) := by
  have hx := C.1
  have hb := C.2.1
  unfold cb_X11_end_0 at hm
  refine lv_iload_n hx hb dX11_end_0 rfl (lv_at hl 1 rfl) ?_
  refine lv_if_lt (tgt := 15) hx hb dX11_end_1 (by decide) (fun c_1 => ?_) (fun c_1 => ?_)
  · have hm := (if_pos c_1).symm.trans hm
    exact cw_X11_end_15 fu C hret F G hm hw (lv_sub hl [] rfl)
  · have hm := (if_neg c_1).symm.trans hm
    exact cw_X11_end_4 fu C hret x1 F G hm hw (lv_sub hl [0, 1] rfl)
theorem cn_X11_end (fu : Nat) (x1 : Int32) (F : PF) (G : PG) (q : Int32 × PF × PG) (hm : cf_X11_end fu x1 F G = some q) : xn F ≤ xn q.2.1 := cn_X11_end_0 fu x1 F G hm
theorem ck_X11_end (l : Launch) (v : EV) (a : Nat → Nat) (b sz : Nat) (fu : Nat) (x1 : Int32) (F : PF) (G : PG) (r : Int32) (F1 : PF) (G1 : PG) (hm : cf_X11_end fu x1 F G = some (r, F1, G1)) : cMI l yX11_end cX11_end 2 (some .int) 0 0 v a b sz [.ref (a 211), .int x1] F G r F1 G1 := cMI.of (ty := .int) (by decide) rfl (Nat.le_of_ble_eq_true rfl) (fun p e R s m args below meth c Q A H locs ls C hw hl hret => cw_X11_end_0 fu (res := (r, F1, G1)) C hret x1 F G hm hw hl)
def cb_X11_read_88 (fu : Nat) (x1 : Int32) (F : PF) (G : PG) : PR := some (x1, F, G)
def cb_X11_read_80 (fu : Nat) (x1 : Int32) (F : PF) (G : PG) : PR := cb_X11_read_88 fu x1 (fup F 88 (0 : Int32)) G
def cb_X11_read_77 (fu : Nat) (x1 : Int32) (z0 : Int32) (F : PF) (G : PG) : PR := if b01 z0 = true then (cb_X11_read_80 fu x1 (fup F 73 z0) G) else none
def cb_X11_read_76 (fu : Nat) (x1 : Int32) (F : PF) (G : PG) : PR := cb_X11_read_77 fu x1 0 F G
def cb_X11_read_72 (fu : Nat) (x1 : Int32) (F : PF) (G : PG) : PR := cb_X11_read_77 fu x1 1 F G
def cb_X11_read_64 (fu : Nat) (x1 : Int32) (F : PF) (G : PG) : PR := if x1 = (0 : Int32) then cb_X11_read_72 fu x1 F G else cb_X11_read_76 fu x1 F G
def cb_X11_read_63 (fu : Nat) (z0 : Int32) (F : PF) (G : PG) : PR := cb_X11_read_64 fu z0 F G
def cb_X11_read_55 (fu : Nat) (F : PF) (G : PG) : PR := (cf_X4_walk fu 1 F G).bind (fun q => cb_X11_read_63 fu q.1 q.2.1 q.2.2)
def cb_X11_read_50 (fu : Nat) (z0 : Int32) (F : PF) (G : PG) : PR := if z0 = (0 : Int32) then cb_X11_read_55 fu F G else cb_X11_read_64 fu z0 F G
def cb_X11_read_42 (fu : Nat) (F : PF) (G : PG) : PR := (cf_X4_walk fu 0 F G).bind (fun q => cb_X11_read_50 fu q.1 q.2.1 q.2.2)
def cb_X11_read_39 (fu : Nat) (z0 : Int32) (F : PF) (G : PG) : PR := (cf_X4_clear fu z0 F G).bind (fun q => cb_X11_read_42 fu q.2.1 q.2.2)
def cb_X11_read_28 (fu : Nat) (F : PF) (G : PG) : PR := (cf_X10_mainId fu F G).bind (fun q => cb_X11_read_39 fu q.1 q.2.1 q.2.2)
def cb_X11_read_21 (fu : Nat) (F : PF) (G : PG) : PR := (cf_X10_scan fu F G).bind (fun q => cb_X11_read_28 fu q.2.1 q.2.2)
def cb_X11_read_14 (fu : Nat) (F : PF) (G : PG) : PR := (cf_X7_forgetOutput fu F G).bind (fun q => cb_X11_read_21 fu q.2.1 q.2.2)
def cb_X11_read_7 (fu : Nat) (F : PF) (G : PG) : PR := (cf_X7_forgetInput fu F G).bind (fun q => cb_X11_read_14 fu q.2.1 q.2.2)
def cb_X11_read_0 (fu : Nat) (F : PF) (G : PG) : PR := (cf_X6_forget fu F G).bind (fun q => cb_X11_read_7 fu q.2.1 q.2.2)
def cf_X11_read (fu : Nat) (F : PF) (G : PG) : PR := cb_X11_read_0 fu F G
theorem cn_X11_read_88 (fu : Nat) {res : Int32 × PF × PG} (x1 : Int32) (F : PF) (G : PG) (hm : cb_X11_read_88 fu x1 F G = some res) : xn F ≤ xn res.2.1 := by
  unfold cb_X11_read_88 at hm
  obtain rfl := Option.some.inj hm
  exact Nat.le_refl _
theorem cw_X11_read_88 (fu : Nat) {res : Int32 × PF × PG} (C : cMC p R s m args c A v RX11 cX11_read 2 607 36166 (xn res.2.1 - xn K0)) (hret : ∀ (b1 : Nat) (H1 : Heap) (locs1 : List Loc) (ls1 : Array Slot) (pc : Nat), cMW s A v a b1 K0 res.2.1 res.2.2 H1 locs1 → narrow .int (.int res.1) = .int res.1 → decode cX11_read pc = .ok (.ireturn, 1) → W p l e R s m args below meth c H1 locs1 (xn res.2.1 - xn K0) (2 * (xn res.2.1 - xn K0)) Q (F0 m pc ls1 [.int res.1])) (x1 : Int32) (F : PF) (G : PG) (hm : cb_X11_read_88 fu x1 F G = some res) {b : Nat} {H : Heap} {locs : List Loc} (hw : cMW s A v a b K0 F G H locs) {ls : Array Slot} (hl : lv_has ls 2 [(1, .int x1)]) : W p l e R s m args below meth c H locs (xn F - xn K0) (2 * (xn F - xn K0)) Q (F0 m 88 ls []) := by
  have hx := C.1
  have hb := C.2.1
  unfold cb_X11_read_88 at hm
  refine lv_iload_n hx hb dX11_read_88 rfl (lv_at hl 0 rfl) ?_
  obtain rfl := Option.some.inj hm
  exact hret _ _ _ _ _ hw rfl dX11_read_89
theorem cn_X11_read_80 (fu : Nat) {res : Int32 × PF × PG} (x1 : Int32) (F : PF) (G : PG) (hm : cb_X11_read_80 fu x1 F G = some res) : xn F ≤ xn res.2.1 := by
  unfold cb_X11_read_80 at hm
  exact Nat.le_trans (Nat.le_of_eq (xn_fup (by decide)).symm) (cn_X11_read_88 fu x1 (fup F 88 (0 : Int32)) G hm)
theorem cw_X11_read_80 (fu : Nat) {res : Int32 × PF × PG} (C : cMC p R s m args c A v RX11 cX11_read 2 607 36166 (xn res.2.1 - xn K0)) (hret : ∀ (b1 : Nat) (H1 : Heap) (locs1 : List Loc) (ls1 : Array Slot) (pc : Nat), cMW s A v a b1 K0 res.2.1 res.2.2 H1 locs1 → narrow .int (.int res.1) = .int res.1 → decode cX11_read pc = .ok (.ireturn, 1) → W p l e R s m args below meth c H1 locs1 (xn res.2.1 - xn K0) (2 * (xn res.2.1 - xn K0)) Q (F0 m pc ls1 [.int res.1])) (x1 : Int32) (F : PF) (G : PG) (hm : cb_X11_read_80 fu x1 F G = some res) {b : Nat} {H : Heap} {locs : List Loc} (hw : cMW s A v a b K0 F G H locs) {ls : Array Slot} (hl : lv_has ls 2 [(0, .ref (a 211)), (1, .int x1)]) : W p l e R s m args below meth c H locs (xn F - xn K0) (2 * (xn F - xn K0)) Q (F0 m 80 ls []) := by
  have hx := C.1
  have hb := C.2.1
  unfold cb_X11_read_80 at hm
  refine lv_aload_n hx hb dX11_read_80 rfl (lv_at hl 0 rfl) ?_
  refine cg_X11_15 C hw dX11_read_81 ?_
  refine lv_iconst (v := 0) hx hb dX11_read_84 (by decide) ?_
  refine cp_X11_82 C hw dX11_read_85 (fun H locs hw => ?_)
  exact cw_X11_read_88 fu C hret x1 (fup F 88 (0 : Int32)) G hm hw (lv_sub hl [1] rfl)
theorem cn_X11_read_77 (fu : Nat) {res : Int32 × PF × PG} (x1 : Int32) (z0 : Int32) (F : PF) (G : PG) (hm : cb_X11_read_77 fu x1 z0 F G = some res) : xn F ≤ xn res.2.1 := by
  unfold cb_X11_read_77 at hm
  have hm := (b01_elim hm).2
  exact Nat.le_trans (Nat.le_of_eq (xn_fup (by decide)).symm) (cn_X11_read_80 fu x1 (fup F 73 z0) G hm)
theorem cw_X11_read_77 (fu : Nat) {res : Int32 × PF × PG} (C : cMC p R s m args c A v RX11 cX11_read 2 607 36166 (xn res.2.1 - xn K0)) (hret : ∀ (b1 : Nat) (H1 : Heap) (locs1 : List Loc) (ls1 : Array Slot) (pc : Nat), cMW s A v a b1 K0 res.2.1 res.2.2 H1 locs1 → narrow .int (.int res.1) = .int res.1 → decode cX11_read pc = .ok (.ireturn, 1) → W p l e R s m args below meth c H1 locs1 (xn res.2.1 - xn K0) (2 * (xn res.2.1 - xn K0)) Q (F0 m pc ls1 [.int res.1])) (x1 : Int32) (z0 : Int32) (F : PF) (G : PG) (hm : cb_X11_read_77 fu x1 z0 F G = some res) {b : Nat} {H : Heap} {locs : List Loc} (hw : cMW s A v a b K0 F G H locs) {ls : Array Slot} (hl : lv_has ls 2 [(0, .ref (a 211)), (1, .int x1)]) : W p l e R s m args below meth c H locs (xn F - xn K0) (2 * (xn F - xn K0)) Q (F0 m 77 ls [.int z0, .ref (a 208)]) := by
  have hx := C.1
  have hb := C.2.1
  unfold cb_X11_read_77 at hm
  obtain ⟨hz, hm⟩ := b01_elim hm
  refine cp_X11_113 C hw hz dX11_read_77 (fun H locs hw => ?_)
  exact cw_X11_read_80 fu C hret x1 (fup F 73 z0) G hm hw (lv_sub hl [0, 1] rfl)
theorem cn_X11_read_76 (fu : Nat) {res : Int32 × PF × PG} (x1 : Int32) (F : PF) (G : PG) (hm : cb_X11_read_76 fu x1 F G = some res) : xn F ≤ xn res.2.1 := by
  unfold cb_X11_read_76 at hm
  exact (cn_X11_read_77 fu x1 0 F G hm)
theorem cw_X11_read_76 (fu : Nat) {res : Int32 × PF × PG} (C : cMC p R s m args c A v RX11 cX11_read 2 607 36166 (xn res.2.1 - xn K0)) (hret : ∀ (b1 : Nat) (H1 : Heap) (locs1 : List Loc) (ls1 : Array Slot) (pc : Nat), cMW s A v a b1 K0 res.2.1 res.2.2 H1 locs1 → narrow .int (.int res.1) = .int res.1 → decode cX11_read pc = .ok (.ireturn, 1) → W p l e R s m args below meth c H1 locs1 (xn res.2.1 - xn K0) (2 * (xn res.2.1 - xn K0)) Q (F0 m pc ls1 [.int res.1])) (x1 : Int32) (F : PF) (G : PG) (hm : cb_X11_read_76 fu x1 F G = some res) {b : Nat} {H : Heap} {locs : List Loc} (hw : cMW s A v a b K0 F G H locs) {ls : Array Slot} (hl : lv_has ls 2 [(0, .ref (a 211)), (1, .int x1)]) : W p l e R s m args below meth c H locs (xn F - xn K0) (2 * (xn F - xn K0)) Q (F0 m 76 ls [.ref (a 208)]) := by
  have hx := C.1
  have hb := C.2.1
  unfold cb_X11_read_76 at hm
  refine lv_iconst (v := 0) hx hb dX11_read_76 (by decide) ?_
  exact cw_X11_read_77 fu C hret x1 0 F G hm hw (lv_sub hl [0, 1] rfl)
theorem cn_X11_read_72 (fu : Nat) {res : Int32 × PF × PG} (x1 : Int32) (F : PF) (G : PG) (hm : cb_X11_read_72 fu x1 F G = some res) : xn F ≤ xn res.2.1 := by
  unfold cb_X11_read_72 at hm
  exact (cn_X11_read_77 fu x1 1 F G hm)
theorem cw_X11_read_72 (fu : Nat) {res : Int32 × PF × PG} (C : cMC p R s m args c A v RX11 cX11_read 2 607 36166 (xn res.2.1 - xn K0)) (hret : ∀ (b1 : Nat) (H1 : Heap) (locs1 : List Loc) (ls1 : Array Slot) (pc : Nat), cMW s A v a b1 K0 res.2.1 res.2.2 H1 locs1 → narrow .int (.int res.1) = .int res.1 → decode cX11_read pc = .ok (.ireturn, 1) → W p l e R s m args below meth c H1 locs1 (xn res.2.1 - xn K0) (2 * (xn res.2.1 - xn K0)) Q (F0 m pc ls1 [.int res.1])) (x1 : Int32) (F : PF) (G : PG) (hm : cb_X11_read_72 fu x1 F G = some res) {b : Nat} {H : Heap} {locs : List Loc} (hw : cMW s A v a b K0 F G H locs) {ls : Array Slot} (hl : lv_has ls 2 [(0, .ref (a 211)), (1, .int x1)]) : W p l e R s m args below meth c H locs (xn F - xn K0) (2 * (xn F - xn K0)) Q (F0 m 72 ls [.ref (a 208)]) := by
  have hx := C.1
  have hb := C.2.1
  unfold cb_X11_read_72 at hm
  refine lv_iconst (v := 1) hx hb dX11_read_72 (by decide) ?_
  refine lv_goto (tgt := 77) hx hb dX11_read_73 (by decide) ?_
  exact cw_X11_read_77 fu C hret x1 1 F G hm hw (lv_sub hl [0, 1] rfl)
theorem cn_X11_read_64 (fu : Nat) {res : Int32 × PF × PG} (x1 : Int32) (F : PF) (G : PG) (hm : cb_X11_read_64 fu x1 F G = some res) : xn F ≤ xn res.2.1 := by
  unfold cb_X11_read_64 at hm
  by_cases c_1 : x1 = (0 : Int32)
  · have hm := (if_pos c_1).symm.trans hm
    exact (cn_X11_read_72 fu x1 F G hm)
  · have hm := (if_neg c_1).symm.trans hm
    exact (cn_X11_read_76 fu x1 F G hm)
theorem cw_X11_read_64 (fu : Nat) {res : Int32 × PF × PG} (C : cMC p R s m args c A v RX11 cX11_read 2 607 36166 (xn res.2.1 - xn K0)) (hret : ∀ (b1 : Nat) (H1 : Heap) (locs1 : List Loc) (ls1 : Array Slot) (pc : Nat), cMW s A v a b1 K0 res.2.1 res.2.2 H1 locs1 → narrow .int (.int res.1) = .int res.1 → decode cX11_read pc = .ok (.ireturn, 1) → W p l e R s m args below meth c H1 locs1 (xn res.2.1 - xn K0) (2 * (xn res.2.1 - xn K0)) Q (F0 m pc ls1 [.int res.1])) (x1 : Int32) (F : PF) (G : PG) (hm : cb_X11_read_64 fu x1 F G = some res) {b : Nat} {H : Heap} {locs : List Loc} (hw : cMW s A v a b K0 F G H locs) {ls : Array Slot} (hl : lv_has ls 2 [(0, .ref (a 211)), (1, .int x1)]) : W p l e R s m args below meth c H locs (xn F - xn K0) (2 * (xn F - xn K0)) Q (F0 m 64 ls []) := by
  have hx := C.1
  have hb := C.2.1
  unfold cb_X11_read_64 at hm
  refine lv_aload_n hx hb dX11_read_64 rfl (lv_at hl 0 rfl) ?_
  refine cg_X11_31 C hw dX11_read_65 ?_
  refine lv_iload_n hx hb dX11_read_68 rfl (lv_at hl 1 rfl) ?_
  refine lv_if_ne (tgt := 76) hx hb dX11_read_69 (by decide) (fun c_1 => ?_) (fun c_1 => ?_)
  · have hm := (if_neg c_1).symm.trans hm
    exact cw_X11_read_76 fu C hret x1 F G hm hw (lv_sub hl [0, 1] rfl)
  · have hm := (if_pos c_1).symm.trans hm
    exact cw_X11_read_72 fu C hret x1 F G hm hw (lv_sub hl [0, 1] rfl)
theorem cn_X11_read_63 (fu : Nat) {res : Int32 × PF × PG} (z0 : Int32) (F : PF) (G : PG) (hm : cb_X11_read_63 fu z0 F G = some res) : xn F ≤ xn res.2.1 := by
  unfold cb_X11_read_63 at hm
  exact (cn_X11_read_64 fu z0 F G hm)
theorem cw_X11_read_63 (fu : Nat) {res : Int32 × PF × PG} (C : cMC p R s m args c A v RX11 cX11_read 2 607 36166 (xn res.2.1 - xn K0)) (hret : ∀ (b1 : Nat) (H1 : Heap) (locs1 : List Loc) (ls1 : Array Slot) (pc : Nat), cMW s A v a b1 K0 res.2.1 res.2.2 H1 locs1 → narrow .int (.int res.1) = .int res.1 → decode cX11_read pc = .ok (.ireturn, 1) → W p l e R s m args below meth c H1 locs1 (xn res.2.1 - xn K0) (2 * (xn res.2.1 - xn K0)) Q (F0 m pc ls1 [.int res.1])) (z0 : Int32) (F : PF) (G : PG) (hm : cb_X11_read_63 fu z0 F G = some res) {b : Nat} {H : Heap} {locs : List Loc} (hw : cMW s A v a b K0 F G H locs) {ls : Array Slot} (hl : lv_has ls 2 [(0, .ref (a 211))]) : W p l e R s m args below meth c H locs (xn F - xn K0) (2 * (xn F - xn K0)) Q (F0 m 63 ls [.int z0]) := by
  have hx := C.1
  have hb := C.2.1
  unfold cb_X11_read_63 at hm
  refine lv_istore_n (lv' := [(1, .int z0), (0, .ref (a 211))]) hx hb dX11_read_63 rfl hl (by decide) rfl (fun ls hl => ?_)
  exact cw_X11_read_64 fu C hret z0 F G hm hw (lv_sub hl [1, 0] rfl)
theorem cn_X11_read_55 (fu : Nat) {res : Int32 × PF × PG} (F : PF) (G : PG) (hm : cb_X11_read_55 fu F G = some res) : xn F ≤ xn res.2.1 := by
  unfold cb_X11_read_55 at hm
  obtain ⟨⟨r1, F1, G1⟩, hc, hm⟩ := bind_elim hm
  exact Nat.le_trans (cn_X4_walk fu 1 F G _ hc) (cn_X11_read_63 fu r1 F1 G1 hm)
theorem cw_X11_read_55 (fu : Nat) {res : Int32 × PF × PG} (C : cMC p R s m args c A v RX11 cX11_read 2 607 36166 (xn res.2.1 - xn K0)) (hret : ∀ (b1 : Nat) (H1 : Heap) (locs1 : List Loc) (ls1 : Array Slot) (pc : Nat), cMW s A v a b1 K0 res.2.1 res.2.2 H1 locs1 → narrow .int (.int res.1) = .int res.1 → decode cX11_read pc = .ok (.ireturn, 1) → W p l e R s m args below meth c H1 locs1 (xn res.2.1 - xn K0) (2 * (xn res.2.1 - xn K0)) Q (F0 m pc ls1 [.int res.1])) (F : PF) (G : PG) (hm : cb_X11_read_55 fu F G = some res) {b : Nat} {H : Heap} {locs : List Loc} (hw : cMW s A v a b K0 F G H locs) {ls : Array Slot} (hl : lv_has ls 2 [(0, .ref (a 211))]) : W p l e R s m args below meth c H locs (xn F - xn K0) (2 * (xn F - xn K0)) Q (F0 m 55 ls []) := by
  have hx := C.1
  have hb := C.2.1
  unfold cb_X11_read_55 at hm
  refine lv_aload_n hx hb dX11_read_55 rfl (lv_at hl 0 rfl) ?_
  refine cg_X11_71 C hw dX11_read_56 ?_
  refine lv_iconst (v := 1) hx hb dX11_read_59 (by decide) ?_
  obtain ⟨⟨r1, F1, G1⟩, hc, hm⟩ := bind_elim hm
  refine ccallI (n := 1) (As := [.int 1]) (rest := []) C hw (ck_X4_walk l v a _ _ fu 1 F G r1 F1 G1 hc) (cn_X4_walk fu 1 F G _ hc) (Nat.sub_le_sub_right (cn_X11_read_63 fu r1 F1 G1 hm) _) (crecv_X4 C hw) cm_277 cm_278 cm_279 cm_244 cm_280 (by decide +kernel) rfl (by omega) (by omega) hl.1 rfl (Nat.le_of_ble_eq_true rfl) dX11_read_60 (fun b H locs hw => ?_)
  exact cw_X11_read_63 fu C hret r1 F1 G1 hm hw (lv_sub hl [0] rfl)
theorem cn_X11_read_50 (fu : Nat) {res : Int32 × PF × PG} (z0 : Int32) (F : PF) (G : PG) (hm : cb_X11_read_50 fu z0 F G = some res) : xn F ≤ xn res.2.1 := by
  unfold cb_X11_read_50 at hm
  by_cases c_1 : z0 = (0 : Int32)
  · have hm := (if_pos c_1).symm.trans hm
    exact (cn_X11_read_55 fu F G hm)
  · have hm := (if_neg c_1).symm.trans hm
    exact (cn_X11_read_64 fu z0 F G hm)
theorem cw_X11_read_50 (fu : Nat) {res : Int32 × PF × PG} (C : cMC p R s m args c A v RX11 cX11_read 2 607 36166 (xn res.2.1 - xn K0)) (hret : ∀ (b1 : Nat) (H1 : Heap) (locs1 : List Loc) (ls1 : Array Slot) (pc : Nat), cMW s A v a b1 K0 res.2.1 res.2.2 H1 locs1 → narrow .int (.int res.1) = .int res.1 → decode cX11_read pc = .ok (.ireturn, 1) → W p l e R s m args below meth c H1 locs1 (xn res.2.1 - xn K0) (2 * (xn res.2.1 - xn K0)) Q (F0 m pc ls1 [.int res.1])) (z0 : Int32) (F : PF) (G : PG) (hm : cb_X11_read_50 fu z0 F G = some res) {b : Nat} {H : Heap} {locs : List Loc} (hw : cMW s A v a b K0 F G H locs) {ls : Array Slot} (hl : lv_has ls 2 [(0, .ref (a 211))]) : W p l e R s m args below meth c H locs (xn F - xn K0) (2 * (xn F - xn K0)) Q (F0 m 50 ls [.int z0]) := by
  have hx := C.1
  have hb := C.2.1
  unfold cb_X11_read_50 at hm
  refine lv_istore_n (lv' := [(1, .int z0), (0, .ref (a 211))]) hx hb dX11_read_50 rfl hl (by decide) rfl (fun ls hl => ?_)
  refine lv_iload_n hx hb dX11_read_51 rfl (lv_at hl 0 rfl) ?_
  refine lv_if_ne (tgt := 64) hx hb dX11_read_52 (by decide) (fun c_1 => ?_) (fun c_1 => ?_)
  · have hm := (if_neg c_1).symm.trans hm
    exact cw_X11_read_64 fu C hret z0 F G hm hw (lv_sub hl [1, 0] rfl)
  · have hm := (if_pos c_1).symm.trans hm
    exact cw_X11_read_55 fu C hret F G hm hw (lv_sub hl [1] rfl)
theorem cn_X11_read_42 (fu : Nat) {res : Int32 × PF × PG} (F : PF) (G : PG) (hm : cb_X11_read_42 fu F G = some res) : xn F ≤ xn res.2.1 := by
  unfold cb_X11_read_42 at hm
  obtain ⟨⟨r1, F1, G1⟩, hc, hm⟩ := bind_elim hm
  exact Nat.le_trans (cn_X4_walk fu 0 F G _ hc) (cn_X11_read_50 fu r1 F1 G1 hm)
theorem cw_X11_read_42 (fu : Nat) {res : Int32 × PF × PG} (C : cMC p R s m args c A v RX11 cX11_read 2 607 36166 (xn res.2.1 - xn K0)) (hret : ∀ (b1 : Nat) (H1 : Heap) (locs1 : List Loc) (ls1 : Array Slot) (pc : Nat), cMW s A v a b1 K0 res.2.1 res.2.2 H1 locs1 → narrow .int (.int res.1) = .int res.1 → decode cX11_read pc = .ok (.ireturn, 1) → W p l e R s m args below meth c H1 locs1 (xn res.2.1 - xn K0) (2 * (xn res.2.1 - xn K0)) Q (F0 m pc ls1 [.int res.1])) (F : PF) (G : PG) (hm : cb_X11_read_42 fu F G = some res) {b : Nat} {H : Heap} {locs : List Loc} (hw : cMW s A v a b K0 F G H locs) {ls : Array Slot} (hl : lv_has ls 2 [(0, .ref (a 211))]) : W p l e R s m args below meth c H locs (xn F - xn K0) (2 * (xn F - xn K0)) Q (F0 m 42 ls []) := by
  have hx := C.1
  have hb := C.2.1
  unfold cb_X11_read_42 at hm
  refine lv_aload_n hx hb dX11_read_42 rfl (lv_at hl 0 rfl) ?_
  refine cg_X11_71 C hw dX11_read_43 ?_
  refine lv_iconst (v := 0) hx hb dX11_read_46 (by decide) ?_
  obtain ⟨⟨r1, F1, G1⟩, hc, hm⟩ := bind_elim hm
  refine ccallI (n := 1) (As := [.int 0]) (rest := []) C hw (ck_X4_walk l v a _ _ fu 0 F G r1 F1 G1 hc) (cn_X4_walk fu 0 F G _ hc) (Nat.sub_le_sub_right (cn_X11_read_50 fu r1 F1 G1 hm) _) (crecv_X4 C hw) cm_277 cm_278 cm_279 cm_244 cm_280 (by decide +kernel) rfl (by omega) (by omega) hl.1 rfl (Nat.le_of_ble_eq_true rfl) dX11_read_47 (fun b H locs hw => ?_)
  exact cw_X11_read_50 fu C hret r1 F1 G1 hm hw (lv_sub hl [0] rfl)
theorem cn_X11_read_39 (fu : Nat) {res : Int32 × PF × PG} (z0 : Int32) (F : PF) (G : PG) (hm : cb_X11_read_39 fu z0 F G = some res) : xn F ≤ xn res.2.1 := by
  unfold cb_X11_read_39 at hm
  obtain ⟨⟨r1, F1, G1⟩, hc, hm⟩ := bind_elim hm
  exact Nat.le_trans (cn_X4_clear fu z0 F G _ hc) (cn_X11_read_42 fu F1 G1 hm)
theorem cw_X11_read_39 (fu : Nat) {res : Int32 × PF × PG} (C : cMC p R s m args c A v RX11 cX11_read 2 607 36166 (xn res.2.1 - xn K0)) (hret : ∀ (b1 : Nat) (H1 : Heap) (locs1 : List Loc) (ls1 : Array Slot) (pc : Nat), cMW s A v a b1 K0 res.2.1 res.2.2 H1 locs1 → narrow .int (.int res.1) = .int res.1 → decode cX11_read pc = .ok (.ireturn, 1) → W p l e R s m args below meth c H1 locs1 (xn res.2.1 - xn K0) (2 * (xn res.2.1 - xn K0)) Q (F0 m pc ls1 [.int res.1])) (z0 : Int32) (F : PF) (G : PG) (hm : cb_X11_read_39 fu z0 F G = some res) {b : Nat} {H : Heap} {locs : List Loc} (hw : cMW s A v a b K0 F G H locs) {ls : Array Slot} (hl : lv_has ls 2 [(0, .ref (a 211))]) : W p l e R s m args below meth c H locs (xn F - xn K0) (2 * (xn F - xn K0)) Q (F0 m 39 ls [.int z0, .ref (a 204)]) := by
  have hx := C.1
  have hb := C.2.1
  unfold cb_X11_read_39 at hm
  obtain ⟨⟨r1, F1, G1⟩, hc, hm⟩ := bind_elim hm
  refine ccallV (n := 1) (As := [.int z0]) (rest := []) C hw (ck_X4_clear l v a _ _ fu z0 F G r1 F1 G1 hc) (cn_X4_clear fu z0 F G _ hc) (Nat.sub_le_sub_right (cn_X11_read_42 fu F1 G1 hm) _) (crecv_X4 C hw) cm_241 cm_242 cm_243 cm_244 cm_245 (by decide +kernel) rfl (by omega) (by omega) hl.1 rfl (Nat.le_of_ble_eq_true rfl) dX11_read_39 (fun b H locs hw => ?_)
  exact cw_X11_read_42 fu C hret F1 G1 hm hw (lv_sub hl [0] rfl)
theorem cn_X11_read_28 (fu : Nat) {res : Int32 × PF × PG} (F : PF) (G : PG) (hm : cb_X11_read_28 fu F G = some res) : xn F ≤ xn res.2.1 := by
  unfold cb_X11_read_28 at hm
  obtain ⟨⟨r1, F1, G1⟩, hc, hm⟩ := bind_elim hm
  exact Nat.le_trans (cn_X10_mainId fu F G _ hc) (cn_X11_read_39 fu r1 F1 G1 hm)
theorem cw_X11_read_28 (fu : Nat) {res : Int32 × PF × PG} (C : cMC p R s m args c A v RX11 cX11_read 2 607 36166 (xn res.2.1 - xn K0)) (hret : ∀ (b1 : Nat) (H1 : Heap) (locs1 : List Loc) (ls1 : Array Slot) (pc : Nat), cMW s A v a b1 K0 res.2.1 res.2.2 H1 locs1 → narrow .int (.int res.1) = .int res.1 → decode cX11_read pc = .ok (.ireturn, 1) → W p l e R s m args below meth c H1 locs1 (xn res.2.1 - xn K0) (2 * (xn res.2.1 - xn K0)) Q (F0 m pc ls1 [.int res.1])) (F : PF) (G : PG) (hm : cb_X11_read_28 fu F G = some res) {b : Nat} {H : Heap} {locs : List Loc} (hw : cMW s A v a b K0 F G H locs) {ls : Array Slot} (hl : lv_has ls 2 [(0, .ref (a 211))]) : W p l e R s m args below meth c H locs (xn F - xn K0) (2 * (xn F - xn K0)) Q (F0 m 28 ls []) := by
  have hx := C.1
  have hb := C.2.1
  unfold cb_X11_read_28 at hm
  refine lv_aload_n hx hb dX11_read_28 rfl (lv_at hl 0 rfl) ?_
  refine cg_X11_71 C hw dX11_read_29 ?_
  refine lv_aload_n hx hb dX11_read_32 rfl (lv_at hl 0 rfl) ?_
  refine cg_X11_24 C hw dX11_read_33 ?_
  obtain ⟨⟨r1, F1, G1⟩, hc, hm⟩ := bind_elim hm
  refine ccallI (n := 0) (As := []) (rest := [.ref (a 204)]) C hw (ck_X10_mainId l v a _ _ fu F G r1 F1 G1 hc) (cn_X10_mainId fu F G _ hc) (Nat.sub_le_sub_right (cn_X11_read_39 fu r1 F1 G1 hm) _) (crecv_X10 C hw) cm_237 cm_238 cm_239 cm_46 cm_240 (by decide +kernel) rfl (by omega) (by omega) hl.1 rfl (Nat.le_of_ble_eq_true rfl) dX11_read_36 (fun b H locs hw => ?_)
  exact cw_X11_read_39 fu C hret r1 F1 G1 hm hw (lv_sub hl [0] rfl)
theorem cn_X11_read_21 (fu : Nat) {res : Int32 × PF × PG} (F : PF) (G : PG) (hm : cb_X11_read_21 fu F G = some res) : xn F ≤ xn res.2.1 := by
  unfold cb_X11_read_21 at hm
  obtain ⟨⟨r1, F1, G1⟩, hc, hm⟩ := bind_elim hm
  exact Nat.le_trans (cn_X10_scan fu F G _ hc) (cn_X11_read_28 fu F1 G1 hm)
theorem cw_X11_read_21 (fu : Nat) {res : Int32 × PF × PG} (C : cMC p R s m args c A v RX11 cX11_read 2 607 36166 (xn res.2.1 - xn K0)) (hret : ∀ (b1 : Nat) (H1 : Heap) (locs1 : List Loc) (ls1 : Array Slot) (pc : Nat), cMW s A v a b1 K0 res.2.1 res.2.2 H1 locs1 → narrow .int (.int res.1) = .int res.1 → decode cX11_read pc = .ok (.ireturn, 1) → W p l e R s m args below meth c H1 locs1 (xn res.2.1 - xn K0) (2 * (xn res.2.1 - xn K0)) Q (F0 m pc ls1 [.int res.1])) (F : PF) (G : PG) (hm : cb_X11_read_21 fu F G = some res) {b : Nat} {H : Heap} {locs : List Loc} (hw : cMW s A v a b K0 F G H locs) {ls : Array Slot} (hl : lv_has ls 2 [(0, .ref (a 211))]) : W p l e R s m args below meth c H locs (xn F - xn K0) (2 * (xn F - xn K0)) Q (F0 m 21 ls []) := by
  have hx := C.1
  have hb := C.2.1
  unfold cb_X11_read_21 at hm
  refine lv_aload_n hx hb dX11_read_21 rfl (lv_at hl 0 rfl) ?_
  refine cg_X11_24 C hw dX11_read_22 ?_
  obtain ⟨⟨r1, F1, G1⟩, hc, hm⟩ := bind_elim hm
  refine ccallV (n := 0) (As := []) (rest := []) C hw (ck_X10_scan l v a _ _ fu F G r1 F1 G1 hc) (cn_X10_scan fu F G _ hc) (Nat.sub_le_sub_right (cn_X11_read_28 fu F1 G1 hm) _) (crecv_X10 C hw) cm_43 cm_44 cm_45 cm_46 cm_47 (by decide +kernel) rfl (by omega) (by omega) hl.1 rfl (Nat.le_of_ble_eq_true rfl) dX11_read_25 (fun b H locs hw => ?_)
  exact cw_X11_read_28 fu C hret F1 G1 hm hw (lv_sub hl [0] rfl)
theorem cn_X11_read_14 (fu : Nat) {res : Int32 × PF × PG} (F : PF) (G : PG) (hm : cb_X11_read_14 fu F G = some res) : xn F ≤ xn res.2.1 := by
  unfold cb_X11_read_14 at hm
  obtain ⟨⟨r1, F1, G1⟩, hc, hm⟩ := bind_elim hm
  exact Nat.le_trans (cn_X7_forgetOutput fu F G _ hc) (cn_X11_read_21 fu F1 G1 hm)
theorem cw_X11_read_14 (fu : Nat) {res : Int32 × PF × PG} (C : cMC p R s m args c A v RX11 cX11_read 2 607 36166 (xn res.2.1 - xn K0)) (hret : ∀ (b1 : Nat) (H1 : Heap) (locs1 : List Loc) (ls1 : Array Slot) (pc : Nat), cMW s A v a b1 K0 res.2.1 res.2.2 H1 locs1 → narrow .int (.int res.1) = .int res.1 → decode cX11_read pc = .ok (.ireturn, 1) → W p l e R s m args below meth c H1 locs1 (xn res.2.1 - xn K0) (2 * (xn res.2.1 - xn K0)) Q (F0 m pc ls1 [.int res.1])) (F : PF) (G : PG) (hm : cb_X11_read_14 fu F G = some res) {b : Nat} {H : Heap} {locs : List Loc} (hw : cMW s A v a b K0 F G H locs) {ls : Array Slot} (hl : lv_has ls 2 [(0, .ref (a 211))]) : W p l e R s m args below meth c H locs (xn F - xn K0) (2 * (xn F - xn K0)) Q (F0 m 14 ls []) := by
  have hx := C.1
  have hb := C.2.1
  unfold cb_X11_read_14 at hm
  refine lv_aload_n hx hb dX11_read_14 rfl (lv_at hl 0 rfl) ?_
  refine cg_X11_38 C hw dX11_read_15 ?_
  obtain ⟨⟨r1, F1, G1⟩, hc, hm⟩ := bind_elim hm
  refine ccallV (n := 0) (As := []) (rest := []) C hw (ck_X7_forgetOutput l v a _ _ fu F G r1 F1 G1 hc) (cn_X7_forgetOutput fu F G _ hc) (Nat.sub_le_sub_right (cn_X11_read_21 fu F1 G1 hm) _) (crecv_X7 C hw) cm_38 cm_39 cm_40 cm_34 cm_41 (by decide +kernel) rfl (by omega) (by omega) hl.1 rfl (Nat.le_of_ble_eq_true rfl) dX11_read_18 (fun b H locs hw => ?_)
  exact cw_X11_read_21 fu C hret F1 G1 hm hw (lv_sub hl [0] rfl)
theorem cn_X11_read_7 (fu : Nat) {res : Int32 × PF × PG} (F : PF) (G : PG) (hm : cb_X11_read_7 fu F G = some res) : xn F ≤ xn res.2.1 := by
  unfold cb_X11_read_7 at hm
  obtain ⟨⟨r1, F1, G1⟩, hc, hm⟩ := bind_elim hm
  exact Nat.le_trans (cn_X7_forgetInput fu F G _ hc) (cn_X11_read_14 fu F1 G1 hm)
theorem cw_X11_read_7 (fu : Nat) {res : Int32 × PF × PG} (C : cMC p R s m args c A v RX11 cX11_read 2 607 36166 (xn res.2.1 - xn K0)) (hret : ∀ (b1 : Nat) (H1 : Heap) (locs1 : List Loc) (ls1 : Array Slot) (pc : Nat), cMW s A v a b1 K0 res.2.1 res.2.2 H1 locs1 → narrow .int (.int res.1) = .int res.1 → decode cX11_read pc = .ok (.ireturn, 1) → W p l e R s m args below meth c H1 locs1 (xn res.2.1 - xn K0) (2 * (xn res.2.1 - xn K0)) Q (F0 m pc ls1 [.int res.1])) (F : PF) (G : PG) (hm : cb_X11_read_7 fu F G = some res) {b : Nat} {H : Heap} {locs : List Loc} (hw : cMW s A v a b K0 F G H locs) {ls : Array Slot} (hl : lv_has ls 2 [(0, .ref (a 211))]) : W p l e R s m args below meth c H locs (xn F - xn K0) (2 * (xn F - xn K0)) Q (F0 m 7 ls []) := by
  have hx := C.1
  have hb := C.2.1
  unfold cb_X11_read_7 at hm
  refine lv_aload_n hx hb dX11_read_7 rfl (lv_at hl 0 rfl) ?_
  refine cg_X11_38 C hw dX11_read_8 ?_
  obtain ⟨⟨r1, F1, G1⟩, hc, hm⟩ := bind_elim hm
  refine ccallV (n := 0) (As := []) (rest := []) C hw (ck_X7_forgetInput l v a _ _ fu F G r1 F1 G1 hc) (cn_X7_forgetInput fu F G _ hc) (Nat.sub_le_sub_right (cn_X11_read_14 fu F1 G1 hm) _) (crecv_X7 C hw) cm_31 cm_32 cm_33 cm_34 cm_35 (by decide +kernel) rfl (by omega) (by omega) hl.1 rfl (Nat.le_of_ble_eq_true rfl) dX11_read_11 (fun b H locs hw => ?_)
  exact cw_X11_read_14 fu C hret F1 G1 hm hw (lv_sub hl [0] rfl)
theorem cn_X11_read_0 (fu : Nat) {res : Int32 × PF × PG} (F : PF) (G : PG) (hm : cb_X11_read_0 fu F G = some res) : xn F ≤ xn res.2.1 := by
  unfold cb_X11_read_0 at hm
  obtain ⟨⟨r1, F1, G1⟩, hc, hm⟩ := bind_elim hm
  exact Nat.le_trans (cn_X6_forget fu F G _ hc) (cn_X11_read_7 fu F1 G1 hm)
theorem cw_X11_read_0 (fu : Nat) {res : Int32 × PF × PG} (C : cMC p R s m args c A v RX11 cX11_read 2 607 36166 (xn res.2.1 - xn K0)) (hret : ∀ (b1 : Nat) (H1 : Heap) (locs1 : List Loc) (ls1 : Array Slot) (pc : Nat), cMW s A v a b1 K0 res.2.1 res.2.2 H1 locs1 → narrow .int (.int res.1) = .int res.1 → decode cX11_read pc = .ok (.ireturn, 1) → W p l e R s m args below meth c H1 locs1 (xn res.2.1 - xn K0) (2 * (xn res.2.1 - xn K0)) Q (F0 m pc ls1 [.int res.1])) (F : PF) (G : PG) (hm : cb_X11_read_0 fu F G = some res) {b : Nat} {H : Heap} {locs : List Loc} (hw : cMW s A v a b K0 F G H locs) {ls : Array Slot} (hl : lv_has ls 2 [(0, .ref (a 211))]) : W p l e R s m args below meth c H locs (xn F - xn K0) (2 * (xn F - xn K0)) Q (F0 m 0 ls []) := by
  have hx := C.1
  have hb := C.2.1
  unfold cb_X11_read_0 at hm
  refine lv_aload_n hx hb dX11_read_0 rfl (lv_at hl 0 rfl) ?_
  refine cg_X11_47 C hw dX11_read_1 ?_
  obtain ⟨⟨r1, F1, G1⟩, hc, hm⟩ := bind_elim hm
  refine ccallV (n := 0) (As := []) (rest := []) C hw (ck_X6_forget l v a _ _ fu F G r1 F1 G1 hc) (cn_X6_forget fu F G _ hc) (Nat.sub_le_sub_right (cn_X11_read_7 fu F1 G1 hm) _) (crecv_X6 C hw) cm_18 cm_19 cm_20 cm_21 cm_22 (by decide +kernel) rfl (by omega) (by omega) hl.1 rfl (Nat.le_of_ble_eq_true rfl) dX11_read_4 (fun b H locs hw => ?_)
  exact cw_X11_read_7 fu C hret F1 G1 hm hw (lv_sub hl [0] rfl)
theorem cn_X11_read (fu : Nat) (F : PF) (G : PG) (q : Int32 × PF × PG) (hm : cf_X11_read fu F G = some q) : xn F ≤ xn q.2.1 := cn_X11_read_0 fu F G hm
theorem ck_X11_read (l : Launch) (v : EV) (a : Nat → Nat) (b sz : Nat) (fu : Nat) (F : PF) (G : PG) (r : Int32) (F1 : PF) (G1 : PG) (hm : cf_X11_read fu F G = some (r, F1, G1)) : cMI l yX11_read cX11_read 2 (some .int) 607 36166 v a b sz [.ref (a 211)] F G r F1 G1 := cMI.of (ty := .int) (by decide) rfl (Nat.le_of_ble_eq_true rfl) (fun p e R s m args below meth c Q A H locs ls C hw hl hret => cw_X11_read_0 fu (res := (r, F1, G1)) C hret F G hm hw hl)
def cb_X11_look_52 (fu : Nat) (F : PF) (G : PG) : PR := some ((-1), F, G)
def cb_X11_look_84 (fu : Nat) (x2 : Int32) (F : PF) (G : PG) : PR := if ixb x2 450 = true then (some ((G 77 x2.toNatClampNeg), F, G)) else none
def cb_X11_look_94 (fu : Nat) (x2 : Int32) (F : PF) (G : PG) : PR := if ixb x2 450 = true then (some ((G 78 x2.toNatClampNeg), F, G)) else none
def cb_X11_look_104 (fu : Nat) (x2 : Int32) (F : PF) (G : PG) : PR := if ixb x2 450 = true then (some ((G 79 x2.toNatClampNeg), F, G)) else none
def cb_X11_look_130 (fu : Nat) (z0 : Int32) (F : PF) (G : PG) : PR := some (z0, F, G)
def cb_X11_look_129 (fu : Nat) (F : PF) (G : PG) : PR := cb_X11_look_130 fu 0 F G
def cb_X11_look_125 (fu : Nat) (F : PF) (G : PG) : PR := cb_X11_look_130 fu 1 F G
def cb_X11_look_122 (fu : Nat) (z0 : Int32) (F : PF) (G : PG) : PR := if z0 = (0 : Int32) then cb_X11_look_129 fu F G else cb_X11_look_125 fu F G
def cb_X11_look_114 (fu : Nat) (x2 : Int32) (F : PF) (G : PG) : PR := (cf_X8_gives fu x2 F G).bind (fun q => cb_X11_look_122 fu q.1 q.2.1 q.2.2)
def cb_X11_look_131 (fu : Nat) (F : PF) (G : PG) : PR := some ((-1), F, G)
def cb_X11_look_54 (fu : Nat) (x1 : Int32) (x2 : Int32) (F : PF) (G : PG) : PR := if x1.toInt < 2 ∨ 5 < x1.toInt then cb_X11_look_131 fu F G else if x1 = 2 then cb_X11_look_84 fu x2 F G else if x1 = 3 then cb_X11_look_94 fu x2 F G else if x1 = 4 then cb_X11_look_104 fu x2 F G else cb_X11_look_114 fu x2 F G
def cb_X11_look_41 (fu : Nat) (x1 : Int32) (x2 : Int32) (F : PF) (G : PG) : PR := if x2 < (F 74) then cb_X11_look_54 fu x1 x2 F G else cb_X11_look_52 fu F G
def cb_X11_look_37 (fu : Nat) (x1 : Int32) (x2 : Int32) (F : PF) (G : PG) : PR := if x2 < (0 : Int32) then cb_X11_look_52 fu F G else cb_X11_look_41 fu x1 x2 F G
def cb_X11_look_29 (fu : Nat) (F : PF) (G : PG) : PR := some ((F 75), F, G)
def cb_X11_look_24 (fu : Nat) (x1 : Int32) (x2 : Int32) (F : PF) (G : PG) : PR := if x1 = (1 : Int32) then cb_X11_look_29 fu F G else cb_X11_look_37 fu x1 x2 F G
def cb_X11_look_16 (fu : Nat) (F : PF) (G : PG) : PR := some ((F 74), F, G)
def cb_X11_look_12 (fu : Nat) (x1 : Int32) (x2 : Int32) (F : PF) (G : PG) : PR := if x1 = (0 : Int32) then cb_X11_look_16 fu F G else cb_X11_look_24 fu x1 x2 F G
def cb_X11_look_10 (fu : Nat) (F : PF) (G : PG) : PR := some ((-1), F, G)
def cb_X11_look_0 (fu : Nat) (x1 : Int32) (x2 : Int32) (F : PF) (G : PG) : PR := if (F 73) = (0 : Int32) then cb_X11_look_10 fu F G else cb_X11_look_12 fu x1 x2 F G
def cf_X11_look (fu : Nat) (x1 : Int32) (x2 : Int32) (F : PF) (G : PG) : PR := cb_X11_look_0 fu x1 x2 F G
theorem cn_X11_look_52 (fu : Nat) {res : Int32 × PF × PG} (F : PF) (G : PG) (hm : cb_X11_look_52 fu F G = some res) : xn F ≤ xn res.2.1 := by
  unfold cb_X11_look_52 at hm
  obtain rfl := Option.some.inj hm
  exact Nat.le_refl _
theorem cw_X11_look_52 (fu : Nat) {res : Int32 × PF × PG} (C : cMC p R s m args c A v RX11 cX11_look 3 1 21 (xn res.2.1 - xn K0)) (hret : ∀ (b1 : Nat) (H1 : Heap) (locs1 : List Loc) (ls1 : Array Slot) (pc : Nat), cMW s A v a b1 K0 res.2.1 res.2.2 H1 locs1 → narrow .int (.int res.1) = .int res.1 → decode cX11_look pc = .ok (.ireturn, 1) → W p l e R s m args below meth c H1 locs1 (xn res.2.1 - xn K0) (2 * (xn res.2.1 - xn K0)) Q (F0 m pc ls1 [.int res.1])) (F : PF) (G : PG) (hm : cb_X11_look_52 fu F G = some res) {b : Nat} {H : Heap} {locs : List Loc} (hw : cMW s A v a b K0 F G H locs) {ls : Array Slot} (hl : lv_has ls 3 []) : W p l e R s m args below meth c H locs (xn F - xn K0) (2 * (xn F - xn K0)) Q (F0 m 52 ls []) := by
  have hx := C.1
  have hb := C.2.1
  unfold cb_X11_look_52 at hm
  refine lv_iconst (v := (-1)) hx hb dX11_look_52 (by decide) ?_
  obtain rfl := Option.some.inj hm
  exact hret _ _ _ _ _ hw rfl dX11_look_53
theorem cn_X11_look_84 (fu : Nat) {res : Int32 × PF × PG} (x2 : Int32) (F : PF) (G : PG) (hm : cb_X11_look_84 fu x2 F G = some res) : xn F ≤ xn res.2.1 := by
  unfold cb_X11_look_84 at hm
  have hm := (ix_elim hm).2
  obtain rfl := Option.some.inj hm
  exact Nat.le_refl _
theorem cw_X11_look_84 (fu : Nat) {res : Int32 × PF × PG} (C : cMC p R s m args c A v RX11 cX11_look 3 1 21 (xn res.2.1 - xn K0)) (hret : ∀ (b1 : Nat) (H1 : Heap) (locs1 : List Loc) (ls1 : Array Slot) (pc : Nat), cMW s A v a b1 K0 res.2.1 res.2.2 H1 locs1 → narrow .int (.int res.1) = .int res.1 → decode cX11_look pc = .ok (.ireturn, 1) → W p l e R s m args below meth c H1 locs1 (xn res.2.1 - xn K0) (2 * (xn res.2.1 - xn K0)) Q (F0 m pc ls1 [.int res.1])) (x2 : Int32) (F : PF) (G : PG) (hm : cb_X11_look_84 fu x2 F G = some res) {b : Nat} {H : Heap} {locs : List Loc} (hw : cMW s A v a b K0 F G H locs) {ls : Array Slot} (hl : lv_has ls 3 [(0, .ref (a 211)), (2, .int x2)]) : W p l e R s m args below meth c H locs (xn F - xn K0) (2 * (xn F - xn K0)) Q (F0 m 84 ls []) := by
  have hx := C.1
  have hb := C.2.1
  unfold cb_X11_look_84 at hm
  refine lv_aload_n hx hb dX11_look_84 rfl (lv_at hl 0 rfl) ?_
  refine cg_X11_31 C hw dX11_look_85 ?_
  refine cg_X11_123 C hw dX11_look_88 ?_
  refine lv_iload_n hx hb dX11_look_91 rfl (lv_at hl 1 rfl) ?_
  obtain ⟨hi, hm⟩ := ix_elim hm
  refine cal_77 C hw hi dX11_look_92 ?_
  obtain rfl := Option.some.inj hm
  exact hret _ _ _ _ _ hw rfl dX11_look_93
theorem cn_X11_look_94 (fu : Nat) {res : Int32 × PF × PG} (x2 : Int32) (F : PF) (G : PG) (hm : cb_X11_look_94 fu x2 F G = some res) : xn F ≤ xn res.2.1 := by
  unfold cb_X11_look_94 at hm
  have hm := (ix_elim hm).2
  obtain rfl := Option.some.inj hm
  exact Nat.le_refl _
theorem cw_X11_look_94 (fu : Nat) {res : Int32 × PF × PG} (C : cMC p R s m args c A v RX11 cX11_look 3 1 21 (xn res.2.1 - xn K0)) (hret : ∀ (b1 : Nat) (H1 : Heap) (locs1 : List Loc) (ls1 : Array Slot) (pc : Nat), cMW s A v a b1 K0 res.2.1 res.2.2 H1 locs1 → narrow .int (.int res.1) = .int res.1 → decode cX11_look pc = .ok (.ireturn, 1) → W p l e R s m args below meth c H1 locs1 (xn res.2.1 - xn K0) (2 * (xn res.2.1 - xn K0)) Q (F0 m pc ls1 [.int res.1])) (x2 : Int32) (F : PF) (G : PG) (hm : cb_X11_look_94 fu x2 F G = some res) {b : Nat} {H : Heap} {locs : List Loc} (hw : cMW s A v a b K0 F G H locs) {ls : Array Slot} (hl : lv_has ls 3 [(0, .ref (a 211)), (2, .int x2)]) : W p l e R s m args below meth c H locs (xn F - xn K0) (2 * (xn F - xn K0)) Q (F0 m 94 ls []) := by
  have hx := C.1
  have hb := C.2.1
  unfold cb_X11_look_94 at hm
  refine lv_aload_n hx hb dX11_look_94 rfl (lv_at hl 0 rfl) ?_
  refine cg_X11_31 C hw dX11_look_95 ?_
  refine cg_X11_127 C hw dX11_look_98 ?_
  refine lv_iload_n hx hb dX11_look_101 rfl (lv_at hl 1 rfl) ?_
  obtain ⟨hi, hm⟩ := ix_elim hm
  refine cal_78 C hw hi dX11_look_102 ?_
  obtain rfl := Option.some.inj hm
  exact hret _ _ _ _ _ hw rfl dX11_look_103
theorem cn_X11_look_104 (fu : Nat) {res : Int32 × PF × PG} (x2 : Int32) (F : PF) (G : PG) (hm : cb_X11_look_104 fu x2 F G = some res) : xn F ≤ xn res.2.1 := by
  unfold cb_X11_look_104 at hm
  have hm := (ix_elim hm).2
  obtain rfl := Option.some.inj hm
  exact Nat.le_refl _
theorem cw_X11_look_104 (fu : Nat) {res : Int32 × PF × PG} (C : cMC p R s m args c A v RX11 cX11_look 3 1 21 (xn res.2.1 - xn K0)) (hret : ∀ (b1 : Nat) (H1 : Heap) (locs1 : List Loc) (ls1 : Array Slot) (pc : Nat), cMW s A v a b1 K0 res.2.1 res.2.2 H1 locs1 → narrow .int (.int res.1) = .int res.1 → decode cX11_look pc = .ok (.ireturn, 1) → W p l e R s m args below meth c H1 locs1 (xn res.2.1 - xn K0) (2 * (xn res.2.1 - xn K0)) Q (F0 m pc ls1 [.int res.1])) (x2 : Int32) (F : PF) (G : PG) (hm : cb_X11_look_104 fu x2 F G = some res) {b : Nat} {H : Heap} {locs : List Loc} (hw : cMW s A v a b K0 F G H locs) {ls : Array Slot} (hl : lv_has ls 3 [(0, .ref (a 211)), (2, .int x2)]) : W p l e R s m args below meth c H locs (xn F - xn K0) (2 * (xn F - xn K0)) Q (F0 m 104 ls []) := by
  have hx := C.1
  have hb := C.2.1
  unfold cb_X11_look_104 at hm
  refine lv_aload_n hx hb dX11_look_104 rfl (lv_at hl 0 rfl) ?_
  refine cg_X11_31 C hw dX11_look_105 ?_
  refine cg_X11_130 C hw dX11_look_108 ?_
  refine lv_iload_n hx hb dX11_look_111 rfl (lv_at hl 1 rfl) ?_
  obtain ⟨hi, hm⟩ := ix_elim hm
  refine cal_79 C hw hi dX11_look_112 ?_
  obtain rfl := Option.some.inj hm
  exact hret _ _ _ _ _ hw rfl dX11_look_113
theorem cn_X11_look_130 (fu : Nat) {res : Int32 × PF × PG} (z0 : Int32) (F : PF) (G : PG) (hm : cb_X11_look_130 fu z0 F G = some res) : xn F ≤ xn res.2.1 := by
  unfold cb_X11_look_130 at hm
  obtain rfl := Option.some.inj hm
  exact Nat.le_refl _
theorem cw_X11_look_130 (fu : Nat) {res : Int32 × PF × PG} (C : cMC p R s m args c A v RX11 cX11_look 3 1 21 (xn res.2.1 - xn K0)) (hret : ∀ (b1 : Nat) (H1 : Heap) (locs1 : List Loc) (ls1 : Array Slot) (pc : Nat), cMW s A v a b1 K0 res.2.1 res.2.2 H1 locs1 → narrow .int (.int res.1) = .int res.1 → decode cX11_look pc = .ok (.ireturn, 1) → W p l e R s m args below meth c H1 locs1 (xn res.2.1 - xn K0) (2 * (xn res.2.1 - xn K0)) Q (F0 m pc ls1 [.int res.1])) (z0 : Int32) (F : PF) (G : PG) (hm : cb_X11_look_130 fu z0 F G = some res) {b : Nat} {H : Heap} {locs : List Loc} (hw : cMW s A v a b K0 F G H locs) {ls : Array Slot} (hl : lv_has ls 3 []) : W p l e R s m args below meth c H locs (xn F - xn K0) (2 * (xn F - xn K0)) Q (F0 m 130 ls [.int z0]) := by
  have hx := C.1
  have hb := C.2.1
  unfold cb_X11_look_130 at hm
  obtain rfl := Option.some.inj hm
  exact hret _ _ _ _ _ hw rfl dX11_look_130
theorem cn_X11_look_129 (fu : Nat) {res : Int32 × PF × PG} (F : PF) (G : PG) (hm : cb_X11_look_129 fu F G = some res) : xn F ≤ xn res.2.1 := by
  unfold cb_X11_look_129 at hm
  exact (cn_X11_look_130 fu 0 F G hm)
theorem cw_X11_look_129 (fu : Nat) {res : Int32 × PF × PG} (C : cMC p R s m args c A v RX11 cX11_look 3 1 21 (xn res.2.1 - xn K0)) (hret : ∀ (b1 : Nat) (H1 : Heap) (locs1 : List Loc) (ls1 : Array Slot) (pc : Nat), cMW s A v a b1 K0 res.2.1 res.2.2 H1 locs1 → narrow .int (.int res.1) = .int res.1 → decode cX11_look pc = .ok (.ireturn, 1) → W p l e R s m args below meth c H1 locs1 (xn res.2.1 - xn K0) (2 * (xn res.2.1 - xn K0)) Q (F0 m pc ls1 [.int res.1])) (F : PF) (G : PG) (hm : cb_X11_look_129 fu F G = some res) {b : Nat} {H : Heap} {locs : List Loc} (hw : cMW s A v a b K0 F G H locs) {ls : Array Slot} (hl : lv_has ls 3 []) : W p l e R s m args below meth c H locs (xn F - xn K0) (2 * (xn F - xn K0)) Q (F0 m 129 ls []) := by
  have hx := C.1
  have hb := C.2.1
  unfold cb_X11_look_129 at hm
  refine lv_iconst (v := 0) hx hb dX11_look_129 (by decide) ?_
  exact cw_X11_look_130 fu C hret 0 F G hm hw (lv_sub hl [] rfl)
theorem cn_X11_look_125 (fu : Nat) {res : Int32 × PF × PG} (F : PF) (G : PG) (hm : cb_X11_look_125 fu F G = some res) : xn F ≤ xn res.2.1 := by
  unfold cb_X11_look_125 at hm
  exact (cn_X11_look_130 fu 1 F G hm)
theorem cw_X11_look_125 (fu : Nat) {res : Int32 × PF × PG} (C : cMC p R s m args c A v RX11 cX11_look 3 1 21 (xn res.2.1 - xn K0)) (hret : ∀ (b1 : Nat) (H1 : Heap) (locs1 : List Loc) (ls1 : Array Slot) (pc : Nat), cMW s A v a b1 K0 res.2.1 res.2.2 H1 locs1 → narrow .int (.int res.1) = .int res.1 → decode cX11_look pc = .ok (.ireturn, 1) → W p l e R s m args below meth c H1 locs1 (xn res.2.1 - xn K0) (2 * (xn res.2.1 - xn K0)) Q (F0 m pc ls1 [.int res.1])) (F : PF) (G : PG) (hm : cb_X11_look_125 fu F G = some res) {b : Nat} {H : Heap} {locs : List Loc} (hw : cMW s A v a b K0 F G H locs) {ls : Array Slot} (hl : lv_has ls 3 []) : W p l e R s m args below meth c H locs (xn F - xn K0) (2 * (xn F - xn K0)) Q (F0 m 125 ls []) := by
  have hx := C.1
  have hb := C.2.1
  unfold cb_X11_look_125 at hm
  refine lv_iconst (v := 1) hx hb dX11_look_125 (by decide) ?_
  refine lv_goto (tgt := 130) hx hb dX11_look_126 (by decide) ?_
  exact cw_X11_look_130 fu C hret 1 F G hm hw (lv_sub hl [] rfl)
theorem cn_X11_look_122 (fu : Nat) {res : Int32 × PF × PG} (z0 : Int32) (F : PF) (G : PG) (hm : cb_X11_look_122 fu z0 F G = some res) : xn F ≤ xn res.2.1 := by
  unfold cb_X11_look_122 at hm
  by_cases c_1 : z0 = (0 : Int32)
  · have hm := (if_pos c_1).symm.trans hm
    exact (cn_X11_look_129 fu F G hm)
  · have hm := (if_neg c_1).symm.trans hm
    exact (cn_X11_look_125 fu F G hm)
theorem cw_X11_look_122 (fu : Nat) {res : Int32 × PF × PG} (C : cMC p R s m args c A v RX11 cX11_look 3 1 21 (xn res.2.1 - xn K0)) (hret : ∀ (b1 : Nat) (H1 : Heap) (locs1 : List Loc) (ls1 : Array Slot) (pc : Nat), cMW s A v a b1 K0 res.2.1 res.2.2 H1 locs1 → narrow .int (.int res.1) = .int res.1 → decode cX11_look pc = .ok (.ireturn, 1) → W p l e R s m args below meth c H1 locs1 (xn res.2.1 - xn K0) (2 * (xn res.2.1 - xn K0)) Q (F0 m pc ls1 [.int res.1])) (z0 : Int32) (F : PF) (G : PG) (hm : cb_X11_look_122 fu z0 F G = some res) {b : Nat} {H : Heap} {locs : List Loc} (hw : cMW s A v a b K0 F G H locs) {ls : Array Slot} (hl : lv_has ls 3 []) : W p l e R s m args below meth c H locs (xn F - xn K0) (2 * (xn F - xn K0)) Q (F0 m 122 ls [.int z0]) := by
  have hx := C.1
  have hb := C.2.1
  unfold cb_X11_look_122 at hm
  refine lv_if_eq (tgt := 129) hx hb dX11_look_122 (by decide) (fun c_1 => ?_) (fun c_1 => ?_)
  · have hm := (if_pos c_1).symm.trans hm
    exact cw_X11_look_129 fu C hret F G hm hw (lv_sub hl [] rfl)
  · have hm := (if_neg c_1).symm.trans hm
    exact cw_X11_look_125 fu C hret F G hm hw (lv_sub hl [] rfl)
theorem cn_X11_look_114 (fu : Nat) {res : Int32 × PF × PG} (x2 : Int32) (F : PF) (G : PG) (hm : cb_X11_look_114 fu x2 F G = some res) : xn F ≤ xn res.2.1 := by
  unfold cb_X11_look_114 at hm
  obtain ⟨⟨r1, F1, G1⟩, hc, hm⟩ := bind_elim hm
  exact Nat.le_trans (cn_X8_gives fu x2 F G _ hc) (cn_X11_look_122 fu r1 F1 G1 hm)
theorem cw_X11_look_114 (fu : Nat) {res : Int32 × PF × PG} (C : cMC p R s m args c A v RX11 cX11_look 3 1 21 (xn res.2.1 - xn K0)) (hret : ∀ (b1 : Nat) (H1 : Heap) (locs1 : List Loc) (ls1 : Array Slot) (pc : Nat), cMW s A v a b1 K0 res.2.1 res.2.2 H1 locs1 → narrow .int (.int res.1) = .int res.1 → decode cX11_look pc = .ok (.ireturn, 1) → W p l e R s m args below meth c H1 locs1 (xn res.2.1 - xn K0) (2 * (xn res.2.1 - xn K0)) Q (F0 m pc ls1 [.int res.1])) (x2 : Int32) (F : PF) (G : PG) (hm : cb_X11_look_114 fu x2 F G = some res) {b : Nat} {H : Heap} {locs : List Loc} (hw : cMW s A v a b K0 F G H locs) {ls : Array Slot} (hl : lv_has ls 3 [(0, .ref (a 211)), (2, .int x2)]) : W p l e R s m args below meth c H locs (xn F - xn K0) (2 * (xn F - xn K0)) Q (F0 m 114 ls []) := by
  have hx := C.1
  have hb := C.2.1
  unfold cb_X11_look_114 at hm
  refine lv_aload_n hx hb dX11_look_114 rfl (lv_at hl 0 rfl) ?_
  refine cg_X11_31 C hw dX11_look_115 ?_
  refine lv_iload_n hx hb dX11_look_118 rfl (lv_at hl 1 rfl) ?_
  obtain ⟨⟨r1, F1, G1⟩, hc, hm⟩ := bind_elim hm
  refine ccallI (n := 1) (As := [.int x2]) (rest := []) C hw (ck_X8_gives l v a _ _ fu x2 F G r1 F1 G1 hc) (cn_X8_gives fu x2 F G _ hc) (Nat.sub_le_sub_right (cn_X11_look_122 fu r1 F1 G1 hm) _) (crecv_X8 C hw) cm_802 cm_493 cm_494 cm_254 cm_495 (by decide +kernel) rfl (by omega) (by omega) hl.1 rfl (Nat.le_of_ble_eq_true rfl) dX11_look_119 (fun b H locs hw => ?_)
  exact cw_X11_look_122 fu C hret r1 F1 G1 hm hw (lv_sub hl [] rfl)
theorem cn_X11_look_131 (fu : Nat) {res : Int32 × PF × PG} (F : PF) (G : PG) (hm : cb_X11_look_131 fu F G = some res) : xn F ≤ xn res.2.1 := by
  unfold cb_X11_look_131 at hm
  obtain rfl := Option.some.inj hm
  exact Nat.le_refl _
theorem cw_X11_look_131 (fu : Nat) {res : Int32 × PF × PG} (C : cMC p R s m args c A v RX11 cX11_look 3 1 21 (xn res.2.1 - xn K0)) (hret : ∀ (b1 : Nat) (H1 : Heap) (locs1 : List Loc) (ls1 : Array Slot) (pc : Nat), cMW s A v a b1 K0 res.2.1 res.2.2 H1 locs1 → narrow .int (.int res.1) = .int res.1 → decode cX11_look pc = .ok (.ireturn, 1) → W p l e R s m args below meth c H1 locs1 (xn res.2.1 - xn K0) (2 * (xn res.2.1 - xn K0)) Q (F0 m pc ls1 [.int res.1])) (F : PF) (G : PG) (hm : cb_X11_look_131 fu F G = some res) {b : Nat} {H : Heap} {locs : List Loc} (hw : cMW s A v a b K0 F G H locs) {ls : Array Slot} (hl : lv_has ls 3 []) : W p l e R s m args below meth c H locs (xn F - xn K0) (2 * (xn F - xn K0)) Q (F0 m 131 ls []) := by
  have hx := C.1
  have hb := C.2.1
  unfold cb_X11_look_131 at hm
  refine lv_iconst (v := (-1)) hx hb dX11_look_131 (by decide) ?_
  obtain rfl := Option.some.inj hm
  exact hret _ _ _ _ _ hw rfl dX11_look_132
theorem cn_X11_look_54 (fu : Nat) {res : Int32 × PF × PG} (x1 : Int32) (x2 : Int32) (F : PF) (G : PG) (hm : cb_X11_look_54 fu x1 x2 F G = some res) : xn F ≤ xn res.2.1 := by
  unfold cb_X11_look_54 at hm
  by_cases c_0 : x1.toInt < 2 ∨ 5 < x1.toInt
  · have hm := (if_pos c_0).symm.trans hm
    exact (cn_X11_look_131 fu F G hm)
  have hm := (if_neg c_0).symm.trans hm
  by_cases c_1 : x1 = 2
  · have hm := (if_pos c_1).symm.trans hm
    exact (cn_X11_look_84 fu x2 F G hm)
  have hm := (if_neg c_1).symm.trans hm
  clear c_1
  by_cases c_1 : x1 = 3
  · have hm := (if_pos c_1).symm.trans hm
    exact (cn_X11_look_94 fu x2 F G hm)
  have hm := (if_neg c_1).symm.trans hm
  clear c_1
  by_cases c_1 : x1 = 4
  · have hm := (if_pos c_1).symm.trans hm
    exact (cn_X11_look_104 fu x2 F G hm)
  have hm := (if_neg c_1).symm.trans hm
  clear c_1
  exact (cn_X11_look_114 fu x2 F G hm)
theorem cw_X11_look_54 (fu : Nat) {res : Int32 × PF × PG} (C : cMC p R s m args c A v RX11 cX11_look 3 1 21 (xn res.2.1 - xn K0)) (hret : ∀ (b1 : Nat) (H1 : Heap) (locs1 : List Loc) (ls1 : Array Slot) (pc : Nat), cMW s A v a b1 K0 res.2.1 res.2.2 H1 locs1 → narrow .int (.int res.1) = .int res.1 → decode cX11_look pc = .ok (.ireturn, 1) → W p l e R s m args below meth c H1 locs1 (xn res.2.1 - xn K0) (2 * (xn res.2.1 - xn K0)) Q (F0 m pc ls1 [.int res.1])) (x1 : Int32) (x2 : Int32) (F : PF) (G : PG) (hm : cb_X11_look_54 fu x1 x2 F G = some res) {b : Nat} {H : Heap} {locs : List Loc} (hw : cMW s A v a b K0 F G H locs) {ls : Array Slot} (hl : lv_has ls 3 [(0, .ref (a 211)), (1, .int x1), (2, .int x2)]) : W p l e R s m args below meth c H locs (xn F - xn K0) (2 * (xn F - xn K0)) Q (F0 m 54 ls []) := by
  have hx := C.1
  have hb := C.2.1
  unfold cb_X11_look_54 at hm
  refine lv_iload_n hx hb dX11_look_54 rfl (lv_at hl 1 rfl) ?_
  by_cases c_0 : x1.toInt < 2 ∨ 5 < x1.toInt
  · have hm := (if_pos c_0).symm.trans hm
    refine lv_tableOut (tgt := 131) hx hb dX11_look_55 c_0 (by decide) ?_
    exact cw_X11_look_131 fu C hret F G hm hw (lv_sub hl [] rfl)
  have hm := (if_neg c_0).symm.trans hm
  by_cases c_1 : x1 = 2
  · have hm := (if_pos c_1).symm.trans hm
    refine my_top 2 c_1 ?_
    refine lv_tableIn (off := 29) (tgt := 84) hx hb dX11_look_55 (by decide) (by decide) (by decide) (by decide) ?_
    exact cw_X11_look_84 fu C hret x2 F G hm hw (lv_sub hl [0, 2] rfl)
  have hm := (if_neg c_1).symm.trans hm
  have n_0 := c_1
  clear c_1
  by_cases c_1 : x1 = 3
  · have hm := (if_pos c_1).symm.trans hm
    refine my_top 3 c_1 ?_
    refine lv_tableIn (off := 39) (tgt := 94) hx hb dX11_look_55 (by decide) (by decide) (by decide) (by decide) ?_
    exact cw_X11_look_94 fu C hret x2 F G hm hw (lv_sub hl [0, 2] rfl)
  have hm := (if_neg c_1).symm.trans hm
  have n_1 := c_1
  clear c_1
  by_cases c_1 : x1 = 4
  · have hm := (if_pos c_1).symm.trans hm
    refine my_top 4 c_1 ?_
    refine lv_tableIn (off := 49) (tgt := 104) hx hb dX11_look_55 (by decide) (by decide) (by decide) (by decide) ?_
    exact cw_X11_look_104 fu C hret x2 F G hm hw (lv_sub hl [0, 2] rfl)
  have hm := (if_neg c_1).symm.trans hm
  have n_2 := c_1
  clear c_1
  have c_1 : x1 = 5 := my_last (l := 2) (k := 3) c_0 (by decide) (fun j hj => match j, hj with | 0, _ => fun h9 => n_0 (Int32.toInt_inj.mp (h9.trans (by decide))) | 1, _ => fun h9 => n_1 (Int32.toInt_inj.mp (h9.trans (by decide))) | 2, _ => fun h9 => n_2 (Int32.toInt_inj.mp (h9.trans (by decide))) | q + 3, h => absurd h (by omega)) (by decide)
  refine my_top 5 c_1 ?_
  refine lv_tableIn (off := 59) (tgt := 114) hx hb dX11_look_55 (by decide) (by decide) (by decide) (by decide) ?_
  exact cw_X11_look_114 fu C hret x2 F G hm hw (lv_sub hl [0, 2] rfl)
theorem cn_X11_look_41 (fu : Nat) {res : Int32 × PF × PG} (x1 : Int32) (x2 : Int32) (F : PF) (G : PG) (hm : cb_X11_look_41 fu x1 x2 F G = some res) : xn F ≤ xn res.2.1 := by
  unfold cb_X11_look_41 at hm
  by_cases c_1 : x2 < (F 74)
  · have hm := (if_pos c_1).symm.trans hm
    exact (cn_X11_look_54 fu x1 x2 F G hm)
  · have hm := (if_neg c_1).symm.trans hm
    exact (cn_X11_look_52 fu F G hm)
theorem cw_X11_look_41 (fu : Nat) {res : Int32 × PF × PG} (C : cMC p R s m args c A v RX11 cX11_look 3 1 21 (xn res.2.1 - xn K0)) (hret : ∀ (b1 : Nat) (H1 : Heap) (locs1 : List Loc) (ls1 : Array Slot) (pc : Nat), cMW s A v a b1 K0 res.2.1 res.2.2 H1 locs1 → narrow .int (.int res.1) = .int res.1 → decode cX11_look pc = .ok (.ireturn, 1) → W p l e R s m args below meth c H1 locs1 (xn res.2.1 - xn K0) (2 * (xn res.2.1 - xn K0)) Q (F0 m pc ls1 [.int res.1])) (x1 : Int32) (x2 : Int32) (F : PF) (G : PG) (hm : cb_X11_look_41 fu x1 x2 F G = some res) {b : Nat} {H : Heap} {locs : List Loc} (hw : cMW s A v a b K0 F G H locs) {ls : Array Slot} (hl : lv_has ls 3 [(0, .ref (a 211)), (1, .int x1), (2, .int x2)]) : W p l e R s m args below meth c H locs (xn F - xn K0) (2 * (xn F - xn K0)) Q (F0 m 41 ls []) := by
  have hx := C.1
  have hb := C.2.1
  unfold cb_X11_look_41 at hm
  refine lv_iload_n hx hb dX11_look_41 rfl (lv_at hl 2 rfl) ?_
  refine lv_aload_n hx hb dX11_look_42 rfl (lv_at hl 0 rfl) ?_
  refine cg_X11_31 C hw dX11_look_43 ?_
  refine cg_X11_117 C hw dX11_look_46 ?_
  refine lv_icmp_lt (tgt := 54) hx hb dX11_look_49 (by decide) (fun c_1 => ?_) (fun c_1 => ?_)
  · have hm := (if_pos c_1).symm.trans hm
    exact cw_X11_look_54 fu C hret x1 x2 F G hm hw (lv_sub hl [0, 1, 2] rfl)
  · have hm := (if_neg c_1).symm.trans hm
    exact cw_X11_look_52 fu C hret F G hm hw (lv_sub hl [] rfl)
theorem cn_X11_look_37 (fu : Nat) {res : Int32 × PF × PG} (x1 : Int32) (x2 : Int32) (F : PF) (G : PG) (hm : cb_X11_look_37 fu x1 x2 F G = some res) : xn F ≤ xn res.2.1 := by
  unfold cb_X11_look_37 at hm
  by_cases c_1 : x2 < (0 : Int32)
  · have hm := (if_pos c_1).symm.trans hm
    exact (cn_X11_look_52 fu F G hm)
  · have hm := (if_neg c_1).symm.trans hm
    exact (cn_X11_look_41 fu x1 x2 F G hm)
theorem cw_X11_look_37 (fu : Nat) {res : Int32 × PF × PG} (C : cMC p R s m args c A v RX11 cX11_look 3 1 21 (xn res.2.1 - xn K0)) (hret : ∀ (b1 : Nat) (H1 : Heap) (locs1 : List Loc) (ls1 : Array Slot) (pc : Nat), cMW s A v a b1 K0 res.2.1 res.2.2 H1 locs1 → narrow .int (.int res.1) = .int res.1 → decode cX11_look pc = .ok (.ireturn, 1) → W p l e R s m args below meth c H1 locs1 (xn res.2.1 - xn K0) (2 * (xn res.2.1 - xn K0)) Q (F0 m pc ls1 [.int res.1])) (x1 : Int32) (x2 : Int32) (F : PF) (G : PG) (hm : cb_X11_look_37 fu x1 x2 F G = some res) {b : Nat} {H : Heap} {locs : List Loc} (hw : cMW s A v a b K0 F G H locs) {ls : Array Slot} (hl : lv_has ls 3 [(0, .ref (a 211)), (1, .int x1), (2, .int x2)]) : W p l e R s m args below meth c H locs (xn F - xn K0) (2 * (xn F - xn K0)) Q (F0 m 37 ls []) := by
  have hx := C.1
  have hb := C.2.1
  unfold cb_X11_look_37 at hm
  refine lv_iload_n hx hb dX11_look_37 rfl (lv_at hl 2 rfl) ?_
  refine lv_if_lt (tgt := 52) hx hb dX11_look_38 (by decide) (fun c_1 => ?_) (fun c_1 => ?_)
  · have hm := (if_pos c_1).symm.trans hm
    exact cw_X11_look_52 fu C hret F G hm hw (lv_sub hl [] rfl)
  · have hm := (if_neg c_1).symm.trans hm
    exact cw_X11_look_41 fu C hret x1 x2 F G hm hw (lv_sub hl [0, 1, 2] rfl)
theorem cn_X11_look_29 (fu : Nat) {res : Int32 × PF × PG} (F : PF) (G : PG) (hm : cb_X11_look_29 fu F G = some res) : xn F ≤ xn res.2.1 := by
  unfold cb_X11_look_29 at hm
  obtain rfl := Option.some.inj hm
  exact Nat.le_refl _
theorem cw_X11_look_29 (fu : Nat) {res : Int32 × PF × PG} (C : cMC p R s m args c A v RX11 cX11_look 3 1 21 (xn res.2.1 - xn K0)) (hret : ∀ (b1 : Nat) (H1 : Heap) (locs1 : List Loc) (ls1 : Array Slot) (pc : Nat), cMW s A v a b1 K0 res.2.1 res.2.2 H1 locs1 → narrow .int (.int res.1) = .int res.1 → decode cX11_look pc = .ok (.ireturn, 1) → W p l e R s m args below meth c H1 locs1 (xn res.2.1 - xn K0) (2 * (xn res.2.1 - xn K0)) Q (F0 m pc ls1 [.int res.1])) (F : PF) (G : PG) (hm : cb_X11_look_29 fu F G = some res) {b : Nat} {H : Heap} {locs : List Loc} (hw : cMW s A v a b K0 F G H locs) {ls : Array Slot} (hl : lv_has ls 3 [(0, .ref (a 211))]) : W p l e R s m args below meth c H locs (xn F - xn K0) (2 * (xn F - xn K0)) Q (F0 m 29 ls []) := by
  have hx := C.1
  have hb := C.2.1
  unfold cb_X11_look_29 at hm
  refine lv_aload_n hx hb dX11_look_29 rfl (lv_at hl 0 rfl) ?_
  refine cg_X11_31 C hw dX11_look_30 ?_
  refine cg_X11_120 C hw dX11_look_33 ?_
  obtain rfl := Option.some.inj hm
  exact hret _ _ _ _ _ hw rfl dX11_look_36
theorem cn_X11_look_24 (fu : Nat) {res : Int32 × PF × PG} (x1 : Int32) (x2 : Int32) (F : PF) (G : PG) (hm : cb_X11_look_24 fu x1 x2 F G = some res) : xn F ≤ xn res.2.1 := by
  unfold cb_X11_look_24 at hm
  by_cases c_1 : x1 = (1 : Int32)
  · have hm := (if_pos c_1).symm.trans hm
    exact (cn_X11_look_29 fu F G hm)
  · have hm := (if_neg c_1).symm.trans hm
    exact (cn_X11_look_37 fu x1 x2 F G hm)
theorem cw_X11_look_24 (fu : Nat) {res : Int32 × PF × PG} (C : cMC p R s m args c A v RX11 cX11_look 3 1 21 (xn res.2.1 - xn K0)) (hret : ∀ (b1 : Nat) (H1 : Heap) (locs1 : List Loc) (ls1 : Array Slot) (pc : Nat), cMW s A v a b1 K0 res.2.1 res.2.2 H1 locs1 → narrow .int (.int res.1) = .int res.1 → decode cX11_look pc = .ok (.ireturn, 1) → W p l e R s m args below meth c H1 locs1 (xn res.2.1 - xn K0) (2 * (xn res.2.1 - xn K0)) Q (F0 m pc ls1 [.int res.1])) (x1 : Int32) (x2 : Int32) (F : PF) (G : PG) (hm : cb_X11_look_24 fu x1 x2 F G = some res) {b : Nat} {H : Heap} {locs : List Loc} (hw : cMW s A v a b K0 F G H locs) {ls : Array Slot} (hl : lv_has ls 3 [(0, .ref (a 211)), (1, .int x1), (2, .int x2)]) : W p l e R s m args below meth c H locs (xn F - xn K0) (2 * (xn F - xn K0)) Q (F0 m 24 ls []) := by
  have hx := C.1
  have hb := C.2.1
  unfold cb_X11_look_24 at hm
  refine lv_iload_n hx hb dX11_look_24 rfl (lv_at hl 1 rfl) ?_
  refine lv_iconst (v := 1) hx hb dX11_look_25 (by decide) ?_
  refine lv_icmp_ne (tgt := 37) hx hb dX11_look_26 (by decide) (fun c_1 => ?_) (fun c_1 => ?_)
  · have hm := (if_neg c_1).symm.trans hm
    exact cw_X11_look_37 fu C hret x1 x2 F G hm hw (lv_sub hl [0, 1, 2] rfl)
  · have hm := (if_pos c_1).symm.trans hm
    exact cw_X11_look_29 fu C hret F G hm hw (lv_sub hl [0] rfl)
theorem cn_X11_look_16 (fu : Nat) {res : Int32 × PF × PG} (F : PF) (G : PG) (hm : cb_X11_look_16 fu F G = some res) : xn F ≤ xn res.2.1 := by
  unfold cb_X11_look_16 at hm
  obtain rfl := Option.some.inj hm
  exact Nat.le_refl _
theorem cw_X11_look_16 (fu : Nat) {res : Int32 × PF × PG} (C : cMC p R s m args c A v RX11 cX11_look 3 1 21 (xn res.2.1 - xn K0)) (hret : ∀ (b1 : Nat) (H1 : Heap) (locs1 : List Loc) (ls1 : Array Slot) (pc : Nat), cMW s A v a b1 K0 res.2.1 res.2.2 H1 locs1 → narrow .int (.int res.1) = .int res.1 → decode cX11_look pc = .ok (.ireturn, 1) → W p l e R s m args below meth c H1 locs1 (xn res.2.1 - xn K0) (2 * (xn res.2.1 - xn K0)) Q (F0 m pc ls1 [.int res.1])) (F : PF) (G : PG) (hm : cb_X11_look_16 fu F G = some res) {b : Nat} {H : Heap} {locs : List Loc} (hw : cMW s A v a b K0 F G H locs) {ls : Array Slot} (hl : lv_has ls 3 [(0, .ref (a 211))]) : W p l e R s m args below meth c H locs (xn F - xn K0) (2 * (xn F - xn K0)) Q (F0 m 16 ls []) := by
  have hx := C.1
  have hb := C.2.1
  unfold cb_X11_look_16 at hm
  refine lv_aload_n hx hb dX11_look_16 rfl (lv_at hl 0 rfl) ?_
  refine cg_X11_31 C hw dX11_look_17 ?_
  refine cg_X11_117 C hw dX11_look_20 ?_
  obtain rfl := Option.some.inj hm
  exact hret _ _ _ _ _ hw rfl dX11_look_23
theorem cn_X11_look_12 (fu : Nat) {res : Int32 × PF × PG} (x1 : Int32) (x2 : Int32) (F : PF) (G : PG) (hm : cb_X11_look_12 fu x1 x2 F G = some res) : xn F ≤ xn res.2.1 := by
  unfold cb_X11_look_12 at hm
  by_cases c_1 : x1 = (0 : Int32)
  · have hm := (if_pos c_1).symm.trans hm
    exact (cn_X11_look_16 fu F G hm)
  · have hm := (if_neg c_1).symm.trans hm
    exact (cn_X11_look_24 fu x1 x2 F G hm)
theorem cw_X11_look_12 (fu : Nat) {res : Int32 × PF × PG} (C : cMC p R s m args c A v RX11 cX11_look 3 1 21 (xn res.2.1 - xn K0)) (hret : ∀ (b1 : Nat) (H1 : Heap) (locs1 : List Loc) (ls1 : Array Slot) (pc : Nat), cMW s A v a b1 K0 res.2.1 res.2.2 H1 locs1 → narrow .int (.int res.1) = .int res.1 → decode cX11_look pc = .ok (.ireturn, 1) → W p l e R s m args below meth c H1 locs1 (xn res.2.1 - xn K0) (2 * (xn res.2.1 - xn K0)) Q (F0 m pc ls1 [.int res.1])) (x1 : Int32) (x2 : Int32) (F : PF) (G : PG) (hm : cb_X11_look_12 fu x1 x2 F G = some res) {b : Nat} {H : Heap} {locs : List Loc} (hw : cMW s A v a b K0 F G H locs) {ls : Array Slot} (hl : lv_has ls 3 [(0, .ref (a 211)), (1, .int x1), (2, .int x2)]) : W p l e R s m args below meth c H locs (xn F - xn K0) (2 * (xn F - xn K0)) Q (F0 m 12 ls []) := by
  have hx := C.1
  have hb := C.2.1
  unfold cb_X11_look_12 at hm
  refine lv_iload_n hx hb dX11_look_12 rfl (lv_at hl 1 rfl) ?_
  refine lv_if_ne (tgt := 24) hx hb dX11_look_13 (by decide) (fun c_1 => ?_) (fun c_1 => ?_)
  · have hm := (if_neg c_1).symm.trans hm
    exact cw_X11_look_24 fu C hret x1 x2 F G hm hw (lv_sub hl [0, 1, 2] rfl)
  · have hm := (if_pos c_1).symm.trans hm
    exact cw_X11_look_16 fu C hret F G hm hw (lv_sub hl [0] rfl)
theorem cn_X11_look_10 (fu : Nat) {res : Int32 × PF × PG} (F : PF) (G : PG) (hm : cb_X11_look_10 fu F G = some res) : xn F ≤ xn res.2.1 := by
  unfold cb_X11_look_10 at hm
  obtain rfl := Option.some.inj hm
  exact Nat.le_refl _
theorem cw_X11_look_10 (fu : Nat) {res : Int32 × PF × PG} (C : cMC p R s m args c A v RX11 cX11_look 3 1 21 (xn res.2.1 - xn K0)) (hret : ∀ (b1 : Nat) (H1 : Heap) (locs1 : List Loc) (ls1 : Array Slot) (pc : Nat), cMW s A v a b1 K0 res.2.1 res.2.2 H1 locs1 → narrow .int (.int res.1) = .int res.1 → decode cX11_look pc = .ok (.ireturn, 1) → W p l e R s m args below meth c H1 locs1 (xn res.2.1 - xn K0) (2 * (xn res.2.1 - xn K0)) Q (F0 m pc ls1 [.int res.1])) (F : PF) (G : PG) (hm : cb_X11_look_10 fu F G = some res) {b : Nat} {H : Heap} {locs : List Loc} (hw : cMW s A v a b K0 F G H locs) {ls : Array Slot} (hl : lv_has ls 3 []) : W p l e R s m args below meth c H locs (xn F - xn K0) (2 * (xn F - xn K0)) Q (F0 m 10 ls []) := by
  have hx := C.1
  have hb := C.2.1
  unfold cb_X11_look_10 at hm
  refine lv_iconst (v := (-1)) hx hb dX11_look_10 (by decide) ?_
  obtain rfl := Option.some.inj hm
  exact hret _ _ _ _ _ hw rfl dX11_look_11
theorem cn_X11_look_0 (fu : Nat) {res : Int32 × PF × PG} (x1 : Int32) (x2 : Int32) (F : PF) (G : PG) (hm : cb_X11_look_0 fu x1 x2 F G = some res) : xn F ≤ xn res.2.1 := by
  unfold cb_X11_look_0 at hm
  by_cases c_1 : (F 73) = (0 : Int32)
  · have hm := (if_pos c_1).symm.trans hm
    exact (cn_X11_look_10 fu F G hm)
  · have hm := (if_neg c_1).symm.trans hm
    exact (cn_X11_look_12 fu x1 x2 F G hm)
theorem cw_X11_look_0 (fu : Nat) {res : Int32 × PF × PG} (C : cMC p R s m args c A v RX11 cX11_look 3 1 21 (xn res.2.1 - xn K0)) (hret : ∀ (b1 : Nat) (H1 : Heap) (locs1 : List Loc) (ls1 : Array Slot) (pc : Nat), cMW s A v a b1 K0 res.2.1 res.2.2 H1 locs1 → narrow .int (.int res.1) = .int res.1 → decode cX11_look pc = .ok (.ireturn, 1) → W p l e R s m args below meth c H1 locs1 (xn res.2.1 - xn K0) (2 * (xn res.2.1 - xn K0)) Q (F0 m pc ls1 [.int res.1])) (x1 : Int32) (x2 : Int32) (F : PF) (G : PG) (hm : cb_X11_look_0 fu x1 x2 F G = some res) {b : Nat} {H : Heap} {locs : List Loc} (hw : cMW s A v a b K0 F G H locs) {ls : Array Slot} (hl : lv_has ls 3 [(0, .ref (a 211)), (1, .int x1), (2, .int x2)]) : W p l e R s m args below meth c H locs (xn F - xn K0) (2 * (xn F - xn K0)) Q (F0 m 0 ls []) := by
  have hx := C.1
  have hb := C.2.1
  unfold cb_X11_look_0 at hm
  refine lv_aload_n hx hb dX11_look_0 rfl (lv_at hl 0 rfl) ?_
  refine cg_X11_31 C hw dX11_look_1 ?_
  refine cg_X11_113 C hw dX11_look_4 ?_
  refine lv_if_ne (tgt := 12) hx hb dX11_look_7 (by decide) (fun c_1 => ?_) (fun c_1 => ?_)
  · have hm := (if_neg c_1).symm.trans hm
    exact cw_X11_look_12 fu C hret x1 x2 F G hm hw (lv_sub hl [0, 1, 2] rfl)
  · have hm := (if_pos c_1).symm.trans hm
    exact cw_X11_look_10 fu C hret F G hm hw (lv_sub hl [] rfl)
theorem cn_X11_look (fu : Nat) (x1 : Int32) (x2 : Int32) (F : PF) (G : PG) (q : Int32 × PF × PG) (hm : cf_X11_look fu x1 x2 F G = some q) : xn F ≤ xn q.2.1 := cn_X11_look_0 fu x1 x2 F G hm
theorem ck_X11_look (l : Launch) (v : EV) (a : Nat → Nat) (b sz : Nat) (fu : Nat) (x1 : Int32) (x2 : Int32) (F : PF) (G : PG) (r : Int32) (F1 : PF) (G1 : PG) (hm : cf_X11_look fu x1 x2 F G = some (r, F1, G1)) : cMI l yX11_look cX11_look 3 (some .int) 1 21 v a b sz [.ref (a 211), .int x1, .int x2] F G r F1 G1 := cMI.of (ty := .int) (by decide) rfl (Nat.le_of_ble_eq_true rfl) (fun p e R s m args below meth c Q A H locs ls C hw hl hret => cw_X11_look_0 fu (res := (r, F1, G1)) C hret x1 x2 F G hm hw hl)
def cb_X11_give_21 (fu : Nat) (F : PF) (G : PG) : PR := some ((-1), F, G)
def cb_X11_give_23 (fu : Nat) (F : PF) (G : PG) : PR := some ((F 70), F, G)
def cb_X11_give_18 (fu : Nat) (z0 : Int32) (F : PF) (G : PG) : PR := if z0 = (0 : Int32) then cb_X11_give_21 fu F G else cb_X11_give_23 fu F G
def cb_X11_give_10 (fu : Nat) (x1 : Int32) (F : PF) (G : PG) : PR := (cf_X7_takes fu x1 F G).bind (fun q => cb_X11_give_18 fu q.1 q.2.1 q.2.2)
def cb_X11_give_0 (fu : Nat) (x1 : Int32) (F : PF) (G : PG) : PR := if (F 73) = (0 : Int32) then cb_X11_give_21 fu F G else cb_X11_give_10 fu x1 F G
def cf_X11_give (fu : Nat) (x1 : Int32) (F : PF) (G : PG) : PR := cb_X11_give_0 fu x1 F G
theorem cn_X11_give_21 (fu : Nat) {res : Int32 × PF × PG} (F : PF) (G : PG) (hm : cb_X11_give_21 fu F G = some res) : xn F ≤ xn res.2.1 := by
  unfold cb_X11_give_21 at hm
  obtain rfl := Option.some.inj hm
  exact Nat.le_refl _
theorem cw_X11_give_21 (fu : Nat) {res : Int32 × PF × PG} (C : cMC p R s m args c A v RX11 cX11_give 2 1 21 (xn res.2.1 - xn K0)) (hret : ∀ (b1 : Nat) (H1 : Heap) (locs1 : List Loc) (ls1 : Array Slot) (pc : Nat), cMW s A v a b1 K0 res.2.1 res.2.2 H1 locs1 → narrow .int (.int res.1) = .int res.1 → decode cX11_give pc = .ok (.ireturn, 1) → W p l e R s m args below meth c H1 locs1 (xn res.2.1 - xn K0) (2 * (xn res.2.1 - xn K0)) Q (F0 m pc ls1 [.int res.1])) (F : PF) (G : PG) (hm : cb_X11_give_21 fu F G = some res) {b : Nat} {H : Heap} {locs : List Loc} (hw : cMW s A v a b K0 F G H locs) {ls : Array Slot} (hl : lv_has ls 2 []) : W p l e R s m args below meth c H locs (xn F - xn K0) (2 * (xn F - xn K0)) Q (F0 m 21 ls []) := by
  have hx := C.1
  have hb := C.2.1
  unfold cb_X11_give_21 at hm
  refine lv_iconst (v := (-1)) hx hb dX11_give_21 (by decide) ?_
  obtain rfl := Option.some.inj hm
  exact hret _ _ _ _ _ hw rfl dX11_give_22
theorem cn_X11_give_23 (fu : Nat) {res : Int32 × PF × PG} (F : PF) (G : PG) (hm : cb_X11_give_23 fu F G = some res) : xn F ≤ xn res.2.1 := by
  unfold cb_X11_give_23 at hm
  obtain rfl := Option.some.inj hm
  exact Nat.le_refl _
theorem cw_X11_give_23 (fu : Nat) {res : Int32 × PF × PG} (C : cMC p R s m args c A v RX11 cX11_give 2 1 21 (xn res.2.1 - xn K0)) (hret : ∀ (b1 : Nat) (H1 : Heap) (locs1 : List Loc) (ls1 : Array Slot) (pc : Nat), cMW s A v a b1 K0 res.2.1 res.2.2 H1 locs1 → narrow .int (.int res.1) = .int res.1 → decode cX11_give pc = .ok (.ireturn, 1) → W p l e R s m args below meth c H1 locs1 (xn res.2.1 - xn K0) (2 * (xn res.2.1 - xn K0)) Q (F0 m pc ls1 [.int res.1])) (F : PF) (G : PG) (hm : cb_X11_give_23 fu F G = some res) {b : Nat} {H : Heap} {locs : List Loc} (hw : cMW s A v a b K0 F G H locs) {ls : Array Slot} (hl : lv_has ls 2 [(0, .ref (a 211))]) : W p l e R s m args below meth c H locs (xn F - xn K0) (2 * (xn F - xn K0)) Q (F0 m 23 ls []) := by
  have hx := C.1
  have hb := C.2.1
  unfold cb_X11_give_23 at hm
  refine lv_aload_n hx hb dX11_give_23 rfl (lv_at hl 0 rfl) ?_
  refine cg_X11_38 C hw dX11_give_24 ?_
  refine cg_X11_140 C hw dX11_give_27 ?_
  obtain rfl := Option.some.inj hm
  exact hret _ _ _ _ _ hw rfl dX11_give_30
theorem cn_X11_give_18 (fu : Nat) {res : Int32 × PF × PG} (z0 : Int32) (F : PF) (G : PG) (hm : cb_X11_give_18 fu z0 F G = some res) : xn F ≤ xn res.2.1 := by
  unfold cb_X11_give_18 at hm
  by_cases c_1 : z0 = (0 : Int32)
  · have hm := (if_pos c_1).symm.trans hm
    exact (cn_X11_give_21 fu F G hm)
  · have hm := (if_neg c_1).symm.trans hm
    exact (cn_X11_give_23 fu F G hm)
theorem cw_X11_give_18 (fu : Nat) {res : Int32 × PF × PG} (C : cMC p R s m args c A v RX11 cX11_give 2 1 21 (xn res.2.1 - xn K0)) (hret : ∀ (b1 : Nat) (H1 : Heap) (locs1 : List Loc) (ls1 : Array Slot) (pc : Nat), cMW s A v a b1 K0 res.2.1 res.2.2 H1 locs1 → narrow .int (.int res.1) = .int res.1 → decode cX11_give pc = .ok (.ireturn, 1) → W p l e R s m args below meth c H1 locs1 (xn res.2.1 - xn K0) (2 * (xn res.2.1 - xn K0)) Q (F0 m pc ls1 [.int res.1])) (z0 : Int32) (F : PF) (G : PG) (hm : cb_X11_give_18 fu z0 F G = some res) {b : Nat} {H : Heap} {locs : List Loc} (hw : cMW s A v a b K0 F G H locs) {ls : Array Slot} (hl : lv_has ls 2 [(0, .ref (a 211))]) : W p l e R s m args below meth c H locs (xn F - xn K0) (2 * (xn F - xn K0)) Q (F0 m 18 ls [.int z0]) := by
  have hx := C.1
  have hb := C.2.1
  unfold cb_X11_give_18 at hm
  refine lv_if_ne (tgt := 23) hx hb dX11_give_18 (by decide) (fun c_1 => ?_) (fun c_1 => ?_)
  · have hm := (if_neg c_1).symm.trans hm
    exact cw_X11_give_23 fu C hret F G hm hw (lv_sub hl [0] rfl)
  · have hm := (if_pos c_1).symm.trans hm
    exact cw_X11_give_21 fu C hret F G hm hw (lv_sub hl [] rfl)
theorem cn_X11_give_10 (fu : Nat) {res : Int32 × PF × PG} (x1 : Int32) (F : PF) (G : PG) (hm : cb_X11_give_10 fu x1 F G = some res) : xn F ≤ xn res.2.1 := by
  unfold cb_X11_give_10 at hm
  obtain ⟨⟨r1, F1, G1⟩, hc, hm⟩ := bind_elim hm
  exact Nat.le_trans (cn_X7_takes fu x1 F G _ hc) (cn_X11_give_18 fu r1 F1 G1 hm)
theorem cw_X11_give_10 (fu : Nat) {res : Int32 × PF × PG} (C : cMC p R s m args c A v RX11 cX11_give 2 1 21 (xn res.2.1 - xn K0)) (hret : ∀ (b1 : Nat) (H1 : Heap) (locs1 : List Loc) (ls1 : Array Slot) (pc : Nat), cMW s A v a b1 K0 res.2.1 res.2.2 H1 locs1 → narrow .int (.int res.1) = .int res.1 → decode cX11_give pc = .ok (.ireturn, 1) → W p l e R s m args below meth c H1 locs1 (xn res.2.1 - xn K0) (2 * (xn res.2.1 - xn K0)) Q (F0 m pc ls1 [.int res.1])) (x1 : Int32) (F : PF) (G : PG) (hm : cb_X11_give_10 fu x1 F G = some res) {b : Nat} {H : Heap} {locs : List Loc} (hw : cMW s A v a b K0 F G H locs) {ls : Array Slot} (hl : lv_has ls 2 [(0, .ref (a 211)), (1, .int x1)]) : W p l e R s m args below meth c H locs (xn F - xn K0) (2 * (xn F - xn K0)) Q (F0 m 10 ls []) := by
  have hx := C.1
  have hb := C.2.1
  unfold cb_X11_give_10 at hm
  refine lv_aload_n hx hb dX11_give_10 rfl (lv_at hl 0 rfl) ?_
  refine cg_X11_38 C hw dX11_give_11 ?_
  refine lv_iload_n hx hb dX11_give_14 rfl (lv_at hl 1 rfl) ?_
  obtain ⟨⟨r1, F1, G1⟩, hc, hm⟩ := bind_elim hm
  refine ccallI (n := 1) (As := [.int x1]) (rest := []) C hw (ck_X7_takes l v a _ _ fu x1 F G r1 F1 G1 hc) (cn_X7_takes fu x1 F G _ hc) (Nat.sub_le_sub_right (cn_X11_give_18 fu r1 F1 G1 hm) _) (crecv_X7 C hw) cm_805 cm_806 cm_807 cm_34 cm_808 (by decide +kernel) rfl (by omega) (by omega) hl.1 rfl (Nat.le_of_ble_eq_true rfl) dX11_give_15 (fun b H locs hw => ?_)
  exact cw_X11_give_18 fu C hret r1 F1 G1 hm hw (lv_sub hl [0] rfl)
theorem cn_X11_give_0 (fu : Nat) {res : Int32 × PF × PG} (x1 : Int32) (F : PF) (G : PG) (hm : cb_X11_give_0 fu x1 F G = some res) : xn F ≤ xn res.2.1 := by
  unfold cb_X11_give_0 at hm
  by_cases c_1 : (F 73) = (0 : Int32)
  · have hm := (if_pos c_1).symm.trans hm
    exact (cn_X11_give_21 fu F G hm)
  · have hm := (if_neg c_1).symm.trans hm
    exact (cn_X11_give_10 fu x1 F G hm)
theorem cw_X11_give_0 (fu : Nat) {res : Int32 × PF × PG} (C : cMC p R s m args c A v RX11 cX11_give 2 1 21 (xn res.2.1 - xn K0)) (hret : ∀ (b1 : Nat) (H1 : Heap) (locs1 : List Loc) (ls1 : Array Slot) (pc : Nat), cMW s A v a b1 K0 res.2.1 res.2.2 H1 locs1 → narrow .int (.int res.1) = .int res.1 → decode cX11_give pc = .ok (.ireturn, 1) → W p l e R s m args below meth c H1 locs1 (xn res.2.1 - xn K0) (2 * (xn res.2.1 - xn K0)) Q (F0 m pc ls1 [.int res.1])) (x1 : Int32) (F : PF) (G : PG) (hm : cb_X11_give_0 fu x1 F G = some res) {b : Nat} {H : Heap} {locs : List Loc} (hw : cMW s A v a b K0 F G H locs) {ls : Array Slot} (hl : lv_has ls 2 [(0, .ref (a 211)), (1, .int x1)]) : W p l e R s m args below meth c H locs (xn F - xn K0) (2 * (xn F - xn K0)) Q (F0 m 0 ls []) := by
  have hx := C.1
  have hb := C.2.1
  unfold cb_X11_give_0 at hm
  refine lv_aload_n hx hb dX11_give_0 rfl (lv_at hl 0 rfl) ?_
  refine cg_X11_31 C hw dX11_give_1 ?_
  refine cg_X11_113 C hw dX11_give_4 ?_
  refine lv_if_eq (tgt := 21) hx hb dX11_give_7 (by decide) (fun c_1 => ?_) (fun c_1 => ?_)
  · have hm := (if_pos c_1).symm.trans hm
    exact cw_X11_give_21 fu C hret F G hm hw (lv_sub hl [] rfl)
  · have hm := (if_neg c_1).symm.trans hm
    exact cw_X11_give_10 fu C hret x1 F G hm hw (lv_sub hl [0, 1] rfl)
theorem cn_X11_give (fu : Nat) (x1 : Int32) (F : PF) (G : PG) (q : Int32 × PF × PG) (hm : cf_X11_give fu x1 F G = some q) : xn F ≤ xn q.2.1 := cn_X11_give_0 fu x1 F G hm
theorem ck_X11_give (l : Launch) (v : EV) (a : Nat → Nat) (b sz : Nat) (fu : Nat) (x1 : Int32) (F : PF) (G : PG) (r : Int32) (F1 : PF) (G1 : PG) (hm : cf_X11_give fu x1 F G = some (r, F1, G1)) : cMI l yX11_give cX11_give 2 (some .int) 1 21 v a b sz [.ref (a 211), .int x1] F G r F1 G1 := cMI.of (ty := .int) (by decide) rfl (Nat.le_of_ble_eq_true rfl) (fun p e R s m args below meth c Q A H locs ls C hw hl hret => cw_X11_give_0 fu (res := (r, F1, G1)) C hret x1 F G hm hw hl)
def cb_X11_begin_22 (fu : Nat) (F : PF) (G : PG) : PR := some (0, F, G)
def cb_X11_begin_39 (fu : Nat) (F : PF) (G : PG) : PR := some (1, F, G)
def cb_X11_begin_31 (fu : Nat) (x1 : Int32) (F : PF) (G : PG) : PR := (cf_X6_startAnew fu x1 F G).bind (fun q => cb_X11_begin_39 fu q.2.1 q.2.2)
def cb_X11_begin_24 (fu : Nat) (x1 : Int32) (F : PF) (G : PG) : PR := (cf_X7_forgetOutput fu F G).bind (fun q => cb_X11_begin_31 fu x1 q.2.1 q.2.2)
def cb_X11_begin_15 (fu : Nat) (x1 : Int32) (F : PF) (G : PG) : PR := if x1 ≤ (2000 : Int32) then cb_X11_begin_24 fu x1 F G else cb_X11_begin_22 fu F G
def cb_X11_begin_10 (fu : Nat) (x1 : Int32) (F : PF) (G : PG) : PR := if x1 < (4 : Int32) then cb_X11_begin_22 fu F G else cb_X11_begin_15 fu x1 F G
def cb_X11_begin_0 (fu : Nat) (x1 : Int32) (F : PF) (G : PG) : PR := if (F 73) = (0 : Int32) then cb_X11_begin_22 fu F G else cb_X11_begin_10 fu x1 F G
def cf_X11_begin (fu : Nat) (x1 : Int32) (F : PF) (G : PG) : PR := cb_X11_begin_0 fu x1 F G
theorem cn_X11_begin_22 (fu : Nat) {res : Int32 × PF × PG} (F : PF) (G : PG) (hm : cb_X11_begin_22 fu F G = some res) : xn F ≤ xn res.2.1 := by
  unfold cb_X11_begin_22 at hm
  obtain rfl := Option.some.inj hm
  exact Nat.le_refl _
theorem cw_X11_begin_22 (fu : Nat) {res : Int32 × PF × PG} (C : cMC p R s m args c A v RX11 cX11_begin 2 2 81 (xn res.2.1 - xn K0)) (hret : ∀ (b1 : Nat) (H1 : Heap) (locs1 : List Loc) (ls1 : Array Slot) (pc : Nat), cMW s A v a b1 K0 res.2.1 res.2.2 H1 locs1 → narrow .boolean (.int res.1) = .int res.1 → decode cX11_begin pc = .ok (.ireturn, 1) → W p l e R s m args below meth c H1 locs1 (xn res.2.1 - xn K0) (2 * (xn res.2.1 - xn K0)) Q (F0 m pc ls1 [.int res.1])) (F : PF) (G : PG) (hm : cb_X11_begin_22 fu F G = some res) {b : Nat} {H : Heap} {locs : List Loc} (hw : cMW s A v a b K0 F G H locs) {ls : Array Slot} (hl : lv_has ls 2 []) : W p l e R s m args below meth c H locs (xn F - xn K0) (2 * (xn F - xn K0)) Q (F0 m 22 ls []) := by
  have hx := C.1
  have hb := C.2.1
  unfold cb_X11_begin_22 at hm
  refine lv_iconst (v := 0) hx hb dX11_begin_22 (by decide) ?_
  obtain rfl := Option.some.inj hm
  exact hret _ _ _ _ _ hw (b01_nar (v := 0) (Or.inl rfl)) dX11_begin_23
theorem cn_X11_begin_39 (fu : Nat) {res : Int32 × PF × PG} (F : PF) (G : PG) (hm : cb_X11_begin_39 fu F G = some res) : xn F ≤ xn res.2.1 := by
  unfold cb_X11_begin_39 at hm
  obtain rfl := Option.some.inj hm
  exact Nat.le_refl _
theorem cw_X11_begin_39 (fu : Nat) {res : Int32 × PF × PG} (C : cMC p R s m args c A v RX11 cX11_begin 2 2 81 (xn res.2.1 - xn K0)) (hret : ∀ (b1 : Nat) (H1 : Heap) (locs1 : List Loc) (ls1 : Array Slot) (pc : Nat), cMW s A v a b1 K0 res.2.1 res.2.2 H1 locs1 → narrow .boolean (.int res.1) = .int res.1 → decode cX11_begin pc = .ok (.ireturn, 1) → W p l e R s m args below meth c H1 locs1 (xn res.2.1 - xn K0) (2 * (xn res.2.1 - xn K0)) Q (F0 m pc ls1 [.int res.1])) (F : PF) (G : PG) (hm : cb_X11_begin_39 fu F G = some res) {b : Nat} {H : Heap} {locs : List Loc} (hw : cMW s A v a b K0 F G H locs) {ls : Array Slot} (hl : lv_has ls 2 []) : W p l e R s m args below meth c H locs (xn F - xn K0) (2 * (xn F - xn K0)) Q (F0 m 39 ls []) := by
  have hx := C.1
  have hb := C.2.1
  unfold cb_X11_begin_39 at hm
  refine lv_iconst (v := 1) hx hb dX11_begin_39 (by decide) ?_
  obtain rfl := Option.some.inj hm
  exact hret _ _ _ _ _ hw (b01_nar (v := 1) (Or.inr rfl)) dX11_begin_40
theorem cn_X11_begin_31 (fu : Nat) {res : Int32 × PF × PG} (x1 : Int32) (F : PF) (G : PG) (hm : cb_X11_begin_31 fu x1 F G = some res) : xn F ≤ xn res.2.1 := by
  unfold cb_X11_begin_31 at hm
  obtain ⟨⟨r1, F1, G1⟩, hc, hm⟩ := bind_elim hm
  exact Nat.le_trans (cn_X6_startAnew fu x1 F G _ hc) (cn_X11_begin_39 fu F1 G1 hm)
theorem cw_X11_begin_31 (fu : Nat) {res : Int32 × PF × PG} (C : cMC p R s m args c A v RX11 cX11_begin 2 2 81 (xn res.2.1 - xn K0)) (hret : ∀ (b1 : Nat) (H1 : Heap) (locs1 : List Loc) (ls1 : Array Slot) (pc : Nat), cMW s A v a b1 K0 res.2.1 res.2.2 H1 locs1 → narrow .boolean (.int res.1) = .int res.1 → decode cX11_begin pc = .ok (.ireturn, 1) → W p l e R s m args below meth c H1 locs1 (xn res.2.1 - xn K0) (2 * (xn res.2.1 - xn K0)) Q (F0 m pc ls1 [.int res.1])) (x1 : Int32) (F : PF) (G : PG) (hm : cb_X11_begin_31 fu x1 F G = some res) {b : Nat} {H : Heap} {locs : List Loc} (hw : cMW s A v a b K0 F G H locs) {ls : Array Slot} (hl : lv_has ls 2 [(0, .ref (a 211)), (1, .int x1)]) : W p l e R s m args below meth c H locs (xn F - xn K0) (2 * (xn F - xn K0)) Q (F0 m 31 ls []) := by
  have hx := C.1
  have hb := C.2.1
  unfold cb_X11_begin_31 at hm
  refine lv_aload_n hx hb dX11_begin_31 rfl (lv_at hl 0 rfl) ?_
  refine cg_X11_47 C hw dX11_begin_32 ?_
  refine lv_iload_n hx hb dX11_begin_35 rfl (lv_at hl 1 rfl) ?_
  obtain ⟨⟨r1, F1, G1⟩, hc, hm⟩ := bind_elim hm
  refine ccallV (n := 1) (As := [.int x1]) (rest := []) C hw (ck_X6_startAnew l v a _ _ fu x1 F G r1 F1 G1 hc) (cn_X6_startAnew fu x1 F G _ hc) (Nat.sub_le_sub_right (cn_X11_begin_39 fu F1 G1 hm) _) (crecv_X6 C hw) cm_811 cm_812 cm_813 cm_21 cm_814 (by decide +kernel) rfl (by omega) (by omega) hl.1 rfl (Nat.le_of_ble_eq_true rfl) dX11_begin_36 (fun b H locs hw => ?_)
  exact cw_X11_begin_39 fu C hret F1 G1 hm hw (lv_sub hl [] rfl)
theorem cn_X11_begin_24 (fu : Nat) {res : Int32 × PF × PG} (x1 : Int32) (F : PF) (G : PG) (hm : cb_X11_begin_24 fu x1 F G = some res) : xn F ≤ xn res.2.1 := by
  unfold cb_X11_begin_24 at hm
  obtain ⟨⟨r1, F1, G1⟩, hc, hm⟩ := bind_elim hm
  exact Nat.le_trans (cn_X7_forgetOutput fu F G _ hc) (cn_X11_begin_31 fu x1 F1 G1 hm)
theorem cw_X11_begin_24 (fu : Nat) {res : Int32 × PF × PG} (C : cMC p R s m args c A v RX11 cX11_begin 2 2 81 (xn res.2.1 - xn K0)) (hret : ∀ (b1 : Nat) (H1 : Heap) (locs1 : List Loc) (ls1 : Array Slot) (pc : Nat), cMW s A v a b1 K0 res.2.1 res.2.2 H1 locs1 → narrow .boolean (.int res.1) = .int res.1 → decode cX11_begin pc = .ok (.ireturn, 1) → W p l e R s m args below meth c H1 locs1 (xn res.2.1 - xn K0) (2 * (xn res.2.1 - xn K0)) Q (F0 m pc ls1 [.int res.1])) (x1 : Int32) (F : PF) (G : PG) (hm : cb_X11_begin_24 fu x1 F G = some res) {b : Nat} {H : Heap} {locs : List Loc} (hw : cMW s A v a b K0 F G H locs) {ls : Array Slot} (hl : lv_has ls 2 [(0, .ref (a 211)), (1, .int x1)]) : W p l e R s m args below meth c H locs (xn F - xn K0) (2 * (xn F - xn K0)) Q (F0 m 24 ls []) := by
  have hx := C.1
  have hb := C.2.1
  unfold cb_X11_begin_24 at hm
  refine lv_aload_n hx hb dX11_begin_24 rfl (lv_at hl 0 rfl) ?_
  refine cg_X11_38 C hw dX11_begin_25 ?_
  obtain ⟨⟨r1, F1, G1⟩, hc, hm⟩ := bind_elim hm
  refine ccallV (n := 0) (As := []) (rest := []) C hw (ck_X7_forgetOutput l v a _ _ fu F G r1 F1 G1 hc) (cn_X7_forgetOutput fu F G _ hc) (Nat.sub_le_sub_right (cn_X11_begin_31 fu x1 F1 G1 hm) _) (crecv_X7 C hw) cm_38 cm_39 cm_40 cm_34 cm_41 (by decide +kernel) rfl (by omega) (by omega) hl.1 rfl (Nat.le_of_ble_eq_true rfl) dX11_begin_28 (fun b H locs hw => ?_)
  exact cw_X11_begin_31 fu C hret x1 F1 G1 hm hw (lv_sub hl [0, 1] rfl)
theorem cn_X11_begin_15 (fu : Nat) {res : Int32 × PF × PG} (x1 : Int32) (F : PF) (G : PG) (hm : cb_X11_begin_15 fu x1 F G = some res) : xn F ≤ xn res.2.1 := by
  unfold cb_X11_begin_15 at hm
  by_cases c_1 : x1 ≤ (2000 : Int32)
  · have hm := (if_pos c_1).symm.trans hm
    exact (cn_X11_begin_24 fu x1 F G hm)
  · have hm := (if_neg c_1).symm.trans hm
    exact (cn_X11_begin_22 fu F G hm)
theorem cw_X11_begin_15 (fu : Nat) {res : Int32 × PF × PG} (C : cMC p R s m args c A v RX11 cX11_begin 2 2 81 (xn res.2.1 - xn K0)) (hret : ∀ (b1 : Nat) (H1 : Heap) (locs1 : List Loc) (ls1 : Array Slot) (pc : Nat), cMW s A v a b1 K0 res.2.1 res.2.2 H1 locs1 → narrow .boolean (.int res.1) = .int res.1 → decode cX11_begin pc = .ok (.ireturn, 1) → W p l e R s m args below meth c H1 locs1 (xn res.2.1 - xn K0) (2 * (xn res.2.1 - xn K0)) Q (F0 m pc ls1 [.int res.1])) (x1 : Int32) (F : PF) (G : PG) (hm : cb_X11_begin_15 fu x1 F G = some res) {b : Nat} {H : Heap} {locs : List Loc} (hw : cMW s A v a b K0 F G H locs) {ls : Array Slot} (hl : lv_has ls 2 [(0, .ref (a 211)), (1, .int x1)]) : W p l e R s m args below meth c H locs (xn F - xn K0) (2 * (xn F - xn K0)) Q (F0 m 15 ls []) := by
  have hx := C.1
  have hb := C.2.1
  unfold cb_X11_begin_15 at hm
  refine lv_iload_n hx hb dX11_begin_15 rfl (lv_at hl 1 rfl) ?_
  refine lv_sipush (v := 2000) hx hb dX11_begin_16 (by decide) ?_
  refine lv_icmp_le (tgt := 24) hx hb dX11_begin_19 (by decide) (fun c_1 => ?_) (fun c_1 => ?_)
  · have hm := (if_pos c_1).symm.trans hm
    exact cw_X11_begin_24 fu C hret x1 F G hm hw (lv_sub hl [0, 1] rfl)
  · have hm := (if_neg c_1).symm.trans hm
    exact cw_X11_begin_22 fu C hret F G hm hw (lv_sub hl [] rfl)
theorem cn_X11_begin_10 (fu : Nat) {res : Int32 × PF × PG} (x1 : Int32) (F : PF) (G : PG) (hm : cb_X11_begin_10 fu x1 F G = some res) : xn F ≤ xn res.2.1 := by
  unfold cb_X11_begin_10 at hm
  by_cases c_1 : x1 < (4 : Int32)
  · have hm := (if_pos c_1).symm.trans hm
    exact (cn_X11_begin_22 fu F G hm)
  · have hm := (if_neg c_1).symm.trans hm
    exact (cn_X11_begin_15 fu x1 F G hm)
theorem cw_X11_begin_10 (fu : Nat) {res : Int32 × PF × PG} (C : cMC p R s m args c A v RX11 cX11_begin 2 2 81 (xn res.2.1 - xn K0)) (hret : ∀ (b1 : Nat) (H1 : Heap) (locs1 : List Loc) (ls1 : Array Slot) (pc : Nat), cMW s A v a b1 K0 res.2.1 res.2.2 H1 locs1 → narrow .boolean (.int res.1) = .int res.1 → decode cX11_begin pc = .ok (.ireturn, 1) → W p l e R s m args below meth c H1 locs1 (xn res.2.1 - xn K0) (2 * (xn res.2.1 - xn K0)) Q (F0 m pc ls1 [.int res.1])) (x1 : Int32) (F : PF) (G : PG) (hm : cb_X11_begin_10 fu x1 F G = some res) {b : Nat} {H : Heap} {locs : List Loc} (hw : cMW s A v a b K0 F G H locs) {ls : Array Slot} (hl : lv_has ls 2 [(0, .ref (a 211)), (1, .int x1)]) : W p l e R s m args below meth c H locs (xn F - xn K0) (2 * (xn F - xn K0)) Q (F0 m 10 ls []) := by
  have hx := C.1
  have hb := C.2.1
  unfold cb_X11_begin_10 at hm
  refine lv_iload_n hx hb dX11_begin_10 rfl (lv_at hl 1 rfl) ?_
  refine lv_iconst (v := 4) hx hb dX11_begin_11 (by decide) ?_
  refine lv_icmp_lt (tgt := 22) hx hb dX11_begin_12 (by decide) (fun c_1 => ?_) (fun c_1 => ?_)
  · have hm := (if_pos c_1).symm.trans hm
    exact cw_X11_begin_22 fu C hret F G hm hw (lv_sub hl [] rfl)
  · have hm := (if_neg c_1).symm.trans hm
    exact cw_X11_begin_15 fu C hret x1 F G hm hw (lv_sub hl [0, 1] rfl)
theorem cn_X11_begin_0 (fu : Nat) {res : Int32 × PF × PG} (x1 : Int32) (F : PF) (G : PG) (hm : cb_X11_begin_0 fu x1 F G = some res) : xn F ≤ xn res.2.1 := by
  unfold cb_X11_begin_0 at hm
  by_cases c_1 : (F 73) = (0 : Int32)
  · have hm := (if_pos c_1).symm.trans hm
    exact (cn_X11_begin_22 fu F G hm)
  · have hm := (if_neg c_1).symm.trans hm
    exact (cn_X11_begin_10 fu x1 F G hm)
theorem cw_X11_begin_0 (fu : Nat) {res : Int32 × PF × PG} (C : cMC p R s m args c A v RX11 cX11_begin 2 2 81 (xn res.2.1 - xn K0)) (hret : ∀ (b1 : Nat) (H1 : Heap) (locs1 : List Loc) (ls1 : Array Slot) (pc : Nat), cMW s A v a b1 K0 res.2.1 res.2.2 H1 locs1 → narrow .boolean (.int res.1) = .int res.1 → decode cX11_begin pc = .ok (.ireturn, 1) → W p l e R s m args below meth c H1 locs1 (xn res.2.1 - xn K0) (2 * (xn res.2.1 - xn K0)) Q (F0 m pc ls1 [.int res.1])) (x1 : Int32) (F : PF) (G : PG) (hm : cb_X11_begin_0 fu x1 F G = some res) {b : Nat} {H : Heap} {locs : List Loc} (hw : cMW s A v a b K0 F G H locs) {ls : Array Slot} (hl : lv_has ls 2 [(0, .ref (a 211)), (1, .int x1)]) : W p l e R s m args below meth c H locs (xn F - xn K0) (2 * (xn F - xn K0)) Q (F0 m 0 ls []) := by
  have hx := C.1
  have hb := C.2.1
  unfold cb_X11_begin_0 at hm
  refine lv_aload_n hx hb dX11_begin_0 rfl (lv_at hl 0 rfl) ?_
  refine cg_X11_31 C hw dX11_begin_1 ?_
  refine cg_X11_113 C hw dX11_begin_4 ?_
  refine lv_if_eq (tgt := 22) hx hb dX11_begin_7 (by decide) (fun c_1 => ?_) (fun c_1 => ?_)
  · have hm := (if_pos c_1).symm.trans hm
    exact cw_X11_begin_22 fu C hret F G hm hw (lv_sub hl [] rfl)
  · have hm := (if_neg c_1).symm.trans hm
    exact cw_X11_begin_10 fu C hret x1 F G hm hw (lv_sub hl [0, 1] rfl)
theorem cn_X11_begin (fu : Nat) (x1 : Int32) (F : PF) (G : PG) (q : Int32 × PF × PG) (hm : cf_X11_begin fu x1 F G = some q) : xn F ≤ xn q.2.1 := cn_X11_begin_0 fu x1 F G hm
theorem ck_X11_begin (l : Launch) (v : EV) (a : Nat → Nat) (b sz : Nat) (fu : Nat) (x1 : Int32) (F : PF) (G : PG) (r : Int32) (F1 : PF) (G1 : PG) (hm : cf_X11_begin fu x1 F G = some (r, F1, G1)) : cMI l yX11_begin cX11_begin 2 (some .boolean) 2 81 v a b sz [.ref (a 211), .int x1] F G r F1 G1 := cMI.of (ty := .boolean) (by decide) rfl (Nat.le_of_ble_eq_true rfl) (fun p e R s m args below meth c Q A H locs ls C hw hl hret => cw_X11_begin_0 fu (res := (r, F1, G1)) C hret x1 F G hm hw hl)
def cb_X11_run_21 (fu : Nat) (F : PF) (G : PG) : PR := some ((-1), F, G)
def cb_X11_run_31 (fu : Nat) (F : PF) (G : PG) : PR := some ((F 63), F, G)
def cb_X11_run_23 (fu : Nat) (x1 : Int32) (F : PF) (G : PG) : PR := (cf_X6_goOn fu x1 F G).bind (fun q => cb_X11_run_31 fu q.2.1 q.2.2)
def cb_X11_run_11 (fu : Nat) (x1 : Int32) (F : PF) (G : PG) : PR := if (F 63) = (0 : Int32) then cb_X11_run_21 fu F G else cb_X11_run_23 fu x1 F G
def cb_X11_run_4 (fu : Nat) (x1 : Int32) (F : PF) (G : PG) : PR := if (1000 : Int32) < x1 then cb_X11_run_21 fu F G else cb_X11_run_11 fu x1 F G
def cb_X11_run_0 (fu : Nat) (x1 : Int32) (F : PF) (G : PG) : PR := if x1 < (0 : Int32) then cb_X11_run_21 fu F G else cb_X11_run_4 fu x1 F G
def cf_X11_run (fu : Nat) (x1 : Int32) (F : PF) (G : PG) : PR := cb_X11_run_0 fu x1 F G
theorem cn_X11_run_21 (fu : Nat) {res : Int32 × PF × PG} (F : PF) (G : PG) (hm : cb_X11_run_21 fu F G = some res) : xn F ≤ xn res.2.1 := by
  unfold cb_X11_run_21 at hm
  obtain rfl := Option.some.inj hm
  exact Nat.le_refl _
theorem cw_X11_run_21 (fu : Nat) {res : Int32 × PF × PG} (C : cMC p R s m args c A v RX11 cX11_run 2 7 206 (xn res.2.1 - xn K0)) (hret : ∀ (b1 : Nat) (H1 : Heap) (locs1 : List Loc) (ls1 : Array Slot) (pc : Nat), cMW s A v a b1 K0 res.2.1 res.2.2 H1 locs1 → narrow .int (.int res.1) = .int res.1 → decode cX11_run pc = .ok (.ireturn, 1) → W p l e R s m args below meth c H1 locs1 (xn res.2.1 - xn K0) (2 * (xn res.2.1 - xn K0)) Q (F0 m pc ls1 [.int res.1])) (F : PF) (G : PG) (hm : cb_X11_run_21 fu F G = some res) {b : Nat} {H : Heap} {locs : List Loc} (hw : cMW s A v a b K0 F G H locs) {ls : Array Slot} (hl : lv_has ls 2 []) : W p l e R s m args below meth c H locs (xn F - xn K0) (2 * (xn F - xn K0)) Q (F0 m 21 ls []) := by
  have hx := C.1
  have hb := C.2.1
  unfold cb_X11_run_21 at hm
  refine lv_iconst (v := (-1)) hx hb dX11_run_21 (by decide) ?_
  obtain rfl := Option.some.inj hm
  exact hret _ _ _ _ _ hw rfl dX11_run_22
theorem cn_X11_run_31 (fu : Nat) {res : Int32 × PF × PG} (F : PF) (G : PG) (hm : cb_X11_run_31 fu F G = some res) : xn F ≤ xn res.2.1 := by
  unfold cb_X11_run_31 at hm
  obtain rfl := Option.some.inj hm
  exact Nat.le_refl _
theorem cw_X11_run_31 (fu : Nat) {res : Int32 × PF × PG} (C : cMC p R s m args c A v RX11 cX11_run 2 7 206 (xn res.2.1 - xn K0)) (hret : ∀ (b1 : Nat) (H1 : Heap) (locs1 : List Loc) (ls1 : Array Slot) (pc : Nat), cMW s A v a b1 K0 res.2.1 res.2.2 H1 locs1 → narrow .int (.int res.1) = .int res.1 → decode cX11_run pc = .ok (.ireturn, 1) → W p l e R s m args below meth c H1 locs1 (xn res.2.1 - xn K0) (2 * (xn res.2.1 - xn K0)) Q (F0 m pc ls1 [.int res.1])) (F : PF) (G : PG) (hm : cb_X11_run_31 fu F G = some res) {b : Nat} {H : Heap} {locs : List Loc} (hw : cMW s A v a b K0 F G H locs) {ls : Array Slot} (hl : lv_has ls 2 [(0, .ref (a 211))]) : W p l e R s m args below meth c H locs (xn F - xn K0) (2 * (xn F - xn K0)) Q (F0 m 31 ls []) := by
  have hx := C.1
  have hb := C.2.1
  unfold cb_X11_run_31 at hm
  refine lv_aload_n hx hb dX11_run_31 rfl (lv_at hl 0 rfl) ?_
  refine cg_X11_47 C hw dX11_run_32 ?_
  refine cg_X11_146 C hw dX11_run_35 ?_
  obtain rfl := Option.some.inj hm
  exact hret _ _ _ _ _ hw rfl dX11_run_38
theorem cn_X11_run_23 (fu : Nat) {res : Int32 × PF × PG} (x1 : Int32) (F : PF) (G : PG) (hm : cb_X11_run_23 fu x1 F G = some res) : xn F ≤ xn res.2.1 := by
  unfold cb_X11_run_23 at hm
  obtain ⟨⟨r1, F1, G1⟩, hc, hm⟩ := bind_elim hm
  exact Nat.le_trans (cn_X6_goOn fu x1 F G _ hc) (cn_X11_run_31 fu F1 G1 hm)
theorem cw_X11_run_23 (fu : Nat) {res : Int32 × PF × PG} (C : cMC p R s m args c A v RX11 cX11_run 2 7 206 (xn res.2.1 - xn K0)) (hret : ∀ (b1 : Nat) (H1 : Heap) (locs1 : List Loc) (ls1 : Array Slot) (pc : Nat), cMW s A v a b1 K0 res.2.1 res.2.2 H1 locs1 → narrow .int (.int res.1) = .int res.1 → decode cX11_run pc = .ok (.ireturn, 1) → W p l e R s m args below meth c H1 locs1 (xn res.2.1 - xn K0) (2 * (xn res.2.1 - xn K0)) Q (F0 m pc ls1 [.int res.1])) (x1 : Int32) (F : PF) (G : PG) (hm : cb_X11_run_23 fu x1 F G = some res) {b : Nat} {H : Heap} {locs : List Loc} (hw : cMW s A v a b K0 F G H locs) {ls : Array Slot} (hl : lv_has ls 2 [(0, .ref (a 211)), (1, .int x1)]) : W p l e R s m args below meth c H locs (xn F - xn K0) (2 * (xn F - xn K0)) Q (F0 m 23 ls []) := by
  have hx := C.1
  have hb := C.2.1
  unfold cb_X11_run_23 at hm
  refine lv_aload_n hx hb dX11_run_23 rfl (lv_at hl 0 rfl) ?_
  refine cg_X11_47 C hw dX11_run_24 ?_
  refine lv_iload_n hx hb dX11_run_27 rfl (lv_at hl 1 rfl) ?_
  obtain ⟨⟨r1, F1, G1⟩, hc, hm⟩ := bind_elim hm
  refine ccallV (n := 1) (As := [.int x1]) (rest := []) C hw (ck_X6_goOn l v a _ _ fu x1 F G r1 F1 G1 hc) (cn_X6_goOn fu x1 F G _ hc) (Nat.sub_le_sub_right (cn_X11_run_31 fu F1 G1 hm) _) (crecv_X6 C hw) cm_821 cm_822 cm_823 cm_21 cm_824 (by decide +kernel) rfl (by omega) (by omega) hl.1 rfl (Nat.le_of_ble_eq_true rfl) dX11_run_28 (fun b H locs hw => ?_)
  exact cw_X11_run_31 fu C hret F1 G1 hm hw (lv_sub hl [0] rfl)
theorem cn_X11_run_11 (fu : Nat) {res : Int32 × PF × PG} (x1 : Int32) (F : PF) (G : PG) (hm : cb_X11_run_11 fu x1 F G = some res) : xn F ≤ xn res.2.1 := by
  unfold cb_X11_run_11 at hm
  by_cases c_1 : (F 63) = (0 : Int32)
  · have hm := (if_pos c_1).symm.trans hm
    exact (cn_X11_run_21 fu F G hm)
  · have hm := (if_neg c_1).symm.trans hm
    exact (cn_X11_run_23 fu x1 F G hm)
theorem cw_X11_run_11 (fu : Nat) {res : Int32 × PF × PG} (C : cMC p R s m args c A v RX11 cX11_run 2 7 206 (xn res.2.1 - xn K0)) (hret : ∀ (b1 : Nat) (H1 : Heap) (locs1 : List Loc) (ls1 : Array Slot) (pc : Nat), cMW s A v a b1 K0 res.2.1 res.2.2 H1 locs1 → narrow .int (.int res.1) = .int res.1 → decode cX11_run pc = .ok (.ireturn, 1) → W p l e R s m args below meth c H1 locs1 (xn res.2.1 - xn K0) (2 * (xn res.2.1 - xn K0)) Q (F0 m pc ls1 [.int res.1])) (x1 : Int32) (F : PF) (G : PG) (hm : cb_X11_run_11 fu x1 F G = some res) {b : Nat} {H : Heap} {locs : List Loc} (hw : cMW s A v a b K0 F G H locs) {ls : Array Slot} (hl : lv_has ls 2 [(0, .ref (a 211)), (1, .int x1)]) : W p l e R s m args below meth c H locs (xn F - xn K0) (2 * (xn F - xn K0)) Q (F0 m 11 ls []) := by
  have hx := C.1
  have hb := C.2.1
  unfold cb_X11_run_11 at hm
  refine lv_aload_n hx hb dX11_run_11 rfl (lv_at hl 0 rfl) ?_
  refine cg_X11_47 C hw dX11_run_12 ?_
  refine cg_X11_146 C hw dX11_run_15 ?_
  refine lv_if_ne (tgt := 23) hx hb dX11_run_18 (by decide) (fun c_1 => ?_) (fun c_1 => ?_)
  · have hm := (if_neg c_1).symm.trans hm
    exact cw_X11_run_23 fu C hret x1 F G hm hw (lv_sub hl [0, 1] rfl)
  · have hm := (if_pos c_1).symm.trans hm
    exact cw_X11_run_21 fu C hret F G hm hw (lv_sub hl [] rfl)
theorem cn_X11_run_4 (fu : Nat) {res : Int32 × PF × PG} (x1 : Int32) (F : PF) (G : PG) (hm : cb_X11_run_4 fu x1 F G = some res) : xn F ≤ xn res.2.1 := by
  unfold cb_X11_run_4 at hm
  by_cases c_1 : (1000 : Int32) < x1
  · have hm := (if_pos c_1).symm.trans hm
    exact (cn_X11_run_21 fu F G hm)
  · have hm := (if_neg c_1).symm.trans hm
    exact (cn_X11_run_11 fu x1 F G hm)
theorem cw_X11_run_4 (fu : Nat) {res : Int32 × PF × PG} (C : cMC p R s m args c A v RX11 cX11_run 2 7 206 (xn res.2.1 - xn K0)) (hret : ∀ (b1 : Nat) (H1 : Heap) (locs1 : List Loc) (ls1 : Array Slot) (pc : Nat), cMW s A v a b1 K0 res.2.1 res.2.2 H1 locs1 → narrow .int (.int res.1) = .int res.1 → decode cX11_run pc = .ok (.ireturn, 1) → W p l e R s m args below meth c H1 locs1 (xn res.2.1 - xn K0) (2 * (xn res.2.1 - xn K0)) Q (F0 m pc ls1 [.int res.1])) (x1 : Int32) (F : PF) (G : PG) (hm : cb_X11_run_4 fu x1 F G = some res) {b : Nat} {H : Heap} {locs : List Loc} (hw : cMW s A v a b K0 F G H locs) {ls : Array Slot} (hl : lv_has ls 2 [(0, .ref (a 211)), (1, .int x1)]) : W p l e R s m args below meth c H locs (xn F - xn K0) (2 * (xn F - xn K0)) Q (F0 m 4 ls []) := by
  have hx := C.1
  have hb := C.2.1
  unfold cb_X11_run_4 at hm
  refine lv_iload_n hx hb dX11_run_4 rfl (lv_at hl 1 rfl) ?_
  refine lv_sipush (v := 1000) hx hb dX11_run_5 (by decide) ?_
  refine lv_icmp_gt (tgt := 21) hx hb dX11_run_8 (by decide) (fun c_1 => ?_) (fun c_1 => ?_)
  · have hm := (if_pos c_1).symm.trans hm
    exact cw_X11_run_21 fu C hret F G hm hw (lv_sub hl [] rfl)
  · have hm := (if_neg c_1).symm.trans hm
    exact cw_X11_run_11 fu C hret x1 F G hm hw (lv_sub hl [0, 1] rfl)
theorem cn_X11_run_0 (fu : Nat) {res : Int32 × PF × PG} (x1 : Int32) (F : PF) (G : PG) (hm : cb_X11_run_0 fu x1 F G = some res) : xn F ≤ xn res.2.1 := by
  unfold cb_X11_run_0 at hm
  by_cases c_1 : x1 < (0 : Int32)
  · have hm := (if_pos c_1).symm.trans hm
    exact (cn_X11_run_21 fu F G hm)
  · have hm := (if_neg c_1).symm.trans hm
    exact (cn_X11_run_4 fu x1 F G hm)
theorem cw_X11_run_0 (fu : Nat) {res : Int32 × PF × PG} (C : cMC p R s m args c A v RX11 cX11_run 2 7 206 (xn res.2.1 - xn K0)) (hret : ∀ (b1 : Nat) (H1 : Heap) (locs1 : List Loc) (ls1 : Array Slot) (pc : Nat), cMW s A v a b1 K0 res.2.1 res.2.2 H1 locs1 → narrow .int (.int res.1) = .int res.1 → decode cX11_run pc = .ok (.ireturn, 1) → W p l e R s m args below meth c H1 locs1 (xn res.2.1 - xn K0) (2 * (xn res.2.1 - xn K0)) Q (F0 m pc ls1 [.int res.1])) (x1 : Int32) (F : PF) (G : PG) (hm : cb_X11_run_0 fu x1 F G = some res) {b : Nat} {H : Heap} {locs : List Loc} (hw : cMW s A v a b K0 F G H locs) {ls : Array Slot} (hl : lv_has ls 2 [(0, .ref (a 211)), (1, .int x1)]) : W p l e R s m args below meth c H locs (xn F - xn K0) (2 * (xn F - xn K0)) Q (F0 m 0 ls []) := by
  have hx := C.1
  have hb := C.2.1
  unfold cb_X11_run_0 at hm
  refine lv_iload_n hx hb dX11_run_0 rfl (lv_at hl 1 rfl) ?_
  refine lv_if_lt (tgt := 21) hx hb dX11_run_1 (by decide) (fun c_1 => ?_) (fun c_1 => ?_)
  · have hm := (if_pos c_1).symm.trans hm
    exact cw_X11_run_21 fu C hret F G hm hw (lv_sub hl [] rfl)
  · have hm := (if_neg c_1).symm.trans hm
    exact cw_X11_run_4 fu C hret x1 F G hm hw (lv_sub hl [0, 1] rfl)
theorem cn_X11_run (fu : Nat) (x1 : Int32) (F : PF) (G : PG) (q : Int32 × PF × PG) (hm : cf_X11_run fu x1 F G = some q) : xn F ≤ xn q.2.1 := cn_X11_run_0 fu x1 F G hm
theorem ck_X11_run (l : Launch) (v : EV) (a : Nat → Nat) (b sz : Nat) (fu : Nat) (x1 : Int32) (F : PF) (G : PG) (r : Int32) (F1 : PF) (G1 : PG) (hm : cf_X11_run fu x1 F G = some (r, F1, G1)) : cMI l yX11_run cX11_run 2 (some .int) 7 206 v a b sz [.ref (a 211), .int x1] F G r F1 G1 := cMI.of (ty := .int) (by decide) rfl (Nat.le_of_ble_eq_true rfl) (fun p e R s m args below meth c Q A H locs ls C hw hl hret => cw_X11_run_0 fu (res := (r, F1, G1)) C hret x1 F G hm hw hl)
def cb_X11_output_8 (fu : Nat) (z0 : Int32) (F : PF) (G : PG) : PR := some (z0, F, G)
def cb_X11_output_0 (fu : Nat) (x1 : Int32) (F : PF) (G : PG) : PR := (cf_X7_shown fu x1 F G).bind (fun q => cb_X11_output_8 fu q.1 q.2.1 q.2.2)
def cf_X11_output (fu : Nat) (x1 : Int32) (F : PF) (G : PG) : PR := cb_X11_output_0 fu x1 F G
theorem cn_X11_output_8 (fu : Nat) {res : Int32 × PF × PG} (z0 : Int32) (F : PF) (G : PG) (hm : cb_X11_output_8 fu z0 F G = some res) : xn F ≤ xn res.2.1 := by
  unfold cb_X11_output_8 at hm
  obtain rfl := Option.some.inj hm
  exact Nat.le_refl _
theorem cw_X11_output_8 (fu : Nat) {res : Int32 × PF × PG} (C : cMC p R s m args c A v RX11 cX11_output 2 1 21 (xn res.2.1 - xn K0)) (hret : ∀ (b1 : Nat) (H1 : Heap) (locs1 : List Loc) (ls1 : Array Slot) (pc : Nat), cMW s A v a b1 K0 res.2.1 res.2.2 H1 locs1 → narrow .int (.int res.1) = .int res.1 → decode cX11_output pc = .ok (.ireturn, 1) → W p l e R s m args below meth c H1 locs1 (xn res.2.1 - xn K0) (2 * (xn res.2.1 - xn K0)) Q (F0 m pc ls1 [.int res.1])) (z0 : Int32) (F : PF) (G : PG) (hm : cb_X11_output_8 fu z0 F G = some res) {b : Nat} {H : Heap} {locs : List Loc} (hw : cMW s A v a b K0 F G H locs) {ls : Array Slot} (hl : lv_has ls 2 []) : W p l e R s m args below meth c H locs (xn F - xn K0) (2 * (xn F - xn K0)) Q (F0 m 8 ls [.int z0]) := by
  have hx := C.1
  have hb := C.2.1
  unfold cb_X11_output_8 at hm
  obtain rfl := Option.some.inj hm
  exact hret _ _ _ _ _ hw rfl dX11_output_8
theorem cn_X11_output_0 (fu : Nat) {res : Int32 × PF × PG} (x1 : Int32) (F : PF) (G : PG) (hm : cb_X11_output_0 fu x1 F G = some res) : xn F ≤ xn res.2.1 := by
  unfold cb_X11_output_0 at hm
  obtain ⟨⟨r1, F1, G1⟩, hc, hm⟩ := bind_elim hm
  exact Nat.le_trans (cn_X7_shown fu x1 F G _ hc) (cn_X11_output_8 fu r1 F1 G1 hm)
theorem cw_X11_output_0 (fu : Nat) {res : Int32 × PF × PG} (C : cMC p R s m args c A v RX11 cX11_output 2 1 21 (xn res.2.1 - xn K0)) (hret : ∀ (b1 : Nat) (H1 : Heap) (locs1 : List Loc) (ls1 : Array Slot) (pc : Nat), cMW s A v a b1 K0 res.2.1 res.2.2 H1 locs1 → narrow .int (.int res.1) = .int res.1 → decode cX11_output pc = .ok (.ireturn, 1) → W p l e R s m args below meth c H1 locs1 (xn res.2.1 - xn K0) (2 * (xn res.2.1 - xn K0)) Q (F0 m pc ls1 [.int res.1])) (x1 : Int32) (F : PF) (G : PG) (hm : cb_X11_output_0 fu x1 F G = some res) {b : Nat} {H : Heap} {locs : List Loc} (hw : cMW s A v a b K0 F G H locs) {ls : Array Slot} (hl : lv_has ls 2 [(0, .ref (a 211)), (1, .int x1)]) : W p l e R s m args below meth c H locs (xn F - xn K0) (2 * (xn F - xn K0)) Q (F0 m 0 ls []) := by
  have hx := C.1
  have hb := C.2.1
  unfold cb_X11_output_0 at hm
  refine lv_aload_n hx hb dX11_output_0 rfl (lv_at hl 0 rfl) ?_
  refine cg_X11_38 C hw dX11_output_1 ?_
  refine lv_iload_n hx hb dX11_output_4 rfl (lv_at hl 1 rfl) ?_
  obtain ⟨⟨r1, F1, G1⟩, hc, hm⟩ := bind_elim hm
  refine ccallI (n := 1) (As := [.int x1]) (rest := []) C hw (ck_X7_shown l v a _ _ fu x1 F G r1 F1 G1 hc) (cn_X7_shown fu x1 F G _ hc) (Nat.sub_le_sub_right (cn_X11_output_8 fu r1 F1 G1 hm) _) (crecv_X7 C hw) cm_919 cm_920 cm_921 cm_34 cm_922 (by decide +kernel) rfl (by omega) (by omega) hl.1 rfl (Nat.le_of_ble_eq_true rfl) dX11_output_5 (fun b H locs hw => ?_)
  exact cw_X11_output_8 fu C hret r1 F1 G1 hm hw (lv_sub hl [] rfl)
theorem cn_X11_output (fu : Nat) (x1 : Int32) (F : PF) (G : PG) (q : Int32 × PF × PG) (hm : cf_X11_output fu x1 F G = some q) : xn F ≤ xn q.2.1 := cn_X11_output_0 fu x1 F G hm
theorem ck_X11_output (l : Launch) (v : EV) (a : Nat → Nat) (b sz : Nat) (fu : Nat) (x1 : Int32) (F : PF) (G : PG) (r : Int32) (F1 : PF) (G1 : PG) (hm : cf_X11_output fu x1 F G = some (r, F1, G1)) : cMI l yX11_output cX11_output 2 (some .int) 1 21 v a b sz [.ref (a 211), .int x1] F G r F1 G1 := cMI.of (ty := .int) (by decide) rfl (Nat.le_of_ble_eq_true rfl) (fun p e R s m args below meth c Q A H locs ls C hw hl hret => cw_X11_output_0 fu (res := (r, F1, G1)) C hret x1 F G hm hw hl)
def cb_X11_world_48 (fu : Nat) (F : PF) (G : PG) : PR := some ((F 63), F, G)
def cb_X11_world_56 (fu : Nat) (F : PF) (G : PG) : PR := some ((F 64), F, G)
def cb_X11_world_64 (fu : Nat) (F : PF) (G : PG) : PR := some ((F 72), F, G)
def cb_X11_world_72 (fu : Nat) (F : PF) (G : PG) : PR := some ((F 70), F, G)
def cb_X11_world_80 (fu : Nat) (F : PF) (G : PG) : PR := some ((F 65), F, G)
def cb_X11_world_88 (fu : Nat) (F : PF) (G : PG) : PR := some ((F 66), F, G)
def cb_X11_world_103 (fu : Nat) (z0 : Int32) (F : PF) (G : PG) : PR := some (z0, F, G)
def cb_X11_world_96 (fu : Nat) (F : PF) (G : PG) : PR := (cf_X6_depth fu F G).bind (fun q => cb_X11_world_103 fu q.1 q.2.1 q.2.2)
def cb_X11_world_104 (fu : Nat) (F : PF) (G : PG) : PR := some ((F 67), F, G)
def cb_X11_world_112 (fu : Nat) (F : PF) (G : PG) : PR := some ((-1), F, G)
def cb_X11_world_0 (fu : Nat) (x1 : Int32) (F : PF) (G : PG) : PR := if x1.toInt < 0 ∨ 7 < x1.toInt then cb_X11_world_112 fu F G else if x1 = 0 then cb_X11_world_48 fu F G else if x1 = 1 then cb_X11_world_56 fu F G else if x1 = 2 then cb_X11_world_64 fu F G else if x1 = 3 then cb_X11_world_72 fu F G else if x1 = 4 then cb_X11_world_80 fu F G else if x1 = 5 then cb_X11_world_88 fu F G else if x1 = 6 then cb_X11_world_96 fu F G else cb_X11_world_104 fu F G
def cf_X11_world (fu : Nat) (x1 : Int32) (F : PF) (G : PG) : PR := cb_X11_world_0 fu x1 F G
theorem cn_X11_world_48 (fu : Nat) {res : Int32 × PF × PG} (F : PF) (G : PG) (hm : cb_X11_world_48 fu F G = some res) : xn F ≤ xn res.2.1 := by
  unfold cb_X11_world_48 at hm
  obtain rfl := Option.some.inj hm
  exact Nat.le_refl _
theorem cw_X11_world_48 (fu : Nat) {res : Int32 × PF × PG} (C : cMC p R s m args c A v RX11 cX11_world 2 1 20 (xn res.2.1 - xn K0)) (hret : ∀ (b1 : Nat) (H1 : Heap) (locs1 : List Loc) (ls1 : Array Slot) (pc : Nat), cMW s A v a b1 K0 res.2.1 res.2.2 H1 locs1 → narrow .int (.int res.1) = .int res.1 → decode cX11_world pc = .ok (.ireturn, 1) → W p l e R s m args below meth c H1 locs1 (xn res.2.1 - xn K0) (2 * (xn res.2.1 - xn K0)) Q (F0 m pc ls1 [.int res.1])) (F : PF) (G : PG) (hm : cb_X11_world_48 fu F G = some res) {b : Nat} {H : Heap} {locs : List Loc} (hw : cMW s A v a b K0 F G H locs) {ls : Array Slot} (hl : lv_has ls 2 [(0, .ref (a 211))]) : W p l e R s m args below meth c H locs (xn F - xn K0) (2 * (xn F - xn K0)) Q (F0 m 48 ls []) := by
  have hx := C.1
  have hb := C.2.1
  unfold cb_X11_world_48 at hm
  refine lv_aload_n hx hb dX11_world_48 rfl (lv_at hl 0 rfl) ?_
  refine cg_X11_47 C hw dX11_world_49 ?_
  refine cg_X11_146 C hw dX11_world_52 ?_
  obtain rfl := Option.some.inj hm
  exact hret _ _ _ _ _ hw rfl dX11_world_55
theorem cn_X11_world_56 (fu : Nat) {res : Int32 × PF × PG} (F : PF) (G : PG) (hm : cb_X11_world_56 fu F G = some res) : xn F ≤ xn res.2.1 := by
  unfold cb_X11_world_56 at hm
  obtain rfl := Option.some.inj hm
  exact Nat.le_refl _
theorem cw_X11_world_56 (fu : Nat) {res : Int32 × PF × PG} (C : cMC p R s m args c A v RX11 cX11_world 2 1 20 (xn res.2.1 - xn K0)) (hret : ∀ (b1 : Nat) (H1 : Heap) (locs1 : List Loc) (ls1 : Array Slot) (pc : Nat), cMW s A v a b1 K0 res.2.1 res.2.2 H1 locs1 → narrow .int (.int res.1) = .int res.1 → decode cX11_world pc = .ok (.ireturn, 1) → W p l e R s m args below meth c H1 locs1 (xn res.2.1 - xn K0) (2 * (xn res.2.1 - xn K0)) Q (F0 m pc ls1 [.int res.1])) (F : PF) (G : PG) (hm : cb_X11_world_56 fu F G = some res) {b : Nat} {H : Heap} {locs : List Loc} (hw : cMW s A v a b K0 F G H locs) {ls : Array Slot} (hl : lv_has ls 2 [(0, .ref (a 211))]) : W p l e R s m args below meth c H locs (xn F - xn K0) (2 * (xn F - xn K0)) Q (F0 m 56 ls []) := by
  have hx := C.1
  have hb := C.2.1
  unfold cb_X11_world_56 at hm
  refine lv_aload_n hx hb dX11_world_56 rfl (lv_at hl 0 rfl) ?_
  refine cg_X11_47 C hw dX11_world_57 ?_
  refine cg_X11_156 C hw dX11_world_60 ?_
  obtain rfl := Option.some.inj hm
  exact hret _ _ _ _ _ hw rfl dX11_world_63
theorem cn_X11_world_64 (fu : Nat) {res : Int32 × PF × PG} (F : PF) (G : PG) (hm : cb_X11_world_64 fu F G = some res) : xn F ≤ xn res.2.1 := by
  unfold cb_X11_world_64 at hm
  obtain rfl := Option.some.inj hm
  exact Nat.le_refl _
theorem cw_X11_world_64 (fu : Nat) {res : Int32 × PF × PG} (C : cMC p R s m args c A v RX11 cX11_world 2 1 20 (xn res.2.1 - xn K0)) (hret : ∀ (b1 : Nat) (H1 : Heap) (locs1 : List Loc) (ls1 : Array Slot) (pc : Nat), cMW s A v a b1 K0 res.2.1 res.2.2 H1 locs1 → narrow .int (.int res.1) = .int res.1 → decode cX11_world pc = .ok (.ireturn, 1) → W p l e R s m args below meth c H1 locs1 (xn res.2.1 - xn K0) (2 * (xn res.2.1 - xn K0)) Q (F0 m pc ls1 [.int res.1])) (F : PF) (G : PG) (hm : cb_X11_world_64 fu F G = some res) {b : Nat} {H : Heap} {locs : List Loc} (hw : cMW s A v a b K0 F G H locs) {ls : Array Slot} (hl : lv_has ls 2 [(0, .ref (a 211))]) : W p l e R s m args below meth c H locs (xn F - xn K0) (2 * (xn F - xn K0)) Q (F0 m 64 ls []) := by
  have hx := C.1
  have hb := C.2.1
  unfold cb_X11_world_64 at hm
  refine lv_aload_n hx hb dX11_world_64 rfl (lv_at hl 0 rfl) ?_
  refine cg_X11_38 C hw dX11_world_65 ?_
  refine cg_X11_159 C hw dX11_world_68 ?_
  obtain rfl := Option.some.inj hm
  exact hret _ _ _ _ _ hw rfl dX11_world_71
theorem cn_X11_world_72 (fu : Nat) {res : Int32 × PF × PG} (F : PF) (G : PG) (hm : cb_X11_world_72 fu F G = some res) : xn F ≤ xn res.2.1 := by
  unfold cb_X11_world_72 at hm
  obtain rfl := Option.some.inj hm
  exact Nat.le_refl _
theorem cw_X11_world_72 (fu : Nat) {res : Int32 × PF × PG} (C : cMC p R s m args c A v RX11 cX11_world 2 1 20 (xn res.2.1 - xn K0)) (hret : ∀ (b1 : Nat) (H1 : Heap) (locs1 : List Loc) (ls1 : Array Slot) (pc : Nat), cMW s A v a b1 K0 res.2.1 res.2.2 H1 locs1 → narrow .int (.int res.1) = .int res.1 → decode cX11_world pc = .ok (.ireturn, 1) → W p l e R s m args below meth c H1 locs1 (xn res.2.1 - xn K0) (2 * (xn res.2.1 - xn K0)) Q (F0 m pc ls1 [.int res.1])) (F : PF) (G : PG) (hm : cb_X11_world_72 fu F G = some res) {b : Nat} {H : Heap} {locs : List Loc} (hw : cMW s A v a b K0 F G H locs) {ls : Array Slot} (hl : lv_has ls 2 [(0, .ref (a 211))]) : W p l e R s m args below meth c H locs (xn F - xn K0) (2 * (xn F - xn K0)) Q (F0 m 72 ls []) := by
  have hx := C.1
  have hb := C.2.1
  unfold cb_X11_world_72 at hm
  refine lv_aload_n hx hb dX11_world_72 rfl (lv_at hl 0 rfl) ?_
  refine cg_X11_38 C hw dX11_world_73 ?_
  refine cg_X11_140 C hw dX11_world_76 ?_
  obtain rfl := Option.some.inj hm
  exact hret _ _ _ _ _ hw rfl dX11_world_79
theorem cn_X11_world_80 (fu : Nat) {res : Int32 × PF × PG} (F : PF) (G : PG) (hm : cb_X11_world_80 fu F G = some res) : xn F ≤ xn res.2.1 := by
  unfold cb_X11_world_80 at hm
  obtain rfl := Option.some.inj hm
  exact Nat.le_refl _
theorem cw_X11_world_80 (fu : Nat) {res : Int32 × PF × PG} (C : cMC p R s m args c A v RX11 cX11_world 2 1 20 (xn res.2.1 - xn K0)) (hret : ∀ (b1 : Nat) (H1 : Heap) (locs1 : List Loc) (ls1 : Array Slot) (pc : Nat), cMW s A v a b1 K0 res.2.1 res.2.2 H1 locs1 → narrow .int (.int res.1) = .int res.1 → decode cX11_world pc = .ok (.ireturn, 1) → W p l e R s m args below meth c H1 locs1 (xn res.2.1 - xn K0) (2 * (xn res.2.1 - xn K0)) Q (F0 m pc ls1 [.int res.1])) (F : PF) (G : PG) (hm : cb_X11_world_80 fu F G = some res) {b : Nat} {H : Heap} {locs : List Loc} (hw : cMW s A v a b K0 F G H locs) {ls : Array Slot} (hl : lv_has ls 2 [(0, .ref (a 211))]) : W p l e R s m args below meth c H locs (xn F - xn K0) (2 * (xn F - xn K0)) Q (F0 m 80 ls []) := by
  have hx := C.1
  have hb := C.2.1
  unfold cb_X11_world_80 at hm
  refine lv_aload_n hx hb dX11_world_80 rfl (lv_at hl 0 rfl) ?_
  refine cg_X11_47 C hw dX11_world_81 ?_
  refine cg_X11_162 C hw dX11_world_84 ?_
  obtain rfl := Option.some.inj hm
  exact hret _ _ _ _ _ hw rfl dX11_world_87
theorem cn_X11_world_88 (fu : Nat) {res : Int32 × PF × PG} (F : PF) (G : PG) (hm : cb_X11_world_88 fu F G = some res) : xn F ≤ xn res.2.1 := by
  unfold cb_X11_world_88 at hm
  obtain rfl := Option.some.inj hm
  exact Nat.le_refl _
theorem cw_X11_world_88 (fu : Nat) {res : Int32 × PF × PG} (C : cMC p R s m args c A v RX11 cX11_world 2 1 20 (xn res.2.1 - xn K0)) (hret : ∀ (b1 : Nat) (H1 : Heap) (locs1 : List Loc) (ls1 : Array Slot) (pc : Nat), cMW s A v a b1 K0 res.2.1 res.2.2 H1 locs1 → narrow .int (.int res.1) = .int res.1 → decode cX11_world pc = .ok (.ireturn, 1) → W p l e R s m args below meth c H1 locs1 (xn res.2.1 - xn K0) (2 * (xn res.2.1 - xn K0)) Q (F0 m pc ls1 [.int res.1])) (F : PF) (G : PG) (hm : cb_X11_world_88 fu F G = some res) {b : Nat} {H : Heap} {locs : List Loc} (hw : cMW s A v a b K0 F G H locs) {ls : Array Slot} (hl : lv_has ls 2 [(0, .ref (a 211))]) : W p l e R s m args below meth c H locs (xn F - xn K0) (2 * (xn F - xn K0)) Q (F0 m 88 ls []) := by
  have hx := C.1
  have hb := C.2.1
  unfold cb_X11_world_88 at hm
  refine lv_aload_n hx hb dX11_world_88 rfl (lv_at hl 0 rfl) ?_
  refine cg_X11_47 C hw dX11_world_89 ?_
  refine cg_X11_165 C hw dX11_world_92 ?_
  obtain rfl := Option.some.inj hm
  exact hret _ _ _ _ _ hw rfl dX11_world_95
theorem cn_X11_world_103 (fu : Nat) {res : Int32 × PF × PG} (z0 : Int32) (F : PF) (G : PG) (hm : cb_X11_world_103 fu z0 F G = some res) : xn F ≤ xn res.2.1 := by
  unfold cb_X11_world_103 at hm
  obtain rfl := Option.some.inj hm
  exact Nat.le_refl _
theorem cw_X11_world_103 (fu : Nat) {res : Int32 × PF × PG} (C : cMC p R s m args c A v RX11 cX11_world 2 1 20 (xn res.2.1 - xn K0)) (hret : ∀ (b1 : Nat) (H1 : Heap) (locs1 : List Loc) (ls1 : Array Slot) (pc : Nat), cMW s A v a b1 K0 res.2.1 res.2.2 H1 locs1 → narrow .int (.int res.1) = .int res.1 → decode cX11_world pc = .ok (.ireturn, 1) → W p l e R s m args below meth c H1 locs1 (xn res.2.1 - xn K0) (2 * (xn res.2.1 - xn K0)) Q (F0 m pc ls1 [.int res.1])) (z0 : Int32) (F : PF) (G : PG) (hm : cb_X11_world_103 fu z0 F G = some res) {b : Nat} {H : Heap} {locs : List Loc} (hw : cMW s A v a b K0 F G H locs) {ls : Array Slot} (hl : lv_has ls 2 []) : W p l e R s m args below meth c H locs (xn F - xn K0) (2 * (xn F - xn K0)) Q (F0 m 103 ls [.int z0]) := by
  have hx := C.1
  have hb := C.2.1
  unfold cb_X11_world_103 at hm
  obtain rfl := Option.some.inj hm
  exact hret _ _ _ _ _ hw rfl dX11_world_103
theorem cn_X11_world_96 (fu : Nat) {res : Int32 × PF × PG} (F : PF) (G : PG) (hm : cb_X11_world_96 fu F G = some res) : xn F ≤ xn res.2.1 := by
  unfold cb_X11_world_96 at hm
  obtain ⟨⟨r1, F1, G1⟩, hc, hm⟩ := bind_elim hm
  exact Nat.le_trans (cn_X6_depth fu F G _ hc) (cn_X11_world_103 fu r1 F1 G1 hm)
theorem cw_X11_world_96 (fu : Nat) {res : Int32 × PF × PG} (C : cMC p R s m args c A v RX11 cX11_world 2 1 20 (xn res.2.1 - xn K0)) (hret : ∀ (b1 : Nat) (H1 : Heap) (locs1 : List Loc) (ls1 : Array Slot) (pc : Nat), cMW s A v a b1 K0 res.2.1 res.2.2 H1 locs1 → narrow .int (.int res.1) = .int res.1 → decode cX11_world pc = .ok (.ireturn, 1) → W p l e R s m args below meth c H1 locs1 (xn res.2.1 - xn K0) (2 * (xn res.2.1 - xn K0)) Q (F0 m pc ls1 [.int res.1])) (F : PF) (G : PG) (hm : cb_X11_world_96 fu F G = some res) {b : Nat} {H : Heap} {locs : List Loc} (hw : cMW s A v a b K0 F G H locs) {ls : Array Slot} (hl : lv_has ls 2 [(0, .ref (a 211))]) : W p l e R s m args below meth c H locs (xn F - xn K0) (2 * (xn F - xn K0)) Q (F0 m 96 ls []) := by
  have hx := C.1
  have hb := C.2.1
  unfold cb_X11_world_96 at hm
  refine lv_aload_n hx hb dX11_world_96 rfl (lv_at hl 0 rfl) ?_
  refine cg_X11_47 C hw dX11_world_97 ?_
  obtain ⟨⟨r1, F1, G1⟩, hc, hm⟩ := bind_elim hm
  refine ccallI (n := 0) (As := []) (rest := []) C hw (ck_X6_depth l v a _ _ fu F G r1 F1 G1 hc) (cn_X6_depth fu F G _ hc) (Nat.sub_le_sub_right (cn_X11_world_103 fu r1 F1 G1 hm) _) (crecv_X6 C hw) cm_929 cm_847 cm_848 cm_21 cm_849 (by decide +kernel) rfl (by omega) (by omega) hl.1 rfl (Nat.le_of_ble_eq_true rfl) dX11_world_100 (fun b H locs hw => ?_)
  exact cw_X11_world_103 fu C hret r1 F1 G1 hm hw (lv_sub hl [] rfl)
theorem cn_X11_world_104 (fu : Nat) {res : Int32 × PF × PG} (F : PF) (G : PG) (hm : cb_X11_world_104 fu F G = some res) : xn F ≤ xn res.2.1 := by
  unfold cb_X11_world_104 at hm
  obtain rfl := Option.some.inj hm
  exact Nat.le_refl _
theorem cw_X11_world_104 (fu : Nat) {res : Int32 × PF × PG} (C : cMC p R s m args c A v RX11 cX11_world 2 1 20 (xn res.2.1 - xn K0)) (hret : ∀ (b1 : Nat) (H1 : Heap) (locs1 : List Loc) (ls1 : Array Slot) (pc : Nat), cMW s A v a b1 K0 res.2.1 res.2.2 H1 locs1 → narrow .int (.int res.1) = .int res.1 → decode cX11_world pc = .ok (.ireturn, 1) → W p l e R s m args below meth c H1 locs1 (xn res.2.1 - xn K0) (2 * (xn res.2.1 - xn K0)) Q (F0 m pc ls1 [.int res.1])) (F : PF) (G : PG) (hm : cb_X11_world_104 fu F G = some res) {b : Nat} {H : Heap} {locs : List Loc} (hw : cMW s A v a b K0 F G H locs) {ls : Array Slot} (hl : lv_has ls 2 [(0, .ref (a 211))]) : W p l e R s m args below meth c H locs (xn F - xn K0) (2 * (xn F - xn K0)) Q (F0 m 104 ls []) := by
  have hx := C.1
  have hb := C.2.1
  unfold cb_X11_world_104 at hm
  refine lv_aload_n hx hb dX11_world_104 rfl (lv_at hl 0 rfl) ?_
  refine cg_X11_47 C hw dX11_world_105 ?_
  refine cg_X11_171 C hw dX11_world_108 ?_
  obtain rfl := Option.some.inj hm
  exact hret _ _ _ _ _ hw rfl dX11_world_111
theorem cn_X11_world_112 (fu : Nat) {res : Int32 × PF × PG} (F : PF) (G : PG) (hm : cb_X11_world_112 fu F G = some res) : xn F ≤ xn res.2.1 := by
  unfold cb_X11_world_112 at hm
  obtain rfl := Option.some.inj hm
  exact Nat.le_refl _
theorem cw_X11_world_112 (fu : Nat) {res : Int32 × PF × PG} (C : cMC p R s m args c A v RX11 cX11_world 2 1 20 (xn res.2.1 - xn K0)) (hret : ∀ (b1 : Nat) (H1 : Heap) (locs1 : List Loc) (ls1 : Array Slot) (pc : Nat), cMW s A v a b1 K0 res.2.1 res.2.2 H1 locs1 → narrow .int (.int res.1) = .int res.1 → decode cX11_world pc = .ok (.ireturn, 1) → W p l e R s m args below meth c H1 locs1 (xn res.2.1 - xn K0) (2 * (xn res.2.1 - xn K0)) Q (F0 m pc ls1 [.int res.1])) (F : PF) (G : PG) (hm : cb_X11_world_112 fu F G = some res) {b : Nat} {H : Heap} {locs : List Loc} (hw : cMW s A v a b K0 F G H locs) {ls : Array Slot} (hl : lv_has ls 2 []) : W p l e R s m args below meth c H locs (xn F - xn K0) (2 * (xn F - xn K0)) Q (F0 m 112 ls []) := by
  have hx := C.1
  have hb := C.2.1
  unfold cb_X11_world_112 at hm
  refine lv_iconst (v := (-1)) hx hb dX11_world_112 (by decide) ?_
  obtain rfl := Option.some.inj hm
  exact hret _ _ _ _ _ hw rfl dX11_world_113
theorem cn_X11_world_0 (fu : Nat) {res : Int32 × PF × PG} (x1 : Int32) (F : PF) (G : PG) (hm : cb_X11_world_0 fu x1 F G = some res) : xn F ≤ xn res.2.1 := by
  unfold cb_X11_world_0 at hm
  by_cases c_0 : x1.toInt < 0 ∨ 7 < x1.toInt
  · have hm := (if_pos c_0).symm.trans hm
    exact (cn_X11_world_112 fu F G hm)
  have hm := (if_neg c_0).symm.trans hm
  by_cases c_1 : x1 = 0
  · have hm := (if_pos c_1).symm.trans hm
    exact (cn_X11_world_48 fu F G hm)
  have hm := (if_neg c_1).symm.trans hm
  clear c_1
  by_cases c_1 : x1 = 1
  · have hm := (if_pos c_1).symm.trans hm
    exact (cn_X11_world_56 fu F G hm)
  have hm := (if_neg c_1).symm.trans hm
  clear c_1
  by_cases c_1 : x1 = 2
  · have hm := (if_pos c_1).symm.trans hm
    exact (cn_X11_world_64 fu F G hm)
  have hm := (if_neg c_1).symm.trans hm
  clear c_1
  by_cases c_1 : x1 = 3
  · have hm := (if_pos c_1).symm.trans hm
    exact (cn_X11_world_72 fu F G hm)
  have hm := (if_neg c_1).symm.trans hm
  clear c_1
  by_cases c_1 : x1 = 4
  · have hm := (if_pos c_1).symm.trans hm
    exact (cn_X11_world_80 fu F G hm)
  have hm := (if_neg c_1).symm.trans hm
  clear c_1
  by_cases c_1 : x1 = 5
  · have hm := (if_pos c_1).symm.trans hm
    exact (cn_X11_world_88 fu F G hm)
  have hm := (if_neg c_1).symm.trans hm
  clear c_1
  by_cases c_1 : x1 = 6
  · have hm := (if_pos c_1).symm.trans hm
    exact (cn_X11_world_96 fu F G hm)
  have hm := (if_neg c_1).symm.trans hm
  clear c_1
  exact (cn_X11_world_104 fu F G hm)
theorem cw_X11_world_0 (fu : Nat) {res : Int32 × PF × PG} (C : cMC p R s m args c A v RX11 cX11_world 2 1 20 (xn res.2.1 - xn K0)) (hret : ∀ (b1 : Nat) (H1 : Heap) (locs1 : List Loc) (ls1 : Array Slot) (pc : Nat), cMW s A v a b1 K0 res.2.1 res.2.2 H1 locs1 → narrow .int (.int res.1) = .int res.1 → decode cX11_world pc = .ok (.ireturn, 1) → W p l e R s m args below meth c H1 locs1 (xn res.2.1 - xn K0) (2 * (xn res.2.1 - xn K0)) Q (F0 m pc ls1 [.int res.1])) (x1 : Int32) (F : PF) (G : PG) (hm : cb_X11_world_0 fu x1 F G = some res) {b : Nat} {H : Heap} {locs : List Loc} (hw : cMW s A v a b K0 F G H locs) {ls : Array Slot} (hl : lv_has ls 2 [(0, .ref (a 211)), (1, .int x1)]) : W p l e R s m args below meth c H locs (xn F - xn K0) (2 * (xn F - xn K0)) Q (F0 m 0 ls []) := by
  have hx := C.1
  have hb := C.2.1
  unfold cb_X11_world_0 at hm
  refine lv_iload_n hx hb dX11_world_0 rfl (lv_at hl 1 rfl) ?_
  by_cases c_0 : x1.toInt < 0 ∨ 7 < x1.toInt
  · have hm := (if_pos c_0).symm.trans hm
    refine lv_tableOut (tgt := 112) hx hb dX11_world_1 c_0 (by decide) ?_
    exact cw_X11_world_112 fu C hret F G hm hw (lv_sub hl [] rfl)
  have hm := (if_neg c_0).symm.trans hm
  by_cases c_1 : x1 = 0
  · have hm := (if_pos c_1).symm.trans hm
    refine my_top 0 c_1 ?_
    refine lv_tableIn (off := 47) (tgt := 48) hx hb dX11_world_1 (by decide) (by decide) (by decide) (by decide) ?_
    exact cw_X11_world_48 fu C hret F G hm hw (lv_sub hl [0] rfl)
  have hm := (if_neg c_1).symm.trans hm
  have n_0 := c_1
  clear c_1
  by_cases c_1 : x1 = 1
  · have hm := (if_pos c_1).symm.trans hm
    refine my_top 1 c_1 ?_
    refine lv_tableIn (off := 55) (tgt := 56) hx hb dX11_world_1 (by decide) (by decide) (by decide) (by decide) ?_
    exact cw_X11_world_56 fu C hret F G hm hw (lv_sub hl [0] rfl)
  have hm := (if_neg c_1).symm.trans hm
  have n_1 := c_1
  clear c_1
  by_cases c_1 : x1 = 2
  · have hm := (if_pos c_1).symm.trans hm
    refine my_top 2 c_1 ?_
    refine lv_tableIn (off := 63) (tgt := 64) hx hb dX11_world_1 (by decide) (by decide) (by decide) (by decide) ?_
    exact cw_X11_world_64 fu C hret F G hm hw (lv_sub hl [0] rfl)
  have hm := (if_neg c_1).symm.trans hm
  have n_2 := c_1
  clear c_1
  by_cases c_1 : x1 = 3
  · have hm := (if_pos c_1).symm.trans hm
    refine my_top 3 c_1 ?_
    refine lv_tableIn (off := 71) (tgt := 72) hx hb dX11_world_1 (by decide) (by decide) (by decide) (by decide) ?_
    exact cw_X11_world_72 fu C hret F G hm hw (lv_sub hl [0] rfl)
  have hm := (if_neg c_1).symm.trans hm
  have n_3 := c_1
  clear c_1
  by_cases c_1 : x1 = 4
  · have hm := (if_pos c_1).symm.trans hm
    refine my_top 4 c_1 ?_
    refine lv_tableIn (off := 79) (tgt := 80) hx hb dX11_world_1 (by decide) (by decide) (by decide) (by decide) ?_
    exact cw_X11_world_80 fu C hret F G hm hw (lv_sub hl [0] rfl)
  have hm := (if_neg c_1).symm.trans hm
  have n_4 := c_1
  clear c_1
  by_cases c_1 : x1 = 5
  · have hm := (if_pos c_1).symm.trans hm
    refine my_top 5 c_1 ?_
    refine lv_tableIn (off := 87) (tgt := 88) hx hb dX11_world_1 (by decide) (by decide) (by decide) (by decide) ?_
    exact cw_X11_world_88 fu C hret F G hm hw (lv_sub hl [0] rfl)
  have hm := (if_neg c_1).symm.trans hm
  have n_5 := c_1
  clear c_1
  by_cases c_1 : x1 = 6
  · have hm := (if_pos c_1).symm.trans hm
    refine my_top 6 c_1 ?_
    refine lv_tableIn (off := 95) (tgt := 96) hx hb dX11_world_1 (by decide) (by decide) (by decide) (by decide) ?_
    exact cw_X11_world_96 fu C hret F G hm hw (lv_sub hl [0] rfl)
  have hm := (if_neg c_1).symm.trans hm
  have n_6 := c_1
  clear c_1
  have c_1 : x1 = 7 := my_last (l := 0) (k := 7) c_0 (by decide) (fun j hj => match j, hj with | 0, _ => fun h9 => n_0 (Int32.toInt_inj.mp (h9.trans (by decide))) | 1, _ => fun h9 => n_1 (Int32.toInt_inj.mp (h9.trans (by decide))) | 2, _ => fun h9 => n_2 (Int32.toInt_inj.mp (h9.trans (by decide))) | 3, _ => fun h9 => n_3 (Int32.toInt_inj.mp (h9.trans (by decide))) | 4, _ => fun h9 => n_4 (Int32.toInt_inj.mp (h9.trans (by decide))) | 5, _ => fun h9 => n_5 (Int32.toInt_inj.mp (h9.trans (by decide))) | 6, _ => fun h9 => n_6 (Int32.toInt_inj.mp (h9.trans (by decide))) | q + 7, h => absurd h (by omega)) (by decide)
  refine my_top 7 c_1 ?_
  refine lv_tableIn (off := 103) (tgt := 104) hx hb dX11_world_1 (by decide) (by decide) (by decide) (by decide) ?_
  exact cw_X11_world_104 fu C hret F G hm hw (lv_sub hl [0] rfl)
theorem cn_X11_world (fu : Nat) (x1 : Int32) (F : PF) (G : PG) (q : Int32 × PF × PG) (hm : cf_X11_world fu x1 F G = some q) : xn F ≤ xn q.2.1 := cn_X11_world_0 fu x1 F G hm
theorem ck_X11_world (l : Launch) (v : EV) (a : Nat → Nat) (b sz : Nat) (fu : Nat) (x1 : Int32) (F : PF) (G : PG) (r : Int32) (F1 : PF) (G1 : PG) (hm : cf_X11_world fu x1 F G = some (r, F1, G1)) : cMI l yX11_world cX11_world 2 (some .int) 1 20 v a b sz [.ref (a 211), .int x1] F G r F1 G1 := cMI.of (ty := .int) (by decide) rfl (Nat.le_of_ble_eq_true rfl) (fun p e R s m args below meth c Q A H locs ls C hw hl hret => cw_X11_world_0 fu (res := (r, F1, G1)) C hret x1 F G hm hw hl)
def cb_X11_global_25 (fu : Nat) (F : PF) (G : PG) : PR := some (0, F, G)
def cb_X11_global_56 (fu : Nat) (z0 : Int32) (F : PF) (G : PG) : PR := some (z0, F, G)
def cb_X11_global_48 (fu : Nat) (x1 : Int32) (F : PF) (G : PG) : PR := (cf_X6_held fu x1 F G).bind (fun q => cb_X11_global_56 fu q.1 q.2.1 q.2.2)
def cb_X11_global_45 (fu : Nat) (z0 : Int32) (F : PF) (G : PG) : PR := cb_X11_global_56 fu z0 F G
def cb_X11_global_37 (fu : Nat) (x1 : Int32) (F : PF) (G : PG) : PR := (cf_X8_firstWord fu x1 F G).bind (fun q => cb_X11_global_45 fu q.1 q.2.1 q.2.2)
def cb_X11_global_27 (fu : Nat) (x1 : Int32) (F : PF) (G : PG) : PR := if (F 63) = (0 : Int32) then cb_X11_global_37 fu x1 F G else cb_X11_global_48 fu x1 F G
def cb_X11_global_14 (fu : Nat) (x1 : Int32) (F : PF) (G : PG) : PR := if x1 < (F 75) then cb_X11_global_27 fu x1 F G else cb_X11_global_25 fu F G
def cb_X11_global_10 (fu : Nat) (x1 : Int32) (F : PF) (G : PG) : PR := if x1 < (0 : Int32) then cb_X11_global_25 fu F G else cb_X11_global_14 fu x1 F G
def cb_X11_global_0 (fu : Nat) (x1 : Int32) (F : PF) (G : PG) : PR := if (F 73) = (0 : Int32) then cb_X11_global_25 fu F G else cb_X11_global_10 fu x1 F G
def cf_X11_global (fu : Nat) (x1 : Int32) (F : PF) (G : PG) : PR := cb_X11_global_0 fu x1 F G
theorem cn_X11_global_25 (fu : Nat) {res : Int32 × PF × PG} (F : PF) (G : PG) (hm : cb_X11_global_25 fu F G = some res) : xn F ≤ xn res.2.1 := by
  unfold cb_X11_global_25 at hm
  obtain rfl := Option.some.inj hm
  exact Nat.le_refl _
theorem cw_X11_global_25 (fu : Nat) {res : Int32 × PF × PG} (C : cMC p R s m args c A v RX11 cX11_global 2 1 21 (xn res.2.1 - xn K0)) (hret : ∀ (b1 : Nat) (H1 : Heap) (locs1 : List Loc) (ls1 : Array Slot) (pc : Nat), cMW s A v a b1 K0 res.2.1 res.2.2 H1 locs1 → narrow .int (.int res.1) = .int res.1 → decode cX11_global pc = .ok (.ireturn, 1) → W p l e R s m args below meth c H1 locs1 (xn res.2.1 - xn K0) (2 * (xn res.2.1 - xn K0)) Q (F0 m pc ls1 [.int res.1])) (F : PF) (G : PG) (hm : cb_X11_global_25 fu F G = some res) {b : Nat} {H : Heap} {locs : List Loc} (hw : cMW s A v a b K0 F G H locs) {ls : Array Slot} (hl : lv_has ls 2 []) : W p l e R s m args below meth c H locs (xn F - xn K0) (2 * (xn F - xn K0)) Q (F0 m 25 ls []) := by
  have hx := C.1
  have hb := C.2.1
  unfold cb_X11_global_25 at hm
  refine lv_iconst (v := 0) hx hb dX11_global_25 (by decide) ?_
  obtain rfl := Option.some.inj hm
  exact hret _ _ _ _ _ hw rfl dX11_global_26
theorem cn_X11_global_56 (fu : Nat) {res : Int32 × PF × PG} (z0 : Int32) (F : PF) (G : PG) (hm : cb_X11_global_56 fu z0 F G = some res) : xn F ≤ xn res.2.1 := by
  unfold cb_X11_global_56 at hm
  obtain rfl := Option.some.inj hm
  exact Nat.le_refl _
theorem cw_X11_global_56 (fu : Nat) {res : Int32 × PF × PG} (C : cMC p R s m args c A v RX11 cX11_global 2 1 21 (xn res.2.1 - xn K0)) (hret : ∀ (b1 : Nat) (H1 : Heap) (locs1 : List Loc) (ls1 : Array Slot) (pc : Nat), cMW s A v a b1 K0 res.2.1 res.2.2 H1 locs1 → narrow .int (.int res.1) = .int res.1 → decode cX11_global pc = .ok (.ireturn, 1) → W p l e R s m args below meth c H1 locs1 (xn res.2.1 - xn K0) (2 * (xn res.2.1 - xn K0)) Q (F0 m pc ls1 [.int res.1])) (z0 : Int32) (F : PF) (G : PG) (hm : cb_X11_global_56 fu z0 F G = some res) {b : Nat} {H : Heap} {locs : List Loc} (hw : cMW s A v a b K0 F G H locs) {ls : Array Slot} (hl : lv_has ls 2 []) : W p l e R s m args below meth c H locs (xn F - xn K0) (2 * (xn F - xn K0)) Q (F0 m 56 ls [.int z0]) := by
  have hx := C.1
  have hb := C.2.1
  unfold cb_X11_global_56 at hm
  obtain rfl := Option.some.inj hm
  exact hret _ _ _ _ _ hw rfl dX11_global_56
theorem cn_X11_global_48 (fu : Nat) {res : Int32 × PF × PG} (x1 : Int32) (F : PF) (G : PG) (hm : cb_X11_global_48 fu x1 F G = some res) : xn F ≤ xn res.2.1 := by
  unfold cb_X11_global_48 at hm
  obtain ⟨⟨r1, F1, G1⟩, hc, hm⟩ := bind_elim hm
  exact Nat.le_trans (cn_X6_held fu x1 F G _ hc) (cn_X11_global_56 fu r1 F1 G1 hm)
theorem cw_X11_global_48 (fu : Nat) {res : Int32 × PF × PG} (C : cMC p R s m args c A v RX11 cX11_global 2 1 21 (xn res.2.1 - xn K0)) (hret : ∀ (b1 : Nat) (H1 : Heap) (locs1 : List Loc) (ls1 : Array Slot) (pc : Nat), cMW s A v a b1 K0 res.2.1 res.2.2 H1 locs1 → narrow .int (.int res.1) = .int res.1 → decode cX11_global pc = .ok (.ireturn, 1) → W p l e R s m args below meth c H1 locs1 (xn res.2.1 - xn K0) (2 * (xn res.2.1 - xn K0)) Q (F0 m pc ls1 [.int res.1])) (x1 : Int32) (F : PF) (G : PG) (hm : cb_X11_global_48 fu x1 F G = some res) {b : Nat} {H : Heap} {locs : List Loc} (hw : cMW s A v a b K0 F G H locs) {ls : Array Slot} (hl : lv_has ls 2 [(0, .ref (a 211)), (1, .int x1)]) : W p l e R s m args below meth c H locs (xn F - xn K0) (2 * (xn F - xn K0)) Q (F0 m 48 ls []) := by
  have hx := C.1
  have hb := C.2.1
  unfold cb_X11_global_48 at hm
  refine lv_aload_n hx hb dX11_global_48 rfl (lv_at hl 0 rfl) ?_
  refine cg_X11_47 C hw dX11_global_49 ?_
  refine lv_iload_n hx hb dX11_global_52 rfl (lv_at hl 1 rfl) ?_
  obtain ⟨⟨r1, F1, G1⟩, hc, hm⟩ := bind_elim hm
  refine ccallI (n := 1) (As := [.int x1]) (rest := []) C hw (ck_X6_held l v a _ _ fu x1 F G r1 F1 G1 hc) (cn_X6_held fu x1 F G _ hc) (Nat.sub_le_sub_right (cn_X11_global_56 fu r1 F1 G1 hm) _) (crecv_X6 C hw) cm_932 cm_863 cm_864 cm_21 cm_865 (by decide +kernel) rfl (by omega) (by omega) hl.1 rfl (Nat.le_of_ble_eq_true rfl) dX11_global_53 (fun b H locs hw => ?_)
  exact cw_X11_global_56 fu C hret r1 F1 G1 hm hw (lv_sub hl [] rfl)
theorem cn_X11_global_45 (fu : Nat) {res : Int32 × PF × PG} (z0 : Int32) (F : PF) (G : PG) (hm : cb_X11_global_45 fu z0 F G = some res) : xn F ≤ xn res.2.1 := by
  unfold cb_X11_global_45 at hm
  exact (cn_X11_global_56 fu z0 F G hm)
theorem cw_X11_global_45 (fu : Nat) {res : Int32 × PF × PG} (C : cMC p R s m args c A v RX11 cX11_global 2 1 21 (xn res.2.1 - xn K0)) (hret : ∀ (b1 : Nat) (H1 : Heap) (locs1 : List Loc) (ls1 : Array Slot) (pc : Nat), cMW s A v a b1 K0 res.2.1 res.2.2 H1 locs1 → narrow .int (.int res.1) = .int res.1 → decode cX11_global pc = .ok (.ireturn, 1) → W p l e R s m args below meth c H1 locs1 (xn res.2.1 - xn K0) (2 * (xn res.2.1 - xn K0)) Q (F0 m pc ls1 [.int res.1])) (z0 : Int32) (F : PF) (G : PG) (hm : cb_X11_global_45 fu z0 F G = some res) {b : Nat} {H : Heap} {locs : List Loc} (hw : cMW s A v a b K0 F G H locs) {ls : Array Slot} (hl : lv_has ls 2 []) : W p l e R s m args below meth c H locs (xn F - xn K0) (2 * (xn F - xn K0)) Q (F0 m 45 ls [.int z0]) := by
  have hx := C.1
  have hb := C.2.1
  unfold cb_X11_global_45 at hm
  refine lv_goto (tgt := 56) hx hb dX11_global_45 (by decide) ?_
  exact cw_X11_global_56 fu C hret z0 F G hm hw (lv_sub hl [] rfl)
theorem cn_X11_global_37 (fu : Nat) {res : Int32 × PF × PG} (x1 : Int32) (F : PF) (G : PG) (hm : cb_X11_global_37 fu x1 F G = some res) : xn F ≤ xn res.2.1 := by
  unfold cb_X11_global_37 at hm
  obtain ⟨⟨r1, F1, G1⟩, hc, hm⟩ := bind_elim hm
  exact Nat.le_trans (cn_X8_firstWord fu x1 F G _ hc) (cn_X11_global_45 fu r1 F1 G1 hm)
theorem cw_X11_global_37 (fu : Nat) {res : Int32 × PF × PG} (C : cMC p R s m args c A v RX11 cX11_global 2 1 21 (xn res.2.1 - xn K0)) (hret : ∀ (b1 : Nat) (H1 : Heap) (locs1 : List Loc) (ls1 : Array Slot) (pc : Nat), cMW s A v a b1 K0 res.2.1 res.2.2 H1 locs1 → narrow .int (.int res.1) = .int res.1 → decode cX11_global pc = .ok (.ireturn, 1) → W p l e R s m args below meth c H1 locs1 (xn res.2.1 - xn K0) (2 * (xn res.2.1 - xn K0)) Q (F0 m pc ls1 [.int res.1])) (x1 : Int32) (F : PF) (G : PG) (hm : cb_X11_global_37 fu x1 F G = some res) {b : Nat} {H : Heap} {locs : List Loc} (hw : cMW s A v a b K0 F G H locs) {ls : Array Slot} (hl : lv_has ls 2 [(0, .ref (a 211)), (1, .int x1)]) : W p l e R s m args below meth c H locs (xn F - xn K0) (2 * (xn F - xn K0)) Q (F0 m 37 ls []) := by
  have hx := C.1
  have hb := C.2.1
  unfold cb_X11_global_37 at hm
  refine lv_aload_n hx hb dX11_global_37 rfl (lv_at hl 0 rfl) ?_
  refine cg_X11_31 C hw dX11_global_38 ?_
  refine lv_iload_n hx hb dX11_global_41 rfl (lv_at hl 1 rfl) ?_
  obtain ⟨⟨r1, F1, G1⟩, hc, hm⟩ := bind_elim hm
  refine ccallI (n := 1) (As := [.int x1]) (rest := []) C hw (ck_X8_firstWord l v a _ _ fu x1 F G r1 F1 G1 hc) (cn_X8_firstWord fu x1 F G _ hc) (Nat.sub_le_sub_right (cn_X11_global_45 fu r1 F1 G1 hm) _) (crecv_X8 C hw) cm_931 cm_784 cm_785 cm_254 cm_786 (by decide +kernel) rfl (by omega) (by omega) hl.1 rfl (Nat.le_of_ble_eq_true rfl) dX11_global_42 (fun b H locs hw => ?_)
  exact cw_X11_global_45 fu C hret r1 F1 G1 hm hw (lv_sub hl [] rfl)
theorem cn_X11_global_27 (fu : Nat) {res : Int32 × PF × PG} (x1 : Int32) (F : PF) (G : PG) (hm : cb_X11_global_27 fu x1 F G = some res) : xn F ≤ xn res.2.1 := by
  unfold cb_X11_global_27 at hm
  by_cases c_1 : (F 63) = (0 : Int32)
  · have hm := (if_pos c_1).symm.trans hm
    exact (cn_X11_global_37 fu x1 F G hm)
  · have hm := (if_neg c_1).symm.trans hm
    exact (cn_X11_global_48 fu x1 F G hm)
theorem cw_X11_global_27 (fu : Nat) {res : Int32 × PF × PG} (C : cMC p R s m args c A v RX11 cX11_global 2 1 21 (xn res.2.1 - xn K0)) (hret : ∀ (b1 : Nat) (H1 : Heap) (locs1 : List Loc) (ls1 : Array Slot) (pc : Nat), cMW s A v a b1 K0 res.2.1 res.2.2 H1 locs1 → narrow .int (.int res.1) = .int res.1 → decode cX11_global pc = .ok (.ireturn, 1) → W p l e R s m args below meth c H1 locs1 (xn res.2.1 - xn K0) (2 * (xn res.2.1 - xn K0)) Q (F0 m pc ls1 [.int res.1])) (x1 : Int32) (F : PF) (G : PG) (hm : cb_X11_global_27 fu x1 F G = some res) {b : Nat} {H : Heap} {locs : List Loc} (hw : cMW s A v a b K0 F G H locs) {ls : Array Slot} (hl : lv_has ls 2 [(0, .ref (a 211)), (1, .int x1)]) : W p l e R s m args below meth c H locs (xn F - xn K0) (2 * (xn F - xn K0)) Q (F0 m 27 ls []) := by
  have hx := C.1
  have hb := C.2.1
  unfold cb_X11_global_27 at hm
  refine lv_aload_n hx hb dX11_global_27 rfl (lv_at hl 0 rfl) ?_
  refine cg_X11_47 C hw dX11_global_28 ?_
  refine cg_X11_146 C hw dX11_global_31 ?_
  refine lv_if_ne (tgt := 48) hx hb dX11_global_34 (by decide) (fun c_1 => ?_) (fun c_1 => ?_)
  · have hm := (if_neg c_1).symm.trans hm
    exact cw_X11_global_48 fu C hret x1 F G hm hw (lv_sub hl [0, 1] rfl)
  · have hm := (if_pos c_1).symm.trans hm
    exact cw_X11_global_37 fu C hret x1 F G hm hw (lv_sub hl [0, 1] rfl)
theorem cn_X11_global_14 (fu : Nat) {res : Int32 × PF × PG} (x1 : Int32) (F : PF) (G : PG) (hm : cb_X11_global_14 fu x1 F G = some res) : xn F ≤ xn res.2.1 := by
  unfold cb_X11_global_14 at hm
  by_cases c_1 : x1 < (F 75)
  · have hm := (if_pos c_1).symm.trans hm
    exact (cn_X11_global_27 fu x1 F G hm)
  · have hm := (if_neg c_1).symm.trans hm
    exact (cn_X11_global_25 fu F G hm)
theorem cw_X11_global_14 (fu : Nat) {res : Int32 × PF × PG} (C : cMC p R s m args c A v RX11 cX11_global 2 1 21 (xn res.2.1 - xn K0)) (hret : ∀ (b1 : Nat) (H1 : Heap) (locs1 : List Loc) (ls1 : Array Slot) (pc : Nat), cMW s A v a b1 K0 res.2.1 res.2.2 H1 locs1 → narrow .int (.int res.1) = .int res.1 → decode cX11_global pc = .ok (.ireturn, 1) → W p l e R s m args below meth c H1 locs1 (xn res.2.1 - xn K0) (2 * (xn res.2.1 - xn K0)) Q (F0 m pc ls1 [.int res.1])) (x1 : Int32) (F : PF) (G : PG) (hm : cb_X11_global_14 fu x1 F G = some res) {b : Nat} {H : Heap} {locs : List Loc} (hw : cMW s A v a b K0 F G H locs) {ls : Array Slot} (hl : lv_has ls 2 [(0, .ref (a 211)), (1, .int x1)]) : W p l e R s m args below meth c H locs (xn F - xn K0) (2 * (xn F - xn K0)) Q (F0 m 14 ls []) := by
  have hx := C.1
  have hb := C.2.1
  unfold cb_X11_global_14 at hm
  refine lv_iload_n hx hb dX11_global_14 rfl (lv_at hl 1 rfl) ?_
  refine lv_aload_n hx hb dX11_global_15 rfl (lv_at hl 0 rfl) ?_
  refine cg_X11_31 C hw dX11_global_16 ?_
  refine cg_X11_120 C hw dX11_global_19 ?_
  refine lv_icmp_lt (tgt := 27) hx hb dX11_global_22 (by decide) (fun c_1 => ?_) (fun c_1 => ?_)
  · have hm := (if_pos c_1).symm.trans hm
    exact cw_X11_global_27 fu C hret x1 F G hm hw (lv_sub hl [0, 1] rfl)
  · have hm := (if_neg c_1).symm.trans hm
    exact cw_X11_global_25 fu C hret F G hm hw (lv_sub hl [] rfl)
theorem cn_X11_global_10 (fu : Nat) {res : Int32 × PF × PG} (x1 : Int32) (F : PF) (G : PG) (hm : cb_X11_global_10 fu x1 F G = some res) : xn F ≤ xn res.2.1 := by
  unfold cb_X11_global_10 at hm
  by_cases c_1 : x1 < (0 : Int32)
  · have hm := (if_pos c_1).symm.trans hm
    exact (cn_X11_global_25 fu F G hm)
  · have hm := (if_neg c_1).symm.trans hm
    exact (cn_X11_global_14 fu x1 F G hm)
theorem cw_X11_global_10 (fu : Nat) {res : Int32 × PF × PG} (C : cMC p R s m args c A v RX11 cX11_global 2 1 21 (xn res.2.1 - xn K0)) (hret : ∀ (b1 : Nat) (H1 : Heap) (locs1 : List Loc) (ls1 : Array Slot) (pc : Nat), cMW s A v a b1 K0 res.2.1 res.2.2 H1 locs1 → narrow .int (.int res.1) = .int res.1 → decode cX11_global pc = .ok (.ireturn, 1) → W p l e R s m args below meth c H1 locs1 (xn res.2.1 - xn K0) (2 * (xn res.2.1 - xn K0)) Q (F0 m pc ls1 [.int res.1])) (x1 : Int32) (F : PF) (G : PG) (hm : cb_X11_global_10 fu x1 F G = some res) {b : Nat} {H : Heap} {locs : List Loc} (hw : cMW s A v a b K0 F G H locs) {ls : Array Slot} (hl : lv_has ls 2 [(0, .ref (a 211)), (1, .int x1)]) : W p l e R s m args below meth c H locs (xn F - xn K0) (2 * (xn F - xn K0)) Q (F0 m 10 ls []) := by
  have hx := C.1
  have hb := C.2.1
  unfold cb_X11_global_10 at hm
  refine lv_iload_n hx hb dX11_global_10 rfl (lv_at hl 1 rfl) ?_
  refine lv_if_lt (tgt := 25) hx hb dX11_global_11 (by decide) (fun c_1 => ?_) (fun c_1 => ?_)
  · have hm := (if_pos c_1).symm.trans hm
    exact cw_X11_global_25 fu C hret F G hm hw (lv_sub hl [] rfl)
  · have hm := (if_neg c_1).symm.trans hm
    exact cw_X11_global_14 fu C hret x1 F G hm hw (lv_sub hl [0, 1] rfl)
theorem cn_X11_global_0 (fu : Nat) {res : Int32 × PF × PG} (x1 : Int32) (F : PF) (G : PG) (hm : cb_X11_global_0 fu x1 F G = some res) : xn F ≤ xn res.2.1 := by
  unfold cb_X11_global_0 at hm
  by_cases c_1 : (F 73) = (0 : Int32)
  · have hm := (if_pos c_1).symm.trans hm
    exact (cn_X11_global_25 fu F G hm)
  · have hm := (if_neg c_1).symm.trans hm
    exact (cn_X11_global_10 fu x1 F G hm)
theorem cw_X11_global_0 (fu : Nat) {res : Int32 × PF × PG} (C : cMC p R s m args c A v RX11 cX11_global 2 1 21 (xn res.2.1 - xn K0)) (hret : ∀ (b1 : Nat) (H1 : Heap) (locs1 : List Loc) (ls1 : Array Slot) (pc : Nat), cMW s A v a b1 K0 res.2.1 res.2.2 H1 locs1 → narrow .int (.int res.1) = .int res.1 → decode cX11_global pc = .ok (.ireturn, 1) → W p l e R s m args below meth c H1 locs1 (xn res.2.1 - xn K0) (2 * (xn res.2.1 - xn K0)) Q (F0 m pc ls1 [.int res.1])) (x1 : Int32) (F : PF) (G : PG) (hm : cb_X11_global_0 fu x1 F G = some res) {b : Nat} {H : Heap} {locs : List Loc} (hw : cMW s A v a b K0 F G H locs) {ls : Array Slot} (hl : lv_has ls 2 [(0, .ref (a 211)), (1, .int x1)]) : W p l e R s m args below meth c H locs (xn F - xn K0) (2 * (xn F - xn K0)) Q (F0 m 0 ls []) := by
  have hx := C.1
  have hb := C.2.1
  unfold cb_X11_global_0 at hm
  refine lv_aload_n hx hb dX11_global_0 rfl (lv_at hl 0 rfl) ?_
  refine cg_X11_31 C hw dX11_global_1 ?_
  refine cg_X11_113 C hw dX11_global_4 ?_
  refine lv_if_eq (tgt := 25) hx hb dX11_global_7 (by decide) (fun c_1 => ?_) (fun c_1 => ?_)
  · have hm := (if_pos c_1).symm.trans hm
    exact cw_X11_global_25 fu C hret F G hm hw (lv_sub hl [] rfl)
  · have hm := (if_neg c_1).symm.trans hm
    exact cw_X11_global_10 fu C hret x1 F G hm hw (lv_sub hl [0, 1] rfl)
theorem cn_X11_global (fu : Nat) (x1 : Int32) (F : PF) (G : PG) (q : Int32 × PF × PG) (hm : cf_X11_global fu x1 F G = some q) : xn F ≤ xn q.2.1 := cn_X11_global_0 fu x1 F G hm
theorem ck_X11_global (l : Launch) (v : EV) (a : Nat → Nat) (b sz : Nat) (fu : Nat) (x1 : Int32) (F : PF) (G : PG) (r : Int32) (F1 : PF) (G1 : PG) (hm : cf_X11_global fu x1 F G = some (r, F1, G1)) : cMI l yX11_global cX11_global 2 (some .int) 1 21 v a b sz [.ref (a 211), .int x1] F G r F1 G1 := cMI.of (ty := .int) (by decide) rfl (Nat.le_of_ble_eq_true rfl) (fun p e R s m args below meth c Q A H locs ls C hw hl hret => cw_X11_global_0 fu (res := (r, F1, G1)) C hret x1 F G hm hw hl)
def cb_X11_put_9 (fu : Nat) (z0 : Int32) (F : PF) (G : PG) : PR := if b01 z0 = true then (some (z0, F, G)) else none
def cb_X11_put_0 (fu : Nat) (x1 : Int32) (x2 : Int32) (F : PF) (G : PG) : PR := (cf_X0_hold fu x1 x2 F G).bind (fun q => cb_X11_put_9 fu q.1 q.2.1 q.2.2)
def cf_X11_put (fu : Nat) (x1 : Int32) (x2 : Int32) (F : PF) (G : PG) : PR := cb_X11_put_0 fu x1 x2 F G
theorem cn_X11_put_9 (fu : Nat) {res : Int32 × PF × PG} (z0 : Int32) (F : PF) (G : PG) (hm : cb_X11_put_9 fu z0 F G = some res) : xn F ≤ xn res.2.1 := by
  unfold cb_X11_put_9 at hm
  have hm := (b01_elim hm).2
  obtain rfl := Option.some.inj hm
  exact Nat.le_refl _
theorem cw_X11_put_9 (fu : Nat) {res : Int32 × PF × PG} (C : cMC p R s m args c A v RX11 cX11_put 3 1 22 (xn res.2.1 - xn K0)) (hret : ∀ (b1 : Nat) (H1 : Heap) (locs1 : List Loc) (ls1 : Array Slot) (pc : Nat), cMW s A v a b1 K0 res.2.1 res.2.2 H1 locs1 → narrow .boolean (.int res.1) = .int res.1 → decode cX11_put pc = .ok (.ireturn, 1) → W p l e R s m args below meth c H1 locs1 (xn res.2.1 - xn K0) (2 * (xn res.2.1 - xn K0)) Q (F0 m pc ls1 [.int res.1])) (z0 : Int32) (F : PF) (G : PG) (hm : cb_X11_put_9 fu z0 F G = some res) {b : Nat} {H : Heap} {locs : List Loc} (hw : cMW s A v a b K0 F G H locs) {ls : Array Slot} (hl : lv_has ls 3 []) : W p l e R s m args below meth c H locs (xn F - xn K0) (2 * (xn F - xn K0)) Q (F0 m 9 ls [.int z0]) := by
  have hx := C.1
  have hb := C.2.1
  unfold cb_X11_put_9 at hm
  obtain ⟨hz, hm⟩ := b01_elim hm
  obtain rfl := Option.some.inj hm
  exact hret _ _ _ _ _ hw (b01_nar hz) dX11_put_9
theorem cn_X11_put_0 (fu : Nat) {res : Int32 × PF × PG} (x1 : Int32) (x2 : Int32) (F : PF) (G : PG) (hm : cb_X11_put_0 fu x1 x2 F G = some res) : xn F ≤ xn res.2.1 := by
  unfold cb_X11_put_0 at hm
  obtain ⟨⟨r1, F1, G1⟩, hc, hm⟩ := bind_elim hm
  exact Nat.le_trans (cn_X0_hold fu x1 x2 F G _ hc) (cn_X11_put_9 fu r1 F1 G1 hm)
theorem cw_X11_put_0 (fu : Nat) {res : Int32 × PF × PG} (C : cMC p R s m args c A v RX11 cX11_put 3 1 22 (xn res.2.1 - xn K0)) (hret : ∀ (b1 : Nat) (H1 : Heap) (locs1 : List Loc) (ls1 : Array Slot) (pc : Nat), cMW s A v a b1 K0 res.2.1 res.2.2 H1 locs1 → narrow .boolean (.int res.1) = .int res.1 → decode cX11_put pc = .ok (.ireturn, 1) → W p l e R s m args below meth c H1 locs1 (xn res.2.1 - xn K0) (2 * (xn res.2.1 - xn K0)) Q (F0 m pc ls1 [.int res.1])) (x1 : Int32) (x2 : Int32) (F : PF) (G : PG) (hm : cb_X11_put_0 fu x1 x2 F G = some res) {b : Nat} {H : Heap} {locs : List Loc} (hw : cMW s A v a b K0 F G H locs) {ls : Array Slot} (hl : lv_has ls 3 [(0, .ref (a 211)), (1, .int x1), (2, .int x2)]) : W p l e R s m args below meth c H locs (xn F - xn K0) (2 * (xn F - xn K0)) Q (F0 m 0 ls []) := by
  have hx := C.1
  have hb := C.2.1
  unfold cb_X11_put_0 at hm
  refine lv_aload_n hx hb dX11_put_0 rfl (lv_at hl 0 rfl) ?_
  refine cg_X11_78 C hw dX11_put_1 ?_
  refine lv_iload_n hx hb dX11_put_4 rfl (lv_at hl 1 rfl) ?_
  refine lv_iload_n hx hb dX11_put_5 rfl (lv_at hl 2 rfl) ?_
  obtain ⟨⟨r1, F1, G1⟩, hc, hm⟩ := bind_elim hm
  refine ccallI (n := 2) (As := [.int x1, .int x2]) (rest := []) C hw (ck_X0_hold l v a _ _ fu x1 x2 F G r1 F1 G1 hc) (cn_X0_hold fu x1 x2 F G _ hc) (Nat.sub_le_sub_right (cn_X11_put_9 fu r1 F1 G1 hm) _) (crecv_X0 C hw) cm_935 cm_936 cm_937 cm_938 cm_939 (by decide +kernel) rfl (by omega) (by omega) hl.1 rfl (Nat.le_of_ble_eq_true rfl) dX11_put_6 (fun b H locs hw => ?_)
  exact cw_X11_put_9 fu C hret r1 F1 G1 hm hw (lv_sub hl [] rfl)
theorem cn_X11_put (fu : Nat) (x1 : Int32) (x2 : Int32) (F : PF) (G : PG) (q : Int32 × PF × PG) (hm : cf_X11_put fu x1 x2 F G = some q) : xn F ≤ xn q.2.1 := cn_X11_put_0 fu x1 x2 F G hm
theorem ck_X11_put (l : Launch) (v : EV) (a : Nat → Nat) (b sz : Nat) (fu : Nat) (x1 : Int32) (x2 : Int32) (F : PF) (G : PG) (r : Int32) (F1 : PF) (G1 : PG) (hm : cf_X11_put fu x1 x2 F G = some (r, F1, G1)) : cMI l yX11_put cX11_put 3 (some .boolean) 1 22 v a b sz [.ref (a 211), .int x1, .int x2] F G r F1 G1 := cMI.of (ty := .boolean) (by decide) rfl (Nat.le_of_ble_eq_true rfl) (fun p e R s m args below meth c Q A H locs ls C hw hl hret => cw_X11_put_0 fu (res := (r, F1, G1)) C hret x1 x2 F G hm hw hl)
def cb_X11_set_9 (fu : Nat) (z0 : Int32) (F : PF) (G : PG) : PR := if b01 z0 = true then (some (z0, F, G)) else none
def cb_X11_set_0 (fu : Nat) (x1 : Int32) (x2 : Int32) (F : PF) (G : PG) : PR := (cf_X0_change fu x1 x2 F G).bind (fun q => cb_X11_set_9 fu q.1 q.2.1 q.2.2)
def cf_X11_set (fu : Nat) (x1 : Int32) (x2 : Int32) (F : PF) (G : PG) : PR := cb_X11_set_0 fu x1 x2 F G
theorem cn_X11_set_9 (fu : Nat) {res : Int32 × PF × PG} (z0 : Int32) (F : PF) (G : PG) (hm : cb_X11_set_9 fu z0 F G = some res) : xn F ≤ xn res.2.1 := by
  unfold cb_X11_set_9 at hm
  have hm := (b01_elim hm).2
  obtain rfl := Option.some.inj hm
  exact Nat.le_refl _
theorem cw_X11_set_9 (fu : Nat) {res : Int32 × PF × PG} (C : cMC p R s m args c A v RX11 cX11_set 3 2 44 (xn res.2.1 - xn K0)) (hret : ∀ (b1 : Nat) (H1 : Heap) (locs1 : List Loc) (ls1 : Array Slot) (pc : Nat), cMW s A v a b1 K0 res.2.1 res.2.2 H1 locs1 → narrow .boolean (.int res.1) = .int res.1 → decode cX11_set pc = .ok (.ireturn, 1) → W p l e R s m args below meth c H1 locs1 (xn res.2.1 - xn K0) (2 * (xn res.2.1 - xn K0)) Q (F0 m pc ls1 [.int res.1])) (z0 : Int32) (F : PF) (G : PG) (hm : cb_X11_set_9 fu z0 F G = some res) {b : Nat} {H : Heap} {locs : List Loc} (hw : cMW s A v a b K0 F G H locs) {ls : Array Slot} (hl : lv_has ls 3 []) : W p l e R s m args below meth c H locs (xn F - xn K0) (2 * (xn F - xn K0)) Q (F0 m 9 ls [.int z0]) := by
  have hx := C.1
  have hb := C.2.1
  unfold cb_X11_set_9 at hm
  obtain ⟨hz, hm⟩ := b01_elim hm
  obtain rfl := Option.some.inj hm
  exact hret _ _ _ _ _ hw (b01_nar hz) dX11_set_9
theorem cn_X11_set_0 (fu : Nat) {res : Int32 × PF × PG} (x1 : Int32) (x2 : Int32) (F : PF) (G : PG) (hm : cb_X11_set_0 fu x1 x2 F G = some res) : xn F ≤ xn res.2.1 := by
  unfold cb_X11_set_0 at hm
  obtain ⟨⟨r1, F1, G1⟩, hc, hm⟩ := bind_elim hm
  exact Nat.le_trans (cn_X0_change fu x1 x2 F G _ hc) (cn_X11_set_9 fu r1 F1 G1 hm)
theorem cw_X11_set_0 (fu : Nat) {res : Int32 × PF × PG} (C : cMC p R s m args c A v RX11 cX11_set 3 2 44 (xn res.2.1 - xn K0)) (hret : ∀ (b1 : Nat) (H1 : Heap) (locs1 : List Loc) (ls1 : Array Slot) (pc : Nat), cMW s A v a b1 K0 res.2.1 res.2.2 H1 locs1 → narrow .boolean (.int res.1) = .int res.1 → decode cX11_set pc = .ok (.ireturn, 1) → W p l e R s m args below meth c H1 locs1 (xn res.2.1 - xn K0) (2 * (xn res.2.1 - xn K0)) Q (F0 m pc ls1 [.int res.1])) (x1 : Int32) (x2 : Int32) (F : PF) (G : PG) (hm : cb_X11_set_0 fu x1 x2 F G = some res) {b : Nat} {H : Heap} {locs : List Loc} (hw : cMW s A v a b K0 F G H locs) {ls : Array Slot} (hl : lv_has ls 3 [(0, .ref (a 211)), (1, .int x1), (2, .int x2)]) : W p l e R s m args below meth c H locs (xn F - xn K0) (2 * (xn F - xn K0)) Q (F0 m 0 ls []) := by
  have hx := C.1
  have hb := C.2.1
  unfold cb_X11_set_0 at hm
  refine lv_aload_n hx hb dX11_set_0 rfl (lv_at hl 0 rfl) ?_
  refine cg_X11_78 C hw dX11_set_1 ?_
  refine lv_iload_n hx hb dX11_set_4 rfl (lv_at hl 1 rfl) ?_
  refine lv_iload_n hx hb dX11_set_5 rfl (lv_at hl 2 rfl) ?_
  obtain ⟨⟨r1, F1, G1⟩, hc, hm⟩ := bind_elim hm
  refine ccallI (n := 2) (As := [.int x1, .int x2]) (rest := []) C hw (ck_X0_change l v a _ _ fu x1 x2 F G r1 F1 G1 hc) (cn_X0_change fu x1 x2 F G _ hc) (Nat.sub_le_sub_right (cn_X11_set_9 fu r1 F1 G1 hm) _) (crecv_X0 C hw) cm_942 cm_943 cm_944 cm_938 cm_945 (by decide +kernel) rfl (by omega) (by omega) hl.1 rfl (Nat.le_of_ble_eq_true rfl) dX11_set_6 (fun b H locs hw => ?_)
  exact cw_X11_set_9 fu C hret r1 F1 G1 hm hw (lv_sub hl [] rfl)
theorem cn_X11_set (fu : Nat) (x1 : Int32) (x2 : Int32) (F : PF) (G : PG) (q : Int32 × PF × PG) (hm : cf_X11_set fu x1 x2 F G = some q) : xn F ≤ xn q.2.1 := cn_X11_set_0 fu x1 x2 F G hm
theorem ck_X11_set (l : Launch) (v : EV) (a : Nat → Nat) (b sz : Nat) (fu : Nat) (x1 : Int32) (x2 : Int32) (F : PF) (G : PG) (r : Int32) (F1 : PF) (G1 : PG) (hm : cf_X11_set fu x1 x2 F G = some (r, F1, G1)) : cMI l yX11_set cX11_set 3 (some .boolean) 2 44 v a b sz [.ref (a 211), .int x1, .int x2] F G r F1 G1 := cMI.of (ty := .boolean) (by decide) rfl (Nat.le_of_ble_eq_true rfl) (fun p e R s m args below meth c Q A H locs ls C hw hl hret => cw_X11_set_0 fu (res := (r, F1, G1)) C hret x1 x2 F G hm hw hl)
def cb_X11_go_24 (fu : Nat) (z0 : Int32) (F : PF) (G : PG) : PR := some (z0, F, G)
def cb_X11_go_12 (fu : Nat) (F : PF) (G : PG) : PR := cb_X11_go_24 fu (-1) F G
def cb_X11_go_16 (fu : Nat) (x1 : Int32) (F : PF) (G : PG) : PR := (cf_X0_doWords fu x1 F G).bind (fun q => cb_X11_go_24 fu q.1 q.2.1 q.2.2)
def cb_X11_go_5 (fu : Nat) (x1 : Int32) (F : PF) (G : PG) : PR := if x1 ≤ (1000 : Int32) then cb_X11_go_16 fu x1 F G else cb_X11_go_12 fu F G
def cb_X11_go_0 (fu : Nat) (x1 : Int32) (F : PF) (G : PG) : PR := if x1 < (1 : Int32) then cb_X11_go_12 fu F G else cb_X11_go_5 fu x1 F G
def cf_X11_go (fu : Nat) (x1 : Int32) (F : PF) (G : PG) : PR := cb_X11_go_0 fu x1 F G
theorem cn_X11_go_24 (fu : Nat) {res : Int32 × PF × PG} (z0 : Int32) (F : PF) (G : PG) (hm : cb_X11_go_24 fu z0 F G = some res) : xn F ≤ xn res.2.1 := by
  unfold cb_X11_go_24 at hm
  obtain rfl := Option.some.inj hm
  exact Nat.le_refl _
theorem cw_X11_go_24 (fu : Nat) {res : Int32 × PF × PG} (C : cMC p R s m args c A v RX11 cX11_go 2 6 136 (xn res.2.1 - xn K0)) (hret : ∀ (b1 : Nat) (H1 : Heap) (locs1 : List Loc) (ls1 : Array Slot) (pc : Nat), cMW s A v a b1 K0 res.2.1 res.2.2 H1 locs1 → narrow .int (.int res.1) = .int res.1 → decode cX11_go pc = .ok (.ireturn, 1) → W p l e R s m args below meth c H1 locs1 (xn res.2.1 - xn K0) (2 * (xn res.2.1 - xn K0)) Q (F0 m pc ls1 [.int res.1])) (z0 : Int32) (F : PF) (G : PG) (hm : cb_X11_go_24 fu z0 F G = some res) {b : Nat} {H : Heap} {locs : List Loc} (hw : cMW s A v a b K0 F G H locs) {ls : Array Slot} (hl : lv_has ls 2 []) : W p l e R s m args below meth c H locs (xn F - xn K0) (2 * (xn F - xn K0)) Q (F0 m 24 ls [.int z0]) := by
  have hx := C.1
  have hb := C.2.1
  unfold cb_X11_go_24 at hm
  obtain rfl := Option.some.inj hm
  exact hret _ _ _ _ _ hw rfl dX11_go_24
theorem cn_X11_go_12 (fu : Nat) {res : Int32 × PF × PG} (F : PF) (G : PG) (hm : cb_X11_go_12 fu F G = some res) : xn F ≤ xn res.2.1 := by
  unfold cb_X11_go_12 at hm
  exact (cn_X11_go_24 fu (-1) F G hm)
theorem cw_X11_go_12 (fu : Nat) {res : Int32 × PF × PG} (C : cMC p R s m args c A v RX11 cX11_go 2 6 136 (xn res.2.1 - xn K0)) (hret : ∀ (b1 : Nat) (H1 : Heap) (locs1 : List Loc) (ls1 : Array Slot) (pc : Nat), cMW s A v a b1 K0 res.2.1 res.2.2 H1 locs1 → narrow .int (.int res.1) = .int res.1 → decode cX11_go pc = .ok (.ireturn, 1) → W p l e R s m args below meth c H1 locs1 (xn res.2.1 - xn K0) (2 * (xn res.2.1 - xn K0)) Q (F0 m pc ls1 [.int res.1])) (F : PF) (G : PG) (hm : cb_X11_go_12 fu F G = some res) {b : Nat} {H : Heap} {locs : List Loc} (hw : cMW s A v a b K0 F G H locs) {ls : Array Slot} (hl : lv_has ls 2 []) : W p l e R s m args below meth c H locs (xn F - xn K0) (2 * (xn F - xn K0)) Q (F0 m 12 ls []) := by
  have hx := C.1
  have hb := C.2.1
  unfold cb_X11_go_12 at hm
  refine lv_iconst (v := (-1)) hx hb dX11_go_12 (by decide) ?_
  refine lv_goto (tgt := 24) hx hb dX11_go_13 (by decide) ?_
  exact cw_X11_go_24 fu C hret (-1) F G hm hw (lv_sub hl [] rfl)
theorem cn_X11_go_16 (fu : Nat) {res : Int32 × PF × PG} (x1 : Int32) (F : PF) (G : PG) (hm : cb_X11_go_16 fu x1 F G = some res) : xn F ≤ xn res.2.1 := by
  unfold cb_X11_go_16 at hm
  obtain ⟨⟨r1, F1, G1⟩, hc, hm⟩ := bind_elim hm
  exact Nat.le_trans (cn_X0_doWords fu x1 F G _ hc) (cn_X11_go_24 fu r1 F1 G1 hm)
theorem cw_X11_go_16 (fu : Nat) {res : Int32 × PF × PG} (C : cMC p R s m args c A v RX11 cX11_go 2 6 136 (xn res.2.1 - xn K0)) (hret : ∀ (b1 : Nat) (H1 : Heap) (locs1 : List Loc) (ls1 : Array Slot) (pc : Nat), cMW s A v a b1 K0 res.2.1 res.2.2 H1 locs1 → narrow .int (.int res.1) = .int res.1 → decode cX11_go pc = .ok (.ireturn, 1) → W p l e R s m args below meth c H1 locs1 (xn res.2.1 - xn K0) (2 * (xn res.2.1 - xn K0)) Q (F0 m pc ls1 [.int res.1])) (x1 : Int32) (F : PF) (G : PG) (hm : cb_X11_go_16 fu x1 F G = some res) {b : Nat} {H : Heap} {locs : List Loc} (hw : cMW s A v a b K0 F G H locs) {ls : Array Slot} (hl : lv_has ls 2 [(0, .ref (a 211)), (1, .int x1)]) : W p l e R s m args below meth c H locs (xn F - xn K0) (2 * (xn F - xn K0)) Q (F0 m 16 ls []) := by
  have hx := C.1
  have hb := C.2.1
  unfold cb_X11_go_16 at hm
  refine lv_aload_n hx hb dX11_go_16 rfl (lv_at hl 0 rfl) ?_
  refine cg_X11_78 C hw dX11_go_17 ?_
  refine lv_iload_n hx hb dX11_go_20 rfl (lv_at hl 1 rfl) ?_
  obtain ⟨⟨r1, F1, G1⟩, hc, hm⟩ := bind_elim hm
  refine ccallI (n := 1) (As := [.int x1]) (rest := []) C hw (ck_X0_doWords l v a _ _ fu x1 F G r1 F1 G1 hc) (cn_X0_doWords fu x1 F G _ hc) (Nat.sub_le_sub_right (cn_X11_go_24 fu r1 F1 G1 hm) _) (crecv_X0 C hw) cm_953 cm_954 cm_955 cm_938 cm_956 (by decide +kernel) rfl (by omega) (by omega) hl.1 rfl (Nat.le_of_ble_eq_true rfl) dX11_go_21 (fun b H locs hw => ?_)
  exact cw_X11_go_24 fu C hret r1 F1 G1 hm hw (lv_sub hl [] rfl)
theorem cn_X11_go_5 (fu : Nat) {res : Int32 × PF × PG} (x1 : Int32) (F : PF) (G : PG) (hm : cb_X11_go_5 fu x1 F G = some res) : xn F ≤ xn res.2.1 := by
  unfold cb_X11_go_5 at hm
  by_cases c_1 : x1 ≤ (1000 : Int32)
  · have hm := (if_pos c_1).symm.trans hm
    exact (cn_X11_go_16 fu x1 F G hm)
  · have hm := (if_neg c_1).symm.trans hm
    exact (cn_X11_go_12 fu F G hm)
theorem cw_X11_go_5 (fu : Nat) {res : Int32 × PF × PG} (C : cMC p R s m args c A v RX11 cX11_go 2 6 136 (xn res.2.1 - xn K0)) (hret : ∀ (b1 : Nat) (H1 : Heap) (locs1 : List Loc) (ls1 : Array Slot) (pc : Nat), cMW s A v a b1 K0 res.2.1 res.2.2 H1 locs1 → narrow .int (.int res.1) = .int res.1 → decode cX11_go pc = .ok (.ireturn, 1) → W p l e R s m args below meth c H1 locs1 (xn res.2.1 - xn K0) (2 * (xn res.2.1 - xn K0)) Q (F0 m pc ls1 [.int res.1])) (x1 : Int32) (F : PF) (G : PG) (hm : cb_X11_go_5 fu x1 F G = some res) {b : Nat} {H : Heap} {locs : List Loc} (hw : cMW s A v a b K0 F G H locs) {ls : Array Slot} (hl : lv_has ls 2 [(0, .ref (a 211)), (1, .int x1)]) : W p l e R s m args below meth c H locs (xn F - xn K0) (2 * (xn F - xn K0)) Q (F0 m 5 ls []) := by
  have hx := C.1
  have hb := C.2.1
  unfold cb_X11_go_5 at hm
  refine lv_iload_n hx hb dX11_go_5 rfl (lv_at hl 1 rfl) ?_
  refine lv_sipush (v := 1000) hx hb dX11_go_6 (by decide) ?_
  refine lv_icmp_le (tgt := 16) hx hb dX11_go_9 (by decide) (fun c_1 => ?_) (fun c_1 => ?_)
  · have hm := (if_pos c_1).symm.trans hm
    exact cw_X11_go_16 fu C hret x1 F G hm hw (lv_sub hl [0, 1] rfl)
  · have hm := (if_neg c_1).symm.trans hm
    exact cw_X11_go_12 fu C hret F G hm hw (lv_sub hl [] rfl)
theorem cn_X11_go_0 (fu : Nat) {res : Int32 × PF × PG} (x1 : Int32) (F : PF) (G : PG) (hm : cb_X11_go_0 fu x1 F G = some res) : xn F ≤ xn res.2.1 := by
  unfold cb_X11_go_0 at hm
  by_cases c_1 : x1 < (1 : Int32)
  · have hm := (if_pos c_1).symm.trans hm
    exact (cn_X11_go_12 fu F G hm)
  · have hm := (if_neg c_1).symm.trans hm
    exact (cn_X11_go_5 fu x1 F G hm)
theorem cw_X11_go_0 (fu : Nat) {res : Int32 × PF × PG} (C : cMC p R s m args c A v RX11 cX11_go 2 6 136 (xn res.2.1 - xn K0)) (hret : ∀ (b1 : Nat) (H1 : Heap) (locs1 : List Loc) (ls1 : Array Slot) (pc : Nat), cMW s A v a b1 K0 res.2.1 res.2.2 H1 locs1 → narrow .int (.int res.1) = .int res.1 → decode cX11_go pc = .ok (.ireturn, 1) → W p l e R s m args below meth c H1 locs1 (xn res.2.1 - xn K0) (2 * (xn res.2.1 - xn K0)) Q (F0 m pc ls1 [.int res.1])) (x1 : Int32) (F : PF) (G : PG) (hm : cb_X11_go_0 fu x1 F G = some res) {b : Nat} {H : Heap} {locs : List Loc} (hw : cMW s A v a b K0 F G H locs) {ls : Array Slot} (hl : lv_has ls 2 [(0, .ref (a 211)), (1, .int x1)]) : W p l e R s m args below meth c H locs (xn F - xn K0) (2 * (xn F - xn K0)) Q (F0 m 0 ls []) := by
  have hx := C.1
  have hb := C.2.1
  unfold cb_X11_go_0 at hm
  refine lv_iload_n hx hb dX11_go_0 rfl (lv_at hl 1 rfl) ?_
  refine lv_iconst (v := 1) hx hb dX11_go_1 (by decide) ?_
  refine lv_icmp_lt (tgt := 12) hx hb dX11_go_2 (by decide) (fun c_1 => ?_) (fun c_1 => ?_)
  · have hm := (if_pos c_1).symm.trans hm
    exact cw_X11_go_12 fu C hret F G hm hw (lv_sub hl [] rfl)
  · have hm := (if_neg c_1).symm.trans hm
    exact cw_X11_go_5 fu C hret x1 F G hm hw (lv_sub hl [0, 1] rfl)
theorem cn_X11_go (fu : Nat) (x1 : Int32) (F : PF) (G : PG) (q : Int32 × PF × PG) (hm : cf_X11_go fu x1 F G = some q) : xn F ≤ xn q.2.1 := cn_X11_go_0 fu x1 F G hm
theorem ck_X11_go (l : Launch) (v : EV) (a : Nat → Nat) (b sz : Nat) (fu : Nat) (x1 : Int32) (F : PF) (G : PG) (r : Int32) (F1 : PF) (G1 : PG) (hm : cf_X11_go fu x1 F G = some (r, F1, G1)) : cMI l yX11_go cX11_go 2 (some .int) 6 136 v a b sz [.ref (a 211), .int x1] F G r F1 G1 := cMI.of (ty := .int) (by decide) rfl (Nat.le_of_ble_eq_true rfl) (fun p e R s m args below meth c Q A H locs ls C hw hl hret => cw_X11_go_0 fu (res := (r, F1, G1)) C hret x1 F G hm hw hl)
def cb_X11_board_8 (fu : Nat) (z0 : Int32) (F : PF) (G : PG) : PR := some (z0, F, G)
def cb_X11_board_0 (fu : Nat) (x1 : Int32) (F : PF) (G : PG) : PR := (cf_X0_shown fu x1 F G).bind (fun q => cb_X11_board_8 fu q.1 q.2.1 q.2.2)
def cf_X11_board (fu : Nat) (x1 : Int32) (F : PF) (G : PG) : PR := cb_X11_board_0 fu x1 F G
theorem cn_X11_board_8 (fu : Nat) {res : Int32 × PF × PG} (z0 : Int32) (F : PF) (G : PG) (hm : cb_X11_board_8 fu z0 F G = some res) : xn F ≤ xn res.2.1 := by
  unfold cb_X11_board_8 at hm
  obtain rfl := Option.some.inj hm
  exact Nat.le_refl _
theorem cw_X11_board_8 (fu : Nat) {res : Int32 × PF × PG} (C : cMC p R s m args c A v RX11 cX11_board 2 1 21 (xn res.2.1 - xn K0)) (hret : ∀ (b1 : Nat) (H1 : Heap) (locs1 : List Loc) (ls1 : Array Slot) (pc : Nat), cMW s A v a b1 K0 res.2.1 res.2.2 H1 locs1 → narrow .int (.int res.1) = .int res.1 → decode cX11_board pc = .ok (.ireturn, 1) → W p l e R s m args below meth c H1 locs1 (xn res.2.1 - xn K0) (2 * (xn res.2.1 - xn K0)) Q (F0 m pc ls1 [.int res.1])) (z0 : Int32) (F : PF) (G : PG) (hm : cb_X11_board_8 fu z0 F G = some res) {b : Nat} {H : Heap} {locs : List Loc} (hw : cMW s A v a b K0 F G H locs) {ls : Array Slot} (hl : lv_has ls 2 []) : W p l e R s m args below meth c H locs (xn F - xn K0) (2 * (xn F - xn K0)) Q (F0 m 8 ls [.int z0]) := by
  have hx := C.1
  have hb := C.2.1
  unfold cb_X11_board_8 at hm
  obtain rfl := Option.some.inj hm
  exact hret _ _ _ _ _ hw rfl dX11_board_8
theorem cn_X11_board_0 (fu : Nat) {res : Int32 × PF × PG} (x1 : Int32) (F : PF) (G : PG) (hm : cb_X11_board_0 fu x1 F G = some res) : xn F ≤ xn res.2.1 := by
  unfold cb_X11_board_0 at hm
  obtain ⟨⟨r1, F1, G1⟩, hc, hm⟩ := bind_elim hm
  exact Nat.le_trans (cn_X0_shown fu x1 F G _ hc) (cn_X11_board_8 fu r1 F1 G1 hm)
theorem cw_X11_board_0 (fu : Nat) {res : Int32 × PF × PG} (C : cMC p R s m args c A v RX11 cX11_board 2 1 21 (xn res.2.1 - xn K0)) (hret : ∀ (b1 : Nat) (H1 : Heap) (locs1 : List Loc) (ls1 : Array Slot) (pc : Nat), cMW s A v a b1 K0 res.2.1 res.2.2 H1 locs1 → narrow .int (.int res.1) = .int res.1 → decode cX11_board pc = .ok (.ireturn, 1) → W p l e R s m args below meth c H1 locs1 (xn res.2.1 - xn K0) (2 * (xn res.2.1 - xn K0)) Q (F0 m pc ls1 [.int res.1])) (x1 : Int32) (F : PF) (G : PG) (hm : cb_X11_board_0 fu x1 F G = some res) {b : Nat} {H : Heap} {locs : List Loc} (hw : cMW s A v a b K0 F G H locs) {ls : Array Slot} (hl : lv_has ls 2 [(0, .ref (a 211)), (1, .int x1)]) : W p l e R s m args below meth c H locs (xn F - xn K0) (2 * (xn F - xn K0)) Q (F0 m 0 ls []) := by
  have hx := C.1
  have hb := C.2.1
  unfold cb_X11_board_0 at hm
  refine lv_aload_n hx hb dX11_board_0 rfl (lv_at hl 0 rfl) ?_
  refine cg_X11_78 C hw dX11_board_1 ?_
  refine lv_iload_n hx hb dX11_board_4 rfl (lv_at hl 1 rfl) ?_
  obtain ⟨⟨r1, F1, G1⟩, hc, hm⟩ := bind_elim hm
  refine ccallI (n := 1) (As := [.int x1]) (rest := []) C hw (ck_X0_shown l v a _ _ fu x1 F G r1 F1 G1 hc) (cn_X0_shown fu x1 F G _ hc) (Nat.sub_le_sub_right (cn_X11_board_8 fu r1 F1 G1 hm) _) (crecv_X0 C hw) cm_1013 cm_1014 cm_1015 cm_938 cm_1016 (by decide +kernel) rfl (by omega) (by omega) hl.1 rfl (Nat.le_of_ble_eq_true rfl) dX11_board_5 (fun b H locs hw => ?_)
  exact cw_X11_board_8 fu C hret r1 F1 G1 hm hw (lv_sub hl [] rfl)
theorem cn_X11_board (fu : Nat) (x1 : Int32) (F : PF) (G : PG) (q : Int32 × PF × PG) (hm : cf_X11_board fu x1 F G = some q) : xn F ≤ xn q.2.1 := cn_X11_board_0 fu x1 F G hm
theorem ck_X11_board (l : Launch) (v : EV) (a : Nat → Nat) (b sz : Nat) (fu : Nat) (x1 : Int32) (F : PF) (G : PG) (r : Int32) (F1 : PF) (G1 : PG) (hm : cf_X11_board fu x1 F G = some (r, F1, G1)) : cMI l yX11_board cX11_board 2 (some .int) 1 21 v a b sz [.ref (a 211), .int x1] F G r F1 G1 := cMI.of (ty := .int) (by decide) rfl (Nat.le_of_ble_eq_true rfl) (fun p e R s m args below meth c Q A H locs ls C hw hl hret => cw_X11_board_0 fu (res := (r, F1, G1)) C hret x1 F G hm hw hl)
end MB
