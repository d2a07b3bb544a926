section MB
variable {p : Program} {l : Launch} {e : Env} {R : Room} {s : State} {m : MethodId} {args : Array Value} {below : List Frame} {meth : Method} {c : Code} {H : Heap} {locs : List Loc} {Q : State → Prop} {A : Nat → Prop} {v : EV} {a : Nat → Nat} {b ce : Nat} {own : String} {cc : ByteArray} {nL fr lo : Nat} {K0 : PF}
def cb_fill_94_20 (fu : Nat) (F : PF) (G : PG) : PR := some (0, F, G)
def cb_fill_94_14 (fu : Nat) (ag_5 : Int32 → Int32 → Int32 → PF → PG → PR) (x1 : Int32) (x2 : Int32) (x3 : Int32) (F : PF) (G : PG) : PR := ag_5 x1 (x2 + 1) x3 F G
def cb_fill_94_10 (fu : Nat) (ag_5 : Int32 → Int32 → Int32 → PF → PG → PR) (x1 : Int32) (x2 : Int32) (x3 : Int32) (F : PF) (G : PG) : PR := if ixb x2 1024 = true then (cb_fill_94_14 fu ag_5 x1 x2 x3 F (gup G 94 x2.toNatClampNeg x1)) else none
def cb_fill_94_5 (fu : Nat) (ag_5 : Int32 → Int32 → Int32 → PF → PG → PR) (x1 : Int32) (x2 : Int32) (x3 : Int32) (F : PF) (G : PG) : PR := if x3 ≤ x2 then cb_fill_94_20 fu F G else cb_fill_94_10 fu ag_5 x1 x2 x3 F G
def cl_fill_94_5 (fu : Nat) : Nat → Int32 → Int32 → Int32 → PF → PG → PR
  | 0 => fun _ _ _ _ _ => none
  | n + 1 => fun x1 x2 x3 F G => cb_fill_94_5 fu (cl_fill_94_5 fu n) x1 x2 x3 F G
def cb_fill_94_0 (fu : Nat) (x1 : Int32) (F : PF) (G : PG) : PR := cl_fill_94_5 fu fu x1 0 1024 F G
def cf_fill_94 (fu : Nat) (x1 : Int32) (F : PF) (G : PG) : PR := cb_fill_94_0 fu x1 F G
theorem cn_fill_94_20 (fu : Nat) {res : Int32 × PF × PG} (F : PF) (G : PG) (hm : cb_fill_94_20 fu F G = some res) : xn F ≤ xn res.2.1 := by
  unfold cb_fill_94_20 at hm
  obtain rfl := Option.some.inj hm
  exact Nat.le_refl _
theorem cw_fill_94_20 (fu : Nat) {res : Int32 × PF × PG} (C : cMC p R s m args c A v RJ7 cJ7_fill_53178 4 0 0 (xn res.2.1 - xn K0)) (hret : ∀ (b1 : Nat) (H1 : Heap) (locs1 : List Loc) (ls1 : Array Slot) (pc : Nat), cMW s A v a b1 K0 res.2.1 res.2.2 H1 locs1 → decode cJ7_fill_53178 pc = .ok (.return_, 1) → W p l e R s m args below meth c H1 locs1 (xn res.2.1 - xn K0) (2 * (xn res.2.1 - xn K0)) Q (F0 m pc ls1 [])) (F : PF) (G : PG) (hm : cb_fill_94_20 fu F G = some res) {b : Nat} {H : Heap} {locs : List Loc} (hw : cMW s A v a b K0 F G H locs) {ls : Array Slot} (hl : lv_has ls 4 []) : W p l e R s m args below meth c H locs (xn F - xn K0) (2 * (xn F - xn K0)) Q (F0 m 20 ls []) := by
  have hx := C.1
  have hb := C.2.1
  unfold cb_fill_94_20 at hm
  obtain rfl := Option.some.inj hm
  exact hret _ _ _ _ _ hw dJ7_fill_53178_20
theorem cn_fill_94_14 (fu : Nat) {res : Int32 × PF × PG} (ag_5 : Int32 → Int32 → Int32 → PF → PG → PR) (hagn_5 : ∀ (x1 : Int32) (x2 : Int32) (x3 : Int32) (F : PF) (G : PG), ag_5 x1 x2 x3 F G = some res → xn F ≤ xn res.2.1) (x1 : Int32) (x2 : Int32) (x3 : Int32) (F : PF) (G : PG) (hm : cb_fill_94_14 fu ag_5 x1 x2 x3 F G = some res) : xn F ≤ xn res.2.1 := by
  unfold cb_fill_94_14 at hm
  exact (hagn_5 x1 (x2 + 1) x3 F G hm)
theorem cw_fill_94_14 (fu : Nat) {res : Int32 × PF × PG} (C : cMC p R s m args c A v RJ7 cJ7_fill_53178 4 0 0 (xn res.2.1 - xn K0)) (hret : ∀ (b1 : Nat) (H1 : Heap) (locs1 : List Loc) (ls1 : Array Slot) (pc : Nat), cMW s A v a b1 K0 res.2.1 res.2.2 H1 locs1 → decode cJ7_fill_53178 pc = .ok (.return_, 1) → W p l e R s m args below meth c H1 locs1 (xn res.2.1 - xn K0) (2 * (xn res.2.1 - xn K0)) Q (F0 m pc ls1 [])) (ag_5 : Int32 → Int32 → Int32 → PF → PG → PR) (hag_5 : ∀ (x1 : Int32) (x2 : Int32) (x3 : Int32) (F : PF) (G : PG), ag_5 x1 x2 x3 F G = some res → ∀ (b : Nat) (H : Heap) (locs : List Loc) (ls : Array Slot), cMW s A v a b K0 F G H locs → lv_has ls 4 [(0, .ref (a 94)), (1, .int x1), (2, .int x2), (3, .int x3)] → W p l e R s m args below meth c H locs (xn F - xn K0) (2 * (xn F - xn K0)) Q (F0 m 5 ls [])) (hagn_5 : ∀ (x1 : Int32) (x2 : Int32) (x3 : Int32) (F : PF) (G : PG), ag_5 x1 x2 x3 F G = some res → xn F ≤ xn res.2.1) (x1 : Int32) (x2 : Int32) (x3 : Int32) (F : PF) (G : PG) (hm : cb_fill_94_14 fu ag_5 x1 x2 x3 F G = some res) {b : Nat} {H : Heap} {locs : List Loc} (hw : cMW s A v a b K0 F G H locs) {ls : Array Slot} (hl : lv_has ls 4 [(0, .ref (a 94)), (1, .int x1), (2, .int x2), (3, .int x3)]) : W p l e R s m args below meth c H locs (xn F - xn K0) (2 * (xn F - xn K0)) Q (F0 m 14 ls []) := by
  have hx := C.1
  have hb := C.2.1
  unfold cb_fill_94_14 at hm
  refine lv_iinc (v := (x2 + 1)) (lv' := [(2, .int (x2 + 1)), (0, .ref (a 94)), (1, .int x1), (3, .int x3)]) hx hb dJ7_fill_53178_14 hl (k := 2) rfl (by rfl) (by decide) rfl (fun ls hl => ?_)
  refine lv_goto (tgt := 5) hx hb dJ7_fill_53178_17 (by decide) ?_
  exact hag_5 x1 (x2 + 1) x3 F G hm _ _ _ _ hw (lv_sub hl [1, 2, 0, 3] rfl)
theorem cn_fill_94_10 (fu : Nat) {res : Int32 × PF × PG} (ag_5 : Int32 → Int32 → Int32 → PF → PG → PR) (hagn_5 : ∀ (x1 : Int32) (x2 : Int32) (x3 : Int32) (F : PF) (G : PG), ag_5 x1 x2 x3 F G = some res → xn F ≤ xn res.2.1) (x1 : Int32) (x2 : Int32) (x3 : Int32) (F : PF) (G : PG) (hm : cb_fill_94_10 fu ag_5 x1 x2 x3 F G = some res) : xn F ≤ xn res.2.1 := by
  unfold cb_fill_94_10 at hm
  have hm := (ix_elim hm).2
  exact (cn_fill_94_14 fu ag_5 hagn_5 x1 x2 x3 F (gup G 94 x2.toNatClampNeg x1) hm)
theorem cw_fill_94_10 (fu : Nat) {res : Int32 × PF × PG} (C : cMC p R s m args c A v RJ7 cJ7_fill_53178 4 0 0 (xn res.2.1 - xn K0)) (hret : ∀ (b1 : Nat) (H1 : Heap) (locs1 : List Loc) (ls1 : Array Slot) (pc : Nat), cMW s A v a b1 K0 res.2.1 res.2.2 H1 locs1 → decode cJ7_fill_53178 pc = .ok (.return_, 1) → W p l e R s m args below meth c H1 locs1 (xn res.2.1 - xn K0) (2 * (xn res.2.1 - xn K0)) Q (F0 m pc ls1 [])) (ag_5 : Int32 → Int32 → Int32 → PF → PG → PR) (hag_5 : ∀ (x1 : Int32) (x2 : Int32) (x3 : Int32) (F : PF) (G : PG), ag_5 x1 x2 x3 F G = some res → ∀ (b : Nat) (H : Heap) (locs : List Loc) (ls : Array Slot), cMW s A v a b K0 F G H locs → lv_has ls 4 [(0, .ref (a 94)), (1, .int x1), (2, .int x2), (3, .int x3)] → W p l e R s m args below meth c H locs (xn F - xn K0) (2 * (xn F - xn K0)) Q (F0 m 5 ls [])) (hagn_5 : ∀ (x1 : Int32) (x2 : Int32) (x3 : Int32) (F : PF) (G : PG), ag_5 x1 x2 x3 F G = some res → xn F ≤ xn res.2.1) (x1 : Int32) (x2 : Int32) (x3 : Int32) (F : PF) (G : PG) (hm : cb_fill_94_10 fu ag_5 x1 x2 x3 F G = some res) {b : Nat} {H : Heap} {locs : List Loc} (hw : cMW s A v a b K0 F G H locs) {ls : Array Slot} (hl : lv_has ls 4 [(0, .ref (a 94)), (1, .int x1), (2, .int x2), (3, .int x3)]) : W p l e R s m args below meth c H locs (xn F - xn K0) (2 * (xn F - xn K0)) Q (F0 m 10 ls []) := by
  have hx := C.1
  have hb := C.2.1
  unfold cb_fill_94_10 at hm
  refine lv_aload_n hx hb dJ7_fill_53178_10 rfl (lv_at hl 0 rfl) ?_
  refine lv_iload_n hx hb dJ7_fill_53178_11 rfl (lv_at hl 2 rfl) ?_
  refine lv_iload_n hx hb dJ7_fill_53178_12 rfl (lv_at hl 1 rfl) ?_
  obtain ⟨hi, hm⟩ := ix_elim hm
  refine cas_94 C hw hi dJ7_fill_53178_13 (fun H locs hw => ?_)
  exact cw_fill_94_14 fu C hret ag_5 hag_5 hagn_5 x1 x2 x3 F (gup G 94 x2.toNatClampNeg x1) hm hw (lv_sub hl [0, 1, 2, 3] rfl)
theorem cn_fill_94_5 (fu : Nat) {res : Int32 × PF × PG} (ag_5 : Int32 → Int32 → Int32 → PF → PG → PR) (hagn_5 : ∀ (x1 : Int32) (x2 : Int32) (x3 : Int32) (F : PF) (G : PG), ag_5 x1 x2 x3 F G = some res → xn F ≤ xn res.2.1) (x1 : Int32) (x2 : Int32) (x3 : Int32) (F : PF) (G : PG) (hm : cb_fill_94_5 fu ag_5 x1 x2 x3 F G = some res) : xn F ≤ xn res.2.1 := by
  unfold cb_fill_94_5 at hm
  by_cases c_1 : x3 ≤ x2
  · have hm := (if_pos c_1).symm.trans hm
    exact (cn_fill_94_20 fu F G hm)
  · have hm := (if_neg c_1).symm.trans hm
    exact (cn_fill_94_10 fu ag_5 hagn_5 x1 x2 x3 F G hm)
theorem cw_fill_94_5 (fu : Nat) {res : Int32 × PF × PG} (C : cMC p R s m args c A v RJ7 cJ7_fill_53178 4 0 0 (xn res.2.1 - xn K0)) (hret : ∀ (b1 : Nat) (H1 : Heap) (locs1 : List Loc) (ls1 : Array Slot) (pc : Nat), cMW s A v a b1 K0 res.2.1 res.2.2 H1 locs1 → decode cJ7_fill_53178 pc = .ok (.return_, 1) → W p l e R s m args below meth c H1 locs1 (xn res.2.1 - xn K0) (2 * (xn res.2.1 - xn K0)) Q (F0 m pc ls1 [])) (ag_5 : Int32 → Int32 → Int32 → PF → PG → PR) (hag_5 : ∀ (x1 : Int32) (x2 : Int32) (x3 : Int32) (F : PF) (G : PG), ag_5 x1 x2 x3 F G = some res → ∀ (b : Nat) (H : Heap) (locs : List Loc) (ls : Array Slot), cMW s A v a b K0 F G H locs → lv_has ls 4 [(0, .ref (a 94)), (1, .int x1), (2, .int x2), (3, .int x3)] → W p l e R s m args below meth c H locs (xn F - xn K0) (2 * (xn F - xn K0)) Q (F0 m 5 ls [])) (hagn_5 : ∀ (x1 : Int32) (x2 : Int32) (x3 : Int32) (F : PF) (G : PG), ag_5 x1 x2 x3 F G = some res → xn F ≤ xn res.2.1) (x1 : Int32) (x2 : Int32) (x3 : Int32) (F : PF) (G : PG) (hm : cb_fill_94_5 fu ag_5 x1 x2 x3 F G = some res) {b : Nat} {H : Heap} {locs : List Loc} (hw : cMW s A v a b K0 F G H locs) {ls : Array Slot} (hl : lv_has ls 4 [(0, .ref (a 94)), (1, .int x1), (2, .int x2), (3, .int x3)]) : W p l e R s m args below meth c H locs (xn F - xn K0) (2 * (xn F - xn K0)) Q (F0 m 5 ls []) := by
  have hx := C.1
  have hb := C.2.1
  unfold cb_fill_94_5 at hm
  refine lv_iload_n hx hb dJ7_fill_53178_5 rfl (lv_at hl 2 rfl) ?_
  refine lv_iload_n hx hb dJ7_fill_53178_6 rfl (lv_at hl 3 rfl) ?_
  refine lv_icmp_ge (tgt := 20) hx hb dJ7_fill_53178_7 (by decide) (fun c_1 => ?_) (fun c_1 => ?_)
  · have hm := (if_pos c_1).symm.trans hm
    exact cw_fill_94_20 fu C hret F G hm hw (lv_sub hl [] rfl)
  · have hm := (if_neg c_1).symm.trans hm
    exact cw_fill_94_10 fu C hret ag_5 hag_5 hagn_5 x1 x2 x3 F G hm hw (lv_sub hl [0, 1, 2, 3] rfl)
theorem cnl_fill_94_5 (fu : Nat) {res : Int32 × PF × PG} : ∀ (n : Nat) (x1 : Int32) (x2 : Int32) (x3 : Int32) (F : PF) (G : PG) (hm : cl_fill_94_5 fu n x1 x2 x3 F G = some res), xn F ≤ xn res.2.1 := by
  intro n
  induction n with
  | zero =>
    intro x1 x2 x3 F G hm
    exact no_elim (show (none : PR) = some res from hm)
  | succ n ih =>
    intro x1 x2 x3 F G hm
    exact cn_fill_94_5 fu (cl_fill_94_5 fu n) (fun x1 x2 x3 F G hm => ih x1 x2 x3 F G hm) x1 x2 x3 F G hm
theorem cwl_fill_94_5 (fu : Nat) {res : Int32 × PF × PG} (C : cMC p R s m args c A v RJ7 cJ7_fill_53178 4 0 0 (xn res.2.1 - xn K0)) (hret : ∀ (b1 : Nat) (H1 : Heap) (locs1 : List Loc) (ls1 : Array Slot) (pc : Nat), cMW s A v a b1 K0 res.2.1 res.2.2 H1 locs1 → decode cJ7_fill_53178 pc = .ok (.return_, 1) → W p l e R s m args below meth c H1 locs1 (xn res.2.1 - xn K0) (2 * (xn res.2.1 - xn K0)) Q (F0 m pc ls1 [])) : ∀ (n : Nat) (x1 : Int32) (x2 : Int32) (x3 : Int32) (F : PF) (G : PG) (hm : cl_fill_94_5 fu n x1 x2 x3 F G = some res) {b : Nat} {H : Heap} {locs : List Loc} (hw : cMW s A v a b K0 F G H locs) {ls : Array Slot} (hl : lv_has ls 4 [(0, .ref (a 94)), (1, .int x1), (2, .int x2), (3, .int x3)]), W p l e R s m args below meth c H locs (xn F - xn K0) (2 * (xn F - xn K0)) Q (F0 m 5 ls []) := by
  intro n
  induction n with
  | zero =>
    intro x1 x2 x3 F G hm
    exact no_elim (show (none : PR) = some res from hm)
  | succ n ih =>
    intro x1 x2 x3 F G hm b H locs hw ls hl
    exact cw_fill_94_5 fu C hret (cl_fill_94_5 fu n) (fun x1 x2 x3 F G hm b H locs ls hw hl => ih x1 x2 x3 F G hm hw hl) (fun x1 x2 x3 F G hm => cnl_fill_94_5 fu n x1 x2 x3 F G hm) x1 x2 x3 F G hm hw hl
theorem cn_fill_94_0 (fu : Nat) {res : Int32 × PF × PG} (x1 : Int32) (F : PF) (G : PG) (hm : cb_fill_94_0 fu x1 F G = some res) : xn F ≤ xn res.2.1 := by
  unfold cb_fill_94_0 at hm
  exact (cnl_fill_94_5 fu fu x1 0 1024 F G hm)
theorem cw_fill_94_0 (fu : Nat) {res : Int32 × PF × PG} (C : cMC p R s m args c A v RJ7 cJ7_fill_53178 4 0 0 (xn res.2.1 - xn K0)) (hret : ∀ (b1 : Nat) (H1 : Heap) (locs1 : List Loc) (ls1 : Array Slot) (pc : Nat), cMW s A v a b1 K0 res.2.1 res.2.2 H1 locs1 → decode cJ7_fill_53178 pc = .ok (.return_, 1) → W p l e R s m args below meth c H1 locs1 (xn res.2.1 - xn K0) (2 * (xn res.2.1 - xn K0)) Q (F0 m pc ls1 [])) (x1 : Int32) (F : PF) (G : PG) (hm : cb_fill_94_0 fu x1 F G = some res) {b : Nat} {H : Heap} {locs : List Loc} (hw : cMW s A v a b K0 F G H locs) {ls : Array Slot} (hl : lv_has ls 4 [(0, .ref (a 94)), (1, .int x1)]) : W p l e R s m args below meth c H locs (xn F - xn K0) (2 * (xn F - xn K0)) Q (F0 m 0 ls []) := by
  have hx := C.1
  have hb := C.2.1
  unfold cb_fill_94_0 at hm
  refine lv_iconst (v := 0) hx hb dJ7_fill_53178_0 (by decide) ?_
  refine lv_istore_n (lv' := [(2, .int 0), (0, .ref (a 94)), (1, .int x1)]) hx hb dJ7_fill_53178_1 rfl hl (by decide) rfl (fun ls hl => ?_)
  refine lv_aload_n hx hb dJ7_fill_53178_2 rfl (lv_at hl 1 rfl) ?_
  refine clen_94 C hw dJ7_fill_53178_3 ?_
  refine lv_istore_n (lv' := [(3, .int 1024), (2, .int 0), (0, .ref (a 94)), (1, .int x1)]) hx hb dJ7_fill_53178_4 rfl hl (by decide) rfl (fun ls hl => ?_)
  exact cwl_fill_94_5 fu C hret fu x1 0 1024 F G hm hw (lv_sub hl [2, 3, 1, 0] rfl)
theorem cn_fill_94 (fu : Nat) (x1 : Int32) (F : PF) (G : PG) (q : Int32 × PF × PG) (hm : cf_fill_94 fu x1 F G = some q) : xn F ≤ xn q.2.1 := cn_fill_94_0 fu x1 F G hm
theorem ck_fill_94 (l : Launch) (v : EV) (a : Nat → Nat) (b sz : Nat) (fu : Nat) (x1 : Int32) (F : PF) (G : PG) (r : Int32) (F1 : PF) (G1 : PG) (hm : cf_fill_94 fu x1 F G = some (r, F1, G1)) : cMV l yJ7_fill_53178 cJ7_fill_53178 4 0 0 v a b sz [.ref (a 94), .int x1] F G F1 G1 := cMV.of (by decide) (Nat.le_of_ble_eq_true rfl) (fun p e R s m args below meth c Q A H locs ls C hw hl hret => cw_fill_94_0 fu (res := (r, F1, G1)) C hret x1 F G hm hw hl)
def cb_fill_86_20 (fu : Nat) (F : PF) (G : PG) : PR := some (0, F, G)
def cb_fill_86_14 (fu : Nat) (ag_5 : Int32 → Int32 → Int32 → PF → PG → PR) (x1 : Int32) (x2 : Int32) (x3 : Int32) (F : PF) (G : PG) : PR := ag_5 x1 (x2 + 1) x3 F G
def cb_fill_86_10 (fu : Nat) (ag_5 : Int32 → Int32 → Int32 → PF → PG → PR) (x1 : Int32) (x2 : Int32) (x3 : Int32) (F : PF) (G : PG) : PR := if ixb x2 2000 = true then (cb_fill_86_14 fu ag_5 x1 x2 x3 F (gup G 86 x2.toNatClampNeg x1)) else none
def cb_fill_86_5 (fu : Nat) (ag_5 : Int32 → Int32 → Int32 → PF → PG → PR) (x1 : Int32) (x2 : Int32) (x3 : Int32) (F : PF) (G : PG) : PR := if x3 ≤ x2 then cb_fill_86_20 fu F G else cb_fill_86_10 fu ag_5 x1 x2 x3 F G
def cl_fill_86_5 (fu : Nat) : Nat → Int32 → Int32 → Int32 → PF → PG → PR
  | 0 => fun _ _ _ _ _ => none
  | n + 1 => fun x1 x2 x3 F G => cb_fill_86_5 fu (cl_fill_86_5 fu n) x1 x2 x3 F G
def cb_fill_86_0 (fu : Nat) (x1 : Int32) (F : PF) (G : PG) : PR := cl_fill_86_5 fu fu x1 0 2000 F G
def cf_fill_86 (fu : Nat) (x1 : Int32) (F : PF) (G : PG) : PR := cb_fill_86_0 fu x1 F G
theorem cn_fill_86_20 (fu : Nat) {res : Int32 × PF × PG} (F : PF) (G : PG) (hm : cb_fill_86_20 fu F G = some res) : xn F ≤ xn res.2.1 := by
  unfold cb_fill_86_20 at hm
  obtain rfl := Option.some.inj hm
  exact Nat.le_refl _
theorem cw_fill_86_20 (fu : Nat) {res : Int32 × PF × PG} (C : cMC p R s m args c A v RJ7 cJ7_fill_53178 4 0 0 (xn res.2.1 - xn K0)) (hret : ∀ (b1 : Nat) (H1 : Heap) (locs1 : List Loc) (ls1 : Array Slot) (pc : Nat), cMW s A v a b1 K0 res.2.1 res.2.2 H1 locs1 → decode cJ7_fill_53178 pc = .ok (.return_, 1) → W p l e R s m args below meth c H1 locs1 (xn res.2.1 - xn K0) (2 * (xn res.2.1 - xn K0)) Q (F0 m pc ls1 [])) (F : PF) (G : PG) (hm : cb_fill_86_20 fu F G = some res) {b : Nat} {H : Heap} {locs : List Loc} (hw : cMW s A v a b K0 F G H locs) {ls : Array Slot} (hl : lv_has ls 4 []) : W p l e R s m args below meth c H locs (xn F - xn K0) (2 * (xn F - xn K0)) Q (F0 m 20 ls []) := by
  have hx := C.1
  have hb := C.2.1
  unfold cb_fill_86_20 at hm
  obtain rfl := Option.some.inj hm
  exact hret _ _ _ _ _ hw dJ7_fill_53178_20
theorem cn_fill_86_14 (fu : Nat) {res : Int32 × PF × PG} (ag_5 : Int32 → Int32 → Int32 → PF → PG → PR) (hagn_5 : ∀ (x1 : Int32) (x2 : Int32) (x3 : Int32) (F : PF) (G : PG), ag_5 x1 x2 x3 F G = some res → xn F ≤ xn res.2.1) (x1 : Int32) (x2 : Int32) (x3 : Int32) (F : PF) (G : PG) (hm : cb_fill_86_14 fu ag_5 x1 x2 x3 F G = some res) : xn F ≤ xn res.2.1 := by
  unfold cb_fill_86_14 at hm
  exact (hagn_5 x1 (x2 + 1) x3 F G hm)
theorem cw_fill_86_14 (fu : Nat) {res : Int32 × PF × PG} (C : cMC p R s m args c A v RJ7 cJ7_fill_53178 4 0 0 (xn res.2.1 - xn K0)) (hret : ∀ (b1 : Nat) (H1 : Heap) (locs1 : List Loc) (ls1 : Array Slot) (pc : Nat), cMW s A v a b1 K0 res.2.1 res.2.2 H1 locs1 → decode cJ7_fill_53178 pc = .ok (.return_, 1) → W p l e R s m args below meth c H1 locs1 (xn res.2.1 - xn K0) (2 * (xn res.2.1 - xn K0)) Q (F0 m pc ls1 [])) (ag_5 : Int32 → Int32 → Int32 → PF → PG → PR) (hag_5 : ∀ (x1 : Int32) (x2 : Int32) (x3 : Int32) (F : PF) (G : PG), ag_5 x1 x2 x3 F G = some res → ∀ (b : Nat) (H : Heap) (locs : List Loc) (ls : Array Slot), cMW s A v a b K0 F G H locs → lv_has ls 4 [(0, .ref (a 86)), (1, .int x1), (2, .int x2), (3, .int x3)] → W p l e R s m args below meth c H locs (xn F - xn K0) (2 * (xn F - xn K0)) Q (F0 m 5 ls [])) (hagn_5 : ∀ (x1 : Int32) (x2 : Int32) (x3 : Int32) (F : PF) (G : PG), ag_5 x1 x2 x3 F G = some res → xn F ≤ xn res.2.1) (x1 : Int32) (x2 : Int32) (x3 : Int32) (F : PF) (G : PG) (hm : cb_fill_86_14 fu ag_5 x1 x2 x3 F G = some res) {b : Nat} {H : Heap} {locs : List Loc} (hw : cMW s A v a b K0 F G H locs) {ls : Array Slot} (hl : lv_has ls 4 [(0, .ref (a 86)), (1, .int x1), (2, .int x2), (3, .int x3)]) : W p l e R s m args below meth c H locs (xn F - xn K0) (2 * (xn F - xn K0)) Q (F0 m 14 ls []) := by
  have hx := C.1
  have hb := C.2.1
  unfold cb_fill_86_14 at hm
  refine lv_iinc (v := (x2 + 1)) (lv' := [(2, .int (x2 + 1)), (0, .ref (a 86)), (1, .int x1), (3, .int x3)]) hx hb dJ7_fill_53178_14 hl (k := 2) rfl (by rfl) (by decide) rfl (fun ls hl => ?_)
  refine lv_goto (tgt := 5) hx hb dJ7_fill_53178_17 (by decide) ?_
  exact hag_5 x1 (x2 + 1) x3 F G hm _ _ _ _ hw (lv_sub hl [1, 2, 0, 3] rfl)
theorem cn_fill_86_10 (fu : Nat) {res : Int32 × PF × PG} (ag_5 : Int32 → Int32 → Int32 → PF → PG → PR) (hagn_5 : ∀ (x1 : Int32) (x2 : Int32) (x3 : Int32) (F : PF) (G : PG), ag_5 x1 x2 x3 F G = some res → xn F ≤ xn res.2.1) (x1 : Int32) (x2 : Int32) (x3 : Int32) (F : PF) (G : PG) (hm : cb_fill_86_10 fu ag_5 x1 x2 x3 F G = some res) : xn F ≤ xn res.2.1 := by
  unfold cb_fill_86_10 at hm
  have hm := (ix_elim hm).2
  exact (cn_fill_86_14 fu ag_5 hagn_5 x1 x2 x3 F (gup G 86 x2.toNatClampNeg x1) hm)
theorem cw_fill_86_10 (fu : Nat) {res : Int32 × PF × PG} (C : cMC p R s m args c A v RJ7 cJ7_fill_53178 4 0 0 (xn res.2.1 - xn K0)) (hret : ∀ (b1 : Nat) (H1 : Heap) (locs1 : List Loc) (ls1 : Array Slot) (pc : Nat), cMW s A v a b1 K0 res.2.1 res.2.2 H1 locs1 → decode cJ7_fill_53178 pc = .ok (.return_, 1) → W p l e R s m args below meth c H1 locs1 (xn res.2.1 - xn K0) (2 * (xn res.2.1 - xn K0)) Q (F0 m pc ls1 [])) (ag_5 : Int32 → Int32 → Int32 → PF → PG → PR) (hag_5 : ∀ (x1 : Int32) (x2 : Int32) (x3 : Int32) (F : PF) (G : PG), ag_5 x1 x2 x3 F G = some res → ∀ (b : Nat) (H : Heap) (locs : List Loc) (ls : Array Slot), cMW s A v a b K0 F G H locs → lv_has ls 4 [(0, .ref (a 86)), (1, .int x1), (2, .int x2), (3, .int x3)] → W p l e R s m args below meth c H locs (xn F - xn K0) (2 * (xn F - xn K0)) Q (F0 m 5 ls [])) (hagn_5 : ∀ (x1 : Int32) (x2 : Int32) (x3 : Int32) (F : PF) (G : PG), ag_5 x1 x2 x3 F G = some res → xn F ≤ xn res.2.1) (x1 : Int32) (x2 : Int32) (x3 : Int32) (F : PF) (G : PG) (hm : cb_fill_86_10 fu ag_5 x1 x2 x3 F G = some res) {b : Nat} {H : Heap} {locs : List Loc} (hw : cMW s A v a b K0 F G H locs) {ls : Array Slot} (hl : lv_has ls 4 [(0, .ref (a 86)), (1, .int x1), (2, .int x2), (3, .int x3)]) : W p l e R s m args below meth c H locs (xn F - xn K0) (2 * (xn F - xn K0)) Q (F0 m 10 ls []) := by
  have hx := C.1
  have hb := C.2.1
  unfold cb_fill_86_10 at hm
  refine lv_aload_n hx hb dJ7_fill_53178_10 rfl (lv_at hl 0 rfl) ?_
  refine lv_iload_n hx hb dJ7_fill_53178_11 rfl (lv_at hl 2 rfl) ?_
  refine lv_iload_n hx hb dJ7_fill_53178_12 rfl (lv_at hl 1 rfl) ?_
  obtain ⟨hi, hm⟩ := ix_elim hm
  refine cas_86 C hw hi dJ7_fill_53178_13 (fun H locs hw => ?_)
  exact cw_fill_86_14 fu C hret ag_5 hag_5 hagn_5 x1 x2 x3 F (gup G 86 x2.toNatClampNeg x1) hm hw (lv_sub hl [0, 1, 2, 3] rfl)
theorem cn_fill_86_5 (fu : Nat) {res : Int32 × PF × PG} (ag_5 : Int32 → Int32 → Int32 → PF → PG → PR) (hagn_5 : ∀ (x1 : Int32) (x2 : Int32) (x3 : Int32) (F : PF) (G : PG), ag_5 x1 x2 x3 F G = some res → xn F ≤ xn res.2.1) (x1 : Int32) (x2 : Int32) (x3 : Int32) (F : PF) (G : PG) (hm : cb_fill_86_5 fu ag_5 x1 x2 x3 F G = some res) : xn F ≤ xn res.2.1 := by
  unfold cb_fill_86_5 at hm
  by_cases c_1 : x3 ≤ x2
  · have hm := (if_pos c_1).symm.trans hm
    exact (cn_fill_86_20 fu F G hm)
  · have hm := (if_neg c_1).symm.trans hm
    exact (cn_fill_86_10 fu ag_5 hagn_5 x1 x2 x3 F G hm)
theorem cw_fill_86_5 (fu : Nat) {res : Int32 × PF × PG} (C : cMC p R s m args c A v RJ7 cJ7_fill_53178 4 0 0 (xn res.2.1 - xn K0)) (hret : ∀ (b1 : Nat) (H1 : Heap) (locs1 : List Loc) (ls1 : Array Slot) (pc : Nat), cMW s A v a b1 K0 res.2.1 res.2.2 H1 locs1 → decode cJ7_fill_53178 pc = .ok (.return_, 1) → W p l e R s m args below meth c H1 locs1 (xn res.2.1 - xn K0) (2 * (xn res.2.1 - xn K0)) Q (F0 m pc ls1 [])) (ag_5 : Int32 → Int32 → Int32 → PF → PG → PR) (hag_5 : ∀ (x1 : Int32) (x2 : Int32) (x3 : Int32) (F : PF) (G : PG), ag_5 x1 x2 x3 F G = some res → ∀ (b : Nat) (H : Heap) (locs : List Loc) (ls : Array Slot), cMW s A v a b K0 F G H locs → lv_has ls 4 [(0, .ref (a 86)), (1, .int x1), (2, .int x2), (3, .int x3)] → W p l e R s m args below meth c H locs (xn F - xn K0) (2 * (xn F - xn K0)) Q (F0 m 5 ls [])) (hagn_5 : ∀ (x1 : Int32) (x2 : Int32) (x3 : Int32) (F : PF) (G : PG), ag_5 x1 x2 x3 F G = some res → xn F ≤ xn res.2.1) (x1 : Int32) (x2 : Int32) (x3 : Int32) (F : PF) (G : PG) (hm : cb_fill_86_5 fu ag_5 x1 x2 x3 F G = some res) {b : Nat} {H : Heap} {locs : List Loc} (hw : cMW s A v a b K0 F G H locs) {ls : Array Slot} (hl : lv_has ls 4 [(0, .ref (a 86)), (1, .int x1), (2, .int x2), (3, .int x3)]) : W p l e R s m args below meth c H locs (xn F - xn K0) (2 * (xn F - xn K0)) Q (F0 m 5 ls []) := by
  have hx := C.1
  have hb := C.2.1
  unfold cb_fill_86_5 at hm
  refine lv_iload_n hx hb dJ7_fill_53178_5 rfl (lv_at hl 2 rfl) ?_
  refine lv_iload_n hx hb dJ7_fill_53178_6 rfl (lv_at hl 3 rfl) ?_
  refine lv_icmp_ge (tgt := 20) hx hb dJ7_fill_53178_7 (by decide) (fun c_1 => ?_) (fun c_1 => ?_)
  · have hm := (if_pos c_1).symm.trans hm
    exact cw_fill_86_20 fu C hret F G hm hw (lv_sub hl [] rfl)
  · have hm := (if_neg c_1).symm.trans hm
    exact cw_fill_86_10 fu C hret ag_5 hag_5 hagn_5 x1 x2 x3 F G hm hw (lv_sub hl [0, 1, 2, 3] rfl)
theorem cnl_fill_86_5 (fu : Nat) {res : Int32 × PF × PG} : ∀ (n : Nat) (x1 : Int32) (x2 : Int32) (x3 : Int32) (F : PF) (G : PG) (hm : cl_fill_86_5 fu n x1 x2 x3 F G = some res), xn F ≤ xn res.2.1 := by
  intro n
  induction n with
  | zero =>
    intro x1 x2 x3 F G hm
    exact no_elim (show (none : PR) = some res from hm)
  | succ n ih =>
    intro x1 x2 x3 F G hm
    exact cn_fill_86_5 fu (cl_fill_86_5 fu n) (fun x1 x2 x3 F G hm => ih x1 x2 x3 F G hm) x1 x2 x3 F G hm
theorem cwl_fill_86_5 (fu : Nat) {res : Int32 × PF × PG} (C : cMC p R s m args c A v RJ7 cJ7_fill_53178 4 0 0 (xn res.2.1 - xn K0)) (hret : ∀ (b1 : Nat) (H1 : Heap) (locs1 : List Loc) (ls1 : Array Slot) (pc : Nat), cMW s A v a b1 K0 res.2.1 res.2.2 H1 locs1 → decode cJ7_fill_53178 pc = .ok (.return_, 1) → W p l e R s m args below meth c H1 locs1 (xn res.2.1 - xn K0) (2 * (xn res.2.1 - xn K0)) Q (F0 m pc ls1 [])) : ∀ (n : Nat) (x1 : Int32) (x2 : Int32) (x3 : Int32) (F : PF) (G : PG) (hm : cl_fill_86_5 fu n x1 x2 x3 F G = some res) {b : Nat} {H : Heap} {locs : List Loc} (hw : cMW s A v a b K0 F G H locs) {ls : Array Slot} (hl : lv_has ls 4 [(0, .ref (a 86)), (1, .int x1), (2, .int x2), (3, .int x3)]), W p l e R s m args below meth c H locs (xn F - xn K0) (2 * (xn F - xn K0)) Q (F0 m 5 ls []) := by
  intro n
  induction n with
  | zero =>
    intro x1 x2 x3 F G hm
    exact no_elim (show (none : PR) = some res from hm)
  | succ n ih =>
    intro x1 x2 x3 F G hm b H locs hw ls hl
    exact cw_fill_86_5 fu C hret (cl_fill_86_5 fu n) (fun x1 x2 x3 F G hm b H locs ls hw hl => ih x1 x2 x3 F G hm hw hl) (fun x1 x2 x3 F G hm => cnl_fill_86_5 fu n x1 x2 x3 F G hm) x1 x2 x3 F G hm hw hl
theorem cn_fill_86_0 (fu : Nat) {res : Int32 × PF × PG} (x1 : Int32) (F : PF) (G : PG) (hm : cb_fill_86_0 fu x1 F G = some res) : xn F ≤ xn res.2.1 := by
  unfold cb_fill_86_0 at hm
  exact (cnl_fill_86_5 fu fu x1 0 2000 F G hm)
theorem cw_fill_86_0 (fu : Nat) {res : Int32 × PF × PG} (C : cMC p R s m args c A v RJ7 cJ7_fill_53178 4 0 0 (xn res.2.1 - xn K0)) (hret : ∀ (b1 : Nat) (H1 : Heap) (locs1 : List Loc) (ls1 : Array Slot) (pc : Nat), cMW s A v a b1 K0 res.2.1 res.2.2 H1 locs1 → decode cJ7_fill_53178 pc = .ok (.return_, 1) → W p l e R s m args below meth c H1 locs1 (xn res.2.1 - xn K0) (2 * (xn res.2.1 - xn K0)) Q (F0 m pc ls1 [])) (x1 : Int32) (F : PF) (G : PG) (hm : cb_fill_86_0 fu x1 F G = some res) {b : Nat} {H : Heap} {locs : List Loc} (hw : cMW s A v a b K0 F G H locs) {ls : Array Slot} (hl : lv_has ls 4 [(0, .ref (a 86)), (1, .int x1)]) : W p l e R s m args below meth c H locs (xn F - xn K0) (2 * (xn F - xn K0)) Q (F0 m 0 ls []) := by
  have hx := C.1
  have hb := C.2.1
  unfold cb_fill_86_0 at hm
  refine lv_iconst (v := 0) hx hb dJ7_fill_53178_0 (by decide) ?_
  refine lv_istore_n (lv' := [(2, .int 0), (0, .ref (a 86)), (1, .int x1)]) hx hb dJ7_fill_53178_1 rfl hl (by decide) rfl (fun ls hl => ?_)
  refine lv_aload_n hx hb dJ7_fill_53178_2 rfl (lv_at hl 1 rfl) ?_
  refine clen_86 C hw dJ7_fill_53178_3 ?_
  refine lv_istore_n (lv' := [(3, .int 2000), (2, .int 0), (0, .ref (a 86)), (1, .int x1)]) hx hb dJ7_fill_53178_4 rfl hl (by decide) rfl (fun ls hl => ?_)
  exact cwl_fill_86_5 fu C hret fu x1 0 2000 F G hm hw (lv_sub hl [2, 3, 1, 0] rfl)
theorem cn_fill_86 (fu : Nat) (x1 : Int32) (F : PF) (G : PG) (q : Int32 × PF × PG) (hm : cf_fill_86 fu x1 F G = some q) : xn F ≤ xn q.2.1 := cn_fill_86_0 fu x1 F G hm
theorem ck_fill_86 (l : Launch) (v : EV) (a : Nat → Nat) (b sz : Nat) (fu : Nat) (x1 : Int32) (F : PF) (G : PG) (r : Int32) (F1 : PF) (G1 : PG) (hm : cf_fill_86 fu x1 F G = some (r, F1, G1)) : cMV l yJ7_fill_53178 cJ7_fill_53178 4 0 0 v a b sz [.ref (a 86), .int x1] F G F1 G1 := cMV.of (by decide) (Nat.le_of_ble_eq_true rfl) (fun p e R s m args below meth c Q A H locs ls C hw hl hret => cw_fill_86_0 fu (res := (r, F1, G1)) C hret x1 F G hm hw hl)
def cb_fill_40_20 (fu : Nat) (F : PF) (G : PG) : PR := some (0, F, G)
def cb_fill_40_14 (fu : Nat) (ag_5 : Int32 → Int32 → Int32 → PF → PG → PR) (x1 : Int32) (x2 : Int32) (x3 : Int32) (F : PF) (G : PG) : PR := ag_5 x1 (x2 + 1) x3 F G
def cb_fill_40_10 (fu : Nat) (ag_5 : Int32 → Int32 → Int32 → PF → PG → PR) (x1 : Int32) (x2 : Int32) (x3 : Int32) (F : PF) (G : PG) : PR := if ixb x2 1408 = true then (cb_fill_40_14 fu ag_5 x1 x2 x3 F (gup G 40 x2.toNatClampNeg x1)) else none
def cb_fill_40_5 (fu : Nat) (ag_5 : Int32 → Int32 → Int32 → PF → PG → PR) (x1 : Int32) (x2 : Int32) (x3 : Int32) (F : PF) (G : PG) : PR := if x3 ≤ x2 then cb_fill_40_20 fu F G else cb_fill_40_10 fu ag_5 x1 x2 x3 F G
def cl_fill_40_5 (fu : Nat) : Nat → Int32 → Int32 → Int32 → PF → PG → PR
  | 0 => fun _ _ _ _ _ => none
  | n + 1 => fun x1 x2 x3 F G => cb_fill_40_5 fu (cl_fill_40_5 fu n) x1 x2 x3 F G
def cb_fill_40_0 (fu : Nat) (x1 : Int32) (F : PF) (G : PG) : PR := cl_fill_40_5 fu fu x1 0 1408 F G
def cf_fill_40 (fu : Nat) (x1 : Int32) (F : PF) (G : PG) : PR := cb_fill_40_0 fu x1 F G
theorem cn_fill_40_20 (fu : Nat) {res : Int32 × PF × PG} (F : PF) (G : PG) (hm : cb_fill_40_20 fu F G = some res) : xn F ≤ xn res.2.1 := by
  unfold cb_fill_40_20 at hm
  obtain rfl := Option.some.inj hm
  exact Nat.le_refl _
theorem cw_fill_40_20 (fu : Nat) {res : Int32 × PF × PG} (C : cMC p R s m args c A v RJ7 cJ7_fill_53178 4 0 0 (xn res.2.1 - xn K0)) (hret : ∀ (b1 : Nat) (H1 : Heap) (locs1 : List Loc) (ls1 : Array Slot) (pc : Nat), cMW s A v a b1 K0 res.2.1 res.2.2 H1 locs1 → decode cJ7_fill_53178 pc = .ok (.return_, 1) → W p l e R s m args below meth c H1 locs1 (xn res.2.1 - xn K0) (2 * (xn res.2.1 - xn K0)) Q (F0 m pc ls1 [])) (F : PF) (G : PG) (hm : cb_fill_40_20 fu F G = some res) {b : Nat} {H : Heap} {locs : List Loc} (hw : cMW s A v a b K0 F G H locs) {ls : Array Slot} (hl : lv_has ls 4 []) : W p l e R s m args below meth c H locs (xn F - xn K0) (2 * (xn F - xn K0)) Q (F0 m 20 ls []) := by
  have hx := C.1
  have hb := C.2.1
  unfold cb_fill_40_20 at hm
  obtain rfl := Option.some.inj hm
  exact hret _ _ _ _ _ hw dJ7_fill_53178_20
theorem cn_fill_40_14 (fu : Nat) {res : Int32 × PF × PG} (ag_5 : Int32 → Int32 → Int32 → PF → PG → PR) (hagn_5 : ∀ (x1 : Int32) (x2 : Int32) (x3 : Int32) (F : PF) (G : PG), ag_5 x1 x2 x3 F G = some res → xn F ≤ xn res.2.1) (x1 : Int32) (x2 : Int32) (x3 : Int32) (F : PF) (G : PG) (hm : cb_fill_40_14 fu ag_5 x1 x2 x3 F G = some res) : xn F ≤ xn res.2.1 := by
  unfold cb_fill_40_14 at hm
  exact (hagn_5 x1 (x2 + 1) x3 F G hm)
theorem cw_fill_40_14 (fu : Nat) {res : Int32 × PF × PG} (C : cMC p R s m args c A v RJ7 cJ7_fill_53178 4 0 0 (xn res.2.1 - xn K0)) (hret : ∀ (b1 : Nat) (H1 : Heap) (locs1 : List Loc) (ls1 : Array Slot) (pc : Nat), cMW s A v a b1 K0 res.2.1 res.2.2 H1 locs1 → decode cJ7_fill_53178 pc = .ok (.return_, 1) → W p l e R s m args below meth c H1 locs1 (xn res.2.1 - xn K0) (2 * (xn res.2.1 - xn K0)) Q (F0 m pc ls1 [])) (ag_5 : Int32 → Int32 → Int32 → PF → PG → PR) (hag_5 : ∀ (x1 : Int32) (x2 : Int32) (x3 : Int32) (F : PF) (G : PG), ag_5 x1 x2 x3 F G = some res → ∀ (b : Nat) (H : Heap) (locs : List Loc) (ls : Array Slot), cMW s A v a b K0 F G H locs → lv_has ls 4 [(0, .ref (a 40)), (1, .int x1), (2, .int x2), (3, .int x3)] → W p l e R s m args below meth c H locs (xn F - xn K0) (2 * (xn F - xn K0)) Q (F0 m 5 ls [])) (hagn_5 : ∀ (x1 : Int32) (x2 : Int32) (x3 : Int32) (F : PF) (G : PG), ag_5 x1 x2 x3 F G = some res → xn F ≤ xn res.2.1) (x1 : Int32) (x2 : Int32) (x3 : Int32) (F : PF) (G : PG) (hm : cb_fill_40_14 fu ag_5 x1 x2 x3 F G = some res) {b : Nat} {H : Heap} {locs : List Loc} (hw : cMW s A v a b K0 F G H locs) {ls : Array Slot} (hl : lv_has ls 4 [(0, .ref (a 40)), (1, .int x1), (2, .int x2), (3, .int x3)]) : W p l e R s m args below meth c H locs (xn F - xn K0) (2 * (xn F - xn K0)) Q (F0 m 14 ls []) := by
  have hx := C.1
  have hb := C.2.1
  unfold cb_fill_40_14 at hm
  refine lv_iinc (v := (x2 + 1)) (lv' := [(2, .int (x2 + 1)), (0, .ref (a 40)), (1, .int x1), (3, .int x3)]) hx hb dJ7_fill_53178_14 hl (k := 2) rfl (by rfl) (by decide) rfl (fun ls hl => ?_)
  refine lv_goto (tgt := 5) hx hb dJ7_fill_53178_17 (by decide) ?_
  exact hag_5 x1 (x2 + 1) x3 F G hm _ _ _ _ hw (lv_sub hl [1, 2, 0, 3] rfl)
theorem cn_fill_40_10 (fu : Nat) {res : Int32 × PF × PG} (ag_5 : Int32 → Int32 → Int32 → PF → PG → PR) (hagn_5 : ∀ (x1 : Int32) (x2 : Int32) (x3 : Int32) (F : PF) (G : PG), ag_5 x1 x2 x3 F G = some res → xn F ≤ xn res.2.1) (x1 : Int32) (x2 : Int32) (x3 : Int32) (F : PF) (G : PG) (hm : cb_fill_40_10 fu ag_5 x1 x2 x3 F G = some res) : xn F ≤ xn res.2.1 := by
  unfold cb_fill_40_10 at hm
  have hm := (ix_elim hm).2
  exact (cn_fill_40_14 fu ag_5 hagn_5 x1 x2 x3 F (gup G 40 x2.toNatClampNeg x1) hm)
theorem cw_fill_40_10 (fu : Nat) {res : Int32 × PF × PG} (C : cMC p R s m args c A v RJ7 cJ7_fill_53178 4 0 0 (xn res.2.1 - xn K0)) (hret : ∀ (b1 : Nat) (H1 : Heap) (locs1 : List Loc) (ls1 : Array Slot) (pc : Nat), cMW s A v a b1 K0 res.2.1 res.2.2 H1 locs1 → decode cJ7_fill_53178 pc = .ok (.return_, 1) → W p l e R s m args below meth c H1 locs1 (xn res.2.1 - xn K0) (2 * (xn res.2.1 - xn K0)) Q (F0 m pc ls1 [])) (ag_5 : Int32 → Int32 → Int32 → PF → PG → PR) (hag_5 : ∀ (x1 : Int32) (x2 : Int32) (x3 : Int32) (F : PF) (G : PG), ag_5 x1 x2 x3 F G = some res → ∀ (b : Nat) (H : Heap) (locs : List Loc) (ls : Array Slot), cMW s A v a b K0 F G H locs → lv_has ls 4 [(0, .ref (a 40)), (1, .int x1), (2, .int x2), (3, .int x3)] → W p l e R s m args below meth c H locs (xn F - xn K0) (2 * (xn F - xn K0)) Q (F0 m 5 ls [])) (hagn_5 : ∀ (x1 : Int32) (x2 : Int32) (x3 : Int32) (F : PF) (G : PG), ag_5 x1 x2 x3 F G = some res → xn F ≤ xn res.2.1) (x1 : Int32) (x2 : Int32) (x3 : Int32) (F : PF) (G : PG) (hm : cb_fill_40_10 fu ag_5 x1 x2 x3 F G = some res) {b : Nat} {H : Heap} {locs : List Loc} (hw : cMW s A v a b K0 F G H locs) {ls : Array Slot} (hl : lv_has ls 4 [(0, .ref (a 40)), (1, .int x1), (2, .int x2), (3, .int x3)]) : W p l e R s m args below meth c H locs (xn F - xn K0) (2 * (xn F - xn K0)) Q (F0 m 10 ls []) := by
  have hx := C.1
  have hb := C.2.1
  unfold cb_fill_40_10 at hm
  refine lv_aload_n hx hb dJ7_fill_53178_10 rfl (lv_at hl 0 rfl) ?_
  refine lv_iload_n hx hb dJ7_fill_53178_11 rfl (lv_at hl 2 rfl) ?_
  refine lv_iload_n hx hb dJ7_fill_53178_12 rfl (lv_at hl 1 rfl) ?_
  obtain ⟨hi, hm⟩ := ix_elim hm
  refine cas_40 C hw hi dJ7_fill_53178_13 (fun H locs hw => ?_)
  exact cw_fill_40_14 fu C hret ag_5 hag_5 hagn_5 x1 x2 x3 F (gup G 40 x2.toNatClampNeg x1) hm hw (lv_sub hl [0, 1, 2, 3] rfl)
theorem cn_fill_40_5 (fu : Nat) {res : Int32 × PF × PG} (ag_5 : Int32 → Int32 → Int32 → PF → PG → PR) (hagn_5 : ∀ (x1 : Int32) (x2 : Int32) (x3 : Int32) (F : PF) (G : PG), ag_5 x1 x2 x3 F G = some res → xn F ≤ xn res.2.1) (x1 : Int32) (x2 : Int32) (x3 : Int32) (F : PF) (G : PG) (hm : cb_fill_40_5 fu ag_5 x1 x2 x3 F G = some res) : xn F ≤ xn res.2.1 := by
  unfold cb_fill_40_5 at hm
  by_cases c_1 : x3 ≤ x2
  · have hm := (if_pos c_1).symm.trans hm
    exact (cn_fill_40_20 fu F G hm)
  · have hm := (if_neg c_1).symm.trans hm
    exact (cn_fill_40_10 fu ag_5 hagn_5 x1 x2 x3 F G hm)
theorem cw_fill_40_5 (fu : Nat) {res : Int32 × PF × PG} (C : cMC p R s m args c A v RJ7 cJ7_fill_53178 4 0 0 (xn res.2.1 - xn K0)) (hret : ∀ (b1 : Nat) (H1 : Heap) (locs1 : List Loc) (ls1 : Array Slot) (pc : Nat), cMW s A v a b1 K0 res.2.1 res.2.2 H1 locs1 → decode cJ7_fill_53178 pc = .ok (.return_, 1) → W p l e R s m args below meth c H1 locs1 (xn res.2.1 - xn K0) (2 * (xn res.2.1 - xn K0)) Q (F0 m pc ls1 [])) (ag_5 : Int32 → Int32 → Int32 → PF → PG → PR) (hag_5 : ∀ (x1 : Int32) (x2 : Int32) (x3 : Int32) (F : PF) (G : PG), ag_5 x1 x2 x3 F G = some res → ∀ (b : Nat) (H : Heap) (locs : List Loc) (ls : Array Slot), cMW s A v a b K0 F G H locs → lv_has ls 4 [(0, .ref (a 40)), (1, .int x1), (2, .int x2), (3, .int x3)] → W p l e R s m args below meth c H locs (xn F - xn K0) (2 * (xn F - xn K0)) Q (F0 m 5 ls [])) (hagn_5 : ∀ (x1 : Int32) (x2 : Int32) (x3 : Int32) (F : PF) (G : PG), ag_5 x1 x2 x3 F G = some res → xn F ≤ xn res.2.1) (x1 : Int32) (x2 : Int32) (x3 : Int32) (F : PF) (G : PG) (hm : cb_fill_40_5 fu ag_5 x1 x2 x3 F G = some res) {b : Nat} {H : Heap} {locs : List Loc} (hw : cMW s A v a b K0 F G H locs) {ls : Array Slot} (hl : lv_has ls 4 [(0, .ref (a 40)), (1, .int x1), (2, .int x2), (3, .int x3)]) : W p l e R s m args below meth c H locs (xn F - xn K0) (2 * (xn F - xn K0)) Q (F0 m 5 ls []) := by
  have hx := C.1
  have hb := C.2.1
  unfold cb_fill_40_5 at hm
  refine lv_iload_n hx hb dJ7_fill_53178_5 rfl (lv_at hl 2 rfl) ?_
  refine lv_iload_n hx hb dJ7_fill_53178_6 rfl (lv_at hl 3 rfl) ?_
  refine lv_icmp_ge (tgt := 20) hx hb dJ7_fill_53178_7 (by decide) (fun c_1 => ?_) (fun c_1 => ?_)
  · have hm := (if_pos c_1).symm.trans hm
    exact cw_fill_40_20 fu C hret F G hm hw (lv_sub hl [] rfl)
  · have hm := (if_neg c_1).symm.trans hm
    exact cw_fill_40_10 fu C hret ag_5 hag_5 hagn_5 x1 x2 x3 F G hm hw (lv_sub hl [0, 1, 2, 3] rfl)
theorem cnl_fill_40_5 (fu : Nat) {res : Int32 × PF × PG} : ∀ (n : Nat) (x1 : Int32) (x2 : Int32) (x3 : Int32) (F : PF) (G : PG) (hm : cl_fill_40_5 fu n x1 x2 x3 F G = some res), xn F ≤ xn res.2.1 := by
  intro n
  induction n with
  | zero =>
    intro x1 x2 x3 F G hm
    exact no_elim (show (none : PR) = some res from hm)
  | succ n ih =>
    intro x1 x2 x3 F G hm
    exact cn_fill_40_5 fu (cl_fill_40_5 fu n) (fun x1 x2 x3 F G hm => ih x1 x2 x3 F G hm) x1 x2 x3 F G hm
theorem cwl_fill_40_5 (fu : Nat) {res : Int32 × PF × PG} (C : cMC p R s m args c A v RJ7 cJ7_fill_53178 4 0 0 (xn res.2.1 - xn K0)) (hret : ∀ (b1 : Nat) (H1 : Heap) (locs1 : List Loc) (ls1 : Array Slot) (pc : Nat), cMW s A v a b1 K0 res.2.1 res.2.2 H1 locs1 → decode cJ7_fill_53178 pc = .ok (.return_, 1) → W p l e R s m args below meth c H1 locs1 (xn res.2.1 - xn K0) (2 * (xn res.2.1 - xn K0)) Q (F0 m pc ls1 [])) : ∀ (n : Nat) (x1 : Int32) (x2 : Int32) (x3 : Int32) (F : PF) (G : PG) (hm : cl_fill_40_5 fu n x1 x2 x3 F G = some res) {b : Nat} {H : Heap} {locs : List Loc} (hw : cMW s A v a b K0 F G H locs) {ls : Array Slot} (hl : lv_has ls 4 [(0, .ref (a 40)), (1, .int x1), (2, .int x2), (3, .int x3)]), W p l e R s m args below meth c H locs (xn F - xn K0) (2 * (xn F - xn K0)) Q (F0 m 5 ls []) := by
  intro n
  induction n with
  | zero =>
    intro x1 x2 x3 F G hm
    exact no_elim (show (none : PR) = some res from hm)
  | succ n ih =>
    intro x1 x2 x3 F G hm b H locs hw ls hl
    exact cw_fill_40_5 fu C hret (cl_fill_40_5 fu n) (fun x1 x2 x3 F G hm b H locs ls hw hl => ih x1 x2 x3 F G hm hw hl) (fun x1 x2 x3 F G hm => cnl_fill_40_5 fu n x1 x2 x3 F G hm) x1 x2 x3 F G hm hw hl
theorem cn_fill_40_0 (fu : Nat) {res : Int32 × PF × PG} (x1 : Int32) (F : PF) (G : PG) (hm : cb_fill_40_0 fu x1 F G = some res) : xn F ≤ xn res.2.1 := by
  unfold cb_fill_40_0 at hm
  exact (cnl_fill_40_5 fu fu x1 0 1408 F G hm)
theorem cw_fill_40_0 (fu : Nat) {res : Int32 × PF × PG} (C : cMC p R s m args c A v RJ7 cJ7_fill_53178 4 0 0 (xn res.2.1 - xn K0)) (hret : ∀ (b1 : Nat) (H1 : Heap) (locs1 : List Loc) (ls1 : Array Slot) (pc : Nat), cMW s A v a b1 K0 res.2.1 res.2.2 H1 locs1 → decode cJ7_fill_53178 pc = .ok (.return_, 1) → W p l e R s m args below meth c H1 locs1 (xn res.2.1 - xn K0) (2 * (xn res.2.1 - xn K0)) Q (F0 m pc ls1 [])) (x1 : Int32) (F : PF) (G : PG) (hm : cb_fill_40_0 fu x1 F G = some res) {b : Nat} {H : Heap} {locs : List Loc} (hw : cMW s A v a b K0 F G H locs) {ls : Array Slot} (hl : lv_has ls 4 [(0, .ref (a 40)), (1, .int x1)]) : W p l e R s m args below meth c H locs (xn F - xn K0) (2 * (xn F - xn K0)) Q (F0 m 0 ls []) := by
  have hx := C.1
  have hb := C.2.1
  unfold cb_fill_40_0 at hm
  refine lv_iconst (v := 0) hx hb dJ7_fill_53178_0 (by decide) ?_
  refine lv_istore_n (lv' := [(2, .int 0), (0, .ref (a 40)), (1, .int x1)]) hx hb dJ7_fill_53178_1 rfl hl (by decide) rfl (fun ls hl => ?_)
  refine lv_aload_n hx hb dJ7_fill_53178_2 rfl (lv_at hl 1 rfl) ?_
  refine clen_40 C hw dJ7_fill_53178_3 ?_
  refine lv_istore_n (lv' := [(3, .int 1408), (2, .int 0), (0, .ref (a 40)), (1, .int x1)]) hx hb dJ7_fill_53178_4 rfl hl (by decide) rfl (fun ls hl => ?_)
  exact cwl_fill_40_5 fu C hret fu x1 0 1408 F G hm hw (lv_sub hl [2, 3, 1, 0] rfl)
theorem cn_fill_40 (fu : Nat) (x1 : Int32) (F : PF) (G : PG) (q : Int32 × PF × PG) (hm : cf_fill_40 fu x1 F G = some q) : xn F ≤ xn q.2.1 := cn_fill_40_0 fu x1 F G hm
theorem ck_fill_40 (l : Launch) (v : EV) (a : Nat → Nat) (b sz : Nat) (fu : Nat) (x1 : Int32) (F : PF) (G : PG) (r : Int32) (F1 : PF) (G1 : PG) (hm : cf_fill_40 fu x1 F G = some (r, F1, G1)) : cMV l yJ7_fill_53178 cJ7_fill_53178 4 0 0 v a b sz [.ref (a 40), .int x1] F G F1 G1 := cMV.of (by decide) (Nat.le_of_ble_eq_true rfl) (fun p e R s m args below meth c Q A H locs ls C hw hl hret => cw_fill_40_0 fu (res := (r, F1, G1)) C hret x1 F G hm hw hl)
def cb_X0_hold_17 (fu : Nat) (F : PF) (G : PG) : PR := some (0, F, G)
def cb_X0_hold_28 (fu : Nat) (F : PF) (G : PG) : PR := some (1, F, G)
def cb_X0_hold_19 (fu : Nat) (x1 : Int32) (x2 : Int32) (F : PF) (G : PG) : PR := if ixb (x1 >>> ((2 : Int32) &&& 31)) 4096 = true then (cb_X0_hold_28 fu F (gup G 0 (x1 >>> ((2 : Int32) &&& 31)).toNatClampNeg x2)) else none
def cb_X0_hold_11 (fu : Nat) (x1 : Int32) (x2 : Int32) (F : PF) (G : PG) : PR := if (x1 &&& (3 : Int32)) = (0 : Int32) then cb_X0_hold_19 fu x1 x2 F G else cb_X0_hold_17 fu F G
def cb_X0_hold_4 (fu : Nat) (x1 : Int32) (x2 : Int32) (F : PF) (G : PG) : PR := if (16384 : Int32) ≤ x1 then cb_X0_hold_17 fu F G else cb_X0_hold_11 fu x1 x2 F G
def cb_X0_hold_0 (fu : Nat) (x1 : Int32) (x2 : Int32) (F : PF) (G : PG) : PR := if x1 < (0 : Int32) then cb_X0_hold_17 fu F G else cb_X0_hold_4 fu x1 x2 F G
def cf_X0_hold (fu : Nat) (x1 : Int32) (x2 : Int32) (F : PF) (G : PG) : PR := cb_X0_hold_0 fu x1 x2 F G
theorem cn_X0_hold_17 (fu : Nat) {res : Int32 × PF × PG} (F : PF) (G : PG) (hm : cb_X0_hold_17 fu F G = some res) : xn F ≤ xn res.2.1 := by
  unfold cb_X0_hold_17 at hm
  obtain rfl := Option.some.inj hm
  exact Nat.le_refl _
theorem cw_X0_hold_17 (fu : Nat) {res : Int32 × PF × PG} (C : cMC p R s m args c A v RX0 cX0_hold 3 0 0 (xn res.2.1 - xn K0)) (hret : ∀ (b1 : Nat) (H1 : Heap) (locs1 : List Loc) (ls1 : Array Slot) (pc : Nat), cMW s A v a b1 K0 res.2.1 res.2.2 H1 locs1 → narrow .boolean (.int res.1) = .int res.1 → decode cX0_hold pc = .ok (.ireturn, 1) → W p l e R s m args below meth c H1 locs1 (xn res.2.1 - xn K0) (2 * (xn res.2.1 - xn K0)) Q (F0 m pc ls1 [.int res.1])) (F : PF) (G : PG) (hm : cb_X0_hold_17 fu F G = some res) {b : Nat} {H : Heap} {locs : List Loc} (hw : cMW s A v a b K0 F G H locs) {ls : Array Slot} (hl : lv_has ls 3 []) : W p l e R s m args below meth c H locs (xn F - xn K0) (2 * (xn F - xn K0)) Q (F0 m 17 ls []) := by
  have hx := C.1
  have hb := C.2.1
  unfold cb_X0_hold_17 at hm
  refine lv_iconst (v := 0) hx hb dX0_hold_17 (by decide) ?_
  obtain rfl := Option.some.inj hm
  exact hret _ _ _ _ _ hw (b01_nar (v := 0) (Or.inl rfl)) dX0_hold_18
theorem cn_X0_hold_28 (fu : Nat) {res : Int32 × PF × PG} (F : PF) (G : PG) (hm : cb_X0_hold_28 fu F G = some res) : xn F ≤ xn res.2.1 := by
  unfold cb_X0_hold_28 at hm
  obtain rfl := Option.some.inj hm
  exact Nat.le_refl _
theorem cw_X0_hold_28 (fu : Nat) {res : Int32 × PF × PG} (C : cMC p R s m args c A v RX0 cX0_hold 3 0 0 (xn res.2.1 - xn K0)) (hret : ∀ (b1 : Nat) (H1 : Heap) (locs1 : List Loc) (ls1 : Array Slot) (pc : Nat), cMW s A v a b1 K0 res.2.1 res.2.2 H1 locs1 → narrow .boolean (.int res.1) = .int res.1 → decode cX0_hold pc = .ok (.ireturn, 1) → W p l e R s m args below meth c H1 locs1 (xn res.2.1 - xn K0) (2 * (xn res.2.1 - xn K0)) Q (F0 m pc ls1 [.int res.1])) (F : PF) (G : PG) (hm : cb_X0_hold_28 fu F G = some res) {b : Nat} {H : Heap} {locs : List Loc} (hw : cMW s A v a b K0 F G H locs) {ls : Array Slot} (hl : lv_has ls 3 []) : W p l e R s m args below meth c H locs (xn F - xn K0) (2 * (xn F - xn K0)) Q (F0 m 28 ls []) := by
  have hx := C.1
  have hb := C.2.1
  unfold cb_X0_hold_28 at hm
  refine lv_iconst (v := 1) hx hb dX0_hold_28 (by decide) ?_
  obtain rfl := Option.some.inj hm
  exact hret _ _ _ _ _ hw (b01_nar (v := 1) (Or.inr rfl)) dX0_hold_29
theorem cn_X0_hold_19 (fu : Nat) {res : Int32 × PF × PG} (x1 : Int32) (x2 : Int32) (F : PF) (G : PG) (hm : cb_X0_hold_19 fu x1 x2 F G = some res) : xn F ≤ xn res.2.1 := by
  unfold cb_X0_hold_19 at hm
  have hm := (ix_elim hm).2
  exact (cn_X0_hold_28 fu F (gup G 0 (x1 >>> ((2 : Int32) &&& 31)).toNatClampNeg x2) hm)
theorem cw_X0_hold_19 (fu : Nat) {res : Int32 × PF × PG} (C : cMC p R s m args c A v RX0 cX0_hold 3 0 0 (xn res.2.1 - xn K0)) (hret : ∀ (b1 : Nat) (H1 : Heap) (locs1 : List Loc) (ls1 : Array Slot) (pc : Nat), cMW s A v a b1 K0 res.2.1 res.2.2 H1 locs1 → narrow .boolean (.int res.1) = .int res.1 → decode cX0_hold pc = .ok (.ireturn, 1) → W p l e R s m args below meth c H1 locs1 (xn res.2.1 - xn K0) (2 * (xn res.2.1 - xn K0)) Q (F0 m pc ls1 [.int res.1])) (x1 : Int32) (x2 : Int32) (F : PF) (G : PG) (hm : cb_X0_hold_19 fu x1 x2 F G = some res) {b : Nat} {H : Heap} {locs : List Loc} (hw : cMW s A v a b K0 F G H locs) {ls : Array Slot} (hl : lv_has ls 3 [(0, .ref (a 200)), (1, .int x1), (2, .int x2)]) : W p l e R s m args below meth c H locs (xn F - xn K0) (2 * (xn F - xn K0)) Q (F0 m 19 ls []) := by
  have hx := C.1
  have hb := C.2.1
  unfold cb_X0_hold_19 at hm
  refine lv_aload_n hx hb dX0_hold_19 rfl (lv_at hl 0 rfl) ?_
  refine cg_X0_11 C hw dX0_hold_20 ?_
  refine lv_iload_n hx hb dX0_hold_23 rfl (lv_at hl 1 rfl) ?_
  refine lv_iconst (v := 2) hx hb dX0_hold_24 (by decide) ?_
  refine lv_ishr hx hb dX0_hold_25 ?_
  refine lv_iload_n hx hb dX0_hold_26 rfl (lv_at hl 2 rfl) ?_
  obtain ⟨hi, hm⟩ := ix_elim hm
  refine cas_0 C hw hi dX0_hold_27 (fun H locs hw => ?_)
  exact cw_X0_hold_28 fu C hret F (gup G 0 (x1 >>> ((2 : Int32) &&& 31)).toNatClampNeg x2) hm hw (lv_sub hl [] rfl)
theorem cn_X0_hold_11 (fu : Nat) {res : Int32 × PF × PG} (x1 : Int32) (x2 : Int32) (F : PF) (G : PG) (hm : cb_X0_hold_11 fu x1 x2 F G = some res) : xn F ≤ xn res.2.1 := by
  unfold cb_X0_hold_11 at hm
  by_cases c_1 : (x1 &&& (3 : Int32)) = (0 : Int32)
  · have hm := (if_pos c_1).symm.trans hm
    exact (cn_X0_hold_19 fu x1 x2 F G hm)
  · have hm := (if_neg c_1).symm.trans hm
    exact (cn_X0_hold_17 fu F G hm)
theorem cw_X0_hold_11 (fu : Nat) {res : Int32 × PF × PG} (C : cMC p R s m args c A v RX0 cX0_hold 3 0 0 (xn res.2.1 - xn K0)) (hret : ∀ (b1 : Nat) (H1 : Heap) (locs1 : List Loc) (ls1 : Array Slot) (pc : Nat), cMW s A v a b1 K0 res.2.1 res.2.2 H1 locs1 → narrow .boolean (.int res.1) = .int res.1 → decode cX0_hold pc = .ok (.ireturn, 1) → W p l e R s m args below meth c H1 locs1 (xn res.2.1 - xn K0) (2 * (xn res.2.1 - xn K0)) Q (F0 m pc ls1 [.int res.1])) (x1 : Int32) (x2 : Int32) (F : PF) (G : PG) (hm : cb_X0_hold_11 fu x1 x2 F G = some res) {b : Nat} {H : Heap} {locs : List Loc} (hw : cMW s A v a b K0 F G H locs) {ls : Array Slot} (hl : lv_has ls 3 [(0, .ref (a 200)), (1, .int x1), (2, .int x2)]) : W p l e R s m args below meth c H locs (xn F - xn K0) (2 * (xn F - xn K0)) Q (F0 m 11 ls []) := by
  have hx := C.1
  have hb := C.2.1
  unfold cb_X0_hold_11 at hm
  refine lv_iload_n hx hb dX0_hold_11 rfl (lv_at hl 1 rfl) ?_
  refine lv_iconst (v := 3) hx hb dX0_hold_12 (by decide) ?_
  refine lv_iand hx hb dX0_hold_13 ?_
  refine lv_if_eq (tgt := 19) hx hb dX0_hold_14 (by decide) (fun c_1 => ?_) (fun c_1 => ?_)
  · have hm := (if_pos c_1).symm.trans hm
    exact cw_X0_hold_19 fu C hret x1 x2 F G hm hw (lv_sub hl [0, 1, 2] rfl)
  · have hm := (if_neg c_1).symm.trans hm
    exact cw_X0_hold_17 fu C hret F G hm hw (lv_sub hl [] rfl)
theorem cn_X0_hold_4 (fu : Nat) {res : Int32 × PF × PG} (x1 : Int32) (x2 : Int32) (F : PF) (G : PG) (hm : cb_X0_hold_4 fu x1 x2 F G = some res) : xn F ≤ xn res.2.1 := by
  unfold cb_X0_hold_4 at hm
  by_cases c_1 : (16384 : Int32) ≤ x1
  · have hm := (if_pos c_1).symm.trans hm
    exact (cn_X0_hold_17 fu F G hm)
  · have hm := (if_neg c_1).symm.trans hm
    exact (cn_X0_hold_11 fu x1 x2 F G hm)
theorem cw_X0_hold_4 (fu : Nat) {res : Int32 × PF × PG} (C : cMC p R s m args c A v RX0 cX0_hold 3 0 0 (xn res.2.1 - xn K0)) (hret : ∀ (b1 : Nat) (H1 : Heap) (locs1 : List Loc) (ls1 : Array Slot) (pc : Nat), cMW s A v a b1 K0 res.2.1 res.2.2 H1 locs1 → narrow .boolean (.int res.1) = .int res.1 → decode cX0_hold pc = .ok (.ireturn, 1) → W p l e R s m args below meth c H1 locs1 (xn res.2.1 - xn K0) (2 * (xn res.2.1 - xn K0)) Q (F0 m pc ls1 [.int res.1])) (x1 : Int32) (x2 : Int32) (F : PF) (G : PG) (hm : cb_X0_hold_4 fu x1 x2 F G = some res) {b : Nat} {H : Heap} {locs : List Loc} (hw : cMW s A v a b K0 F G H locs) {ls : Array Slot} (hl : lv_has ls 3 [(0, .ref (a 200)), (1, .int x1), (2, .int x2)]) : W p l e R s m args below meth c H locs (xn F - xn K0) (2 * (xn F - xn K0)) Q (F0 m 4 ls []) := by
  have hx := C.1
  have hb := C.2.1
  unfold cb_X0_hold_4 at hm
  refine lv_iload_n hx hb dX0_hold_4 rfl (lv_at hl 1 rfl) ?_
  refine lv_sipush (v := 16384) hx hb dX0_hold_5 (by decide) ?_
  refine lv_icmp_ge (tgt := 17) hx hb dX0_hold_8 (by decide) (fun c_1 => ?_) (fun c_1 => ?_)
  · have hm := (if_pos c_1).symm.trans hm
    exact cw_X0_hold_17 fu C hret F G hm hw (lv_sub hl [] rfl)
  · have hm := (if_neg c_1).symm.trans hm
    exact cw_X0_hold_11 fu C hret x1 x2 F G hm hw (lv_sub hl [0, 1, 2] rfl)
theorem cn_X0_hold_0 (fu : Nat) {res : Int32 × PF × PG} (x1 : Int32) (x2 : Int32) (F : PF) (G : PG) (hm : cb_X0_hold_0 fu x1 x2 F G = some res) : xn F ≤ xn res.2.1 := by
  unfold cb_X0_hold_0 at hm
  by_cases c_1 : x1 < (0 : Int32)
  · have hm := (if_pos c_1).symm.trans hm
    exact (cn_X0_hold_17 fu F G hm)
  · have hm := (if_neg c_1).symm.trans hm
    exact (cn_X0_hold_4 fu x1 x2 F G hm)
theorem cw_X0_hold_0 (fu : Nat) {res : Int32 × PF × PG} (C : cMC p R s m args c A v RX0 cX0_hold 3 0 0 (xn res.2.1 - xn K0)) (hret : ∀ (b1 : Nat) (H1 : Heap) (locs1 : List Loc) (ls1 : Array Slot) (pc : Nat), cMW s A v a b1 K0 res.2.1 res.2.2 H1 locs1 → narrow .boolean (.int res.1) = .int res.1 → decode cX0_hold pc = .ok (.ireturn, 1) → W p l e R s m args below meth c H1 locs1 (xn res.2.1 - xn K0) (2 * (xn res.2.1 - xn K0)) Q (F0 m pc ls1 [.int res.1])) (x1 : Int32) (x2 : Int32) (F : PF) (G : PG) (hm : cb_X0_hold_0 fu x1 x2 F G = some res) {b : Nat} {H : Heap} {locs : List Loc} (hw : cMW s A v a b K0 F G H locs) {ls : Array Slot} (hl : lv_has ls 3 [(0, .ref (a 200)), (1, .int x1), (2, .int x2)]) : W p l e R s m args below meth c H locs (xn F - xn K0) (2 * (xn F - xn K0)) Q (F0 m 0 ls []) := by
  have hx := C.1
  have hb := C.2.1
  unfold cb_X0_hold_0 at hm
  refine lv_iload_n hx hb dX0_hold_0 rfl (lv_at hl 1 rfl) ?_
  refine lv_if_lt (tgt := 17) hx hb dX0_hold_1 (by decide) (fun c_1 => ?_) (fun c_1 => ?_)
  · have hm := (if_pos c_1).symm.trans hm
    exact cw_X0_hold_17 fu C hret F G hm hw (lv_sub hl [] rfl)
  · have hm := (if_neg c_1).symm.trans hm
    exact cw_X0_hold_4 fu C hret x1 x2 F G hm hw (lv_sub hl [0, 1, 2] rfl)
theorem cn_X0_hold (fu : Nat) (x1 : Int32) (x2 : Int32) (F : PF) (G : PG) (q : Int32 × PF × PG) (hm : cf_X0_hold fu x1 x2 F G = some q) : xn F ≤ xn q.2.1 := cn_X0_hold_0 fu x1 x2 F G hm
theorem ck_X0_hold (l : Launch) (v : EV) (a : Nat → Nat) (b sz : Nat) (fu : Nat) (x1 : Int32) (x2 : Int32) (F : PF) (G : PG) (r : Int32) (F1 : PF) (G1 : PG) (hm : cf_X0_hold fu x1 x2 F G = some (r, F1, G1)) : cMI l yX0_hold cX0_hold 3 (some .boolean) 0 0 v a b sz [.ref (a 200), .int x1, .int x2] F G r F1 G1 := cMI.of (ty := .boolean) (by decide) rfl (Nat.le_of_ble_eq_true rfl) (fun p e R s m args below meth c Q A H locs ls C hw hl hret => cw_X0_hold_0 fu (res := (r, F1, G1)) C hret x1 x2 F G hm hw hl)
def cb_X0_keep_17 (fu : Nat) (F : PF) (G : PG) : PR := some (0, F, G)
def cb_X0_keep_10 (fu : Nat) (x1 : Int32) (x2 : Int32) (F : PF) (G : PG) : PR := if ixb x1 32 = true then (cb_X0_keep_17 fu F (gup G 1 x1.toNatClampNeg x2)) else none
def cb_X0_keep_4 (fu : Nat) (x1 : Int32) (x2 : Int32) (F : PF) (G : PG) : PR := if (32 : Int32) ≤ x1 then cb_X0_keep_17 fu F G else cb_X0_keep_10 fu x1 x2 F G
def cb_X0_keep_0 (fu : Nat) (x1 : Int32) (x2 : Int32) (F : PF) (G : PG) : PR := if x1 ≤ (0 : Int32) then cb_X0_keep_17 fu F G else cb_X0_keep_4 fu x1 x2 F G
def cf_X0_keep (fu : Nat) (x1 : Int32) (x2 : Int32) (F : PF) (G : PG) : PR := cb_X0_keep_0 fu x1 x2 F G
theorem cn_X0_keep_17 (fu : Nat) {res : Int32 × PF × PG} (F : PF) (G : PG) (hm : cb_X0_keep_17 fu F G = some res) : xn F ≤ xn res.2.1 := by
  unfold cb_X0_keep_17 at hm
  obtain rfl := Option.some.inj hm
  exact Nat.le_refl _
theorem cw_X0_keep_17 (fu : Nat) {res : Int32 × PF × PG} (C : cMC p R s m args c A v RX0 cX0_keep 3 0 0 (xn res.2.1 - xn K0)) (hret : ∀ (b1 : Nat) (H1 : Heap) (locs1 : List Loc) (ls1 : Array Slot) (pc : Nat), cMW s A v a b1 K0 res.2.1 res.2.2 H1 locs1 → narrow .int (.int res.1) = .int res.1 → decode cX0_keep pc = .ok (.ireturn, 1) → W p l e R s m args below meth c H1 locs1 (xn res.2.1 - xn K0) (2 * (xn res.2.1 - xn K0)) Q (F0 m pc ls1 [.int res.1])) (F : PF) (G : PG) (hm : cb_X0_keep_17 fu F G = some res) {b : Nat} {H : Heap} {locs : List Loc} (hw : cMW s A v a b K0 F G H locs) {ls : Array Slot} (hl : lv_has ls 3 []) : W p l e R s m args below meth c H locs (xn F - xn K0) (2 * (xn F - xn K0)) Q (F0 m 17 ls []) := by
  have hx := C.1
  have hb := C.2.1
  unfold cb_X0_keep_17 at hm
  refine lv_iconst (v := 0) hx hb dX0_keep_17 (by decide) ?_
  obtain rfl := Option.some.inj hm
  exact hret _ _ _ _ _ hw rfl dX0_keep_18
theorem cn_X0_keep_10 (fu : Nat) {res : Int32 × PF × PG} (x1 : Int32) (x2 : Int32) (F : PF) (G : PG) (hm : cb_X0_keep_10 fu x1 x2 F G = some res) : xn F ≤ xn res.2.1 := by
  unfold cb_X0_keep_10 at hm
  have hm := (ix_elim hm).2
  exact (cn_X0_keep_17 fu F (gup G 1 x1.toNatClampNeg x2) hm)
theorem cw_X0_keep_10 (fu : Nat) {res : Int32 × PF × PG} (C : cMC p R s m args c A v RX0 cX0_keep 3 0 0 (xn res.2.1 - xn K0)) (hret : ∀ (b1 : Nat) (H1 : Heap) (locs1 : List Loc) (ls1 : Array Slot) (pc : Nat), cMW s A v a b1 K0 res.2.1 res.2.2 H1 locs1 → narrow .int (.int res.1) = .int res.1 → decode cX0_keep pc = .ok (.ireturn, 1) → W p l e R s m args below meth c H1 locs1 (xn res.2.1 - xn K0) (2 * (xn res.2.1 - xn K0)) Q (F0 m pc ls1 [.int res.1])) (x1 : Int32) (x2 : Int32) (F : PF) (G : PG) (hm : cb_X0_keep_10 fu x1 x2 F G = some res) {b : Nat} {H : Heap} {locs : List Loc} (hw : cMW s A v a b K0 F G H locs) {ls : Array Slot} (hl : lv_has ls 3 [(0, .ref (a 200)), (1, .int x1), (2, .int x2)]) : W p l e R s m args below meth c H locs (xn F - xn K0) (2 * (xn F - xn K0)) Q (F0 m 10 ls []) := by
  have hx := C.1
  have hb := C.2.1
  unfold cb_X0_keep_10 at hm
  refine lv_aload_n hx hb dX0_keep_10 rfl (lv_at hl 0 rfl) ?_
  refine cg_X0_15 C hw dX0_keep_11 ?_
  refine lv_iload_n hx hb dX0_keep_14 rfl (lv_at hl 1 rfl) ?_
  refine lv_iload_n hx hb dX0_keep_15 rfl (lv_at hl 2 rfl) ?_
  obtain ⟨hi, hm⟩ := ix_elim hm
  refine cas_1 C hw hi dX0_keep_16 (fun H locs hw => ?_)
  exact cw_X0_keep_17 fu C hret F (gup G 1 x1.toNatClampNeg x2) hm hw (lv_sub hl [] rfl)
theorem cn_X0_keep_4 (fu : Nat) {res : Int32 × PF × PG} (x1 : Int32) (x2 : Int32) (F : PF) (G : PG) (hm : cb_X0_keep_4 fu x1 x2 F G = some res) : xn F ≤ xn res.2.1 := by
  unfold cb_X0_keep_4 at hm
  by_cases c_1 : (32 : Int32) ≤ x1
  · have hm := (if_pos c_1).symm.trans hm
    exact (cn_X0_keep_17 fu F G hm)
  · have hm := (if_neg c_1).symm.trans hm
    exact (cn_X0_keep_10 fu x1 x2 F G hm)
theorem cw_X0_keep_4 (fu : Nat) {res : Int32 × PF × PG} (C : cMC p R s m args c A v RX0 cX0_keep 3 0 0 (xn res.2.1 - xn K0)) (hret : ∀ (b1 : Nat) (H1 : Heap) (locs1 : List Loc) (ls1 : Array Slot) (pc : Nat), cMW s A v a b1 K0 res.2.1 res.2.2 H1 locs1 → narrow .int (.int res.1) = .int res.1 → decode cX0_keep pc = .ok (.ireturn, 1) → W p l e R s m args below meth c H1 locs1 (xn res.2.1 - xn K0) (2 * (xn res.2.1 - xn K0)) Q (F0 m pc ls1 [.int res.1])) (x1 : Int32) (x2 : Int32) (F : PF) (G : PG) (hm : cb_X0_keep_4 fu x1 x2 F G = some res) {b : Nat} {H : Heap} {locs : List Loc} (hw : cMW s A v a b K0 F G H locs) {ls : Array Slot} (hl : lv_has ls 3 [(0, .ref (a 200)), (1, .int x1), (2, .int x2)]) : W p l e R s m args below meth c H locs (xn F - xn K0) (2 * (xn F - xn K0)) Q (F0 m 4 ls []) := by
  have hx := C.1
  have hb := C.2.1
  unfold cb_X0_keep_4 at hm
  refine lv_iload_n hx hb dX0_keep_4 rfl (lv_at hl 1 rfl) ?_
  refine lv_bipush (v := 32) hx hb dX0_keep_5 (by decide) ?_
  refine lv_icmp_ge (tgt := 17) hx hb dX0_keep_7 (by decide) (fun c_1 => ?_) (fun c_1 => ?_)
  · have hm := (if_pos c_1).symm.trans hm
    exact cw_X0_keep_17 fu C hret F G hm hw (lv_sub hl [] rfl)
  · have hm := (if_neg c_1).symm.trans hm
    exact cw_X0_keep_10 fu C hret x1 x2 F G hm hw (lv_sub hl [0, 1, 2] rfl)
theorem cn_X0_keep_0 (fu : Nat) {res : Int32 × PF × PG} (x1 : Int32) (x2 : Int32) (F : PF) (G : PG) (hm : cb_X0_keep_0 fu x1 x2 F G = some res) : xn F ≤ xn res.2.1 := by
  unfold cb_X0_keep_0 at hm
  by_cases c_1 : x1 ≤ (0 : Int32)
  · have hm := (if_pos c_1).symm.trans hm
    exact (cn_X0_keep_17 fu F G hm)
  · have hm := (if_neg c_1).symm.trans hm
    exact (cn_X0_keep_4 fu x1 x2 F G hm)
theorem cw_X0_keep_0 (fu : Nat) {res : Int32 × PF × PG} (C : cMC p R s m args c A v RX0 cX0_keep 3 0 0 (xn res.2.1 - xn K0)) (hret : ∀ (b1 : Nat) (H1 : Heap) (locs1 : List Loc) (ls1 : Array Slot) (pc : Nat), cMW s A v a b1 K0 res.2.1 res.2.2 H1 locs1 → narrow .int (.int res.1) = .int res.1 → decode cX0_keep pc = .ok (.ireturn, 1) → W p l e R s m args below meth c H1 locs1 (xn res.2.1 - xn K0) (2 * (xn res.2.1 - xn K0)) Q (F0 m pc ls1 [.int res.1])) (x1 : Int32) (x2 : Int32) (F : PF) (G : PG) (hm : cb_X0_keep_0 fu x1 x2 F G = some res) {b : Nat} {H : Heap} {locs : List Loc} (hw : cMW s A v a b K0 F G H locs) {ls : Array Slot} (hl : lv_has ls 3 [(0, .ref (a 200)), (1, .int x1), (2, .int x2)]) : W p l e R s m args below meth c H locs (xn F - xn K0) (2 * (xn F - xn K0)) Q (F0 m 0 ls []) := by
  have hx := C.1
  have hb := C.2.1
  unfold cb_X0_keep_0 at hm
  refine lv_iload_n hx hb dX0_keep_0 rfl (lv_at hl 1 rfl) ?_
  refine lv_if_le (tgt := 17) hx hb dX0_keep_1 (by decide) (fun c_1 => ?_) (fun c_1 => ?_)
  · have hm := (if_pos c_1).symm.trans hm
    exact cw_X0_keep_17 fu C hret F G hm hw (lv_sub hl [] rfl)
  · have hm := (if_neg c_1).symm.trans hm
    exact cw_X0_keep_4 fu C hret x1 x2 F G hm hw (lv_sub hl [0, 1, 2] rfl)
theorem cn_X0_keep (fu : Nat) (x1 : Int32) (x2 : Int32) (F : PF) (G : PG) (q : Int32 × PF × PG) (hm : cf_X0_keep fu x1 x2 F G = some q) : xn F ≤ xn q.2.1 := cn_X0_keep_0 fu x1 x2 F G hm
theorem ck_X0_keep (l : Launch) (v : EV) (a : Nat → Nat) (b sz : Nat) (fu : Nat) (x1 : Int32) (x2 : Int32) (F : PF) (G : PG) (r : Int32) (F1 : PF) (G1 : PG) (hm : cf_X0_keep fu x1 x2 F G = some (r, F1, G1)) : cMI l yX0_keep cX0_keep 3 (some .int) 0 0 v a b sz [.ref (a 200), .int x1, .int x2] F G r F1 G1 := cMI.of (ty := .int) (by decide) rfl (Nat.le_of_ble_eq_true rfl) (fun p e R s m args below meth c Q A H locs ls C hw hl hret => cw_X0_keep_0 fu (res := (r, F1, G1)) C hret x1 x2 F G hm hw hl)
def cb_X0_change_11 (fu : Nat) (F : PF) (G : PG) : PR := some (0, F, G)
def cb_X0_change_34 (fu : Nat) (F : PF) (G : PG) : PR := some (1, F, G)
def cb_X0_change_33 (fu : Nat) (z0 : Int32) (F : PF) (G : PG) : PR := cb_X0_change_34 fu F G
def cb_X0_change_27 (fu : Nat) (x1 : Int32) (x2 : Int32) (F : PF) (G : PG) : PR := (cf_X0_keep fu x1 x2 F G).bind (fun q => cb_X0_change_33 fu q.1 q.2.1 q.2.2)
def cb_X0_change_24 (fu : Nat) (F : PF) (G : PG) : PR := cb_X0_change_34 fu F G
def cb_X0_change_19 (fu : Nat) (x2 : Int32) (F : PF) (G : PG) : PR := cb_X0_change_24 fu (fup F 2 x2) G
def cb_X0_change_13 (fu : Nat) (x1 : Int32) (x2 : Int32) (F : PF) (G : PG) : PR := if x1 = (32 : Int32) then cb_X0_change_19 fu x2 F G else cb_X0_change_27 fu x1 x2 F G
def cb_X0_change_5 (fu : Nat) (x1 : Int32) (x2 : Int32) (F : PF) (G : PG) : PR := if x1 ≤ (32 : Int32) then cb_X0_change_13 fu x1 x2 F G else cb_X0_change_11 fu F G
def cb_X0_change_0 (fu : Nat) (x1 : Int32) (x2 : Int32) (F : PF) (G : PG) : PR := if x1 < (1 : Int32) then cb_X0_change_11 fu F G else cb_X0_change_5 fu x1 x2 F G
def cf_X0_change (fu : Nat) (x1 : Int32) (x2 : Int32) (F : PF) (G : PG) : PR := cb_X0_change_0 fu x1 x2 F G
theorem cn_X0_change_11 (fu : Nat) {res : Int32 × PF × PG} (F : PF) (G : PG) (hm : cb_X0_change_11 fu F G = some res) : xn F ≤ xn res.2.1 := by
  unfold cb_X0_change_11 at hm
  obtain rfl := Option.some.inj hm
  exact Nat.le_refl _
theorem cw_X0_change_11 (fu : Nat) {res : Int32 × PF × PG} (C : cMC p R s m args c A v RX0 cX0_change 3 1 22 (xn res.2.1 - xn K0)) (hret : ∀ (b1 : Nat) (H1 : Heap) (locs1 : List Loc) (ls1 : Array Slot) (pc : Nat), cMW s A v a b1 K0 res.2.1 res.2.2 H1 locs1 → narrow .boolean (.int res.1) = .int res.1 → decode cX0_change pc = .ok (.ireturn, 1) → W p l e R s m args below meth c H1 locs1 (xn res.2.1 - xn K0) (2 * (xn res.2.1 - xn K0)) Q (F0 m pc ls1 [.int res.1])) (F : PF) (G : PG) (hm : cb_X0_change_11 fu F G = some res) {b : Nat} {H : Heap} {locs : List Loc} (hw : cMW s A v a b K0 F G H locs) {ls : Array Slot} (hl : lv_has ls 3 []) : W p l e R s m args below meth c H locs (xn F - xn K0) (2 * (xn F - xn K0)) Q (F0 m 11 ls []) := by
  have hx := C.1
  have hb := C.2.1
  unfold cb_X0_change_11 at hm
  refine lv_iconst (v := 0) hx hb dX0_change_11 (by decide) ?_
  obtain rfl := Option.some.inj hm
  exact hret _ _ _ _ _ hw (b01_nar (v := 0) (Or.inl rfl)) dX0_change_12
theorem cn_X0_change_34 (fu : Nat) {res : Int32 × PF × PG} (F : PF) (G : PG) (hm : cb_X0_change_34 fu F G = some res) : xn F ≤ xn res.2.1 := by
  unfold cb_X0_change_34 at hm
  obtain rfl := Option.some.inj hm
  exact Nat.le_refl _
theorem cw_X0_change_34 (fu : Nat) {res : Int32 × PF × PG} (C : cMC p R s m args c A v RX0 cX0_change 3 1 22 (xn res.2.1 - xn K0)) (hret : ∀ (b1 : Nat) (H1 : Heap) (locs1 : List Loc) (ls1 : Array Slot) (pc : Nat), cMW s A v a b1 K0 res.2.1 res.2.2 H1 locs1 → narrow .boolean (.int res.1) = .int res.1 → decode cX0_change pc = .ok (.ireturn, 1) → W p l e R s m args below meth c H1 locs1 (xn res.2.1 - xn K0) (2 * (xn res.2.1 - xn K0)) Q (F0 m pc ls1 [.int res.1])) (F : PF) (G : PG) (hm : cb_X0_change_34 fu F G = some res) {b : Nat} {H : Heap} {locs : List Loc} (hw : cMW s A v a b K0 F G H locs) {ls : Array Slot} (hl : lv_has ls 3 []) : W p l e R s m args below meth c H locs (xn F - xn K0) (2 * (xn F - xn K0)) Q (F0 m 34 ls []) := by
  have hx := C.1
  have hb := C.2.1
  unfold cb_X0_change_34 at hm
  refine lv_iconst (v := 1) hx hb dX0_change_34 (by decide) ?_
  obtain rfl := Option.some.inj hm
  exact hret _ _ _ _ _ hw (b01_nar (v := 1) (Or.inr rfl)) dX0_change_35
theorem cn_X0_change_33 (fu : Nat) {res : Int32 × PF × PG} (z0 : Int32) (F : PF) (G : PG) (hm : cb_X0_change_33 fu z0 F G = some res) : xn F ≤ xn res.2.1 := by
  unfold cb_X0_change_33 at hm
  exact (cn_X0_change_34 fu F G hm)
theorem cw_X0_change_33 (fu : Nat) {res : Int32 × PF × PG} (C : cMC p R s m args c A v RX0 cX0_change 3 1 22 (xn res.2.1 - xn K0)) (hret : ∀ (b1 : Nat) (H1 : Heap) (locs1 : List Loc) (ls1 : Array Slot) (pc : Nat), cMW s A v a b1 K0 res.2.1 res.2.2 H1 locs1 → narrow .boolean (.int res.1) = .int res.1 → decode cX0_change pc = .ok (.ireturn, 1) → W p l e R s m args below meth c H1 locs1 (xn res.2.1 - xn K0) (2 * (xn res.2.1 - xn K0)) Q (F0 m pc ls1 [.int res.1])) (z0 : Int32) (F : PF) (G : PG) (hm : cb_X0_change_33 fu z0 F G = some res) {b : Nat} {H : Heap} {locs : List Loc} (hw : cMW s A v a b K0 F G H locs) {ls : Array Slot} (hl : lv_has ls 3 []) : W p l e R s m args below meth c H locs (xn F - xn K0) (2 * (xn F - xn K0)) Q (F0 m 33 ls [.int z0]) := by
  have hx := C.1
  have hb := C.2.1
  unfold cb_X0_change_33 at hm
  refine lv_pop hx hb dX0_change_33 rfl ?_
  exact cw_X0_change_34 fu C hret F G hm hw (lv_sub hl [] rfl)
theorem cn_X0_change_27 (fu : Nat) {res : Int32 × PF × PG} (x1 : Int32) (x2 : Int32) (F : PF) (G : PG) (hm : cb_X0_change_27 fu x1 x2 F G = some res) : xn F ≤ xn res.2.1 := by
  unfold cb_X0_change_27 at hm
  obtain ⟨⟨r1, F1, G1⟩, hc, hm⟩ := bind_elim hm
  exact Nat.le_trans (cn_X0_keep fu x1 x2 F G _ hc) (cn_X0_change_33 fu r1 F1 G1 hm)
theorem cw_X0_change_27 (fu : Nat) {res : Int32 × PF × PG} (C : cMC p R s m args c A v RX0 cX0_change 3 1 22 (xn res.2.1 - xn K0)) (hret : ∀ (b1 : Nat) (H1 : Heap) (locs1 : List Loc) (ls1 : Array Slot) (pc : Nat), cMW s A v a b1 K0 res.2.1 res.2.2 H1 locs1 → narrow .boolean (.int res.1) = .int res.1 → decode cX0_change pc = .ok (.ireturn, 1) → W p l e R s m args below meth c H1 locs1 (xn res.2.1 - xn K0) (2 * (xn res.2.1 - xn K0)) Q (F0 m pc ls1 [.int res.1])) (x1 : Int32) (x2 : Int32) (F : PF) (G : PG) (hm : cb_X0_change_27 fu x1 x2 F G = some res) {b : Nat} {H : Heap} {locs : List Loc} (hw : cMW s A v a b K0 F G H locs) {ls : Array Slot} (hl : lv_has ls 3 [(0, .ref (a 200)), (1, .int x1), (2, .int x2)]) : W p l e R s m args below meth c H locs (xn F - xn K0) (2 * (xn F - xn K0)) Q (F0 m 27 ls []) := by
  have hx := C.1
  have hb := C.2.1
  unfold cb_X0_change_27 at hm
  refine lv_aload_n hx hb dX0_change_27 rfl (lv_at hl 0 rfl) ?_
  refine lv_iload_n hx hb dX0_change_28 rfl (lv_at hl 1 rfl) ?_
  refine lv_iload_n hx hb dX0_change_29 rfl (lv_at hl 2 rfl) ?_
  obtain ⟨⟨r1, F1, G1⟩, hc, hm⟩ := bind_elim hm
  refine ccallI (n := 2) (As := [.int x1, .int x2]) (rest := []) C hw (ck_X0_keep l v a _ _ fu x1 x2 F G r1 F1 G1 hc) (cn_X0_keep fu x1 x2 F G _ hc) (Nat.sub_le_sub_right (cn_X0_change_33 fu r1 F1 G1 hm) _) (crecv_X0 C hw) cm_947 cm_948 cm_949 cm_938 cm_950 (by decide +kernel) rfl (by omega) (by omega) hl.1 rfl (Nat.le_of_ble_eq_true rfl) dX0_change_30 (fun b H locs hw => ?_)
  exact cw_X0_change_33 fu C hret r1 F1 G1 hm hw (lv_sub hl [] rfl)
theorem cn_X0_change_24 (fu : Nat) {res : Int32 × PF × PG} (F : PF) (G : PG) (hm : cb_X0_change_24 fu F G = some res) : xn F ≤ xn res.2.1 := by
  unfold cb_X0_change_24 at hm
  exact (cn_X0_change_34 fu F G hm)
theorem cw_X0_change_24 (fu : Nat) {res : Int32 × PF × PG} (C : cMC p R s m args c A v RX0 cX0_change 3 1 22 (xn res.2.1 - xn K0)) (hret : ∀ (b1 : Nat) (H1 : Heap) (locs1 : List Loc) (ls1 : Array Slot) (pc : Nat), cMW s A v a b1 K0 res.2.1 res.2.2 H1 locs1 → narrow .boolean (.int res.1) = .int res.1 → decode cX0_change pc = .ok (.ireturn, 1) → W p l e R s m args below meth c H1 locs1 (xn res.2.1 - xn K0) (2 * (xn res.2.1 - xn K0)) Q (F0 m pc ls1 [.int res.1])) (F : PF) (G : PG) (hm : cb_X0_change_24 fu F G = some res) {b : Nat} {H : Heap} {locs : List Loc} (hw : cMW s A v a b K0 F G H locs) {ls : Array Slot} (hl : lv_has ls 3 []) : W p l e R s m args below meth c H locs (xn F - xn K0) (2 * (xn F - xn K0)) Q (F0 m 24 ls []) := by
  have hx := C.1
  have hb := C.2.1
  unfold cb_X0_change_24 at hm
  refine lv_goto (tgt := 34) hx hb dX0_change_24 (by decide) ?_
  exact cw_X0_change_34 fu C hret F G hm hw (lv_sub hl [] rfl)
theorem cn_X0_change_19 (fu : Nat) {res : Int32 × PF × PG} (x2 : Int32) (F : PF) (G : PG) (hm : cb_X0_change_19 fu x2 F G = some res) : xn F ≤ xn res.2.1 := by
  unfold cb_X0_change_19 at hm
  exact Nat.le_trans (Nat.le_of_eq (xn_fup (by decide)).symm) (cn_X0_change_24 fu (fup F 2 x2) G hm)
theorem cw_X0_change_19 (fu : Nat) {res : Int32 × PF × PG} (C : cMC p R s m args c A v RX0 cX0_change 3 1 22 (xn res.2.1 - xn K0)) (hret : ∀ (b1 : Nat) (H1 : Heap) (locs1 : List Loc) (ls1 : Array Slot) (pc : Nat), cMW s A v a b1 K0 res.2.1 res.2.2 H1 locs1 → narrow .boolean (.int res.1) = .int res.1 → decode cX0_change pc = .ok (.ireturn, 1) → W p l e R s m args below meth c H1 locs1 (xn res.2.1 - xn K0) (2 * (xn res.2.1 - xn K0)) Q (F0 m pc ls1 [.int res.1])) (x2 : Int32) (F : PF) (G : PG) (hm : cb_X0_change_19 fu x2 F G = some res) {b : Nat} {H : Heap} {locs : List Loc} (hw : cMW s A v a b K0 F G H locs) {ls : Array Slot} (hl : lv_has ls 3 [(0, .ref (a 200)), (2, .int x2)]) : W p l e R s m args below meth c H locs (xn F - xn K0) (2 * (xn F - xn K0)) Q (F0 m 19 ls []) := by
  have hx := C.1
  have hb := C.2.1
  unfold cb_X0_change_19 at hm
  refine lv_aload_n hx hb dX0_change_19 rfl (lv_at hl 0 rfl) ?_
  refine lv_iload_n hx hb dX0_change_20 rfl (lv_at hl 1 rfl) ?_
  refine cp_X0_18 C hw dX0_change_21 (fun H locs hw => ?_)
  exact cw_X0_change_24 fu C hret (fup F 2 x2) G hm hw (lv_sub hl [] rfl)
theorem cn_X0_change_13 (fu : Nat) {res : Int32 × PF × PG} (x1 : Int32) (x2 : Int32) (F : PF) (G : PG) (hm : cb_X0_change_13 fu x1 x2 F G = some res) : xn F ≤ xn res.2.1 := by
  unfold cb_X0_change_13 at hm
  by_cases c_1 : x1 = (32 : Int32)
  · have hm := (if_pos c_1).symm.trans hm
    exact (cn_X0_change_19 fu x2 F G hm)
  · have hm := (if_neg c_1).symm.trans hm
    exact (cn_X0_change_27 fu x1 x2 F G hm)
theorem cw_X0_change_13 (fu : Nat) {res : Int32 × PF × PG} (C : cMC p R s m args c A v RX0 cX0_change 3 1 22 (xn res.2.1 - xn K0)) (hret : ∀ (b1 : Nat) (H1 : Heap) (locs1 : List Loc) (ls1 : Array Slot) (pc : Nat), cMW s A v a b1 K0 res.2.1 res.2.2 H1 locs1 → narrow .boolean (.int res.1) = .int res.1 → decode cX0_change pc = .ok (.ireturn, 1) → W p l e R s m args below meth c H1 locs1 (xn res.2.1 - xn K0) (2 * (xn res.2.1 - xn K0)) Q (F0 m pc ls1 [.int res.1])) (x1 : Int32) (x2 : Int32) (F : PF) (G : PG) (hm : cb_X0_change_13 fu x1 x2 F G = some res) {b : Nat} {H : Heap} {locs : List Loc} (hw : cMW s A v a b K0 F G H locs) {ls : Array Slot} (hl : lv_has ls 3 [(0, .ref (a 200)), (1, .int x1), (2, .int x2)]) : W p l e R s m args below meth c H locs (xn F - xn K0) (2 * (xn F - xn K0)) Q (F0 m 13 ls []) := by
  have hx := C.1
  have hb := C.2.1
  unfold cb_X0_change_13 at hm
  refine lv_iload_n hx hb dX0_change_13 rfl (lv_at hl 1 rfl) ?_
  refine lv_bipush (v := 32) hx hb dX0_change_14 (by decide) ?_
  refine lv_icmp_ne (tgt := 27) hx hb dX0_change_16 (by decide) (fun c_1 => ?_) (fun c_1 => ?_)
  · have hm := (if_neg c_1).symm.trans hm
    exact cw_X0_change_27 fu C hret x1 x2 F G hm hw (lv_sub hl [0, 1, 2] rfl)
  · have hm := (if_pos c_1).symm.trans hm
    exact cw_X0_change_19 fu C hret x2 F G hm hw (lv_sub hl [0, 2] rfl)
theorem cn_X0_change_5 (fu : Nat) {res : Int32 × PF × PG} (x1 : Int32) (x2 : Int32) (F : PF) (G : PG) (hm : cb_X0_change_5 fu x1 x2 F G = some res) : xn F ≤ xn res.2.1 := by
  unfold cb_X0_change_5 at hm
  by_cases c_1 : x1 ≤ (32 : Int32)
  · have hm := (if_pos c_1).symm.trans hm
    exact (cn_X0_change_13 fu x1 x2 F G hm)
  · have hm := (if_neg c_1).symm.trans hm
    exact (cn_X0_change_11 fu F G hm)
theorem cw_X0_change_5 (fu : Nat) {res : Int32 × PF × PG} (C : cMC p R s m args c A v RX0 cX0_change 3 1 22 (xn res.2.1 - xn K0)) (hret : ∀ (b1 : Nat) (H1 : Heap) (locs1 : List Loc) (ls1 : Array Slot) (pc : Nat), cMW s A v a b1 K0 res.2.1 res.2.2 H1 locs1 → narrow .boolean (.int res.1) = .int res.1 → decode cX0_change pc = .ok (.ireturn, 1) → W p l e R s m args below meth c H1 locs1 (xn res.2.1 - xn K0) (2 * (xn res.2.1 - xn K0)) Q (F0 m pc ls1 [.int res.1])) (x1 : Int32) (x2 : Int32) (F : PF) (G : PG) (hm : cb_X0_change_5 fu x1 x2 F G = some res) {b : Nat} {H : Heap} {locs : List Loc} (hw : cMW s A v a b K0 F G H locs) {ls : Array Slot} (hl : lv_has ls 3 [(0, .ref (a 200)), (1, .int x1), (2, .int x2)]) : W p l e R s m args below meth c H locs (xn F - xn K0) (2 * (xn F - xn K0)) Q (F0 m 5 ls []) := by
  have hx := C.1
  have hb := C.2.1
  unfold cb_X0_change_5 at hm
  refine lv_iload_n hx hb dX0_change_5 rfl (lv_at hl 1 rfl) ?_
  refine lv_bipush (v := 32) hx hb dX0_change_6 (by decide) ?_
  refine lv_icmp_le (tgt := 13) hx hb dX0_change_8 (by decide) (fun c_1 => ?_) (fun c_1 => ?_)
  · have hm := (if_pos c_1).symm.trans hm
    exact cw_X0_change_13 fu C hret x1 x2 F G hm hw (lv_sub hl [0, 1, 2] rfl)
  · have hm := (if_neg c_1).symm.trans hm
    exact cw_X0_change_11 fu C hret F G hm hw (lv_sub hl [] rfl)
theorem cn_X0_change_0 (fu : Nat) {res : Int32 × PF × PG} (x1 : Int32) (x2 : Int32) (F : PF) (G : PG) (hm : cb_X0_change_0 fu x1 x2 F G = some res) : xn F ≤ xn res.2.1 := by
  unfold cb_X0_change_0 at hm
  by_cases c_1 : x1 < (1 : Int32)
  · have hm := (if_pos c_1).symm.trans hm
    exact (cn_X0_change_11 fu F G hm)
  · have hm := (if_neg c_1).symm.trans hm
    exact (cn_X0_change_5 fu x1 x2 F G hm)
theorem cw_X0_change_0 (fu : Nat) {res : Int32 × PF × PG} (C : cMC p R s m args c A v RX0 cX0_change 3 1 22 (xn res.2.1 - xn K0)) (hret : ∀ (b1 : Nat) (H1 : Heap) (locs1 : List Loc) (ls1 : Array Slot) (pc : Nat), cMW s A v a b1 K0 res.2.1 res.2.2 H1 locs1 → narrow .boolean (.int res.1) = .int res.1 → decode cX0_change pc = .ok (.ireturn, 1) → W p l e R s m args below meth c H1 locs1 (xn res.2.1 - xn K0) (2 * (xn res.2.1 - xn K0)) Q (F0 m pc ls1 [.int res.1])) (x1 : Int32) (x2 : Int32) (F : PF) (G : PG) (hm : cb_X0_change_0 fu x1 x2 F G = some res) {b : Nat} {H : Heap} {locs : List Loc} (hw : cMW s A v a b K0 F G H locs) {ls : Array Slot} (hl : lv_has ls 3 [(0, .ref (a 200)), (1, .int x1), (2, .int x2)]) : W p l e R s m args below meth c H locs (xn F - xn K0) (2 * (xn F - xn K0)) Q (F0 m 0 ls []) := by
  have hx := C.1
  have hb := C.2.1
  unfold cb_X0_change_0 at hm
  refine lv_iload_n hx hb dX0_change_0 rfl (lv_at hl 1 rfl) ?_
  refine lv_iconst (v := 1) hx hb dX0_change_1 (by decide) ?_
  refine lv_icmp_lt (tgt := 11) hx hb dX0_change_2 (by decide) (fun c_1 => ?_) (fun c_1 => ?_)
  · have hm := (if_pos c_1).symm.trans hm
    exact cw_X0_change_11 fu C hret F G hm hw (lv_sub hl [] rfl)
  · have hm := (if_neg c_1).symm.trans hm
    exact cw_X0_change_5 fu C hret x1 x2 F G hm hw (lv_sub hl [0, 1, 2] rfl)
theorem cn_X0_change (fu : Nat) (x1 : Int32) (x2 : Int32) (F : PF) (G : PG) (q : Int32 × PF × PG) (hm : cf_X0_change fu x1 x2 F G = some q) : xn F ≤ xn q.2.1 := cn_X0_change_0 fu x1 x2 F G hm
theorem ck_X0_change (l : Launch) (v : EV) (a : Nat → Nat) (b sz : Nat) (fu : Nat) (x1 : Int32) (x2 : Int32) (F : PF) (G : PG) (r : Int32) (F1 : PF) (G1 : PG) (hm : cf_X0_change fu x1 x2 F G = some (r, F1, G1)) : cMI l yX0_change cX0_change 3 (some .boolean) 1 22 v a b sz [.ref (a 200), .int x1, .int x2] F G r F1 G1 := cMI.of (ty := .boolean) (by decide) rfl (Nat.le_of_ble_eq_true rfl) (fun p e R s m args below meth c Q A H locs ls C hw hl hret => cw_X0_change_0 fu (res := (r, F1, G1)) C hret x1 x2 F G hm hw hl)
def cb_X0_shown_65 (fu : Nat) (z0 : Int32) (F : PF) (G : PG) : PR := some (z0, F, G)
def cb_X0_shown_64 (fu : Nat) (F : PF) (G : PG) : PR := cb_X0_shown_65 fu (-1) F G
def cb_X0_shown_52 (fu : Nat) (x1 : Int32) (F : PF) (G : PG) : PR := if ixb (x1 - (100 : Int32)) 4096 = true then (cb_X0_shown_65 fu (G 0 (x1 - (100 : Int32)).toNatClampNeg) F G) else none
def cb_X0_shown_45 (fu : Nat) (x1 : Int32) (F : PF) (G : PG) : PR := if (4196 : Int32) ≤ x1 then cb_X0_shown_64 fu F G else cb_X0_shown_52 fu x1 F G
def cb_X0_shown_39 (fu : Nat) (x1 : Int32) (F : PF) (G : PG) : PR := if x1 < (100 : Int32) then cb_X0_shown_64 fu F G else cb_X0_shown_45 fu x1 F G
def cb_X0_shown_34 (fu : Nat) (F : PF) (G : PG) : PR := some ((F 3), F, G)
def cb_X0_shown_28 (fu : Nat) (x1 : Int32) (F : PF) (G : PG) : PR := if x1 = (33 : Int32) then cb_X0_shown_34 fu F G else cb_X0_shown_39 fu x1 F G
def cb_X0_shown_23 (fu : Nat) (F : PF) (G : PG) : PR := some ((F 2), F, G)
def cb_X0_shown_17 (fu : Nat) (x1 : Int32) (F : PF) (G : PG) : PR := if x1 = (32 : Int32) then cb_X0_shown_23 fu F G else cb_X0_shown_28 fu x1 F G
def cb_X0_shown_10 (fu : Nat) (x1 : Int32) (F : PF) (G : PG) : PR := if ixb x1 32 = true then (some ((G 1 x1.toNatClampNeg), F, G)) else none
def cb_X0_shown_4 (fu : Nat) (x1 : Int32) (F : PF) (G : PG) : PR := if (32 : Int32) ≤ x1 then cb_X0_shown_17 fu x1 F G else cb_X0_shown_10 fu x1 F G
def cb_X0_shown_0 (fu : Nat) (x1 : Int32) (F : PF) (G : PG) : PR := if x1 < (0 : Int32) then cb_X0_shown_17 fu x1 F G else cb_X0_shown_4 fu x1 F G
def cf_X0_shown (fu : Nat) (x1 : Int32) (F : PF) (G : PG) : PR := cb_X0_shown_0 fu x1 F G
theorem cn_X0_shown_65 (fu : Nat) {res : Int32 × PF × PG} (z0 : Int32) (F : PF) (G : PG) (hm : cb_X0_shown_65 fu z0 F G = some res) : xn F ≤ xn res.2.1 := by
  unfold cb_X0_shown_65 at hm
  obtain rfl := Option.some.inj hm
  exact Nat.le_refl _
theorem cw_X0_shown_65 (fu : Nat) {res : Int32 × PF × PG} (C : cMC p R s m args c A v RX0 cX0_shown 2 0 0 (xn res.2.1 - xn K0)) (hret : ∀ (b1 : Nat) (H1 : Heap) (locs1 : List Loc) (ls1 : Array Slot) (pc : Nat), cMW s A v a b1 K0 res.2.1 res.2.2 H1 locs1 → narrow .int (.int res.1) = .int res.1 → decode cX0_shown pc = .ok (.ireturn, 1) → W p l e R s m args below meth c H1 locs1 (xn res.2.1 - xn K0) (2 * (xn res.2.1 - xn K0)) Q (F0 m pc ls1 [.int res.1])) (z0 : Int32) (F : PF) (G : PG) (hm : cb_X0_shown_65 fu z0 F G = some res) {b : Nat} {H : Heap} {locs : List Loc} (hw : cMW s A v a b K0 F G H locs) {ls : Array Slot} (hl : lv_has ls 2 []) : W p l e R s m args below meth c H locs (xn F - xn K0) (2 * (xn F - xn K0)) Q (F0 m 65 ls [.int z0]) := by
  have hx := C.1
  have hb := C.2.1
  unfold cb_X0_shown_65 at hm
  obtain rfl := Option.some.inj hm
  exact hret _ _ _ _ _ hw rfl dX0_shown_65
theorem cn_X0_shown_64 (fu : Nat) {res : Int32 × PF × PG} (F : PF) (G : PG) (hm : cb_X0_shown_64 fu F G = some res) : xn F ≤ xn res.2.1 := by
  unfold cb_X0_shown_64 at hm
  exact (cn_X0_shown_65 fu (-1) F G hm)
theorem cw_X0_shown_64 (fu : Nat) {res : Int32 × PF × PG} (C : cMC p R s m args c A v RX0 cX0_shown 2 0 0 (xn res.2.1 - xn K0)) (hret : ∀ (b1 : Nat) (H1 : Heap) (locs1 : List Loc) (ls1 : Array Slot) (pc : Nat), cMW s A v a b1 K0 res.2.1 res.2.2 H1 locs1 → narrow .int (.int res.1) = .int res.1 → decode cX0_shown pc = .ok (.ireturn, 1) → W p l e R s m args below meth c H1 locs1 (xn res.2.1 - xn K0) (2 * (xn res.2.1 - xn K0)) Q (F0 m pc ls1 [.int res.1])) (F : PF) (G : PG) (hm : cb_X0_shown_64 fu F G = some res) {b : Nat} {H : Heap} {locs : List Loc} (hw : cMW s A v a b K0 F G H locs) {ls : Array Slot} (hl : lv_has ls 2 []) : W p l e R s m args below meth c H locs (xn F - xn K0) (2 * (xn F - xn K0)) Q (F0 m 64 ls []) := by
  have hx := C.1
  have hb := C.2.1
  unfold cb_X0_shown_64 at hm
  refine lv_iconst (v := (-1)) hx hb dX0_shown_64 (by decide) ?_
  exact cw_X0_shown_65 fu C hret (-1) F G hm hw (lv_sub hl [] rfl)
theorem cn_X0_shown_52 (fu : Nat) {res : Int32 × PF × PG} (x1 : Int32) (F : PF) (G : PG) (hm : cb_X0_shown_52 fu x1 F G = some res) : xn F ≤ xn res.2.1 := by
  unfold cb_X0_shown_52 at hm
  have hm := (ix_elim hm).2
  exact (cn_X0_shown_65 fu (G 0 (x1 - (100 : Int32)).toNatClampNeg) F G hm)
theorem cw_X0_shown_52 (fu : Nat) {res : Int32 × PF × PG} (C : cMC p R s m args c A v RX0 cX0_shown 2 0 0 (xn res.2.1 - xn K0)) (hret : ∀ (b1 : Nat) (H1 : Heap) (locs1 : List Loc) (ls1 : Array Slot) (pc : Nat), cMW s A v a b1 K0 res.2.1 res.2.2 H1 locs1 → narrow .int (.int res.1) = .int res.1 → decode cX0_shown pc = .ok (.ireturn, 1) → W p l e R s m args below meth c H1 locs1 (xn res.2.1 - xn K0) (2 * (xn res.2.1 - xn K0)) Q (F0 m pc ls1 [.int res.1])) (x1 : Int32) (F : PF) (G : PG) (hm : cb_X0_shown_52 fu x1 F G = some res) {b : Nat} {H : Heap} {locs : List Loc} (hw : cMW s A v a b K0 F G H locs) {ls : Array Slot} (hl : lv_has ls 2 [(0, .ref (a 200)), (1, .int x1)]) : W p l e R s m args below meth c H locs (xn F - xn K0) (2 * (xn F - xn K0)) Q (F0 m 52 ls []) := by
  have hx := C.1
  have hb := C.2.1
  unfold cb_X0_shown_52 at hm
  refine lv_aload_n hx hb dX0_shown_52 rfl (lv_at hl 0 rfl) ?_
  refine cg_X0_11 C hw dX0_shown_53 ?_
  refine lv_iload_n hx hb dX0_shown_56 rfl (lv_at hl 1 rfl) ?_
  refine lv_bipush (v := 100) hx hb dX0_shown_57 (by decide) ?_
  refine lv_isub hx hb dX0_shown_59 ?_
  obtain ⟨hi, hm⟩ := ix_elim hm
  refine cal_0 C hw hi dX0_shown_60 ?_
  refine lv_goto (tgt := 65) hx hb dX0_shown_61 (by decide) ?_
  exact cw_X0_shown_65 fu C hret (G 0 (x1 - (100 : Int32)).toNatClampNeg) F G hm hw (lv_sub hl [] rfl)
theorem cn_X0_shown_45 (fu : Nat) {res : Int32 × PF × PG} (x1 : Int32) (F : PF) (G : PG) (hm : cb_X0_shown_45 fu x1 F G = some res) : xn F ≤ xn res.2.1 := by
  unfold cb_X0_shown_45 at hm
  by_cases c_1 : (4196 : Int32) ≤ x1
  · have hm := (if_pos c_1).symm.trans hm
    exact (cn_X0_shown_64 fu F G hm)
  · have hm := (if_neg c_1).symm.trans hm
    exact (cn_X0_shown_52 fu x1 F G hm)
theorem cw_X0_shown_45 (fu : Nat) {res : Int32 × PF × PG} (C : cMC p R s m args c A v RX0 cX0_shown 2 0 0 (xn res.2.1 - xn K0)) (hret : ∀ (b1 : Nat) (H1 : Heap) (locs1 : List Loc) (ls1 : Array Slot) (pc : Nat), cMW s A v a b1 K0 res.2.1 res.2.2 H1 locs1 → narrow .int (.int res.1) = .int res.1 → decode cX0_shown pc = .ok (.ireturn, 1) → W p l e R s m args below meth c H1 locs1 (xn res.2.1 - xn K0) (2 * (xn res.2.1 - xn K0)) Q (F0 m pc ls1 [.int res.1])) (x1 : Int32) (F : PF) (G : PG) (hm : cb_X0_shown_45 fu x1 F G = some res) {b : Nat} {H : Heap} {locs : List Loc} (hw : cMW s A v a b K0 F G H locs) {ls : Array Slot} (hl : lv_has ls 2 [(0, .ref (a 200)), (1, .int x1)]) : W p l e R s m args below meth c H locs (xn F - xn K0) (2 * (xn F - xn K0)) Q (F0 m 45 ls []) := by
  have hx := C.1
  have hb := C.2.1
  unfold cb_X0_shown_45 at hm
  refine lv_iload_n hx hb dX0_shown_45 rfl (lv_at hl 1 rfl) ?_
  refine lv_sipush (v := 4196) hx hb dX0_shown_46 (by decide) ?_
  refine lv_icmp_ge (tgt := 64) hx hb dX0_shown_49 (by decide) (fun c_1 => ?_) (fun c_1 => ?_)
  · have hm := (if_pos c_1).symm.trans hm
    exact cw_X0_shown_64 fu C hret F G hm hw (lv_sub hl [] rfl)
  · have hm := (if_neg c_1).symm.trans hm
    exact cw_X0_shown_52 fu C hret x1 F G hm hw (lv_sub hl [0, 1] rfl)
theorem cn_X0_shown_39 (fu : Nat) {res : Int32 × PF × PG} (x1 : Int32) (F : PF) (G : PG) (hm : cb_X0_shown_39 fu x1 F G = some res) : xn F ≤ xn res.2.1 := by
  unfold cb_X0_shown_39 at hm
  by_cases c_1 : x1 < (100 : Int32)
  · have hm := (if_pos c_1).symm.trans hm
    exact (cn_X0_shown_64 fu F G hm)
  · have hm := (if_neg c_1).symm.trans hm
    exact (cn_X0_shown_45 fu x1 F G hm)
theorem cw_X0_shown_39 (fu : Nat) {res : Int32 × PF × PG} (C : cMC p R s m args c A v RX0 cX0_shown 2 0 0 (xn res.2.1 - xn K0)) (hret : ∀ (b1 : Nat) (H1 : Heap) (locs1 : List Loc) (ls1 : Array Slot) (pc : Nat), cMW s A v a b1 K0 res.2.1 res.2.2 H1 locs1 → narrow .int (.int res.1) = .int res.1 → decode cX0_shown pc = .ok (.ireturn, 1) → W p l e R s m args below meth c H1 locs1 (xn res.2.1 - xn K0) (2 * (xn res.2.1 - xn K0)) Q (F0 m pc ls1 [.int res.1])) (x1 : Int32) (F : PF) (G : PG) (hm : cb_X0_shown_39 fu x1 F G = some res) {b : Nat} {H : Heap} {locs : List Loc} (hw : cMW s A v a b K0 F G H locs) {ls : Array Slot} (hl : lv_has ls 2 [(0, .ref (a 200)), (1, .int x1)]) : W p l e R s m args below meth c H locs (xn F - xn K0) (2 * (xn F - xn K0)) Q (F0 m 39 ls []) := by
  have hx := C.1
  have hb := C.2.1
  unfold cb_X0_shown_39 at hm
  refine lv_iload_n hx hb dX0_shown_39 rfl (lv_at hl 1 rfl) ?_
  refine lv_bipush (v := 100) hx hb dX0_shown_40 (by decide) ?_
  refine lv_icmp_lt (tgt := 64) hx hb dX0_shown_42 (by decide) (fun c_1 => ?_) (fun c_1 => ?_)
  · have hm := (if_pos c_1).symm.trans hm
    exact cw_X0_shown_64 fu C hret F G hm hw (lv_sub hl [] rfl)
  · have hm := (if_neg c_1).symm.trans hm
    exact cw_X0_shown_45 fu C hret x1 F G hm hw (lv_sub hl [0, 1] rfl)
theorem cn_X0_shown_34 (fu : Nat) {res : Int32 × PF × PG} (F : PF) (G : PG) (hm : cb_X0_shown_34 fu F G = some res) : xn F ≤ xn res.2.1 := by
  unfold cb_X0_shown_34 at hm
  obtain rfl := Option.some.inj hm
  exact Nat.le_refl _
theorem cw_X0_shown_34 (fu : Nat) {res : Int32 × PF × PG} (C : cMC p R s m args c A v RX0 cX0_shown 2 0 0 (xn res.2.1 - xn K0)) (hret : ∀ (b1 : Nat) (H1 : Heap) (locs1 : List Loc) (ls1 : Array Slot) (pc : Nat), cMW s A v a b1 K0 res.2.1 res.2.2 H1 locs1 → narrow .int (.int res.1) = .int res.1 → decode cX0_shown pc = .ok (.ireturn, 1) → W p l e R s m args below meth c H1 locs1 (xn res.2.1 - xn K0) (2 * (xn res.2.1 - xn K0)) Q (F0 m pc ls1 [.int res.1])) (F : PF) (G : PG) (hm : cb_X0_shown_34 fu F G = some res) {b : Nat} {H : Heap} {locs : List Loc} (hw : cMW s A v a b K0 F G H locs) {ls : Array Slot} (hl : lv_has ls 2 [(0, .ref (a 200))]) : W p l e R s m args below meth c H locs (xn F - xn K0) (2 * (xn F - xn K0)) Q (F0 m 34 ls []) := by
  have hx := C.1
  have hb := C.2.1
  unfold cb_X0_shown_34 at hm
  refine lv_aload_n hx hb dX0_shown_34 rfl (lv_at hl 0 rfl) ?_
  refine cg_X0_26 C hw dX0_shown_35 ?_
  obtain rfl := Option.some.inj hm
  exact hret _ _ _ _ _ hw rfl dX0_shown_38
theorem cn_X0_shown_28 (fu : Nat) {res : Int32 × PF × PG} (x1 : Int32) (F : PF) (G : PG) (hm : cb_X0_shown_28 fu x1 F G = some res) : xn F ≤ xn res.2.1 := by
  unfold cb_X0_shown_28 at hm
  by_cases c_1 : x1 = (33 : Int32)
  · have hm := (if_pos c_1).symm.trans hm
    exact (cn_X0_shown_34 fu F G hm)
  · have hm := (if_neg c_1).symm.trans hm
    exact (cn_X0_shown_39 fu x1 F G hm)
theorem cw_X0_shown_28 (fu : Nat) {res : Int32 × PF × PG} (C : cMC p R s m args c A v RX0 cX0_shown 2 0 0 (xn res.2.1 - xn K0)) (hret : ∀ (b1 : Nat) (H1 : Heap) (locs1 : List Loc) (ls1 : Array Slot) (pc : Nat), cMW s A v a b1 K0 res.2.1 res.2.2 H1 locs1 → narrow .int (.int res.1) = .int res.1 → decode cX0_shown pc = .ok (.ireturn, 1) → W p l e R s m args below meth c H1 locs1 (xn res.2.1 - xn K0) (2 * (xn res.2.1 - xn K0)) Q (F0 m pc ls1 [.int res.1])) (x1 : Int32) (F : PF) (G : PG) (hm : cb_X0_shown_28 fu x1 F G = some res) {b : Nat} {H : Heap} {locs : List Loc} (hw : cMW s A v a b K0 F G H locs) {ls : Array Slot} (hl : lv_has ls 2 [(0, .ref (a 200)), (1, .int x1)]) : W p l e R s m args below meth c H locs (xn F - xn K0) (2 * (xn F - xn K0)) Q (F0 m 28 ls []) := by
  have hx := C.1
  have hb := C.2.1
  unfold cb_X0_shown_28 at hm
  refine lv_iload_n hx hb dX0_shown_28 rfl (lv_at hl 1 rfl) ?_
  refine lv_bipush (v := 33) hx hb dX0_shown_29 (by decide) ?_
  refine lv_icmp_ne (tgt := 39) hx hb dX0_shown_31 (by decide) (fun c_1 => ?_) (fun c_1 => ?_)
  · have hm := (if_neg c_1).symm.trans hm
    exact cw_X0_shown_39 fu C hret x1 F G hm hw (lv_sub hl [0, 1] rfl)
  · have hm := (if_pos c_1).symm.trans hm
    exact cw_X0_shown_34 fu C hret F G hm hw (lv_sub hl [0] rfl)
theorem cn_X0_shown_23 (fu : Nat) {res : Int32 × PF × PG} (F : PF) (G : PG) (hm : cb_X0_shown_23 fu F G = some res) : xn F ≤ xn res.2.1 := by
  unfold cb_X0_shown_23 at hm
  obtain rfl := Option.some.inj hm
  exact Nat.le_refl _
theorem cw_X0_shown_23 (fu : Nat) {res : Int32 × PF × PG} (C : cMC p R s m args c A v RX0 cX0_shown 2 0 0 (xn res.2.1 - xn K0)) (hret : ∀ (b1 : Nat) (H1 : Heap) (locs1 : List Loc) (ls1 : Array Slot) (pc : Nat), cMW s A v a b1 K0 res.2.1 res.2.2 H1 locs1 → narrow .int (.int res.1) = .int res.1 → decode cX0_shown pc = .ok (.ireturn, 1) → W p l e R s m args below meth c H1 locs1 (xn res.2.1 - xn K0) (2 * (xn res.2.1 - xn K0)) Q (F0 m pc ls1 [.int res.1])) (F : PF) (G : PG) (hm : cb_X0_shown_23 fu F G = some res) {b : Nat} {H : Heap} {locs : List Loc} (hw : cMW s A v a b K0 F G H locs) {ls : Array Slot} (hl : lv_has ls 2 [(0, .ref (a 200))]) : W p l e R s m args below meth c H locs (xn F - xn K0) (2 * (xn F - xn K0)) Q (F0 m 23 ls []) := by
  have hx := C.1
  have hb := C.2.1
  unfold cb_X0_shown_23 at hm
  refine lv_aload_n hx hb dX0_shown_23 rfl (lv_at hl 0 rfl) ?_
  refine cg_X0_18 C hw dX0_shown_24 ?_
  obtain rfl := Option.some.inj hm
  exact hret _ _ _ _ _ hw rfl dX0_shown_27
theorem cn_X0_shown_17 (fu : Nat) {res : Int32 × PF × PG} (x1 : Int32) (F : PF) (G : PG) (hm : cb_X0_shown_17 fu x1 F G = some res) : xn F ≤ xn res.2.1 := by
  unfold cb_X0_shown_17 at hm
  by_cases c_1 : x1 = (32 : Int32)
  · have hm := (if_pos c_1).symm.trans hm
    exact (cn_X0_shown_23 fu F G hm)
  · have hm := (if_neg c_1).symm.trans hm
    exact (cn_X0_shown_28 fu x1 F G hm)
theorem cw_X0_shown_17 (fu : Nat) {res : Int32 × PF × PG} (C : cMC p R s m args c A v RX0 cX0_shown 2 0 0 (xn res.2.1 - xn K0)) (hret : ∀ (b1 : Nat) (H1 : Heap) (locs1 : List Loc) (ls1 : Array Slot) (pc : Nat), cMW s A v a b1 K0 res.2.1 res.2.2 H1 locs1 → narrow .int (.int res.1) = .int res.1 → decode cX0_shown pc = .ok (.ireturn, 1) → W p l e R s m args below meth c H1 locs1 (xn res.2.1 - xn K0) (2 * (xn res.2.1 - xn K0)) Q (F0 m pc ls1 [.int res.1])) (x1 : Int32) (F : PF) (G : PG) (hm : cb_X0_shown_17 fu x1 F G = some res) {b : Nat} {H : Heap} {locs : List Loc} (hw : cMW s A v a b K0 F G H locs) {ls : Array Slot} (hl : lv_has ls 2 [(0, .ref (a 200)), (1, .int x1)]) : W p l e R s m args below meth c H locs (xn F - xn K0) (2 * (xn F - xn K0)) Q (F0 m 17 ls []) := by
  have hx := C.1
  have hb := C.2.1
  unfold cb_X0_shown_17 at hm
  refine lv_iload_n hx hb dX0_shown_17 rfl (lv_at hl 1 rfl) ?_
  refine lv_bipush (v := 32) hx hb dX0_shown_18 (by decide) ?_
  refine lv_icmp_ne (tgt := 28) hx hb dX0_shown_20 (by decide) (fun c_1 => ?_) (fun c_1 => ?_)
  · have hm := (if_neg c_1).symm.trans hm
    exact cw_X0_shown_28 fu C hret x1 F G hm hw (lv_sub hl [0, 1] rfl)
  · have hm := (if_pos c_1).symm.trans hm
    exact cw_X0_shown_23 fu C hret F G hm hw (lv_sub hl [0] rfl)
theorem cn_X0_shown_10 (fu : Nat) {res : Int32 × PF × PG} (x1 : Int32) (F : PF) (G : PG) (hm : cb_X0_shown_10 fu x1 F G = some res) : xn F ≤ xn res.2.1 := by
  unfold cb_X0_shown_10 at hm
  have hm := (ix_elim hm).2
  obtain rfl := Option.some.inj hm
  exact Nat.le_refl _
theorem cw_X0_shown_10 (fu : Nat) {res : Int32 × PF × PG} (C : cMC p R s m args c A v RX0 cX0_shown 2 0 0 (xn res.2.1 - xn K0)) (hret : ∀ (b1 : Nat) (H1 : Heap) (locs1 : List Loc) (ls1 : Array Slot) (pc : Nat), cMW s A v a b1 K0 res.2.1 res.2.2 H1 locs1 → narrow .int (.int res.1) = .int res.1 → decode cX0_shown pc = .ok (.ireturn, 1) → W p l e R s m args below meth c H1 locs1 (xn res.2.1 - xn K0) (2 * (xn res.2.1 - xn K0)) Q (F0 m pc ls1 [.int res.1])) (x1 : Int32) (F : PF) (G : PG) (hm : cb_X0_shown_10 fu x1 F G = some res) {b : Nat} {H : Heap} {locs : List Loc} (hw : cMW s A v a b K0 F G H locs) {ls : Array Slot} (hl : lv_has ls 2 [(0, .ref (a 200)), (1, .int x1)]) : W p l e R s m args below meth c H locs (xn F - xn K0) (2 * (xn F - xn K0)) Q (F0 m 10 ls []) := by
  have hx := C.1
  have hb := C.2.1
  unfold cb_X0_shown_10 at hm
  refine lv_aload_n hx hb dX0_shown_10 rfl (lv_at hl 0 rfl) ?_
  refine cg_X0_15 C hw dX0_shown_11 ?_
  refine lv_iload_n hx hb dX0_shown_14 rfl (lv_at hl 1 rfl) ?_
  obtain ⟨hi, hm⟩ := ix_elim hm
  refine cal_1 C hw hi dX0_shown_15 ?_
  obtain rfl := Option.some.inj hm
  exact hret _ _ _ _ _ hw rfl dX0_shown_16
theorem cn_X0_shown_4 (fu : Nat) {res : Int32 × PF × PG} (x1 : Int32) (F : PF) (G : PG) (hm : cb_X0_shown_4 fu x1 F G = some res) : xn F ≤ xn res.2.1 := by
  unfold cb_X0_shown_4 at hm
  by_cases c_1 : (32 : Int32) ≤ x1
  · have hm := (if_pos c_1).symm.trans hm
    exact (cn_X0_shown_17 fu x1 F G hm)
  · have hm := (if_neg c_1).symm.trans hm
    exact (cn_X0_shown_10 fu x1 F G hm)
theorem cw_X0_shown_4 (fu : Nat) {res : Int32 × PF × PG} (C : cMC p R s m args c A v RX0 cX0_shown 2 0 0 (xn res.2.1 - xn K0)) (hret : ∀ (b1 : Nat) (H1 : Heap) (locs1 : List Loc) (ls1 : Array Slot) (pc : Nat), cMW s A v a b1 K0 res.2.1 res.2.2 H1 locs1 → narrow .int (.int res.1) = .int res.1 → decode cX0_shown pc = .ok (.ireturn, 1) → W p l e R s m args below meth c H1 locs1 (xn res.2.1 - xn K0) (2 * (xn res.2.1 - xn K0)) Q (F0 m pc ls1 [.int res.1])) (x1 : Int32) (F : PF) (G : PG) (hm : cb_X0_shown_4 fu x1 F G = some res) {b : Nat} {H : Heap} {locs : List Loc} (hw : cMW s A v a b K0 F G H locs) {ls : Array Slot} (hl : lv_has ls 2 [(0, .ref (a 200)), (1, .int x1)]) : W p l e R s m args below meth c H locs (xn F - xn K0) (2 * (xn F - xn K0)) Q (F0 m 4 ls []) := by
  have hx := C.1
  have hb := C.2.1
  unfold cb_X0_shown_4 at hm
  refine lv_iload_n hx hb dX0_shown_4 rfl (lv_at hl 1 rfl) ?_
  refine lv_bipush (v := 32) hx hb dX0_shown_5 (by decide) ?_
  refine lv_icmp_ge (tgt := 17) hx hb dX0_shown_7 (by decide) (fun c_1 => ?_) (fun c_1 => ?_)
  · have hm := (if_pos c_1).symm.trans hm
    exact cw_X0_shown_17 fu C hret x1 F G hm hw (lv_sub hl [0, 1] rfl)
  · have hm := (if_neg c_1).symm.trans hm
    exact cw_X0_shown_10 fu C hret x1 F G hm hw (lv_sub hl [0, 1] rfl)
theorem cn_X0_shown_0 (fu : Nat) {res : Int32 × PF × PG} (x1 : Int32) (F : PF) (G : PG) (hm : cb_X0_shown_0 fu x1 F G = some res) : xn F ≤ xn res.2.1 := by
  unfold cb_X0_shown_0 at hm
  by_cases c_1 : x1 < (0 : Int32)
  · have hm := (if_pos c_1).symm.trans hm
    exact (cn_X0_shown_17 fu x1 F G hm)
  · have hm := (if_neg c_1).symm.trans hm
    exact (cn_X0_shown_4 fu x1 F G hm)
theorem cw_X0_shown_0 (fu : Nat) {res : Int32 × PF × PG} (C : cMC p R s m args c A v RX0 cX0_shown 2 0 0 (xn res.2.1 - xn K0)) (hret : ∀ (b1 : Nat) (H1 : Heap) (locs1 : List Loc) (ls1 : Array Slot) (pc : Nat), cMW s A v a b1 K0 res.2.1 res.2.2 H1 locs1 → narrow .int (.int res.1) = .int res.1 → decode cX0_shown pc = .ok (.ireturn, 1) → W p l e R s m args below meth c H1 locs1 (xn res.2.1 - xn K0) (2 * (xn res.2.1 - xn K0)) Q (F0 m pc ls1 [.int res.1])) (x1 : Int32) (F : PF) (G : PG) (hm : cb_X0_shown_0 fu x1 F G = some res) {b : Nat} {H : Heap} {locs : List Loc} (hw : cMW s A v a b K0 F G H locs) {ls : Array Slot} (hl : lv_has ls 2 [(0, .ref (a 200)), (1, .int x1)]) : W p l e R s m args below meth c H locs (xn F - xn K0) (2 * (xn F - xn K0)) Q (F0 m 0 ls []) := by
  have hx := C.1
  have hb := C.2.1
  unfold cb_X0_shown_0 at hm
  refine lv_iload_n hx hb dX0_shown_0 rfl (lv_at hl 1 rfl) ?_
  refine lv_if_lt (tgt := 17) hx hb dX0_shown_1 (by decide) (fun c_1 => ?_) (fun c_1 => ?_)
  · have hm := (if_pos c_1).symm.trans hm
    exact cw_X0_shown_17 fu C hret x1 F G hm hw (lv_sub hl [0, 1] rfl)
  · have hm := (if_neg c_1).symm.trans hm
    exact cw_X0_shown_4 fu C hret x1 F G hm hw (lv_sub hl [0, 1] rfl)
theorem cn_X0_shown (fu : Nat) (x1 : Int32) (F : PF) (G : PG) (q : Int32 × PF × PG) (hm : cf_X0_shown fu x1 F G = some q) : xn F ≤ xn q.2.1 := cn_X0_shown_0 fu x1 F G hm
theorem ck_X0_shown (l : Launch) (v : EV) (a : Nat → Nat) (b sz : Nat) (fu : Nat) (x1 : Int32) (F : PF) (G : PG) (r : Int32) (F1 : PF) (G1 : PG) (hm : cf_X0_shown fu x1 F G = some (r, F1, G1)) : cMI l yX0_shown cX0_shown 2 (some .int) 0 0 v a b sz [.ref (a 200), .int x1] F G r F1 G1 := cMI.of (ty := .int) (by decide) rfl (Nat.le_of_ble_eq_true rfl) (fun p e R s m args below meth c Q A H locs ls C hw hl hret => cw_X0_shown_0 fu (res := (r, F1, G1)) C hret x1 F G hm hw hl)
def cb_X11_joined_84 (fu : Nat) (x1 : Int32) (x2 : Int32) (F : PF) (G : PG) : PR := some ((x1 ||| x2), F, G)
def cb_X11_joined_88 (fu : Nat) (x1 : Int32) (x2 : Int32) (F : PF) (G : PG) : PR := some ((x1 ^^^ x2), F, G)
def cb_X11_joined_92 (fu : Nat) (x1 : Int32) (x2 : Int32) (F : PF) (G : PG) : PR := some ((x1 &&& x2), F, G)
def cb_X11_joined_106 (fu : Nat) (z0 : Int32) (F : PF) (G : PG) : PR := some (z0, F, G)
def cb_X11_joined_105 (fu : Nat) (F : PF) (G : PG) : PR := cb_X11_joined_106 fu 0 F G
def cb_X11_joined_101 (fu : Nat) (F : PF) (G : PG) : PR := cb_X11_joined_106 fu 1 F G
def cb_X11_joined_96 (fu : Nat) (x1 : Int32) (x2 : Int32) (F : PF) (G : PG) : PR := if x1 = x2 then cb_X11_joined_101 fu F G else cb_X11_joined_105 fu F G
def cb_X11_joined_117 (fu : Nat) (z0 : Int32) (F : PF) (G : PG) : PR := some (z0, F, G)
def cb_X11_joined_116 (fu : Nat) (F : PF) (G : PG) : PR := cb_X11_joined_117 fu 0 F G
def cb_X11_joined_112 (fu : Nat) (F : PF) (G : PG) : PR := cb_X11_joined_117 fu 1 F G
def cb_X11_joined_107 (fu : Nat) (x1 : Int32) (x2 : Int32) (F : PF) (G : PG) : PR := if x1 = x2 then cb_X11_joined_116 fu F G else cb_X11_joined_112 fu F G
def cb_X11_joined_128 (fu : Nat) (z0 : Int32) (F : PF) (G : PG) : PR := some (z0, F, G)
def cb_X11_joined_127 (fu : Nat) (F : PF) (G : PG) : PR := cb_X11_joined_128 fu 0 F G
def cb_X11_joined_123 (fu : Nat) (F : PF) (G : PG) : PR := cb_X11_joined_128 fu 1 F G
def cb_X11_joined_118 (fu : Nat) (x1 : Int32) (x2 : Int32) (F : PF) (G : PG) : PR := if x2 ≤ x1 then cb_X11_joined_127 fu F G else cb_X11_joined_123 fu F G
def cb_X11_joined_139 (fu : Nat) (z0 : Int32) (F : PF) (G : PG) : PR := some (z0, F, G)
def cb_X11_joined_138 (fu : Nat) (F : PF) (G : PG) : PR := cb_X11_joined_139 fu 0 F G
def cb_X11_joined_134 (fu : Nat) (F : PF) (G : PG) : PR := cb_X11_joined_139 fu 1 F G
def cb_X11_joined_129 (fu : Nat) (x1 : Int32) (x2 : Int32) (F : PF) (G : PG) : PR := if x2 < x1 then cb_X11_joined_138 fu F G else cb_X11_joined_134 fu F G
def cb_X11_joined_150 (fu : Nat) (z0 : Int32) (F : PF) (G : PG) : PR := some (z0, F, G)
def cb_X11_joined_149 (fu : Nat) (F : PF) (G : PG) : PR := cb_X11_joined_150 fu 0 F G
def cb_X11_joined_145 (fu : Nat) (F : PF) (G : PG) : PR := cb_X11_joined_150 fu 1 F G
def cb_X11_joined_140 (fu : Nat) (x1 : Int32) (x2 : Int32) (F : PF) (G : PG) : PR := if x1 ≤ x2 then cb_X11_joined_149 fu F G else cb_X11_joined_145 fu F G
def cb_X11_joined_161 (fu : Nat) (z0 : Int32) (F : PF) (G : PG) : PR := some (z0, F, G)
def cb_X11_joined_160 (fu : Nat) (F : PF) (G : PG) : PR := cb_X11_joined_161 fu 0 F G
def cb_X11_joined_156 (fu : Nat) (F : PF) (G : PG) : PR := cb_X11_joined_161 fu 1 F G
def cb_X11_joined_151 (fu : Nat) (x1 : Int32) (x2 : Int32) (F : PF) (G : PG) : PR := if x1 < x2 then cb_X11_joined_160 fu F G else cb_X11_joined_156 fu F G
def cb_X11_joined_162 (fu : Nat) (x1 : Int32) (x2 : Int32) (F : PF) (G : PG) : PR := some ((x1 <<< (x2 &&& 31)), F, G)
def cb_X11_joined_166 (fu : Nat) (x1 : Int32) (x2 : Int32) (F : PF) (G : PG) : PR := some ((x1 >>> (x2 &&& 31)), F, G)
def cb_X11_joined_170 (fu : Nat) (x1 : Int32) (x2 : Int32) (F : PF) (G : PG) : PR := some (((x1.toUInt32 >>> (x2.toUInt32 &&& Int32.toUInt32 31)).toInt32), F, G)
def cb_X11_joined_174 (fu : Nat) (x1 : Int32) (x2 : Int32) (F : PF) (G : PG) : PR := some ((x1 + x2), F, G)
def cb_X11_joined_178 (fu : Nat) (x1 : Int32) (x2 : Int32) (F : PF) (G : PG) : PR := some ((x1 - x2), F, G)
def cb_X11_joined_182 (fu : Nat) (x1 : Int32) (x2 : Int32) (F : PF) (G : PG) : PR := some ((x1 * x2), F, G)
def cb_X11_joined_207 (fu : Nat) (z0 : Int32) (F : PF) (G : PG) : PR := some (z0, F, G)
def cb_X11_joined_204 (fu : Nat) (x1 : Int32) (x2 : Int32) (F : PF) (G : PG) : PR := if x2 = 0 then none else (cb_X11_joined_207 fu (x1 / x2) F G)
def cb_X11_joined_199 (fu : Nat) (x1 : Int32) (F : PF) (G : PG) : PR := cb_X11_joined_207 fu (-x1) F G
def cb_X11_joined_194 (fu : Nat) (x1 : Int32) (x2 : Int32) (F : PF) (G : PG) : PR := if x2 = (-1 : Int32) then cb_X11_joined_199 fu x1 F G else cb_X11_joined_204 fu x1 x2 F G
def cb_X11_joined_190 (fu : Nat) (F : PF) (G : PG) : PR := cb_X11_joined_207 fu (-1) F G
def cb_X11_joined_186 (fu : Nat) (x1 : Int32) (x2 : Int32) (F : PF) (G : PG) : PR := if x2 = (0 : Int32) then cb_X11_joined_190 fu F G else cb_X11_joined_194 fu x1 x2 F G
def cb_X11_joined_228 (fu : Nat) (z0 : Int32) (F : PF) (G : PG) : PR := some (z0, F, G)
def cb_X11_joined_225 (fu : Nat) (x1 : Int32) (x2 : Int32) (F : PF) (G : PG) : PR := if x2 = 0 then none else (cb_X11_joined_228 fu (x1 - x1 / x2 * x2) F G)
def cb_X11_joined_221 (fu : Nat) (F : PF) (G : PG) : PR := cb_X11_joined_228 fu 0 F G
def cb_X11_joined_216 (fu : Nat) (x1 : Int32) (x2 : Int32) (F : PF) (G : PG) : PR := if x2 = (-1 : Int32) then cb_X11_joined_221 fu F G else cb_X11_joined_225 fu x1 x2 F G
def cb_X11_joined_212 (fu : Nat) (x1 : Int32) (F : PF) (G : PG) : PR := cb_X11_joined_228 fu x1 F G
def cb_X11_joined_208 (fu : Nat) (x1 : Int32) (x2 : Int32) (F : PF) (G : PG) : PR := if x2 = (0 : Int32) then cb_X11_joined_212 fu x1 F G else cb_X11_joined_216 fu x1 x2 F G
def cb_X11_joined_229 (fu : Nat) (F : PF) (G : PG) : PR := some (0, F, G)
def cb_X11_joined_0 (fu : Nat) (x0 : Int32) (x1 : Int32) (x2 : Int32) (F : PF) (G : PG) : PR := if x0.toInt < 45 ∨ 61 < x0.toInt then cb_X11_joined_229 fu F G else if x0 = 45 then cb_X11_joined_84 fu x1 x2 F G else if x0 = 46 then cb_X11_joined_88 fu x1 x2 F G else if x0 = 47 then cb_X11_joined_92 fu x1 x2 F G else if x0 = 48 then cb_X11_joined_96 fu x1 x2 F G else if x0 = 49 then cb_X11_joined_107 fu x1 x2 F G else if x0 = 50 then cb_X11_joined_118 fu x1 x2 F G else if x0 = 51 then cb_X11_joined_129 fu x1 x2 F G else if x0 = 52 then cb_X11_joined_140 fu x1 x2 F G else if x0 = 53 then cb_X11_joined_151 fu x1 x2 F G else if x0 = 54 then cb_X11_joined_162 fu x1 x2 F G else if x0 = 55 then cb_X11_joined_166 fu x1 x2 F G else if x0 = 56 then cb_X11_joined_170 fu x1 x2 F G else if x0 = 57 then cb_X11_joined_174 fu x1 x2 F G else if x0 = 58 then cb_X11_joined_178 fu x1 x2 F G else if x0 = 59 then cb_X11_joined_182 fu x1 x2 F G else if x0 = 60 then cb_X11_joined_186 fu x1 x2 F G else cb_X11_joined_208 fu x1 x2 F G
def cf_X11_joined (fu : Nat) (x0 : Int32) (x1 : Int32) (x2 : Int32) (F : PF) (G : PG) : PR := cb_X11_joined_0 fu x0 x1 x2 F G
theorem cn_X11_joined_84 (fu : Nat) {res : Int32 × PF × PG} (x1 : Int32) (x2 : Int32) (F : PF) (G : PG) (hm : cb_X11_joined_84 fu x1 x2 F G = some res) : xn F ≤ xn res.2.1 := by
  unfold cb_X11_joined_84 at hm
  obtain rfl := Option.some.inj hm
  exact Nat.le_refl _
theorem cw_X11_joined_84 (fu : Nat) {res : Int32 × PF × PG} (C : cMC p R s m args c A v RX11 cX11_joined 3 0 0 (xn res.2.1 - xn K0)) (hret : ∀ (b1 : Nat) (H1 : Heap) (locs1 : List Loc) (ls1 : Array Slot) (pc : Nat), cMW s A v a b1 K0 res.2.1 res.2.2 H1 locs1 → narrow .int (.int res.1) = .int res.1 → decode cX11_joined pc = .ok (.ireturn, 1) → W p l e R s m args below meth c H1 locs1 (xn res.2.1 - xn K0) (2 * (xn res.2.1 - xn K0)) Q (F0 m pc ls1 [.int res.1])) (x1 : Int32) (x2 : Int32) (F : PF) (G : PG) (hm : cb_X11_joined_84 fu x1 x2 F G = some res) {b : Nat} {H : Heap} {locs : List Loc} (hw : cMW s A v a b K0 F G H locs) {ls : Array Slot} (hl : lv_has ls 3 [(1, .int x1), (2, .int x2)]) : W p l e R s m args below meth c H locs (xn F - xn K0) (2 * (xn F - xn K0)) Q (F0 m 84 ls []) := by
  have hx := C.1
  have hb := C.2.1
  unfold cb_X11_joined_84 at hm
  refine lv_iload_n hx hb dX11_joined_84 rfl (lv_at hl 0 rfl) ?_
  refine lv_iload_n hx hb dX11_joined_85 rfl (lv_at hl 1 rfl) ?_
  refine lv_ior hx hb dX11_joined_86 ?_
  obtain rfl := Option.some.inj hm
  exact hret _ _ _ _ _ hw rfl dX11_joined_87
theorem cn_X11_joined_88 (fu : Nat) {res : Int32 × PF × PG} (x1 : Int32) (x2 : Int32) (F : PF) (G : PG) (hm : cb_X11_joined_88 fu x1 x2 F G = some res) : xn F ≤ xn res.2.1 := by
  unfold cb_X11_joined_88 at hm
  obtain rfl := Option.some.inj hm
  exact Nat.le_refl _
theorem cw_X11_joined_88 (fu : Nat) {res : Int32 × PF × PG} (C : cMC p R s m args c A v RX11 cX11_joined 3 0 0 (xn res.2.1 - xn K0)) (hret : ∀ (b1 : Nat) (H1 : Heap) (locs1 : List Loc) (ls1 : Array Slot) (pc : Nat), cMW s A v a b1 K0 res.2.1 res.2.2 H1 locs1 → narrow .int (.int res.1) = .int res.1 → decode cX11_joined pc = .ok (.ireturn, 1) → W p l e R s m args below meth c H1 locs1 (xn res.2.1 - xn K0) (2 * (xn res.2.1 - xn K0)) Q (F0 m pc ls1 [.int res.1])) (x1 : Int32) (x2 : Int32) (F : PF) (G : PG) (hm : cb_X11_joined_88 fu x1 x2 F G = some res) {b : Nat} {H : Heap} {locs : List Loc} (hw : cMW s A v a b K0 F G H locs) {ls : Array Slot} (hl : lv_has ls 3 [(1, .int x1), (2, .int x2)]) : W p l e R s m args below meth c H locs (xn F - xn K0) (2 * (xn F - xn K0)) Q (F0 m 88 ls []) := by
  have hx := C.1
  have hb := C.2.1
  unfold cb_X11_joined_88 at hm
  refine lv_iload_n hx hb dX11_joined_88 rfl (lv_at hl 0 rfl) ?_
  refine lv_iload_n hx hb dX11_joined_89 rfl (lv_at hl 1 rfl) ?_
  refine lv_ixor hx hb dX11_joined_90 ?_
  obtain rfl := Option.some.inj hm
  exact hret _ _ _ _ _ hw rfl dX11_joined_91
theorem cn_X11_joined_92 (fu : Nat) {res : Int32 × PF × PG} (x1 : Int32) (x2 : Int32) (F : PF) (G : PG) (hm : cb_X11_joined_92 fu x1 x2 F G = some res) : xn F ≤ xn res.2.1 := by
  unfold cb_X11_joined_92 at hm
  obtain rfl := Option.some.inj hm
  exact Nat.le_refl _
theorem cw_X11_joined_92 (fu : Nat) {res : Int32 × PF × PG} (C : cMC p R s m args c A v RX11 cX11_joined 3 0 0 (xn res.2.1 - xn K0)) (hret : ∀ (b1 : Nat) (H1 : Heap) (locs1 : List Loc) (ls1 : Array Slot) (pc : Nat), cMW s A v a b1 K0 res.2.1 res.2.2 H1 locs1 → narrow .int (.int res.1) = .int res.1 → decode cX11_joined pc = .ok (.ireturn, 1) → W p l e R s m args below meth c H1 locs1 (xn res.2.1 - xn K0) (2 * (xn res.2.1 - xn K0)) Q (F0 m pc ls1 [.int res.1])) (x1 : Int32) (x2 : Int32) (F : PF) (G : PG) (hm : cb_X11_joined_92 fu x1 x2 F G = some res) {b : Nat} {H : Heap} {locs : List Loc} (hw : cMW s A v a b K0 F G H locs) {ls : Array Slot} (hl : lv_has ls 3 [(1, .int x1), (2, .int x2)]) : W p l e R s m args below meth c H locs (xn F - xn K0) (2 * (xn F - xn K0)) Q (F0 m 92 ls []) := by
  have hx := C.1
  have hb := C.2.1
  unfold cb_X11_joined_92 at hm
  refine lv_iload_n hx hb dX11_joined_92 rfl (lv_at hl 0 rfl) ?_
  refine lv_iload_n hx hb dX11_joined_93 rfl (lv_at hl 1 rfl) ?_
  refine lv_iand hx hb dX11_joined_94 ?_
  obtain rfl := Option.some.inj hm
  exact hret _ _ _ _ _ hw rfl dX11_joined_95
theorem cn_X11_joined_106 (fu : Nat) {res : Int32 × PF × PG} (z0 : Int32) (F : PF) (G : PG) (hm : cb_X11_joined_106 fu z0 F G = some res) : xn F ≤ xn res.2.1 := by
  unfold cb_X11_joined_106 at hm
  obtain rfl := Option.some.inj hm
  exact Nat.le_refl _
theorem cw_X11_joined_106 (fu : Nat) {res : Int32 × PF × PG} (C : cMC p R s m args c A v RX11 cX11_joined 3 0 0 (xn res.2.1 - xn K0)) (hret : ∀ (b1 : Nat) (H1 : Heap) (locs1 : List Loc) (ls1 : Array Slot) (pc : Nat), cMW s A v a b1 K0 res.2.1 res.2.2 H1 locs1 → narrow .int (.int res.1) = .int res.1 → decode cX11_joined pc = .ok (.ireturn, 1) → W p l e R s m args below meth c H1 locs1 (xn res.2.1 - xn K0) (2 * (xn res.2.1 - xn K0)) Q (F0 m pc ls1 [.int res.1])) (z0 : Int32) (F : PF) (G : PG) (hm : cb_X11_joined_106 fu z0 F G = some res) {b : Nat} {H : Heap} {locs : List Loc} (hw : cMW s A v a b K0 F G H locs) {ls : Array Slot} (hl : lv_has ls 3 []) : W p l e R s m args below meth c H locs (xn F - xn K0) (2 * (xn F - xn K0)) Q (F0 m 106 ls [.int z0]) := by
  have hx := C.1
  have hb := C.2.1
  unfold cb_X11_joined_106 at hm
  obtain rfl := Option.some.inj hm
  exact hret _ _ _ _ _ hw rfl dX11_joined_106
theorem cn_X11_joined_105 (fu : Nat) {res : Int32 × PF × PG} (F : PF) (G : PG) (hm : cb_X11_joined_105 fu F G = some res) : xn F ≤ xn res.2.1 := by
  unfold cb_X11_joined_105 at hm
  exact (cn_X11_joined_106 fu 0 F G hm)
theorem cw_X11_joined_105 (fu : Nat) {res : Int32 × PF × PG} (C : cMC p R s m args c A v RX11 cX11_joined 3 0 0 (xn res.2.1 - xn K0)) (hret : ∀ (b1 : Nat) (H1 : Heap) (locs1 : List Loc) (ls1 : Array Slot) (pc : Nat), cMW s A v a b1 K0 res.2.1 res.2.2 H1 locs1 → narrow .int (.int res.1) = .int res.1 → decode cX11_joined pc = .ok (.ireturn, 1) → W p l e R s m args below meth c H1 locs1 (xn res.2.1 - xn K0) (2 * (xn res.2.1 - xn K0)) Q (F0 m pc ls1 [.int res.1])) (F : PF) (G : PG) (hm : cb_X11_joined_105 fu F G = some res) {b : Nat} {H : Heap} {locs : List Loc} (hw : cMW s A v a b K0 F G H locs) {ls : Array Slot} (hl : lv_has ls 3 []) : W p l e R s m args below meth c H locs (xn F - xn K0) (2 * (xn F - xn K0)) Q (F0 m 105 ls []) := by
  have hx := C.1
  have hb := C.2.1
  unfold cb_X11_joined_105 at hm
  refine lv_iconst (v := 0) hx hb dX11_joined_105 (by decide) ?_
  exact cw_X11_joined_106 fu C hret 0 F G hm hw (lv_sub hl [] rfl)
theorem cn_X11_joined_101 (fu : Nat) {res : Int32 × PF × PG} (F : PF) (G : PG) (hm : cb_X11_joined_101 fu F G = some res) : xn F ≤ xn res.2.1 := by
  unfold cb_X11_joined_101 at hm
  exact (cn_X11_joined_106 fu 1 F G hm)
theorem cw_X11_joined_101 (fu : Nat) {res : Int32 × PF × PG} (C : cMC p R s m args c A v RX11 cX11_joined 3 0 0 (xn res.2.1 - xn K0)) (hret : ∀ (b1 : Nat) (H1 : Heap) (locs1 : List Loc) (ls1 : Array Slot) (pc : Nat), cMW s A v a b1 K0 res.2.1 res.2.2 H1 locs1 → narrow .int (.int res.1) = .int res.1 → decode cX11_joined pc = .ok (.ireturn, 1) → W p l e R s m args below meth c H1 locs1 (xn res.2.1 - xn K0) (2 * (xn res.2.1 - xn K0)) Q (F0 m pc ls1 [.int res.1])) (F : PF) (G : PG) (hm : cb_X11_joined_101 fu F G = some res) {b : Nat} {H : Heap} {locs : List Loc} (hw : cMW s A v a b K0 F G H locs) {ls : Array Slot} (hl : lv_has ls 3 []) : W p l e R s m args below meth c H locs (xn F - xn K0) (2 * (xn F - xn K0)) Q (F0 m 101 ls []) := by
  have hx := C.1
  have hb := C.2.1
  unfold cb_X11_joined_101 at hm
  refine lv_iconst (v := 1) hx hb dX11_joined_101 (by decide) ?_
  refine lv_goto (tgt := 106) hx hb dX11_joined_102 (by decide) ?_
  exact cw_X11_joined_106 fu C hret 1 F G hm hw (lv_sub hl [] rfl)
theorem cn_X11_joined_96 (fu : Nat) {res : Int32 × PF × PG} (x1 : Int32) (x2 : Int32) (F : PF) (G : PG) (hm : cb_X11_joined_96 fu x1 x2 F G = some res) : xn F ≤ xn res.2.1 := by
  unfold cb_X11_joined_96 at hm
  by_cases c_1 : x1 = x2
  · have hm := (if_pos c_1).symm.trans hm
    exact (cn_X11_joined_101 fu F G hm)
  · have hm := (if_neg c_1).symm.trans hm
    exact (cn_X11_joined_105 fu F G hm)
theorem cw_X11_joined_96 (fu : Nat) {res : Int32 × PF × PG} (C : cMC p R s m args c A v RX11 cX11_joined 3 0 0 (xn res.2.1 - xn K0)) (hret : ∀ (b1 : Nat) (H1 : Heap) (locs1 : List Loc) (ls1 : Array Slot) (pc : Nat), cMW s A v a b1 K0 res.2.1 res.2.2 H1 locs1 → narrow .int (.int res.1) = .int res.1 → decode cX11_joined pc = .ok (.ireturn, 1) → W p l e R s m args below meth c H1 locs1 (xn res.2.1 - xn K0) (2 * (xn res.2.1 - xn K0)) Q (F0 m pc ls1 [.int res.1])) (x1 : Int32) (x2 : Int32) (F : PF) (G : PG) (hm : cb_X11_joined_96 fu x1 x2 F G = some res) {b : Nat} {H : Heap} {locs : List Loc} (hw : cMW s A v a b K0 F G H locs) {ls : Array Slot} (hl : lv_has ls 3 [(1, .int x1), (2, .int x2)]) : W p l e R s m args below meth c H locs (xn F - xn K0) (2 * (xn F - xn K0)) Q (F0 m 96 ls []) := by
  have hx := C.1
  have hb := C.2.1
  unfold cb_X11_joined_96 at hm
  refine lv_iload_n hx hb dX11_joined_96 rfl (lv_at hl 0 rfl) ?_
  refine lv_iload_n hx hb dX11_joined_97 rfl (lv_at hl 1 rfl) ?_
  refine lv_icmp_ne (tgt := 105) hx hb dX11_joined_98 (by decide) (fun c_1 => ?_) (fun c_1 => ?_)
  · have hm := (if_neg c_1).symm.trans hm
    exact cw_X11_joined_105 fu C hret F G hm hw (lv_sub hl [] rfl)
  · have hm := (if_pos c_1).symm.trans hm
    exact cw_X11_joined_101 fu C hret F G hm hw (lv_sub hl [] rfl)
theorem cn_X11_joined_117 (fu : Nat) {res : Int32 × PF × PG} (z0 : Int32) (F : PF) (G : PG) (hm : cb_X11_joined_117 fu z0 F G = some res) : xn F ≤ xn res.2.1 := by
  unfold cb_X11_joined_117 at hm
  obtain rfl := Option.some.inj hm
  exact Nat.le_refl _
theorem cw_X11_joined_117 (fu : Nat) {res : Int32 × PF × PG} (C : cMC p R s m args c A v RX11 cX11_joined 3 0 0 (xn res.2.1 - xn K0)) (hret : ∀ (b1 : Nat) (H1 : Heap) (locs1 : List Loc) (ls1 : Array Slot) (pc : Nat), cMW s A v a b1 K0 res.2.1 res.2.2 H1 locs1 → narrow .int (.int res.1) = .int res.1 → decode cX11_joined pc = .ok (.ireturn, 1) → W p l e R s m args below meth c H1 locs1 (xn res.2.1 - xn K0) (2 * (xn res.2.1 - xn K0)) Q (F0 m pc ls1 [.int res.1])) (z0 : Int32) (F : PF) (G : PG) (hm : cb_X11_joined_117 fu z0 F G = some res) {b : Nat} {H : Heap} {locs : List Loc} (hw : cMW s A v a b K0 F G H locs) {ls : Array Slot} (hl : lv_has ls 3 []) : W p l e R s m args below meth c H locs (xn F - xn K0) (2 * (xn F - xn K0)) Q (F0 m 117 ls [.int z0]) := by
  have hx := C.1
  have hb := C.2.1
  unfold cb_X11_joined_117 at hm
  obtain rfl := Option.some.inj hm
  exact hret _ _ _ _ _ hw rfl dX11_joined_117
theorem cn_X11_joined_116 (fu : Nat) {res : Int32 × PF × PG} (F : PF) (G : PG) (hm : cb_X11_joined_116 fu F G = some res) : xn F ≤ xn res.2.1 := by
  unfold cb_X11_joined_116 at hm
  exact (cn_X11_joined_117 fu 0 F G hm)
theorem cw_X11_joined_116 (fu : Nat) {res : Int32 × PF × PG} (C : cMC p R s m args c A v RX11 cX11_joined 3 0 0 (xn res.2.1 - xn K0)) (hret : ∀ (b1 : Nat) (H1 : Heap) (locs1 : List Loc) (ls1 : Array Slot) (pc : Nat), cMW s A v a b1 K0 res.2.1 res.2.2 H1 locs1 → narrow .int (.int res.1) = .int res.1 → decode cX11_joined pc = .ok (.ireturn, 1) → W p l e R s m args below meth c H1 locs1 (xn res.2.1 - xn K0) (2 * (xn res.2.1 - xn K0)) Q (F0 m pc ls1 [.int res.1])) (F : PF) (G : PG) (hm : cb_X11_joined_116 fu F G = some res) {b : Nat} {H : Heap} {locs : List Loc} (hw : cMW s A v a b K0 F G H locs) {ls : Array Slot} (hl : lv_has ls 3 []) : W p l e R s m args below meth c H locs (xn F - xn K0) (2 * (xn F - xn K0)) Q (F0 m 116 ls []) := by
  have hx := C.1
  have hb := C.2.1
  unfold cb_X11_joined_116 at hm
  refine lv_iconst (v := 0) hx hb dX11_joined_116 (by decide) ?_
  exact cw_X11_joined_117 fu C hret 0 F G hm hw (lv_sub hl [] rfl)
theorem cn_X11_joined_112 (fu : Nat) {res : Int32 × PF × PG} (F : PF) (G : PG) (hm : cb_X11_joined_112 fu F G = some res) : xn F ≤ xn res.2.1 := by
  unfold cb_X11_joined_112 at hm
  exact (cn_X11_joined_117 fu 1 F G hm)
theorem cw_X11_joined_112 (fu : Nat) {res : Int32 × PF × PG} (C : cMC p R s m args c A v RX11 cX11_joined 3 0 0 (xn res.2.1 - xn K0)) (hret : ∀ (b1 : Nat) (H1 : Heap) (locs1 : List Loc) (ls1 : Array Slot) (pc : Nat), cMW s A v a b1 K0 res.2.1 res.2.2 H1 locs1 → narrow .int (.int res.1) = .int res.1 → decode cX11_joined pc = .ok (.ireturn, 1) → W p l e R s m args below meth c H1 locs1 (xn res.2.1 - xn K0) (2 * (xn res.2.1 - xn K0)) Q (F0 m pc ls1 [.int res.1])) (F : PF) (G : PG) (hm : cb_X11_joined_112 fu F G = some res) {b : Nat} {H : Heap} {locs : List Loc} (hw : cMW s A v a b K0 F G H locs) {ls : Array Slot} (hl : lv_has ls 3 []) : W p l e R s m args below meth c H locs (xn F - xn K0) (2 * (xn F - xn K0)) Q (F0 m 112 ls []) := by
  have hx := C.1
  have hb := C.2.1
  unfold cb_X11_joined_112 at hm
  refine lv_iconst (v := 1) hx hb dX11_joined_112 (by decide) ?_
  refine lv_goto (tgt := 117) hx hb dX11_joined_113 (by decide) ?_
  exact cw_X11_joined_117 fu C hret 1 F G hm hw (lv_sub hl [] rfl)
theorem cn_X11_joined_107 (fu : Nat) {res : Int32 × PF × PG} (x1 : Int32) (x2 : Int32) (F : PF) (G : PG) (hm : cb_X11_joined_107 fu x1 x2 F G = some res) : xn F ≤ xn res.2.1 := by
  unfold cb_X11_joined_107 at hm
  by_cases c_1 : x1 = x2
  · have hm := (if_pos c_1).symm.trans hm
    exact (cn_X11_joined_116 fu F G hm)
  · have hm := (if_neg c_1).symm.trans hm
    exact (cn_X11_joined_112 fu F G hm)
theorem cw_X11_joined_107 (fu : Nat) {res : Int32 × PF × PG} (C : cMC p R s m args c A v RX11 cX11_joined 3 0 0 (xn res.2.1 - xn K0)) (hret : ∀ (b1 : Nat) (H1 : Heap) (locs1 : List Loc) (ls1 : Array Slot) (pc : Nat), cMW s A v a b1 K0 res.2.1 res.2.2 H1 locs1 → narrow .int (.int res.1) = .int res.1 → decode cX11_joined pc = .ok (.ireturn, 1) → W p l e R s m args below meth c H1 locs1 (xn res.2.1 - xn K0) (2 * (xn res.2.1 - xn K0)) Q (F0 m pc ls1 [.int res.1])) (x1 : Int32) (x2 : Int32) (F : PF) (G : PG) (hm : cb_X11_joined_107 fu x1 x2 F G = some res) {b : Nat} {H : Heap} {locs : List Loc} (hw : cMW s A v a b K0 F G H locs) {ls : Array Slot} (hl : lv_has ls 3 [(1, .int x1), (2, .int x2)]) : W p l e R s m args below meth c H locs (xn F - xn K0) (2 * (xn F - xn K0)) Q (F0 m 107 ls []) := by
  have hx := C.1
  have hb := C.2.1
  unfold cb_X11_joined_107 at hm
  refine lv_iload_n hx hb dX11_joined_107 rfl (lv_at hl 0 rfl) ?_
  refine lv_iload_n hx hb dX11_joined_108 rfl (lv_at hl 1 rfl) ?_
  refine lv_icmp_eq (tgt := 116) hx hb dX11_joined_109 (by decide) (fun c_1 => ?_) (fun c_1 => ?_)
  · have hm := (if_pos c_1).symm.trans hm
    exact cw_X11_joined_116 fu C hret F G hm hw (lv_sub hl [] rfl)
  · have hm := (if_neg c_1).symm.trans hm
    exact cw_X11_joined_112 fu C hret F G hm hw (lv_sub hl [] rfl)
theorem cn_X11_joined_128 (fu : Nat) {res : Int32 × PF × PG} (z0 : Int32) (F : PF) (G : PG) (hm : cb_X11_joined_128 fu z0 F G = some res) : xn F ≤ xn res.2.1 := by
  unfold cb_X11_joined_128 at hm
  obtain rfl := Option.some.inj hm
  exact Nat.le_refl _
theorem cw_X11_joined_128 (fu : Nat) {res : Int32 × PF × PG} (C : cMC p R s m args c A v RX11 cX11_joined 3 0 0 (xn res.2.1 - xn K0)) (hret : ∀ (b1 : Nat) (H1 : Heap) (locs1 : List Loc) (ls1 : Array Slot) (pc : Nat), cMW s A v a b1 K0 res.2.1 res.2.2 H1 locs1 → narrow .int (.int res.1) = .int res.1 → decode cX11_joined pc = .ok (.ireturn, 1) → W p l e R s m args below meth c H1 locs1 (xn res.2.1 - xn K0) (2 * (xn res.2.1 - xn K0)) Q (F0 m pc ls1 [.int res.1])) (z0 : Int32) (F : PF) (G : PG) (hm : cb_X11_joined_128 fu z0 F G = some res) {b : Nat} {H : Heap} {locs : List Loc} (hw : cMW s A v a b K0 F G H locs) {ls : Array Slot} (hl : lv_has ls 3 []) : W p l e R s m args below meth c H locs (xn F - xn K0) (2 * (xn F - xn K0)) Q (F0 m 128 ls [.int z0]) := by
  have hx := C.1
  have hb := C.2.1
  unfold cb_X11_joined_128 at hm
  obtain rfl := Option.some.inj hm
  exact hret _ _ _ _ _ hw rfl dX11_joined_128
theorem cn_X11_joined_127 (fu : Nat) {res : Int32 × PF × PG} (F : PF) (G : PG) (hm : cb_X11_joined_127 fu F G = some res) : xn F ≤ xn res.2.1 := by
  unfold cb_X11_joined_127 at hm
  exact (cn_X11_joined_128 fu 0 F G hm)
theorem cw_X11_joined_127 (fu : Nat) {res : Int32 × PF × PG} (C : cMC p R s m args c A v RX11 cX11_joined 3 0 0 (xn res.2.1 - xn K0)) (hret : ∀ (b1 : Nat) (H1 : Heap) (locs1 : List Loc) (ls1 : Array Slot) (pc : Nat), cMW s A v a b1 K0 res.2.1 res.2.2 H1 locs1 → narrow .int (.int res.1) = .int res.1 → decode cX11_joined pc = .ok (.ireturn, 1) → W p l e R s m args below meth c H1 locs1 (xn res.2.1 - xn K0) (2 * (xn res.2.1 - xn K0)) Q (F0 m pc ls1 [.int res.1])) (F : PF) (G : PG) (hm : cb_X11_joined_127 fu F G = some res) {b : Nat} {H : Heap} {locs : List Loc} (hw : cMW s A v a b K0 F G H locs) {ls : Array Slot} (hl : lv_has ls 3 []) : W p l e R s m args below meth c H locs (xn F - xn K0) (2 * (xn F - xn K0)) Q (F0 m 127 ls []) := by
  have hx := C.1
  have hb := C.2.1
  unfold cb_X11_joined_127 at hm
  refine lv_iconst (v := 0) hx hb dX11_joined_127 (by decide) ?_
  exact cw_X11_joined_128 fu C hret 0 F G hm hw (lv_sub hl [] rfl)
theorem cn_X11_joined_123 (fu : Nat) {res : Int32 × PF × PG} (F : PF) (G : PG) (hm : cb_X11_joined_123 fu F G = some res) : xn F ≤ xn res.2.1 := by
  unfold cb_X11_joined_123 at hm
  exact (cn_X11_joined_128 fu 1 F G hm)
theorem cw_X11_joined_123 (fu : Nat) {res : Int32 × PF × PG} (C : cMC p R s m args c A v RX11 cX11_joined 3 0 0 (xn res.2.1 - xn K0)) (hret : ∀ (b1 : Nat) (H1 : Heap) (locs1 : List Loc) (ls1 : Array Slot) (pc : Nat), cMW s A v a b1 K0 res.2.1 res.2.2 H1 locs1 → narrow .int (.int res.1) = .int res.1 → decode cX11_joined pc = .ok (.ireturn, 1) → W p l e R s m args below meth c H1 locs1 (xn res.2.1 - xn K0) (2 * (xn res.2.1 - xn K0)) Q (F0 m pc ls1 [.int res.1])) (F : PF) (G : PG) (hm : cb_X11_joined_123 fu F G = some res) {b : Nat} {H : Heap} {locs : List Loc} (hw : cMW s A v a b K0 F G H locs) {ls : Array Slot} (hl : lv_has ls 3 []) : W p l e R s m args below meth c H locs (xn F - xn K0) (2 * (xn F - xn K0)) Q (F0 m 123 ls []) := by
  have hx := C.1
  have hb := C.2.1
  unfold cb_X11_joined_123 at hm
  refine lv_iconst (v := 1) hx hb dX11_joined_123 (by decide) ?_
  refine lv_goto (tgt := 128) hx hb dX11_joined_124 (by decide) ?_
  exact cw_X11_joined_128 fu C hret 1 F G hm hw (lv_sub hl [] rfl)
theorem cn_X11_joined_118 (fu : Nat) {res : Int32 × PF × PG} (x1 : Int32) (x2 : Int32) (F : PF) (G : PG) (hm : cb_X11_joined_118 fu x1 x2 F G = some res) : xn F ≤ xn res.2.1 := by
  unfold cb_X11_joined_118 at hm
  by_cases c_1 : x2 ≤ x1
  · have hm := (if_pos c_1).symm.trans hm
    exact (cn_X11_joined_127 fu F G hm)
  · have hm := (if_neg c_1).symm.trans hm
    exact (cn_X11_joined_123 fu F G hm)
theorem cw_X11_joined_118 (fu : Nat) {res : Int32 × PF × PG} (C : cMC p R s m args c A v RX11 cX11_joined 3 0 0 (xn res.2.1 - xn K0)) (hret : ∀ (b1 : Nat) (H1 : Heap) (locs1 : List Loc) (ls1 : Array Slot) (pc : Nat), cMW s A v a b1 K0 res.2.1 res.2.2 H1 locs1 → narrow .int (.int res.1) = .int res.1 → decode cX11_joined pc = .ok (.ireturn, 1) → W p l e R s m args below meth c H1 locs1 (xn res.2.1 - xn K0) (2 * (xn res.2.1 - xn K0)) Q (F0 m pc ls1 [.int res.1])) (x1 : Int32) (x2 : Int32) (F : PF) (G : PG) (hm : cb_X11_joined_118 fu x1 x2 F G = some res) {b : Nat} {H : Heap} {locs : List Loc} (hw : cMW s A v a b K0 F G H locs) {ls : Array Slot} (hl : lv_has ls 3 [(1, .int x1), (2, .int x2)]) : W p l e R s m args below meth c H locs (xn F - xn K0) (2 * (xn F - xn K0)) Q (F0 m 118 ls []) := by
  have hx := C.1
  have hb := C.2.1
  unfold cb_X11_joined_118 at hm
  refine lv_iload_n hx hb dX11_joined_118 rfl (lv_at hl 0 rfl) ?_
  refine lv_iload_n hx hb dX11_joined_119 rfl (lv_at hl 1 rfl) ?_
  refine lv_icmp_ge (tgt := 127) hx hb dX11_joined_120 (by decide) (fun c_1 => ?_) (fun c_1 => ?_)
  · have hm := (if_pos c_1).symm.trans hm
    exact cw_X11_joined_127 fu C hret F G hm hw (lv_sub hl [] rfl)
  · have hm := (if_neg c_1).symm.trans hm
    exact cw_X11_joined_123 fu C hret F G hm hw (lv_sub hl [] rfl)
theorem cn_X11_joined_139 (fu : Nat) {res : Int32 × PF × PG} (z0 : Int32) (F : PF) (G : PG) (hm : cb_X11_joined_139 fu z0 F G = some res) : xn F ≤ xn res.2.1 := by
  unfold cb_X11_joined_139 at hm
  obtain rfl := Option.some.inj hm
  exact Nat.le_refl _
theorem cw_X11_joined_139 (fu : Nat) {res : Int32 × PF × PG} (C : cMC p R s m args c A v RX11 cX11_joined 3 0 0 (xn res.2.1 - xn K0)) (hret : ∀ (b1 : Nat) (H1 : Heap) (locs1 : List Loc) (ls1 : Array Slot) (pc : Nat), cMW s A v a b1 K0 res.2.1 res.2.2 H1 locs1 → narrow .int (.int res.1) = .int res.1 → decode cX11_joined pc = .ok (.ireturn, 1) → W p l e R s m args below meth c H1 locs1 (xn res.2.1 - xn K0) (2 * (xn res.2.1 - xn K0)) Q (F0 m pc ls1 [.int res.1])) (z0 : Int32) (F : PF) (G : PG) (hm : cb_X11_joined_139 fu z0 F G = some res) {b : Nat} {H : Heap} {locs : List Loc} (hw : cMW s A v a b K0 F G H locs) {ls : Array Slot} (hl : lv_has ls 3 []) : W p l e R s m args below meth c H locs (xn F - xn K0) (2 * (xn F - xn K0)) Q (F0 m 139 ls [.int z0]) := by
  have hx := C.1
  have hb := C.2.1
  unfold cb_X11_joined_139 at hm
  obtain rfl := Option.some.inj hm
  exact hret _ _ _ _ _ hw rfl dX11_joined_139
theorem cn_X11_joined_138 (fu : Nat) {res : Int32 × PF × PG} (F : PF) (G : PG) (hm : cb_X11_joined_138 fu F G = some res) : xn F ≤ xn res.2.1 := by
  unfold cb_X11_joined_138 at hm
  exact (cn_X11_joined_139 fu 0 F G hm)
theorem cw_X11_joined_138 (fu : Nat) {res : Int32 × PF × PG} (C : cMC p R s m args c A v RX11 cX11_joined 3 0 0 (xn res.2.1 - xn K0)) (hret : ∀ (b1 : Nat) (H1 : Heap) (locs1 : List Loc) (ls1 : Array Slot) (pc : Nat), cMW s A v a b1 K0 res.2.1 res.2.2 H1 locs1 → narrow .int (.int res.1) = .int res.1 → decode cX11_joined pc = .ok (.ireturn, 1) → W p l e R s m args below meth c H1 locs1 (xn res.2.1 - xn K0) (2 * (xn res.2.1 - xn K0)) Q (F0 m pc ls1 [.int res.1])) (F : PF) (G : PG) (hm : cb_X11_joined_138 fu F G = some res) {b : Nat} {H : Heap} {locs : List Loc} (hw : cMW s A v a b K0 F G H locs) {ls : Array Slot} (hl : lv_has ls 3 []) : W p l e R s m args below meth c H locs (xn F - xn K0) (2 * (xn F - xn K0)) Q (F0 m 138 ls []) := by
  have hx := C.1
  have hb := C.2.1
  unfold cb_X11_joined_138 at hm
  refine lv_iconst (v := 0) hx hb dX11_joined_138 (by decide) ?_
  exact cw_X11_joined_139 fu C hret 0 F G hm hw (lv_sub hl [] rfl)
theorem cn_X11_joined_134 (fu : Nat) {res : Int32 × PF × PG} (F : PF) (G : PG) (hm : cb_X11_joined_134 fu F G = some res) : xn F ≤ xn res.2.1 := by
  unfold cb_X11_joined_134 at hm
  exact (cn_X11_joined_139 fu 1 F G hm)
theorem cw_X11_joined_134 (fu : Nat) {res : Int32 × PF × PG} (C : cMC p R s m args c A v RX11 cX11_joined 3 0 0 (xn res.2.1 - xn K0)) (hret : ∀ (b1 : Nat) (H1 : Heap) (locs1 : List Loc) (ls1 : Array Slot) (pc : Nat), cMW s A v a b1 K0 res.2.1 res.2.2 H1 locs1 → narrow .int (.int res.1) = .int res.1 → decode cX11_joined pc = .ok (.ireturn, 1) → W p l e R s m args below meth c H1 locs1 (xn res.2.1 - xn K0) (2 * (xn res.2.1 - xn K0)) Q (F0 m pc ls1 [.int res.1])) (F : PF) (G : PG) (hm : cb_X11_joined_134 fu F G = some res) {b : Nat} {H : Heap} {locs : List Loc} (hw : cMW s A v a b K0 F G H locs) {ls : Array Slot} (hl : lv_has ls 3 []) : W p l e R s m args below meth c H locs (xn F - xn K0) (2 * (xn F - xn K0)) Q (F0 m 134 ls []) := by
  have hx := C.1
  have hb := C.2.1
  unfold cb_X11_joined_134 at hm
  refine lv_iconst (v := 1) hx hb dX11_joined_134 (by decide) ?_
  refine lv_goto (tgt := 139) hx hb dX11_joined_135 (by decide) ?_
  exact cw_X11_joined_139 fu C hret 1 F G hm hw (lv_sub hl [] rfl)
theorem cn_X11_joined_129 (fu : Nat) {res : Int32 × PF × PG} (x1 : Int32) (x2 : Int32) (F : PF) (G : PG) (hm : cb_X11_joined_129 fu x1 x2 F G = some res) : xn F ≤ xn res.2.1 := by
  unfold cb_X11_joined_129 at hm
  by_cases c_1 : x2 < x1
  · have hm := (if_pos c_1).symm.trans hm
    exact (cn_X11_joined_138 fu F G hm)
  · have hm := (if_neg c_1).symm.trans hm
    exact (cn_X11_joined_134 fu F G hm)
theorem cw_X11_joined_129 (fu : Nat) {res : Int32 × PF × PG} (C : cMC p R s m args c A v RX11 cX11_joined 3 0 0 (xn res.2.1 - xn K0)) (hret : ∀ (b1 : Nat) (H1 : Heap) (locs1 : List Loc) (ls1 : Array Slot) (pc : Nat), cMW s A v a b1 K0 res.2.1 res.2.2 H1 locs1 → narrow .int (.int res.1) = .int res.1 → decode cX11_joined pc = .ok (.ireturn, 1) → W p l e R s m args below meth c H1 locs1 (xn res.2.1 - xn K0) (2 * (xn res.2.1 - xn K0)) Q (F0 m pc ls1 [.int res.1])) (x1 : Int32) (x2 : Int32) (F : PF) (G : PG) (hm : cb_X11_joined_129 fu x1 x2 F G = some res) {b : Nat} {H : Heap} {locs : List Loc} (hw : cMW s A v a b K0 F G H locs) {ls : Array Slot} (hl : lv_has ls 3 [(1, .int x1), (2, .int x2)]) : W p l e R s m args below meth c H locs (xn F - xn K0) (2 * (xn F - xn K0)) Q (F0 m 129 ls []) := by
  have hx := C.1
  have hb := C.2.1
  unfold cb_X11_joined_129 at hm
  refine lv_iload_n hx hb dX11_joined_129 rfl (lv_at hl 0 rfl) ?_
  refine lv_iload_n hx hb dX11_joined_130 rfl (lv_at hl 1 rfl) ?_
  refine lv_icmp_gt (tgt := 138) hx hb dX11_joined_131 (by decide) (fun c_1 => ?_) (fun c_1 => ?_)
  · have hm := (if_pos c_1).symm.trans hm
    exact cw_X11_joined_138 fu C hret F G hm hw (lv_sub hl [] rfl)
  · have hm := (if_neg c_1).symm.trans hm
    exact cw_X11_joined_134 fu C hret F G hm hw (lv_sub hl [] rfl)
theorem cn_X11_joined_150 (fu : Nat) {res : Int32 × PF × PG} (z0 : Int32) (F : PF) (G : PG) (hm : cb_X11_joined_150 fu z0 F G = some res) : xn F ≤ xn res.2.1 := by
  unfold cb_X11_joined_150 at hm
  obtain rfl := Option.some.inj hm
  exact Nat.le_refl _
theorem cw_X11_joined_150 (fu : Nat) {res : Int32 × PF × PG} (C : cMC p R s m args c A v RX11 cX11_joined 3 0 0 (xn res.2.1 - xn K0)) (hret : ∀ (b1 : Nat) (H1 : Heap) (locs1 : List Loc) (ls1 : Array Slot) (pc : Nat), cMW s A v a b1 K0 res.2.1 res.2.2 H1 locs1 → narrow .int (.int res.1) = .int res.1 → decode cX11_joined pc = .ok (.ireturn, 1) → W p l e R s m args below meth c H1 locs1 (xn res.2.1 - xn K0) (2 * (xn res.2.1 - xn K0)) Q (F0 m pc ls1 [.int res.1])) (z0 : Int32) (F : PF) (G : PG) (hm : cb_X11_joined_150 fu z0 F G = some res) {b : Nat} {H : Heap} {locs : List Loc} (hw : cMW s A v a b K0 F G H locs) {ls : Array Slot} (hl : lv_has ls 3 []) : W p l e R s m args below meth c H locs (xn F - xn K0) (2 * (xn F - xn K0)) Q (F0 m 150 ls [.int z0]) := by
  have hx := C.1
  have hb := C.2.1
  unfold cb_X11_joined_150 at hm
  obtain rfl := Option.some.inj hm
  exact hret _ _ _ _ _ hw rfl dX11_joined_150
theorem cn_X11_joined_149 (fu : Nat) {res : Int32 × PF × PG} (F : PF) (G : PG) (hm : cb_X11_joined_149 fu F G = some res) : xn F ≤ xn res.2.1 := by
  unfold cb_X11_joined_149 at hm
  exact (cn_X11_joined_150 fu 0 F G hm)
theorem cw_X11_joined_149 (fu : Nat) {res : Int32 × PF × PG} (C : cMC p R s m args c A v RX11 cX11_joined 3 0 0 (xn res.2.1 - xn K0)) (hret : ∀ (b1 : Nat) (H1 : Heap) (locs1 : List Loc) (ls1 : Array Slot) (pc : Nat), cMW s A v a b1 K0 res.2.1 res.2.2 H1 locs1 → narrow .int (.int res.1) = .int res.1 → decode cX11_joined pc = .ok (.ireturn, 1) → W p l e R s m args below meth c H1 locs1 (xn res.2.1 - xn K0) (2 * (xn res.2.1 - xn K0)) Q (F0 m pc ls1 [.int res.1])) (F : PF) (G : PG) (hm : cb_X11_joined_149 fu F G = some res) {b : Nat} {H : Heap} {locs : List Loc} (hw : cMW s A v a b K0 F G H locs) {ls : Array Slot} (hl : lv_has ls 3 []) : W p l e R s m args below meth c H locs (xn F - xn K0) (2 * (xn F - xn K0)) Q (F0 m 149 ls []) := by
  have hx := C.1
  have hb := C.2.1
  unfold cb_X11_joined_149 at hm
  refine lv_iconst (v := 0) hx hb dX11_joined_149 (by decide) ?_
  exact cw_X11_joined_150 fu C hret 0 F G hm hw (lv_sub hl [] rfl)
theorem cn_X11_joined_145 (fu : Nat) {res : Int32 × PF × PG} (F : PF) (G : PG) (hm : cb_X11_joined_145 fu F G = some res) : xn F ≤ xn res.2.1 := by
  unfold cb_X11_joined_145 at hm
  exact (cn_X11_joined_150 fu 1 F G hm)
theorem cw_X11_joined_145 (fu : Nat) {res : Int32 × PF × PG} (C : cMC p R s m args c A v RX11 cX11_joined 3 0 0 (xn res.2.1 - xn K0)) (hret : ∀ (b1 : Nat) (H1 : Heap) (locs1 : List Loc) (ls1 : Array Slot) (pc : Nat), cMW s A v a b1 K0 res.2.1 res.2.2 H1 locs1 → narrow .int (.int res.1) = .int res.1 → decode cX11_joined pc = .ok (.ireturn, 1) → W p l e R s m args below meth c H1 locs1 (xn res.2.1 - xn K0) (2 * (xn res.2.1 - xn K0)) Q (F0 m pc ls1 [.int res.1])) (F : PF) (G : PG) (hm : cb_X11_joined_145 fu F G = some res) {b : Nat} {H : Heap} {locs : List Loc} (hw : cMW s A v a b K0 F G H locs) {ls : Array Slot} (hl : lv_has ls 3 []) : W p l e R s m args below meth c H locs (xn F - xn K0) (2 * (xn F - xn K0)) Q (F0 m 145 ls []) := by
  have hx := C.1
  have hb := C.2.1
  unfold cb_X11_joined_145 at hm
  refine lv_iconst (v := 1) hx hb dX11_joined_145 (by decide) ?_
  refine lv_goto (tgt := 150) hx hb dX11_joined_146 (by decide) ?_
  exact cw_X11_joined_150 fu C hret 1 F G hm hw (lv_sub hl [] rfl)
theorem cn_X11_joined_140 (fu : Nat) {res : Int32 × PF × PG} (x1 : Int32) (x2 : Int32) (F : PF) (G : PG) (hm : cb_X11_joined_140 fu x1 x2 F G = some res) : xn F ≤ xn res.2.1 := by
  unfold cb_X11_joined_140 at hm
  by_cases c_1 : x1 ≤ x2
  · have hm := (if_pos c_1).symm.trans hm
    exact (cn_X11_joined_149 fu F G hm)
  · have hm := (if_neg c_1).symm.trans hm
    exact (cn_X11_joined_145 fu F G hm)
theorem cw_X11_joined_140 (fu : Nat) {res : Int32 × PF × PG} (C : cMC p R s m args c A v RX11 cX11_joined 3 0 0 (xn res.2.1 - xn K0)) (hret : ∀ (b1 : Nat) (H1 : Heap) (locs1 : List Loc) (ls1 : Array Slot) (pc : Nat), cMW s A v a b1 K0 res.2.1 res.2.2 H1 locs1 → narrow .int (.int res.1) = .int res.1 → decode cX11_joined pc = .ok (.ireturn, 1) → W p l e R s m args below meth c H1 locs1 (xn res.2.1 - xn K0) (2 * (xn res.2.1 - xn K0)) Q (F0 m pc ls1 [.int res.1])) (x1 : Int32) (x2 : Int32) (F : PF) (G : PG) (hm : cb_X11_joined_140 fu x1 x2 F G = some res) {b : Nat} {H : Heap} {locs : List Loc} (hw : cMW s A v a b K0 F G H locs) {ls : Array Slot} (hl : lv_has ls 3 [(1, .int x1), (2, .int x2)]) : W p l e R s m args below meth c H locs (xn F - xn K0) (2 * (xn F - xn K0)) Q (F0 m 140 ls []) := by
  have hx := C.1
  have hb := C.2.1
  unfold cb_X11_joined_140 at hm
  refine lv_iload_n hx hb dX11_joined_140 rfl (lv_at hl 0 rfl) ?_
  refine lv_iload_n hx hb dX11_joined_141 rfl (lv_at hl 1 rfl) ?_
  refine lv_icmp_le (tgt := 149) hx hb dX11_joined_142 (by decide) (fun c_1 => ?_) (fun c_1 => ?_)
  · have hm := (if_pos c_1).symm.trans hm
    exact cw_X11_joined_149 fu C hret F G hm hw (lv_sub hl [] rfl)
  · have hm := (if_neg c_1).symm.trans hm
    exact cw_X11_joined_145 fu C hret F G hm hw (lv_sub hl [] rfl)
theorem cn_X11_joined_161 (fu : Nat) {res : Int32 × PF × PG} (z0 : Int32) (F : PF) (G : PG) (hm : cb_X11_joined_161 fu z0 F G = some res) : xn F ≤ xn res.2.1 := by
  unfold cb_X11_joined_161 at hm
  obtain rfl := Option.some.inj hm
  exact Nat.le_refl _
theorem cw_X11_joined_161 (fu : Nat) {res : Int32 × PF × PG} (C : cMC p R s m args c A v RX11 cX11_joined 3 0 0 (xn res.2.1 - xn K0)) (hret : ∀ (b1 : Nat) (H1 : Heap) (locs1 : List Loc) (ls1 : Array Slot) (pc : Nat), cMW s A v a b1 K0 res.2.1 res.2.2 H1 locs1 → narrow .int (.int res.1) = .int res.1 → decode cX11_joined pc = .ok (.ireturn, 1) → W p l e R s m args below meth c H1 locs1 (xn res.2.1 - xn K0) (2 * (xn res.2.1 - xn K0)) Q (F0 m pc ls1 [.int res.1])) (z0 : Int32) (F : PF) (G : PG) (hm : cb_X11_joined_161 fu z0 F G = some res) {b : Nat} {H : Heap} {locs : List Loc} (hw : cMW s A v a b K0 F G H locs) {ls : Array Slot} (hl : lv_has ls 3 []) : W p l e R s m args below meth c H locs (xn F - xn K0) (2 * (xn F - xn K0)) Q (F0 m 161 ls [.int z0]) := by
  have hx := C.1
  have hb := C.2.1
  unfold cb_X11_joined_161 at hm
  obtain rfl := Option.some.inj hm
  exact hret _ _ _ _ _ hw rfl dX11_joined_161
theorem cn_X11_joined_160 (fu : Nat) {res : Int32 × PF × PG} (F : PF) (G : PG) (hm : cb_X11_joined_160 fu F G = some res) : xn F ≤ xn res.2.1 := by
  unfold cb_X11_joined_160 at hm
  exact (cn_X11_joined_161 fu 0 F G hm)
theorem cw_X11_joined_160 (fu : Nat) {res : Int32 × PF × PG} (C : cMC p R s m args c A v RX11 cX11_joined 3 0 0 (xn res.2.1 - xn K0)) (hret : ∀ (b1 : Nat) (H1 : Heap) (locs1 : List Loc) (ls1 : Array Slot) (pc : Nat), cMW s A v a b1 K0 res.2.1 res.2.2 H1 locs1 → narrow .int (.int res.1) = .int res.1 → decode cX11_joined pc = .ok (.ireturn, 1) → W p l e R s m args below meth c H1 locs1 (xn res.2.1 - xn K0) (2 * (xn res.2.1 - xn K0)) Q (F0 m pc ls1 [.int res.1])) (F : PF) (G : PG) (hm : cb_X11_joined_160 fu F G = some res) {b : Nat} {H : Heap} {locs : List Loc} (hw : cMW s A v a b K0 F G H locs) {ls : Array Slot} (hl : lv_has ls 3 []) : W p l e R s m args below meth c H locs (xn F - xn K0) (2 * (xn F - xn K0)) Q (F0 m 160 ls []) := by
  have hx := C.1
  have hb := C.2.1
  unfold cb_X11_joined_160 at hm
  refine lv_iconst (v := 0) hx hb dX11_joined_160 (by decide) ?_
  exact cw_X11_joined_161 fu C hret 0 F G hm hw (lv_sub hl [] rfl)
theorem cn_X11_joined_156 (fu : Nat) {res : Int32 × PF × PG} (F : PF) (G : PG) (hm : cb_X11_joined_156 fu F G = some res) : xn F ≤ xn res.2.1 := by
  unfold cb_X11_joined_156 at hm
  exact (cn_X11_joined_161 fu 1 F G hm)
theorem cw_X11_joined_156 (fu : Nat) {res : Int32 × PF × PG} (C : cMC p R s m args c A v RX11 cX11_joined 3 0 0 (xn res.2.1 - xn K0)) (hret : ∀ (b1 : Nat) (H1 : Heap) (locs1 : List Loc) (ls1 : Array Slot) (pc : Nat), cMW s A v a b1 K0 res.2.1 res.2.2 H1 locs1 → narrow .int (.int res.1) = .int res.1 → decode cX11_joined pc = .ok (.ireturn, 1) → W p l e R s m args below meth c H1 locs1 (xn res.2.1 - xn K0) (2 * (xn res.2.1 - xn K0)) Q (F0 m pc ls1 [.int res.1])) (F : PF) (G : PG) (hm : cb_X11_joined_156 fu F G = some res) {b : Nat} {H : Heap} {locs : List Loc} (hw : cMW s A v a b K0 F G H locs) {ls : Array Slot} (hl : lv_has ls 3 []) : W p l e R s m args below meth c H locs (xn F - xn K0) (2 * (xn F - xn K0)) Q (F0 m 156 ls []) := by
  have hx := C.1
  have hb := C.2.1
  unfold cb_X11_joined_156 at hm
  refine lv_iconst (v := 1) hx hb dX11_joined_156 (by decide) ?_
  refine lv_goto (tgt := 161) hx hb dX11_joined_157 (by decide) ?_
  exact cw_X11_joined_161 fu C hret 1 F G hm hw (lv_sub hl [] rfl)
theorem cn_X11_joined_151 (fu : Nat) {res : Int32 × PF × PG} (x1 : Int32) (x2 : Int32) (F : PF) (G : PG) (hm : cb_X11_joined_151 fu x1 x2 F G = some res) : xn F ≤ xn res.2.1 := by
  unfold cb_X11_joined_151 at hm
  by_cases c_1 : x1 < x2
  · have hm := (if_pos c_1).symm.trans hm
    exact (cn_X11_joined_160 fu F G hm)
  · have hm := (if_neg c_1).symm.trans hm
    exact (cn_X11_joined_156 fu F G hm)
theorem cw_X11_joined_151 (fu : Nat) {res : Int32 × PF × PG} (C : cMC p R s m args c A v RX11 cX11_joined 3 0 0 (xn res.2.1 - xn K0)) (hret : ∀ (b1 : Nat) (H1 : Heap) (locs1 : List Loc) (ls1 : Array Slot) (pc : Nat), cMW s A v a b1 K0 res.2.1 res.2.2 H1 locs1 → narrow .int (.int res.1) = .int res.1 → decode cX11_joined pc = .ok (.ireturn, 1) → W p l e R s m args below meth c H1 locs1 (xn res.2.1 - xn K0) (2 * (xn res.2.1 - xn K0)) Q (F0 m pc ls1 [.int res.1])) (x1 : Int32) (x2 : Int32) (F : PF) (G : PG) (hm : cb_X11_joined_151 fu x1 x2 F G = some res) {b : Nat} {H : Heap} {locs : List Loc} (hw : cMW s A v a b K0 F G H locs) {ls : Array Slot} (hl : lv_has ls 3 [(1, .int x1), (2, .int x2)]) : W p l e R s m args below meth c H locs (xn F - xn K0) (2 * (xn F - xn K0)) Q (F0 m 151 ls []) := by
  have hx := C.1
  have hb := C.2.1
  unfold cb_X11_joined_151 at hm
  refine lv_iload_n hx hb dX11_joined_151 rfl (lv_at hl 0 rfl) ?_
  refine lv_iload_n hx hb dX11_joined_152 rfl (lv_at hl 1 rfl) ?_
  refine lv_icmp_lt (tgt := 160) hx hb dX11_joined_153 (by decide) (fun c_1 => ?_) (fun c_1 => ?_)
  · have hm := (if_pos c_1).symm.trans hm
    exact cw_X11_joined_160 fu C hret F G hm hw (lv_sub hl [] rfl)
  · have hm := (if_neg c_1).symm.trans hm
    exact cw_X11_joined_156 fu C hret F G hm hw (lv_sub hl [] rfl)
theorem cn_X11_joined_162 (fu : Nat) {res : Int32 × PF × PG} (x1 : Int32) (x2 : Int32) (F : PF) (G : PG) (hm : cb_X11_joined_162 fu x1 x2 F G = some res) : xn F ≤ xn res.2.1 := by
  unfold cb_X11_joined_162 at hm
  obtain rfl := Option.some.inj hm
  exact Nat.le_refl _
theorem cw_X11_joined_162 (fu : Nat) {res : Int32 × PF × PG} (C : cMC p R s m args c A v RX11 cX11_joined 3 0 0 (xn res.2.1 - xn K0)) (hret : ∀ (b1 : Nat) (H1 : Heap) (locs1 : List Loc) (ls1 : Array Slot) (pc : Nat), cMW s A v a b1 K0 res.2.1 res.2.2 H1 locs1 → narrow .int (.int res.1) = .int res.1 → decode cX11_joined pc = .ok (.ireturn, 1) → W p l e R s m args below meth c H1 locs1 (xn res.2.1 - xn K0) (2 * (xn res.2.1 - xn K0)) Q (F0 m pc ls1 [.int res.1])) (x1 : Int32) (x2 : Int32) (F : PF) (G : PG) (hm : cb_X11_joined_162 fu x1 x2 F G = some res) {b : Nat} {H : Heap} {locs : List Loc} (hw : cMW s A v a b K0 F G H locs) {ls : Array Slot} (hl : lv_has ls 3 [(1, .int x1), (2, .int x2)]) : W p l e R s m args below meth c H locs (xn F - xn K0) (2 * (xn F - xn K0)) Q (F0 m 162 ls []) := by
  have hx := C.1
  have hb := C.2.1
  unfold cb_X11_joined_162 at hm
  refine lv_iload_n hx hb dX11_joined_162 rfl (lv_at hl 0 rfl) ?_
  refine lv_iload_n hx hb dX11_joined_163 rfl (lv_at hl 1 rfl) ?_
  refine lv_ishl hx hb dX11_joined_164 ?_
  obtain rfl := Option.some.inj hm
  exact hret _ _ _ _ _ hw rfl dX11_joined_165
theorem cn_X11_joined_166 (fu : Nat) {res : Int32 × PF × PG} (x1 : Int32) (x2 : Int32) (F : PF) (G : PG) (hm : cb_X11_joined_166 fu x1 x2 F G = some res) : xn F ≤ xn res.2.1 := by
  unfold cb_X11_joined_166 at hm
  obtain rfl := Option.some.inj hm
  exact Nat.le_refl _
theorem cw_X11_joined_166 (fu : Nat) {res : Int32 × PF × PG} (C : cMC p R s m args c A v RX11 cX11_joined 3 0 0 (xn res.2.1 - xn K0)) (hret : ∀ (b1 : Nat) (H1 : Heap) (locs1 : List Loc) (ls1 : Array Slot) (pc : Nat), cMW s A v a b1 K0 res.2.1 res.2.2 H1 locs1 → narrow .int (.int res.1) = .int res.1 → decode cX11_joined pc = .ok (.ireturn, 1) → W p l e R s m args below meth c H1 locs1 (xn res.2.1 - xn K0) (2 * (xn res.2.1 - xn K0)) Q (F0 m pc ls1 [.int res.1])) (x1 : Int32) (x2 : Int32) (F : PF) (G : PG) (hm : cb_X11_joined_166 fu x1 x2 F G = some res) {b : Nat} {H : Heap} {locs : List Loc} (hw : cMW s A v a b K0 F G H locs) {ls : Array Slot} (hl : lv_has ls 3 [(1, .int x1), (2, .int x2)]) : W p l e R s m args below meth c H locs (xn F - xn K0) (2 * (xn F - xn K0)) Q (F0 m 166 ls []) := by
  have hx := C.1
  have hb := C.2.1
  unfold cb_X11_joined_166 at hm
  refine lv_iload_n hx hb dX11_joined_166 rfl (lv_at hl 0 rfl) ?_
  refine lv_iload_n hx hb dX11_joined_167 rfl (lv_at hl 1 rfl) ?_
  refine lv_ishr hx hb dX11_joined_168 ?_
  obtain rfl := Option.some.inj hm
  exact hret _ _ _ _ _ hw rfl dX11_joined_169
theorem cn_X11_joined_170 (fu : Nat) {res : Int32 × PF × PG} (x1 : Int32) (x2 : Int32) (F : PF) (G : PG) (hm : cb_X11_joined_170 fu x1 x2 F G = some res) : xn F ≤ xn res.2.1 := by
  unfold cb_X11_joined_170 at hm
  obtain rfl := Option.some.inj hm
  exact Nat.le_refl _
theorem cw_X11_joined_170 (fu : Nat) {res : Int32 × PF × PG} (C : cMC p R s m args c A v RX11 cX11_joined 3 0 0 (xn res.2.1 - xn K0)) (hret : ∀ (b1 : Nat) (H1 : Heap) (locs1 : List Loc) (ls1 : Array Slot) (pc : Nat), cMW s A v a b1 K0 res.2.1 res.2.2 H1 locs1 → narrow .int (.int res.1) = .int res.1 → decode cX11_joined pc = .ok (.ireturn, 1) → W p l e R s m args below meth c H1 locs1 (xn res.2.1 - xn K0) (2 * (xn res.2.1 - xn K0)) Q (F0 m pc ls1 [.int res.1])) (x1 : Int32) (x2 : Int32) (F : PF) (G : PG) (hm : cb_X11_joined_170 fu x1 x2 F G = some res) {b : Nat} {H : Heap} {locs : List Loc} (hw : cMW s A v a b K0 F G H locs) {ls : Array Slot} (hl : lv_has ls 3 [(1, .int x1), (2, .int x2)]) : W p l e R s m args below meth c H locs (xn F - xn K0) (2 * (xn F - xn K0)) Q (F0 m 170 ls []) := by
  have hx := C.1
  have hb := C.2.1
  unfold cb_X11_joined_170 at hm
  refine lv_iload_n hx hb dX11_joined_170 rfl (lv_at hl 0 rfl) ?_
  refine lv_iload_n hx hb dX11_joined_171 rfl (lv_at hl 1 rfl) ?_
  refine lv_iushr hx hb dX11_joined_172 rfl ?_
  obtain rfl := Option.some.inj hm
  exact hret _ _ _ _ _ hw rfl dX11_joined_173
theorem cn_X11_joined_174 (fu : Nat) {res : Int32 × PF × PG} (x1 : Int32) (x2 : Int32) (F : PF) (G : PG) (hm : cb_X11_joined_174 fu x1 x2 F G = some res) : xn F ≤ xn res.2.1 := by
  unfold cb_X11_joined_174 at hm
  obtain rfl := Option.some.inj hm
  exact Nat.le_refl _
theorem cw_X11_joined_174 (fu : Nat) {res : Int32 × PF × PG} (C : cMC p R s m args c A v RX11 cX11_joined 3 0 0 (xn res.2.1 - xn K0)) (hret : ∀ (b1 : Nat) (H1 : Heap) (locs1 : List Loc) (ls1 : Array Slot) (pc : Nat), cMW s A v a b1 K0 res.2.1 res.2.2 H1 locs1 → narrow .int (.int res.1) = .int res.1 → decode cX11_joined pc = .ok (.ireturn, 1) → W p l e R s m args below meth c H1 locs1 (xn res.2.1 - xn K0) (2 * (xn res.2.1 - xn K0)) Q (F0 m pc ls1 [.int res.1])) (x1 : Int32) (x2 : Int32) (F : PF) (G : PG) (hm : cb_X11_joined_174 fu x1 x2 F G = some res) {b : Nat} {H : Heap} {locs : List Loc} (hw : cMW s A v a b K0 F G H locs) {ls : Array Slot} (hl : lv_has ls 3 [(1, .int x1), (2, .int x2)]) : W p l e R s m args below meth c H locs (xn F - xn K0) (2 * (xn F - xn K0)) Q (F0 m 174 ls []) := by
  have hx := C.1
  have hb := C.2.1
  unfold cb_X11_joined_174 at hm
  refine lv_iload_n hx hb dX11_joined_174 rfl (lv_at hl 0 rfl) ?_
  refine lv_iload_n hx hb dX11_joined_175 rfl (lv_at hl 1 rfl) ?_
  refine lv_iadd hx hb dX11_joined_176 ?_
  obtain rfl := Option.some.inj hm
  exact hret _ _ _ _ _ hw rfl dX11_joined_177
theorem cn_X11_joined_178 (fu : Nat) {res : Int32 × PF × PG} (x1 : Int32) (x2 : Int32) (F : PF) (G : PG) (hm : cb_X11_joined_178 fu x1 x2 F G = some res) : xn F ≤ xn res.2.1 := by
  unfold cb_X11_joined_178 at hm
  obtain rfl := Option.some.inj hm
  exact Nat.le_refl _
theorem cw_X11_joined_178 (fu : Nat) {res : Int32 × PF × PG} (C : cMC p R s m args c A v RX11 cX11_joined 3 0 0 (xn res.2.1 - xn K0)) (hret : ∀ (b1 : Nat) (H1 : Heap) (locs1 : List Loc) (ls1 : Array Slot) (pc : Nat), cMW s A v a b1 K0 res.2.1 res.2.2 H1 locs1 → narrow .int (.int res.1) = .int res.1 → decode cX11_joined pc = .ok (.ireturn, 1) → W p l e R s m args below meth c H1 locs1 (xn res.2.1 - xn K0) (2 * (xn res.2.1 - xn K0)) Q (F0 m pc ls1 [.int res.1])) (x1 : Int32) (x2 : Int32) (F : PF) (G : PG) (hm : cb_X11_joined_178 fu x1 x2 F G = some res) {b : Nat} {H : Heap} {locs : List Loc} (hw : cMW s A v a b K0 F G H locs) {ls : Array Slot} (hl : lv_has ls 3 [(1, .int x1), (2, .int x2)]) : W p l e R s m args below meth c H locs (xn F - xn K0) (2 * (xn F - xn K0)) Q (F0 m 178 ls []) := by
  have hx := C.1
  have hb := C.2.1
  unfold cb_X11_joined_178 at hm
  refine lv_iload_n hx hb dX11_joined_178 rfl (lv_at hl 0 rfl) ?_
  refine lv_iload_n hx hb dX11_joined_179 rfl (lv_at hl 1 rfl) ?_
  refine lv_isub hx hb dX11_joined_180 ?_
  obtain rfl := Option.some.inj hm
  exact hret _ _ _ _ _ hw rfl dX11_joined_181
theorem cn_X11_joined_182 (fu : Nat) {res : Int32 × PF × PG} (x1 : Int32) (x2 : Int32) (F : PF) (G : PG) (hm : cb_X11_joined_182 fu x1 x2 F G = some res) : xn F ≤ xn res.2.1 := by
  unfold cb_X11_joined_182 at hm
  obtain rfl := Option.some.inj hm
  exact Nat.le_refl _
theorem cw_X11_joined_182 (fu : Nat) {res : Int32 × PF × PG} (C : cMC p R s m args c A v RX11 cX11_joined 3 0 0 (xn res.2.1 - xn K0)) (hret : ∀ (b1 : Nat) (H1 : Heap) (locs1 : List Loc) (ls1 : Array Slot) (pc : Nat), cMW s A v a b1 K0 res.2.1 res.2.2 H1 locs1 → narrow .int (.int res.1) = .int res.1 → decode cX11_joined pc = .ok (.ireturn, 1) → W p l e R s m args below meth c H1 locs1 (xn res.2.1 - xn K0) (2 * (xn res.2.1 - xn K0)) Q (F0 m pc ls1 [.int res.1])) (x1 : Int32) (x2 : Int32) (F : PF) (G : PG) (hm : cb_X11_joined_182 fu x1 x2 F G = some res) {b : Nat} {H : Heap} {locs : List Loc} (hw : cMW s A v a b K0 F G H locs) {ls : Array Slot} (hl : lv_has ls 3 [(1, .int x1), (2, .int x2)]) : W p l e R s m args below meth c H locs (xn F - xn K0) (2 * (xn F - xn K0)) Q (F0 m 182 ls []) := by
  have hx := C.1
  have hb := C.2.1
  unfold cb_X11_joined_182 at hm
  refine lv_iload_n hx hb dX11_joined_182 rfl (lv_at hl 0 rfl) ?_
  refine lv_iload_n hx hb dX11_joined_183 rfl (lv_at hl 1 rfl) ?_
  refine lv_imul hx hb dX11_joined_184 ?_
  obtain rfl := Option.some.inj hm
  exact hret _ _ _ _ _ hw rfl dX11_joined_185
theorem cn_X11_joined_207 (fu : Nat) {res : Int32 × PF × PG} (z0 : Int32) (F : PF) (G : PG) (hm : cb_X11_joined_207 fu z0 F G = some res) : xn F ≤ xn res.2.1 := by
  unfold cb_X11_joined_207 at hm
  obtain rfl := Option.some.inj hm
  exact Nat.le_refl _
theorem cw_X11_joined_207 (fu : Nat) {res : Int32 × PF × PG} (C : cMC p R s m args c A v RX11 cX11_joined 3 0 0 (xn res.2.1 - xn K0)) (hret : ∀ (b1 : Nat) (H1 : Heap) (locs1 : List Loc) (ls1 : Array Slot) (pc : Nat), cMW s A v a b1 K0 res.2.1 res.2.2 H1 locs1 → narrow .int (.int res.1) = .int res.1 → decode cX11_joined pc = .ok (.ireturn, 1) → W p l e R s m args below meth c H1 locs1 (xn res.2.1 - xn K0) (2 * (xn res.2.1 - xn K0)) Q (F0 m pc ls1 [.int res.1])) (z0 : Int32) (F : PF) (G : PG) (hm : cb_X11_joined_207 fu z0 F G = some res) {b : Nat} {H : Heap} {locs : List Loc} (hw : cMW s A v a b K0 F G H locs) {ls : Array Slot} (hl : lv_has ls 3 []) : W p l e R s m args below meth c H locs (xn F - xn K0) (2 * (xn F - xn K0)) Q (F0 m 207 ls [.int z0]) := by
  have hx := C.1
  have hb := C.2.1
  unfold cb_X11_joined_207 at hm
  obtain rfl := Option.some.inj hm
  exact hret _ _ _ _ _ hw rfl dX11_joined_207
theorem cn_X11_joined_204 (fu : Nat) {res : Int32 × PF × PG} (x1 : Int32) (x2 : Int32) (F : PF) (G : PG) (hm : cb_X11_joined_204 fu x1 x2 F G = some res) : xn F ≤ xn res.2.1 := by
  unfold cb_X11_joined_204 at hm
  have hm := (nz_elim hm).2
  exact (cn_X11_joined_207 fu (x1 / x2) F G hm)
theorem cw_X11_joined_204 (fu : Nat) {res : Int32 × PF × PG} (C : cMC p R s m args c A v RX11 cX11_joined 3 0 0 (xn res.2.1 - xn K0)) (hret : ∀ (b1 : Nat) (H1 : Heap) (locs1 : List Loc) (ls1 : Array Slot) (pc : Nat), cMW s A v a b1 K0 res.2.1 res.2.2 H1 locs1 → narrow .int (.int res.1) = .int res.1 → decode cX11_joined pc = .ok (.ireturn, 1) → W p l e R s m args below meth c H1 locs1 (xn res.2.1 - xn K0) (2 * (xn res.2.1 - xn K0)) Q (F0 m pc ls1 [.int res.1])) (x1 : Int32) (x2 : Int32) (F : PF) (G : PG) (hm : cb_X11_joined_204 fu x1 x2 F G = some res) {b : Nat} {H : Heap} {locs : List Loc} (hw : cMW s A v a b K0 F G H locs) {ls : Array Slot} (hl : lv_has ls 3 [(1, .int x1), (2, .int x2)]) : W p l e R s m args below meth c H locs (xn F - xn K0) (2 * (xn F - xn K0)) Q (F0 m 204 ls []) := by
  have hx := C.1
  have hb := C.2.1
  unfold cb_X11_joined_204 at hm
  refine lv_iload_n hx hb dX11_joined_204 rfl (lv_at hl 0 rfl) ?_
  refine lv_iload_n hx hb dX11_joined_205 rfl (lv_at hl 1 rfl) ?_
  obtain ⟨hne, hm⟩ := nz_elim hm
  refine lv_idiv hx hb dX11_joined_206 hne ?_
  exact cw_X11_joined_207 fu C hret (x1 / x2) F G hm hw (lv_sub hl [] rfl)
theorem cn_X11_joined_199 (fu : Nat) {res : Int32 × PF × PG} (x1 : Int32) (F : PF) (G : PG) (hm : cb_X11_joined_199 fu x1 F G = some res) : xn F ≤ xn res.2.1 := by
  unfold cb_X11_joined_199 at hm
  exact (cn_X11_joined_207 fu (-x1) F G hm)
theorem cw_X11_joined_199 (fu : Nat) {res : Int32 × PF × PG} (C : cMC p R s m args c A v RX11 cX11_joined 3 0 0 (xn res.2.1 - xn K0)) (hret : ∀ (b1 : Nat) (H1 : Heap) (locs1 : List Loc) (ls1 : Array Slot) (pc : Nat), cMW s A v a b1 K0 res.2.1 res.2.2 H1 locs1 → narrow .int (.int res.1) = .int res.1 → decode cX11_joined pc = .ok (.ireturn, 1) → W p l e R s m args below meth c H1 locs1 (xn res.2.1 - xn K0) (2 * (xn res.2.1 - xn K0)) Q (F0 m pc ls1 [.int res.1])) (x1 : Int32) (F : PF) (G : PG) (hm : cb_X11_joined_199 fu x1 F G = some res) {b : Nat} {H : Heap} {locs : List Loc} (hw : cMW s A v a b K0 F G H locs) {ls : Array Slot} (hl : lv_has ls 3 [(1, .int x1)]) : W p l e R s m args below meth c H locs (xn F - xn K0) (2 * (xn F - xn K0)) Q (F0 m 199 ls []) := by
  have hx := C.1
  have hb := C.2.1
  unfold cb_X11_joined_199 at hm
  refine lv_iload_n hx hb dX11_joined_199 rfl (lv_at hl 0 rfl) ?_
  refine lv_ineg hx hb dX11_joined_200 ?_
  refine lv_goto (tgt := 207) hx hb dX11_joined_201 (by decide) ?_
  exact cw_X11_joined_207 fu C hret (-x1) F G hm hw (lv_sub hl [] rfl)
theorem cn_X11_joined_194 (fu : Nat) {res : Int32 × PF × PG} (x1 : Int32) (x2 : Int32) (F : PF) (G : PG) (hm : cb_X11_joined_194 fu x1 x2 F G = some res) : xn F ≤ xn res.2.1 := by
  unfold cb_X11_joined_194 at hm
  by_cases c_1 : x2 = (-1 : Int32)
  · have hm := (if_pos c_1).symm.trans hm
    exact (cn_X11_joined_199 fu x1 F G hm)
  · have hm := (if_neg c_1).symm.trans hm
    exact (cn_X11_joined_204 fu x1 x2 F G hm)
theorem cw_X11_joined_194 (fu : Nat) {res : Int32 × PF × PG} (C : cMC p R s m args c A v RX11 cX11_joined 3 0 0 (xn res.2.1 - xn K0)) (hret : ∀ (b1 : Nat) (H1 : Heap) (locs1 : List Loc) (ls1 : Array Slot) (pc : Nat), cMW s A v a b1 K0 res.2.1 res.2.2 H1 locs1 → narrow .int (.int res.1) = .int res.1 → decode cX11_joined pc = .ok (.ireturn, 1) → W p l e R s m args below meth c H1 locs1 (xn res.2.1 - xn K0) (2 * (xn res.2.1 - xn K0)) Q (F0 m pc ls1 [.int res.1])) (x1 : Int32) (x2 : Int32) (F : PF) (G : PG) (hm : cb_X11_joined_194 fu x1 x2 F G = some res) {b : Nat} {H : Heap} {locs : List Loc} (hw : cMW s A v a b K0 F G H locs) {ls : Array Slot} (hl : lv_has ls 3 [(1, .int x1), (2, .int x2)]) : W p l e R s m args below meth c H locs (xn F - xn K0) (2 * (xn F - xn K0)) Q (F0 m 194 ls []) := by
  have hx := C.1
  have hb := C.2.1
  unfold cb_X11_joined_194 at hm
  refine lv_iload_n hx hb dX11_joined_194 rfl (lv_at hl 1 rfl) ?_
  refine lv_iconst (v := (-1)) hx hb dX11_joined_195 (by decide) ?_
  refine lv_icmp_ne (tgt := 204) hx hb dX11_joined_196 (by decide) (fun c_1 => ?_) (fun c_1 => ?_)
  · have hm := (if_neg c_1).symm.trans hm
    exact cw_X11_joined_204 fu C hret x1 x2 F G hm hw (lv_sub hl [0, 1] rfl)
  · have hm := (if_pos c_1).symm.trans hm
    exact cw_X11_joined_199 fu C hret x1 F G hm hw (lv_sub hl [0] rfl)
theorem cn_X11_joined_190 (fu : Nat) {res : Int32 × PF × PG} (F : PF) (G : PG) (hm : cb_X11_joined_190 fu F G = some res) : xn F ≤ xn res.2.1 := by
  unfold cb_X11_joined_190 at hm
  exact (cn_X11_joined_207 fu (-1) F G hm)
theorem cw_X11_joined_190 (fu : Nat) {res : Int32 × PF × PG} (C : cMC p R s m args c A v RX11 cX11_joined 3 0 0 (xn res.2.1 - xn K0)) (hret : ∀ (b1 : Nat) (H1 : Heap) (locs1 : List Loc) (ls1 : Array Slot) (pc : Nat), cMW s A v a b1 K0 res.2.1 res.2.2 H1 locs1 → narrow .int (.int res.1) = .int res.1 → decode cX11_joined pc = .ok (.ireturn, 1) → W p l e R s m args below meth c H1 locs1 (xn res.2.1 - xn K0) (2 * (xn res.2.1 - xn K0)) Q (F0 m pc ls1 [.int res.1])) (F : PF) (G : PG) (hm : cb_X11_joined_190 fu F G = some res) {b : Nat} {H : Heap} {locs : List Loc} (hw : cMW s A v a b K0 F G H locs) {ls : Array Slot} (hl : lv_has ls 3 []) : W p l e R s m args below meth c H locs (xn F - xn K0) (2 * (xn F - xn K0)) Q (F0 m 190 ls []) := by
  have hx := C.1
  have hb := C.2.1
  unfold cb_X11_joined_190 at hm
  refine lv_iconst (v := (-1)) hx hb dX11_joined_190 (by decide) ?_
  refine lv_goto (tgt := 207) hx hb dX11_joined_191 (by decide) ?_
  exact cw_X11_joined_207 fu C hret (-1) F G hm hw (lv_sub hl [] rfl)
theorem cn_X11_joined_186 (fu : Nat) {res : Int32 × PF × PG} (x1 : Int32) (x2 : Int32) (F : PF) (G : PG) (hm : cb_X11_joined_186 fu x1 x2 F G = some res) : xn F ≤ xn res.2.1 := by
  unfold cb_X11_joined_186 at hm
  by_cases c_1 : x2 = (0 : Int32)
  · have hm := (if_pos c_1).symm.trans hm
    exact (cn_X11_joined_190 fu F G hm)
  · have hm := (if_neg c_1).symm.trans hm
    exact (cn_X11_joined_194 fu x1 x2 F G hm)
theorem cw_X11_joined_186 (fu : Nat) {res : Int32 × PF × PG} (C : cMC p R s m args c A v RX11 cX11_joined 3 0 0 (xn res.2.1 - xn K0)) (hret : ∀ (b1 : Nat) (H1 : Heap) (locs1 : List Loc) (ls1 : Array Slot) (pc : Nat), cMW s A v a b1 K0 res.2.1 res.2.2 H1 locs1 → narrow .int (.int res.1) = .int res.1 → decode cX11_joined pc = .ok (.ireturn, 1) → W p l e R s m args below meth c H1 locs1 (xn res.2.1 - xn K0) (2 * (xn res.2.1 - xn K0)) Q (F0 m pc ls1 [.int res.1])) (x1 : Int32) (x2 : Int32) (F : PF) (G : PG) (hm : cb_X11_joined_186 fu x1 x2 F G = some res) {b : Nat} {H : Heap} {locs : List Loc} (hw : cMW s A v a b K0 F G H locs) {ls : Array Slot} (hl : lv_has ls 3 [(1, .int x1), (2, .int x2)]) : W p l e R s m args below meth c H locs (xn F - xn K0) (2 * (xn F - xn K0)) Q (F0 m 186 ls []) := by
  have hx := C.1
  have hb := C.2.1
  unfold cb_X11_joined_186 at hm
  refine lv_iload_n hx hb dX11_joined_186 rfl (lv_at hl 1 rfl) ?_
  refine lv_if_ne (tgt := 194) hx hb dX11_joined_187 (by decide) (fun c_1 => ?_) (fun c_1 => ?_)
  · have hm := (if_neg c_1).symm.trans hm
    exact cw_X11_joined_194 fu C hret x1 x2 F G hm hw (lv_sub hl [0, 1] rfl)
  · have hm := (if_pos c_1).symm.trans hm
    exact cw_X11_joined_190 fu C hret F G hm hw (lv_sub hl [] rfl)
theorem cn_X11_joined_228 (fu : Nat) {res : Int32 × PF × PG} (z0 : Int32) (F : PF) (G : PG) (hm : cb_X11_joined_228 fu z0 F G = some res) : xn F ≤ xn res.2.1 := by
  unfold cb_X11_joined_228 at hm
  obtain rfl := Option.some.inj hm
  exact Nat.le_refl _
theorem cw_X11_joined_228 (fu : Nat) {res : Int32 × PF × PG} (C : cMC p R s m args c A v RX11 cX11_joined 3 0 0 (xn res.2.1 - xn K0)) (hret : ∀ (b1 : Nat) (H1 : Heap) (locs1 : List Loc) (ls1 : Array Slot) (pc : Nat), cMW s A v a b1 K0 res.2.1 res.2.2 H1 locs1 → narrow .int (.int res.1) = .int res.1 → decode cX11_joined pc = .ok (.ireturn, 1) → W p l e R s m args below meth c H1 locs1 (xn res.2.1 - xn K0) (2 * (xn res.2.1 - xn K0)) Q (F0 m pc ls1 [.int res.1])) (z0 : Int32) (F : PF) (G : PG) (hm : cb_X11_joined_228 fu z0 F G = some res) {b : Nat} {H : Heap} {locs : List Loc} (hw : cMW s A v a b K0 F G H locs) {ls : Array Slot} (hl : lv_has ls 3 []) : W p l e R s m args below meth c H locs (xn F - xn K0) (2 * (xn F - xn K0)) Q (F0 m 228 ls [.int z0]) := by
  have hx := C.1
  have hb := C.2.1
  unfold cb_X11_joined_228 at hm
  obtain rfl := Option.some.inj hm
  exact hret _ _ _ _ _ hw rfl dX11_joined_228
theorem cn_X11_joined_225 (fu : Nat) {res : Int32 × PF × PG} (x1 : Int32) (x2 : Int32) (F : PF) (G : PG) (hm : cb_X11_joined_225 fu x1 x2 F G = some res) : xn F ≤ xn res.2.1 := by
  unfold cb_X11_joined_225 at hm
  have hm := (nz_elim hm).2
  exact (cn_X11_joined_228 fu (x1 - x1 / x2 * x2) F G hm)
theorem cw_X11_joined_225 (fu : Nat) {res : Int32 × PF × PG} (C : cMC p R s m args c A v RX11 cX11_joined 3 0 0 (xn res.2.1 - xn K0)) (hret : ∀ (b1 : Nat) (H1 : Heap) (locs1 : List Loc) (ls1 : Array Slot) (pc : Nat), cMW s A v a b1 K0 res.2.1 res.2.2 H1 locs1 → narrow .int (.int res.1) = .int res.1 → decode cX11_joined pc = .ok (.ireturn, 1) → W p l e R s m args below meth c H1 locs1 (xn res.2.1 - xn K0) (2 * (xn res.2.1 - xn K0)) Q (F0 m pc ls1 [.int res.1])) (x1 : Int32) (x2 : Int32) (F : PF) (G : PG) (hm : cb_X11_joined_225 fu x1 x2 F G = some res) {b : Nat} {H : Heap} {locs : List Loc} (hw : cMW s A v a b K0 F G H locs) {ls : Array Slot} (hl : lv_has ls 3 [(1, .int x1), (2, .int x2)]) : W p l e R s m args below meth c H locs (xn F - xn K0) (2 * (xn F - xn K0)) Q (F0 m 225 ls []) := by
  have hx := C.1
  have hb := C.2.1
  unfold cb_X11_joined_225 at hm
  refine lv_iload_n hx hb dX11_joined_225 rfl (lv_at hl 0 rfl) ?_
  refine lv_iload_n hx hb dX11_joined_226 rfl (lv_at hl 1 rfl) ?_
  obtain ⟨hne, hm⟩ := nz_elim hm
  refine lv_irem hx hb dX11_joined_227 hne ?_
  exact cw_X11_joined_228 fu C hret (x1 - x1 / x2 * x2) F G hm hw (lv_sub hl [] rfl)
theorem cn_X11_joined_221 (fu : Nat) {res : Int32 × PF × PG} (F : PF) (G : PG) (hm : cb_X11_joined_221 fu F G = some res) : xn F ≤ xn res.2.1 := by
  unfold cb_X11_joined_221 at hm
  exact (cn_X11_joined_228 fu 0 F G hm)
theorem cw_X11_joined_221 (fu : Nat) {res : Int32 × PF × PG} (C : cMC p R s m args c A v RX11 cX11_joined 3 0 0 (xn res.2.1 - xn K0)) (hret : ∀ (b1 : Nat) (H1 : Heap) (locs1 : List Loc) (ls1 : Array Slot) (pc : Nat), cMW s A v a b1 K0 res.2.1 res.2.2 H1 locs1 → narrow .int (.int res.1) = .int res.1 → decode cX11_joined pc = .ok (.ireturn, 1) → W p l e R s m args below meth c H1 locs1 (xn res.2.1 - xn K0) (2 * (xn res.2.1 - xn K0)) Q (F0 m pc ls1 [.int res.1])) (F : PF) (G : PG) (hm : cb_X11_joined_221 fu F G = some res) {b : Nat} {H : Heap} {locs : List Loc} (hw : cMW s A v a b K0 F G H locs) {ls : Array Slot} (hl : lv_has ls 3 []) : W p l e R s m args below meth c H locs (xn F - xn K0) (2 * (xn F - xn K0)) Q (F0 m 221 ls []) := by
  have hx := C.1
  have hb := C.2.1
  unfold cb_X11_joined_221 at hm
  refine lv_iconst (v := 0) hx hb dX11_joined_221 (by decide) ?_
  refine lv_goto (tgt := 228) hx hb dX11_joined_222 (by decide) ?_
  exact cw_X11_joined_228 fu C hret 0 F G hm hw (lv_sub hl [] rfl)
theorem cn_X11_joined_216 (fu : Nat) {res : Int32 × PF × PG} (x1 : Int32) (x2 : Int32) (F : PF) (G : PG) (hm : cb_X11_joined_216 fu x1 x2 F G = some res) : xn F ≤ xn res.2.1 := by
  unfold cb_X11_joined_216 at hm
  by_cases c_1 : x2 = (-1 : Int32)
  · have hm := (if_pos c_1).symm.trans hm
    exact (cn_X11_joined_221 fu F G hm)
  · have hm := (if_neg c_1).symm.trans hm
    exact (cn_X11_joined_225 fu x1 x2 F G hm)
theorem cw_X11_joined_216 (fu : Nat) {res : Int32 × PF × PG} (C : cMC p R s m args c A v RX11 cX11_joined 3 0 0 (xn res.2.1 - xn K0)) (hret : ∀ (b1 : Nat) (H1 : Heap) (locs1 : List Loc) (ls1 : Array Slot) (pc : Nat), cMW s A v a b1 K0 res.2.1 res.2.2 H1 locs1 → narrow .int (.int res.1) = .int res.1 → decode cX11_joined pc = .ok (.ireturn, 1) → W p l e R s m args below meth c H1 locs1 (xn res.2.1 - xn K0) (2 * (xn res.2.1 - xn K0)) Q (F0 m pc ls1 [.int res.1])) (x1 : Int32) (x2 : Int32) (F : PF) (G : PG) (hm : cb_X11_joined_216 fu x1 x2 F G = some res) {b : Nat} {H : Heap} {locs : List Loc} (hw : cMW s A v a b K0 F G H locs) {ls : Array Slot} (hl : lv_has ls 3 [(1, .int x1), (2, .int x2)]) : W p l e R s m args below meth c H locs (xn F - xn K0) (2 * (xn F - xn K0)) Q (F0 m 216 ls []) := by
  have hx := C.1
  have hb := C.2.1
  unfold cb_X11_joined_216 at hm
  refine lv_iload_n hx hb dX11_joined_216 rfl (lv_at hl 1 rfl) ?_
  refine lv_iconst (v := (-1)) hx hb dX11_joined_217 (by decide) ?_
  refine lv_icmp_ne (tgt := 225) hx hb dX11_joined_218 (by decide) (fun c_1 => ?_) (fun c_1 => ?_)
  · have hm := (if_neg c_1).symm.trans hm
    exact cw_X11_joined_225 fu C hret x1 x2 F G hm hw (lv_sub hl [0, 1] rfl)
  · have hm := (if_pos c_1).symm.trans hm
    exact cw_X11_joined_221 fu C hret F G hm hw (lv_sub hl [] rfl)
theorem cn_X11_joined_212 (fu : Nat) {res : Int32 × PF × PG} (x1 : Int32) (F : PF) (G : PG) (hm : cb_X11_joined_212 fu x1 F G = some res) : xn F ≤ xn res.2.1 := by
  unfold cb_X11_joined_212 at hm
  exact (cn_X11_joined_228 fu x1 F G hm)
theorem cw_X11_joined_212 (fu : Nat) {res : Int32 × PF × PG} (C : cMC p R s m args c A v RX11 cX11_joined 3 0 0 (xn res.2.1 - xn K0)) (hret : ∀ (b1 : Nat) (H1 : Heap) (locs1 : List Loc) (ls1 : Array Slot) (pc : Nat), cMW s A v a b1 K0 res.2.1 res.2.2 H1 locs1 → narrow .int (.int res.1) = .int res.1 → decode cX11_joined pc = .ok (.ireturn, 1) → W p l e R s m args below meth c H1 locs1 (xn res.2.1 - xn K0) (2 * (xn res.2.1 - xn K0)) Q (F0 m pc ls1 [.int res.1])) (x1 : Int32) (F : PF) (G : PG) (hm : cb_X11_joined_212 fu x1 F G = some res) {b : Nat} {H : Heap} {locs : List Loc} (hw : cMW s A v a b K0 F G H locs) {ls : Array Slot} (hl : lv_has ls 3 [(1, .int x1)]) : W p l e R s m args below meth c H locs (xn F - xn K0) (2 * (xn F - xn K0)) Q (F0 m 212 ls []) := by
  have hx := C.1
  have hb := C.2.1
  unfold cb_X11_joined_212 at hm
  refine lv_iload_n hx hb dX11_joined_212 rfl (lv_at hl 0 rfl) ?_
  refine lv_goto (tgt := 228) hx hb dX11_joined_213 (by decide) ?_
  exact cw_X11_joined_228 fu C hret x1 F G hm hw (lv_sub hl [] rfl)
theorem cn_X11_joined_208 (fu : Nat) {res : Int32 × PF × PG} (x1 : Int32) (x2 : Int32) (F : PF) (G : PG) (hm : cb_X11_joined_208 fu x1 x2 F G = some res) : xn F ≤ xn res.2.1 := by
  unfold cb_X11_joined_208 at hm
  by_cases c_1 : x2 = (0 : Int32)
  · have hm := (if_pos c_1).symm.trans hm
    exact (cn_X11_joined_212 fu x1 F G hm)
  · have hm := (if_neg c_1).symm.trans hm
    exact (cn_X11_joined_216 fu x1 x2 F G hm)
theorem cw_X11_joined_208 (fu : Nat) {res : Int32 × PF × PG} (C : cMC p R s m args c A v RX11 cX11_joined 3 0 0 (xn res.2.1 - xn K0)) (hret : ∀ (b1 : Nat) (H1 : Heap) (locs1 : List Loc) (ls1 : Array Slot) (pc : Nat), cMW s A v a b1 K0 res.2.1 res.2.2 H1 locs1 → narrow .int (.int res.1) = .int res.1 → decode cX11_joined pc = .ok (.ireturn, 1) → W p l e R s m args below meth c H1 locs1 (xn res.2.1 - xn K0) (2 * (xn res.2.1 - xn K0)) Q (F0 m pc ls1 [.int res.1])) (x1 : Int32) (x2 : Int32) (F : PF) (G : PG) (hm : cb_X11_joined_208 fu x1 x2 F G = some res) {b : Nat} {H : Heap} {locs : List Loc} (hw : cMW s A v a b K0 F G H locs) {ls : Array Slot} (hl : lv_has ls 3 [(1, .int x1), (2, .int x2)]) : W p l e R s m args below meth c H locs (xn F - xn K0) (2 * (xn F - xn K0)) Q (F0 m 208 ls []) := by
  have hx := C.1
  have hb := C.2.1
  unfold cb_X11_joined_208 at hm
  refine lv_iload_n hx hb dX11_joined_208 rfl (lv_at hl 1 rfl) ?_
  refine lv_if_ne (tgt := 216) hx hb dX11_joined_209 (by decide) (fun c_1 => ?_) (fun c_1 => ?_)
  · have hm := (if_neg c_1).symm.trans hm
    exact cw_X11_joined_216 fu C hret x1 x2 F G hm hw (lv_sub hl [0, 1] rfl)
  · have hm := (if_pos c_1).symm.trans hm
    exact cw_X11_joined_212 fu C hret x1 F G hm hw (lv_sub hl [0] rfl)
theorem cn_X11_joined_229 (fu : Nat) {res : Int32 × PF × PG} (F : PF) (G : PG) (hm : cb_X11_joined_229 fu F G = some res) : xn F ≤ xn res.2.1 := by
  unfold cb_X11_joined_229 at hm
  obtain rfl := Option.some.inj hm
  exact Nat.le_refl _
theorem cw_X11_joined_229 (fu : Nat) {res : Int32 × PF × PG} (C : cMC p R s m args c A v RX11 cX11_joined 3 0 0 (xn res.2.1 - xn K0)) (hret : ∀ (b1 : Nat) (H1 : Heap) (locs1 : List Loc) (ls1 : Array Slot) (pc : Nat), cMW s A v a b1 K0 res.2.1 res.2.2 H1 locs1 → narrow .int (.int res.1) = .int res.1 → decode cX11_joined pc = .ok (.ireturn, 1) → W p l e R s m args below meth c H1 locs1 (xn res.2.1 - xn K0) (2 * (xn res.2.1 - xn K0)) Q (F0 m pc ls1 [.int res.1])) (F : PF) (G : PG) (hm : cb_X11_joined_229 fu F G = some res) {b : Nat} {H : Heap} {locs : List Loc} (hw : cMW s A v a b K0 F G H locs) {ls : Array Slot} (hl : lv_has ls 3 []) : W p l e R s m args below meth c H locs (xn F - xn K0) (2 * (xn F - xn K0)) Q (F0 m 229 ls []) := by
  have hx := C.1
  have hb := C.2.1
  unfold cb_X11_joined_229 at hm
  refine lv_iconst (v := 0) hx hb dX11_joined_229 (by decide) ?_
  obtain rfl := Option.some.inj hm
  exact hret _ _ _ _ _ hw rfl dX11_joined_230
theorem cn_X11_joined_0 (fu : Nat) {res : Int32 × PF × PG} (x0 : Int32) (x1 : Int32) (x2 : Int32) (F : PF) (G : PG) (hm : cb_X11_joined_0 fu x0 x1 x2 F G = some res) : xn F ≤ xn res.2.1 := by
  unfold cb_X11_joined_0 at hm
  by_cases c_0 : x0.toInt < 45 ∨ 61 < x0.toInt
  · have hm := (if_pos c_0).symm.trans hm
    exact (cn_X11_joined_229 fu F G hm)
  have hm := (if_neg c_0).symm.trans hm
  by_cases c_1 : x0 = 45
  · have hm := (if_pos c_1).symm.trans hm
    exact (cn_X11_joined_84 fu x1 x2 F G hm)
  have hm := (if_neg c_1).symm.trans hm
  clear c_1
  by_cases c_1 : x0 = 46
  · have hm := (if_pos c_1).symm.trans hm
    exact (cn_X11_joined_88 fu x1 x2 F G hm)
  have hm := (if_neg c_1).symm.trans hm
  clear c_1
  by_cases c_1 : x0 = 47
  · have hm := (if_pos c_1).symm.trans hm
    exact (cn_X11_joined_92 fu x1 x2 F G hm)
  have hm := (if_neg c_1).symm.trans hm
  clear c_1
  by_cases c_1 : x0 = 48
  · have hm := (if_pos c_1).symm.trans hm
    exact (cn_X11_joined_96 fu x1 x2 F G hm)
  have hm := (if_neg c_1).symm.trans hm
  clear c_1
  by_cases c_1 : x0 = 49
  · have hm := (if_pos c_1).symm.trans hm
    exact (cn_X11_joined_107 fu x1 x2 F G hm)
  have hm := (if_neg c_1).symm.trans hm
  clear c_1
  by_cases c_1 : x0 = 50
  · have hm := (if_pos c_1).symm.trans hm
    exact (cn_X11_joined_118 fu x1 x2 F G hm)
  have hm := (if_neg c_1).symm.trans hm
  clear c_1
  by_cases c_1 : x0 = 51
  · have hm := (if_pos c_1).symm.trans hm
    exact (cn_X11_joined_129 fu x1 x2 F G hm)
  have hm := (if_neg c_1).symm.trans hm
  clear c_1
  by_cases c_1 : x0 = 52
  · have hm := (if_pos c_1).symm.trans hm
    exact (cn_X11_joined_140 fu x1 x2 F G hm)
  have hm := (if_neg c_1).symm.trans hm
  clear c_1
  by_cases c_1 : x0 = 53
  · have hm := (if_pos c_1).symm.trans hm
    exact (cn_X11_joined_151 fu x1 x2 F G hm)
  have hm := (if_neg c_1).symm.trans hm
  clear c_1
  by_cases c_1 : x0 = 54
  · have hm := (if_pos c_1).symm.trans hm
    exact (cn_X11_joined_162 fu x1 x2 F G hm)
  have hm := (if_neg c_1).symm.trans hm
  clear c_1
  by_cases c_1 : x0 = 55
  · have hm := (if_pos c_1).symm.trans hm
    exact (cn_X11_joined_166 fu x1 x2 F G hm)
  have hm := (if_neg c_1).symm.trans hm
  clear c_1
  by_cases c_1 : x0 = 56
  · have hm := (if_pos c_1).symm.trans hm
    exact (cn_X11_joined_170 fu x1 x2 F G hm)
  have hm := (if_neg c_1).symm.trans hm
  clear c_1
  by_cases c_1 : x0 = 57
  · have hm := (if_pos c_1).symm.trans hm
    exact (cn_X11_joined_174 fu x1 x2 F G hm)
  have hm := (if_neg c_1).symm.trans hm
  clear c_1
  by_cases c_1 : x0 = 58
  · have hm := (if_pos c_1).symm.trans hm
    exact (cn_X11_joined_178 fu x1 x2 F G hm)
  have hm := (if_neg c_1).symm.trans hm
  clear c_1
  by_cases c_1 : x0 = 59
  · have hm := (if_pos c_1).symm.trans hm
    exact (cn_X11_joined_182 fu x1 x2 F G hm)
  have hm := (if_neg c_1).symm.trans hm
  clear c_1
  by_cases c_1 : x0 = 60
  · have hm := (if_pos c_1).symm.trans hm
    exact (cn_X11_joined_186 fu x1 x2 F G hm)
  have hm := (if_neg c_1).symm.trans hm
  clear c_1
  exact (cn_X11_joined_208 fu x1 x2 F G hm)
theorem cw_X11_joined_0 (fu : Nat) {res : Int32 × PF × PG} (C : cMC p R s m args c A v RX11 cX11_joined 3 0 0 (xn res.2.1 - xn K0)) (hret : ∀ (b1 : Nat) (H1 : Heap) (locs1 : List Loc) (ls1 : Array Slot) (pc : Nat), cMW s A v a b1 K0 res.2.1 res.2.2 H1 locs1 → narrow .int (.int res.1) = .int res.1 → decode cX11_joined pc = .ok (.ireturn, 1) → W p l e R s m args below meth c H1 locs1 (xn res.2.1 - xn K0) (2 * (xn res.2.1 - xn K0)) Q (F0 m pc ls1 [.int res.1])) (x0 : Int32) (x1 : Int32) (x2 : Int32) (F : PF) (G : PG) (hm : cb_X11_joined_0 fu x0 x1 x2 F G = some res) {b : Nat} {H : Heap} {locs : List Loc} (hw : cMW s A v a b K0 F G H locs) {ls : Array Slot} (hl : lv_has ls 3 [(0, .int x0), (1, .int x1), (2, .int x2)]) : W p l e R s m args below meth c H locs (xn F - xn K0) (2 * (xn F - xn K0)) Q (F0 m 0 ls []) := by
  have hx := C.1
  have hb := C.2.1
  unfold cb_X11_joined_0 at hm
  refine lv_iload_n hx hb dX11_joined_0 rfl (lv_at hl 0 rfl) ?_
  by_cases c_0 : x0.toInt < 45 ∨ 61 < x0.toInt
  · have hm := (if_pos c_0).symm.trans hm
    refine lv_tableOut (tgt := 229) hx hb dX11_joined_1 c_0 (by decide) ?_
    exact cw_X11_joined_229 fu C hret F G hm hw (lv_sub hl [] rfl)
  have hm := (if_neg c_0).symm.trans hm
  by_cases c_1 : x0 = 45
  · have hm := (if_pos c_1).symm.trans hm
    refine my_top 45 c_1 ?_
    refine lv_tableIn (off := 83) (tgt := 84) hx hb dX11_joined_1 (by decide) (by decide) (by decide) (by decide) ?_
    exact cw_X11_joined_84 fu C hret x1 x2 F G hm hw (lv_sub hl [1, 2] rfl)
  have hm := (if_neg c_1).symm.trans hm
  have n_0 := c_1
  clear c_1
  by_cases c_1 : x0 = 46
  · have hm := (if_pos c_1).symm.trans hm
    refine my_top 46 c_1 ?_
    refine lv_tableIn (off := 87) (tgt := 88) hx hb dX11_joined_1 (by decide) (by decide) (by decide) (by decide) ?_
    exact cw_X11_joined_88 fu C hret x1 x2 F G hm hw (lv_sub hl [1, 2] rfl)
  have hm := (if_neg c_1).symm.trans hm
  have n_1 := c_1
  clear c_1
  by_cases c_1 : x0 = 47
  · have hm := (if_pos c_1).symm.trans hm
    refine my_top 47 c_1 ?_
    refine lv_tableIn (off := 91) (tgt := 92) hx hb dX11_joined_1 (by decide) (by decide) (by decide) (by decide) ?_
    exact cw_X11_joined_92 fu C hret x1 x2 F G hm hw (lv_sub hl [1, 2] rfl)
  have hm := (if_neg c_1).symm.trans hm
  have n_2 := c_1
  clear c_1
  by_cases c_1 : x0 = 48
  · have hm := (if_pos c_1).symm.trans hm
    refine my_top 48 c_1 ?_
    refine lv_tableIn (off := 95) (tgt := 96) hx hb dX11_joined_1 (by decide) (by decide) (by decide) (by decide) ?_
    exact cw_X11_joined_96 fu C hret x1 x2 F G hm hw (lv_sub hl [1, 2] rfl)
  have hm := (if_neg c_1).symm.trans hm
  have n_3 := c_1
  clear c_1
  by_cases c_1 : x0 = 49
  · have hm := (if_pos c_1).symm.trans hm
    refine my_top 49 c_1 ?_
    refine lv_tableIn (off := 106) (tgt := 107) hx hb dX11_joined_1 (by decide) (by decide) (by decide) (by decide) ?_
    exact cw_X11_joined_107 fu C hret x1 x2 F G hm hw (lv_sub hl [1, 2] rfl)
  have hm := (if_neg c_1).symm.trans hm
  have n_4 := c_1
  clear c_1
  by_cases c_1 : x0 = 50
  · have hm := (if_pos c_1).symm.trans hm
    refine my_top 50 c_1 ?_
    refine lv_tableIn (off := 117) (tgt := 118) hx hb dX11_joined_1 (by decide) (by decide) (by decide) (by decide) ?_
    exact cw_X11_joined_118 fu C hret x1 x2 F G hm hw (lv_sub hl [1, 2] rfl)
  have hm := (if_neg c_1).symm.trans hm
  have n_5 := c_1
  clear c_1
  by_cases c_1 : x0 = 51
  · have hm := (if_pos c_1).symm.trans hm
    refine my_top 51 c_1 ?_
    refine lv_tableIn (off := 128) (tgt := 129) hx hb dX11_joined_1 (by decide) (by decide) (by decide) (by decide) ?_
    exact cw_X11_joined_129 fu C hret x1 x2 F G hm hw (lv_sub hl [1, 2] rfl)
  have hm := (if_neg c_1).symm.trans hm
  have n_6 := c_1
  clear c_1
  by_cases c_1 : x0 = 52
  · have hm := (if_pos c_1).symm.trans hm
    refine my_top 52 c_1 ?_
    refine lv_tableIn (off := 139) (tgt := 140) hx hb dX11_joined_1 (by decide) (by decide) (by decide) (by decide) ?_
    exact cw_X11_joined_140 fu C hret x1 x2 F G hm hw (lv_sub hl [1, 2] rfl)
  have hm := (if_neg c_1).symm.trans hm
  have n_7 := c_1
  clear c_1
  by_cases c_1 : x0 = 53
  · have hm := (if_pos c_1).symm.trans hm
    refine my_top 53 c_1 ?_
    refine lv_tableIn (off := 150) (tgt := 151) hx hb dX11_joined_1 (by decide) (by decide) (by decide) (by decide) ?_
    exact cw_X11_joined_151 fu C hret x1 x2 F G hm hw (lv_sub hl [1, 2] rfl)
  have hm := (if_neg c_1).symm.trans hm
  have n_8 := c_1
  clear c_1
  by_cases c_1 : x0 = 54
  · have hm := (if_pos c_1).symm.trans hm
    refine my_top 54 c_1 ?_
    refine lv_tableIn (off := 161) (tgt := 162) hx hb dX11_joined_1 (by decide) (by decide) (by decide) (by decide) ?_
    exact cw_X11_joined_162 fu C hret x1 x2 F G hm hw (lv_sub hl [1, 2] rfl)
  have hm := (if_neg c_1).symm.trans hm
  have n_9 := c_1
  clear c_1
  by_cases c_1 : x0 = 55
  · have hm := (if_pos c_1).symm.trans hm
    refine my_top 55 c_1 ?_
    refine lv_tableIn (off := 165) (tgt := 166) hx hb dX11_joined_1 (by decide) (by decide) (by decide) (by decide) ?_
    exact cw_X11_joined_166 fu C hret x1 x2 F G hm hw (lv_sub hl [1, 2] rfl)
  have hm := (if_neg c_1).symm.trans hm
  have n_10 := c_1
  clear c_1
  by_cases c_1 : x0 = 56
  · have hm := (if_pos c_1).symm.trans hm
    refine my_top 56 c_1 ?_
    refine lv_tableIn (off := 169) (tgt := 170) hx hb dX11_joined_1 (by decide) (by decide) (by decide) (by decide) ?_
    exact cw_X11_joined_170 fu C hret x1 x2 F G hm hw (lv_sub hl [1, 2] rfl)
  have hm := (if_neg c_1).symm.trans hm
  have n_11 := c_1
  clear c_1
  by_cases c_1 : x0 = 57
  · have hm := (if_pos c_1).symm.trans hm
    refine my_top 57 c_1 ?_
    refine lv_tableIn (off := 173) (tgt := 174) hx hb dX11_joined_1 (by decide) (by decide) (by decide) (by decide) ?_
    exact cw_X11_joined_174 fu C hret x1 x2 F G hm hw (lv_sub hl [1, 2] rfl)
  have hm := (if_neg c_1).symm.trans hm
  have n_12 := c_1
  clear c_1
  by_cases c_1 : x0 = 58
  · have hm := (if_pos c_1).symm.trans hm
    refine my_top 58 c_1 ?_
    refine lv_tableIn (off := 177) (tgt := 178) hx hb dX11_joined_1 (by decide) (by decide) (by decide) (by decide) ?_
    exact cw_X11_joined_178 fu C hret x1 x2 F G hm hw (lv_sub hl [1, 2] rfl)
  have hm := (if_neg c_1).symm.trans hm
  have n_13 := c_1
  clear c_1
  by_cases c_1 : x0 = 59
  · have hm := (if_pos c_1).symm.trans hm
    refine my_top 59 c_1 ?_
    refine lv_tableIn (off := 181) (tgt := 182) hx hb dX11_joined_1 (by decide) (by decide) (by decide) (by decide) ?_
    exact cw_X11_joined_182 fu C hret x1 x2 F G hm hw (lv_sub hl [1, 2] rfl)
  have hm := (if_neg c_1).symm.trans hm
  have n_14 := c_1
  clear c_1
  by_cases c_1 : x0 = 60
  · have hm := (if_pos c_1).symm.trans hm
    refine my_top 60 c_1 ?_
    refine lv_tableIn (off := 185) (tgt := 186) hx hb dX11_joined_1 (by decide) (by decide) (by decide) (by decide) ?_
    exact cw_X11_joined_186 fu C hret x1 x2 F G hm hw (lv_sub hl [1, 2] rfl)
  have hm := (if_neg c_1).symm.trans hm
  have n_15 := c_1
  clear c_1
  have c_1 : x0 = 61 := my_last (l := 45) (k := 16) c_0 (by decide) (fun j hj => match j, hj with | 0, _ => fun h9 => n_0 (Int32.toInt_inj.mp (h9.trans (by decide))) | 1, _ => fun h9 => n_1 (Int32.toInt_inj.mp (h9.trans (by decide))) | 2, _ => fun h9 => n_2 (Int32.toInt_inj.mp (h9.trans (by decide))) | 3, _ => fun h9 => n_3 (Int32.toInt_inj.mp (h9.trans (by decide))) | 4, _ => fun h9 => n_4 (Int32.toInt_inj.mp (h9.trans (by decide))) | 5, _ => fun h9 => n_5 (Int32.toInt_inj.mp (h9.trans (by decide))) | 6, _ => fun h9 => n_6 (Int32.toInt_inj.mp (h9.trans (by decide))) | 7, _ => fun h9 => n_7 (Int32.toInt_inj.mp (h9.trans (by decide))) | 8, _ => fun h9 => n_8 (Int32.toInt_inj.mp (h9.trans (by decide))) | 9, _ => fun h9 => n_9 (Int32.toInt_inj.mp (h9.trans (by decide))) | 10, _ => fun h9 => n_10 (Int32.toInt_inj.mp (h9.trans (by decide))) | 11, _ => fun h9 => n_11 (Int32.toInt_inj.mp (h9.trans (by decide))) | 12, _ => fun h9 => n_12 (Int32.toInt_inj.mp (h9.trans (by decide))) | 13, _ => fun h9 => n_13 (Int32.toInt_inj.mp (h9.trans (by decide))) | 14, _ => fun h9 => n_14 (Int32.toInt_inj.mp (h9.trans (by decide))) | 15, _ => fun h9 => n_15 (Int32.toInt_inj.mp (h9.trans (by decide))) | q + 16, h => absurd h (by omega)) (by decide)
  refine my_top 61 c_1 ?_
  refine lv_tableIn (off := 207) (tgt := 208) hx hb dX11_joined_1 (by decide) (by decide) (by decide) (by decide) ?_
  exact cw_X11_joined_208 fu C hret x1 x2 F G hm hw (lv_sub hl [1, 2] rfl)
theorem cn_X11_joined (fu : Nat) (x0 : Int32) (x1 : Int32) (x2 : Int32) (F : PF) (G : PG) (q : Int32 × PF × PG) (hm : cf_X11_joined fu x0 x1 x2 F G = some q) : xn F ≤ xn q.2.1 := cn_X11_joined_0 fu x0 x1 x2 F G hm
theorem ck_X11_joined (l : Launch) (v : EV) (a : Nat → Nat) (b sz : Nat) (fu : Nat) (x0 : Int32) (x1 : Int32) (x2 : Int32) (F : PF) (G : PG) (r : Int32) (F1 : PF) (G1 : PG) (hm : cf_X11_joined fu x0 x1 x2 F G = some (r, F1, G1)) : cMI l yX11_joined cX11_joined 3 (some .int) 0 0 v a b sz [.int x0, .int x1, .int x2] F G r F1 G1 := cMI.of (ty := .int) (by decide) rfl (Nat.le_of_ble_eq_true rfl) (fun p e R s m args below meth c Q A H locs ls C hw hl hret => cw_X11_joined_0 fu (res := (r, F1, G1)) C hret x0 x1 x2 F G hm hw hl)
def cb_X0_product_44 (fu : Nat) (x1 : Int32) (x2 : Int32) (F : PF) (G : PG) : PR := some ((x1 * x2), F, G)
def cb_X0_product_48 (fu : Nat) (x1 : Int32) (x2 : Int32) (F : PF) (G : PG) : PR := some (((((x1.toInt64) * (x2.toInt64)) >>> ((32 : Int32).toInt64 &&& 63)).toInt32), F, G)
def cb_X0_product_58 (fu : Nat) (x1 : Int32) (x2 : Int32) (F : PF) (G : PG) : PR := some (((((x1.toInt64) * ((x2.toInt64) &&& (4294967295 : Int64))) >>> ((32 : Int32).toInt64 &&& 63)).toInt32), F, G)
def cb_X0_product_72 (fu : Nat) (x1 : Int32) (x2 : Int32) (F : PF) (G : PG) : PR := some (((((((x1.toInt64) &&& (4294967295 : Int64)) * ((x2.toInt64) &&& (4294967295 : Int64))).toUInt64 >>> ((32 : Int32).toInt64.toUInt64 &&& Int64.toUInt64 63)).toInt64).toInt32), F, G)
def cb_X0_product_97 (fu : Nat) (z0 : Int32) (F : PF) (G : PG) : PR := some (z0, F, G)
def cb_X0_product_90 (fu : Nat) (x1 : Int32) (x2 : Int32) (F : PF) (G : PG) : PR := (cf_X11_joined fu 60 x1 x2 F G).bind (fun q => cb_X0_product_97 fu q.1 q.2.1 q.2.2)
def cb_X0_product_120 (fu : Nat) (z0 : Int32) (F : PF) (G : PG) : PR := some (z0, F, G)
def cb_X0_product_106 (fu : Nat) (x1 : Int32) (x2 : Int32) (F : PF) (G : PG) : PR := if ((x2.toInt64) &&& (4294967295 : Int64)) = 0 then none else (cb_X0_product_120 fu ((((x1.toInt64) &&& (4294967295 : Int64)) / ((x2.toInt64) &&& (4294967295 : Int64))).toInt32) F G)
def cb_X0_product_102 (fu : Nat) (F : PF) (G : PG) : PR := cb_X0_product_120 fu (-1) F G
def cb_X0_product_98 (fu : Nat) (x1 : Int32) (x2 : Int32) (F : PF) (G : PG) : PR := if x2 = (0 : Int32) then cb_X0_product_102 fu F G else cb_X0_product_106 fu x1 x2 F G
def cb_X0_product_128 (fu : Nat) (z0 : Int32) (F : PF) (G : PG) : PR := some (z0, F, G)
def cb_X0_product_121 (fu : Nat) (x1 : Int32) (x2 : Int32) (F : PF) (G : PG) : PR := (cf_X11_joined fu 61 x1 x2 F G).bind (fun q => cb_X0_product_128 fu q.1 q.2.1 q.2.2)
def cb_X0_product_151 (fu : Nat) (z0 : Int32) (F : PF) (G : PG) : PR := some (z0, F, G)
def cb_X0_product_137 (fu : Nat) (x1 : Int32) (x2 : Int32) (F : PF) (G : PG) : PR := if ((x2.toInt64) &&& (4294967295 : Int64)) = 0 then none else (cb_X0_product_151 fu ((((x1.toInt64) &&& (4294967295 : Int64)) - ((x1.toInt64) &&& (4294967295 : Int64)) / ((x2.toInt64) &&& (4294967295 : Int64)) * ((x2.toInt64) &&& (4294967295 : Int64))).toInt32) F G)
def cb_X0_product_133 (fu : Nat) (x1 : Int32) (F : PF) (G : PG) : PR := cb_X0_product_151 fu x1 F G
def cb_X0_product_129 (fu : Nat) (x1 : Int32) (x2 : Int32) (F : PF) (G : PG) : PR := if x2 = (0 : Int32) then cb_X0_product_133 fu x1 F G else cb_X0_product_137 fu x1 x2 F G
def cb_X0_product_0 (fu : Nat) (x0 : Int32) (x1 : Int32) (x2 : Int32) (F : PF) (G : PG) : PR := if x0.toInt < 0 ∨ 6 < x0.toInt then cb_X0_product_129 fu x1 x2 F G else if x0 = 0 then cb_X0_product_44 fu x1 x2 F G else if x0 = 1 then cb_X0_product_48 fu x1 x2 F G else if x0 = 2 then cb_X0_product_58 fu x1 x2 F G else if x0 = 3 then cb_X0_product_72 fu x1 x2 F G else if x0 = 4 then cb_X0_product_90 fu x1 x2 F G else if x0 = 5 then cb_X0_product_98 fu x1 x2 F G else cb_X0_product_121 fu x1 x2 F G
def cf_X0_product (fu : Nat) (x0 : Int32) (x1 : Int32) (x2 : Int32) (F : PF) (G : PG) : PR := cb_X0_product_0 fu x0 x1 x2 F G
theorem cn_X0_product_44 (fu : Nat) {res : Int32 × PF × PG} (x1 : Int32) (x2 : Int32) (F : PF) (G : PG) (hm : cb_X0_product_44 fu x1 x2 F G = some res) : xn F ≤ xn res.2.1 := by
  unfold cb_X0_product_44 at hm
  obtain rfl := Option.some.inj hm
  exact Nat.le_refl _
theorem cw_X0_product_44 (fu : Nat) {res : Int32 × PF × PG} (C : cMC p R s m args c A v RX0 cX0_product 3 1 22 (xn res.2.1 - xn K0)) (hret : ∀ (b1 : Nat) (H1 : Heap) (locs1 : List Loc) (ls1 : Array Slot) (pc : Nat), cMW s A v a b1 K0 res.2.1 res.2.2 H1 locs1 → narrow .int (.int res.1) = .int res.1 → decode cX0_product pc = .ok (.ireturn, 1) → W p l e R s m args below meth c H1 locs1 (xn res.2.1 - xn K0) (2 * (xn res.2.1 - xn K0)) Q (F0 m pc ls1 [.int res.1])) (x1 : Int32) (x2 : Int32) (F : PF) (G : PG) (hm : cb_X0_product_44 fu x1 x2 F G = some res) {b : Nat} {H : Heap} {locs : List Loc} (hw : cMW s A v a b K0 F G H locs) {ls : Array Slot} (hl : lv_has ls 3 [(1, .int x1), (2, .int x2)]) : W p l e R s m args below meth c H locs (xn F - xn K0) (2 * (xn F - xn K0)) Q (F0 m 44 ls []) := by
  have hx := C.1
  have hb := C.2.1
  unfold cb_X0_product_44 at hm
  refine lv_iload_n hx hb dX0_product_44 rfl (lv_at hl 0 rfl) ?_
  refine lv_iload_n hx hb dX0_product_45 rfl (lv_at hl 1 rfl) ?_
  refine lv_imul hx hb dX0_product_46 ?_
  obtain rfl := Option.some.inj hm
  exact hret _ _ _ _ _ hw rfl dX0_product_47
theorem cn_X0_product_48 (fu : Nat) {res : Int32 × PF × PG} (x1 : Int32) (x2 : Int32) (F : PF) (G : PG) (hm : cb_X0_product_48 fu x1 x2 F G = some res) : xn F ≤ xn res.2.1 := by
  unfold cb_X0_product_48 at hm
  obtain rfl := Option.some.inj hm
  exact Nat.le_refl _
theorem cw_X0_product_48 (fu : Nat) {res : Int32 × PF × PG} (C : cMC p R s m args c A v RX0 cX0_product 3 1 22 (xn res.2.1 - xn K0)) (hret : ∀ (b1 : Nat) (H1 : Heap) (locs1 : List Loc) (ls1 : Array Slot) (pc : Nat), cMW s A v a b1 K0 res.2.1 res.2.2 H1 locs1 → narrow .int (.int res.1) = .int res.1 → decode cX0_product pc = .ok (.ireturn, 1) → W p l e R s m args below meth c H1 locs1 (xn res.2.1 - xn K0) (2 * (xn res.2.1 - xn K0)) Q (F0 m pc ls1 [.int res.1])) (x1 : Int32) (x2 : Int32) (F : PF) (G : PG) (hm : cb_X0_product_48 fu x1 x2 F G = some res) {b : Nat} {H : Heap} {locs : List Loc} (hw : cMW s A v a b K0 F G H locs) {ls : Array Slot} (hl : lv_has ls 3 [(1, .int x1), (2, .int x2)]) : W p l e R s m args below meth c H locs (xn F - xn K0) (2 * (xn F - xn K0)) Q (F0 m 48 ls []) := by
  have hx := C.1
  have hb := C.2.1
  unfold cb_X0_product_48 at hm
  refine lv_iload_n hx hb dX0_product_48 rfl (lv_at hl 0 rfl) ?_
  refine lv_i2l hx hb dX0_product_49 rfl ?_
  refine lv_iload_n hx hb dX0_product_50 rfl (lv_at hl 1 rfl) ?_
  refine lv_i2l hx hb dX0_product_51 rfl ?_
  refine lv_lmul hx hb dX0_product_52 ?_
  refine lv_bipush (v := 32) hx hb dX0_product_53 (by decide) ?_
  refine lv_lshr hx hb dX0_product_55 rfl ?_
  refine lv_l2i hx hb dX0_product_56 rfl ?_
  obtain rfl := Option.some.inj hm
  exact hret _ _ _ _ _ hw rfl dX0_product_57
theorem cn_X0_product_58 (fu : Nat) {res : Int32 × PF × PG} (x1 : Int32) (x2 : Int32) (F : PF) (G : PG) (hm : cb_X0_product_58 fu x1 x2 F G = some res) : xn F ≤ xn res.2.1 := by
  unfold cb_X0_product_58 at hm
  obtain rfl := Option.some.inj hm
  exact Nat.le_refl _
theorem cw_X0_product_58 (fu : Nat) {res : Int32 × PF × PG} (C : cMC p R s m args c A v RX0 cX0_product 3 1 22 (xn res.2.1 - xn K0)) (hret : ∀ (b1 : Nat) (H1 : Heap) (locs1 : List Loc) (ls1 : Array Slot) (pc : Nat), cMW s A v a b1 K0 res.2.1 res.2.2 H1 locs1 → narrow .int (.int res.1) = .int res.1 → decode cX0_product pc = .ok (.ireturn, 1) → W p l e R s m args below meth c H1 locs1 (xn res.2.1 - xn K0) (2 * (xn res.2.1 - xn K0)) Q (F0 m pc ls1 [.int res.1])) (x1 : Int32) (x2 : Int32) (F : PF) (G : PG) (hm : cb_X0_product_58 fu x1 x2 F G = some res) {b : Nat} {H : Heap} {locs : List Loc} (hw : cMW s A v a b K0 F G H locs) {ls : Array Slot} (hl : lv_has ls 3 [(1, .int x1), (2, .int x2)]) : W p l e R s m args below meth c H locs (xn F - xn K0) (2 * (xn F - xn K0)) Q (F0 m 58 ls []) := by
  have hx := C.1
  have hb := C.2.1
  unfold cb_X0_product_58 at hm
  refine lv_iload_n hx hb dX0_product_58 rfl (lv_at hl 0 rfl) ?_
  refine lv_i2l hx hb dX0_product_59 rfl ?_
  refine lv_iload_n hx hb dX0_product_60 rfl (lv_at hl 1 rfl) ?_
  refine lv_i2l hx hb dX0_product_61 rfl ?_
  refine lv_ldc2 (v := 4294967295) hx hb C.2.2.2.1 (C.2.2.2.2.1 _ cm_983) dX0_product_62 ?_
  refine lv_land hx hb dX0_product_65 ?_
  refine lv_lmul hx hb dX0_product_66 ?_
  refine lv_bipush (v := 32) hx hb dX0_product_67 (by decide) ?_
  refine lv_lshr hx hb dX0_product_69 rfl ?_
  refine lv_l2i hx hb dX0_product_70 rfl ?_
  obtain rfl := Option.some.inj hm
  exact hret _ _ _ _ _ hw rfl dX0_product_71
theorem cn_X0_product_72 (fu : Nat) {res : Int32 × PF × PG} (x1 : Int32) (x2 : Int32) (F : PF) (G : PG) (hm : cb_X0_product_72 fu x1 x2 F G = some res) : xn F ≤ xn res.2.1 := by
  unfold cb_X0_product_72 at hm
  obtain rfl := Option.some.inj hm
  exact Nat.le_refl _
theorem cw_X0_product_72 (fu : Nat) {res : Int32 × PF × PG} (C : cMC p R s m args c A v RX0 cX0_product 3 1 22 (xn res.2.1 - xn K0)) (hret : ∀ (b1 : Nat) (H1 : Heap) (locs1 : List Loc) (ls1 : Array Slot) (pc : Nat), cMW s A v a b1 K0 res.2.1 res.2.2 H1 locs1 → narrow .int (.int res.1) = .int res.1 → decode cX0_product pc = .ok (.ireturn, 1) → W p l e R s m args below meth c H1 locs1 (xn res.2.1 - xn K0) (2 * (xn res.2.1 - xn K0)) Q (F0 m pc ls1 [.int res.1])) (x1 : Int32) (x2 : Int32) (F : PF) (G : PG) (hm : cb_X0_product_72 fu x1 x2 F G = some res) {b : Nat} {H : Heap} {locs : List Loc} (hw : cMW s A v a b K0 F G H locs) {ls : Array Slot} (hl : lv_has ls 3 [(1, .int x1), (2, .int x2)]) : W p l e R s m args below meth c H locs (xn F - xn K0) (2 * (xn F - xn K0)) Q (F0 m 72 ls []) := by
  have hx := C.1
  have hb := C.2.1
  unfold cb_X0_product_72 at hm
  refine lv_iload_n hx hb dX0_product_72 rfl (lv_at hl 0 rfl) ?_
  refine lv_i2l hx hb dX0_product_73 rfl ?_
  refine lv_ldc2 (v := 4294967295) hx hb C.2.2.2.1 (C.2.2.2.2.1 _ cm_983) dX0_product_74 ?_
  refine lv_land hx hb dX0_product_77 ?_
  refine lv_iload_n hx hb dX0_product_78 rfl (lv_at hl 1 rfl) ?_
  refine lv_i2l hx hb dX0_product_79 rfl ?_
  refine lv_ldc2 (v := 4294967295) hx hb C.2.2.2.1 (C.2.2.2.2.1 _ cm_983) dX0_product_80 ?_
  refine lv_land hx hb dX0_product_83 ?_
  refine lv_lmul hx hb dX0_product_84 ?_
  refine lv_bipush (v := 32) hx hb dX0_product_85 (by decide) ?_
  refine lv_lushr hx hb dX0_product_87 rfl ?_
  refine lv_l2i hx hb dX0_product_88 rfl ?_
  obtain rfl := Option.some.inj hm
  exact hret _ _ _ _ _ hw rfl dX0_product_89
theorem cn_X0_product_97 (fu : Nat) {res : Int32 × PF × PG} (z0 : Int32) (F : PF) (G : PG) (hm : cb_X0_product_97 fu z0 F G = some res) : xn F ≤ xn res.2.1 := by
  unfold cb_X0_product_97 at hm
  obtain rfl := Option.some.inj hm
  exact Nat.le_refl _
theorem cw_X0_product_97 (fu : Nat) {res : Int32 × PF × PG} (C : cMC p R s m args c A v RX0 cX0_product 3 1 22 (xn res.2.1 - xn K0)) (hret : ∀ (b1 : Nat) (H1 : Heap) (locs1 : List Loc) (ls1 : Array Slot) (pc : Nat), cMW s A v a b1 K0 res.2.1 res.2.2 H1 locs1 → narrow .int (.int res.1) = .int res.1 → decode cX0_product pc = .ok (.ireturn, 1) → W p l e R s m args below meth c H1 locs1 (xn res.2.1 - xn K0) (2 * (xn res.2.1 - xn K0)) Q (F0 m pc ls1 [.int res.1])) (z0 : Int32) (F : PF) (G : PG) (hm : cb_X0_product_97 fu z0 F G = some res) {b : Nat} {H : Heap} {locs : List Loc} (hw : cMW s A v a b K0 F G H locs) {ls : Array Slot} (hl : lv_has ls 3 []) : W p l e R s m args below meth c H locs (xn F - xn K0) (2 * (xn F - xn K0)) Q (F0 m 97 ls [.int z0]) := by
  have hx := C.1
  have hb := C.2.1
  unfold cb_X0_product_97 at hm
  obtain rfl := Option.some.inj hm
  exact hret _ _ _ _ _ hw rfl dX0_product_97
theorem cn_X0_product_90 (fu : Nat) {res : Int32 × PF × PG} (x1 : Int32) (x2 : Int32) (F : PF) (G : PG) (hm : cb_X0_product_90 fu x1 x2 F G = some res) : xn F ≤ xn res.2.1 := by
  unfold cb_X0_product_90 at hm
  obtain ⟨⟨r1, F1, G1⟩, hc, hm⟩ := bind_elim hm
  exact Nat.le_trans (cn_X11_joined fu 60 x1 x2 F G _ hc) (cn_X0_product_97 fu r1 F1 G1 hm)
theorem cw_X0_product_90 (fu : Nat) {res : Int32 × PF × PG} (C : cMC p R s m args c A v RX0 cX0_product 3 1 22 (xn res.2.1 - xn K0)) (hret : ∀ (b1 : Nat) (H1 : Heap) (locs1 : List Loc) (ls1 : Array Slot) (pc : Nat), cMW s A v a b1 K0 res.2.1 res.2.2 H1 locs1 → narrow .int (.int res.1) = .int res.1 → decode cX0_product pc = .ok (.ireturn, 1) → W p l e R s m args below meth c H1 locs1 (xn res.2.1 - xn K0) (2 * (xn res.2.1 - xn K0)) Q (F0 m pc ls1 [.int res.1])) (x1 : Int32) (x2 : Int32) (F : PF) (G : PG) (hm : cb_X0_product_90 fu x1 x2 F G = some res) {b : Nat} {H : Heap} {locs : List Loc} (hw : cMW s A v a b K0 F G H locs) {ls : Array Slot} (hl : lv_has ls 3 [(1, .int x1), (2, .int x2)]) : W p l e R s m args below meth c H locs (xn F - xn K0) (2 * (xn F - xn K0)) Q (F0 m 90 ls []) := by
  have hx := C.1
  have hb := C.2.1
  unfold cb_X0_product_90 at hm
  refine lv_bipush (v := 60) hx hb dX0_product_90 (by decide) ?_
  refine lv_iload_n hx hb dX0_product_92 rfl (lv_at hl 0 rfl) ?_
  refine lv_iload_n hx hb dX0_product_93 rfl (lv_at hl 1 rfl) ?_
  obtain ⟨⟨r1, F1, G1⟩, hc, hm⟩ := bind_elim hm
  refine ccallIN (n := 3) (As := [.int 60, .int x1, .int x2]) (rest := []) C hw (ck_X11_joined l v a _ _ fu 60 x1 x2 F G r1 F1 G1 hc) (cn_X11_joined fu 60 x1 x2 F G _ hc) (Nat.sub_le_sub_right (cn_X0_product_97 fu r1 F1 G1 hm) _) C.2.2.2.2.2.2.2.2.2.1.2.2.2.2.2.2.2.2.2.2.2.2.2.2.2.2.2.2.2.2.2.1 cm_568 cm_563 cm_569 (by decide +kernel) rfl (by omega) (by omega) hl.1 rfl (Nat.le_of_ble_eq_true rfl) dX0_product_94 (fun b H locs hw => ?_)
  exact cw_X0_product_97 fu C hret r1 F1 G1 hm hw (lv_sub hl [] rfl)
theorem cn_X0_product_120 (fu : Nat) {res : Int32 × PF × PG} (z0 : Int32) (F : PF) (G : PG) (hm : cb_X0_product_120 fu z0 F G = some res) : xn F ≤ xn res.2.1 := by
  unfold cb_X0_product_120 at hm
  obtain rfl := Option.some.inj hm
  exact Nat.le_refl _
theorem cw_X0_product_120 (fu : Nat) {res : Int32 × PF × PG} (C : cMC p R s m args c A v RX0 cX0_product 3 1 22 (xn res.2.1 - xn K0)) (hret : ∀ (b1 : Nat) (H1 : Heap) (locs1 : List Loc) (ls1 : Array Slot) (pc : Nat), cMW s A v a b1 K0 res.2.1 res.2.2 H1 locs1 → narrow .int (.int res.1) = .int res.1 → decode cX0_product pc = .ok (.ireturn, 1) → W p l e R s m args below meth c H1 locs1 (xn res.2.1 - xn K0) (2 * (xn res.2.1 - xn K0)) Q (F0 m pc ls1 [.int res.1])) (z0 : Int32) (F : PF) (G : PG) (hm : cb_X0_product_120 fu z0 F G = some res) {b : Nat} {H : Heap} {locs : List Loc} (hw : cMW s A v a b K0 F G H locs) {ls : Array Slot} (hl : lv_has ls 3 []) : W p l e R s m args below meth c H locs (xn F - xn K0) (2 * (xn F - xn K0)) Q (F0 m 120 ls [.int z0]) := by
  have hx := C.1
  have hb := C.2.1
  unfold cb_X0_product_120 at hm
  obtain rfl := Option.some.inj hm
  exact hret _ _ _ _ _ hw rfl dX0_product_120
theorem cn_X0_product_106 (fu : Nat) {res : Int32 × PF × PG} (x1 : Int32) (x2 : Int32) (F : PF) (G : PG) (hm : cb_X0_product_106 fu x1 x2 F G = some res) : xn F ≤ xn res.2.1 := by
  unfold cb_X0_product_106 at hm
  have hm := (nz_elim hm).2
  exact (cn_X0_product_120 fu ((((x1.toInt64) &&& (4294967295 : Int64)) / ((x2.toInt64) &&& (4294967295 : Int64))).toInt32) F G hm)
theorem cw_X0_product_106 (fu : Nat) {res : Int32 × PF × PG} (C : cMC p R s m args c A v RX0 cX0_product 3 1 22 (xn res.2.1 - xn K0)) (hret : ∀ (b1 : Nat) (H1 : Heap) (locs1 : List Loc) (ls1 : Array Slot) (pc : Nat), cMW s A v a b1 K0 res.2.1 res.2.2 H1 locs1 → narrow .int (.int res.1) = .int res.1 → decode cX0_product pc = .ok (.ireturn, 1) → W p l e R s m args below meth c H1 locs1 (xn res.2.1 - xn K0) (2 * (xn res.2.1 - xn K0)) Q (F0 m pc ls1 [.int res.1])) (x1 : Int32) (x2 : Int32) (F : PF) (G : PG) (hm : cb_X0_product_106 fu x1 x2 F G = some res) {b : Nat} {H : Heap} {locs : List Loc} (hw : cMW s A v a b K0 F G H locs) {ls : Array Slot} (hl : lv_has ls 3 [(1, .int x1), (2, .int x2)]) : W p l e R s m args below meth c H locs (xn F - xn K0) (2 * (xn F - xn K0)) Q (F0 m 106 ls []) := by
  have hx := C.1
  have hb := C.2.1
  unfold cb_X0_product_106 at hm
  refine lv_iload_n hx hb dX0_product_106 rfl (lv_at hl 0 rfl) ?_
  refine lv_i2l hx hb dX0_product_107 rfl ?_
  refine lv_ldc2 (v := 4294967295) hx hb C.2.2.2.1 (C.2.2.2.2.1 _ cm_983) dX0_product_108 ?_
  refine lv_land hx hb dX0_product_111 ?_
  refine lv_iload_n hx hb dX0_product_112 rfl (lv_at hl 1 rfl) ?_
  refine lv_i2l hx hb dX0_product_113 rfl ?_
  refine lv_ldc2 (v := 4294967295) hx hb C.2.2.2.1 (C.2.2.2.2.1 _ cm_983) dX0_product_114 ?_
  refine lv_land hx hb dX0_product_117 ?_
  obtain ⟨hne, hm⟩ := nz_elim hm
  refine lv_ldiv hx hb dX0_product_118 hne ?_
  refine lv_l2i hx hb dX0_product_119 rfl ?_
  exact cw_X0_product_120 fu C hret ((((x1.toInt64) &&& (4294967295 : Int64)) / ((x2.toInt64) &&& (4294967295 : Int64))).toInt32) F G hm hw (lv_sub hl [] rfl)
theorem cn_X0_product_102 (fu : Nat) {res : Int32 × PF × PG} (F : PF) (G : PG) (hm : cb_X0_product_102 fu F G = some res) : xn F ≤ xn res.2.1 := by
  unfold cb_X0_product_102 at hm
  exact (cn_X0_product_120 fu (-1) F G hm)
theorem cw_X0_product_102 (fu : Nat) {res : Int32 × PF × PG} (C : cMC p R s m args c A v RX0 cX0_product 3 1 22 (xn res.2.1 - xn K0)) (hret : ∀ (b1 : Nat) (H1 : Heap) (locs1 : List Loc) (ls1 : Array Slot) (pc : Nat), cMW s A v a b1 K0 res.2.1 res.2.2 H1 locs1 → narrow .int (.int res.1) = .int res.1 → decode cX0_product pc = .ok (.ireturn, 1) → W p l e R s m args below meth c H1 locs1 (xn res.2.1 - xn K0) (2 * (xn res.2.1 - xn K0)) Q (F0 m pc ls1 [.int res.1])) (F : PF) (G : PG) (hm : cb_X0_product_102 fu F G = some res) {b : Nat} {H : Heap} {locs : List Loc} (hw : cMW s A v a b K0 F G H locs) {ls : Array Slot} (hl : lv_has ls 3 []) : W p l e R s m args below meth c H locs (xn F - xn K0) (2 * (xn F - xn K0)) Q (F0 m 102 ls []) := by
  have hx := C.1
  have hb := C.2.1
  unfold cb_X0_product_102 at hm
  refine lv_iconst (v := (-1)) hx hb dX0_product_102 (by decide) ?_
  refine lv_goto (tgt := 120) hx hb dX0_product_103 (by decide) ?_
  exact cw_X0_product_120 fu C hret (-1) F G hm hw (lv_sub hl [] rfl)
theorem cn_X0_product_98 (fu : Nat) {res : Int32 × PF × PG} (x1 : Int32) (x2 : Int32) (F : PF) (G : PG) (hm : cb_X0_product_98 fu x1 x2 F G = some res) : xn F ≤ xn res.2.1 := by
  unfold cb_X0_product_98 at hm
  by_cases c_1 : x2 = (0 : Int32)
  · have hm := (if_pos c_1).symm.trans hm
    exact (cn_X0_product_102 fu F G hm)
  · have hm := (if_neg c_1).symm.trans hm
    exact (cn_X0_product_106 fu x1 x2 F G hm)
theorem cw_X0_product_98 (fu : Nat) {res : Int32 × PF × PG} (C : cMC p R s m args c A v RX0 cX0_product 3 1 22 (xn res.2.1 - xn K0)) (hret : ∀ (b1 : Nat) (H1 : Heap) (locs1 : List Loc) (ls1 : Array Slot) (pc : Nat), cMW s A v a b1 K0 res.2.1 res.2.2 H1 locs1 → narrow .int (.int res.1) = .int res.1 → decode cX0_product pc = .ok (.ireturn, 1) → W p l e R s m args below meth c H1 locs1 (xn res.2.1 - xn K0) (2 * (xn res.2.1 - xn K0)) Q (F0 m pc ls1 [.int res.1])) (x1 : Int32) (x2 : Int32) (F : PF) (G : PG) (hm : cb_X0_product_98 fu x1 x2 F G = some res) {b : Nat} {H : Heap} {locs : List Loc} (hw : cMW s A v a b K0 F G H locs) {ls : Array Slot} (hl : lv_has ls 3 [(1, .int x1), (2, .int x2)]) : W p l e R s m args below meth c H locs (xn F - xn K0) (2 * (xn F - xn K0)) Q (F0 m 98 ls []) := by
  have hx := C.1
  have hb := C.2.1
  unfold cb_X0_product_98 at hm
  refine lv_iload_n hx hb dX0_product_98 rfl (lv_at hl 1 rfl) ?_
  refine lv_if_ne (tgt := 106) hx hb dX0_product_99 (by decide) (fun c_1 => ?_) (fun c_1 => ?_)
  · have hm := (if_neg c_1).symm.trans hm
    exact cw_X0_product_106 fu C hret x1 x2 F G hm hw (lv_sub hl [0, 1] rfl)
  · have hm := (if_pos c_1).symm.trans hm
    exact cw_X0_product_102 fu C hret F G hm hw (lv_sub hl [] rfl)
theorem cn_X0_product_128 (fu : Nat) {res : Int32 × PF × PG} (z0 : Int32) (F : PF) (G : PG) (hm : cb_X0_product_128 fu z0 F G = some res) : xn F ≤ xn res.2.1 := by
  unfold cb_X0_product_128 at hm
  obtain rfl := Option.some.inj hm
  exact Nat.le_refl _
theorem cw_X0_product_128 (fu : Nat) {res : Int32 × PF × PG} (C : cMC p R s m args c A v RX0 cX0_product 3 1 22 (xn res.2.1 - xn K0)) (hret : ∀ (b1 : Nat) (H1 : Heap) (locs1 : List Loc) (ls1 : Array Slot) (pc : Nat), cMW s A v a b1 K0 res.2.1 res.2.2 H1 locs1 → narrow .int (.int res.1) = .int res.1 → decode cX0_product pc = .ok (.ireturn, 1) → W p l e R s m args below meth c H1 locs1 (xn res.2.1 - xn K0) (2 * (xn res.2.1 - xn K0)) Q (F0 m pc ls1 [.int res.1])) (z0 : Int32) (F : PF) (G : PG) (hm : cb_X0_product_128 fu z0 F G = some res) {b : Nat} {H : Heap} {locs : List Loc} (hw : cMW s A v a b K0 F G H locs) {ls : Array Slot} (hl : lv_has ls 3 []) : W p l e R s m args below meth c H locs (xn F - xn K0) (2 * (xn F - xn K0)) Q (F0 m 128 ls [.int z0]) := by
  have hx := C.1
  have hb := C.2.1
  unfold cb_X0_product_128 at hm
  obtain rfl := Option.some.inj hm
  exact hret _ _ _ _ _ hw rfl dX0_product_128
theorem cn_X0_product_121 (fu : Nat) {res : Int32 × PF × PG} (x1 : Int32) (x2 : Int32) (F : PF) (G : PG) (hm : cb_X0_product_121 fu x1 x2 F G = some res) : xn F ≤ xn res.2.1 := by
  unfold cb_X0_product_121 at hm
  obtain ⟨⟨r1, F1, G1⟩, hc, hm⟩ := bind_elim hm
  exact Nat.le_trans (cn_X11_joined fu 61 x1 x2 F G _ hc) (cn_X0_product_128 fu r1 F1 G1 hm)
theorem cw_X0_product_121 (fu : Nat) {res : Int32 × PF × PG} (C : cMC p R s m args c A v RX0 cX0_product 3 1 22 (xn res.2.1 - xn K0)) (hret : ∀ (b1 : Nat) (H1 : Heap) (locs1 : List Loc) (ls1 : Array Slot) (pc : Nat), cMW s A v a b1 K0 res.2.1 res.2.2 H1 locs1 → narrow .int (.int res.1) = .int res.1 → decode cX0_product pc = .ok (.ireturn, 1) → W p l e R s m args below meth c H1 locs1 (xn res.2.1 - xn K0) (2 * (xn res.2.1 - xn K0)) Q (F0 m pc ls1 [.int res.1])) (x1 : Int32) (x2 : Int32) (F : PF) (G : PG) (hm : cb_X0_product_121 fu x1 x2 F G = some res) {b : Nat} {H : Heap} {locs : List Loc} (hw : cMW s A v a b K0 F G H locs) {ls : Array Slot} (hl : lv_has ls 3 [(1, .int x1), (2, .int x2)]) : W p l e R s m args below meth c H locs (xn F - xn K0) (2 * (xn F - xn K0)) Q (F0 m 121 ls []) := by
  have hx := C.1
  have hb := C.2.1
  unfold cb_X0_product_121 at hm
  refine lv_bipush (v := 61) hx hb dX0_product_121 (by decide) ?_
  refine lv_iload_n hx hb dX0_product_123 rfl (lv_at hl 0 rfl) ?_
  refine lv_iload_n hx hb dX0_product_124 rfl (lv_at hl 1 rfl) ?_
  obtain ⟨⟨r1, F1, G1⟩, hc, hm⟩ := bind_elim hm
  refine ccallIN (n := 3) (As := [.int 61, .int x1, .int x2]) (rest := []) C hw (ck_X11_joined l v a _ _ fu 61 x1 x2 F G r1 F1 G1 hc) (cn_X11_joined fu 61 x1 x2 F G _ hc) (Nat.sub_le_sub_right (cn_X0_product_128 fu r1 F1 G1 hm) _) C.2.2.2.2.2.2.2.2.2.1.2.2.2.2.2.2.2.2.2.2.2.2.2.2.2.2.2.2.2.2.2.1 cm_568 cm_563 cm_569 (by decide +kernel) rfl (by omega) (by omega) hl.1 rfl (Nat.le_of_ble_eq_true rfl) dX0_product_125 (fun b H locs hw => ?_)
  exact cw_X0_product_128 fu C hret r1 F1 G1 hm hw (lv_sub hl [] rfl)
theorem cn_X0_product_151 (fu : Nat) {res : Int32 × PF × PG} (z0 : Int32) (F : PF) (G : PG) (hm : cb_X0_product_151 fu z0 F G = some res) : xn F ≤ xn res.2.1 := by
  unfold cb_X0_product_151 at hm
  obtain rfl := Option.some.inj hm
  exact Nat.le_refl _
theorem cw_X0_product_151 (fu : Nat) {res : Int32 × PF × PG} (C : cMC p R s m args c A v RX0 cX0_product 3 1 22 (xn res.2.1 - xn K0)) (hret : ∀ (b1 : Nat) (H1 : Heap) (locs1 : List Loc) (ls1 : Array Slot) (pc : Nat), cMW s A v a b1 K0 res.2.1 res.2.2 H1 locs1 → narrow .int (.int res.1) = .int res.1 → decode cX0_product pc = .ok (.ireturn, 1) → W p l e R s m args below meth c H1 locs1 (xn res.2.1 - xn K0) (2 * (xn res.2.1 - xn K0)) Q (F0 m pc ls1 [.int res.1])) (z0 : Int32) (F : PF) (G : PG) (hm : cb_X0_product_151 fu z0 F G = some res) {b : Nat} {H : Heap} {locs : List Loc} (hw : cMW s A v a b K0 F G H locs) {ls : Array Slot} (hl : lv_has ls 3 []) : W p l e R s m args below meth c H locs (xn F - xn K0) (2 * (xn F - xn K0)) Q (F0 m 151 ls [.int z0]) := by
  have hx := C.1
  have hb := C.2.1
  unfold cb_X0_product_151 at hm
  obtain rfl := Option.some.inj hm
  exact hret _ _ _ _ _ hw rfl dX0_product_151
theorem cn_X0_product_137 (fu : Nat) {res : Int32 × PF × PG} (x1 : Int32) (x2 : Int32) (F : PF) (G : PG) (hm : cb_X0_product_137 fu x1 x2 F G = some res) : xn F ≤ xn res.2.1 := by
  unfold cb_X0_product_137 at hm
  have hm := (nz_elim hm).2
  exact (cn_X0_product_151 fu ((((x1.toInt64) &&& (4294967295 : Int64)) - ((x1.toInt64) &&& (4294967295 : Int64)) / ((x2.toInt64) &&& (4294967295 : Int64)) * ((x2.toInt64) &&& (4294967295 : Int64))).toInt32) F G hm)
theorem cw_X0_product_137 (fu : Nat) {res : Int32 × PF × PG} (C : cMC p R s m args c A v RX0 cX0_product 3 1 22 (xn res.2.1 - xn K0)) (hret : ∀ (b1 : Nat) (H1 : Heap) (locs1 : List Loc) (ls1 : Array Slot) (pc : Nat), cMW s A v a b1 K0 res.2.1 res.2.2 H1 locs1 → narrow .int (.int res.1) = .int res.1 → decode cX0_product pc = .ok (.ireturn, 1) → W p l e R s m args below meth c H1 locs1 (xn res.2.1 - xn K0) (2 * (xn res.2.1 - xn K0)) Q (F0 m pc ls1 [.int res.1])) (x1 : Int32) (x2 : Int32) (F : PF) (G : PG) (hm : cb_X0_product_137 fu x1 x2 F G = some res) {b : Nat} {H : Heap} {locs : List Loc} (hw : cMW s A v a b K0 F G H locs) {ls : Array Slot} (hl : lv_has ls 3 [(1, .int x1), (2, .int x2)]) : W p l e R s m args below meth c H locs (xn F - xn K0) (2 * (xn F - xn K0)) Q (F0 m 137 ls []) := by
  have hx := C.1
  have hb := C.2.1
  unfold cb_X0_product_137 at hm
  refine lv_iload_n hx hb dX0_product_137 rfl (lv_at hl 0 rfl) ?_
  refine lv_i2l hx hb dX0_product_138 rfl ?_
  refine lv_ldc2 (v := 4294967295) hx hb C.2.2.2.1 (C.2.2.2.2.1 _ cm_983) dX0_product_139 ?_
  refine lv_land hx hb dX0_product_142 ?_
  refine lv_iload_n hx hb dX0_product_143 rfl (lv_at hl 1 rfl) ?_
  refine lv_i2l hx hb dX0_product_144 rfl ?_
  refine lv_ldc2 (v := 4294967295) hx hb C.2.2.2.1 (C.2.2.2.2.1 _ cm_983) dX0_product_145 ?_
  refine lv_land hx hb dX0_product_148 ?_
  obtain ⟨hne, hm⟩ := nz_elim hm
  refine lv_lrem hx hb dX0_product_149 hne ?_
  refine lv_l2i hx hb dX0_product_150 rfl ?_
  exact cw_X0_product_151 fu C hret ((((x1.toInt64) &&& (4294967295 : Int64)) - ((x1.toInt64) &&& (4294967295 : Int64)) / ((x2.toInt64) &&& (4294967295 : Int64)) * ((x2.toInt64) &&& (4294967295 : Int64))).toInt32) F G hm hw (lv_sub hl [] rfl)
theorem cn_X0_product_133 (fu : Nat) {res : Int32 × PF × PG} (x1 : Int32) (F : PF) (G : PG) (hm : cb_X0_product_133 fu x1 F G = some res) : xn F ≤ xn res.2.1 := by
  unfold cb_X0_product_133 at hm
  exact (cn_X0_product_151 fu x1 F G hm)
theorem cw_X0_product_133 (fu : Nat) {res : Int32 × PF × PG} (C : cMC p R s m args c A v RX0 cX0_product 3 1 22 (xn res.2.1 - xn K0)) (hret : ∀ (b1 : Nat) (H1 : Heap) (locs1 : List Loc) (ls1 : Array Slot) (pc : Nat), cMW s A v a b1 K0 res.2.1 res.2.2 H1 locs1 → narrow .int (.int res.1) = .int res.1 → decode cX0_product pc = .ok (.ireturn, 1) → W p l e R s m args below meth c H1 locs1 (xn res.2.1 - xn K0) (2 * (xn res.2.1 - xn K0)) Q (F0 m pc ls1 [.int res.1])) (x1 : Int32) (F : PF) (G : PG) (hm : cb_X0_product_133 fu x1 F G = some res) {b : Nat} {H : Heap} {locs : List Loc} (hw : cMW s A v a b K0 F G H locs) {ls : Array Slot} (hl : lv_has ls 3 [(1, .int x1)]) : W p l e R s m args below meth c H locs (xn F - xn K0) (2 * (xn F - xn K0)) Q (F0 m 133 ls []) := by
  have hx := C.1
  have hb := C.2.1
  unfold cb_X0_product_133 at hm
  refine lv_iload_n hx hb dX0_product_133 rfl (lv_at hl 0 rfl) ?_
  refine lv_goto (tgt := 151) hx hb dX0_product_134 (by decide) ?_
  exact cw_X0_product_151 fu C hret x1 F G hm hw (lv_sub hl [] rfl)
theorem cn_X0_product_129 (fu : Nat) {res : Int32 × PF × PG} (x1 : Int32) (x2 : Int32) (F : PF) (G : PG) (hm : cb_X0_product_129 fu x1 x2 F G = some res) : xn F ≤ xn res.2.1 := by
  unfold cb_X0_product_129 at hm
  by_cases c_1 : x2 = (0 : Int32)
  · have hm := (if_pos c_1).symm.trans hm
    exact (cn_X0_product_133 fu x1 F G hm)
  · have hm := (if_neg c_1).symm.trans hm
    exact (cn_X0_product_137 fu x1 x2 F G hm)
theorem cw_X0_product_129 (fu : Nat) {res : Int32 × PF × PG} (C : cMC p R s m args c A v RX0 cX0_product 3 1 22 (xn res.2.1 - xn K0)) (hret : ∀ (b1 : Nat) (H1 : Heap) (locs1 : List Loc) (ls1 : Array Slot) (pc : Nat), cMW s A v a b1 K0 res.2.1 res.2.2 H1 locs1 → narrow .int (.int res.1) = .int res.1 → decode cX0_product pc = .ok (.ireturn, 1) → W p l e R s m args below meth c H1 locs1 (xn res.2.1 - xn K0) (2 * (xn res.2.1 - xn K0)) Q (F0 m pc ls1 [.int res.1])) (x1 : Int32) (x2 : Int32) (F : PF) (G : PG) (hm : cb_X0_product_129 fu x1 x2 F G = some res) {b : Nat} {H : Heap} {locs : List Loc} (hw : cMW s A v a b K0 F G H locs) {ls : Array Slot} (hl : lv_has ls 3 [(1, .int x1), (2, .int x2)]) : W p l e R s m args below meth c H locs (xn F - xn K0) (2 * (xn F - xn K0)) Q (F0 m 129 ls []) := by
  have hx := C.1
  have hb := C.2.1
  unfold cb_X0_product_129 at hm
  refine lv_iload_n hx hb dX0_product_129 rfl (lv_at hl 1 rfl) ?_
  refine lv_if_ne (tgt := 137) hx hb dX0_product_130 (by decide) (fun c_1 => ?_) (fun c_1 => ?_)
  · have hm := (if_neg c_1).symm.trans hm
    exact cw_X0_product_137 fu C hret x1 x2 F G hm hw (lv_sub hl [0, 1] rfl)
  · have hm := (if_pos c_1).symm.trans hm
    exact cw_X0_product_133 fu C hret x1 F G hm hw (lv_sub hl [0] rfl)
theorem cn_X0_product_0 (fu : Nat) {res : Int32 × PF × PG} (x0 : Int32) (x1 : Int32) (x2 : Int32) (F : PF) (G : PG) (hm : cb_X0_product_0 fu x0 x1 x2 F G = some res) : xn F ≤ xn res.2.1 := by
  unfold cb_X0_product_0 at hm
  by_cases c_0 : x0.toInt < 0 ∨ 6 < x0.toInt
  · have hm := (if_pos c_0).symm.trans hm
    exact (cn_X0_product_129 fu x1 x2 F G hm)
  have hm := (if_neg c_0).symm.trans hm
  by_cases c_1 : x0 = 0
  · have hm := (if_pos c_1).symm.trans hm
    exact (cn_X0_product_44 fu x1 x2 F G hm)
  have hm := (if_neg c_1).symm.trans hm
  clear c_1
  by_cases c_1 : x0 = 1
  · have hm := (if_pos c_1).symm.trans hm
    exact (cn_X0_product_48 fu x1 x2 F G hm)
  have hm := (if_neg c_1).symm.trans hm
  clear c_1
  by_cases c_1 : x0 = 2
  · have hm := (if_pos c_1).symm.trans hm
    exact (cn_X0_product_58 fu x1 x2 F G hm)
  have hm := (if_neg c_1).symm.trans hm
  clear c_1
  by_cases c_1 : x0 = 3
  · have hm := (if_pos c_1).symm.trans hm
    exact (cn_X0_product_72 fu x1 x2 F G hm)
  have hm := (if_neg c_1).symm.trans hm
  clear c_1
  by_cases c_1 : x0 = 4
  · have hm := (if_pos c_1).symm.trans hm
    exact (cn_X0_product_90 fu x1 x2 F G hm)
  have hm := (if_neg c_1).symm.trans hm
  clear c_1
  by_cases c_1 : x0 = 5
  · have hm := (if_pos c_1).symm.trans hm
    exact (cn_X0_product_98 fu x1 x2 F G hm)
  have hm := (if_neg c_1).symm.trans hm
  clear c_1
  exact (cn_X0_product_121 fu x1 x2 F G hm)
theorem cw_X0_product_0 (fu : Nat) {res : Int32 × PF × PG} (C : cMC p R s m args c A v RX0 cX0_product 3 1 22 (xn res.2.1 - xn K0)) (hret : ∀ (b1 : Nat) (H1 : Heap) (locs1 : List Loc) (ls1 : Array Slot) (pc : Nat), cMW s A v a b1 K0 res.2.1 res.2.2 H1 locs1 → narrow .int (.int res.1) = .int res.1 → decode cX0_product pc = .ok (.ireturn, 1) → W p l e R s m args below meth c H1 locs1 (xn res.2.1 - xn K0) (2 * (xn res.2.1 - xn K0)) Q (F0 m pc ls1 [.int res.1])) (x0 : Int32) (x1 : Int32) (x2 : Int32) (F : PF) (G : PG) (hm : cb_X0_product_0 fu x0 x1 x2 F G = some res) {b : Nat} {H : Heap} {locs : List Loc} (hw : cMW s A v a b K0 F G H locs) {ls : Array Slot} (hl : lv_has ls 3 [(0, .int x0), (1, .int x1), (2, .int x2)]) : W p l e R s m args below meth c H locs (xn F - xn K0) (2 * (xn F - xn K0)) Q (F0 m 0 ls []) := by
  have hx := C.1
  have hb := C.2.1
  unfold cb_X0_product_0 at hm
  refine lv_iload_n hx hb dX0_product_0 rfl (lv_at hl 0 rfl) ?_
  by_cases c_0 : x0.toInt < 0 ∨ 6 < x0.toInt
  · have hm := (if_pos c_0).symm.trans hm
    refine lv_tableOut (tgt := 129) hx hb dX0_product_1 c_0 (by decide) ?_
    exact cw_X0_product_129 fu C hret x1 x2 F G hm hw (lv_sub hl [1, 2] rfl)
  have hm := (if_neg c_0).symm.trans hm
  by_cases c_1 : x0 = 0
  · have hm := (if_pos c_1).symm.trans hm
    refine my_top 0 c_1 ?_
    refine lv_tableIn (off := 43) (tgt := 44) hx hb dX0_product_1 (by decide) (by decide) (by decide) (by decide) ?_
    exact cw_X0_product_44 fu C hret x1 x2 F G hm hw (lv_sub hl [1, 2] rfl)
  have hm := (if_neg c_1).symm.trans hm
  have n_0 := c_1
  clear c_1
  by_cases c_1 : x0 = 1
  · have hm := (if_pos c_1).symm.trans hm
    refine my_top 1 c_1 ?_
    refine lv_tableIn (off := 47) (tgt := 48) hx hb dX0_product_1 (by decide) (by decide) (by decide) (by decide) ?_
    exact cw_X0_product_48 fu C hret x1 x2 F G hm hw (lv_sub hl [1, 2] rfl)
  have hm := (if_neg c_1).symm.trans hm
  have n_1 := c_1
  clear c_1
  by_cases c_1 : x0 = 2
  · have hm := (if_pos c_1).symm.trans hm
    refine my_top 2 c_1 ?_
    refine lv_tableIn (off := 57) (tgt := 58) hx hb dX0_product_1 (by decide) (by decide) (by decide) (by decide) ?_
    exact cw_X0_product_58 fu C hret x1 x2 F G hm hw (lv_sub hl [1, 2] rfl)
  have hm := (if_neg c_1).symm.trans hm
  have n_2 := c_1
  clear c_1
  by_cases c_1 : x0 = 3
  · have hm := (if_pos c_1).symm.trans hm
    refine my_top 3 c_1 ?_
    refine lv_tableIn (off := 71) (tgt := 72) hx hb dX0_product_1 (by decide) (by decide) (by decide) (by decide) ?_
    exact cw_X0_product_72 fu C hret x1 x2 F G hm hw (lv_sub hl [1, 2] rfl)
  have hm := (if_neg c_1).symm.trans hm
  have n_3 := c_1
  clear c_1
  by_cases c_1 : x0 = 4
  · have hm := (if_pos c_1).symm.trans hm
    refine my_top 4 c_1 ?_
    refine lv_tableIn (off := 89) (tgt := 90) hx hb dX0_product_1 (by decide) (by decide) (by decide) (by decide) ?_
    exact cw_X0_product_90 fu C hret x1 x2 F G hm hw (lv_sub hl [1, 2] rfl)
  have hm := (if_neg c_1).symm.trans hm
  have n_4 := c_1
  clear c_1
  by_cases c_1 : x0 = 5
  · have hm := (if_pos c_1).symm.trans hm
    refine my_top 5 c_1 ?_
    refine lv_tableIn (off := 97) (tgt := 98) hx hb dX0_product_1 (by decide) (by decide) (by decide) (by decide) ?_
    exact cw_X0_product_98 fu C hret x1 x2 F G hm hw (lv_sub hl [1, 2] rfl)
  have hm := (if_neg c_1).symm.trans hm
  have n_5 := c_1
  clear c_1
  have c_1 : x0 = 6 := my_last (l := 0) (k := 6) c_0 (by decide) (fun j hj => match j, hj with | 0, _ => fun h9 => n_0 (Int32.toInt_inj.mp (h9.trans (by decide))) | 1, _ => fun h9 => n_1 (Int32.toInt_inj.mp (h9.trans (by decide))) | 2, _ => fun h9 => n_2 (Int32.toInt_inj.mp (h9.trans (by decide))) | 3, _ => fun h9 => n_3 (Int32.toInt_inj.mp (h9.trans (by decide))) | 4, _ => fun h9 => n_4 (Int32.toInt_inj.mp (h9.trans (by decide))) | 5, _ => fun h9 => n_5 (Int32.toInt_inj.mp (h9.trans (by decide))) | q + 6, h => absurd h (by omega)) (by decide)
  refine my_top 6 c_1 ?_
  refine lv_tableIn (off := 120) (tgt := 121) hx hb dX0_product_1 (by decide) (by decide) (by decide) (by decide) ?_
  exact cw_X0_product_121 fu C hret x1 x2 F G hm hw (lv_sub hl [1, 2] rfl)
theorem cn_X0_product (fu : Nat) (x0 : Int32) (x1 : Int32) (x2 : Int32) (F : PF) (G : PG) (q : Int32 × PF × PG) (hm : cf_X0_product fu x0 x1 x2 F G = some q) : xn F ≤ xn q.2.1 := cn_X0_product_0 fu x0 x1 x2 F G hm
theorem ck_X0_product (l : Launch) (v : EV) (a : Nat → Nat) (b sz : Nat) (fu : Nat) (x0 : Int32) (x1 : Int32) (x2 : Int32) (F : PF) (G : PG) (r : Int32) (F1 : PF) (G1 : PG) (hm : cf_X0_product fu x0 x1 x2 F G = some (r, F1, G1)) : cMI l yX0_product cX0_product 3 (some .int) 1 22 v a b sz [.int x0, .int x1, .int x2] F G r F1 G1 := cMI.of (ty := .int) (by decide) rfl (Nat.le_of_ble_eq_true rfl) (fun p e R s m args below meth c Q A H locs ls C hw hl hret => cw_X0_product_0 fu (res := (r, F1, G1)) C hret x0 x1 x2 F G hm hw hl)
def cb_X11_truth_9 (fu : Nat) (z0 : Int32) (F : PF) (G : PG) : PR := some (z0, F, G)
def cb_X11_truth_8 (fu : Nat) (F : PF) (G : PG) : PR := cb_X11_truth_9 fu 0 F G
def cb_X11_truth_4 (fu : Nat) (F : PF) (G : PG) : PR := cb_X11_truth_9 fu 1 F G
def cb_X11_truth_0 (fu : Nat) (x0 : Int32) (F : PF) (G : PG) : PR := if x0 = (0 : Int32) then cb_X11_truth_8 fu F G else cb_X11_truth_4 fu F G
def cf_X11_truth (fu : Nat) (x0 : Int32) (F : PF) (G : PG) : PR := cb_X11_truth_0 fu x0 F G
theorem cn_X11_truth_9 (fu : Nat) {res : Int32 × PF × PG} (z0 : Int32) (F : PF) (G : PG) (hm : cb_X11_truth_9 fu z0 F G = some res) : xn F ≤ xn res.2.1 := by
  unfold cb_X11_truth_9 at hm
  obtain rfl := Option.some.inj hm
  exact Nat.le_refl _
theorem cw_X11_truth_9 (fu : Nat) {res : Int32 × PF × PG} (C : cMC p R s m args c A v RX11 cX11_truth 1 0 0 (xn res.2.1 - xn K0)) (hret : ∀ (b1 : Nat) (H1 : Heap) (locs1 : List Loc) (ls1 : Array Slot) (pc : Nat), cMW s A v a b1 K0 res.2.1 res.2.2 H1 locs1 → narrow .int (.int res.1) = .int res.1 → decode cX11_truth pc = .ok (.ireturn, 1) → W p l e R s m args below meth c H1 locs1 (xn res.2.1 - xn K0) (2 * (xn res.2.1 - xn K0)) Q (F0 m pc ls1 [.int res.1])) (z0 : Int32) (F : PF) (G : PG) (hm : cb_X11_truth_9 fu z0 F G = some res) {b : Nat} {H : Heap} {locs : List Loc} (hw : cMW s A v a b K0 F G H locs) {ls : Array Slot} (hl : lv_has ls 1 []) : W p l e R s m args below meth c H locs (xn F - xn K0) (2 * (xn F - xn K0)) Q (F0 m 9 ls [.int z0]) := by
  have hx := C.1
  have hb := C.2.1
  unfold cb_X11_truth_9 at hm
  obtain rfl := Option.some.inj hm
  exact hret _ _ _ _ _ hw rfl dX11_truth_9
theorem cn_X11_truth_8 (fu : Nat) {res : Int32 × PF × PG} (F : PF) (G : PG) (hm : cb_X11_truth_8 fu F G = some res) : xn F ≤ xn res.2.1 := by
  unfold cb_X11_truth_8 at hm
  exact (cn_X11_truth_9 fu 0 F G hm)
theorem cw_X11_truth_8 (fu : Nat) {res : Int32 × PF × PG} (C : cMC p R s m args c A v RX11 cX11_truth 1 0 0 (xn res.2.1 - xn K0)) (hret : ∀ (b1 : Nat) (H1 : Heap) (locs1 : List Loc) (ls1 : Array Slot) (pc : Nat), cMW s A v a b1 K0 res.2.1 res.2.2 H1 locs1 → narrow .int (.int res.1) = .int res.1 → decode cX11_truth pc = .ok (.ireturn, 1) → W p l e R s m args below meth c H1 locs1 (xn res.2.1 - xn K0) (2 * (xn res.2.1 - xn K0)) Q (F0 m pc ls1 [.int res.1])) (F : PF) (G : PG) (hm : cb_X11_truth_8 fu F G = some res) {b : Nat} {H : Heap} {locs : List Loc} (hw : cMW s A v a b K0 F G H locs) {ls : Array Slot} (hl : lv_has ls 1 []) : W p l e R s m args below meth c H locs (xn F - xn K0) (2 * (xn F - xn K0)) Q (F0 m 8 ls []) := by
  have hx := C.1
  have hb := C.2.1
  unfold cb_X11_truth_8 at hm
  refine lv_iconst (v := 0) hx hb dX11_truth_8 (by decide) ?_
  exact cw_X11_truth_9 fu C hret 0 F G hm hw (lv_sub hl [] rfl)
theorem cn_X11_truth_4 (fu : Nat) {res : Int32 × PF × PG} (F : PF) (G : PG) (hm : cb_X11_truth_4 fu F G = some res) : xn F ≤ xn res.2.1 := by
  unfold cb_X11_truth_4 at hm
  exact (cn_X11_truth_9 fu 1 F G hm)
theorem cw_X11_truth_4 (fu : Nat) {res : Int32 × PF × PG} (C : cMC p R s m args c A v RX11 cX11_truth 1 0 0 (xn res.2.1 - xn K0)) (hret : ∀ (b1 : Nat) (H1 : Heap) (locs1 : List Loc) (ls1 : Array Slot) (pc : Nat), cMW s A v a b1 K0 res.2.1 res.2.2 H1 locs1 → narrow .int (.int res.1) = .int res.1 → decode cX11_truth pc = .ok (.ireturn, 1) → W p l e R s m args below meth c H1 locs1 (xn res.2.1 - xn K0) (2 * (xn res.2.1 - xn K0)) Q (F0 m pc ls1 [.int res.1])) (F : PF) (G : PG) (hm : cb_X11_truth_4 fu F G = some res) {b : Nat} {H : Heap} {locs : List Loc} (hw : cMW s A v a b K0 F G H locs) {ls : Array Slot} (hl : lv_has ls 1 []) : W p l e R s m args below meth c H locs (xn F - xn K0) (2 * (xn F - xn K0)) Q (F0 m 4 ls []) := by
  have hx := C.1
  have hb := C.2.1
  unfold cb_X11_truth_4 at hm
  refine lv_iconst (v := 1) hx hb dX11_truth_4 (by decide) ?_
  refine lv_goto (tgt := 9) hx hb dX11_truth_5 (by decide) ?_
  exact cw_X11_truth_9 fu C hret 1 F G hm hw (lv_sub hl [] rfl)
theorem cn_X11_truth_0 (fu : Nat) {res : Int32 × PF × PG} (x0 : Int32) (F : PF) (G : PG) (hm : cb_X11_truth_0 fu x0 F G = some res) : xn F ≤ xn res.2.1 := by
  unfold cb_X11_truth_0 at hm
  by_cases c_1 : x0 = (0 : Int32)
  · have hm := (if_pos c_1).symm.trans hm
    exact (cn_X11_truth_8 fu F G hm)
  · have hm := (if_neg c_1).symm.trans hm
    exact (cn_X11_truth_4 fu F G hm)
theorem cw_X11_truth_0 (fu : Nat) {res : Int32 × PF × PG} (C : cMC p R s m args c A v RX11 cX11_truth 1 0 0 (xn res.2.1 - xn K0)) (hret : ∀ (b1 : Nat) (H1 : Heap) (locs1 : List Loc) (ls1 : Array Slot) (pc : Nat), cMW s A v a b1 K0 res.2.1 res.2.2 H1 locs1 → narrow .int (.int res.1) = .int res.1 → decode cX11_truth pc = .ok (.ireturn, 1) → W p l e R s m args below meth c H1 locs1 (xn res.2.1 - xn K0) (2 * (xn res.2.1 - xn K0)) Q (F0 m pc ls1 [.int res.1])) (x0 : Int32) (F : PF) (G : PG) (hm : cb_X11_truth_0 fu x0 F G = some res) {b : Nat} {H : Heap} {locs : List Loc} (hw : cMW s A v a b K0 F G H locs) {ls : Array Slot} (hl : lv_has ls 1 [(0, .int x0)]) : W p l e R s m args below meth c H locs (xn F - xn K0) (2 * (xn F - xn K0)) Q (F0 m 0 ls []) := by
  have hx := C.1
  have hb := C.2.1
  unfold cb_X11_truth_0 at hm
  refine lv_iload_n hx hb dX11_truth_0 rfl (lv_at hl 0 rfl) ?_
  refine lv_if_eq (tgt := 8) hx hb dX11_truth_1 (by decide) (fun c_1 => ?_) (fun c_1 => ?_)
  · have hm := (if_pos c_1).symm.trans hm
    exact cw_X11_truth_8 fu C hret F G hm hw (lv_sub hl [] rfl)
  · have hm := (if_neg c_1).symm.trans hm
    exact cw_X11_truth_4 fu C hret F G hm hw (lv_sub hl [] rfl)
theorem cn_X11_truth (fu : Nat) (x0 : Int32) (F : PF) (G : PG) (q : Int32 × PF × PG) (hm : cf_X11_truth fu x0 F G = some q) : xn F ≤ xn q.2.1 := cn_X11_truth_0 fu x0 F G hm
theorem ck_X11_truth (l : Launch) (v : EV) (a : Nat → Nat) (b sz : Nat) (fu : Nat) (x0 : Int32) (F : PF) (G : PG) (r : Int32) (F1 : PF) (G1 : PG) (hm : cf_X11_truth fu x0 F G = some (r, F1, G1)) : cMI l yX11_truth cX11_truth 1 (some .int) 0 0 v a b sz [.int x0] F G r F1 G1 := cMI.of (ty := .int) (by decide) rfl (Nat.le_of_ble_eq_true rfl) (fun p e R s m args below meth c Q A H locs ls C hw hl hret => cw_X11_truth_0 fu (res := (r, F1, G1)) C hret x0 F G hm hw hl)
def cb_X0_isBelow_21 (fu : Nat) (z0 : Int32) (F : PF) (G : PG) : PR := if b01 z0 = true then (some (z0, F, G)) else none
def cb_X0_isBelow_20 (fu : Nat) (F : PF) (G : PG) : PR := cb_X0_isBelow_21 fu 0 F G
def cb_X0_isBelow_16 (fu : Nat) (F : PF) (G : PG) : PR := cb_X0_isBelow_21 fu 1 F G
def cb_X0_isBelow_0 (fu : Nat) (x0 : Int32) (x1 : Int32) (F : PF) (G : PG) : PR := if (0 : Int32) ≤ (lg_cmp ((x0.toInt64) &&& (4294967295 : Int64)) ((x1.toInt64) &&& (4294967295 : Int64))) then cb_X0_isBelow_20 fu F G else cb_X0_isBelow_16 fu F G
def cf_X0_isBelow (fu : Nat) (x0 : Int32) (x1 : Int32) (F : PF) (G : PG) : PR := cb_X0_isBelow_0 fu x0 x1 F G
theorem cn_X0_isBelow_21 (fu : Nat) {res : Int32 × PF × PG} (z0 : Int32) (F : PF) (G : PG) (hm : cb_X0_isBelow_21 fu z0 F G = some res) : xn F ≤ xn res.2.1 := by
  unfold cb_X0_isBelow_21 at hm
  have hm := (b01_elim hm).2
  obtain rfl := Option.some.inj hm
  exact Nat.le_refl _
theorem cw_X0_isBelow_21 (fu : Nat) {res : Int32 × PF × PG} (C : cMC p R s m args c A v RX0 cX0_isBelow 2 0 0 (xn res.2.1 - xn K0)) (hret : ∀ (b1 : Nat) (H1 : Heap) (locs1 : List Loc) (ls1 : Array Slot) (pc : Nat), cMW s A v a b1 K0 res.2.1 res.2.2 H1 locs1 → narrow .boolean (.int res.1) = .int res.1 → decode cX0_isBelow pc = .ok (.ireturn, 1) → W p l e R s m args below meth c H1 locs1 (xn res.2.1 - xn K0) (2 * (xn res.2.1 - xn K0)) Q (F0 m pc ls1 [.int res.1])) (z0 : Int32) (F : PF) (G : PG) (hm : cb_X0_isBelow_21 fu z0 F G = some res) {b : Nat} {H : Heap} {locs : List Loc} (hw : cMW s A v a b K0 F G H locs) {ls : Array Slot} (hl : lv_has ls 2 []) : W p l e R s m args below meth c H locs (xn F - xn K0) (2 * (xn F - xn K0)) Q (F0 m 21 ls [.int z0]) := by
  have hx := C.1
  have hb := C.2.1
  unfold cb_X0_isBelow_21 at hm
  obtain ⟨hz, hm⟩ := b01_elim hm
  obtain rfl := Option.some.inj hm
  exact hret _ _ _ _ _ hw (b01_nar hz) dX0_isBelow_21
theorem cn_X0_isBelow_20 (fu : Nat) {res : Int32 × PF × PG} (F : PF) (G : PG) (hm : cb_X0_isBelow_20 fu F G = some res) : xn F ≤ xn res.2.1 := by
  unfold cb_X0_isBelow_20 at hm
  exact (cn_X0_isBelow_21 fu 0 F G hm)
theorem cw_X0_isBelow_20 (fu : Nat) {res : Int32 × PF × PG} (C : cMC p R s m args c A v RX0 cX0_isBelow 2 0 0 (xn res.2.1 - xn K0)) (hret : ∀ (b1 : Nat) (H1 : Heap) (locs1 : List Loc) (ls1 : Array Slot) (pc : Nat), cMW s A v a b1 K0 res.2.1 res.2.2 H1 locs1 → narrow .boolean (.int res.1) = .int res.1 → decode cX0_isBelow pc = .ok (.ireturn, 1) → W p l e R s m args below meth c H1 locs1 (xn res.2.1 - xn K0) (2 * (xn res.2.1 - xn K0)) Q (F0 m pc ls1 [.int res.1])) (F : PF) (G : PG) (hm : cb_X0_isBelow_20 fu F G = some res) {b : Nat} {H : Heap} {locs : List Loc} (hw : cMW s A v a b K0 F G H locs) {ls : Array Slot} (hl : lv_has ls 2 []) : W p l e R s m args below meth c H locs (xn F - xn K0) (2 * (xn F - xn K0)) Q (F0 m 20 ls []) := by
  have hx := C.1
  have hb := C.2.1
  unfold cb_X0_isBelow_20 at hm
  refine lv_iconst (v := 0) hx hb dX0_isBelow_20 (by decide) ?_
  exact cw_X0_isBelow_21 fu C hret 0 F G hm hw (lv_sub hl [] rfl)
theorem cn_X0_isBelow_16 (fu : Nat) {res : Int32 × PF × PG} (F : PF) (G : PG) (hm : cb_X0_isBelow_16 fu F G = some res) : xn F ≤ xn res.2.1 := by
  unfold cb_X0_isBelow_16 at hm
  exact (cn_X0_isBelow_21 fu 1 F G hm)
theorem cw_X0_isBelow_16 (fu : Nat) {res : Int32 × PF × PG} (C : cMC p R s m args c A v RX0 cX0_isBelow 2 0 0 (xn res.2.1 - xn K0)) (hret : ∀ (b1 : Nat) (H1 : Heap) (locs1 : List Loc) (ls1 : Array Slot) (pc : Nat), cMW s A v a b1 K0 res.2.1 res.2.2 H1 locs1 → narrow .boolean (.int res.1) = .int res.1 → decode cX0_isBelow pc = .ok (.ireturn, 1) → W p l e R s m args below meth c H1 locs1 (xn res.2.1 - xn K0) (2 * (xn res.2.1 - xn K0)) Q (F0 m pc ls1 [.int res.1])) (F : PF) (G : PG) (hm : cb_X0_isBelow_16 fu F G = some res) {b : Nat} {H : Heap} {locs : List Loc} (hw : cMW s A v a b K0 F G H locs) {ls : Array Slot} (hl : lv_has ls 2 []) : W p l e R s m args below meth c H locs (xn F - xn K0) (2 * (xn F - xn K0)) Q (F0 m 16 ls []) := by
  have hx := C.1
  have hb := C.2.1
  unfold cb_X0_isBelow_16 at hm
  refine lv_iconst (v := 1) hx hb dX0_isBelow_16 (by decide) ?_
  refine lv_goto (tgt := 21) hx hb dX0_isBelow_17 (by decide) ?_
  exact cw_X0_isBelow_21 fu C hret 1 F G hm hw (lv_sub hl [] rfl)
theorem cn_X0_isBelow_0 (fu : Nat) {res : Int32 × PF × PG} (x0 : Int32) (x1 : Int32) (F : PF) (G : PG) (hm : cb_X0_isBelow_0 fu x0 x1 F G = some res) : xn F ≤ xn res.2.1 := by
  unfold cb_X0_isBelow_0 at hm
  by_cases c_1 : (0 : Int32) ≤ (lg_cmp ((x0.toInt64) &&& (4294967295 : Int64)) ((x1.toInt64) &&& (4294967295 : Int64)))
  · have hm := (if_pos c_1).symm.trans hm
    exact (cn_X0_isBelow_20 fu F G hm)
  · have hm := (if_neg c_1).symm.trans hm
    exact (cn_X0_isBelow_16 fu F G hm)
theorem cw_X0_isBelow_0 (fu : Nat) {res : Int32 × PF × PG} (C : cMC p R s m args c A v RX0 cX0_isBelow 2 0 0 (xn res.2.1 - xn K0)) (hret : ∀ (b1 : Nat) (H1 : Heap) (locs1 : List Loc) (ls1 : Array Slot) (pc : Nat), cMW s A v a b1 K0 res.2.1 res.2.2 H1 locs1 → narrow .boolean (.int res.1) = .int res.1 → decode cX0_isBelow pc = .ok (.ireturn, 1) → W p l e R s m args below meth c H1 locs1 (xn res.2.1 - xn K0) (2 * (xn res.2.1 - xn K0)) Q (F0 m pc ls1 [.int res.1])) (x0 : Int32) (x1 : Int32) (F : PF) (G : PG) (hm : cb_X0_isBelow_0 fu x0 x1 F G = some res) {b : Nat} {H : Heap} {locs : List Loc} (hw : cMW s A v a b K0 F G H locs) {ls : Array Slot} (hl : lv_has ls 2 [(0, .int x0), (1, .int x1)]) : W p l e R s m args below meth c H locs (xn F - xn K0) (2 * (xn F - xn K0)) Q (F0 m 0 ls []) := by
  have hx := C.1
  have hb := C.2.1
  unfold cb_X0_isBelow_0 at hm
  refine lv_iload_n hx hb dX0_isBelow_0 rfl (lv_at hl 0 rfl) ?_
  refine lv_i2l hx hb dX0_isBelow_1 rfl ?_
  refine lv_ldc2 (v := 4294967295) hx hb C.2.2.2.1 (C.2.2.2.2.1 _ cm_983) dX0_isBelow_2 ?_
  refine lv_land hx hb dX0_isBelow_5 ?_
  refine lv_iload_n hx hb dX0_isBelow_6 rfl (lv_at hl 1 rfl) ?_
  refine lv_i2l hx hb dX0_isBelow_7 rfl ?_
  refine lv_ldc2 (v := 4294967295) hx hb C.2.2.2.1 (C.2.2.2.2.1 _ cm_983) dX0_isBelow_8 ?_
  refine lv_land hx hb dX0_isBelow_11 ?_
  refine W.lcmp hx hb dX0_isBelow_12 ?_
  refine lv_if_ge (tgt := 20) hx hb dX0_isBelow_13 (by decide) (fun c_1 => ?_) (fun c_1 => ?_)
  · have hm := (if_pos c_1).symm.trans hm
    exact cw_X0_isBelow_20 fu C hret F G hm hw (lv_sub hl [] rfl)
  · have hm := (if_neg c_1).symm.trans hm
    exact cw_X0_isBelow_16 fu C hret F G hm hw (lv_sub hl [] rfl)
theorem cn_X0_isBelow (fu : Nat) (x0 : Int32) (x1 : Int32) (F : PF) (G : PG) (q : Int32 × PF × PG) (hm : cf_X0_isBelow fu x0 x1 F G = some q) : xn F ≤ xn q.2.1 := cn_X0_isBelow_0 fu x0 x1 F G hm
theorem ck_X0_isBelow (l : Launch) (v : EV) (a : Nat → Nat) (b sz : Nat) (fu : Nat) (x0 : Int32) (x1 : Int32) (F : PF) (G : PG) (r : Int32) (F1 : PF) (G1 : PG) (hm : cf_X0_isBelow fu x0 x1 F G = some (r, F1, G1)) : cMI l yX0_isBelow cX0_isBelow 2 (some .boolean) 0 0 v a b sz [.int x0, .int x1] F G r F1 G1 := cMI.of (ty := .boolean) (by decide) rfl (Nat.le_of_ble_eq_true rfl) (fun p e R s m args below meth c Q A H locs ls C hw hl hret => cw_X0_isBelow_0 fu (res := (r, F1, G1)) C hret x0 x1 F G hm hw hl)
def cb_X0_plain_57 (fu : Nat) (z0 : Int32) (F : PF) (G : PG) : PR := some (z0, F, G)
def cb_X0_plain_54 (fu : Nat) (x2 : Int32) (x3 : Int32) (F : PF) (G : PG) : PR := cb_X0_plain_57 fu (x2 + x3) F G
def cb_X0_plain_48 (fu : Nat) (x2 : Int32) (x3 : Int32) (F : PF) (G : PG) : PR := cb_X0_plain_57 fu (x2 - x3) F G
def cb_X0_plain_44 (fu : Nat) (x1 : Int32) (x2 : Int32) (x3 : Int32) (F : PF) (G : PG) : PR := if x1 = (0 : Int32) then cb_X0_plain_54 fu x2 x3 F G else cb_X0_plain_48 fu x2 x3 F G
def cb_X0_plain_58 (fu : Nat) (x2 : Int32) (x3 : Int32) (F : PF) (G : PG) : PR := some ((x2 <<< (x3 &&& 31)), F, G)
def cb_X0_plain_75 (fu : Nat) (z0 : Int32) (F : PF) (G : PG) : PR := some (z0, F, G)
def cb_X0_plain_72 (fu : Nat) (z0 : Int32) (F : PF) (G : PG) : PR := (cf_X11_truth fu z0 F G).bind (fun q => cb_X0_plain_75 fu q.1 q.2.1 q.2.2)
def cb_X0_plain_71 (fu : Nat) (F : PF) (G : PG) : PR := cb_X0_plain_72 fu 0 F G
def cb_X0_plain_67 (fu : Nat) (F : PF) (G : PG) : PR := cb_X0_plain_72 fu 1 F G
def cb_X0_plain_62 (fu : Nat) (x2 : Int32) (x3 : Int32) (F : PF) (G : PG) : PR := if x3 ≤ x2 then cb_X0_plain_71 fu F G else cb_X0_plain_67 fu F G
def cb_X0_plain_84 (fu : Nat) (z0 : Int32) (F : PF) (G : PG) : PR := some (z0, F, G)
def cb_X0_plain_81 (fu : Nat) (z0 : Int32) (F : PF) (G : PG) : PR := (cf_X11_truth fu z0 F G).bind (fun q => cb_X0_plain_84 fu q.1 q.2.1 q.2.2)
def cb_X0_plain_76 (fu : Nat) (x2 : Int32) (x3 : Int32) (F : PF) (G : PG) : PR := (cf_X0_isBelow fu x2 x3 F G).bind (fun q => cb_X0_plain_81 fu q.1 q.2.1 q.2.2)
def cb_X0_plain_85 (fu : Nat) (x2 : Int32) (x3 : Int32) (F : PF) (G : PG) : PR := some ((x2 ^^^ x3), F, G)
def cb_X0_plain_102 (fu : Nat) (z0 : Int32) (F : PF) (G : PG) : PR := some (z0, F, G)
def cb_X0_plain_99 (fu : Nat) (x2 : Int32) (x3 : Int32) (F : PF) (G : PG) : PR := cb_X0_plain_102 fu ((x2.toUInt32 >>> (x3.toUInt32 &&& Int32.toUInt32 31)).toInt32) F G
def cb_X0_plain_93 (fu : Nat) (x2 : Int32) (x3 : Int32) (F : PF) (G : PG) : PR := cb_X0_plain_102 fu (x2 >>> (x3 &&& 31)) F G
def cb_X0_plain_89 (fu : Nat) (x1 : Int32) (x2 : Int32) (x3 : Int32) (F : PF) (G : PG) : PR := if x1 = (0 : Int32) then cb_X0_plain_99 fu x2 x3 F G else cb_X0_plain_93 fu x2 x3 F G
def cb_X0_plain_103 (fu : Nat) (x2 : Int32) (x3 : Int32) (F : PF) (G : PG) : PR := some ((x2 ||| x3), F, G)
def cb_X0_plain_107 (fu : Nat) (x2 : Int32) (x3 : Int32) (F : PF) (G : PG) : PR := some ((x2 &&& x3), F, G)
def cb_X0_plain_0 (fu : Nat) (x0 : Int32) (x1 : Int32) (x2 : Int32) (x3 : Int32) (F : PF) (G : PG) : PR := if x0.toInt < 0 ∨ 6 < x0.toInt then cb_X0_plain_107 fu x2 x3 F G else if x0 = 0 then cb_X0_plain_44 fu x1 x2 x3 F G else if x0 = 1 then cb_X0_plain_58 fu x2 x3 F G else if x0 = 2 then cb_X0_plain_62 fu x2 x3 F G else if x0 = 3 then cb_X0_plain_76 fu x2 x3 F G else if x0 = 4 then cb_X0_plain_85 fu x2 x3 F G else if x0 = 5 then cb_X0_plain_89 fu x1 x2 x3 F G else cb_X0_plain_103 fu x2 x3 F G
def cf_X0_plain (fu : Nat) (x0 : Int32) (x1 : Int32) (x2 : Int32) (x3 : Int32) (F : PF) (G : PG) : PR := cb_X0_plain_0 fu x0 x1 x2 x3 F G
theorem cn_X0_plain_57 (fu : Nat) {res : Int32 × PF × PG} (z0 : Int32) (F : PF) (G : PG) (hm : cb_X0_plain_57 fu z0 F G = some res) : xn F ≤ xn res.2.1 := by
  unfold cb_X0_plain_57 at hm
  obtain rfl := Option.some.inj hm
  exact Nat.le_refl _
theorem cw_X0_plain_57 (fu : Nat) {res : Int32 × PF × PG} (C : cMC p R s m args c A v RX0 cX0_plain 4 1 21 (xn res.2.1 - xn K0)) (hret : ∀ (b1 : Nat) (H1 : Heap) (locs1 : List Loc) (ls1 : Array Slot) (pc : Nat), cMW s A v a b1 K0 res.2.1 res.2.2 H1 locs1 → narrow .int (.int res.1) = .int res.1 → decode cX0_plain pc = .ok (.ireturn, 1) → W p l e R s m args below meth c H1 locs1 (xn res.2.1 - xn K0) (2 * (xn res.2.1 - xn K0)) Q (F0 m pc ls1 [.int res.1])) (z0 : Int32) (F : PF) (G : PG) (hm : cb_X0_plain_57 fu z0 F G = some res) {b : Nat} {H : Heap} {locs : List Loc} (hw : cMW s A v a b K0 F G H locs) {ls : Array Slot} (hl : lv_has ls 4 []) : W p l e R s m args below meth c H locs (xn F - xn K0) (2 * (xn F - xn K0)) Q (F0 m 57 ls [.int z0]) := by
  have hx := C.1
  have hb := C.2.1
  unfold cb_X0_plain_57 at hm
  obtain rfl := Option.some.inj hm
  exact hret _ _ _ _ _ hw rfl dX0_plain_57
theorem cn_X0_plain_54 (fu : Nat) {res : Int32 × PF × PG} (x2 : Int32) (x3 : Int32) (F : PF) (G : PG) (hm : cb_X0_plain_54 fu x2 x3 F G = some res) : xn F ≤ xn res.2.1 := by
  unfold cb_X0_plain_54 at hm
  exact (cn_X0_plain_57 fu (x2 + x3) F G hm)
theorem cw_X0_plain_54 (fu : Nat) {res : Int32 × PF × PG} (C : cMC p R s m args c A v RX0 cX0_plain 4 1 21 (xn res.2.1 - xn K0)) (hret : ∀ (b1 : Nat) (H1 : Heap) (locs1 : List Loc) (ls1 : Array Slot) (pc : Nat), cMW s A v a b1 K0 res.2.1 res.2.2 H1 locs1 → narrow .int (.int res.1) = .int res.1 → decode cX0_plain pc = .ok (.ireturn, 1) → W p l e R s m args below meth c H1 locs1 (xn res.2.1 - xn K0) (2 * (xn res.2.1 - xn K0)) Q (F0 m pc ls1 [.int res.1])) (x2 : Int32) (x3 : Int32) (F : PF) (G : PG) (hm : cb_X0_plain_54 fu x2 x3 F G = some res) {b : Nat} {H : Heap} {locs : List Loc} (hw : cMW s A v a b K0 F G H locs) {ls : Array Slot} (hl : lv_has ls 4 [(2, .int x2), (3, .int x3)]) : W p l e R s m args below meth c H locs (xn F - xn K0) (2 * (xn F - xn K0)) Q (F0 m 54 ls []) := by
  have hx := C.1
  have hb := C.2.1
  unfold cb_X0_plain_54 at hm
  refine lv_iload_n hx hb dX0_plain_54 rfl (lv_at hl 0 rfl) ?_
  refine lv_iload_n hx hb dX0_plain_55 rfl (lv_at hl 1 rfl) ?_
  refine lv_iadd hx hb dX0_plain_56 ?_
  exact cw_X0_plain_57 fu C hret (x2 + x3) F G hm hw (lv_sub hl [] rfl)
theorem cn_X0_plain_48 (fu : Nat) {res : Int32 × PF × PG} (x2 : Int32) (x3 : Int32) (F : PF) (G : PG) (hm : cb_X0_plain_48 fu x2 x3 F G = some res) : xn F ≤ xn res.2.1 := by
  unfold cb_X0_plain_48 at hm
  exact (cn_X0_plain_57 fu (x2 - x3) F G hm)
theorem cw_X0_plain_48 (fu : Nat) {res : Int32 × PF × PG} (C : cMC p R s m args c A v RX0 cX0_plain 4 1 21 (xn res.2.1 - xn K0)) (hret : ∀ (b1 : Nat) (H1 : Heap) (locs1 : List Loc) (ls1 : Array Slot) (pc : Nat), cMW s A v a b1 K0 res.2.1 res.2.2 H1 locs1 → narrow .int (.int res.1) = .int res.1 → decode cX0_plain pc = .ok (.ireturn, 1) → W p l e R s m args below meth c H1 locs1 (xn res.2.1 - xn K0) (2 * (xn res.2.1 - xn K0)) Q (F0 m pc ls1 [.int res.1])) (x2 : Int32) (x3 : Int32) (F : PF) (G : PG) (hm : cb_X0_plain_48 fu x2 x3 F G = some res) {b : Nat} {H : Heap} {locs : List Loc} (hw : cMW s A v a b K0 F G H locs) {ls : Array Slot} (hl : lv_has ls 4 [(2, .int x2), (3, .int x3)]) : W p l e R s m args below meth c H locs (xn F - xn K0) (2 * (xn F - xn K0)) Q (F0 m 48 ls []) := by
  have hx := C.1
  have hb := C.2.1
  unfold cb_X0_plain_48 at hm
  refine lv_iload_n hx hb dX0_plain_48 rfl (lv_at hl 0 rfl) ?_
  refine lv_iload_n hx hb dX0_plain_49 rfl (lv_at hl 1 rfl) ?_
  refine lv_isub hx hb dX0_plain_50 ?_
  refine lv_goto (tgt := 57) hx hb dX0_plain_51 (by decide) ?_
  exact cw_X0_plain_57 fu C hret (x2 - x3) F G hm hw (lv_sub hl [] rfl)
theorem cn_X0_plain_44 (fu : Nat) {res : Int32 × PF × PG} (x1 : Int32) (x2 : Int32) (x3 : Int32) (F : PF) (G : PG) (hm : cb_X0_plain_44 fu x1 x2 x3 F G = some res) : xn F ≤ xn res.2.1 := by
  unfold cb_X0_plain_44 at hm
  by_cases c_1 : x1 = (0 : Int32)
  · have hm := (if_pos c_1).symm.trans hm
    exact (cn_X0_plain_54 fu x2 x3 F G hm)
  · have hm := (if_neg c_1).symm.trans hm
    exact (cn_X0_plain_48 fu x2 x3 F G hm)
theorem cw_X0_plain_44 (fu : Nat) {res : Int32 × PF × PG} (C : cMC p R s m args c A v RX0 cX0_plain 4 1 21 (xn res.2.1 - xn K0)) (hret : ∀ (b1 : Nat) (H1 : Heap) (locs1 : List Loc) (ls1 : Array Slot) (pc : Nat), cMW s A v a b1 K0 res.2.1 res.2.2 H1 locs1 → narrow .int (.int res.1) = .int res.1 → decode cX0_plain pc = .ok (.ireturn, 1) → W p l e R s m args below meth c H1 locs1 (xn res.2.1 - xn K0) (2 * (xn res.2.1 - xn K0)) Q (F0 m pc ls1 [.int res.1])) (x1 : Int32) (x2 : Int32) (x3 : Int32) (F : PF) (G : PG) (hm : cb_X0_plain_44 fu x1 x2 x3 F G = some res) {b : Nat} {H : Heap} {locs : List Loc} (hw : cMW s A v a b K0 F G H locs) {ls : Array Slot} (hl : lv_has ls 4 [(1, .int x1), (2, .int x2), (3, .int x3)]) : W p l e R s m args below meth c H locs (xn F - xn K0) (2 * (xn F - xn K0)) Q (F0 m 44 ls []) := by
  have hx := C.1
  have hb := C.2.1
  unfold cb_X0_plain_44 at hm
  refine lv_iload_n hx hb dX0_plain_44 rfl (lv_at hl 0 rfl) ?_
  refine lv_if_eq (tgt := 54) hx hb dX0_plain_45 (by decide) (fun c_1 => ?_) (fun c_1 => ?_)
  · have hm := (if_pos c_1).symm.trans hm
    exact cw_X0_plain_54 fu C hret x2 x3 F G hm hw (lv_sub hl [1, 2] rfl)
  · have hm := (if_neg c_1).symm.trans hm
    exact cw_X0_plain_48 fu C hret x2 x3 F G hm hw (lv_sub hl [1, 2] rfl)
theorem cn_X0_plain_58 (fu : Nat) {res : Int32 × PF × PG} (x2 : Int32) (x3 : Int32) (F : PF) (G : PG) (hm : cb_X0_plain_58 fu x2 x3 F G = some res) : xn F ≤ xn res.2.1 := by
  unfold cb_X0_plain_58 at hm
  obtain rfl := Option.some.inj hm
  exact Nat.le_refl _
theorem cw_X0_plain_58 (fu : Nat) {res : Int32 × PF × PG} (C : cMC p R s m args c A v RX0 cX0_plain 4 1 21 (xn res.2.1 - xn K0)) (hret : ∀ (b1 : Nat) (H1 : Heap) (locs1 : List Loc) (ls1 : Array Slot) (pc : Nat), cMW s A v a b1 K0 res.2.1 res.2.2 H1 locs1 → narrow .int (.int res.1) = .int res.1 → decode cX0_plain pc = .ok (.ireturn, 1) → W p l e R s m args below meth c H1 locs1 (xn res.2.1 - xn K0) (2 * (xn res.2.1 - xn K0)) Q (F0 m pc ls1 [.int res.1])) (x2 : Int32) (x3 : Int32) (F : PF) (G : PG) (hm : cb_X0_plain_58 fu x2 x3 F G = some res) {b : Nat} {H : Heap} {locs : List Loc} (hw : cMW s A v a b K0 F G H locs) {ls : Array Slot} (hl : lv_has ls 4 [(2, .int x2), (3, .int x3)]) : W p l e R s m args below meth c H locs (xn F - xn K0) (2 * (xn F - xn K0)) Q (F0 m 58 ls []) := by
  have hx := C.1
  have hb := C.2.1
  unfold cb_X0_plain_58 at hm
  refine lv_iload_n hx hb dX0_plain_58 rfl (lv_at hl 0 rfl) ?_
  refine lv_iload_n hx hb dX0_plain_59 rfl (lv_at hl 1 rfl) ?_
  refine lv_ishl hx hb dX0_plain_60 ?_
  obtain rfl := Option.some.inj hm
  exact hret _ _ _ _ _ hw rfl dX0_plain_61
theorem cn_X0_plain_75 (fu : Nat) {res : Int32 × PF × PG} (z0 : Int32) (F : PF) (G : PG) (hm : cb_X0_plain_75 fu z0 F G = some res) : xn F ≤ xn res.2.1 := by
  unfold cb_X0_plain_75 at hm
  obtain rfl := Option.some.inj hm
  exact Nat.le_refl _
theorem cw_X0_plain_75 (fu : Nat) {res : Int32 × PF × PG} (C : cMC p R s m args c A v RX0 cX0_plain 4 1 21 (xn res.2.1 - xn K0)) (hret : ∀ (b1 : Nat) (H1 : Heap) (locs1 : List Loc) (ls1 : Array Slot) (pc : Nat), cMW s A v a b1 K0 res.2.1 res.2.2 H1 locs1 → narrow .int (.int res.1) = .int res.1 → decode cX0_plain pc = .ok (.ireturn, 1) → W p l e R s m args below meth c H1 locs1 (xn res.2.1 - xn K0) (2 * (xn res.2.1 - xn K0)) Q (F0 m pc ls1 [.int res.1])) (z0 : Int32) (F : PF) (G : PG) (hm : cb_X0_plain_75 fu z0 F G = some res) {b : Nat} {H : Heap} {locs : List Loc} (hw : cMW s A v a b K0 F G H locs) {ls : Array Slot} (hl : lv_has ls 4 []) : W p l e R s m args below meth c H locs (xn F - xn K0) (2 * (xn F - xn K0)) Q (F0 m 75 ls [.int z0]) := by
  have hx := C.1
  have hb := C.2.1
  unfold cb_X0_plain_75 at hm
  obtain rfl := Option.some.inj hm
  exact hret _ _ _ _ _ hw rfl dX0_plain_75
theorem cn_X0_plain_72 (fu : Nat) {res : Int32 × PF × PG} (z0 : Int32) (F : PF) (G : PG) (hm : cb_X0_plain_72 fu z0 F G = some res) : xn F ≤ xn res.2.1 := by
  unfold cb_X0_plain_72 at hm
  obtain ⟨⟨r1, F1, G1⟩, hc, hm⟩ := bind_elim hm
  exact Nat.le_trans (cn_X11_truth fu z0 F G _ hc) (cn_X0_plain_75 fu r1 F1 G1 hm)
theorem cw_X0_plain_72 (fu : Nat) {res : Int32 × PF × PG} (C : cMC p R s m args c A v RX0 cX0_plain 4 1 21 (xn res.2.1 - xn K0)) (hret : ∀ (b1 : Nat) (H1 : Heap) (locs1 : List Loc) (ls1 : Array Slot) (pc : Nat), cMW s A v a b1 K0 res.2.1 res.2.2 H1 locs1 → narrow .int (.int res.1) = .int res.1 → decode cX0_plain pc = .ok (.ireturn, 1) → W p l e R s m args below meth c H1 locs1 (xn res.2.1 - xn K0) (2 * (xn res.2.1 - xn K0)) Q (F0 m pc ls1 [.int res.1])) (z0 : Int32) (F : PF) (G : PG) (hm : cb_X0_plain_72 fu z0 F G = some res) {b : Nat} {H : Heap} {locs : List Loc} (hw : cMW s A v a b K0 F G H locs) {ls : Array Slot} (hl : lv_has ls 4 []) : W p l e R s m args below meth c H locs (xn F - xn K0) (2 * (xn F - xn K0)) Q (F0 m 72 ls [.int z0]) := by
  have hx := C.1
  have hb := C.2.1
  unfold cb_X0_plain_72 at hm
  obtain ⟨⟨r1, F1, G1⟩, hc, hm⟩ := bind_elim hm
  refine ccallIN (n := 1) (As := [.int z0]) (rest := []) C hw (ck_X11_truth l v a _ _ fu z0 F G r1 F1 G1 hc) (cn_X11_truth fu z0 F G _ hc) (Nat.sub_le_sub_right (cn_X0_plain_75 fu r1 F1 G1 hm) _) C.2.2.2.2.2.2.2.2.2.1.2.2.2.2.2.2.2.2.2.2.2.2.2.2.2.2.2.2.2.2.1 cm_562 cm_563 cm_564 (by decide +kernel) rfl (by omega) (by omega) hl.1 rfl (Nat.le_of_ble_eq_true rfl) dX0_plain_72 (fun b H locs hw => ?_)
  exact cw_X0_plain_75 fu C hret r1 F1 G1 hm hw (lv_sub hl [] rfl)
theorem cn_X0_plain_71 (fu : Nat) {res : Int32 × PF × PG} (F : PF) (G : PG) (hm : cb_X0_plain_71 fu F G = some res) : xn F ≤ xn res.2.1 := by
  unfold cb_X0_plain_71 at hm
  exact (cn_X0_plain_72 fu 0 F G hm)
theorem cw_X0_plain_71 (fu : Nat) {res : Int32 × PF × PG} (C : cMC p R s m args c A v RX0 cX0_plain 4 1 21 (xn res.2.1 - xn K0)) (hret : ∀ (b1 : Nat) (H1 : Heap) (locs1 : List Loc) (ls1 : Array Slot) (pc : Nat), cMW s A v a b1 K0 res.2.1 res.2.2 H1 locs1 → narrow .int (.int res.1) = .int res.1 → decode cX0_plain pc = .ok (.ireturn, 1) → W p l e R s m args below meth c H1 locs1 (xn res.2.1 - xn K0) (2 * (xn res.2.1 - xn K0)) Q (F0 m pc ls1 [.int res.1])) (F : PF) (G : PG) (hm : cb_X0_plain_71 fu F G = some res) {b : Nat} {H : Heap} {locs : List Loc} (hw : cMW s A v a b K0 F G H locs) {ls : Array Slot} (hl : lv_has ls 4 []) : W p l e R s m args below meth c H locs (xn F - xn K0) (2 * (xn F - xn K0)) Q (F0 m 71 ls []) := by
  have hx := C.1
  have hb := C.2.1
  unfold cb_X0_plain_71 at hm
  refine lv_iconst (v := 0) hx hb dX0_plain_71 (by decide) ?_
  exact cw_X0_plain_72 fu C hret 0 F G hm hw (lv_sub hl [] rfl)
theorem cn_X0_plain_67 (fu : Nat) {res : Int32 × PF × PG} (F : PF) (G : PG) (hm : cb_X0_plain_67 fu F G = some res) : xn F ≤ xn res.2.1 := by
  unfold cb_X0_plain_67 at hm
  exact (cn_X0_plain_72 fu 1 F G hm)
theorem cw_X0_plain_67 (fu : Nat) {res : Int32 × PF × PG} (C : cMC p R s m args c A v RX0 cX0_plain 4 1 21 (xn res.2.1 - xn K0)) (hret : ∀ (b1 : Nat) (H1 : Heap) (locs1 : List Loc) (ls1 : Array Slot) (pc : Nat), cMW s A v a b1 K0 res.2.1 res.2.2 H1 locs1 → narrow .int (.int res.1) = .int res.1 → decode cX0_plain pc = .ok (.ireturn, 1) → W p l e R s m args below meth c H1 locs1 (xn res.2.1 - xn K0) (2 * (xn res.2.1 - xn K0)) Q (F0 m pc ls1 [.int res.1])) (F : PF) (G : PG) (hm : cb_X0_plain_67 fu F G = some res) {b : Nat} {H : Heap} {locs : List Loc} (hw : cMW s A v a b K0 F G H locs) {ls : Array Slot} (hl : lv_has ls 4 []) : W p l e R s m args below meth c H locs (xn F - xn K0) (2 * (xn F - xn K0)) Q (F0 m 67 ls []) := by
  have hx := C.1
  have hb := C.2.1
  unfold cb_X0_plain_67 at hm
  refine lv_iconst (v := 1) hx hb dX0_plain_67 (by decide) ?_
  refine lv_goto (tgt := 72) hx hb dX0_plain_68 (by decide) ?_
  exact cw_X0_plain_72 fu C hret 1 F G hm hw (lv_sub hl [] rfl)
theorem cn_X0_plain_62 (fu : Nat) {res : Int32 × PF × PG} (x2 : Int32) (x3 : Int32) (F : PF) (G : PG) (hm : cb_X0_plain_62 fu x2 x3 F G = some res) : xn F ≤ xn res.2.1 := by
  unfold cb_X0_plain_62 at hm
  by_cases c_1 : x3 ≤ x2
  · have hm := (if_pos c_1).symm.trans hm
    exact (cn_X0_plain_71 fu F G hm)
  · have hm := (if_neg c_1).symm.trans hm
    exact (cn_X0_plain_67 fu F G hm)
theorem cw_X0_plain_62 (fu : Nat) {res : Int32 × PF × PG} (C : cMC p R s m args c A v RX0 cX0_plain 4 1 21 (xn res.2.1 - xn K0)) (hret : ∀ (b1 : Nat) (H1 : Heap) (locs1 : List Loc) (ls1 : Array Slot) (pc : Nat), cMW s A v a b1 K0 res.2.1 res.2.2 H1 locs1 → narrow .int (.int res.1) = .int res.1 → decode cX0_plain pc = .ok (.ireturn, 1) → W p l e R s m args below meth c H1 locs1 (xn res.2.1 - xn K0) (2 * (xn res.2.1 - xn K0)) Q (F0 m pc ls1 [.int res.1])) (x2 : Int32) (x3 : Int32) (F : PF) (G : PG) (hm : cb_X0_plain_62 fu x2 x3 F G = some res) {b : Nat} {H : Heap} {locs : List Loc} (hw : cMW s A v a b K0 F G H locs) {ls : Array Slot} (hl : lv_has ls 4 [(2, .int x2), (3, .int x3)]) : W p l e R s m args below meth c H locs (xn F - xn K0) (2 * (xn F - xn K0)) Q (F0 m 62 ls []) := by
  have hx := C.1
  have hb := C.2.1
  unfold cb_X0_plain_62 at hm
  refine lv_iload_n hx hb dX0_plain_62 rfl (lv_at hl 0 rfl) ?_
  refine lv_iload_n hx hb dX0_plain_63 rfl (lv_at hl 1 rfl) ?_
  refine lv_icmp_ge (tgt := 71) hx hb dX0_plain_64 (by decide) (fun c_1 => ?_) (fun c_1 => ?_)
  · have hm := (if_pos c_1).symm.trans hm
    exact cw_X0_plain_71 fu C hret F G hm hw (lv_sub hl [] rfl)
  · have hm := (if_neg c_1).symm.trans hm
    exact cw_X0_plain_67 fu C hret F G hm hw (lv_sub hl [] rfl)
theorem cn_X0_plain_84 (fu : Nat) {res : Int32 × PF × PG} (z0 : Int32) (F : PF) (G : PG) (hm : cb_X0_plain_84 fu z0 F G = some res) : xn F ≤ xn res.2.1 := by
  unfold cb_X0_plain_84 at hm
  obtain rfl := Option.some.inj hm
  exact Nat.le_refl _
theorem cw_X0_plain_84 (fu : Nat) {res : Int32 × PF × PG} (C : cMC p R s m args c A v RX0 cX0_plain 4 1 21 (xn res.2.1 - xn K0)) (hret : ∀ (b1 : Nat) (H1 : Heap) (locs1 : List Loc) (ls1 : Array Slot) (pc : Nat), cMW s A v a b1 K0 res.2.1 res.2.2 H1 locs1 → narrow .int (.int res.1) = .int res.1 → decode cX0_plain pc = .ok (.ireturn, 1) → W p l e R s m args below meth c H1 locs1 (xn res.2.1 - xn K0) (2 * (xn res.2.1 - xn K0)) Q (F0 m pc ls1 [.int res.1])) (z0 : Int32) (F : PF) (G : PG) (hm : cb_X0_plain_84 fu z0 F G = some res) {b : Nat} {H : Heap} {locs : List Loc} (hw : cMW s A v a b K0 F G H locs) {ls : Array Slot} (hl : lv_has ls 4 []) : W p l e R s m args below meth c H locs (xn F - xn K0) (2 * (xn F - xn K0)) Q (F0 m 84 ls [.int z0]) := by
  have hx := C.1
  have hb := C.2.1
  unfold cb_X0_plain_84 at hm
  obtain rfl := Option.some.inj hm
  exact hret _ _ _ _ _ hw rfl dX0_plain_84
theorem cn_X0_plain_81 (fu : Nat) {res : Int32 × PF × PG} (z0 : Int32) (F : PF) (G : PG) (hm : cb_X0_plain_81 fu z0 F G = some res) : xn F ≤ xn res.2.1 := by
  unfold cb_X0_plain_81 at hm
  obtain ⟨⟨r1, F1, G1⟩, hc, hm⟩ := bind_elim hm
  exact Nat.le_trans (cn_X11_truth fu z0 F G _ hc) (cn_X0_plain_84 fu r1 F1 G1 hm)
theorem cw_X0_plain_81 (fu : Nat) {res : Int32 × PF × PG} (C : cMC p R s m args c A v RX0 cX0_plain 4 1 21 (xn res.2.1 - xn K0)) (hret : ∀ (b1 : Nat) (H1 : Heap) (locs1 : List Loc) (ls1 : Array Slot) (pc : Nat), cMW s A v a b1 K0 res.2.1 res.2.2 H1 locs1 → narrow .int (.int res.1) = .int res.1 → decode cX0_plain pc = .ok (.ireturn, 1) → W p l e R s m args below meth c H1 locs1 (xn res.2.1 - xn K0) (2 * (xn res.2.1 - xn K0)) Q (F0 m pc ls1 [.int res.1])) (z0 : Int32) (F : PF) (G : PG) (hm : cb_X0_plain_81 fu z0 F G = some res) {b : Nat} {H : Heap} {locs : List Loc} (hw : cMW s A v a b K0 F G H locs) {ls : Array Slot} (hl : lv_has ls 4 []) : W p l e R s m args below meth c H locs (xn F - xn K0) (2 * (xn F - xn K0)) Q (F0 m 81 ls [.int z0]) := by
  have hx := C.1
  have hb := C.2.1
  unfold cb_X0_plain_81 at hm
  obtain ⟨⟨r1, F1, G1⟩, hc, hm⟩ := bind_elim hm
  refine ccallIN (n := 1) (As := [.int z0]) (rest := []) C hw (ck_X11_truth l v a _ _ fu z0 F G r1 F1 G1 hc) (cn_X11_truth fu z0 F G _ hc) (Nat.sub_le_sub_right (cn_X0_plain_84 fu r1 F1 G1 hm) _) C.2.2.2.2.2.2.2.2.2.1.2.2.2.2.2.2.2.2.2.2.2.2.2.2.2.2.2.2.2.2.1 cm_562 cm_563 cm_564 (by decide +kernel) rfl (by omega) (by omega) hl.1 rfl (Nat.le_of_ble_eq_true rfl) dX0_plain_81 (fun b H locs hw => ?_)
  exact cw_X0_plain_84 fu C hret r1 F1 G1 hm hw (lv_sub hl [] rfl)
theorem cn_X0_plain_76 (fu : Nat) {res : Int32 × PF × PG} (x2 : Int32) (x3 : Int32) (F : PF) (G : PG) (hm : cb_X0_plain_76 fu x2 x3 F G = some res) : xn F ≤ xn res.2.1 := by
  unfold cb_X0_plain_76 at hm
  obtain ⟨⟨r1, F1, G1⟩, hc, hm⟩ := bind_elim hm
  exact Nat.le_trans (cn_X0_isBelow fu x2 x3 F G _ hc) (cn_X0_plain_81 fu r1 F1 G1 hm)
theorem cw_X0_plain_76 (fu : Nat) {res : Int32 × PF × PG} (C : cMC p R s m args c A v RX0 cX0_plain 4 1 21 (xn res.2.1 - xn K0)) (hret : ∀ (b1 : Nat) (H1 : Heap) (locs1 : List Loc) (ls1 : Array Slot) (pc : Nat), cMW s A v a b1 K0 res.2.1 res.2.2 H1 locs1 → narrow .int (.int res.1) = .int res.1 → decode cX0_plain pc = .ok (.ireturn, 1) → W p l e R s m args below meth c H1 locs1 (xn res.2.1 - xn K0) (2 * (xn res.2.1 - xn K0)) Q (F0 m pc ls1 [.int res.1])) (x2 : Int32) (x3 : Int32) (F : PF) (G : PG) (hm : cb_X0_plain_76 fu x2 x3 F G = some res) {b : Nat} {H : Heap} {locs : List Loc} (hw : cMW s A v a b K0 F G H locs) {ls : Array Slot} (hl : lv_has ls 4 [(2, .int x2), (3, .int x3)]) : W p l e R s m args below meth c H locs (xn F - xn K0) (2 * (xn F - xn K0)) Q (F0 m 76 ls []) := by
  have hx := C.1
  have hb := C.2.1
  unfold cb_X0_plain_76 at hm
  refine lv_iload_n hx hb dX0_plain_76 rfl (lv_at hl 0 rfl) ?_
  refine lv_iload_n hx hb dX0_plain_77 rfl (lv_at hl 1 rfl) ?_
  obtain ⟨⟨r1, F1, G1⟩, hc, hm⟩ := bind_elim hm
  refine ccallIS (n := 2) (As := [.int x2, .int x3]) (rest := []) C hw (ck_X0_isBelow l v a _ _ fu x2 x3 F G r1 F1 G1 hc) (cn_X0_isBelow fu x2 x3 F G _ hc) (Nat.sub_le_sub_right (cn_X0_plain_81 fu r1 F1 G1 hm) _) cm_980 cm_981 cm_938 cm_982 (by decide +kernel) rfl (by omega) (by omega) hl.1 rfl (Nat.le_of_ble_eq_true rfl) dX0_plain_78 (fun b H locs hw => ?_)
  exact cw_X0_plain_81 fu C hret r1 F1 G1 hm hw (lv_sub hl [] rfl)
theorem cn_X0_plain_85 (fu : Nat) {res : Int32 × PF × PG} (x2 : Int32) (x3 : Int32) (F : PF) (G : PG) (hm : cb_X0_plain_85 fu x2 x3 F G = some res) : xn F ≤ xn res.2.1 := by
  unfold cb_X0_plain_85 at hm
  obtain rfl := Option.some.inj hm
  exact Nat.le_refl _
theorem cw_X0_plain_85 (fu : Nat) {res : Int32 × PF × PG} (C : cMC p R s m args c A v RX0 cX0_plain 4 1 21 (xn res.2.1 - xn K0)) (hret : ∀ (b1 : Nat) (H1 : Heap) (locs1 : List Loc) (ls1 : Array Slot) (pc : Nat), cMW s A v a b1 K0 res.2.1 res.2.2 H1 locs1 → narrow .int (.int res.1) = .int res.1 → decode cX0_plain pc = .ok (.ireturn, 1) → W p l e R s m args below meth c H1 locs1 (xn res.2.1 - xn K0) (2 * (xn res.2.1 - xn K0)) Q (F0 m pc ls1 [.int res.1])) (x2 : Int32) (x3 : Int32) (F : PF) (G : PG) (hm : cb_X0_plain_85 fu x2 x3 F G = some res) {b : Nat} {H : Heap} {locs : List Loc} (hw : cMW s A v a b K0 F G H locs) {ls : Array Slot} (hl : lv_has ls 4 [(2, .int x2), (3, .int x3)]) : W p l e R s m args below meth c H locs (xn F - xn K0) (2 * (xn F - xn K0)) Q (F0 m 85 ls []) := by
  have hx := C.1
  have hb := C.2.1
  unfold cb_X0_plain_85 at hm
  refine lv_iload_n hx hb dX0_plain_85 rfl (lv_at hl 0 rfl) ?_
  refine lv_iload_n hx hb dX0_plain_86 rfl (lv_at hl 1 rfl) ?_
  refine lv_ixor hx hb dX0_plain_87 ?_
  obtain rfl := Option.some.inj hm
  exact hret _ _ _ _ _ hw rfl dX0_plain_88
theorem cn_X0_plain_102 (fu : Nat) {res : Int32 × PF × PG} (z0 : Int32) (F : PF) (G : PG) (hm : cb_X0_plain_102 fu z0 F G = some res) : xn F ≤ xn res.2.1 := by
  unfold cb_X0_plain_102 at hm
  obtain rfl := Option.some.inj hm
  exact Nat.le_refl _
theorem cw_X0_plain_102 (fu : Nat) {res : Int32 × PF × PG} (C : cMC p R s m args c A v RX0 cX0_plain 4 1 21 (xn res.2.1 - xn K0)) (hret : ∀ (b1 : Nat) (H1 : Heap) (locs1 : List Loc) (ls1 : Array Slot) (pc : Nat), cMW s A v a b1 K0 res.2.1 res.2.2 H1 locs1 → narrow .int (.int res.1) = .int res.1 → decode cX0_plain pc = .ok (.ireturn, 1) → W p l e R s m args below meth c H1 locs1 (xn res.2.1 - xn K0) (2 * (xn res.2.1 - xn K0)) Q (F0 m pc ls1 [.int res.1])) (z0 : Int32) (F : PF) (G : PG) (hm : cb_X0_plain_102 fu z0 F G = some res) {b : Nat} {H : Heap} {locs : List Loc} (hw : cMW s A v a b K0 F G H locs) {ls : Array Slot} (hl : lv_has ls 4 []) : W p l e R s m args below meth c H locs (xn F - xn K0) (2 * (xn F - xn K0)) Q (F0 m 102 ls [.int z0]) := by
  have hx := C.1
  have hb := C.2.1
  unfold cb_X0_plain_102 at hm
  obtain rfl := Option.some.inj hm
  exact hret _ _ _ _ _ hw rfl dX0_plain_102
theorem cn_X0_plain_99 (fu : Nat) {res : Int32 × PF × PG} (x2 : Int32) (x3 : Int32) (F : PF) (G : PG) (hm : cb_X0_plain_99 fu x2 x3 F G = some res) : xn F ≤ xn res.2.1 := by
  unfold cb_X0_plain_99 at hm
  exact (cn_X0_plain_102 fu ((x2.toUInt32 >>> (x3.toUInt32 &&& Int32.toUInt32 31)).toInt32) F G hm)
theorem cw_X0_plain_99 (fu : Nat) {res : Int32 × PF × PG} (C : cMC p R s m args c A v RX0 cX0_plain 4 1 21 (xn res.2.1 - xn K0)) (hret : ∀ (b1 : Nat) (H1 : Heap) (locs1 : List Loc) (ls1 : Array Slot) (pc : Nat), cMW s A v a b1 K0 res.2.1 res.2.2 H1 locs1 → narrow .int (.int res.1) = .int res.1 → decode cX0_plain pc = .ok (.ireturn, 1) → W p l e R s m args below meth c H1 locs1 (xn res.2.1 - xn K0) (2 * (xn res.2.1 - xn K0)) Q (F0 m pc ls1 [.int res.1])) (x2 : Int32) (x3 : Int32) (F : PF) (G : PG) (hm : cb_X0_plain_99 fu x2 x3 F G = some res) {b : Nat} {H : Heap} {locs : List Loc} (hw : cMW s A v a b K0 F G H locs) {ls : Array Slot} (hl : lv_has ls 4 [(2, .int x2), (3, .int x3)]) : W p l e R s m args below meth c H locs (xn F - xn K0) (2 * (xn F - xn K0)) Q (F0 m 99 ls []) := by
  have hx := C.1
  have hb := C.2.1
  unfold cb_X0_plain_99 at hm
  refine lv_iload_n hx hb dX0_plain_99 rfl (lv_at hl 0 rfl) ?_
  refine lv_iload_n hx hb dX0_plain_100 rfl (lv_at hl 1 rfl) ?_
  refine lv_iushr hx hb dX0_plain_101 rfl ?_
  exact cw_X0_plain_102 fu C hret ((x2.toUInt32 >>> (x3.toUInt32 &&& Int32.toUInt32 31)).toInt32) F G hm hw (lv_sub hl [] rfl)
theorem cn_X0_plain_93 (fu : Nat) {res : Int32 × PF × PG} (x2 : Int32) (x3 : Int32) (F : PF) (G : PG) (hm : cb_X0_plain_93 fu x2 x3 F G = some res) : xn F ≤ xn res.2.1 := by
  unfold cb_X0_plain_93 at hm
  exact (cn_X0_plain_102 fu (x2 >>> (x3 &&& 31)) F G hm)
theorem cw_X0_plain_93 (fu : Nat) {res : Int32 × PF × PG} (C : cMC p R s m args c A v RX0 cX0_plain 4 1 21 (xn res.2.1 - xn K0)) (hret : ∀ (b1 : Nat) (H1 : Heap) (locs1 : List Loc) (ls1 : Array Slot) (pc : Nat), cMW s A v a b1 K0 res.2.1 res.2.2 H1 locs1 → narrow .int (.int res.1) = .int res.1 → decode cX0_plain pc = .ok (.ireturn, 1) → W p l e R s m args below meth c H1 locs1 (xn res.2.1 - xn K0) (2 * (xn res.2.1 - xn K0)) Q (F0 m pc ls1 [.int res.1])) (x2 : Int32) (x3 : Int32) (F : PF) (G : PG) (hm : cb_X0_plain_93 fu x2 x3 F G = some res) {b : Nat} {H : Heap} {locs : List Loc} (hw : cMW s A v a b K0 F G H locs) {ls : Array Slot} (hl : lv_has ls 4 [(2, .int x2), (3, .int x3)]) : W p l e R s m args below meth c H locs (xn F - xn K0) (2 * (xn F - xn K0)) Q (F0 m 93 ls []) := by
  have hx := C.1
  have hb := C.2.1
  unfold cb_X0_plain_93 at hm
  refine lv_iload_n hx hb dX0_plain_93 rfl (lv_at hl 0 rfl) ?_
  refine lv_iload_n hx hb dX0_plain_94 rfl (lv_at hl 1 rfl) ?_
  refine lv_ishr hx hb dX0_plain_95 ?_
  refine lv_goto (tgt := 102) hx hb dX0_plain_96 (by decide) ?_
  exact cw_X0_plain_102 fu C hret (x2 >>> (x3 &&& 31)) F G hm hw (lv_sub hl [] rfl)
theorem cn_X0_plain_89 (fu : Nat) {res : Int32 × PF × PG} (x1 : Int32) (x2 : Int32) (x3 : Int32) (F : PF) (G : PG) (hm : cb_X0_plain_89 fu x1 x2 x3 F G = some res) : xn F ≤ xn res.2.1 := by
  unfold cb_X0_plain_89 at hm
  by_cases c_1 : x1 = (0 : Int32)
  · have hm := (if_pos c_1).symm.trans hm
    exact (cn_X0_plain_99 fu x2 x3 F G hm)
  · have hm := (if_neg c_1).symm.trans hm
    exact (cn_X0_plain_93 fu x2 x3 F G hm)
theorem cw_X0_plain_89 (fu : Nat) {res : Int32 × PF × PG} (C : cMC p R s m args c A v RX0 cX0_plain 4 1 21 (xn res.2.1 - xn K0)) (hret : ∀ (b1 : Nat) (H1 : Heap) (locs1 : List Loc) (ls1 : Array Slot) (pc : Nat), cMW s A v a b1 K0 res.2.1 res.2.2 H1 locs1 → narrow .int (.int res.1) = .int res.1 → decode cX0_plain pc = .ok (.ireturn, 1) → W p l e R s m args below meth c H1 locs1 (xn res.2.1 - xn K0) (2 * (xn res.2.1 - xn K0)) Q (F0 m pc ls1 [.int res.1])) (x1 : Int32) (x2 : Int32) (x3 : Int32) (F : PF) (G : PG) (hm : cb_X0_plain_89 fu x1 x2 x3 F G = some res) {b : Nat} {H : Heap} {locs : List Loc} (hw : cMW s A v a b K0 F G H locs) {ls : Array Slot} (hl : lv_has ls 4 [(1, .int x1), (2, .int x2), (3, .int x3)]) : W p l e R s m args below meth c H locs (xn F - xn K0) (2 * (xn F - xn K0)) Q (F0 m 89 ls []) := by
  have hx := C.1
  have hb := C.2.1
  unfold cb_X0_plain_89 at hm
  refine lv_iload_n hx hb dX0_plain_89 rfl (lv_at hl 0 rfl) ?_
  refine lv_if_eq (tgt := 99) hx hb dX0_plain_90 (by decide) (fun c_1 => ?_) (fun c_1 => ?_)
  · have hm := (if_pos c_1).symm.trans hm
    exact cw_X0_plain_99 fu C hret x2 x3 F G hm hw (lv_sub hl [1, 2] rfl)
  · have hm := (if_neg c_1).symm.trans hm
    exact cw_X0_plain_93 fu C hret x2 x3 F G hm hw (lv_sub hl [1, 2] rfl)
theorem cn_X0_plain_103 (fu : Nat) {res : Int32 × PF × PG} (x2 : Int32) (x3 : Int32) (F : PF) (G : PG) (hm : cb_X0_plain_103 fu x2 x3 F G = some res) : xn F ≤ xn res.2.1 := by
  unfold cb_X0_plain_103 at hm
  obtain rfl := Option.some.inj hm
  exact Nat.le_refl _
theorem cw_X0_plain_103 (fu : Nat) {res : Int32 × PF × PG} (C : cMC p R s m args c A v RX0 cX0_plain 4 1 21 (xn res.2.1 - xn K0)) (hret : ∀ (b1 : Nat) (H1 : Heap) (locs1 : List Loc) (ls1 : Array Slot) (pc : Nat), cMW s A v a b1 K0 res.2.1 res.2.2 H1 locs1 → narrow .int (.int res.1) = .int res.1 → decode cX0_plain pc = .ok (.ireturn, 1) → W p l e R s m args below meth c H1 locs1 (xn res.2.1 - xn K0) (2 * (xn res.2.1 - xn K0)) Q (F0 m pc ls1 [.int res.1])) (x2 : Int32) (x3 : Int32) (F : PF) (G : PG) (hm : cb_X0_plain_103 fu x2 x3 F G = some res) {b : Nat} {H : Heap} {locs : List Loc} (hw : cMW s A v a b K0 F G H locs) {ls : Array Slot} (hl : lv_has ls 4 [(2, .int x2), (3, .int x3)]) : W p l e R s m args below meth c H locs (xn F - xn K0) (2 * (xn F - xn K0)) Q (F0 m 103 ls []) := by
  have hx := C.1
  have hb := C.2.1
  unfold cb_X0_plain_103 at hm
  refine lv_iload_n hx hb dX0_plain_103 rfl (lv_at hl 0 rfl) ?_
  refine lv_iload_n hx hb dX0_plain_104 rfl (lv_at hl 1 rfl) ?_
  refine lv_ior hx hb dX0_plain_105 ?_
  obtain rfl := Option.some.inj hm
  exact hret _ _ _ _ _ hw rfl dX0_plain_106
theorem cn_X0_plain_107 (fu : Nat) {res : Int32 × PF × PG} (x2 : Int32) (x3 : Int32) (F : PF) (G : PG) (hm : cb_X0_plain_107 fu x2 x3 F G = some res) : xn F ≤ xn res.2.1 := by
  unfold cb_X0_plain_107 at hm
  obtain rfl := Option.some.inj hm
  exact Nat.le_refl _
theorem cw_X0_plain_107 (fu : Nat) {res : Int32 × PF × PG} (C : cMC p R s m args c A v RX0 cX0_plain 4 1 21 (xn res.2.1 - xn K0)) (hret : ∀ (b1 : Nat) (H1 : Heap) (locs1 : List Loc) (ls1 : Array Slot) (pc : Nat), cMW s A v a b1 K0 res.2.1 res.2.2 H1 locs1 → narrow .int (.int res.1) = .int res.1 → decode cX0_plain pc = .ok (.ireturn, 1) → W p l e R s m args below meth c H1 locs1 (xn res.2.1 - xn K0) (2 * (xn res.2.1 - xn K0)) Q (F0 m pc ls1 [.int res.1])) (x2 : Int32) (x3 : Int32) (F : PF) (G : PG) (hm : cb_X0_plain_107 fu x2 x3 F G = some res) {b : Nat} {H : Heap} {locs : List Loc} (hw : cMW s A v a b K0 F G H locs) {ls : Array Slot} (hl : lv_has ls 4 [(2, .int x2), (3, .int x3)]) : W p l e R s m args below meth c H locs (xn F - xn K0) (2 * (xn F - xn K0)) Q (F0 m 107 ls []) := by
  have hx := C.1
  have hb := C.2.1
  unfold cb_X0_plain_107 at hm
  refine lv_iload_n hx hb dX0_plain_107 rfl (lv_at hl 0 rfl) ?_
  refine lv_iload_n hx hb dX0_plain_108 rfl (lv_at hl 1 rfl) ?_
  refine lv_iand hx hb dX0_plain_109 ?_
  obtain rfl := Option.some.inj hm
  exact hret _ _ _ _ _ hw rfl dX0_plain_110
theorem cn_X0_plain_0 (fu : Nat) {res : Int32 × PF × PG} (x0 : Int32) (x1 : Int32) (x2 : Int32) (x3 : Int32) (F : PF) (G : PG) (hm : cb_X0_plain_0 fu x0 x1 x2 x3 F G = some res) : xn F ≤ xn res.2.1 := by
  unfold cb_X0_plain_0 at hm
  by_cases c_0 : x0.toInt < 0 ∨ 6 < x0.toInt
  · have hm := (if_pos c_0).symm.trans hm
    exact (cn_X0_plain_107 fu x2 x3 F G hm)
  have hm := (if_neg c_0).symm.trans hm
  by_cases c_1 : x0 = 0
  · have hm := (if_pos c_1).symm.trans hm
    exact (cn_X0_plain_44 fu x1 x2 x3 F G hm)
  have hm := (if_neg c_1).symm.trans hm
  clear c_1
  by_cases c_1 : x0 = 1
  · have hm := (if_pos c_1).symm.trans hm
    exact (cn_X0_plain_58 fu x2 x3 F G hm)
  have hm := (if_neg c_1).symm.trans hm
  clear c_1
  by_cases c_1 : x0 = 2
  · have hm := (if_pos c_1).symm.trans hm
    exact (cn_X0_plain_62 fu x2 x3 F G hm)
  have hm := (if_neg c_1).symm.trans hm
  clear c_1
  by_cases c_1 : x0 = 3
  · have hm := (if_pos c_1).symm.trans hm
    exact (cn_X0_plain_76 fu x2 x3 F G hm)
  have hm := (if_neg c_1).symm.trans hm
  clear c_1
  by_cases c_1 : x0 = 4
  · have hm := (if_pos c_1).symm.trans hm
    exact (cn_X0_plain_85 fu x2 x3 F G hm)
  have hm := (if_neg c_1).symm.trans hm
  clear c_1
  by_cases c_1 : x0 = 5
  · have hm := (if_pos c_1).symm.trans hm
    exact (cn_X0_plain_89 fu x1 x2 x3 F G hm)
  have hm := (if_neg c_1).symm.trans hm
  clear c_1
  exact (cn_X0_plain_103 fu x2 x3 F G hm)
theorem cw_X0_plain_0 (fu : Nat) {res : Int32 × PF × PG} (C : cMC p R s m args c A v RX0 cX0_plain 4 1 21 (xn res.2.1 - xn K0)) (hret : ∀ (b1 : Nat) (H1 : Heap) (locs1 : List Loc) (ls1 : Array Slot) (pc : Nat), cMW s A v a b1 K0 res.2.1 res.2.2 H1 locs1 → narrow .int (.int res.1) = .int res.1 → decode cX0_plain pc = .ok (.ireturn, 1) → W p l e R s m args below meth c H1 locs1 (xn res.2.1 - xn K0) (2 * (xn res.2.1 - xn K0)) Q (F0 m pc ls1 [.int res.1])) (x0 : Int32) (x1 : Int32) (x2 : Int32) (x3 : Int32) (F : PF) (G : PG) (hm : cb_X0_plain_0 fu x0 x1 x2 x3 F G = some res) {b : Nat} {H : Heap} {locs : List Loc} (hw : cMW s A v a b K0 F G H locs) {ls : Array Slot} (hl : lv_has ls 4 [(0, .int x0), (1, .int x1), (2, .int x2), (3, .int x3)]) : W p l e R s m args below meth c H locs (xn F - xn K0) (2 * (xn F - xn K0)) Q (F0 m 0 ls []) := by
  have hx := C.1
  have hb := C.2.1
  unfold cb_X0_plain_0 at hm
  refine lv_iload_n hx hb dX0_plain_0 rfl (lv_at hl 0 rfl) ?_
  by_cases c_0 : x0.toInt < 0 ∨ 6 < x0.toInt
  · have hm := (if_pos c_0).symm.trans hm
    refine lv_tableOut (tgt := 107) hx hb dX0_plain_1 c_0 (by decide) ?_
    exact cw_X0_plain_107 fu C hret x2 x3 F G hm hw (lv_sub hl [2, 3] rfl)
  have hm := (if_neg c_0).symm.trans hm
  by_cases c_1 : x0 = 0
  · have hm := (if_pos c_1).symm.trans hm
    refine my_top 0 c_1 ?_
    refine lv_tableIn (off := 43) (tgt := 44) hx hb dX0_plain_1 (by decide) (by decide) (by decide) (by decide) ?_
    exact cw_X0_plain_44 fu C hret x1 x2 x3 F G hm hw (lv_sub hl [1, 2, 3] rfl)
  have hm := (if_neg c_1).symm.trans hm
  have n_0 := c_1
  clear c_1
  by_cases c_1 : x0 = 1
  · have hm := (if_pos c_1).symm.trans hm
    refine my_top 1 c_1 ?_
    refine lv_tableIn (off := 57) (tgt := 58) hx hb dX0_plain_1 (by decide) (by decide) (by decide) (by decide) ?_
    exact cw_X0_plain_58 fu C hret x2 x3 F G hm hw (lv_sub hl [2, 3] rfl)
  have hm := (if_neg c_1).symm.trans hm
  have n_1 := c_1
  clear c_1
  by_cases c_1 : x0 = 2
  · have hm := (if_pos c_1).symm.trans hm
    refine my_top 2 c_1 ?_
    refine lv_tableIn (off := 61) (tgt := 62) hx hb dX0_plain_1 (by decide) (by decide) (by decide) (by decide) ?_
    exact cw_X0_plain_62 fu C hret x2 x3 F G hm hw (lv_sub hl [2, 3] rfl)
  have hm := (if_neg c_1).symm.trans hm
  have n_2 := c_1
  clear c_1
  by_cases c_1 : x0 = 3
  · have hm := (if_pos c_1).symm.trans hm
    refine my_top 3 c_1 ?_
    refine lv_tableIn (off := 75) (tgt := 76) hx hb dX0_plain_1 (by decide) (by decide) (by decide) (by decide) ?_
    exact cw_X0_plain_76 fu C hret x2 x3 F G hm hw (lv_sub hl [2, 3] rfl)
  have hm := (if_neg c_1).symm.trans hm
  have n_3 := c_1
  clear c_1
  by_cases c_1 : x0 = 4
  · have hm := (if_pos c_1).symm.trans hm
    refine my_top 4 c_1 ?_
    refine lv_tableIn (off := 84) (tgt := 85) hx hb dX0_plain_1 (by decide) (by decide) (by decide) (by decide) ?_
    exact cw_X0_plain_85 fu C hret x2 x3 F G hm hw (lv_sub hl [2, 3] rfl)
  have hm := (if_neg c_1).symm.trans hm
  have n_4 := c_1
  clear c_1
  by_cases c_1 : x0 = 5
  · have hm := (if_pos c_1).symm.trans hm
    refine my_top 5 c_1 ?_
    refine lv_tableIn (off := 88) (tgt := 89) hx hb dX0_plain_1 (by decide) (by decide) (by decide) (by decide) ?_
    exact cw_X0_plain_89 fu C hret x1 x2 x3 F G hm hw (lv_sub hl [1, 2, 3] rfl)
  have hm := (if_neg c_1).symm.trans hm
  have n_5 := c_1
  clear c_1
  have c_1 : x0 = 6 := my_last (l := 0) (k := 6) c_0 (by decide) (fun j hj => match j, hj with | 0, _ => fun h9 => n_0 (Int32.toInt_inj.mp (h9.trans (by decide))) | 1, _ => fun h9 => n_1 (Int32.toInt_inj.mp (h9.trans (by decide))) | 2, _ => fun h9 => n_2 (Int32.toInt_inj.mp (h9.trans (by decide))) | 3, _ => fun h9 => n_3 (Int32.toInt_inj.mp (h9.trans (by decide))) | 4, _ => fun h9 => n_4 (Int32.toInt_inj.mp (h9.trans (by decide))) | 5, _ => fun h9 => n_5 (Int32.toInt_inj.mp (h9.trans (by decide))) | q + 6, h => absurd h (by omega)) (by decide)
  refine my_top 6 c_1 ?_
  refine lv_tableIn (off := 102) (tgt := 103) hx hb dX0_plain_1 (by decide) (by decide) (by decide) (by decide) ?_
  exact cw_X0_plain_103 fu C hret x2 x3 F G hm hw (lv_sub hl [2, 3] rfl)
theorem cn_X0_plain (fu : Nat) (x0 : Int32) (x1 : Int32) (x2 : Int32) (x3 : Int32) (F : PF) (G : PG) (q : Int32 × PF × PG) (hm : cf_X0_plain fu x0 x1 x2 x3 F G = some q) : xn F ≤ xn q.2.1 := cn_X0_plain_0 fu x0 x1 x2 x3 F G hm
theorem ck_X0_plain (l : Launch) (v : EV) (a : Nat → Nat) (b sz : Nat) (fu : Nat) (x0 : Int32) (x1 : Int32) (x2 : Int32) (x3 : Int32) (F : PF) (G : PG) (r : Int32) (F1 : PF) (G1 : PG) (hm : cf_X0_plain fu x0 x1 x2 x3 F G = some (r, F1, G1)) : cMI l yX0_plain cX0_plain 4 (some .int) 1 21 v a b sz [.int x0, .int x1, .int x2, .int x3] F G r F1 G1 := cMI.of (ty := .int) (by decide) rfl (Nat.le_of_ble_eq_true rfl) (fun p e R s m args below meth c Q A H locs ls C hw hl hret => cw_X0_plain_0 fu (res := (r, F1, G1)) C hret x0 x1 x2 x3 F G hm hw hl)
def cb_X0_withRegister_117 (fu : Nat) (z0 : Int32) (F : PF) (G : PG) : PR := some (z0, F, G)
def cb_X0_withRegister_114 (fu : Nat) (z0 : Int32) (z1 : Int32) (F : PF) (G : PG) : PR := (cf_X0_keep fu z1 z0 F G).bind (fun q => cb_X0_withRegister_117 fu q.1 q.2.1 q.2.2)
def cb_X0_withRegister_107 (fu : Nat) (x4 : Int32) (x5 : Int32) (z0 : Int32) (z1 : Int32) (z2 : Int32) (F : PF) (G : PG) : PR := (cf_X0_plain fu z1 z0 x4 x5 F G).bind (fun q => cb_X0_withRegister_114 fu q.1 z2 q.2.1 q.2.2)
def cb_X0_withRegister_106 (fu : Nat) (x4 : Int32) (x5 : Int32) (z0 : Int32) (z1 : Int32) (F : PF) (G : PG) : PR := cb_X0_withRegister_107 fu x4 x5 0 z0 z1 F G
def cb_X0_withRegister_102 (fu : Nat) (x4 : Int32) (x5 : Int32) (z0 : Int32) (z1 : Int32) (F : PF) (G : PG) : PR := cb_X0_withRegister_107 fu x4 x5 1 z0 z1 F G
def cb_X0_withRegister_87 (fu : Nat) (x1 : Int32) (x2 : Int32) (x3 : Int32) (x4 : Int32) (x5 : Int32) (F : PF) (G : PG) : PR := if x3 = (32 : Int32) then cb_X0_withRegister_102 fu x4 x5 x2 (((x1.toUInt32 >>> ((7 : Int32).toUInt32 &&& Int32.toUInt32 31)).toInt32) &&& (31 : Int32)) F G else cb_X0_withRegister_106 fu x4 x5 x2 (((x1.toUInt32 >>> ((7 : Int32).toUInt32 &&& Int32.toUInt32 31)).toInt32) &&& (31 : Int32)) F G
def cb_X0_withRegister_85 (fu : Nat) (F : PF) (G : PG) : PR := some (2, F, G)
def cb_X0_withRegister_80 (fu : Nat) (x1 : Int32) (x2 : Int32) (x3 : Int32) (x4 : Int32) (x5 : Int32) (F : PF) (G : PG) : PR := if x2 = (5 : Int32) then cb_X0_withRegister_87 fu x1 x2 x3 x4 x5 F G else cb_X0_withRegister_85 fu F G
def cb_X0_withRegister_76 (fu : Nat) (x1 : Int32) (x2 : Int32) (x3 : Int32) (x4 : Int32) (x5 : Int32) (F : PF) (G : PG) : PR := if x2 = (0 : Int32) then cb_X0_withRegister_87 fu x1 x2 x3 x4 x5 F G else cb_X0_withRegister_80 fu x1 x2 x3 x4 x5 F G
def cb_X0_withRegister_70 (fu : Nat) (x1 : Int32) (x2 : Int32) (x3 : Int32) (x4 : Int32) (x5 : Int32) (F : PF) (G : PG) : PR := if x3 = (32 : Int32) then cb_X0_withRegister_76 fu x1 x2 x3 x4 x5 F G else cb_X0_withRegister_85 fu F G
def cb_X0_withRegister_66 (fu : Nat) (x1 : Int32) (x2 : Int32) (x3 : Int32) (x4 : Int32) (x5 : Int32) (F : PF) (G : PG) : PR := if x3 = (0 : Int32) then cb_X0_withRegister_87 fu x1 x2 x3 x4 x5 F G else cb_X0_withRegister_70 fu x1 x2 x3 x4 x5 F G
def cb_X0_withRegister_65 (fu : Nat) (z0 : Int32) (F : PF) (G : PG) : PR := some (z0, F, G)
def cb_X0_withRegister_62 (fu : Nat) (z0 : Int32) (z1 : Int32) (F : PF) (G : PG) : PR := (cf_X0_keep fu z1 z0 F G).bind (fun q => cb_X0_withRegister_65 fu q.1 q.2.1 q.2.2)
def cb_X0_withRegister_46 (fu : Nat) (x1 : Int32) (x2 : Int32) (x4 : Int32) (x5 : Int32) (F : PF) (G : PG) : PR := (cf_X0_product fu x2 x4 x5 F G).bind (fun q => cb_X0_withRegister_62 fu q.1 (((x1.toUInt32 >>> ((7 : Int32).toUInt32 &&& Int32.toUInt32 31)).toInt32) &&& (31 : Int32)) q.2.1 q.2.2)
def cb_X0_withRegister_0 (fu : Nat) (x1 : Int32) (F : PF) (G : PG) : PR := if ixb (((x1.toUInt32 >>> ((15 : Int32).toUInt32 &&& Int32.toUInt32 31)).toInt32) &&& (31 : Int32)) 32 = true then (if ixb (((x1.toUInt32 >>> ((20 : Int32).toUInt32 &&& Int32.toUInt32 31)).toInt32) &&& (31 : Int32)) 32 = true then (if ((x1.toUInt32 >>> ((25 : Int32).toUInt32 &&& Int32.toUInt32 31)).toInt32) = (1 : Int32) then cb_X0_withRegister_46 fu x1 (((x1.toUInt32 >>> ((12 : Int32).toUInt32 &&& Int32.toUInt32 31)).toInt32) &&& (7 : Int32)) (G 1 (((x1.toUInt32 >>> ((15 : Int32).toUInt32 &&& Int32.toUInt32 31)).toInt32) &&& (31 : Int32)).toNatClampNeg) (G 1 (((x1.toUInt32 >>> ((20 : Int32).toUInt32 &&& Int32.toUInt32 31)).toInt32) &&& (31 : Int32)).toNatClampNeg) F G else cb_X0_withRegister_66 fu x1 (((x1.toUInt32 >>> ((12 : Int32).toUInt32 &&& Int32.toUInt32 31)).toInt32) &&& (7 : Int32)) ((x1.toUInt32 >>> ((25 : Int32).toUInt32 &&& Int32.toUInt32 31)).toInt32) (G 1 (((x1.toUInt32 >>> ((15 : Int32).toUInt32 &&& Int32.toUInt32 31)).toInt32) &&& (31 : Int32)).toNatClampNeg) (G 1 (((x1.toUInt32 >>> ((20 : Int32).toUInt32 &&& Int32.toUInt32 31)).toInt32) &&& (31 : Int32)).toNatClampNeg) F G) else none) else none
def cf_X0_withRegister (fu : Nat) (x1 : Int32) (F : PF) (G : PG) : PR := cb_X0_withRegister_0 fu x1 F G
theorem cn_X0_withRegister_117 (fu : Nat) {res : Int32 × PF × PG} (z0 : Int32) (F : PF) (G : PG) (hm : cb_X0_withRegister_117 fu z0 F G = some res) : xn F ≤ xn res.2.1 := by
  unfold cb_X0_withRegister_117 at hm
  obtain rfl := Option.some.inj hm
  exact Nat.le_refl _
theorem cw_X0_withRegister_117 (fu : Nat) {res : Int32 × PF × PG} (C : cMC p R s m args c A v RX0 cX0_withRegister 6 2 44 (xn res.2.1 - xn K0)) (hret : ∀ (b1 : Nat) (H1 : Heap) (locs1 : List Loc) (ls1 : Array Slot) (pc : Nat), cMW s A v a b1 K0 res.2.1 res.2.2 H1 locs1 → narrow .int (.int res.1) = .int res.1 → decode cX0_withRegister pc = .ok (.ireturn, 1) → W p l e R s m args below meth c H1 locs1 (xn res.2.1 - xn K0) (2 * (xn res.2.1 - xn K0)) Q (F0 m pc ls1 [.int res.1])) (z0 : Int32) (F : PF) (G : PG) (hm : cb_X0_withRegister_117 fu z0 F G = some res) {b : Nat} {H : Heap} {locs : List Loc} (hw : cMW s A v a b K0 F G H locs) {ls : Array Slot} (hl : lv_has ls 6 []) : W p l e R s m args below meth c H locs (xn F - xn K0) (2 * (xn F - xn K0)) Q (F0 m 117 ls [.int z0]) := by
  have hx := C.1
  have hb := C.2.1
  unfold cb_X0_withRegister_117 at hm
  obtain rfl := Option.some.inj hm
  exact hret _ _ _ _ _ hw rfl dX0_withRegister_117
theorem cn_X0_withRegister_114 (fu : Nat) {res : Int32 × PF × PG} (z0 : Int32) (z1 : Int32) (F : PF) (G : PG) (hm : cb_X0_withRegister_114 fu z0 z1 F G = some res) : xn F ≤ xn res.2.1 := by
  unfold cb_X0_withRegister_114 at hm
  obtain ⟨⟨r1, F1, G1⟩, hc, hm⟩ := bind_elim hm
  exact Nat.le_trans (cn_X0_keep fu z1 z0 F G _ hc) (cn_X0_withRegister_117 fu r1 F1 G1 hm)
theorem cw_X0_withRegister_114 (fu : Nat) {res : Int32 × PF × PG} (C : cMC p R s m args c A v RX0 cX0_withRegister 6 2 44 (xn res.2.1 - xn K0)) (hret : ∀ (b1 : Nat) (H1 : Heap) (locs1 : List Loc) (ls1 : Array Slot) (pc : Nat), cMW s A v a b1 K0 res.2.1 res.2.2 H1 locs1 → narrow .int (.int res.1) = .int res.1 → decode cX0_withRegister pc = .ok (.ireturn, 1) → W p l e R s m args below meth c H1 locs1 (xn res.2.1 - xn K0) (2 * (xn res.2.1 - xn K0)) Q (F0 m pc ls1 [.int res.1])) (z0 : Int32) (z1 : Int32) (F : PF) (G : PG) (hm : cb_X0_withRegister_114 fu z0 z1 F G = some res) {b : Nat} {H : Heap} {locs : List Loc} (hw : cMW s A v a b K0 F G H locs) {ls : Array Slot} (hl : lv_has ls 6 []) : W p l e R s m args below meth c H locs (xn F - xn K0) (2 * (xn F - xn K0)) Q (F0 m 114 ls [.int z0, .int z1, .ref (a 200)]) := by
  have hx := C.1
  have hb := C.2.1
  unfold cb_X0_withRegister_114 at hm
  obtain ⟨⟨r1, F1, G1⟩, hc, hm⟩ := bind_elim hm
  refine ccallI (n := 2) (As := [.int z1, .int z0]) (rest := []) C hw (ck_X0_keep l v a _ _ fu z1 z0 F G r1 F1 G1 hc) (cn_X0_keep fu z1 z0 F G _ hc) (Nat.sub_le_sub_right (cn_X0_withRegister_117 fu r1 F1 G1 hm) _) (crecv_X0 C hw) cm_947 cm_948 cm_949 cm_938 cm_950 (by decide +kernel) rfl (by omega) (by omega) hl.1 rfl (Nat.le_of_ble_eq_true rfl) dX0_withRegister_114 (fun b H locs hw => ?_)
  exact cw_X0_withRegister_117 fu C hret r1 F1 G1 hm hw (lv_sub hl [] rfl)
theorem cn_X0_withRegister_107 (fu : Nat) {res : Int32 × PF × PG} (x4 : Int32) (x5 : Int32) (z0 : Int32) (z1 : Int32) (z2 : Int32) (F : PF) (G : PG) (hm : cb_X0_withRegister_107 fu x4 x5 z0 z1 z2 F G = some res) : xn F ≤ xn res.2.1 := by
  unfold cb_X0_withRegister_107 at hm
  obtain ⟨⟨r1, F1, G1⟩, hc, hm⟩ := bind_elim hm
  exact Nat.le_trans (cn_X0_plain fu z1 z0 x4 x5 F G _ hc) (cn_X0_withRegister_114 fu r1 z2 F1 G1 hm)
theorem cw_X0_withRegister_107 (fu : Nat) {res : Int32 × PF × PG} (C : cMC p R s m args c A v RX0 cX0_withRegister 6 2 44 (xn res.2.1 - xn K0)) (hret : ∀ (b1 : Nat) (H1 : Heap) (locs1 : List Loc) (ls1 : Array Slot) (pc : Nat), cMW s A v a b1 K0 res.2.1 res.2.2 H1 locs1 → narrow .int (.int res.1) = .int res.1 → decode cX0_withRegister pc = .ok (.ireturn, 1) → W p l e R s m args below meth c H1 locs1 (xn res.2.1 - xn K0) (2 * (xn res.2.1 - xn K0)) Q (F0 m pc ls1 [.int res.1])) (x4 : Int32) (x5 : Int32) (z0 : Int32) (z1 : Int32) (z2 : Int32) (F : PF) (G : PG) (hm : cb_X0_withRegister_107 fu x4 x5 z0 z1 z2 F G = some res) {b : Nat} {H : Heap} {locs : List Loc} (hw : cMW s A v a b K0 F G H locs) {ls : Array Slot} (hl : lv_has ls 6 [(4, .int x4), (5, .int x5)]) : W p l e R s m args below meth c H locs (xn F - xn K0) (2 * (xn F - xn K0)) Q (F0 m 107 ls [.int z0, .int z1, .int z2, .ref (a 200)]) := by
  have hx := C.1
  have hb := C.2.1
  unfold cb_X0_withRegister_107 at hm
  refine lv_iload hx hb dX0_withRegister_107 (lv_at hl 0 rfl) ?_
  refine lv_iload hx hb dX0_withRegister_109 (lv_at hl 1 rfl) ?_
  obtain ⟨⟨r1, F1, G1⟩, hc, hm⟩ := bind_elim hm
  refine ccallIS (n := 4) (As := [.int z1, .int z0, .int x4, .int x5]) (rest := [.int z2, .ref (a 200)]) C hw (ck_X0_plain l v a _ _ fu z1 z0 x4 x5 F G r1 F1 G1 hc) (cn_X0_plain fu z1 z0 x4 x5 F G _ hc) (Nat.sub_le_sub_right (cn_X0_withRegister_114 fu r1 z2 F1 G1 hm) _) cm_1002 cm_1003 cm_938 cm_1004 (by decide +kernel) rfl (by omega) (by omega) hl.1 rfl (Nat.le_of_ble_eq_true rfl) dX0_withRegister_111 (fun b H locs hw => ?_)
  exact cw_X0_withRegister_114 fu C hret r1 z2 F1 G1 hm hw (lv_sub hl [] rfl)
theorem cn_X0_withRegister_106 (fu : Nat) {res : Int32 × PF × PG} (x4 : Int32) (x5 : Int32) (z0 : Int32) (z1 : Int32) (F : PF) (G : PG) (hm : cb_X0_withRegister_106 fu x4 x5 z0 z1 F G = some res) : xn F ≤ xn res.2.1 := by
  unfold cb_X0_withRegister_106 at hm
  exact (cn_X0_withRegister_107 fu x4 x5 0 z0 z1 F G hm)
theorem cw_X0_withRegister_106 (fu : Nat) {res : Int32 × PF × PG} (C : cMC p R s m args c A v RX0 cX0_withRegister 6 2 44 (xn res.2.1 - xn K0)) (hret : ∀ (b1 : Nat) (H1 : Heap) (locs1 : List Loc) (ls1 : Array Slot) (pc : Nat), cMW s A v a b1 K0 res.2.1 res.2.2 H1 locs1 → narrow .int (.int res.1) = .int res.1 → decode cX0_withRegister pc = .ok (.ireturn, 1) → W p l e R s m args below meth c H1 locs1 (xn res.2.1 - xn K0) (2 * (xn res.2.1 - xn K0)) Q (F0 m pc ls1 [.int res.1])) (x4 : Int32) (x5 : Int32) (z0 : Int32) (z1 : Int32) (F : PF) (G : PG) (hm : cb_X0_withRegister_106 fu x4 x5 z0 z1 F G = some res) {b : Nat} {H : Heap} {locs : List Loc} (hw : cMW s A v a b K0 F G H locs) {ls : Array Slot} (hl : lv_has ls 6 [(4, .int x4), (5, .int x5)]) : W p l e R s m args below meth c H locs (xn F - xn K0) (2 * (xn F - xn K0)) Q (F0 m 106 ls [.int z0, .int z1, .ref (a 200)]) := by
  have hx := C.1
  have hb := C.2.1
  unfold cb_X0_withRegister_106 at hm
  refine lv_iconst (v := 0) hx hb dX0_withRegister_106 (by decide) ?_
  exact cw_X0_withRegister_107 fu C hret x4 x5 0 z0 z1 F G hm hw (lv_sub hl [0, 1] rfl)
theorem cn_X0_withRegister_102 (fu : Nat) {res : Int32 × PF × PG} (x4 : Int32) (x5 : Int32) (z0 : Int32) (z1 : Int32) (F : PF) (G : PG) (hm : cb_X0_withRegister_102 fu x4 x5 z0 z1 F G = some res) : xn F ≤ xn res.2.1 := by
  unfold cb_X0_withRegister_102 at hm
  exact (cn_X0_withRegister_107 fu x4 x5 1 z0 z1 F G hm)
theorem cw_X0_withRegister_102 (fu : Nat) {res : Int32 × PF × PG} (C : cMC p R s m args c A v RX0 cX0_withRegister 6 2 44 (xn res.2.1 - xn K0)) (hret : ∀ (b1 : Nat) (H1 : Heap) (locs1 : List Loc) (ls1 : Array Slot) (pc : Nat), cMW s A v a b1 K0 res.2.1 res.2.2 H1 locs1 → narrow .int (.int res.1) = .int res.1 → decode cX0_withRegister pc = .ok (.ireturn, 1) → W p l e R s m args below meth c H1 locs1 (xn res.2.1 - xn K0) (2 * (xn res.2.1 - xn K0)) Q (F0 m pc ls1 [.int res.1])) (x4 : Int32) (x5 : Int32) (z0 : Int32) (z1 : Int32) (F : PF) (G : PG) (hm : cb_X0_withRegister_102 fu x4 x5 z0 z1 F G = some res) {b : Nat} {H : Heap} {locs : List Loc} (hw : cMW s A v a b K0 F G H locs) {ls : Array Slot} (hl : lv_has ls 6 [(4, .int x4), (5, .int x5)]) : W p l e R s m args below meth c H locs (xn F - xn K0) (2 * (xn F - xn K0)) Q (F0 m 102 ls [.int z0, .int z1, .ref (a 200)]) := by
  have hx := C.1
  have hb := C.2.1
  unfold cb_X0_withRegister_102 at hm
  refine lv_iconst (v := 1) hx hb dX0_withRegister_102 (by decide) ?_
  refine lv_goto (tgt := 107) hx hb dX0_withRegister_103 (by decide) ?_
  exact cw_X0_withRegister_107 fu C hret x4 x5 1 z0 z1 F G hm hw (lv_sub hl [0, 1] rfl)
theorem cn_X0_withRegister_87 (fu : Nat) {res : Int32 × PF × PG} (x1 : Int32) (x2 : Int32) (x3 : Int32) (x4 : Int32) (x5 : Int32) (F : PF) (G : PG) (hm : cb_X0_withRegister_87 fu x1 x2 x3 x4 x5 F G = some res) : xn F ≤ xn res.2.1 := by
  unfold cb_X0_withRegister_87 at hm
  by_cases c_1 : x3 = (32 : Int32)
  · have hm := (if_pos c_1).symm.trans hm
    exact (cn_X0_withRegister_102 fu x4 x5 x2 (((x1.toUInt32 >>> ((7 : Int32).toUInt32 &&& Int32.toUInt32 31)).toInt32) &&& (31 : Int32)) F G hm)
  · have hm := (if_neg c_1).symm.trans hm
    exact (cn_X0_withRegister_106 fu x4 x5 x2 (((x1.toUInt32 >>> ((7 : Int32).toUInt32 &&& Int32.toUInt32 31)).toInt32) &&& (31 : Int32)) F G hm)
theorem cw_X0_withRegister_87 (fu : Nat) {res : Int32 × PF × PG} (C : cMC p R s m args c A v RX0 cX0_withRegister 6 2 44 (xn res.2.1 - xn K0)) (hret : ∀ (b1 : Nat) (H1 : Heap) (locs1 : List Loc) (ls1 : Array Slot) (pc : Nat), cMW s A v a b1 K0 res.2.1 res.2.2 H1 locs1 → narrow .int (.int res.1) = .int res.1 → decode cX0_withRegister pc = .ok (.ireturn, 1) → W p l e R s m args below meth c H1 locs1 (xn res.2.1 - xn K0) (2 * (xn res.2.1 - xn K0)) Q (F0 m pc ls1 [.int res.1])) (x1 : Int32) (x2 : Int32) (x3 : Int32) (x4 : Int32) (x5 : Int32) (F : PF) (G : PG) (hm : cb_X0_withRegister_87 fu x1 x2 x3 x4 x5 F G = some res) {b : Nat} {H : Heap} {locs : List Loc} (hw : cMW s A v a b K0 F G H locs) {ls : Array Slot} (hl : lv_has ls 6 [(0, .ref (a 200)), (1, .int x1), (2, .int x2), (3, .int x3), (4, .int x4), (5, .int x5)]) : W p l e R s m args below meth c H locs (xn F - xn K0) (2 * (xn F - xn K0)) Q (F0 m 87 ls []) := by
  have hx := C.1
  have hb := C.2.1
  unfold cb_X0_withRegister_87 at hm
  refine lv_aload_n hx hb dX0_withRegister_87 rfl (lv_at hl 0 rfl) ?_
  refine lv_iload_n hx hb dX0_withRegister_88 rfl (lv_at hl 1 rfl) ?_
  refine lv_bipush (v := 7) hx hb dX0_withRegister_89 (by decide) ?_
  refine lv_iushr hx hb dX0_withRegister_91 rfl ?_
  refine lv_bipush (v := 31) hx hb dX0_withRegister_92 (by decide) ?_
  refine lv_iand hx hb dX0_withRegister_94 ?_
  refine lv_iload_n hx hb dX0_withRegister_95 rfl (lv_at hl 2 rfl) ?_
  refine lv_iload_n hx hb dX0_withRegister_96 rfl (lv_at hl 3 rfl) ?_
  refine lv_bipush (v := 32) hx hb dX0_withRegister_97 (by decide) ?_
  refine lv_icmp_ne (tgt := 106) hx hb dX0_withRegister_99 (by decide) (fun c_1 => ?_) (fun c_1 => ?_)
  · have hm := (if_neg c_1).symm.trans hm
    exact cw_X0_withRegister_106 fu C hret x4 x5 x2 (((x1.toUInt32 >>> ((7 : Int32).toUInt32 &&& Int32.toUInt32 31)).toInt32) &&& (31 : Int32)) F G hm hw (lv_sub hl [4, 5] rfl)
  · have hm := (if_pos c_1).symm.trans hm
    exact cw_X0_withRegister_102 fu C hret x4 x5 x2 (((x1.toUInt32 >>> ((7 : Int32).toUInt32 &&& Int32.toUInt32 31)).toInt32) &&& (31 : Int32)) F G hm hw (lv_sub hl [4, 5] rfl)
theorem cn_X0_withRegister_85 (fu : Nat) {res : Int32 × PF × PG} (F : PF) (G : PG) (hm : cb_X0_withRegister_85 fu F G = some res) : xn F ≤ xn res.2.1 := by
  unfold cb_X0_withRegister_85 at hm
  obtain rfl := Option.some.inj hm
  exact Nat.le_refl _
theorem cw_X0_withRegister_85 (fu : Nat) {res : Int32 × PF × PG} (C : cMC p R s m args c A v RX0 cX0_withRegister 6 2 44 (xn res.2.1 - xn K0)) (hret : ∀ (b1 : Nat) (H1 : Heap) (locs1 : List Loc) (ls1 : Array Slot) (pc : Nat), cMW s A v a b1 K0 res.2.1 res.2.2 H1 locs1 → narrow .int (.int res.1) = .int res.1 → decode cX0_withRegister pc = .ok (.ireturn, 1) → W p l e R s m args below meth c H1 locs1 (xn res.2.1 - xn K0) (2 * (xn res.2.1 - xn K0)) Q (F0 m pc ls1 [.int res.1])) (F : PF) (G : PG) (hm : cb_X0_withRegister_85 fu F G = some res) {b : Nat} {H : Heap} {locs : List Loc} (hw : cMW s A v a b K0 F G H locs) {ls : Array Slot} (hl : lv_has ls 6 []) : W p l e R s m args below meth c H locs (xn F - xn K0) (2 * (xn F - xn K0)) Q (F0 m 85 ls []) := by
  have hx := C.1
  have hb := C.2.1
  unfold cb_X0_withRegister_85 at hm
  refine lv_iconst (v := 2) hx hb dX0_withRegister_85 (by decide) ?_
  obtain rfl := Option.some.inj hm
  exact hret _ _ _ _ _ hw rfl dX0_withRegister_86
theorem cn_X0_withRegister_80 (fu : Nat) {res : Int32 × PF × PG} (x1 : Int32) (x2 : Int32) (x3 : Int32) (x4 : Int32) (x5 : Int32) (F : PF) (G : PG) (hm : cb_X0_withRegister_80 fu x1 x2 x3 x4 x5 F G = some res) : xn F ≤ xn res.2.1 := by
  unfold cb_X0_withRegister_80 at hm
  by_cases c_1 : x2 = (5 : Int32)
  · have hm := (if_pos c_1).symm.trans hm
    exact (cn_X0_withRegister_87 fu x1 x2 x3 x4 x5 F G hm)
  · have hm := (if_neg c_1).symm.trans hm
    exact (cn_X0_withRegister_85 fu F G hm)
theorem cw_X0_withRegister_80 (fu : Nat) {res : Int32 × PF × PG} (C : cMC p R s m args c A v RX0 cX0_withRegister 6 2 44 (xn res.2.1 - xn K0)) (hret : ∀ (b1 : Nat) (H1 : Heap) (locs1 : List Loc) (ls1 : Array Slot) (pc : Nat), cMW s A v a b1 K0 res.2.1 res.2.2 H1 locs1 → narrow .int (.int res.1) = .int res.1 → decode cX0_withRegister pc = .ok (.ireturn, 1) → W p l e R s m args below meth c H1 locs1 (xn res.2.1 - xn K0) (2 * (xn res.2.1 - xn K0)) Q (F0 m pc ls1 [.int res.1])) (x1 : Int32) (x2 : Int32) (x3 : Int32) (x4 : Int32) (x5 : Int32) (F : PF) (G : PG) (hm : cb_X0_withRegister_80 fu x1 x2 x3 x4 x5 F G = some res) {b : Nat} {H : Heap} {locs : List Loc} (hw : cMW s A v a b K0 F G H locs) {ls : Array Slot} (hl : lv_has ls 6 [(0, .ref (a 200)), (1, .int x1), (2, .int x2), (3, .int x3), (4, .int x4), (5, .int x5)]) : W p l e R s m args below meth c H locs (xn F - xn K0) (2 * (xn F - xn K0)) Q (F0 m 80 ls []) := by
  have hx := C.1
  have hb := C.2.1
  unfold cb_X0_withRegister_80 at hm
  refine lv_iload_n hx hb dX0_withRegister_80 rfl (lv_at hl 2 rfl) ?_
  refine lv_iconst (v := 5) hx hb dX0_withRegister_81 (by decide) ?_
  refine lv_icmp_eq (tgt := 87) hx hb dX0_withRegister_82 (by decide) (fun c_1 => ?_) (fun c_1 => ?_)
  · have hm := (if_pos c_1).symm.trans hm
    exact cw_X0_withRegister_87 fu C hret x1 x2 x3 x4 x5 F G hm hw (lv_sub hl [0, 1, 2, 3, 4, 5] rfl)
  · have hm := (if_neg c_1).symm.trans hm
    exact cw_X0_withRegister_85 fu C hret F G hm hw (lv_sub hl [] rfl)
theorem cn_X0_withRegister_76 (fu : Nat) {res : Int32 × PF × PG} (x1 : Int32) (x2 : Int32) (x3 : Int32) (x4 : Int32) (x5 : Int32) (F : PF) (G : PG) (hm : cb_X0_withRegister_76 fu x1 x2 x3 x4 x5 F G = some res) : xn F ≤ xn res.2.1 := by
  unfold cb_X0_withRegister_76 at hm
  by_cases c_1 : x2 = (0 : Int32)
  · have hm := (if_pos c_1).symm.trans hm
    exact (cn_X0_withRegister_87 fu x1 x2 x3 x4 x5 F G hm)
  · have hm := (if_neg c_1).symm.trans hm
    exact (cn_X0_withRegister_80 fu x1 x2 x3 x4 x5 F G hm)
theorem cw_X0_withRegister_76 (fu : Nat) {res : Int32 × PF × PG} (C : cMC p R s m args c A v RX0 cX0_withRegister 6 2 44 (xn res.2.1 - xn K0)) (hret : ∀ (b1 : Nat) (H1 : Heap) (locs1 : List Loc) (ls1 : Array Slot) (pc : Nat), cMW s A v a b1 K0 res.2.1 res.2.2 H1 locs1 → narrow .int (.int res.1) = .int res.1 → decode cX0_withRegister pc = .ok (.ireturn, 1) → W p l e R s m args below meth c H1 locs1 (xn res.2.1 - xn K0) (2 * (xn res.2.1 - xn K0)) Q (F0 m pc ls1 [.int res.1])) (x1 : Int32) (x2 : Int32) (x3 : Int32) (x4 : Int32) (x5 : Int32) (F : PF) (G : PG) (hm : cb_X0_withRegister_76 fu x1 x2 x3 x4 x5 F G = some res) {b : Nat} {H : Heap} {locs : List Loc} (hw : cMW s A v a b K0 F G H locs) {ls : Array Slot} (hl : lv_has ls 6 [(0, .ref (a 200)), (1, .int x1), (2, .int x2), (3, .int x3), (4, .int x4), (5, .int x5)]) : W p l e R s m args below meth c H locs (xn F - xn K0) (2 * (xn F - xn K0)) Q (F0 m 76 ls []) := by
  have hx := C.1
  have hb := C.2.1
  unfold cb_X0_withRegister_76 at hm
  refine lv_iload_n hx hb dX0_withRegister_76 rfl (lv_at hl 2 rfl) ?_
  refine lv_if_eq (tgt := 87) hx hb dX0_withRegister_77 (by decide) (fun c_1 => ?_) (fun c_1 => ?_)
  · have hm := (if_pos c_1).symm.trans hm
    exact cw_X0_withRegister_87 fu C hret x1 x2 x3 x4 x5 F G hm hw (lv_sub hl [0, 1, 2, 3, 4, 5] rfl)
  · have hm := (if_neg c_1).symm.trans hm
    exact cw_X0_withRegister_80 fu C hret x1 x2 x3 x4 x5 F G hm hw (lv_sub hl [0, 1, 2, 3, 4, 5] rfl)
theorem cn_X0_withRegister_70 (fu : Nat) {res : Int32 × PF × PG} (x1 : Int32) (x2 : Int32) (x3 : Int32) (x4 : Int32) (x5 : Int32) (F : PF) (G : PG) (hm : cb_X0_withRegister_70 fu x1 x2 x3 x4 x5 F G = some res) : xn F ≤ xn res.2.1 := by
  unfold cb_X0_withRegister_70 at hm
  by_cases c_1 : x3 = (32 : Int32)
  · have hm := (if_pos c_1).symm.trans hm
    exact (cn_X0_withRegister_76 fu x1 x2 x3 x4 x5 F G hm)
  · have hm := (if_neg c_1).symm.trans hm
    exact (cn_X0_withRegister_85 fu F G hm)
theorem cw_X0_withRegister_70 (fu : Nat) {res : Int32 × PF × PG} (C : cMC p R s m args c A v RX0 cX0_withRegister 6 2 44 (xn res.2.1 - xn K0)) (hret : ∀ (b1 : Nat) (H1 : Heap) (locs1 : List Loc) (ls1 : Array Slot) (pc : Nat), cMW s A v a b1 K0 res.2.1 res.2.2 H1 locs1 → narrow .int (.int res.1) = .int res.1 → decode cX0_withRegister pc = .ok (.ireturn, 1) → W p l e R s m args below meth c H1 locs1 (xn res.2.1 - xn K0) (2 * (xn res.2.1 - xn K0)) Q (F0 m pc ls1 [.int res.1])) (x1 : Int32) (x2 : Int32) (x3 : Int32) (x4 : Int32) (x5 : Int32) (F : PF) (G : PG) (hm : cb_X0_withRegister_70 fu x1 x2 x3 x4 x5 F G = some res) {b : Nat} {H : Heap} {locs : List Loc} (hw : cMW s A v a b K0 F G H locs) {ls : Array Slot} (hl : lv_has ls 6 [(0, .ref (a 200)), (1, .int x1), (2, .int x2), (3, .int x3), (4, .int x4), (5, .int x5)]) : W p l e R s m args below meth c H locs (xn F - xn K0) (2 * (xn F - xn K0)) Q (F0 m 70 ls []) := by
  have hx := C.1
  have hb := C.2.1
  unfold cb_X0_withRegister_70 at hm
  refine lv_iload_n hx hb dX0_withRegister_70 rfl (lv_at hl 3 rfl) ?_
  refine lv_bipush (v := 32) hx hb dX0_withRegister_71 (by decide) ?_
  refine lv_icmp_ne (tgt := 85) hx hb dX0_withRegister_73 (by decide) (fun c_1 => ?_) (fun c_1 => ?_)
  · have hm := (if_neg c_1).symm.trans hm
    exact cw_X0_withRegister_85 fu C hret F G hm hw (lv_sub hl [] rfl)
  · have hm := (if_pos c_1).symm.trans hm
    exact cw_X0_withRegister_76 fu C hret x1 x2 x3 x4 x5 F G hm hw (lv_sub hl [0, 1, 2, 3, 4, 5] rfl)
theorem cn_X0_withRegister_66 (fu : Nat) {res : Int32 × PF × PG} (x1 : Int32) (x2 : Int32) (x3 : Int32) (x4 : Int32) (x5 : Int32) (F : PF) (G : PG) (hm : cb_X0_withRegister_66 fu x1 x2 x3 x4 x5 F G = some res) : xn F ≤ xn res.2.1 := by
  unfold cb_X0_withRegister_66 at hm
  by_cases c_1 : x3 = (0 : Int32)
  · have hm := (if_pos c_1).symm.trans hm
    exact (cn_X0_withRegister_87 fu x1 x2 x3 x4 x5 F G hm)
  · have hm := (if_neg c_1).symm.trans hm
    exact (cn_X0_withRegister_70 fu x1 x2 x3 x4 x5 F G hm)
theorem cw_X0_withRegister_66 (fu : Nat) {res : Int32 × PF × PG} (C : cMC p R s m args c A v RX0 cX0_withRegister 6 2 44 (xn res.2.1 - xn K0)) (hret : ∀ (b1 : Nat) (H1 : Heap) (locs1 : List Loc) (ls1 : Array Slot) (pc : Nat), cMW s A v a b1 K0 res.2.1 res.2.2 H1 locs1 → narrow .int (.int res.1) = .int res.1 → decode cX0_withRegister pc = .ok (.ireturn, 1) → W p l e R s m args below meth c H1 locs1 (xn res.2.1 - xn K0) (2 * (xn res.2.1 - xn K0)) Q (F0 m pc ls1 [.int res.1])) (x1 : Int32) (x2 : Int32) (x3 : Int32) (x4 : Int32) (x5 : Int32) (F : PF) (G : PG) (hm : cb_X0_withRegister_66 fu x1 x2 x3 x4 x5 F G = some res) {b : Nat} {H : Heap} {locs : List Loc} (hw : cMW s A v a b K0 F G H locs) {ls : Array Slot} (hl : lv_has ls 6 [(0, .ref (a 200)), (1, .int x1), (2, .int x2), (3, .int x3), (4, .int x4), (5, .int x5)]) : W p l e R s m args below meth c H locs (xn F - xn K0) (2 * (xn F - xn K0)) Q (F0 m 66 ls []) := by
  have hx := C.1
  have hb := C.2.1
  unfold cb_X0_withRegister_66 at hm
  refine lv_iload_n hx hb dX0_withRegister_66 rfl (lv_at hl 3 rfl) ?_
  refine lv_if_eq (tgt := 87) hx hb dX0_withRegister_67 (by decide) (fun c_1 => ?_) (fun c_1 => ?_)
  · have hm := (if_pos c_1).symm.trans hm
    exact cw_X0_withRegister_87 fu C hret x1 x2 x3 x4 x5 F G hm hw (lv_sub hl [0, 1, 2, 3, 4, 5] rfl)
  · have hm := (if_neg c_1).symm.trans hm
    exact cw_X0_withRegister_70 fu C hret x1 x2 x3 x4 x5 F G hm hw (lv_sub hl [0, 1, 2, 3, 4, 5] rfl)
theorem cn_X0_withRegister_65 (fu : Nat) {res : Int32 × PF × PG} (z0 : Int32) (F : PF) (G : PG) (hm : cb_X0_withRegister_65 fu z0 F G = some res) : xn F ≤ xn res.2.1 := by
  unfold cb_X0_withRegister_65 at hm
  obtain rfl := Option.some.inj hm
  exact Nat.le_refl _
theorem cw_X0_withRegister_65 (fu : Nat) {res : Int32 × PF × PG} (C : cMC p R s m args c A v RX0 cX0_withRegister 6 2 44 (xn res.2.1 - xn K0)) (hret : ∀ (b1 : Nat) (H1 : Heap) (locs1 : List Loc) (ls1 : Array Slot) (pc : Nat), cMW s A v a b1 K0 res.2.1 res.2.2 H1 locs1 → narrow .int (.int res.1) = .int res.1 → decode cX0_withRegister pc = .ok (.ireturn, 1) → W p l e R s m args below meth c H1 locs1 (xn res.2.1 - xn K0) (2 * (xn res.2.1 - xn K0)) Q (F0 m pc ls1 [.int res.1])) (z0 : Int32) (F : PF) (G : PG) (hm : cb_X0_withRegister_65 fu z0 F G = some res) {b : Nat} {H : Heap} {locs : List Loc} (hw : cMW s A v a b K0 F G H locs) {ls : Array Slot} (hl : lv_has ls 6 []) : W p l e R s m args below meth c H locs (xn F - xn K0) (2 * (xn F - xn K0)) Q (F0 m 65 ls [.int z0]) := by
  have hx := C.1
  have hb := C.2.1
  unfold cb_X0_withRegister_65 at hm
  obtain rfl := Option.some.inj hm
  exact hret _ _ _ _ _ hw rfl dX0_withRegister_65
theorem cn_X0_withRegister_62 (fu : Nat) {res : Int32 × PF × PG} (z0 : Int32) (z1 : Int32) (F : PF) (G : PG) (hm : cb_X0_withRegister_62 fu z0 z1 F G = some res) : xn F ≤ xn res.2.1 := by
  unfold cb_X0_withRegister_62 at hm
  obtain ⟨⟨r1, F1, G1⟩, hc, hm⟩ := bind_elim hm
  exact Nat.le_trans (cn_X0_keep fu z1 z0 F G _ hc) (cn_X0_withRegister_65 fu r1 F1 G1 hm)
theorem cw_X0_withRegister_62 (fu : Nat) {res : Int32 × PF × PG} (C : cMC p R s m args c A v RX0 cX0_withRegister 6 2 44 (xn res.2.1 - xn K0)) (hret : ∀ (b1 : Nat) (H1 : Heap) (locs1 : List Loc) (ls1 : Array Slot) (pc : Nat), cMW s A v a b1 K0 res.2.1 res.2.2 H1 locs1 → narrow .int (.int res.1) = .int res.1 → decode cX0_withRegister pc = .ok (.ireturn, 1) → W p l e R s m args below meth c H1 locs1 (xn res.2.1 - xn K0) (2 * (xn res.2.1 - xn K0)) Q (F0 m pc ls1 [.int res.1])) (z0 : Int32) (z1 : Int32) (F : PF) (G : PG) (hm : cb_X0_withRegister_62 fu z0 z1 F G = some res) {b : Nat} {H : Heap} {locs : List Loc} (hw : cMW s A v a b K0 F G H locs) {ls : Array Slot} (hl : lv_has ls 6 []) : W p l e R s m args below meth c H locs (xn F - xn K0) (2 * (xn F - xn K0)) Q (F0 m 62 ls [.int z0, .int z1, .ref (a 200)]) := by
  have hx := C.1
  have hb := C.2.1
  unfold cb_X0_withRegister_62 at hm
  obtain ⟨⟨r1, F1, G1⟩, hc, hm⟩ := bind_elim hm
  refine ccallI (n := 2) (As := [.int z1, .int z0]) (rest := []) C hw (ck_X0_keep l v a _ _ fu z1 z0 F G r1 F1 G1 hc) (cn_X0_keep fu z1 z0 F G _ hc) (Nat.sub_le_sub_right (cn_X0_withRegister_65 fu r1 F1 G1 hm) _) (crecv_X0 C hw) cm_947 cm_948 cm_949 cm_938 cm_950 (by decide +kernel) rfl (by omega) (by omega) hl.1 rfl (Nat.le_of_ble_eq_true rfl) dX0_withRegister_62 (fun b H locs hw => ?_)
  exact cw_X0_withRegister_65 fu C hret r1 F1 G1 hm hw (lv_sub hl [] rfl)
theorem cn_X0_withRegister_46 (fu : Nat) {res : Int32 × PF × PG} (x1 : Int32) (x2 : Int32) (x4 : Int32) (x5 : Int32) (F : PF) (G : PG) (hm : cb_X0_withRegister_46 fu x1 x2 x4 x5 F G = some res) : xn F ≤ xn res.2.1 := by
  unfold cb_X0_withRegister_46 at hm
  obtain ⟨⟨r1, F1, G1⟩, hc, hm⟩ := bind_elim hm
  exact Nat.le_trans (cn_X0_product fu x2 x4 x5 F G _ hc) (cn_X0_withRegister_62 fu r1 (((x1.toUInt32 >>> ((7 : Int32).toUInt32 &&& Int32.toUInt32 31)).toInt32) &&& (31 : Int32)) F1 G1 hm)
theorem cw_X0_withRegister_46 (fu : Nat) {res : Int32 × PF × PG} (C : cMC p R s m args c A v RX0 cX0_withRegister 6 2 44 (xn res.2.1 - xn K0)) (hret : ∀ (b1 : Nat) (H1 : Heap) (locs1 : List Loc) (ls1 : Array Slot) (pc : Nat), cMW s A v a b1 K0 res.2.1 res.2.2 H1 locs1 → narrow .int (.int res.1) = .int res.1 → decode cX0_withRegister pc = .ok (.ireturn, 1) → W p l e R s m args below meth c H1 locs1 (xn res.2.1 - xn K0) (2 * (xn res.2.1 - xn K0)) Q (F0 m pc ls1 [.int res.1])) (x1 : Int32) (x2 : Int32) (x4 : Int32) (x5 : Int32) (F : PF) (G : PG) (hm : cb_X0_withRegister_46 fu x1 x2 x4 x5 F G = some res) {b : Nat} {H : Heap} {locs : List Loc} (hw : cMW s A v a b K0 F G H locs) {ls : Array Slot} (hl : lv_has ls 6 [(0, .ref (a 200)), (1, .int x1), (2, .int x2), (4, .int x4), (5, .int x5)]) : W p l e R s m args below meth c H locs (xn F - xn K0) (2 * (xn F - xn K0)) Q (F0 m 46 ls []) := by
  have hx := C.1
  have hb := C.2.1
  unfold cb_X0_withRegister_46 at hm
  refine lv_aload_n hx hb dX0_withRegister_46 rfl (lv_at hl 0 rfl) ?_
  refine lv_iload_n hx hb dX0_withRegister_47 rfl (lv_at hl 1 rfl) ?_
  refine lv_bipush (v := 7) hx hb dX0_withRegister_48 (by decide) ?_
  refine lv_iushr hx hb dX0_withRegister_50 rfl ?_
  refine lv_bipush (v := 31) hx hb dX0_withRegister_51 (by decide) ?_
  refine lv_iand hx hb dX0_withRegister_53 ?_
  refine lv_iload_n hx hb dX0_withRegister_54 rfl (lv_at hl 2 rfl) ?_
  refine lv_iload hx hb dX0_withRegister_55 (lv_at hl 3 rfl) ?_
  refine lv_iload hx hb dX0_withRegister_57 (lv_at hl 4 rfl) ?_
  obtain ⟨⟨r1, F1, G1⟩, hc, hm⟩ := bind_elim hm
  refine ccallIS (n := 3) (As := [.int x2, .int x4, .int x5]) (rest := [.int (((x1.toUInt32 >>> ((7 : Int32).toUInt32 &&& Int32.toUInt32 31)).toInt32) &&& (31 : Int32)), .ref (a 200)]) C hw (ck_X0_product l v a _ _ fu x2 x4 x5 F G r1 F1 G1 hc) (cn_X0_product fu x2 x4 x5 F G _ hc) (Nat.sub_le_sub_right (cn_X0_withRegister_62 fu r1 (((x1.toUInt32 >>> ((7 : Int32).toUInt32 &&& Int32.toUInt32 31)).toInt32) &&& (31 : Int32)) F1 G1 hm) _) cm_1009 cm_1010 cm_938 cm_1011 (by decide +kernel) rfl (by omega) (by omega) hl.1 rfl (Nat.le_of_ble_eq_true rfl) dX0_withRegister_59 (fun b H locs hw => ?_)
  exact cw_X0_withRegister_62 fu C hret r1 (((x1.toUInt32 >>> ((7 : Int32).toUInt32 &&& Int32.toUInt32 31)).toInt32) &&& (31 : Int32)) F1 G1 hm hw (lv_sub hl [] rfl)
theorem cn_X0_withRegister_0 (fu : Nat) {res : Int32 × PF × PG} (x1 : Int32) (F : PF) (G : PG) (hm : cb_X0_withRegister_0 fu x1 F G = some res) : xn F ≤ xn res.2.1 := by
  unfold cb_X0_withRegister_0 at hm
  have hm := (ix_elim hm).2
  have hm := (ix_elim hm).2
  by_cases c_1 : ((x1.toUInt32 >>> ((25 : Int32).toUInt32 &&& Int32.toUInt32 31)).toInt32) = (1 : Int32)
  · have hm := (if_pos c_1).symm.trans hm
    exact (cn_X0_withRegister_46 fu x1 (((x1.toUInt32 >>> ((12 : Int32).toUInt32 &&& Int32.toUInt32 31)).toInt32) &&& (7 : Int32)) (G 1 (((x1.toUInt32 >>> ((15 : Int32).toUInt32 &&& Int32.toUInt32 31)).toInt32) &&& (31 : Int32)).toNatClampNeg) (G 1 (((x1.toUInt32 >>> ((20 : Int32).toUInt32 &&& Int32.toUInt32 31)).toInt32) &&& (31 : Int32)).toNatClampNeg) F G hm)
  · have hm := (if_neg c_1).symm.trans hm
    exact (cn_X0_withRegister_66 fu x1 (((x1.toUInt32 >>> ((12 : Int32).toUInt32 &&& Int32.toUInt32 31)).toInt32) &&& (7 : Int32)) ((x1.toUInt32 >>> ((25 : Int32).toUInt32 &&& Int32.toUInt32 31)).toInt32) (G 1 (((x1.toUInt32 >>> ((15 : Int32).toUInt32 &&& Int32.toUInt32 31)).toInt32) &&& (31 : Int32)).toNatClampNeg) (G 1 (((x1.toUInt32 >>> ((20 : Int32).toUInt32 &&& Int32.toUInt32 31)).toInt32) &&& (31 : Int32)).toNatClampNeg) F G hm)
theorem cw_X0_withRegister_0 (fu : Nat) {res : Int32 × PF × PG} (C : cMC p R s m args c A v RX0 cX0_withRegister 6 2 44 (xn res.2.1 - xn K0)) (hret : ∀ (b1 : Nat) (H1 : Heap) (locs1 : List Loc) (ls1 : Array Slot) (pc : Nat), cMW s A v a b1 K0 res.2.1 res.2.2 H1 locs1 → narrow .int (.int res.1) = .int res.1 → decode cX0_withRegister pc = .ok (.ireturn, 1) → W p l e R s m args below meth c H1 locs1 (xn res.2.1 - xn K0) (2 * (xn res.2.1 - xn K0)) Q (F0 m pc ls1 [.int res.1])) (x1 : Int32) (F : PF) (G : PG) (hm : cb_X0_withRegister_0 fu x1 F G = some res) {b : Nat} {H : Heap} {locs : List Loc} (hw : cMW s A v a b K0 F G H locs) {ls : Array Slot} (hl : lv_has ls 6 [(0, .ref (a 200)), (1, .int x1)]) : W p l e R s m args below meth c H locs (xn F - xn K0) (2 * (xn F - xn K0)) Q (F0 m 0 ls []) := by
  have hx := C.1
  have hb := C.2.1
  unfold cb_X0_withRegister_0 at hm
  refine lv_iload_n hx hb dX0_withRegister_0 rfl (lv_at hl 1 rfl) ?_
  refine lv_bipush (v := 12) hx hb dX0_withRegister_1 (by decide) ?_
  refine lv_iushr hx hb dX0_withRegister_3 rfl ?_
  refine lv_bipush (v := 7) hx hb dX0_withRegister_4 (by decide) ?_
  refine lv_iand hx hb dX0_withRegister_6 ?_
  refine lv_istore_n (lv' := [(2, .int (((x1.toUInt32 >>> ((12 : Int32).toUInt32 &&& Int32.toUInt32 31)).toInt32) &&& (7 : Int32))), (0, .ref (a 200)), (1, .int x1)]) hx hb dX0_withRegister_7 rfl hl (by decide) rfl (fun ls hl => ?_)
  refine lv_iload_n hx hb dX0_withRegister_8 rfl (lv_at hl 2 rfl) ?_
  refine lv_bipush (v := 25) hx hb dX0_withRegister_9 (by decide) ?_
  refine lv_iushr hx hb dX0_withRegister_11 rfl ?_
  refine lv_istore_n (lv' := [(3, .int ((x1.toUInt32 >>> ((25 : Int32).toUInt32 &&& Int32.toUInt32 31)).toInt32)), (2, .int (((x1.toUInt32 >>> ((12 : Int32).toUInt32 &&& Int32.toUInt32 31)).toInt32) &&& (7 : Int32))), (0, .ref (a 200)), (1, .int x1)]) hx hb dX0_withRegister_12 rfl hl (by decide) rfl (fun ls hl => ?_)
  refine lv_aload_n hx hb dX0_withRegister_13 rfl (lv_at hl 2 rfl) ?_
  refine cg_X0_15 C hw dX0_withRegister_14 ?_
  refine lv_iload_n hx hb dX0_withRegister_17 rfl (lv_at hl 3 rfl) ?_
  refine lv_bipush (v := 15) hx hb dX0_withRegister_18 (by decide) ?_
  refine lv_iushr hx hb dX0_withRegister_20 rfl ?_
  refine lv_bipush (v := 31) hx hb dX0_withRegister_21 (by decide) ?_
  refine lv_iand hx hb dX0_withRegister_23 ?_
  obtain ⟨hi, hm⟩ := ix_elim hm
  refine cal_1 C hw hi dX0_withRegister_24 ?_
  refine lv_istore (lv' := [(4, .int (G 1 (((x1.toUInt32 >>> ((15 : Int32).toUInt32 &&& Int32.toUInt32 31)).toInt32) &&& (31 : Int32)).toNatClampNeg)), (3, .int ((x1.toUInt32 >>> ((25 : Int32).toUInt32 &&& Int32.toUInt32 31)).toInt32)), (2, .int (((x1.toUInt32 >>> ((12 : Int32).toUInt32 &&& Int32.toUInt32 31)).toInt32) &&& (7 : Int32))), (0, .ref (a 200)), (1, .int x1)]) hx hb dX0_withRegister_25 hl (by decide) rfl (fun ls hl => ?_)
  refine lv_aload_n hx hb dX0_withRegister_27 rfl (lv_at hl 3 rfl) ?_
  refine cg_X0_15 C hw dX0_withRegister_28 ?_
  refine lv_iload_n hx hb dX0_withRegister_31 rfl (lv_at hl 4 rfl) ?_
  refine lv_bipush (v := 20) hx hb dX0_withRegister_32 (by decide) ?_
  refine lv_iushr hx hb dX0_withRegister_34 rfl ?_
  refine lv_bipush (v := 31) hx hb dX0_withRegister_35 (by decide) ?_
  refine lv_iand hx hb dX0_withRegister_37 ?_
  obtain ⟨hi, hm⟩ := ix_elim hm
  refine cal_1 C hw hi dX0_withRegister_38 ?_
  refine lv_istore (lv' := [(5, .int (G 1 (((x1.toUInt32 >>> ((20 : Int32).toUInt32 &&& Int32.toUInt32 31)).toInt32) &&& (31 : Int32)).toNatClampNeg)), (4, .int (G 1 (((x1.toUInt32 >>> ((15 : Int32).toUInt32 &&& Int32.toUInt32 31)).toInt32) &&& (31 : Int32)).toNatClampNeg)), (3, .int ((x1.toUInt32 >>> ((25 : Int32).toUInt32 &&& Int32.toUInt32 31)).toInt32)), (2, .int (((x1.toUInt32 >>> ((12 : Int32).toUInt32 &&& Int32.toUInt32 31)).toInt32) &&& (7 : Int32))), (0, .ref (a 200)), (1, .int x1)]) hx hb dX0_withRegister_39 hl (by decide) rfl (fun ls hl => ?_)
  refine lv_iload_n hx hb dX0_withRegister_41 rfl (lv_at hl 2 rfl) ?_
  refine lv_iconst (v := 1) hx hb dX0_withRegister_42 (by decide) ?_
  refine lv_icmp_ne (tgt := 66) hx hb dX0_withRegister_43 (by decide) (fun c_1 => ?_) (fun c_1 => ?_)
  · have hm := (if_neg c_1).symm.trans hm
    exact cw_X0_withRegister_66 fu C hret x1 (((x1.toUInt32 >>> ((12 : Int32).toUInt32 &&& Int32.toUInt32 31)).toInt32) &&& (7 : Int32)) ((x1.toUInt32 >>> ((25 : Int32).toUInt32 &&& Int32.toUInt32 31)).toInt32) (G 1 (((x1.toUInt32 >>> ((15 : Int32).toUInt32 &&& Int32.toUInt32 31)).toInt32) &&& (31 : Int32)).toNatClampNeg) (G 1 (((x1.toUInt32 >>> ((20 : Int32).toUInt32 &&& Int32.toUInt32 31)).toInt32) &&& (31 : Int32)).toNatClampNeg) F G hm hw (lv_sub hl [4, 5, 3, 2, 1, 0] rfl)
  · have hm := (if_pos c_1).symm.trans hm
    exact cw_X0_withRegister_46 fu C hret x1 (((x1.toUInt32 >>> ((12 : Int32).toUInt32 &&& Int32.toUInt32 31)).toInt32) &&& (7 : Int32)) (G 1 (((x1.toUInt32 >>> ((15 : Int32).toUInt32 &&& Int32.toUInt32 31)).toInt32) &&& (31 : Int32)).toNatClampNeg) (G 1 (((x1.toUInt32 >>> ((20 : Int32).toUInt32 &&& Int32.toUInt32 31)).toInt32) &&& (31 : Int32)).toNatClampNeg) F G hm hw (lv_sub hl [4, 5, 3, 1, 0] rfl)
theorem cn_X0_withRegister (fu : Nat) (x1 : Int32) (F : PF) (G : PG) (q : Int32 × PF × PG) (hm : cf_X0_withRegister fu x1 F G = some q) : xn F ≤ xn q.2.1 := cn_X0_withRegister_0 fu x1 F G hm
theorem ck_X0_withRegister (l : Launch) (v : EV) (a : Nat → Nat) (b sz : Nat) (fu : Nat) (x1 : Int32) (F : PF) (G : PG) (r : Int32) (F1 : PF) (G1 : PG) (hm : cf_X0_withRegister fu x1 F G = some (r, F1, G1)) : cMI l yX0_withRegister cX0_withRegister 6 (some .int) 2 44 v a b sz [.ref (a 200), .int x1] F G r F1 G1 := cMI.of (ty := .int) (by decide) rfl (Nat.le_of_ble_eq_true rfl) (fun p e R s m args below meth c Q A H locs ls C hw hl hret => cw_X0_withRegister_0 fu (res := (r, F1, G1)) C hret x1 F G hm hw hl)
def cb_X0_link_24 (fu : Nat) (z0 : Int32) (F : PF) (G : PG) : PR := some (z0, F, G)
def cb_X0_link_13 (fu : Nat) (x1 : Int32) (F : PF) (G : PG) : PR := (cf_X0_keep fu x1 ((F 2) + (4 : Int32)) F G).bind (fun q => cb_X0_link_24 fu q.1 q.2.1 q.2.2)
def cb_X0_link_8 (fu : Nat) (x1 : Int32) (x2 : Int32) (F : PF) (G : PG) : PR := cb_X0_link_13 fu x1 (fup F 4 x2) G
def cb_X0_link_6 (fu : Nat) (F : PF) (G : PG) : PR := some (3, F, G)
def cb_X0_link_0 (fu : Nat) (x1 : Int32) (x2 : Int32) (F : PF) (G : PG) : PR := if (x2 &&& (3 : Int32)) = (0 : Int32) then cb_X0_link_8 fu x1 x2 F G else cb_X0_link_6 fu F G
def cf_X0_link (fu : Nat) (x1 : Int32) (x2 : Int32) (F : PF) (G : PG) : PR := cb_X0_link_0 fu x1 x2 F G
theorem cn_X0_link_24 (fu : Nat) {res : Int32 × PF × PG} (z0 : Int32) (F : PF) (G : PG) (hm : cb_X0_link_24 fu z0 F G = some res) : xn F ≤ xn res.2.1 := by
  unfold cb_X0_link_24 at hm
  obtain rfl := Option.some.inj hm
  exact Nat.le_refl _
theorem cw_X0_link_24 (fu : Nat) {res : Int32 × PF × PG} (C : cMC p R s m args c A v RX0 cX0_link 3 1 22 (xn res.2.1 - xn K0)) (hret : ∀ (b1 : Nat) (H1 : Heap) (locs1 : List Loc) (ls1 : Array Slot) (pc : Nat), cMW s A v a b1 K0 res.2.1 res.2.2 H1 locs1 → narrow .int (.int res.1) = .int res.1 → decode cX0_link pc = .ok (.ireturn, 1) → W p l e R s m args below meth c H1 locs1 (xn res.2.1 - xn K0) (2 * (xn res.2.1 - xn K0)) Q (F0 m pc ls1 [.int res.1])) (z0 : Int32) (F : PF) (G : PG) (hm : cb_X0_link_24 fu z0 F G = some res) {b : Nat} {H : Heap} {locs : List Loc} (hw : cMW s A v a b K0 F G H locs) {ls : Array Slot} (hl : lv_has ls 3 []) : W p l e R s m args below meth c H locs (xn F - xn K0) (2 * (xn F - xn K0)) Q (F0 m 24 ls [.int z0]) := by
  have hx := C.1
  have hb := C.2.1
  unfold cb_X0_link_24 at hm
  obtain rfl := Option.some.inj hm
  exact hret _ _ _ _ _ hw rfl dX0_link_24
theorem cn_X0_link_13 (fu : Nat) {res : Int32 × PF × PG} (x1 : Int32) (F : PF) (G : PG) (hm : cb_X0_link_13 fu x1 F G = some res) : xn F ≤ xn res.2.1 := by
  unfold cb_X0_link_13 at hm
  obtain ⟨⟨r1, F1, G1⟩, hc, hm⟩ := bind_elim hm
  exact Nat.le_trans (cn_X0_keep fu x1 ((F 2) + (4 : Int32)) F G _ hc) (cn_X0_link_24 fu r1 F1 G1 hm)
theorem cw_X0_link_13 (fu : Nat) {res : Int32 × PF × PG} (C : cMC p R s m args c A v RX0 cX0_link 3 1 22 (xn res.2.1 - xn K0)) (hret : ∀ (b1 : Nat) (H1 : Heap) (locs1 : List Loc) (ls1 : Array Slot) (pc : Nat), cMW s A v a b1 K0 res.2.1 res.2.2 H1 locs1 → narrow .int (.int res.1) = .int res.1 → decode cX0_link pc = .ok (.ireturn, 1) → W p l e R s m args below meth c H1 locs1 (xn res.2.1 - xn K0) (2 * (xn res.2.1 - xn K0)) Q (F0 m pc ls1 [.int res.1])) (x1 : Int32) (F : PF) (G : PG) (hm : cb_X0_link_13 fu x1 F G = some res) {b : Nat} {H : Heap} {locs : List Loc} (hw : cMW s A v a b K0 F G H locs) {ls : Array Slot} (hl : lv_has ls 3 [(0, .ref (a 200)), (1, .int x1)]) : W p l e R s m args below meth c H locs (xn F - xn K0) (2 * (xn F - xn K0)) Q (F0 m 13 ls []) := by
  have hx := C.1
  have hb := C.2.1
  unfold cb_X0_link_13 at hm
  refine lv_aload_n hx hb dX0_link_13 rfl (lv_at hl 0 rfl) ?_
  refine lv_iload_n hx hb dX0_link_14 rfl (lv_at hl 1 rfl) ?_
  refine lv_aload_n hx hb dX0_link_15 rfl (lv_at hl 0 rfl) ?_
  refine cg_X0_18 C hw dX0_link_16 ?_
  refine lv_iconst (v := 4) hx hb dX0_link_19 (by decide) ?_
  refine lv_iadd hx hb dX0_link_20 ?_
  obtain ⟨⟨r1, F1, G1⟩, hc, hm⟩ := bind_elim hm
  refine ccallI (n := 2) (As := [.int x1, .int ((F 2) + (4 : Int32))]) (rest := []) C hw (ck_X0_keep l v a _ _ fu x1 ((F 2) + (4 : Int32)) F G r1 F1 G1 hc) (cn_X0_keep fu x1 ((F 2) + (4 : Int32)) F G _ hc) (Nat.sub_le_sub_right (cn_X0_link_24 fu r1 F1 G1 hm) _) (crecv_X0 C hw) cm_947 cm_948 cm_949 cm_938 cm_950 (by decide +kernel) rfl (by omega) (by omega) hl.1 rfl (Nat.le_of_ble_eq_true rfl) dX0_link_21 (fun b H locs hw => ?_)
  exact cw_X0_link_24 fu C hret r1 F1 G1 hm hw (lv_sub hl [] rfl)
theorem cn_X0_link_8 (fu : Nat) {res : Int32 × PF × PG} (x1 : Int32) (x2 : Int32) (F : PF) (G : PG) (hm : cb_X0_link_8 fu x1 x2 F G = some res) : xn F ≤ xn res.2.1 := by
  unfold cb_X0_link_8 at hm
  exact Nat.le_trans (Nat.le_of_eq (xn_fup (by decide)).symm) (cn_X0_link_13 fu x1 (fup F 4 x2) G hm)
theorem cw_X0_link_8 (fu : Nat) {res : Int32 × PF × PG} (C : cMC p R s m args c A v RX0 cX0_link 3 1 22 (xn res.2.1 - xn K0)) (hret : ∀ (b1 : Nat) (H1 : Heap) (locs1 : List Loc) (ls1 : Array Slot) (pc : Nat), cMW s A v a b1 K0 res.2.1 res.2.2 H1 locs1 → narrow .int (.int res.1) = .int res.1 → decode cX0_link pc = .ok (.ireturn, 1) → W p l e R s m args below meth c H1 locs1 (xn res.2.1 - xn K0) (2 * (xn res.2.1 - xn K0)) Q (F0 m pc ls1 [.int res.1])) (x1 : Int32) (x2 : Int32) (F : PF) (G : PG) (hm : cb_X0_link_8 fu x1 x2 F G = some res) {b : Nat} {H : Heap} {locs : List Loc} (hw : cMW s A v a b K0 F G H locs) {ls : Array Slot} (hl : lv_has ls 3 [(0, .ref (a 200)), (1, .int x1), (2, .int x2)]) : W p l e R s m args below meth c H locs (xn F - xn K0) (2 * (xn F - xn K0)) Q (F0 m 8 ls []) := by
  have hx := C.1
  have hb := C.2.1
  unfold cb_X0_link_8 at hm
  refine lv_aload_n hx hb dX0_link_8 rfl (lv_at hl 0 rfl) ?_
  refine lv_iload_n hx hb dX0_link_9 rfl (lv_at hl 2 rfl) ?_
  refine cp_X0_33 C hw dX0_link_10 (fun H locs hw => ?_)
  exact cw_X0_link_13 fu C hret x1 (fup F 4 x2) G hm hw (lv_sub hl [0, 1] rfl)
theorem cn_X0_link_6 (fu : Nat) {res : Int32 × PF × PG} (F : PF) (G : PG) (hm : cb_X0_link_6 fu F G = some res) : xn F ≤ xn res.2.1 := by
  unfold cb_X0_link_6 at hm
  obtain rfl := Option.some.inj hm
  exact Nat.le_refl _
theorem cw_X0_link_6 (fu : Nat) {res : Int32 × PF × PG} (C : cMC p R s m args c A v RX0 cX0_link 3 1 22 (xn res.2.1 - xn K0)) (hret : ∀ (b1 : Nat) (H1 : Heap) (locs1 : List Loc) (ls1 : Array Slot) (pc : Nat), cMW s A v a b1 K0 res.2.1 res.2.2 H1 locs1 → narrow .int (.int res.1) = .int res.1 → decode cX0_link pc = .ok (.ireturn, 1) → W p l e R s m args below meth c H1 locs1 (xn res.2.1 - xn K0) (2 * (xn res.2.1 - xn K0)) Q (F0 m pc ls1 [.int res.1])) (F : PF) (G : PG) (hm : cb_X0_link_6 fu F G = some res) {b : Nat} {H : Heap} {locs : List Loc} (hw : cMW s A v a b K0 F G H locs) {ls : Array Slot} (hl : lv_has ls 3 []) : W p l e R s m args below meth c H locs (xn F - xn K0) (2 * (xn F - xn K0)) Q (F0 m 6 ls []) := by
  have hx := C.1
  have hb := C.2.1
  unfold cb_X0_link_6 at hm
  refine lv_iconst (v := 3) hx hb dX0_link_6 (by decide) ?_
  obtain rfl := Option.some.inj hm
  exact hret _ _ _ _ _ hw rfl dX0_link_7
theorem cn_X0_link_0 (fu : Nat) {res : Int32 × PF × PG} (x1 : Int32) (x2 : Int32) (F : PF) (G : PG) (hm : cb_X0_link_0 fu x1 x2 F G = some res) : xn F ≤ xn res.2.1 := by
  unfold cb_X0_link_0 at hm
  by_cases c_1 : (x2 &&& (3 : Int32)) = (0 : Int32)
  · have hm := (if_pos c_1).symm.trans hm
    exact (cn_X0_link_8 fu x1 x2 F G hm)
  · have hm := (if_neg c_1).symm.trans hm
    exact (cn_X0_link_6 fu F G hm)
theorem cw_X0_link_0 (fu : Nat) {res : Int32 × PF × PG} (C : cMC p R s m args c A v RX0 cX0_link 3 1 22 (xn res.2.1 - xn K0)) (hret : ∀ (b1 : Nat) (H1 : Heap) (locs1 : List Loc) (ls1 : Array Slot) (pc : Nat), cMW s A v a b1 K0 res.2.1 res.2.2 H1 locs1 → narrow .int (.int res.1) = .int res.1 → decode cX0_link pc = .ok (.ireturn, 1) → W p l e R s m args below meth c H1 locs1 (xn res.2.1 - xn K0) (2 * (xn res.2.1 - xn K0)) Q (F0 m pc ls1 [.int res.1])) (x1 : Int32) (x2 : Int32) (F : PF) (G : PG) (hm : cb_X0_link_0 fu x1 x2 F G = some res) {b : Nat} {H : Heap} {locs : List Loc} (hw : cMW s A v a b K0 F G H locs) {ls : Array Slot} (hl : lv_has ls 3 [(0, .ref (a 200)), (1, .int x1), (2, .int x2)]) : W p l e R s m args below meth c H locs (xn F - xn K0) (2 * (xn F - xn K0)) Q (F0 m 0 ls []) := by
  have hx := C.1
  have hb := C.2.1
  unfold cb_X0_link_0 at hm
  refine lv_iload_n hx hb dX0_link_0 rfl (lv_at hl 2 rfl) ?_
  refine lv_iconst (v := 3) hx hb dX0_link_1 (by decide) ?_
  refine lv_iand hx hb dX0_link_2 ?_
  refine lv_if_eq (tgt := 8) hx hb dX0_link_3 (by decide) (fun c_1 => ?_) (fun c_1 => ?_)
  · have hm := (if_pos c_1).symm.trans hm
    exact cw_X0_link_8 fu C hret x1 x2 F G hm hw (lv_sub hl [0, 1, 2] rfl)
  · have hm := (if_neg c_1).symm.trans hm
    exact cw_X0_link_6 fu C hret F G hm hw (lv_sub hl [] rfl)
theorem cn_X0_link (fu : Nat) (x1 : Int32) (x2 : Int32) (F : PF) (G : PG) (q : Int32 × PF × PG) (hm : cf_X0_link fu x1 x2 F G = some q) : xn F ≤ xn q.2.1 := cn_X0_link_0 fu x1 x2 F G hm
theorem ck_X0_link (l : Launch) (v : EV) (a : Nat → Nat) (b sz : Nat) (fu : Nat) (x1 : Int32) (x2 : Int32) (F : PF) (G : PG) (r : Int32) (F1 : PF) (G1 : PG) (hm : cf_X0_link fu x1 x2 F G = some (r, F1, G1)) : cMI l yX0_link cX0_link 3 (some .int) 1 22 v a b sz [.ref (a 200), .int x1, .int x2] F G r F1 G1 := cMI.of (ty := .int) (by decide) rfl (Nat.le_of_ble_eq_true rfl) (fun p e R s m args below meth c Q A H locs ls C hw hl hret => cw_X0_link_0 fu (res := (r, F1, G1)) C hret x1 x2 F G hm hw hl)
def cb_X0_offsetJ_0 (fu : Nat) (x0 : Int32) (F : PF) (G : PG) : PR := some ((((((x0 >>> ((31 : Int32) &&& 31)) <<< ((20 : Int32) &&& 31)) ||| (x0 &&& (1044480 : Int32))) ||| ((((x0.toUInt32 >>> ((20 : Int32).toUInt32 &&& Int32.toUInt32 31)).toInt32) &&& (1 : Int32)) <<< ((11 : Int32) &&& 31))) ||| ((((x0.toUInt32 >>> ((21 : Int32).toUInt32 &&& Int32.toUInt32 31)).toInt32) &&& (1023 : Int32)) <<< ((1 : Int32) &&& 31))), F, G)
def cf_X0_offsetJ (fu : Nat) (x0 : Int32) (F : PF) (G : PG) : PR := cb_X0_offsetJ_0 fu x0 F G
theorem cn_X0_offsetJ_0 (fu : Nat) {res : Int32 × PF × PG} (x0 : Int32) (F : PF) (G : PG) (hm : cb_X0_offsetJ_0 fu x0 F G = some res) : xn F ≤ xn res.2.1 := by
  unfold cb_X0_offsetJ_0 at hm
  obtain rfl := Option.some.inj hm
  exact Nat.le_refl _
theorem cw_X0_offsetJ_0 (fu : Nat) {res : Int32 × PF × PG} (C : cMC p R s m args c A v RX0 cX0_offsetJ 1 0 0 (xn res.2.1 - xn K0)) (hret : ∀ (b1 : Nat) (H1 : Heap) (locs1 : List Loc) (ls1 : Array Slot) (pc : Nat), cMW s A v a b1 K0 res.2.1 res.2.2 H1 locs1 → narrow .int (.int res.1) = .int res.1 → decode cX0_offsetJ pc = .ok (.ireturn, 1) → W p l e R s m args below meth c H1 locs1 (xn res.2.1 - xn K0) (2 * (xn res.2.1 - xn K0)) Q (F0 m pc ls1 [.int res.1])) (x0 : Int32) (F : PF) (G : PG) (hm : cb_X0_offsetJ_0 fu x0 F G = some res) {b : Nat} {H : Heap} {locs : List Loc} (hw : cMW s A v a b K0 F G H locs) {ls : Array Slot} (hl : lv_has ls 1 [(0, .int x0)]) : W p l e R s m args below meth c H locs (xn F - xn K0) (2 * (xn F - xn K0)) Q (F0 m 0 ls []) := by
  have hx := C.1
  have hb := C.2.1
  unfold cb_X0_offsetJ_0 at hm
  refine lv_iload_n hx hb dX0_offsetJ_0 rfl (lv_at hl 0 rfl) ?_
  refine lv_bipush (v := 31) hx hb dX0_offsetJ_1 (by decide) ?_
  refine lv_ishr hx hb dX0_offsetJ_3 ?_
  refine lv_bipush (v := 20) hx hb dX0_offsetJ_4 (by decide) ?_
  refine lv_ishl hx hb dX0_offsetJ_6 ?_
  refine lv_iload_n hx hb dX0_offsetJ_7 rfl (lv_at hl 0 rfl) ?_
  refine lv_ldc (v := 1044480) hx hb C.2.2.2.1 (C.2.2.2.2.1 _ cm_971) dX0_offsetJ_8 ?_
  refine lv_iand hx hb dX0_offsetJ_10 ?_
  refine lv_ior hx hb dX0_offsetJ_11 ?_
  refine lv_iload_n hx hb dX0_offsetJ_12 rfl (lv_at hl 0 rfl) ?_
  refine lv_bipush (v := 20) hx hb dX0_offsetJ_13 (by decide) ?_
  refine lv_iushr hx hb dX0_offsetJ_15 rfl ?_
  refine lv_iconst (v := 1) hx hb dX0_offsetJ_16 (by decide) ?_
  refine lv_iand hx hb dX0_offsetJ_17 ?_
  refine lv_bipush (v := 11) hx hb dX0_offsetJ_18 (by decide) ?_
  refine lv_ishl hx hb dX0_offsetJ_20 ?_
  refine lv_ior hx hb dX0_offsetJ_21 ?_
  refine lv_iload_n hx hb dX0_offsetJ_22 rfl (lv_at hl 0 rfl) ?_
  refine lv_bipush (v := 21) hx hb dX0_offsetJ_23 (by decide) ?_
  refine lv_iushr hx hb dX0_offsetJ_25 rfl ?_
  refine lv_sipush (v := 1023) hx hb dX0_offsetJ_26 (by decide) ?_
  refine lv_iand hx hb dX0_offsetJ_29 ?_
  refine lv_iconst (v := 1) hx hb dX0_offsetJ_30 (by decide) ?_
  refine lv_ishl hx hb dX0_offsetJ_31 ?_
  refine lv_ior hx hb dX0_offsetJ_32 ?_
  obtain rfl := Option.some.inj hm
  exact hret _ _ _ _ _ hw rfl dX0_offsetJ_33
theorem cn_X0_offsetJ (fu : Nat) (x0 : Int32) (F : PF) (G : PG) (q : Int32 × PF × PG) (hm : cf_X0_offsetJ fu x0 F G = some q) : xn F ≤ xn q.2.1 := cn_X0_offsetJ_0 fu x0 F G hm
theorem ck_X0_offsetJ (l : Launch) (v : EV) (a : Nat → Nat) (b sz : Nat) (fu : Nat) (x0 : Int32) (F : PF) (G : PG) (r : Int32) (F1 : PF) (G1 : PG) (hm : cf_X0_offsetJ fu x0 F G = some (r, F1, G1)) : cMI l yX0_offsetJ cX0_offsetJ 1 (some .int) 0 0 v a b sz [.int x0] F G r F1 G1 := cMI.of (ty := .int) (by decide) rfl (Nat.le_of_ble_eq_true rfl) (fun p e R s m args below meth c Q A H locs ls C hw hl hret => cw_X0_offsetJ_0 fu (res := (r, F1, G1)) C hret x0 F G hm hw hl)
def cb_X0_reach_28 (fu : Nat) (z0 : Int32) (F : PF) (G : PG) : PR := some (z0, F, G)
def cb_X0_reach_23 (fu : Nat) (F : PF) (G : PG) : PR := cb_X0_reach_28 fu 5 F G
def cb_X0_reach_27 (fu : Nat) (F : PF) (G : PG) : PR := cb_X0_reach_28 fu 0 F G
def cb_X0_reach_14 (fu : Nat) (x0 : Int32) (x1 : Int32) (F : PF) (G : PG) : PR := if x0 ≤ ((16384 : Int32) - x1) then cb_X0_reach_27 fu F G else cb_X0_reach_23 fu F G
def cb_X0_reach_10 (fu : Nat) (x0 : Int32) (x1 : Int32) (F : PF) (G : PG) : PR := if x0 < (0 : Int32) then cb_X0_reach_23 fu F G else cb_X0_reach_14 fu x0 x1 F G
def cb_X0_reach_8 (fu : Nat) (F : PF) (G : PG) : PR := some (4, F, G)
def cb_X0_reach_0 (fu : Nat) (x0 : Int32) (x1 : Int32) (F : PF) (G : PG) : PR := if (x0 &&& (x1 - (1 : Int32))) = (0 : Int32) then cb_X0_reach_10 fu x0 x1 F G else cb_X0_reach_8 fu F G
def cf_X0_reach (fu : Nat) (x0 : Int32) (x1 : Int32) (F : PF) (G : PG) : PR := cb_X0_reach_0 fu x0 x1 F G
theorem cn_X0_reach_28 (fu : Nat) {res : Int32 × PF × PG} (z0 : Int32) (F : PF) (G : PG) (hm : cb_X0_reach_28 fu z0 F G = some res) : xn F ≤ xn res.2.1 := by
  unfold cb_X0_reach_28 at hm
  obtain rfl := Option.some.inj hm
  exact Nat.le_refl _
theorem cw_X0_reach_28 (fu : Nat) {res : Int32 × PF × PG} (C : cMC p R s m args c A v RX0 cX0_reach 2 0 0 (xn res.2.1 - xn K0)) (hret : ∀ (b1 : Nat) (H1 : Heap) (locs1 : List Loc) (ls1 : Array Slot) (pc : Nat), cMW s A v a b1 K0 res.2.1 res.2.2 H1 locs1 → narrow .int (.int res.1) = .int res.1 → decode cX0_reach pc = .ok (.ireturn, 1) → W p l e R s m args below meth c H1 locs1 (xn res.2.1 - xn K0) (2 * (xn res.2.1 - xn K0)) Q (F0 m pc ls1 [.int res.1])) (z0 : Int32) (F : PF) (G : PG) (hm : cb_X0_reach_28 fu z0 F G = some res) {b : Nat} {H : Heap} {locs : List Loc} (hw : cMW s A v a b K0 F G H locs) {ls : Array Slot} (hl : lv_has ls 2 []) : W p l e R s m args below meth c H locs (xn F - xn K0) (2 * (xn F - xn K0)) Q (F0 m 28 ls [.int z0]) := by
  have hx := C.1
  have hb := C.2.1
  unfold cb_X0_reach_28 at hm
  obtain rfl := Option.some.inj hm
  exact hret _ _ _ _ _ hw rfl dX0_reach_28
theorem cn_X0_reach_23 (fu : Nat) {res : Int32 × PF × PG} (F : PF) (G : PG) (hm : cb_X0_reach_23 fu F G = some res) : xn F ≤ xn res.2.1 := by
  unfold cb_X0_reach_23 at hm
  exact (cn_X0_reach_28 fu 5 F G hm)
theorem cw_X0_reach_23 (fu : Nat) {res : Int32 × PF × PG} (C : cMC p R s m args c A v RX0 cX0_reach 2 0 0 (xn res.2.1 - xn K0)) (hret : ∀ (b1 : Nat) (H1 : Heap) (locs1 : List Loc) (ls1 : Array Slot) (pc : Nat), cMW s A v a b1 K0 res.2.1 res.2.2 H1 locs1 → narrow .int (.int res.1) = .int res.1 → decode cX0_reach pc = .ok (.ireturn, 1) → W p l e R s m args below meth c H1 locs1 (xn res.2.1 - xn K0) (2 * (xn res.2.1 - xn K0)) Q (F0 m pc ls1 [.int res.1])) (F : PF) (G : PG) (hm : cb_X0_reach_23 fu F G = some res) {b : Nat} {H : Heap} {locs : List Loc} (hw : cMW s A v a b K0 F G H locs) {ls : Array Slot} (hl : lv_has ls 2 []) : W p l e R s m args below meth c H locs (xn F - xn K0) (2 * (xn F - xn K0)) Q (F0 m 23 ls []) := by
  have hx := C.1
  have hb := C.2.1
  unfold cb_X0_reach_23 at hm
  refine lv_iconst (v := 5) hx hb dX0_reach_23 (by decide) ?_
  refine lv_goto (tgt := 28) hx hb dX0_reach_24 (by decide) ?_
  exact cw_X0_reach_28 fu C hret 5 F G hm hw (lv_sub hl [] rfl)
theorem cn_X0_reach_27 (fu : Nat) {res : Int32 × PF × PG} (F : PF) (G : PG) (hm : cb_X0_reach_27 fu F G = some res) : xn F ≤ xn res.2.1 := by
  unfold cb_X0_reach_27 at hm
  exact (cn_X0_reach_28 fu 0 F G hm)
theorem cw_X0_reach_27 (fu : Nat) {res : Int32 × PF × PG} (C : cMC p R s m args c A v RX0 cX0_reach 2 0 0 (xn res.2.1 - xn K0)) (hret : ∀ (b1 : Nat) (H1 : Heap) (locs1 : List Loc) (ls1 : Array Slot) (pc : Nat), cMW s A v a b1 K0 res.2.1 res.2.2 H1 locs1 → narrow .int (.int res.1) = .int res.1 → decode cX0_reach pc = .ok (.ireturn, 1) → W p l e R s m args below meth c H1 locs1 (xn res.2.1 - xn K0) (2 * (xn res.2.1 - xn K0)) Q (F0 m pc ls1 [.int res.1])) (F : PF) (G : PG) (hm : cb_X0_reach_27 fu F G = some res) {b : Nat} {H : Heap} {locs : List Loc} (hw : cMW s A v a b K0 F G H locs) {ls : Array Slot} (hl : lv_has ls 2 []) : W p l e R s m args below meth c H locs (xn F - xn K0) (2 * (xn F - xn K0)) Q (F0 m 27 ls []) := by
  have hx := C.1
  have hb := C.2.1
  unfold cb_X0_reach_27 at hm
  refine lv_iconst (v := 0) hx hb dX0_reach_27 (by decide) ?_
  exact cw_X0_reach_28 fu C hret 0 F G hm hw (lv_sub hl [] rfl)
theorem cn_X0_reach_14 (fu : Nat) {res : Int32 × PF × PG} (x0 : Int32) (x1 : Int32) (F : PF) (G : PG) (hm : cb_X0_reach_14 fu x0 x1 F G = some res) : xn F ≤ xn res.2.1 := by
  unfold cb_X0_reach_14 at hm
  by_cases c_1 : x0 ≤ ((16384 : Int32) - x1)
  · have hm := (if_pos c_1).symm.trans hm
    exact (cn_X0_reach_27 fu F G hm)
  · have hm := (if_neg c_1).symm.trans hm
    exact (cn_X0_reach_23 fu F G hm)
theorem cw_X0_reach_14 (fu : Nat) {res : Int32 × PF × PG} (C : cMC p R s m args c A v RX0 cX0_reach 2 0 0 (xn res.2.1 - xn K0)) (hret : ∀ (b1 : Nat) (H1 : Heap) (locs1 : List Loc) (ls1 : Array Slot) (pc : Nat), cMW s A v a b1 K0 res.2.1 res.2.2 H1 locs1 → narrow .int (.int res.1) = .int res.1 → decode cX0_reach pc = .ok (.ireturn, 1) → W p l e R s m args below meth c H1 locs1 (xn res.2.1 - xn K0) (2 * (xn res.2.1 - xn K0)) Q (F0 m pc ls1 [.int res.1])) (x0 : Int32) (x1 : Int32) (F : PF) (G : PG) (hm : cb_X0_reach_14 fu x0 x1 F G = some res) {b : Nat} {H : Heap} {locs : List Loc} (hw : cMW s A v a b K0 F G H locs) {ls : Array Slot} (hl : lv_has ls 2 [(0, .int x0), (1, .int x1)]) : W p l e R s m args below meth c H locs (xn F - xn K0) (2 * (xn F - xn K0)) Q (F0 m 14 ls []) := by
  have hx := C.1
  have hb := C.2.1
  unfold cb_X0_reach_14 at hm
  refine lv_iload_n hx hb dX0_reach_14 rfl (lv_at hl 0 rfl) ?_
  refine lv_sipush (v := 16384) hx hb dX0_reach_15 (by decide) ?_
  refine lv_iload_n hx hb dX0_reach_18 rfl (lv_at hl 1 rfl) ?_
  refine lv_isub hx hb dX0_reach_19 ?_
  refine lv_icmp_le (tgt := 27) hx hb dX0_reach_20 (by decide) (fun c_1 => ?_) (fun c_1 => ?_)
  · have hm := (if_pos c_1).symm.trans hm
    exact cw_X0_reach_27 fu C hret F G hm hw (lv_sub hl [] rfl)
  · have hm := (if_neg c_1).symm.trans hm
    exact cw_X0_reach_23 fu C hret F G hm hw (lv_sub hl [] rfl)
theorem cn_X0_reach_10 (fu : Nat) {res : Int32 × PF × PG} (x0 : Int32) (x1 : Int32) (F : PF) (G : PG) (hm : cb_X0_reach_10 fu x0 x1 F G = some res) : xn F ≤ xn res.2.1 := by
  unfold cb_X0_reach_10 at hm
  by_cases c_1 : x0 < (0 : Int32)
  · have hm := (if_pos c_1).symm.trans hm
    exact (cn_X0_reach_23 fu F G hm)
  · have hm := (if_neg c_1).symm.trans hm
    exact (cn_X0_reach_14 fu x0 x1 F G hm)
theorem cw_X0_reach_10 (fu : Nat) {res : Int32 × PF × PG} (C : cMC p R s m args c A v RX0 cX0_reach 2 0 0 (xn res.2.1 - xn K0)) (hret : ∀ (b1 : Nat) (H1 : Heap) (locs1 : List Loc) (ls1 : Array Slot) (pc : Nat), cMW s A v a b1 K0 res.2.1 res.2.2 H1 locs1 → narrow .int (.int res.1) = .int res.1 → decode cX0_reach pc = .ok (.ireturn, 1) → W p l e R s m args below meth c H1 locs1 (xn res.2.1 - xn K0) (2 * (xn res.2.1 - xn K0)) Q (F0 m pc ls1 [.int res.1])) (x0 : Int32) (x1 : Int32) (F : PF) (G : PG) (hm : cb_X0_reach_10 fu x0 x1 F G = some res) {b : Nat} {H : Heap} {locs : List Loc} (hw : cMW s A v a b K0 F G H locs) {ls : Array Slot} (hl : lv_has ls 2 [(0, .int x0), (1, .int x1)]) : W p l e R s m args below meth c H locs (xn F - xn K0) (2 * (xn F - xn K0)) Q (F0 m 10 ls []) := by
  have hx := C.1
  have hb := C.2.1
  unfold cb_X0_reach_10 at hm
  refine lv_iload_n hx hb dX0_reach_10 rfl (lv_at hl 0 rfl) ?_
  refine lv_if_lt (tgt := 23) hx hb dX0_reach_11 (by decide) (fun c_1 => ?_) (fun c_1 => ?_)
  · have hm := (if_pos c_1).symm.trans hm
    exact cw_X0_reach_23 fu C hret F G hm hw (lv_sub hl [] rfl)
  · have hm := (if_neg c_1).symm.trans hm
    exact cw_X0_reach_14 fu C hret x0 x1 F G hm hw (lv_sub hl [0, 1] rfl)
theorem cn_X0_reach_8 (fu : Nat) {res : Int32 × PF × PG} (F : PF) (G : PG) (hm : cb_X0_reach_8 fu F G = some res) : xn F ≤ xn res.2.1 := by
  unfold cb_X0_reach_8 at hm
  obtain rfl := Option.some.inj hm
  exact Nat.le_refl _
theorem cw_X0_reach_8 (fu : Nat) {res : Int32 × PF × PG} (C : cMC p R s m args c A v RX0 cX0_reach 2 0 0 (xn res.2.1 - xn K0)) (hret : ∀ (b1 : Nat) (H1 : Heap) (locs1 : List Loc) (ls1 : Array Slot) (pc : Nat), cMW s A v a b1 K0 res.2.1 res.2.2 H1 locs1 → narrow .int (.int res.1) = .int res.1 → decode cX0_reach pc = .ok (.ireturn, 1) → W p l e R s m args below meth c H1 locs1 (xn res.2.1 - xn K0) (2 * (xn res.2.1 - xn K0)) Q (F0 m pc ls1 [.int res.1])) (F : PF) (G : PG) (hm : cb_X0_reach_8 fu F G = some res) {b : Nat} {H : Heap} {locs : List Loc} (hw : cMW s A v a b K0 F G H locs) {ls : Array Slot} (hl : lv_has ls 2 []) : W p l e R s m args below meth c H locs (xn F - xn K0) (2 * (xn F - xn K0)) Q (F0 m 8 ls []) := by
  have hx := C.1
  have hb := C.2.1
  unfold cb_X0_reach_8 at hm
  refine lv_iconst (v := 4) hx hb dX0_reach_8 (by decide) ?_
  obtain rfl := Option.some.inj hm
  exact hret _ _ _ _ _ hw rfl dX0_reach_9
theorem cn_X0_reach_0 (fu : Nat) {res : Int32 × PF × PG} (x0 : Int32) (x1 : Int32) (F : PF) (G : PG) (hm : cb_X0_reach_0 fu x0 x1 F G = some res) : xn F ≤ xn res.2.1 := by
  unfold cb_X0_reach_0 at hm
  by_cases c_1 : (x0 &&& (x1 - (1 : Int32))) = (0 : Int32)
  · have hm := (if_pos c_1).symm.trans hm
    exact (cn_X0_reach_10 fu x0 x1 F G hm)
  · have hm := (if_neg c_1).symm.trans hm
    exact (cn_X0_reach_8 fu F G hm)
theorem cw_X0_reach_0 (fu : Nat) {res : Int32 × PF × PG} (C : cMC p R s m args c A v RX0 cX0_reach 2 0 0 (xn res.2.1 - xn K0)) (hret : ∀ (b1 : Nat) (H1 : Heap) (locs1 : List Loc) (ls1 : Array Slot) (pc : Nat), cMW s A v a b1 K0 res.2.1 res.2.2 H1 locs1 → narrow .int (.int res.1) = .int res.1 → decode cX0_reach pc = .ok (.ireturn, 1) → W p l e R s m args below meth c H1 locs1 (xn res.2.1 - xn K0) (2 * (xn res.2.1 - xn K0)) Q (F0 m pc ls1 [.int res.1])) (x0 : Int32) (x1 : Int32) (F : PF) (G : PG) (hm : cb_X0_reach_0 fu x0 x1 F G = some res) {b : Nat} {H : Heap} {locs : List Loc} (hw : cMW s A v a b K0 F G H locs) {ls : Array Slot} (hl : lv_has ls 2 [(0, .int x0), (1, .int x1)]) : W p l e R s m args below meth c H locs (xn F - xn K0) (2 * (xn F - xn K0)) Q (F0 m 0 ls []) := by
  have hx := C.1
  have hb := C.2.1
  unfold cb_X0_reach_0 at hm
  refine lv_iload_n hx hb dX0_reach_0 rfl (lv_at hl 0 rfl) ?_
  refine lv_iload_n hx hb dX0_reach_1 rfl (lv_at hl 1 rfl) ?_
  refine lv_iconst (v := 1) hx hb dX0_reach_2 (by decide) ?_
  refine lv_isub hx hb dX0_reach_3 ?_
  refine lv_iand hx hb dX0_reach_4 ?_
  refine lv_if_eq (tgt := 10) hx hb dX0_reach_5 (by decide) (fun c_1 => ?_) (fun c_1 => ?_)
  · have hm := (if_pos c_1).symm.trans hm
    exact cw_X0_reach_10 fu C hret x0 x1 F G hm hw (lv_sub hl [0, 1] rfl)
  · have hm := (if_neg c_1).symm.trans hm
    exact cw_X0_reach_8 fu C hret F G hm hw (lv_sub hl [] rfl)
theorem cn_X0_reach (fu : Nat) (x0 : Int32) (x1 : Int32) (F : PF) (G : PG) (q : Int32 × PF × PG) (hm : cf_X0_reach fu x0 x1 F G = some q) : xn F ≤ xn q.2.1 := cn_X0_reach_0 fu x0 x1 F G hm
theorem ck_X0_reach (l : Launch) (v : EV) (a : Nat → Nat) (b sz : Nat) (fu : Nat) (x0 : Int32) (x1 : Int32) (F : PF) (G : PG) (r : Int32) (F1 : PF) (G1 : PG) (hm : cf_X0_reach fu x0 x1 F G = some (r, F1, G1)) : cMI l yX0_reach cX0_reach 2 (some .int) 0 0 v a b sz [.int x0, .int x1] F G r F1 G1 := cMI.of (ty := .int) (by decide) rfl (Nat.le_of_ble_eq_true rfl) (fun p e R s m args below meth c Q A H locs ls C hw hl hret => cw_X0_reach_0 fu (res := (r, F1, G1)) C hret x0 x1 F G hm hw hl)
def cb_X0_store_131 (fu : Nat) (F : PF) (G : PG) : PR := some (0, F, G)
def cb_X0_store_64 (fu : Nat) (x1 : Int32) (x3 : Int32) (x4 : Int32) (F : PF) (G : PG) : PR := if ixb (x4 >>> ((2 : Int32) &&& 31)) 4096 = true then (if ixb (((x1.toUInt32 >>> ((20 : Int32).toUInt32 &&& Int32.toUInt32 31)).toInt32) &&& (31 : Int32)) 32 = true then (if ixb (x4 >>> ((2 : Int32) &&& 31)) 4096 = true then (cb_X0_store_131 fu F (gup G 0 (x4 >>> ((2 : Int32) &&& 31)).toNatClampNeg (((G 0 (x4 >>> ((2 : Int32) &&& 31)).toNatClampNeg) &&& (((((-1 : Int32).toUInt32 >>> (((32 : Int32) - (x3 * (8 : Int32))).toUInt32 &&& Int32.toUInt32 31)).toInt32) <<< (((x4 &&& (3 : Int32)) * (8 : Int32)) &&& 31)) ^^^ (-1 : Int32))) ||| (((G 1 (((x1.toUInt32 >>> ((20 : Int32).toUInt32 &&& Int32.toUInt32 31)).toInt32) &&& (31 : Int32)).toNatClampNeg) <<< (((x4 &&& (3 : Int32)) * (8 : Int32)) &&& 31)) &&& ((((-1 : Int32).toUInt32 >>> (((32 : Int32) - (x3 * (8 : Int32))).toUInt32 &&& Int32.toUInt32 31)).toInt32) <<< (((x4 &&& (3 : Int32)) * (8 : Int32)) &&& 31)))))) else none) else none) else none
def cb_X0_store_61 (fu : Nat) (x5 : Int32) (F : PF) (G : PG) : PR := some (x5, F, G)
def cb_X0_store_54 (fu : Nat) (x1 : Int32) (x3 : Int32) (x4 : Int32) (z0 : Int32) (F : PF) (G : PG) : PR := if z0 = (0 : Int32) then cb_X0_store_64 fu x1 x3 x4 F G else cb_X0_store_61 fu z0 F G
def cb_X0_store_15 (fu : Nat) (x1 : Int32) (x2 : Int32) (F : PF) (G : PG) : PR := if ixb (((x1.toUInt32 >>> ((15 : Int32).toUInt32 &&& Int32.toUInt32 31)).toInt32) &&& (31 : Int32)) 32 = true then ((cf_X0_reach fu ((G 1 (((x1.toUInt32 >>> ((15 : Int32).toUInt32 &&& Int32.toUInt32 31)).toInt32) &&& (31 : Int32)).toNatClampNeg) + (((x1 >>> ((25 : Int32) &&& 31)) <<< ((5 : Int32) &&& 31)) ||| (((x1.toUInt32 >>> ((7 : Int32).toUInt32 &&& Int32.toUInt32 31)).toInt32) &&& (31 : Int32)))) ((1 : Int32) <<< (x2 &&& 31)) F G).bind (fun q => cb_X0_store_54 fu x1 ((1 : Int32) <<< (x2 &&& 31)) ((G 1 (((x1.toUInt32 >>> ((15 : Int32).toUInt32 &&& Int32.toUInt32 31)).toInt32) &&& (31 : Int32)).toNatClampNeg) + (((x1 >>> ((25 : Int32) &&& 31)) <<< ((5 : Int32) &&& 31)) ||| (((x1.toUInt32 >>> ((7 : Int32).toUInt32 &&& Int32.toUInt32 31)).toInt32) &&& (31 : Int32)))) q.1 q.2.1 q.2.2)) else none
def cb_X0_store_13 (fu : Nat) (F : PF) (G : PG) : PR := some (2, F, G)
def cb_X0_store_0 (fu : Nat) (x1 : Int32) (F : PF) (G : PG) : PR := if (((x1.toUInt32 >>> ((12 : Int32).toUInt32 &&& Int32.toUInt32 31)).toInt32) &&& (7 : Int32)) ≤ (2 : Int32) then cb_X0_store_15 fu x1 (((x1.toUInt32 >>> ((12 : Int32).toUInt32 &&& Int32.toUInt32 31)).toInt32) &&& (7 : Int32)) F G else cb_X0_store_13 fu F G
def cf_X0_store (fu : Nat) (x1 : Int32) (F : PF) (G : PG) : PR := cb_X0_store_0 fu x1 F G
theorem cn_X0_store_131 (fu : Nat) {res : Int32 × PF × PG} (F : PF) (G : PG) (hm : cb_X0_store_131 fu F G = some res) : xn F ≤ xn res.2.1 := by
  unfold cb_X0_store_131 at hm
  obtain rfl := Option.some.inj hm
  exact Nat.le_refl _
theorem cw_X0_store_131 (fu : Nat) {res : Int32 × PF × PG} (C : cMC p R s m args c A v RX0 cX0_store 9 1 21 (xn res.2.1 - xn K0)) (hret : ∀ (b1 : Nat) (H1 : Heap) (locs1 : List Loc) (ls1 : Array Slot) (pc : Nat), cMW s A v a b1 K0 res.2.1 res.2.2 H1 locs1 → narrow .int (.int res.1) = .int res.1 → decode cX0_store pc = .ok (.ireturn, 1) → W p l e R s m args below meth c H1 locs1 (xn res.2.1 - xn K0) (2 * (xn res.2.1 - xn K0)) Q (F0 m pc ls1 [.int res.1])) (F : PF) (G : PG) (hm : cb_X0_store_131 fu F G = some res) {b : Nat} {H : Heap} {locs : List Loc} (hw : cMW s A v a b K0 F G H locs) {ls : Array Slot} (hl : lv_has ls 9 []) : W p l e R s m args below meth c H locs (xn F - xn K0) (2 * (xn F - xn K0)) Q (F0 m 131 ls []) := by
  have hx := C.1
  have hb := C.2.1
  unfold cb_X0_store_131 at hm
  refine lv_iconst (v := 0) hx hb dX0_store_131 (by decide) ?_
  obtain rfl := Option.some.inj hm
  exact hret _ _ _ _ _ hw rfl dX0_store_132
theorem cn_X0_store_64 (fu : Nat) {res : Int32 × PF × PG} (x1 : Int32) (x3 : Int32) (x4 : Int32) (F : PF) (G : PG) (hm : cb_X0_store_64 fu x1 x3 x4 F G = some res) : xn F ≤ xn res.2.1 := by
  unfold cb_X0_store_64 at hm
  have hm := (ix_elim hm).2
  have hm := (ix_elim hm).2
  have hm := (ix_elim hm).2
  exact (cn_X0_store_131 fu F (gup G 0 (x4 >>> ((2 : Int32) &&& 31)).toNatClampNeg (((G 0 (x4 >>> ((2 : Int32) &&& 31)).toNatClampNeg) &&& (((((-1 : Int32).toUInt32 >>> (((32 : Int32) - (x3 * (8 : Int32))).toUInt32 &&& Int32.toUInt32 31)).toInt32) <<< (((x4 &&& (3 : Int32)) * (8 : Int32)) &&& 31)) ^^^ (-1 : Int32))) ||| (((G 1 (((x1.toUInt32 >>> ((20 : Int32).toUInt32 &&& Int32.toUInt32 31)).toInt32) &&& (31 : Int32)).toNatClampNeg) <<< (((x4 &&& (3 : Int32)) * (8 : Int32)) &&& 31)) &&& ((((-1 : Int32).toUInt32 >>> (((32 : Int32) - (x3 * (8 : Int32))).toUInt32 &&& Int32.toUInt32 31)).toInt32) <<< (((x4 &&& (3 : Int32)) * (8 : Int32)) &&& 31))))) hm)
theorem cw_X0_store_64 (fu : Nat) {res : Int32 × PF × PG} (C : cMC p R s m args c A v RX0 cX0_store 9 1 21 (xn res.2.1 - xn K0)) (hret : ∀ (b1 : Nat) (H1 : Heap) (locs1 : List Loc) (ls1 : Array Slot) (pc : Nat), cMW s A v a b1 K0 res.2.1 res.2.2 H1 locs1 → narrow .int (.int res.1) = .int res.1 → decode cX0_store pc = .ok (.ireturn, 1) → W p l e R s m args below meth c H1 locs1 (xn res.2.1 - xn K0) (2 * (xn res.2.1 - xn K0)) Q (F0 m pc ls1 [.int res.1])) (x1 : Int32) (x3 : Int32) (x4 : Int32) (F : PF) (G : PG) (hm : cb_X0_store_64 fu x1 x3 x4 F G = some res) {b : Nat} {H : Heap} {locs : List Loc} (hw : cMW s A v a b K0 F G H locs) {ls : Array Slot} (hl : lv_has ls 9 [(0, .ref (a 200)), (1, .int x1), (3, .int x3), (4, .int x4)]) : W p l e R s m args below meth c H locs (xn F - xn K0) (2 * (xn F - xn K0)) Q (F0 m 64 ls []) := by
  have hx := C.1
  have hb := C.2.1
  unfold cb_X0_store_64 at hm
  refine lv_iload hx hb dX0_store_64 (lv_at hl 3 rfl) ?_
  refine lv_iconst (v := 3) hx hb dX0_store_66 (by decide) ?_
  refine lv_iand hx hb dX0_store_67 ?_
  refine lv_bipush (v := 8) hx hb dX0_store_68 (by decide) ?_
  refine lv_imul hx hb dX0_store_70 ?_
  refine lv_istore (lv' := [(6, .int ((x4 &&& (3 : Int32)) * (8 : Int32))), (0, .ref (a 200)), (1, .int x1), (3, .int x3), (4, .int x4)]) hx hb dX0_store_71 hl (by decide) rfl (fun ls hl => ?_)
  refine lv_iconst (v := (-1)) hx hb dX0_store_73 (by decide) ?_
  refine lv_bipush (v := 32) hx hb dX0_store_74 (by decide) ?_
  refine lv_iload_n hx hb dX0_store_76 rfl (lv_at hl 3 rfl) ?_
  refine lv_bipush (v := 8) hx hb dX0_store_77 (by decide) ?_
  refine lv_imul hx hb dX0_store_79 ?_
  refine lv_isub hx hb dX0_store_80 ?_
  refine lv_iushr hx hb dX0_store_81 rfl ?_
  refine lv_iload hx hb dX0_store_82 (lv_at hl 0 rfl) ?_
  refine lv_ishl hx hb dX0_store_84 ?_
  refine lv_istore (lv' := [(7, .int ((((-1 : Int32).toUInt32 >>> (((32 : Int32) - (x3 * (8 : Int32))).toUInt32 &&& Int32.toUInt32 31)).toInt32) <<< (((x4 &&& (3 : Int32)) * (8 : Int32)) &&& 31))), (6, .int ((x4 &&& (3 : Int32)) * (8 : Int32))), (0, .ref (a 200)), (1, .int x1), (3, .int x3), (4, .int x4)]) hx hb dX0_store_85 hl (by decide) rfl (fun ls hl => ?_)
  refine lv_iload hx hb dX0_store_87 (lv_at hl 5 rfl) ?_
  refine lv_iconst (v := 2) hx hb dX0_store_89 (by decide) ?_
  refine lv_ishr hx hb dX0_store_90 ?_
  refine lv_istore (lv' := [(8, .int (x4 >>> ((2 : Int32) &&& 31))), (7, .int ((((-1 : Int32).toUInt32 >>> (((32 : Int32) - (x3 * (8 : Int32))).toUInt32 &&& Int32.toUInt32 31)).toInt32) <<< (((x4 &&& (3 : Int32)) * (8 : Int32)) &&& 31))), (6, .int ((x4 &&& (3 : Int32)) * (8 : Int32))), (0, .ref (a 200)), (1, .int x1), (3, .int x3), (4, .int x4)]) hx hb dX0_store_91 hl (by decide) rfl (fun ls hl => ?_)
  refine lv_aload_n hx hb dX0_store_93 rfl (lv_at hl 3 rfl) ?_
  refine cg_X0_11 C hw dX0_store_94 ?_
  refine lv_iload hx hb dX0_store_97 (lv_at hl 0 rfl) ?_
  refine lv_aload_n hx hb dX0_store_99 rfl (lv_at hl 3 rfl) ?_
  refine cg_X0_11 C hw dX0_store_100 ?_
  refine lv_iload hx hb dX0_store_103 (lv_at hl 0 rfl) ?_
  obtain ⟨hi, hm⟩ := ix_elim hm
  refine cal_0 C hw hi dX0_store_105 ?_
  refine lv_iload hx hb dX0_store_106 (lv_at hl 1 rfl) ?_
  refine lv_iconst (v := (-1)) hx hb dX0_store_108 (by decide) ?_
  refine lv_ixor hx hb dX0_store_109 ?_
  refine lv_iand hx hb dX0_store_110 ?_
  refine lv_aload_n hx hb dX0_store_111 rfl (lv_at hl 3 rfl) ?_
  refine cg_X0_15 C hw dX0_store_112 ?_
  refine lv_iload_n hx hb dX0_store_115 rfl (lv_at hl 4 rfl) ?_
  refine lv_bipush (v := 20) hx hb dX0_store_116 (by decide) ?_
  refine lv_iushr hx hb dX0_store_118 rfl ?_
  refine lv_bipush (v := 31) hx hb dX0_store_119 (by decide) ?_
  refine lv_iand hx hb dX0_store_121 ?_
  obtain ⟨hi, hm⟩ := ix_elim hm
  refine cal_1 C hw hi dX0_store_122 ?_
  refine lv_iload hx hb dX0_store_123 (lv_at hl 2 rfl) ?_
  refine lv_ishl hx hb dX0_store_125 ?_
  refine lv_iload hx hb dX0_store_126 (lv_at hl 1 rfl) ?_
  refine lv_iand hx hb dX0_store_128 ?_
  refine lv_ior hx hb dX0_store_129 ?_
  obtain ⟨hi, hm⟩ := ix_elim hm
  refine cas_0 C hw hi dX0_store_130 (fun H locs hw => ?_)
  exact cw_X0_store_131 fu C hret F (gup G 0 (x4 >>> ((2 : Int32) &&& 31)).toNatClampNeg (((G 0 (x4 >>> ((2 : Int32) &&& 31)).toNatClampNeg) &&& (((((-1 : Int32).toUInt32 >>> (((32 : Int32) - (x3 * (8 : Int32))).toUInt32 &&& Int32.toUInt32 31)).toInt32) <<< (((x4 &&& (3 : Int32)) * (8 : Int32)) &&& 31)) ^^^ (-1 : Int32))) ||| (((G 1 (((x1.toUInt32 >>> ((20 : Int32).toUInt32 &&& Int32.toUInt32 31)).toInt32) &&& (31 : Int32)).toNatClampNeg) <<< (((x4 &&& (3 : Int32)) * (8 : Int32)) &&& 31)) &&& ((((-1 : Int32).toUInt32 >>> (((32 : Int32) - (x3 * (8 : Int32))).toUInt32 &&& Int32.toUInt32 31)).toInt32) <<< (((x4 &&& (3 : Int32)) * (8 : Int32)) &&& 31))))) hm hw (lv_sub hl [] rfl)
theorem cn_X0_store_61 (fu : Nat) {res : Int32 × PF × PG} (x5 : Int32) (F : PF) (G : PG) (hm : cb_X0_store_61 fu x5 F G = some res) : xn F ≤ xn res.2.1 := by
  unfold cb_X0_store_61 at hm
  obtain rfl := Option.some.inj hm
  exact Nat.le_refl _
theorem cw_X0_store_61 (fu : Nat) {res : Int32 × PF × PG} (C : cMC p R s m args c A v RX0 cX0_store 9 1 21 (xn res.2.1 - xn K0)) (hret : ∀ (b1 : Nat) (H1 : Heap) (locs1 : List Loc) (ls1 : Array Slot) (pc : Nat), cMW s A v a b1 K0 res.2.1 res.2.2 H1 locs1 → narrow .int (.int res.1) = .int res.1 → decode cX0_store pc = .ok (.ireturn, 1) → W p l e R s m args below meth c H1 locs1 (xn res.2.1 - xn K0) (2 * (xn res.2.1 - xn K0)) Q (F0 m pc ls1 [.int res.1])) (x5 : Int32) (F : PF) (G : PG) (hm : cb_X0_store_61 fu x5 F G = some res) {b : Nat} {H : Heap} {locs : List Loc} (hw : cMW s A v a b K0 F G H locs) {ls : Array Slot} (hl : lv_has ls 9 [(5, .int x5)]) : W p l e R s m args below meth c H locs (xn F - xn K0) (2 * (xn F - xn K0)) Q (F0 m 61 ls []) := by
  have hx := C.1
  have hb := C.2.1
  unfold cb_X0_store_61 at hm
  refine lv_iload hx hb dX0_store_61 (lv_at hl 0 rfl) ?_
  obtain rfl := Option.some.inj hm
  exact hret _ _ _ _ _ hw rfl dX0_store_63
theorem cn_X0_store_54 (fu : Nat) {res : Int32 × PF × PG} (x1 : Int32) (x3 : Int32) (x4 : Int32) (z0 : Int32) (F : PF) (G : PG) (hm : cb_X0_store_54 fu x1 x3 x4 z0 F G = some res) : xn F ≤ xn res.2.1 := by
  unfold cb_X0_store_54 at hm
  by_cases c_1 : z0 = (0 : Int32)
  · have hm := (if_pos c_1).symm.trans hm
    exact (cn_X0_store_64 fu x1 x3 x4 F G hm)
  · have hm := (if_neg c_1).symm.trans hm
    exact (cn_X0_store_61 fu z0 F G hm)
theorem cw_X0_store_54 (fu : Nat) {res : Int32 × PF × PG} (C : cMC p R s m args c A v RX0 cX0_store 9 1 21 (xn res.2.1 - xn K0)) (hret : ∀ (b1 : Nat) (H1 : Heap) (locs1 : List Loc) (ls1 : Array Slot) (pc : Nat), cMW s A v a b1 K0 res.2.1 res.2.2 H1 locs1 → narrow .int (.int res.1) = .int res.1 → decode cX0_store pc = .ok (.ireturn, 1) → W p l e R s m args below meth c H1 locs1 (xn res.2.1 - xn K0) (2 * (xn res.2.1 - xn K0)) Q (F0 m pc ls1 [.int res.1])) (x1 : Int32) (x3 : Int32) (x4 : Int32) (z0 : Int32) (F : PF) (G : PG) (hm : cb_X0_store_54 fu x1 x3 x4 z0 F G = some res) {b : Nat} {H : Heap} {locs : List Loc} (hw : cMW s A v a b K0 F G H locs) {ls : Array Slot} (hl : lv_has ls 9 [(0, .ref (a 200)), (1, .int x1), (3, .int x3), (4, .int x4)]) : W p l e R s m args below meth c H locs (xn F - xn K0) (2 * (xn F - xn K0)) Q (F0 m 54 ls [.int z0]) := by
  have hx := C.1
  have hb := C.2.1
  unfold cb_X0_store_54 at hm
  refine lv_istore (lv' := [(5, .int z0), (0, .ref (a 200)), (1, .int x1), (3, .int x3), (4, .int x4)]) hx hb dX0_store_54 hl (by decide) rfl (fun ls hl => ?_)
  refine lv_iload hx hb dX0_store_56 (lv_at hl 0 rfl) ?_
  refine lv_if_eq (tgt := 64) hx hb dX0_store_58 (by decide) (fun c_1 => ?_) (fun c_1 => ?_)
  · have hm := (if_pos c_1).symm.trans hm
    exact cw_X0_store_64 fu C hret x1 x3 x4 F G hm hw (lv_sub hl [1, 2, 3, 4] rfl)
  · have hm := (if_neg c_1).symm.trans hm
    exact cw_X0_store_61 fu C hret z0 F G hm hw (lv_sub hl [0] rfl)
theorem cn_X0_store_15 (fu : Nat) {res : Int32 × PF × PG} (x1 : Int32) (x2 : Int32) (F : PF) (G : PG) (hm : cb_X0_store_15 fu x1 x2 F G = some res) : xn F ≤ xn res.2.1 := by
  unfold cb_X0_store_15 at hm
  have hm := (ix_elim hm).2
  obtain ⟨⟨r1, F1, G1⟩, hc, hm⟩ := bind_elim hm
  exact Nat.le_trans (cn_X0_reach fu ((G 1 (((x1.toUInt32 >>> ((15 : Int32).toUInt32 &&& Int32.toUInt32 31)).toInt32) &&& (31 : Int32)).toNatClampNeg) + (((x1 >>> ((25 : Int32) &&& 31)) <<< ((5 : Int32) &&& 31)) ||| (((x1.toUInt32 >>> ((7 : Int32).toUInt32 &&& Int32.toUInt32 31)).toInt32) &&& (31 : Int32)))) ((1 : Int32) <<< (x2 &&& 31)) F G _ hc) (cn_X0_store_54 fu x1 ((1 : Int32) <<< (x2 &&& 31)) ((G 1 (((x1.toUInt32 >>> ((15 : Int32).toUInt32 &&& Int32.toUInt32 31)).toInt32) &&& (31 : Int32)).toNatClampNeg) + (((x1 >>> ((25 : Int32) &&& 31)) <<< ((5 : Int32) &&& 31)) ||| (((x1.toUInt32 >>> ((7 : Int32).toUInt32 &&& Int32.toUInt32 31)).toInt32) &&& (31 : Int32)))) r1 F1 G1 hm)
theorem cw_X0_store_15 (fu : Nat) {res : Int32 × PF × PG} (C : cMC p R s m args c A v RX0 cX0_store 9 1 21 (xn res.2.1 - xn K0)) (hret : ∀ (b1 : Nat) (H1 : Heap) (locs1 : List Loc) (ls1 : Array Slot) (pc : Nat), cMW s A v a b1 K0 res.2.1 res.2.2 H1 locs1 → narrow .int (.int res.1) = .int res.1 → decode cX0_store pc = .ok (.ireturn, 1) → W p l e R s m args below meth c H1 locs1 (xn res.2.1 - xn K0) (2 * (xn res.2.1 - xn K0)) Q (F0 m pc ls1 [.int res.1])) (x1 : Int32) (x2 : Int32) (F : PF) (G : PG) (hm : cb_X0_store_15 fu x1 x2 F G = some res) {b : Nat} {H : Heap} {locs : List Loc} (hw : cMW s A v a b K0 F G H locs) {ls : Array Slot} (hl : lv_has ls 9 [(0, .ref (a 200)), (1, .int x1), (2, .int x2)]) : W p l e R s m args below meth c H locs (xn F - xn K0) (2 * (xn F - xn K0)) Q (F0 m 15 ls []) := by
  have hx := C.1
  have hb := C.2.1
  unfold cb_X0_store_15 at hm
  refine lv_iconst (v := 1) hx hb dX0_store_15 (by decide) ?_
  refine lv_iload_n hx hb dX0_store_16 rfl (lv_at hl 2 rfl) ?_
  refine lv_ishl hx hb dX0_store_17 ?_
  refine lv_istore_n (lv' := [(3, .int ((1 : Int32) <<< (x2 &&& 31))), (0, .ref (a 200)), (1, .int x1), (2, .int x2)]) hx hb dX0_store_18 rfl hl (by decide) rfl (fun ls hl => ?_)
  refine lv_aload_n hx hb dX0_store_19 rfl (lv_at hl 1 rfl) ?_
  refine cg_X0_15 C hw dX0_store_20 ?_
  refine lv_iload_n hx hb dX0_store_23 rfl (lv_at hl 2 rfl) ?_
  refine lv_bipush (v := 15) hx hb dX0_store_24 (by decide) ?_
  refine lv_iushr hx hb dX0_store_26 rfl ?_
  refine lv_bipush (v := 31) hx hb dX0_store_27 (by decide) ?_
  refine lv_iand hx hb dX0_store_29 ?_
  obtain ⟨hi, hm⟩ := ix_elim hm
  refine cal_1 C hw hi dX0_store_30 ?_
  refine lv_iload_n hx hb dX0_store_31 rfl (lv_at hl 2 rfl) ?_
  refine lv_bipush (v := 25) hx hb dX0_store_32 (by decide) ?_
  refine lv_ishr hx hb dX0_store_34 ?_
  refine lv_iconst (v := 5) hx hb dX0_store_35 (by decide) ?_
  refine lv_ishl hx hb dX0_store_36 ?_
  refine lv_iload_n hx hb dX0_store_37 rfl (lv_at hl 2 rfl) ?_
  refine lv_bipush (v := 7) hx hb dX0_store_38 (by decide) ?_
  refine lv_iushr hx hb dX0_store_40 rfl ?_
  refine lv_bipush (v := 31) hx hb dX0_store_41 (by decide) ?_
  refine lv_iand hx hb dX0_store_43 ?_
  refine lv_ior hx hb dX0_store_44 ?_
  refine lv_iadd hx hb dX0_store_45 ?_
  refine lv_istore (lv' := [(4, .int ((G 1 (((x1.toUInt32 >>> ((15 : Int32).toUInt32 &&& Int32.toUInt32 31)).toInt32) &&& (31 : Int32)).toNatClampNeg) + (((x1 >>> ((25 : Int32) &&& 31)) <<< ((5 : Int32) &&& 31)) ||| (((x1.toUInt32 >>> ((7 : Int32).toUInt32 &&& Int32.toUInt32 31)).toInt32) &&& (31 : Int32))))), (3, .int ((1 : Int32) <<< (x2 &&& 31))), (0, .ref (a 200)), (1, .int x1), (2, .int x2)]) hx hb dX0_store_46 hl (by decide) rfl (fun ls hl => ?_)
  refine lv_iload hx hb dX0_store_48 (lv_at hl 0 rfl) ?_
  refine lv_iload_n hx hb dX0_store_50 rfl (lv_at hl 1 rfl) ?_
  obtain ⟨⟨r1, F1, G1⟩, hc, hm⟩ := bind_elim hm
  refine ccallIS (n := 2) (As := [.int ((G 1 (((x1.toUInt32 >>> ((15 : Int32).toUInt32 &&& Int32.toUInt32 31)).toInt32) &&& (31 : Int32)).toNatClampNeg) + (((x1 >>> ((25 : Int32) &&& 31)) <<< ((5 : Int32) &&& 31)) ||| (((x1.toUInt32 >>> ((7 : Int32).toUInt32 &&& Int32.toUInt32 31)).toInt32) &&& (31 : Int32)))), .int ((1 : Int32) <<< (x2 &&& 31))]) (rest := []) C hw (ck_X0_reach l v a _ _ fu ((G 1 (((x1.toUInt32 >>> ((15 : Int32).toUInt32 &&& Int32.toUInt32 31)).toInt32) &&& (31 : Int32)).toNatClampNeg) + (((x1 >>> ((25 : Int32) &&& 31)) <<< ((5 : Int32) &&& 31)) ||| (((x1.toUInt32 >>> ((7 : Int32).toUInt32 &&& Int32.toUInt32 31)).toInt32) &&& (31 : Int32)))) ((1 : Int32) <<< (x2 &&& 31)) F G r1 F1 G1 hc) (cn_X0_reach fu ((G 1 (((x1.toUInt32 >>> ((15 : Int32).toUInt32 &&& Int32.toUInt32 31)).toInt32) &&& (31 : Int32)).toNatClampNeg) + (((x1 >>> ((25 : Int32) &&& 31)) <<< ((5 : Int32) &&& 31)) ||| (((x1.toUInt32 >>> ((7 : Int32).toUInt32 &&& Int32.toUInt32 31)).toInt32) &&& (31 : Int32)))) ((1 : Int32) <<< (x2 &&& 31)) F G _ hc) (Nat.sub_le_sub_right (cn_X0_store_54 fu x1 ((1 : Int32) <<< (x2 &&& 31)) ((G 1 (((x1.toUInt32 >>> ((15 : Int32).toUInt32 &&& Int32.toUInt32 31)).toInt32) &&& (31 : Int32)).toNatClampNeg) + (((x1 >>> ((25 : Int32) &&& 31)) <<< ((5 : Int32) &&& 31)) ||| (((x1.toUInt32 >>> ((7 : Int32).toUInt32 &&& Int32.toUInt32 31)).toInt32) &&& (31 : Int32)))) r1 F1 G1 hm) _) cm_991 cm_992 cm_938 cm_993 (by decide +kernel) rfl (by omega) (by omega) hl.1 rfl (Nat.le_of_ble_eq_true rfl) dX0_store_51 (fun b H locs hw => ?_)
  exact cw_X0_store_54 fu C hret x1 ((1 : Int32) <<< (x2 &&& 31)) ((G 1 (((x1.toUInt32 >>> ((15 : Int32).toUInt32 &&& Int32.toUInt32 31)).toInt32) &&& (31 : Int32)).toNatClampNeg) + (((x1 >>> ((25 : Int32) &&& 31)) <<< ((5 : Int32) &&& 31)) ||| (((x1.toUInt32 >>> ((7 : Int32).toUInt32 &&& Int32.toUInt32 31)).toInt32) &&& (31 : Int32)))) r1 F1 G1 hm hw (lv_sub hl [2, 3, 1, 0] rfl)
theorem cn_X0_store_13 (fu : Nat) {res : Int32 × PF × PG} (F : PF) (G : PG) (hm : cb_X0_store_13 fu F G = some res) : xn F ≤ xn res.2.1 := by
  unfold cb_X0_store_13 at hm
  obtain rfl := Option.some.inj hm
  exact Nat.le_refl _
theorem cw_X0_store_13 (fu : Nat) {res : Int32 × PF × PG} (C : cMC p R s m args c A v RX0 cX0_store 9 1 21 (xn res.2.1 - xn K0)) (hret : ∀ (b1 : Nat) (H1 : Heap) (locs1 : List Loc) (ls1 : Array Slot) (pc : Nat), cMW s A v a b1 K0 res.2.1 res.2.2 H1 locs1 → narrow .int (.int res.1) = .int res.1 → decode cX0_store pc = .ok (.ireturn, 1) → W p l e R s m args below meth c H1 locs1 (xn res.2.1 - xn K0) (2 * (xn res.2.1 - xn K0)) Q (F0 m pc ls1 [.int res.1])) (F : PF) (G : PG) (hm : cb_X0_store_13 fu F G = some res) {b : Nat} {H : Heap} {locs : List Loc} (hw : cMW s A v a b K0 F G H locs) {ls : Array Slot} (hl : lv_has ls 9 []) : W p l e R s m args below meth c H locs (xn F - xn K0) (2 * (xn F - xn K0)) Q (F0 m 13 ls []) := by
  have hx := C.1
  have hb := C.2.1
  unfold cb_X0_store_13 at hm
  refine lv_iconst (v := 2) hx hb dX0_store_13 (by decide) ?_
  obtain rfl := Option.some.inj hm
  exact hret _ _ _ _ _ hw rfl dX0_store_14
theorem cn_X0_store_0 (fu : Nat) {res : Int32 × PF × PG} (x1 : Int32) (F : PF) (G : PG) (hm : cb_X0_store_0 fu x1 F G = some res) : xn F ≤ xn res.2.1 := by
  unfold cb_X0_store_0 at hm
  by_cases c_1 : (((x1.toUInt32 >>> ((12 : Int32).toUInt32 &&& Int32.toUInt32 31)).toInt32) &&& (7 : Int32)) ≤ (2 : Int32)
  · have hm := (if_pos c_1).symm.trans hm
    exact (cn_X0_store_15 fu x1 (((x1.toUInt32 >>> ((12 : Int32).toUInt32 &&& Int32.toUInt32 31)).toInt32) &&& (7 : Int32)) F G hm)
  · have hm := (if_neg c_1).symm.trans hm
    exact (cn_X0_store_13 fu F G hm)
theorem cw_X0_store_0 (fu : Nat) {res : Int32 × PF × PG} (C : cMC p R s m args c A v RX0 cX0_store 9 1 21 (xn res.2.1 - xn K0)) (hret : ∀ (b1 : Nat) (H1 : Heap) (locs1 : List Loc) (ls1 : Array Slot) (pc : Nat), cMW s A v a b1 K0 res.2.1 res.2.2 H1 locs1 → narrow .int (.int res.1) = .int res.1 → decode cX0_store pc = .ok (.ireturn, 1) → W p l e R s m args below meth c H1 locs1 (xn res.2.1 - xn K0) (2 * (xn res.2.1 - xn K0)) Q (F0 m pc ls1 [.int res.1])) (x1 : Int32) (F : PF) (G : PG) (hm : cb_X0_store_0 fu x1 F G = some res) {b : Nat} {H : Heap} {locs : List Loc} (hw : cMW s A v a b K0 F G H locs) {ls : Array Slot} (hl : lv_has ls 9 [(0, .ref (a 200)), (1, .int x1)]) : W p l e R s m args below meth c H locs (xn F - xn K0) (2 * (xn F - xn K0)) Q (F0 m 0 ls []) := by
  have hx := C.1
  have hb := C.2.1
  unfold cb_X0_store_0 at hm
  refine lv_iload_n hx hb dX0_store_0 rfl (lv_at hl 1 rfl) ?_
  refine lv_bipush (v := 12) hx hb dX0_store_1 (by decide) ?_
  refine lv_iushr hx hb dX0_store_3 rfl ?_
  refine lv_bipush (v := 7) hx hb dX0_store_4 (by decide) ?_
  refine lv_iand hx hb dX0_store_6 ?_
  refine lv_istore_n (lv' := [(2, .int (((x1.toUInt32 >>> ((12 : Int32).toUInt32 &&& Int32.toUInt32 31)).toInt32) &&& (7 : Int32))), (0, .ref (a 200)), (1, .int x1)]) hx hb dX0_store_7 rfl hl (by decide) rfl (fun ls hl => ?_)
  refine lv_iload_n hx hb dX0_store_8 rfl (lv_at hl 0 rfl) ?_
  refine lv_iconst (v := 2) hx hb dX0_store_9 (by decide) ?_
  refine lv_icmp_le (tgt := 15) hx hb dX0_store_10 (by decide) (fun c_1 => ?_) (fun c_1 => ?_)
  · have hm := (if_pos c_1).symm.trans hm
    exact cw_X0_store_15 fu C hret x1 (((x1.toUInt32 >>> ((12 : Int32).toUInt32 &&& Int32.toUInt32 31)).toInt32) &&& (7 : Int32)) F G hm hw (lv_sub hl [1, 2, 0] rfl)
  · have hm := (if_neg c_1).symm.trans hm
    exact cw_X0_store_13 fu C hret F G hm hw (lv_sub hl [] rfl)
theorem cn_X0_store (fu : Nat) (x1 : Int32) (F : PF) (G : PG) (q : Int32 × PF × PG) (hm : cf_X0_store fu x1 F G = some q) : xn F ≤ xn q.2.1 := cn_X0_store_0 fu x1 F G hm
theorem ck_X0_store (l : Launch) (v : EV) (a : Nat → Nat) (b sz : Nat) (fu : Nat) (x1 : Int32) (F : PF) (G : PG) (r : Int32) (F1 : PF) (G1 : PG) (hm : cf_X0_store fu x1 F G = some (r, F1, G1)) : cMI l yX0_store cX0_store 9 (some .int) 1 21 v a b sz [.ref (a 200), .int x1] F G r F1 G1 := cMI.of (ty := .int) (by decide) rfl (Nat.le_of_ble_eq_true rfl) (fun p e R s m args below meth c Q A H locs ls C hw hl hret => cw_X0_store_0 fu (res := (r, F1, G1)) C hret x1 F G hm hw hl)
def cb_X0_load_18 (fu : Nat) (F : PF) (G : PG) : PR := some (2, F, G)
def cb_X0_load_121 (fu : Nat) (z0 : Int32) (F : PF) (G : PG) : PR := some (z0, F, G)
def cb_X0_load_118 (fu : Nat) (z0 : Int32) (z1 : Int32) (F : PF) (G : PG) : PR := (cf_X0_keep fu z1 z0 F G).bind (fun q => cb_X0_load_121 fu q.1 q.2.1 q.2.2)
def cb_X0_load_113 (fu : Nat) (x6 : Int32) (x7 : Int32) (z0 : Int32) (F : PF) (G : PG) : PR := cb_X0_load_118 fu ((x7.toUInt32 >>> (x6.toUInt32 &&& Int32.toUInt32 31)).toInt32) z0 F G
def cb_X0_load_105 (fu : Nat) (x6 : Int32) (x7 : Int32) (z0 : Int32) (F : PF) (G : PG) : PR := cb_X0_load_118 fu (x7 >>> (x6 &&& 31)) z0 F G
def cb_X0_load_61 (fu : Nat) (x1 : Int32) (x2 : Int32) (x3 : Int32) (x4 : Int32) (F : PF) (G : PG) : PR := if ixb (x4 >>> ((2 : Int32) &&& 31)) 4096 = true then (if (4 : Int32) ≤ x2 then cb_X0_load_113 fu ((32 : Int32) - (x3 * (8 : Int32))) ((((G 0 (x4 >>> ((2 : Int32) &&& 31)).toNatClampNeg).toUInt32 >>> (((x4 &&& (3 : Int32)) * (8 : Int32)).toUInt32 &&& Int32.toUInt32 31)).toInt32) <<< (((32 : Int32) - (x3 * (8 : Int32))) &&& 31)) (((x1.toUInt32 >>> ((7 : Int32).toUInt32 &&& Int32.toUInt32 31)).toInt32) &&& (31 : Int32)) F G else cb_X0_load_105 fu ((32 : Int32) - (x3 * (8 : Int32))) ((((G 0 (x4 >>> ((2 : Int32) &&& 31)).toNatClampNeg).toUInt32 >>> (((x4 &&& (3 : Int32)) * (8 : Int32)).toUInt32 &&& Int32.toUInt32 31)).toInt32) <<< (((32 : Int32) - (x3 * (8 : Int32))) &&& 31)) (((x1.toUInt32 >>> ((7 : Int32).toUInt32 &&& Int32.toUInt32 31)).toInt32) &&& (31 : Int32)) F G) else none
def cb_X0_load_58 (fu : Nat) (x5 : Int32) (F : PF) (G : PG) : PR := some (x5, F, G)
def cb_X0_load_51 (fu : Nat) (x1 : Int32) (x2 : Int32) (x3 : Int32) (x4 : Int32) (z0 : Int32) (F : PF) (G : PG) : PR := if z0 = (0 : Int32) then cb_X0_load_61 fu x1 x2 x3 x4 F G else cb_X0_load_58 fu z0 F G
def cb_X0_load_20 (fu : Nat) (x1 : Int32) (x2 : Int32) (F : PF) (G : PG) : PR := if ixb (((x1.toUInt32 >>> ((15 : Int32).toUInt32 &&& Int32.toUInt32 31)).toInt32) &&& (31 : Int32)) 32 = true then ((cf_X0_reach fu ((G 1 (((x1.toUInt32 >>> ((15 : Int32).toUInt32 &&& Int32.toUInt32 31)).toInt32) &&& (31 : Int32)).toNatClampNeg) + (x1 >>> ((20 : Int32) &&& 31))) ((1 : Int32) <<< ((x2 &&& (3 : Int32)) &&& 31)) F G).bind (fun q => cb_X0_load_51 fu x1 x2 ((1 : Int32) <<< ((x2 &&& (3 : Int32)) &&& 31)) ((G 1 (((x1.toUInt32 >>> ((15 : Int32).toUInt32 &&& Int32.toUInt32 31)).toInt32) &&& (31 : Int32)).toNatClampNeg) + (x1 >>> ((20 : Int32) &&& 31))) q.1 q.2.1 q.2.2)) else none
def cb_X0_load_13 (fu : Nat) (x1 : Int32) (x2 : Int32) (F : PF) (G : PG) : PR := if x2 ≤ (5 : Int32) then cb_X0_load_20 fu x1 x2 F G else cb_X0_load_18 fu F G
def cb_X0_load_0 (fu : Nat) (x1 : Int32) (F : PF) (G : PG) : PR := if (((x1.toUInt32 >>> ((12 : Int32).toUInt32 &&& Int32.toUInt32 31)).toInt32) &&& (7 : Int32)) = (3 : Int32) then cb_X0_load_18 fu F G else cb_X0_load_13 fu x1 (((x1.toUInt32 >>> ((12 : Int32).toUInt32 &&& Int32.toUInt32 31)).toInt32) &&& (7 : Int32)) F G
def cf_X0_load (fu : Nat) (x1 : Int32) (F : PF) (G : PG) : PR := cb_X0_load_0 fu x1 F G
theorem cn_X0_load_18 (fu : Nat) {res : Int32 × PF × PG} (F : PF) (G : PG) (hm : cb_X0_load_18 fu F G = some res) : xn F ≤ xn res.2.1 := by
  unfold cb_X0_load_18 at hm
  obtain rfl := Option.some.inj hm
  exact Nat.le_refl _
theorem cw_X0_load_18 (fu : Nat) {res : Int32 × PF × PG} (C : cMC p R s m args c A v RX0 cX0_load 8 1 22 (xn res.2.1 - xn K0)) (hret : ∀ (b1 : Nat) (H1 : Heap) (locs1 : List Loc) (ls1 : Array Slot) (pc : Nat), cMW s A v a b1 K0 res.2.1 res.2.2 H1 locs1 → narrow .int (.int res.1) = .int res.1 → decode cX0_load pc = .ok (.ireturn, 1) → W p l e R s m args below meth c H1 locs1 (xn res.2.1 - xn K0) (2 * (xn res.2.1 - xn K0)) Q (F0 m pc ls1 [.int res.1])) (F : PF) (G : PG) (hm : cb_X0_load_18 fu F G = some res) {b : Nat} {H : Heap} {locs : List Loc} (hw : cMW s A v a b K0 F G H locs) {ls : Array Slot} (hl : lv_has ls 8 []) : W p l e R s m args below meth c H locs (xn F - xn K0) (2 * (xn F - xn K0)) Q (F0 m 18 ls []) := by
  have hx := C.1
  have hb := C.2.1
  unfold cb_X0_load_18 at hm
  refine lv_iconst (v := 2) hx hb dX0_load_18 (by decide) ?_
  obtain rfl := Option.some.inj hm
  exact hret _ _ _ _ _ hw rfl dX0_load_19
theorem cn_X0_load_121 (fu : Nat) {res : Int32 × PF × PG} (z0 : Int32) (F : PF) (G : PG) (hm : cb_X0_load_121 fu z0 F G = some res) : xn F ≤ xn res.2.1 := by
  unfold cb_X0_load_121 at hm
  obtain rfl := Option.some.inj hm
  exact Nat.le_refl _
theorem cw_X0_load_121 (fu : Nat) {res : Int32 × PF × PG} (C : cMC p R s m args c A v RX0 cX0_load 8 1 22 (xn res.2.1 - xn K0)) (hret : ∀ (b1 : Nat) (H1 : Heap) (locs1 : List Loc) (ls1 : Array Slot) (pc : Nat), cMW s A v a b1 K0 res.2.1 res.2.2 H1 locs1 → narrow .int (.int res.1) = .int res.1 → decode cX0_load pc = .ok (.ireturn, 1) → W p l e R s m args below meth c H1 locs1 (xn res.2.1 - xn K0) (2 * (xn res.2.1 - xn K0)) Q (F0 m pc ls1 [.int res.1])) (z0 : Int32) (F : PF) (G : PG) (hm : cb_X0_load_121 fu z0 F G = some res) {b : Nat} {H : Heap} {locs : List Loc} (hw : cMW s A v a b K0 F G H locs) {ls : Array Slot} (hl : lv_has ls 8 []) : W p l e R s m args below meth c H locs (xn F - xn K0) (2 * (xn F - xn K0)) Q (F0 m 121 ls [.int z0]) := by
  have hx := C.1
  have hb := C.2.1
  unfold cb_X0_load_121 at hm
  obtain rfl := Option.some.inj hm
  exact hret _ _ _ _ _ hw rfl dX0_load_121
theorem cn_X0_load_118 (fu : Nat) {res : Int32 × PF × PG} (z0 : Int32) (z1 : Int32) (F : PF) (G : PG) (hm : cb_X0_load_118 fu z0 z1 F G = some res) : xn F ≤ xn res.2.1 := by
  unfold cb_X0_load_118 at hm
  obtain ⟨⟨r1, F1, G1⟩, hc, hm⟩ := bind_elim hm
  exact Nat.le_trans (cn_X0_keep fu z1 z0 F G _ hc) (cn_X0_load_121 fu r1 F1 G1 hm)
theorem cw_X0_load_118 (fu : Nat) {res : Int32 × PF × PG} (C : cMC p R s m args c A v RX0 cX0_load 8 1 22 (xn res.2.1 - xn K0)) (hret : ∀ (b1 : Nat) (H1 : Heap) (locs1 : List Loc) (ls1 : Array Slot) (pc : Nat), cMW s A v a b1 K0 res.2.1 res.2.2 H1 locs1 → narrow .int (.int res.1) = .int res.1 → decode cX0_load pc = .ok (.ireturn, 1) → W p l e R s m args below meth c H1 locs1 (xn res.2.1 - xn K0) (2 * (xn res.2.1 - xn K0)) Q (F0 m pc ls1 [.int res.1])) (z0 : Int32) (z1 : Int32) (F : PF) (G : PG) (hm : cb_X0_load_118 fu z0 z1 F G = some res) {b : Nat} {H : Heap} {locs : List Loc} (hw : cMW s A v a b K0 F G H locs) {ls : Array Slot} (hl : lv_has ls 8 []) : W p l e R s m args below meth c H locs (xn F - xn K0) (2 * (xn F - xn K0)) Q (F0 m 118 ls [.int z0, .int z1, .ref (a 200)]) := by
  have hx := C.1
  have hb := C.2.1
  unfold cb_X0_load_118 at hm
  obtain ⟨⟨r1, F1, G1⟩, hc, hm⟩ := bind_elim hm
  refine ccallI (n := 2) (As := [.int z1, .int z0]) (rest := []) C hw (ck_X0_keep l v a _ _ fu z1 z0 F G r1 F1 G1 hc) (cn_X0_keep fu z1 z0 F G _ hc) (Nat.sub_le_sub_right (cn_X0_load_121 fu r1 F1 G1 hm) _) (crecv_X0 C hw) cm_947 cm_948 cm_949 cm_938 cm_950 (by decide +kernel) rfl (by omega) (by omega) hl.1 rfl (Nat.le_of_ble_eq_true rfl) dX0_load_118 (fun b H locs hw => ?_)
  exact cw_X0_load_121 fu C hret r1 F1 G1 hm hw (lv_sub hl [] rfl)
theorem cn_X0_load_113 (fu : Nat) {res : Int32 × PF × PG} (x6 : Int32) (x7 : Int32) (z0 : Int32) (F : PF) (G : PG) (hm : cb_X0_load_113 fu x6 x7 z0 F G = some res) : xn F ≤ xn res.2.1 := by
  unfold cb_X0_load_113 at hm
  exact (cn_X0_load_118 fu ((x7.toUInt32 >>> (x6.toUInt32 &&& Int32.toUInt32 31)).toInt32) z0 F G hm)
theorem cw_X0_load_113 (fu : Nat) {res : Int32 × PF × PG} (C : cMC p R s m args c A v RX0 cX0_load 8 1 22 (xn res.2.1 - xn K0)) (hret : ∀ (b1 : Nat) (H1 : Heap) (locs1 : List Loc) (ls1 : Array Slot) (pc : Nat), cMW s A v a b1 K0 res.2.1 res.2.2 H1 locs1 → narrow .int (.int res.1) = .int res.1 → decode cX0_load pc = .ok (.ireturn, 1) → W p l e R s m args below meth c H1 locs1 (xn res.2.1 - xn K0) (2 * (xn res.2.1 - xn K0)) Q (F0 m pc ls1 [.int res.1])) (x6 : Int32) (x7 : Int32) (z0 : Int32) (F : PF) (G : PG) (hm : cb_X0_load_113 fu x6 x7 z0 F G = some res) {b : Nat} {H : Heap} {locs : List Loc} (hw : cMW s A v a b K0 F G H locs) {ls : Array Slot} (hl : lv_has ls 8 [(6, .int x6), (7, .int x7)]) : W p l e R s m args below meth c H locs (xn F - xn K0) (2 * (xn F - xn K0)) Q (F0 m 113 ls [.int z0, .ref (a 200)]) := by
  have hx := C.1
  have hb := C.2.1
  unfold cb_X0_load_113 at hm
  refine lv_iload hx hb dX0_load_113 (lv_at hl 1 rfl) ?_
  refine lv_iload hx hb dX0_load_115 (lv_at hl 0 rfl) ?_
  refine lv_iushr hx hb dX0_load_117 rfl ?_
  exact cw_X0_load_118 fu C hret ((x7.toUInt32 >>> (x6.toUInt32 &&& Int32.toUInt32 31)).toInt32) z0 F G hm hw (lv_sub hl [] rfl)
theorem cn_X0_load_105 (fu : Nat) {res : Int32 × PF × PG} (x6 : Int32) (x7 : Int32) (z0 : Int32) (F : PF) (G : PG) (hm : cb_X0_load_105 fu x6 x7 z0 F G = some res) : xn F ≤ xn res.2.1 := by
  unfold cb_X0_load_105 at hm
  exact (cn_X0_load_118 fu (x7 >>> (x6 &&& 31)) z0 F G hm)
theorem cw_X0_load_105 (fu : Nat) {res : Int32 × PF × PG} (C : cMC p R s m args c A v RX0 cX0_load 8 1 22 (xn res.2.1 - xn K0)) (hret : ∀ (b1 : Nat) (H1 : Heap) (locs1 : List Loc) (ls1 : Array Slot) (pc : Nat), cMW s A v a b1 K0 res.2.1 res.2.2 H1 locs1 → narrow .int (.int res.1) = .int res.1 → decode cX0_load pc = .ok (.ireturn, 1) → W p l e R s m args below meth c H1 locs1 (xn res.2.1 - xn K0) (2 * (xn res.2.1 - xn K0)) Q (F0 m pc ls1 [.int res.1])) (x6 : Int32) (x7 : Int32) (z0 : Int32) (F : PF) (G : PG) (hm : cb_X0_load_105 fu x6 x7 z0 F G = some res) {b : Nat} {H : Heap} {locs : List Loc} (hw : cMW s A v a b K0 F G H locs) {ls : Array Slot} (hl : lv_has ls 8 [(6, .int x6), (7, .int x7)]) : W p l e R s m args below meth c H locs (xn F - xn K0) (2 * (xn F - xn K0)) Q (F0 m 105 ls [.int z0, .ref (a 200)]) := by
  have hx := C.1
  have hb := C.2.1
  unfold cb_X0_load_105 at hm
  refine lv_iload hx hb dX0_load_105 (lv_at hl 1 rfl) ?_
  refine lv_iload hx hb dX0_load_107 (lv_at hl 0 rfl) ?_
  refine lv_ishr hx hb dX0_load_109 ?_
  refine lv_goto (tgt := 118) hx hb dX0_load_110 (by decide) ?_
  exact cw_X0_load_118 fu C hret (x7 >>> (x6 &&& 31)) z0 F G hm hw (lv_sub hl [] rfl)
theorem cn_X0_load_61 (fu : Nat) {res : Int32 × PF × PG} (x1 : Int32) (x2 : Int32) (x3 : Int32) (x4 : Int32) (F : PF) (G : PG) (hm : cb_X0_load_61 fu x1 x2 x3 x4 F G = some res) : xn F ≤ xn res.2.1 := by
  unfold cb_X0_load_61 at hm
  have hm := (ix_elim hm).2
  by_cases c_1 : (4 : Int32) ≤ x2
  · have hm := (if_pos c_1).symm.trans hm
    exact (cn_X0_load_113 fu ((32 : Int32) - (x3 * (8 : Int32))) ((((G 0 (x4 >>> ((2 : Int32) &&& 31)).toNatClampNeg).toUInt32 >>> (((x4 &&& (3 : Int32)) * (8 : Int32)).toUInt32 &&& Int32.toUInt32 31)).toInt32) <<< (((32 : Int32) - (x3 * (8 : Int32))) &&& 31)) (((x1.toUInt32 >>> ((7 : Int32).toUInt32 &&& Int32.toUInt32 31)).toInt32) &&& (31 : Int32)) F G hm)
  · have hm := (if_neg c_1).symm.trans hm
    exact (cn_X0_load_105 fu ((32 : Int32) - (x3 * (8 : Int32))) ((((G 0 (x4 >>> ((2 : Int32) &&& 31)).toNatClampNeg).toUInt32 >>> (((x4 &&& (3 : Int32)) * (8 : Int32)).toUInt32 &&& Int32.toUInt32 31)).toInt32) <<< (((32 : Int32) - (x3 * (8 : Int32))) &&& 31)) (((x1.toUInt32 >>> ((7 : Int32).toUInt32 &&& Int32.toUInt32 31)).toInt32) &&& (31 : Int32)) F G hm)
theorem cw_X0_load_61 (fu : Nat) {res : Int32 × PF × PG} (C : cMC p R s m args c A v RX0 cX0_load 8 1 22 (xn res.2.1 - xn K0)) (hret : ∀ (b1 : Nat) (H1 : Heap) (locs1 : List Loc) (ls1 : Array Slot) (pc : Nat), cMW s A v a b1 K0 res.2.1 res.2.2 H1 locs1 → narrow .int (.int res.1) = .int res.1 → decode cX0_load pc = .ok (.ireturn, 1) → W p l e R s m args below meth c H1 locs1 (xn res.2.1 - xn K0) (2 * (xn res.2.1 - xn K0)) Q (F0 m pc ls1 [.int res.1])) (x1 : Int32) (x2 : Int32) (x3 : Int32) (x4 : Int32) (F : PF) (G : PG) (hm : cb_X0_load_61 fu x1 x2 x3 x4 F G = some res) {b : Nat} {H : Heap} {locs : List Loc} (hw : cMW s A v a b K0 F G H locs) {ls : Array Slot} (hl : lv_has ls 8 [(0, .ref (a 200)), (1, .int x1), (2, .int x2), (3, .int x3), (4, .int x4)]) : W p l e R s m args below meth c H locs (xn F - xn K0) (2 * (xn F - xn K0)) Q (F0 m 61 ls []) := by
  have hx := C.1
  have hb := C.2.1
  unfold cb_X0_load_61 at hm
  refine lv_bipush (v := 32) hx hb dX0_load_61 (by decide) ?_
  refine lv_iload_n hx hb dX0_load_63 rfl (lv_at hl 3 rfl) ?_
  refine lv_bipush (v := 8) hx hb dX0_load_64 (by decide) ?_
  refine lv_imul hx hb dX0_load_66 ?_
  refine lv_isub hx hb dX0_load_67 ?_
  refine lv_istore (lv' := [(6, .int ((32 : Int32) - (x3 * (8 : Int32)))), (0, .ref (a 200)), (1, .int x1), (2, .int x2), (3, .int x3), (4, .int x4)]) hx hb dX0_load_68 hl (by decide) rfl (fun ls hl => ?_)
  refine lv_aload_n hx hb dX0_load_70 rfl (lv_at hl 1 rfl) ?_
  refine cg_X0_11 C hw dX0_load_71 ?_
  refine lv_iload hx hb dX0_load_74 (lv_at hl 5 rfl) ?_
  refine lv_iconst (v := 2) hx hb dX0_load_76 (by decide) ?_
  refine lv_ishr hx hb dX0_load_77 ?_
  obtain ⟨hi, hm⟩ := ix_elim hm
  refine cal_0 C hw hi dX0_load_78 ?_
  refine lv_iload hx hb dX0_load_79 (lv_at hl 5 rfl) ?_
  refine lv_iconst (v := 3) hx hb dX0_load_81 (by decide) ?_
  refine lv_iand hx hb dX0_load_82 ?_
  refine lv_bipush (v := 8) hx hb dX0_load_83 (by decide) ?_
  refine lv_imul hx hb dX0_load_85 ?_
  refine lv_iushr hx hb dX0_load_86 rfl ?_
  refine lv_iload hx hb dX0_load_87 (lv_at hl 0 rfl) ?_
  refine lv_ishl hx hb dX0_load_89 ?_
  refine lv_istore (lv' := [(7, .int ((((G 0 (x4 >>> ((2 : Int32) &&& 31)).toNatClampNeg).toUInt32 >>> (((x4 &&& (3 : Int32)) * (8 : Int32)).toUInt32 &&& Int32.toUInt32 31)).toInt32) <<< (((32 : Int32) - (x3 * (8 : Int32))) &&& 31))), (6, .int ((32 : Int32) - (x3 * (8 : Int32)))), (0, .ref (a 200)), (1, .int x1), (2, .int x2), (3, .int x3), (4, .int x4)]) hx hb dX0_load_90 hl (by decide) rfl (fun ls hl => ?_)
  refine lv_aload_n hx hb dX0_load_92 rfl (lv_at hl 2 rfl) ?_
  refine lv_iload_n hx hb dX0_load_93 rfl (lv_at hl 3 rfl) ?_
  refine lv_bipush (v := 7) hx hb dX0_load_94 (by decide) ?_
  refine lv_iushr hx hb dX0_load_96 rfl ?_
  refine lv_bipush (v := 31) hx hb dX0_load_97 (by decide) ?_
  refine lv_iand hx hb dX0_load_99 ?_
  refine lv_iload_n hx hb dX0_load_100 rfl (lv_at hl 4 rfl) ?_
  refine lv_iconst (v := 4) hx hb dX0_load_101 (by decide) ?_
  refine lv_icmp_ge (tgt := 113) hx hb dX0_load_102 (by decide) (fun c_1 => ?_) (fun c_1 => ?_)
  · have hm := (if_pos c_1).symm.trans hm
    exact cw_X0_load_113 fu C hret ((32 : Int32) - (x3 * (8 : Int32))) ((((G 0 (x4 >>> ((2 : Int32) &&& 31)).toNatClampNeg).toUInt32 >>> (((x4 &&& (3 : Int32)) * (8 : Int32)).toUInt32 &&& Int32.toUInt32 31)).toInt32) <<< (((32 : Int32) - (x3 * (8 : Int32))) &&& 31)) (((x1.toUInt32 >>> ((7 : Int32).toUInt32 &&& Int32.toUInt32 31)).toInt32) &&& (31 : Int32)) F G hm hw (lv_sub hl [1, 0] rfl)
  · have hm := (if_neg c_1).symm.trans hm
    exact cw_X0_load_105 fu C hret ((32 : Int32) - (x3 * (8 : Int32))) ((((G 0 (x4 >>> ((2 : Int32) &&& 31)).toNatClampNeg).toUInt32 >>> (((x4 &&& (3 : Int32)) * (8 : Int32)).toUInt32 &&& Int32.toUInt32 31)).toInt32) <<< (((32 : Int32) - (x3 * (8 : Int32))) &&& 31)) (((x1.toUInt32 >>> ((7 : Int32).toUInt32 &&& Int32.toUInt32 31)).toInt32) &&& (31 : Int32)) F G hm hw (lv_sub hl [1, 0] rfl)
theorem cn_X0_load_58 (fu : Nat) {res : Int32 × PF × PG} (x5 : Int32) (F : PF) (G : PG) (hm : cb_X0_load_58 fu x5 F G = some res) : xn F ≤ xn res.2.1 := by
  unfold cb_X0_load_58 at hm
  obtain rfl := Option.some.inj hm
  exact Nat.le_refl _
theorem cw_X0_load_58 (fu : Nat) {res : Int32 × PF × PG} (C : cMC p R s m args c A v RX0 cX0_load 8 1 22 (xn res.2.1 - xn K0)) (hret : ∀ (b1 : Nat) (H1 : Heap) (locs1 : List Loc) (ls1 : Array Slot) (pc : Nat), cMW s A v a b1 K0 res.2.1 res.2.2 H1 locs1 → narrow .int (.int res.1) = .int res.1 → decode cX0_load pc = .ok (.ireturn, 1) → W p l e R s m args below meth c H1 locs1 (xn res.2.1 - xn K0) (2 * (xn res.2.1 - xn K0)) Q (F0 m pc ls1 [.int res.1])) (x5 : Int32) (F : PF) (G : PG) (hm : cb_X0_load_58 fu x5 F G = some res) {b : Nat} {H : Heap} {locs : List Loc} (hw : cMW s A v a b K0 F G H locs) {ls : Array Slot} (hl : lv_has ls 8 [(5, .int x5)]) : W p l e R s m args below meth c H locs (xn F - xn K0) (2 * (xn F - xn K0)) Q (F0 m 58 ls []) := by
  have hx := C.1
  have hb := C.2.1
  unfold cb_X0_load_58 at hm
  refine lv_iload hx hb dX0_load_58 (lv_at hl 0 rfl) ?_
  obtain rfl := Option.some.inj hm
  exact hret _ _ _ _ _ hw rfl dX0_load_60
theorem cn_X0_load_51 (fu : Nat) {res : Int32 × PF × PG} (x1 : Int32) (x2 : Int32) (x3 : Int32) (x4 : Int32) (z0 : Int32) (F : PF) (G : PG) (hm : cb_X0_load_51 fu x1 x2 x3 x4 z0 F G = some res) : xn F ≤ xn res.2.1 := by
  unfold cb_X0_load_51 at hm
  by_cases c_1 : z0 = (0 : Int32)
  · have hm := (if_pos c_1).symm.trans hm
    exact (cn_X0_load_61 fu x1 x2 x3 x4 F G hm)
  · have hm := (if_neg c_1).symm.trans hm
    exact (cn_X0_load_58 fu z0 F G hm)
theorem cw_X0_load_51 (fu : Nat) {res : Int32 × PF × PG} (C : cMC p R s m args c A v RX0 cX0_load 8 1 22 (xn res.2.1 - xn K0)) (hret : ∀ (b1 : Nat) (H1 : Heap) (locs1 : List Loc) (ls1 : Array Slot) (pc : Nat), cMW s A v a b1 K0 res.2.1 res.2.2 H1 locs1 → narrow .int (.int res.1) = .int res.1 → decode cX0_load pc = .ok (.ireturn, 1) → W p l e R s m args below meth c H1 locs1 (xn res.2.1 - xn K0) (2 * (xn res.2.1 - xn K0)) Q (F0 m pc ls1 [.int res.1])) (x1 : Int32) (x2 : Int32) (x3 : Int32) (x4 : Int32) (z0 : Int32) (F : PF) (G : PG) (hm : cb_X0_load_51 fu x1 x2 x3 x4 z0 F G = some res) {b : Nat} {H : Heap} {locs : List Loc} (hw : cMW s A v a b K0 F G H locs) {ls : Array Slot} (hl : lv_has ls 8 [(0, .ref (a 200)), (1, .int x1), (2, .int x2), (3, .int x3), (4, .int x4)]) : W p l e R s m args below meth c H locs (xn F - xn K0) (2 * (xn F - xn K0)) Q (F0 m 51 ls [.int z0]) := by
  have hx := C.1
  have hb := C.2.1
  unfold cb_X0_load_51 at hm
  refine lv_istore (lv' := [(5, .int z0), (0, .ref (a 200)), (1, .int x1), (2, .int x2), (3, .int x3), (4, .int x4)]) hx hb dX0_load_51 hl (by decide) rfl (fun ls hl => ?_)
  refine lv_iload hx hb dX0_load_53 (lv_at hl 0 rfl) ?_
  refine lv_if_eq (tgt := 61) hx hb dX0_load_55 (by decide) (fun c_1 => ?_) (fun c_1 => ?_)
  · have hm := (if_pos c_1).symm.trans hm
    exact cw_X0_load_61 fu C hret x1 x2 x3 x4 F G hm hw (lv_sub hl [1, 2, 3, 4, 5] rfl)
  · have hm := (if_neg c_1).symm.trans hm
    exact cw_X0_load_58 fu C hret z0 F G hm hw (lv_sub hl [0] rfl)
theorem cn_X0_load_20 (fu : Nat) {res : Int32 × PF × PG} (x1 : Int32) (x2 : Int32) (F : PF) (G : PG) (hm : cb_X0_load_20 fu x1 x2 F G = some res) : xn F ≤ xn res.2.1 := by
  unfold cb_X0_load_20 at hm
  have hm := (ix_elim hm).2
  obtain ⟨⟨r1, F1, G1⟩, hc, hm⟩ := bind_elim hm
  exact Nat.le_trans (cn_X0_reach fu ((G 1 (((x1.toUInt32 >>> ((15 : Int32).toUInt32 &&& Int32.toUInt32 31)).toInt32) &&& (31 : Int32)).toNatClampNeg) + (x1 >>> ((20 : Int32) &&& 31))) ((1 : Int32) <<< ((x2 &&& (3 : Int32)) &&& 31)) F G _ hc) (cn_X0_load_51 fu x1 x2 ((1 : Int32) <<< ((x2 &&& (3 : Int32)) &&& 31)) ((G 1 (((x1.toUInt32 >>> ((15 : Int32).toUInt32 &&& Int32.toUInt32 31)).toInt32) &&& (31 : Int32)).toNatClampNeg) + (x1 >>> ((20 : Int32) &&& 31))) r1 F1 G1 hm)
theorem cw_X0_load_20 (fu : Nat) {res : Int32 × PF × PG} (C : cMC p R s m args c A v RX0 cX0_load 8 1 22 (xn res.2.1 - xn K0)) (hret : ∀ (b1 : Nat) (H1 : Heap) (locs1 : List Loc) (ls1 : Array Slot) (pc : Nat), cMW s A v a b1 K0 res.2.1 res.2.2 H1 locs1 → narrow .int (.int res.1) = .int res.1 → decode cX0_load pc = .ok (.ireturn, 1) → W p l e R s m args below meth c H1 locs1 (xn res.2.1 - xn K0) (2 * (xn res.2.1 - xn K0)) Q (F0 m pc ls1 [.int res.1])) (x1 : Int32) (x2 : Int32) (F : PF) (G : PG) (hm : cb_X0_load_20 fu x1 x2 F G = some res) {b : Nat} {H : Heap} {locs : List Loc} (hw : cMW s A v a b K0 F G H locs) {ls : Array Slot} (hl : lv_has ls 8 [(0, .ref (a 200)), (1, .int x1), (2, .int x2)]) : W p l e R s m args below meth c H locs (xn F - xn K0) (2 * (xn F - xn K0)) Q (F0 m 20 ls []) := by
  have hx := C.1
  have hb := C.2.1
  unfold cb_X0_load_20 at hm
  refine lv_iconst (v := 1) hx hb dX0_load_20 (by decide) ?_
  refine lv_iload_n hx hb dX0_load_21 rfl (lv_at hl 2 rfl) ?_
  refine lv_iconst (v := 3) hx hb dX0_load_22 (by decide) ?_
  refine lv_iand hx hb dX0_load_23 ?_
  refine lv_ishl hx hb dX0_load_24 ?_
  refine lv_istore_n (lv' := [(3, .int ((1 : Int32) <<< ((x2 &&& (3 : Int32)) &&& 31))), (0, .ref (a 200)), (1, .int x1), (2, .int x2)]) hx hb dX0_load_25 rfl hl (by decide) rfl (fun ls hl => ?_)
  refine lv_aload_n hx hb dX0_load_26 rfl (lv_at hl 1 rfl) ?_
  refine cg_X0_15 C hw dX0_load_27 ?_
  refine lv_iload_n hx hb dX0_load_30 rfl (lv_at hl 2 rfl) ?_
  refine lv_bipush (v := 15) hx hb dX0_load_31 (by decide) ?_
  refine lv_iushr hx hb dX0_load_33 rfl ?_
  refine lv_bipush (v := 31) hx hb dX0_load_34 (by decide) ?_
  refine lv_iand hx hb dX0_load_36 ?_
  obtain ⟨hi, hm⟩ := ix_elim hm
  refine cal_1 C hw hi dX0_load_37 ?_
  refine lv_iload_n hx hb dX0_load_38 rfl (lv_at hl 2 rfl) ?_
  refine lv_bipush (v := 20) hx hb dX0_load_39 (by decide) ?_
  refine lv_ishr hx hb dX0_load_41 ?_
  refine lv_iadd hx hb dX0_load_42 ?_
  refine lv_istore (lv' := [(4, .int ((G 1 (((x1.toUInt32 >>> ((15 : Int32).toUInt32 &&& Int32.toUInt32 31)).toInt32) &&& (31 : Int32)).toNatClampNeg) + (x1 >>> ((20 : Int32) &&& 31)))), (3, .int ((1 : Int32) <<< ((x2 &&& (3 : Int32)) &&& 31))), (0, .ref (a 200)), (1, .int x1), (2, .int x2)]) hx hb dX0_load_43 hl (by decide) rfl (fun ls hl => ?_)
  refine lv_iload hx hb dX0_load_45 (lv_at hl 0 rfl) ?_
  refine lv_iload_n hx hb dX0_load_47 rfl (lv_at hl 1 rfl) ?_
  obtain ⟨⟨r1, F1, G1⟩, hc, hm⟩ := bind_elim hm
  refine ccallIS (n := 2) (As := [.int ((G 1 (((x1.toUInt32 >>> ((15 : Int32).toUInt32 &&& Int32.toUInt32 31)).toInt32) &&& (31 : Int32)).toNatClampNeg) + (x1 >>> ((20 : Int32) &&& 31))), .int ((1 : Int32) <<< ((x2 &&& (3 : Int32)) &&& 31))]) (rest := []) C hw (ck_X0_reach l v a _ _ fu ((G 1 (((x1.toUInt32 >>> ((15 : Int32).toUInt32 &&& Int32.toUInt32 31)).toInt32) &&& (31 : Int32)).toNatClampNeg) + (x1 >>> ((20 : Int32) &&& 31))) ((1 : Int32) <<< ((x2 &&& (3 : Int32)) &&& 31)) F G r1 F1 G1 hc) (cn_X0_reach fu ((G 1 (((x1.toUInt32 >>> ((15 : Int32).toUInt32 &&& Int32.toUInt32 31)).toInt32) &&& (31 : Int32)).toNatClampNeg) + (x1 >>> ((20 : Int32) &&& 31))) ((1 : Int32) <<< ((x2 &&& (3 : Int32)) &&& 31)) F G _ hc) (Nat.sub_le_sub_right (cn_X0_load_51 fu x1 x2 ((1 : Int32) <<< ((x2 &&& (3 : Int32)) &&& 31)) ((G 1 (((x1.toUInt32 >>> ((15 : Int32).toUInt32 &&& Int32.toUInt32 31)).toInt32) &&& (31 : Int32)).toNatClampNeg) + (x1 >>> ((20 : Int32) &&& 31))) r1 F1 G1 hm) _) cm_991 cm_992 cm_938 cm_993 (by decide +kernel) rfl (by omega) (by omega) hl.1 rfl (Nat.le_of_ble_eq_true rfl) dX0_load_48 (fun b H locs hw => ?_)
  exact cw_X0_load_51 fu C hret x1 x2 ((1 : Int32) <<< ((x2 &&& (3 : Int32)) &&& 31)) ((G 1 (((x1.toUInt32 >>> ((15 : Int32).toUInt32 &&& Int32.toUInt32 31)).toInt32) &&& (31 : Int32)).toNatClampNeg) + (x1 >>> ((20 : Int32) &&& 31))) r1 F1 G1 hm hw (lv_sub hl [2, 3, 4, 1, 0] rfl)
theorem cn_X0_load_13 (fu : Nat) {res : Int32 × PF × PG} (x1 : Int32) (x2 : Int32) (F : PF) (G : PG) (hm : cb_X0_load_13 fu x1 x2 F G = some res) : xn F ≤ xn res.2.1 := by
  unfold cb_X0_load_13 at hm
  by_cases c_1 : x2 ≤ (5 : Int32)
  · have hm := (if_pos c_1).symm.trans hm
    exact (cn_X0_load_20 fu x1 x2 F G hm)
  · have hm := (if_neg c_1).symm.trans hm
    exact (cn_X0_load_18 fu F G hm)
theorem cw_X0_load_13 (fu : Nat) {res : Int32 × PF × PG} (C : cMC p R s m args c A v RX0 cX0_load 8 1 22 (xn res.2.1 - xn K0)) (hret : ∀ (b1 : Nat) (H1 : Heap) (locs1 : List Loc) (ls1 : Array Slot) (pc : Nat), cMW s A v a b1 K0 res.2.1 res.2.2 H1 locs1 → narrow .int (.int res.1) = .int res.1 → decode cX0_load pc = .ok (.ireturn, 1) → W p l e R s m args below meth c H1 locs1 (xn res.2.1 - xn K0) (2 * (xn res.2.1 - xn K0)) Q (F0 m pc ls1 [.int res.1])) (x1 : Int32) (x2 : Int32) (F : PF) (G : PG) (hm : cb_X0_load_13 fu x1 x2 F G = some res) {b : Nat} {H : Heap} {locs : List Loc} (hw : cMW s A v a b K0 F G H locs) {ls : Array Slot} (hl : lv_has ls 8 [(0, .ref (a 200)), (1, .int x1), (2, .int x2)]) : W p l e R s m args below meth c H locs (xn F - xn K0) (2 * (xn F - xn K0)) Q (F0 m 13 ls []) := by
  have hx := C.1
  have hb := C.2.1
  unfold cb_X0_load_13 at hm
  refine lv_iload_n hx hb dX0_load_13 rfl (lv_at hl 2 rfl) ?_
  refine lv_iconst (v := 5) hx hb dX0_load_14 (by decide) ?_
  refine lv_icmp_le (tgt := 20) hx hb dX0_load_15 (by decide) (fun c_1 => ?_) (fun c_1 => ?_)
  · have hm := (if_pos c_1).symm.trans hm
    exact cw_X0_load_20 fu C hret x1 x2 F G hm hw (lv_sub hl [0, 1, 2] rfl)
  · have hm := (if_neg c_1).symm.trans hm
    exact cw_X0_load_18 fu C hret F G hm hw (lv_sub hl [] rfl)
theorem cn_X0_load_0 (fu : Nat) {res : Int32 × PF × PG} (x1 : Int32) (F : PF) (G : PG) (hm : cb_X0_load_0 fu x1 F G = some res) : xn F ≤ xn res.2.1 := by
  unfold cb_X0_load_0 at hm
  by_cases c_1 : (((x1.toUInt32 >>> ((12 : Int32).toUInt32 &&& Int32.toUInt32 31)).toInt32) &&& (7 : Int32)) = (3 : Int32)
  · have hm := (if_pos c_1).symm.trans hm
    exact (cn_X0_load_18 fu F G hm)
  · have hm := (if_neg c_1).symm.trans hm
    exact (cn_X0_load_13 fu x1 (((x1.toUInt32 >>> ((12 : Int32).toUInt32 &&& Int32.toUInt32 31)).toInt32) &&& (7 : Int32)) F G hm)
theorem cw_X0_load_0 (fu : Nat) {res : Int32 × PF × PG} (C : cMC p R s m args c A v RX0 cX0_load 8 1 22 (xn res.2.1 - xn K0)) (hret : ∀ (b1 : Nat) (H1 : Heap) (locs1 : List Loc) (ls1 : Array Slot) (pc : Nat), cMW s A v a b1 K0 res.2.1 res.2.2 H1 locs1 → narrow .int (.int res.1) = .int res.1 → decode cX0_load pc = .ok (.ireturn, 1) → W p l e R s m args below meth c H1 locs1 (xn res.2.1 - xn K0) (2 * (xn res.2.1 - xn K0)) Q (F0 m pc ls1 [.int res.1])) (x1 : Int32) (F : PF) (G : PG) (hm : cb_X0_load_0 fu x1 F G = some res) {b : Nat} {H : Heap} {locs : List Loc} (hw : cMW s A v a b K0 F G H locs) {ls : Array Slot} (hl : lv_has ls 8 [(0, .ref (a 200)), (1, .int x1)]) : W p l e R s m args below meth c H locs (xn F - xn K0) (2 * (xn F - xn K0)) Q (F0 m 0 ls []) := by
  have hx := C.1
  have hb := C.2.1
  unfold cb_X0_load_0 at hm
  refine lv_iload_n hx hb dX0_load_0 rfl (lv_at hl 1 rfl) ?_
  refine lv_bipush (v := 12) hx hb dX0_load_1 (by decide) ?_
  refine lv_iushr hx hb dX0_load_3 rfl ?_
  refine lv_bipush (v := 7) hx hb dX0_load_4 (by decide) ?_
  refine lv_iand hx hb dX0_load_6 ?_
  refine lv_istore_n (lv' := [(2, .int (((x1.toUInt32 >>> ((12 : Int32).toUInt32 &&& Int32.toUInt32 31)).toInt32) &&& (7 : Int32))), (0, .ref (a 200)), (1, .int x1)]) hx hb dX0_load_7 rfl hl (by decide) rfl (fun ls hl => ?_)
  refine lv_iload_n hx hb dX0_load_8 rfl (lv_at hl 0 rfl) ?_
  refine lv_iconst (v := 3) hx hb dX0_load_9 (by decide) ?_
  refine lv_icmp_eq (tgt := 18) hx hb dX0_load_10 (by decide) (fun c_1 => ?_) (fun c_1 => ?_)
  · have hm := (if_pos c_1).symm.trans hm
    exact cw_X0_load_18 fu C hret F G hm hw (lv_sub hl [] rfl)
  · have hm := (if_neg c_1).symm.trans hm
    exact cw_X0_load_13 fu C hret x1 (((x1.toUInt32 >>> ((12 : Int32).toUInt32 &&& Int32.toUInt32 31)).toInt32) &&& (7 : Int32)) F G hm hw (lv_sub hl [1, 2, 0] rfl)
theorem cn_X0_load (fu : Nat) (x1 : Int32) (F : PF) (G : PG) (q : Int32 × PF × PG) (hm : cf_X0_load fu x1 F G = some q) : xn F ≤ xn q.2.1 := cn_X0_load_0 fu x1 F G hm
theorem ck_X0_load (l : Launch) (v : EV) (a : Nat → Nat) (b sz : Nat) (fu : Nat) (x1 : Int32) (F : PF) (G : PG) (r : Int32) (F1 : PF) (G1 : PG) (hm : cf_X0_load fu x1 F G = some (r, F1, G1)) : cMI l yX0_load cX0_load 8 (some .int) 1 22 v a b sz [.ref (a 200), .int x1] F G r F1 G1 := cMI.of (ty := .int) (by decide) rfl (Nat.le_of_ble_eq_true rfl) (fun p e R s m args below meth c Q A H locs ls C hw hl hret => cw_X0_load_0 fu (res := (r, F1, G1)) C hret x1 F G hm hw hl)
def cb_X0_offsetB_0 (fu : Nat) (x0 : Int32) (F : PF) (G : PG) : PR := some ((((((x0 >>> ((31 : Int32) &&& 31)) <<< ((12 : Int32) &&& 31)) ||| ((((x0.toUInt32 >>> ((7 : Int32).toUInt32 &&& Int32.toUInt32 31)).toInt32) &&& (1 : Int32)) <<< ((11 : Int32) &&& 31))) ||| ((((x0.toUInt32 >>> ((25 : Int32).toUInt32 &&& Int32.toUInt32 31)).toInt32) &&& (63 : Int32)) <<< ((5 : Int32) &&& 31))) ||| ((((x0.toUInt32 >>> ((8 : Int32).toUInt32 &&& Int32.toUInt32 31)).toInt32) &&& (15 : Int32)) <<< ((1 : Int32) &&& 31))), F, G)
def cf_X0_offsetB (fu : Nat) (x0 : Int32) (F : PF) (G : PG) : PR := cb_X0_offsetB_0 fu x0 F G
theorem cn_X0_offsetB_0 (fu : Nat) {res : Int32 × PF × PG} (x0 : Int32) (F : PF) (G : PG) (hm : cb_X0_offsetB_0 fu x0 F G = some res) : xn F ≤ xn res.2.1 := by
  unfold cb_X0_offsetB_0 at hm
  obtain rfl := Option.some.inj hm
  exact Nat.le_refl _
theorem cw_X0_offsetB_0 (fu : Nat) {res : Int32 × PF × PG} (C : cMC p R s m args c A v RX0 cX0_offsetB 1 0 0 (xn res.2.1 - xn K0)) (hret : ∀ (b1 : Nat) (H1 : Heap) (locs1 : List Loc) (ls1 : Array Slot) (pc : Nat), cMW s A v a b1 K0 res.2.1 res.2.2 H1 locs1 → narrow .int (.int res.1) = .int res.1 → decode cX0_offsetB pc = .ok (.ireturn, 1) → W p l e R s m args below meth c H1 locs1 (xn res.2.1 - xn K0) (2 * (xn res.2.1 - xn K0)) Q (F0 m pc ls1 [.int res.1])) (x0 : Int32) (F : PF) (G : PG) (hm : cb_X0_offsetB_0 fu x0 F G = some res) {b : Nat} {H : Heap} {locs : List Loc} (hw : cMW s A v a b K0 F G H locs) {ls : Array Slot} (hl : lv_has ls 1 [(0, .int x0)]) : W p l e R s m args below meth c H locs (xn F - xn K0) (2 * (xn F - xn K0)) Q (F0 m 0 ls []) := by
  have hx := C.1
  have hb := C.2.1
  unfold cb_X0_offsetB_0 at hm
  refine lv_iload_n hx hb dX0_offsetB_0 rfl (lv_at hl 0 rfl) ?_
  refine lv_bipush (v := 31) hx hb dX0_offsetB_1 (by decide) ?_
  refine lv_ishr hx hb dX0_offsetB_3 ?_
  refine lv_bipush (v := 12) hx hb dX0_offsetB_4 (by decide) ?_
  refine lv_ishl hx hb dX0_offsetB_6 ?_
  refine lv_iload_n hx hb dX0_offsetB_7 rfl (lv_at hl 0 rfl) ?_
  refine lv_bipush (v := 7) hx hb dX0_offsetB_8 (by decide) ?_
  refine lv_iushr hx hb dX0_offsetB_10 rfl ?_
  refine lv_iconst (v := 1) hx hb dX0_offsetB_11 (by decide) ?_
  refine lv_iand hx hb dX0_offsetB_12 ?_
  refine lv_bipush (v := 11) hx hb dX0_offsetB_13 (by decide) ?_
  refine lv_ishl hx hb dX0_offsetB_15 ?_
  refine lv_ior hx hb dX0_offsetB_16 ?_
  refine lv_iload_n hx hb dX0_offsetB_17 rfl (lv_at hl 0 rfl) ?_
  refine lv_bipush (v := 25) hx hb dX0_offsetB_18 (by decide) ?_
  refine lv_iushr hx hb dX0_offsetB_20 rfl ?_
  refine lv_bipush (v := 63) hx hb dX0_offsetB_21 (by decide) ?_
  refine lv_iand hx hb dX0_offsetB_23 ?_
  refine lv_iconst (v := 5) hx hb dX0_offsetB_24 (by decide) ?_
  refine lv_ishl hx hb dX0_offsetB_25 ?_
  refine lv_ior hx hb dX0_offsetB_26 ?_
  refine lv_iload_n hx hb dX0_offsetB_27 rfl (lv_at hl 0 rfl) ?_
  refine lv_bipush (v := 8) hx hb dX0_offsetB_28 (by decide) ?_
  refine lv_iushr hx hb dX0_offsetB_30 rfl ?_
  refine lv_bipush (v := 15) hx hb dX0_offsetB_31 (by decide) ?_
  refine lv_iand hx hb dX0_offsetB_33 ?_
  refine lv_iconst (v := 1) hx hb dX0_offsetB_34 (by decide) ?_
  refine lv_ishl hx hb dX0_offsetB_35 ?_
  refine lv_ior hx hb dX0_offsetB_36 ?_
  obtain rfl := Option.some.inj hm
  exact hret _ _ _ _ _ hw rfl dX0_offsetB_37
theorem cn_X0_offsetB (fu : Nat) (x0 : Int32) (F : PF) (G : PG) (q : Int32 × PF × PG) (hm : cf_X0_offsetB fu x0 F G = some q) : xn F ≤ xn q.2.1 := cn_X0_offsetB_0 fu x0 F G hm
theorem ck_X0_offsetB (l : Launch) (v : EV) (a : Nat → Nat) (b sz : Nat) (fu : Nat) (x0 : Int32) (F : PF) (G : PG) (r : Int32) (F1 : PF) (G1 : PG) (hm : cf_X0_offsetB fu x0 F G = some (r, F1, G1)) : cMI l yX0_offsetB cX0_offsetB 1 (some .int) 0 0 v a b sz [.int x0] F G r F1 G1 := cMI.of (ty := .int) (by decide) rfl (Nat.le_of_ble_eq_true rfl) (fun p e R s m args below meth c Q A H locs ls C hw hl hret => cw_X0_offsetB_0 fu (res := (r, F1, G1)) C hret x0 F G hm hw hl)
def cb_X0_branch_45 (fu : Nat) (F : PF) (G : PG) : PR := some (2, F, G)
def cb_X0_branch_143 (fu : Nat) (F : PF) (G : PG) : PR := some (0, F, G)
def cb_X0_branch_137 (fu : Nat) (x6 : Int32) (F : PF) (G : PG) : PR := cb_X0_branch_143 fu (fup F 4 x6) G
def cb_X0_branch_135 (fu : Nat) (F : PF) (G : PG) : PR := some (3, F, G)
def cb_X0_branch_125 (fu : Nat) (z0 : Int32) (z1 : Int32) (F : PF) (G : PG) : PR := if ((z1 + z0) &&& (3 : Int32)) = (0 : Int32) then cb_X0_branch_137 fu (z1 + z0) F G else cb_X0_branch_135 fu F G
def cb_X0_branch_117 (fu : Nat) (x1 : Int32) (F : PF) (G : PG) : PR := (cf_X0_offsetB fu x1 F G).bind (fun q => cb_X0_branch_125 fu q.1 (F 2) q.2.1 q.2.2)
def cb_X0_branch_115 (fu : Nat) (F : PF) (G : PG) : PR := some (0, F, G)
def cb_X0_branch_112 (fu : Nat) (x1 : Int32) (z0 : Int32) (z1 : Int32) (F : PF) (G : PG) : PR := if z1 = z0 then cb_X0_branch_115 fu F G else cb_X0_branch_117 fu x1 F G
def cb_X0_branch_111 (fu : Nat) (x1 : Int32) (z0 : Int32) (F : PF) (G : PG) : PR := cb_X0_branch_112 fu x1 0 z0 F G
def cb_X0_branch_107 (fu : Nat) (x1 : Int32) (z0 : Int32) (F : PF) (G : PG) : PR := cb_X0_branch_112 fu x1 1 z0 F G
def cb_X0_branch_98 (fu : Nat) (x1 : Int32) (x2 : Int32) (x5 : Int32) (F : PF) (G : PG) : PR := if (x2 &&& (1 : Int32)) = (1 : Int32) then cb_X0_branch_107 fu x1 x5 F G else cb_X0_branch_111 fu x1 x5 F G
def cb_X0_branch_96 (fu : Nat) (x1 : Int32) (x2 : Int32) (z0 : Int32) (F : PF) (G : PG) : PR := cb_X0_branch_98 fu x1 x2 z0 F G
def cb_X0_branch_90 (fu : Nat) (x1 : Int32) (x2 : Int32) (x3 : Int32) (x4 : Int32) (F : PF) (G : PG) : PR := (cf_X0_isBelow fu x3 x4 F G).bind (fun q => cb_X0_branch_96 fu x1 x2 q.1 q.2.1 q.2.2)
def cb_X0_branch_85 (fu : Nat) (x1 : Int32) (x2 : Int32) (z0 : Int32) (F : PF) (G : PG) : PR := cb_X0_branch_98 fu x1 x2 z0 F G
def cb_X0_branch_84 (fu : Nat) (x1 : Int32) (x2 : Int32) (F : PF) (G : PG) : PR := cb_X0_branch_85 fu x1 x2 0 F G
def cb_X0_branch_80 (fu : Nat) (x1 : Int32) (x2 : Int32) (F : PF) (G : PG) : PR := cb_X0_branch_85 fu x1 x2 1 F G
def cb_X0_branch_74 (fu : Nat) (x1 : Int32) (x2 : Int32) (x3 : Int32) (x4 : Int32) (F : PF) (G : PG) : PR := if x4 ≤ x3 then cb_X0_branch_84 fu x1 x2 F G else cb_X0_branch_80 fu x1 x2 F G
def cb_X0_branch_68 (fu : Nat) (x1 : Int32) (x2 : Int32) (x3 : Int32) (x4 : Int32) (F : PF) (G : PG) : PR := if (6 : Int32) ≤ x2 then cb_X0_branch_90 fu x1 x2 x3 x4 F G else cb_X0_branch_74 fu x1 x2 x3 x4 F G
def cb_X0_branch_63 (fu : Nat) (x1 : Int32) (x2 : Int32) (z0 : Int32) (F : PF) (G : PG) : PR := cb_X0_branch_98 fu x1 x2 z0 F G
def cb_X0_branch_62 (fu : Nat) (x1 : Int32) (x2 : Int32) (F : PF) (G : PG) : PR := cb_X0_branch_63 fu x1 x2 0 F G
def cb_X0_branch_58 (fu : Nat) (x1 : Int32) (x2 : Int32) (F : PF) (G : PG) : PR := cb_X0_branch_63 fu x1 x2 1 F G
def cb_X0_branch_52 (fu : Nat) (x1 : Int32) (x2 : Int32) (x3 : Int32) (x4 : Int32) (F : PF) (G : PG) : PR := if x3 = x4 then cb_X0_branch_58 fu x1 x2 F G else cb_X0_branch_62 fu x1 x2 F G
def cb_X0_branch_47 (fu : Nat) (x1 : Int32) (x2 : Int32) (x3 : Int32) (x4 : Int32) (F : PF) (G : PG) : PR := if (2 : Int32) ≤ x2 then cb_X0_branch_68 fu x1 x2 x3 x4 F G else cb_X0_branch_52 fu x1 x2 x3 x4 F G
def cb_X0_branch_40 (fu : Nat) (x1 : Int32) (x2 : Int32) (x3 : Int32) (x4 : Int32) (F : PF) (G : PG) : PR := if x2 = (3 : Int32) then cb_X0_branch_45 fu F G else cb_X0_branch_47 fu x1 x2 x3 x4 F G
def cb_X0_branch_0 (fu : Nat) (x1 : Int32) (F : PF) (G : PG) : PR := if ixb (((x1.toUInt32 >>> ((15 : Int32).toUInt32 &&& Int32.toUInt32 31)).toInt32) &&& (31 : Int32)) 32 = true then (if ixb (((x1.toUInt32 >>> ((20 : Int32).toUInt32 &&& Int32.toUInt32 31)).toInt32) &&& (31 : Int32)) 32 = true then (if (((x1.toUInt32 >>> ((12 : Int32).toUInt32 &&& Int32.toUInt32 31)).toInt32) &&& (7 : Int32)) = (2 : Int32) then cb_X0_branch_45 fu F G else cb_X0_branch_40 fu x1 (((x1.toUInt32 >>> ((12 : Int32).toUInt32 &&& Int32.toUInt32 31)).toInt32) &&& (7 : Int32)) (G 1 (((x1.toUInt32 >>> ((15 : Int32).toUInt32 &&& Int32.toUInt32 31)).toInt32) &&& (31 : Int32)).toNatClampNeg) (G 1 (((x1.toUInt32 >>> ((20 : Int32).toUInt32 &&& Int32.toUInt32 31)).toInt32) &&& (31 : Int32)).toNatClampNeg) F G) else none) else none
def cf_X0_branch (fu : Nat) (x1 : Int32) (F : PF) (G : PG) : PR := cb_X0_branch_0 fu x1 F G
theorem cn_X0_branch_45 (fu : Nat) {res : Int32 × PF × PG} (F : PF) (G : PG) (hm : cb_X0_branch_45 fu F G = some res) : xn F ≤ xn res.2.1 := by
  unfold cb_X0_branch_45 at hm
  obtain rfl := Option.some.inj hm
  exact Nat.le_refl _
theorem cw_X0_branch_45 (fu : Nat) {res : Int32 × PF × PG} (C : cMC p R s m args c A v RX0 cX0_branch 7 1 21 (xn res.2.1 - xn K0)) (hret : ∀ (b1 : Nat) (H1 : Heap) (locs1 : List Loc) (ls1 : Array Slot) (pc : Nat), cMW s A v a b1 K0 res.2.1 res.2.2 H1 locs1 → narrow .int (.int res.1) = .int res.1 → decode cX0_branch pc = .ok (.ireturn, 1) → W p l e R s m args below meth c H1 locs1 (xn res.2.1 - xn K0) (2 * (xn res.2.1 - xn K0)) Q (F0 m pc ls1 [.int res.1])) (F : PF) (G : PG) (hm : cb_X0_branch_45 fu F G = some res) {b : Nat} {H : Heap} {locs : List Loc} (hw : cMW s A v a b K0 F G H locs) {ls : Array Slot} (hl : lv_has ls 7 []) : W p l e R s m args below meth c H locs (xn F - xn K0) (2 * (xn F - xn K0)) Q (F0 m 45 ls []) := by
  have hx := C.1
  have hb := C.2.1
  unfold cb_X0_branch_45 at hm
  refine lv_iconst (v := 2) hx hb dX0_branch_45 (by decide) ?_
  obtain rfl := Option.some.inj hm
  exact hret _ _ _ _ _ hw rfl dX0_branch_46
theorem cn_X0_branch_143 (fu : Nat) {res : Int32 × PF × PG} (F : PF) (G : PG) (hm : cb_X0_branch_143 fu F G = some res) : xn F ≤ xn res.2.1 := by
  unfold cb_X0_branch_143 at hm
  obtain rfl := Option.some.inj hm
  exact Nat.le_refl _
theorem cw_X0_branch_143 (fu : Nat) {res : Int32 × PF × PG} (C : cMC p R s m args c A v RX0 cX0_branch 7 1 21 (xn res.2.1 - xn K0)) (hret : ∀ (b1 : Nat) (H1 : Heap) (locs1 : List Loc) (ls1 : Array Slot) (pc : Nat), cMW s A v a b1 K0 res.2.1 res.2.2 H1 locs1 → narrow .int (.int res.1) = .int res.1 → decode cX0_branch pc = .ok (.ireturn, 1) → W p l e R s m args below meth c H1 locs1 (xn res.2.1 - xn K0) (2 * (xn res.2.1 - xn K0)) Q (F0 m pc ls1 [.int res.1])) (F : PF) (G : PG) (hm : cb_X0_branch_143 fu F G = some res) {b : Nat} {H : Heap} {locs : List Loc} (hw : cMW s A v a b K0 F G H locs) {ls : Array Slot} (hl : lv_has ls 7 []) : W p l e R s m args below meth c H locs (xn F - xn K0) (2 * (xn F - xn K0)) Q (F0 m 143 ls []) := by
  have hx := C.1
  have hb := C.2.1
  unfold cb_X0_branch_143 at hm
  refine lv_iconst (v := 0) hx hb dX0_branch_143 (by decide) ?_
  obtain rfl := Option.some.inj hm
  exact hret _ _ _ _ _ hw rfl dX0_branch_144
theorem cn_X0_branch_137 (fu : Nat) {res : Int32 × PF × PG} (x6 : Int32) (F : PF) (G : PG) (hm : cb_X0_branch_137 fu x6 F G = some res) : xn F ≤ xn res.2.1 := by
  unfold cb_X0_branch_137 at hm
  exact Nat.le_trans (Nat.le_of_eq (xn_fup (by decide)).symm) (cn_X0_branch_143 fu (fup F 4 x6) G hm)
theorem cw_X0_branch_137 (fu : Nat) {res : Int32 × PF × PG} (C : cMC p R s m args c A v RX0 cX0_branch 7 1 21 (xn res.2.1 - xn K0)) (hret : ∀ (b1 : Nat) (H1 : Heap) (locs1 : List Loc) (ls1 : Array Slot) (pc : Nat), cMW s A v a b1 K0 res.2.1 res.2.2 H1 locs1 → narrow .int (.int res.1) = .int res.1 → decode cX0_branch pc = .ok (.ireturn, 1) → W p l e R s m args below meth c H1 locs1 (xn res.2.1 - xn K0) (2 * (xn res.2.1 - xn K0)) Q (F0 m pc ls1 [.int res.1])) (x6 : Int32) (F : PF) (G : PG) (hm : cb_X0_branch_137 fu x6 F G = some res) {b : Nat} {H : Heap} {locs : List Loc} (hw : cMW s A v a b K0 F G H locs) {ls : Array Slot} (hl : lv_has ls 7 [(0, .ref (a 200)), (6, .int x6)]) : W p l e R s m args below meth c H locs (xn F - xn K0) (2 * (xn F - xn K0)) Q (F0 m 137 ls []) := by
  have hx := C.1
  have hb := C.2.1
  unfold cb_X0_branch_137 at hm
  refine lv_aload_n hx hb dX0_branch_137 rfl (lv_at hl 0 rfl) ?_
  refine lv_iload hx hb dX0_branch_138 (lv_at hl 1 rfl) ?_
  refine cp_X0_33 C hw dX0_branch_140 (fun H locs hw => ?_)
  exact cw_X0_branch_143 fu C hret (fup F 4 x6) G hm hw (lv_sub hl [] rfl)
theorem cn_X0_branch_135 (fu : Nat) {res : Int32 × PF × PG} (F : PF) (G : PG) (hm : cb_X0_branch_135 fu F G = some res) : xn F ≤ xn res.2.1 := by
  unfold cb_X0_branch_135 at hm
  obtain rfl := Option.some.inj hm
  exact Nat.le_refl _
theorem cw_X0_branch_135 (fu : Nat) {res : Int32 × PF × PG} (C : cMC p R s m args c A v RX0 cX0_branch 7 1 21 (xn res.2.1 - xn K0)) (hret : ∀ (b1 : Nat) (H1 : Heap) (locs1 : List Loc) (ls1 : Array Slot) (pc : Nat), cMW s A v a b1 K0 res.2.1 res.2.2 H1 locs1 → narrow .int (.int res.1) = .int res.1 → decode cX0_branch pc = .ok (.ireturn, 1) → W p l e R s m args below meth c H1 locs1 (xn res.2.1 - xn K0) (2 * (xn res.2.1 - xn K0)) Q (F0 m pc ls1 [.int res.1])) (F : PF) (G : PG) (hm : cb_X0_branch_135 fu F G = some res) {b : Nat} {H : Heap} {locs : List Loc} (hw : cMW s A v a b K0 F G H locs) {ls : Array Slot} (hl : lv_has ls 7 []) : W p l e R s m args below meth c H locs (xn F - xn K0) (2 * (xn F - xn K0)) Q (F0 m 135 ls []) := by
  have hx := C.1
  have hb := C.2.1
  unfold cb_X0_branch_135 at hm
  refine lv_iconst (v := 3) hx hb dX0_branch_135 (by decide) ?_
  obtain rfl := Option.some.inj hm
  exact hret _ _ _ _ _ hw rfl dX0_branch_136
theorem cn_X0_branch_125 (fu : Nat) {res : Int32 × PF × PG} (z0 : Int32) (z1 : Int32) (F : PF) (G : PG) (hm : cb_X0_branch_125 fu z0 z1 F G = some res) : xn F ≤ xn res.2.1 := by
  unfold cb_X0_branch_125 at hm
  by_cases c_1 : ((z1 + z0) &&& (3 : Int32)) = (0 : Int32)
  · have hm := (if_pos c_1).symm.trans hm
    exact (cn_X0_branch_137 fu (z1 + z0) F G hm)
  · have hm := (if_neg c_1).symm.trans hm
    exact (cn_X0_branch_135 fu F G hm)
theorem cw_X0_branch_125 (fu : Nat) {res : Int32 × PF × PG} (C : cMC p R s m args c A v RX0 cX0_branch 7 1 21 (xn res.2.1 - xn K0)) (hret : ∀ (b1 : Nat) (H1 : Heap) (locs1 : List Loc) (ls1 : Array Slot) (pc : Nat), cMW s A v a b1 K0 res.2.1 res.2.2 H1 locs1 → narrow .int (.int res.1) = .int res.1 → decode cX0_branch pc = .ok (.ireturn, 1) → W p l e R s m args below meth c H1 locs1 (xn res.2.1 - xn K0) (2 * (xn res.2.1 - xn K0)) Q (F0 m pc ls1 [.int res.1])) (z0 : Int32) (z1 : Int32) (F : PF) (G : PG) (hm : cb_X0_branch_125 fu z0 z1 F G = some res) {b : Nat} {H : Heap} {locs : List Loc} (hw : cMW s A v a b K0 F G H locs) {ls : Array Slot} (hl : lv_has ls 7 [(0, .ref (a 200))]) : W p l e R s m args below meth c H locs (xn F - xn K0) (2 * (xn F - xn K0)) Q (F0 m 125 ls [.int z0, .int z1]) := by
  have hx := C.1
  have hb := C.2.1
  unfold cb_X0_branch_125 at hm
  refine lv_iadd hx hb dX0_branch_125 ?_
  refine lv_istore (lv' := [(6, .int (z1 + z0)), (0, .ref (a 200))]) hx hb dX0_branch_126 hl (by decide) rfl (fun ls hl => ?_)
  refine lv_iload hx hb dX0_branch_128 (lv_at hl 0 rfl) ?_
  refine lv_iconst (v := 3) hx hb dX0_branch_130 (by decide) ?_
  refine lv_iand hx hb dX0_branch_131 ?_
  refine lv_if_eq (tgt := 137) hx hb dX0_branch_132 (by decide) (fun c_1 => ?_) (fun c_1 => ?_)
  · have hm := (if_pos c_1).symm.trans hm
    exact cw_X0_branch_137 fu C hret (z1 + z0) F G hm hw (lv_sub hl [1, 0] rfl)
  · have hm := (if_neg c_1).symm.trans hm
    exact cw_X0_branch_135 fu C hret F G hm hw (lv_sub hl [] rfl)
theorem cn_X0_branch_117 (fu : Nat) {res : Int32 × PF × PG} (x1 : Int32) (F : PF) (G : PG) (hm : cb_X0_branch_117 fu x1 F G = some res) : xn F ≤ xn res.2.1 := by
  unfold cb_X0_branch_117 at hm
  obtain ⟨⟨r1, F1, G1⟩, hc, hm⟩ := bind_elim hm
  exact Nat.le_trans (cn_X0_offsetB fu x1 F G _ hc) (cn_X0_branch_125 fu r1 (F 2) F1 G1 hm)
theorem cw_X0_branch_117 (fu : Nat) {res : Int32 × PF × PG} (C : cMC p R s m args c A v RX0 cX0_branch 7 1 21 (xn res.2.1 - xn K0)) (hret : ∀ (b1 : Nat) (H1 : Heap) (locs1 : List Loc) (ls1 : Array Slot) (pc : Nat), cMW s A v a b1 K0 res.2.1 res.2.2 H1 locs1 → narrow .int (.int res.1) = .int res.1 → decode cX0_branch pc = .ok (.ireturn, 1) → W p l e R s m args below meth c H1 locs1 (xn res.2.1 - xn K0) (2 * (xn res.2.1 - xn K0)) Q (F0 m pc ls1 [.int res.1])) (x1 : Int32) (F : PF) (G : PG) (hm : cb_X0_branch_117 fu x1 F G = some res) {b : Nat} {H : Heap} {locs : List Loc} (hw : cMW s A v a b K0 F G H locs) {ls : Array Slot} (hl : lv_has ls 7 [(0, .ref (a 200)), (1, .int x1)]) : W p l e R s m args below meth c H locs (xn F - xn K0) (2 * (xn F - xn K0)) Q (F0 m 117 ls []) := by
  have hx := C.1
  have hb := C.2.1
  unfold cb_X0_branch_117 at hm
  refine lv_aload_n hx hb dX0_branch_117 rfl (lv_at hl 0 rfl) ?_
  refine cg_X0_18 C hw dX0_branch_118 ?_
  refine lv_iload_n hx hb dX0_branch_121 rfl (lv_at hl 1 rfl) ?_
  obtain ⟨⟨r1, F1, G1⟩, hc, hm⟩ := bind_elim hm
  refine ccallIS (n := 1) (As := [.int x1]) (rest := [.int (F 2)]) C hw (ck_X0_offsetB l v a _ _ fu x1 F G r1 F1 G1 hc) (cn_X0_offsetB fu x1 F G _ hc) (Nat.sub_le_sub_right (cn_X0_branch_125 fu r1 (F 2) F1 G1 hm) _) cm_984 cm_985 cm_938 cm_986 (by decide +kernel) rfl (by omega) (by omega) hl.1 rfl (Nat.le_of_ble_eq_true rfl) dX0_branch_122 (fun b H locs hw => ?_)
  exact cw_X0_branch_125 fu C hret r1 (F 2) F1 G1 hm hw (lv_sub hl [0] rfl)
theorem cn_X0_branch_115 (fu : Nat) {res : Int32 × PF × PG} (F : PF) (G : PG) (hm : cb_X0_branch_115 fu F G = some res) : xn F ≤ xn res.2.1 := by
  unfold cb_X0_branch_115 at hm
  obtain rfl := Option.some.inj hm
  exact Nat.le_refl _
theorem cw_X0_branch_115 (fu : Nat) {res : Int32 × PF × PG} (C : cMC p R s m args c A v RX0 cX0_branch 7 1 21 (xn res.2.1 - xn K0)) (hret : ∀ (b1 : Nat) (H1 : Heap) (locs1 : List Loc) (ls1 : Array Slot) (pc : Nat), cMW s A v a b1 K0 res.2.1 res.2.2 H1 locs1 → narrow .int (.int res.1) = .int res.1 → decode cX0_branch pc = .ok (.ireturn, 1) → W p l e R s m args below meth c H1 locs1 (xn res.2.1 - xn K0) (2 * (xn res.2.1 - xn K0)) Q (F0 m pc ls1 [.int res.1])) (F : PF) (G : PG) (hm : cb_X0_branch_115 fu F G = some res) {b : Nat} {H : Heap} {locs : List Loc} (hw : cMW s A v a b K0 F G H locs) {ls : Array Slot} (hl : lv_has ls 7 []) : W p l e R s m args below meth c H locs (xn F - xn K0) (2 * (xn F - xn K0)) Q (F0 m 115 ls []) := by
  have hx := C.1
  have hb := C.2.1
  unfold cb_X0_branch_115 at hm
  refine lv_iconst (v := 0) hx hb dX0_branch_115 (by decide) ?_
  obtain rfl := Option.some.inj hm
  exact hret _ _ _ _ _ hw rfl dX0_branch_116
theorem cn_X0_branch_112 (fu : Nat) {res : Int32 × PF × PG} (x1 : Int32) (z0 : Int32) (z1 : Int32) (F : PF) (G : PG) (hm : cb_X0_branch_112 fu x1 z0 z1 F G = some res) : xn F ≤ xn res.2.1 := by
  unfold cb_X0_branch_112 at hm
  by_cases c_1 : z1 = z0
  · have hm := (if_pos c_1).symm.trans hm
    exact (cn_X0_branch_115 fu F G hm)
  · have hm := (if_neg c_1).symm.trans hm
    exact (cn_X0_branch_117 fu x1 F G hm)
theorem cw_X0_branch_112 (fu : Nat) {res : Int32 × PF × PG} (C : cMC p R s m args c A v RX0 cX0_branch 7 1 21 (xn res.2.1 - xn K0)) (hret : ∀ (b1 : Nat) (H1 : Heap) (locs1 : List Loc) (ls1 : Array Slot) (pc : Nat), cMW s A v a b1 K0 res.2.1 res.2.2 H1 locs1 → narrow .int (.int res.1) = .int res.1 → decode cX0_branch pc = .ok (.ireturn, 1) → W p l e R s m args below meth c H1 locs1 (xn res.2.1 - xn K0) (2 * (xn res.2.1 - xn K0)) Q (F0 m pc ls1 [.int res.1])) (x1 : Int32) (z0 : Int32) (z1 : Int32) (F : PF) (G : PG) (hm : cb_X0_branch_112 fu x1 z0 z1 F G = some res) {b : Nat} {H : Heap} {locs : List Loc} (hw : cMW s A v a b K0 F G H locs) {ls : Array Slot} (hl : lv_has ls 7 [(0, .ref (a 200)), (1, .int x1)]) : W p l e R s m args below meth c H locs (xn F - xn K0) (2 * (xn F - xn K0)) Q (F0 m 112 ls [.int z0, .int z1]) := by
  have hx := C.1
  have hb := C.2.1
  unfold cb_X0_branch_112 at hm
  refine lv_icmp_ne (tgt := 117) hx hb dX0_branch_112 (by decide) (fun c_1 => ?_) (fun c_1 => ?_)
  · have hm := (if_neg c_1).symm.trans hm
    exact cw_X0_branch_117 fu C hret x1 F G hm hw (lv_sub hl [0, 1] rfl)
  · have hm := (if_pos c_1).symm.trans hm
    exact cw_X0_branch_115 fu C hret F G hm hw (lv_sub hl [] rfl)
theorem cn_X0_branch_111 (fu : Nat) {res : Int32 × PF × PG} (x1 : Int32) (z0 : Int32) (F : PF) (G : PG) (hm : cb_X0_branch_111 fu x1 z0 F G = some res) : xn F ≤ xn res.2.1 := by
  unfold cb_X0_branch_111 at hm
  exact (cn_X0_branch_112 fu x1 0 z0 F G hm)
theorem cw_X0_branch_111 (fu : Nat) {res : Int32 × PF × PG} (C : cMC p R s m args c A v RX0 cX0_branch 7 1 21 (xn res.2.1 - xn K0)) (hret : ∀ (b1 : Nat) (H1 : Heap) (locs1 : List Loc) (ls1 : Array Slot) (pc : Nat), cMW s A v a b1 K0 res.2.1 res.2.2 H1 locs1 → narrow .int (.int res.1) = .int res.1 → decode cX0_branch pc = .ok (.ireturn, 1) → W p l e R s m args below meth c H1 locs1 (xn res.2.1 - xn K0) (2 * (xn res.2.1 - xn K0)) Q (F0 m pc ls1 [.int res.1])) (x1 : Int32) (z0 : Int32) (F : PF) (G : PG) (hm : cb_X0_branch_111 fu x1 z0 F G = some res) {b : Nat} {H : Heap} {locs : List Loc} (hw : cMW s A v a b K0 F G H locs) {ls : Array Slot} (hl : lv_has ls 7 [(0, .ref (a 200)), (1, .int x1)]) : W p l e R s m args below meth c H locs (xn F - xn K0) (2 * (xn F - xn K0)) Q (F0 m 111 ls [.int z0]) := by
  have hx := C.1
  have hb := C.2.1
  unfold cb_X0_branch_111 at hm
  refine lv_iconst (v := 0) hx hb dX0_branch_111 (by decide) ?_
  exact cw_X0_branch_112 fu C hret x1 0 z0 F G hm hw (lv_sub hl [0, 1] rfl)
theorem cn_X0_branch_107 (fu : Nat) {res : Int32 × PF × PG} (x1 : Int32) (z0 : Int32) (F : PF) (G : PG) (hm : cb_X0_branch_107 fu x1 z0 F G = some res) : xn F ≤ xn res.2.1 := by
  unfold cb_X0_branch_107 at hm
  exact (cn_X0_branch_112 fu x1 1 z0 F G hm)
theorem cw_X0_branch_107 (fu : Nat) {res : Int32 × PF × PG} (C : cMC p R s m args c A v RX0 cX0_branch 7 1 21 (xn res.2.1 - xn K0)) (hret : ∀ (b1 : Nat) (H1 : Heap) (locs1 : List Loc) (ls1 : Array Slot) (pc : Nat), cMW s A v a b1 K0 res.2.1 res.2.2 H1 locs1 → narrow .int (.int res.1) = .int res.1 → decode cX0_branch pc = .ok (.ireturn, 1) → W p l e R s m args below meth c H1 locs1 (xn res.2.1 - xn K0) (2 * (xn res.2.1 - xn K0)) Q (F0 m pc ls1 [.int res.1])) (x1 : Int32) (z0 : Int32) (F : PF) (G : PG) (hm : cb_X0_branch_107 fu x1 z0 F G = some res) {b : Nat} {H : Heap} {locs : List Loc} (hw : cMW s A v a b K0 F G H locs) {ls : Array Slot} (hl : lv_has ls 7 [(0, .ref (a 200)), (1, .int x1)]) : W p l e R s m args below meth c H locs (xn F - xn K0) (2 * (xn F - xn K0)) Q (F0 m 107 ls [.int z0]) := by
  have hx := C.1
  have hb := C.2.1
  unfold cb_X0_branch_107 at hm
  refine lv_iconst (v := 1) hx hb dX0_branch_107 (by decide) ?_
  refine lv_goto (tgt := 112) hx hb dX0_branch_108 (by decide) ?_
  exact cw_X0_branch_112 fu C hret x1 1 z0 F G hm hw (lv_sub hl [0, 1] rfl)
theorem cn_X0_branch_98 (fu : Nat) {res : Int32 × PF × PG} (x1 : Int32) (x2 : Int32) (x5 : Int32) (F : PF) (G : PG) (hm : cb_X0_branch_98 fu x1 x2 x5 F G = some res) : xn F ≤ xn res.2.1 := by
  unfold cb_X0_branch_98 at hm
  by_cases c_1 : (x2 &&& (1 : Int32)) = (1 : Int32)
  · have hm := (if_pos c_1).symm.trans hm
    exact (cn_X0_branch_107 fu x1 x5 F G hm)
  · have hm := (if_neg c_1).symm.trans hm
    exact (cn_X0_branch_111 fu x1 x5 F G hm)
theorem cw_X0_branch_98 (fu : Nat) {res : Int32 × PF × PG} (C : cMC p R s m args c A v RX0 cX0_branch 7 1 21 (xn res.2.1 - xn K0)) (hret : ∀ (b1 : Nat) (H1 : Heap) (locs1 : List Loc) (ls1 : Array Slot) (pc : Nat), cMW s A v a b1 K0 res.2.1 res.2.2 H1 locs1 → narrow .int (.int res.1) = .int res.1 → decode cX0_branch pc = .ok (.ireturn, 1) → W p l e R s m args below meth c H1 locs1 (xn res.2.1 - xn K0) (2 * (xn res.2.1 - xn K0)) Q (F0 m pc ls1 [.int res.1])) (x1 : Int32) (x2 : Int32) (x5 : Int32) (F : PF) (G : PG) (hm : cb_X0_branch_98 fu x1 x2 x5 F G = some res) {b : Nat} {H : Heap} {locs : List Loc} (hw : cMW s A v a b K0 F G H locs) {ls : Array Slot} (hl : lv_has ls 7 [(0, .ref (a 200)), (1, .int x1), (2, .int x2), (5, .int x5)]) : W p l e R s m args below meth c H locs (xn F - xn K0) (2 * (xn F - xn K0)) Q (F0 m 98 ls []) := by
  have hx := C.1
  have hb := C.2.1
  unfold cb_X0_branch_98 at hm
  refine lv_iload hx hb dX0_branch_98 (lv_at hl 3 rfl) ?_
  refine lv_iload_n hx hb dX0_branch_100 rfl (lv_at hl 2 rfl) ?_
  refine lv_iconst (v := 1) hx hb dX0_branch_101 (by decide) ?_
  refine lv_iand hx hb dX0_branch_102 ?_
  refine lv_iconst (v := 1) hx hb dX0_branch_103 (by decide) ?_
  refine lv_icmp_ne (tgt := 111) hx hb dX0_branch_104 (by decide) (fun c_1 => ?_) (fun c_1 => ?_)
  · have hm := (if_neg c_1).symm.trans hm
    exact cw_X0_branch_111 fu C hret x1 x5 F G hm hw (lv_sub hl [0, 1] rfl)
  · have hm := (if_pos c_1).symm.trans hm
    exact cw_X0_branch_107 fu C hret x1 x5 F G hm hw (lv_sub hl [0, 1] rfl)
theorem cn_X0_branch_96 (fu : Nat) {res : Int32 × PF × PG} (x1 : Int32) (x2 : Int32) (z0 : Int32) (F : PF) (G : PG) (hm : cb_X0_branch_96 fu x1 x2 z0 F G = some res) : xn F ≤ xn res.2.1 := by
  unfold cb_X0_branch_96 at hm
  exact (cn_X0_branch_98 fu x1 x2 z0 F G hm)
theorem cw_X0_branch_96 (fu : Nat) {res : Int32 × PF × PG} (C : cMC p R s m args c A v RX0 cX0_branch 7 1 21 (xn res.2.1 - xn K0)) (hret : ∀ (b1 : Nat) (H1 : Heap) (locs1 : List Loc) (ls1 : Array Slot) (pc : Nat), cMW s A v a b1 K0 res.2.1 res.2.2 H1 locs1 → narrow .int (.int res.1) = .int res.1 → decode cX0_branch pc = .ok (.ireturn, 1) → W p l e R s m args below meth c H1 locs1 (xn res.2.1 - xn K0) (2 * (xn res.2.1 - xn K0)) Q (F0 m pc ls1 [.int res.1])) (x1 : Int32) (x2 : Int32) (z0 : Int32) (F : PF) (G : PG) (hm : cb_X0_branch_96 fu x1 x2 z0 F G = some res) {b : Nat} {H : Heap} {locs : List Loc} (hw : cMW s A v a b K0 F G H locs) {ls : Array Slot} (hl : lv_has ls 7 [(0, .ref (a 200)), (1, .int x1), (2, .int x2)]) : W p l e R s m args below meth c H locs (xn F - xn K0) (2 * (xn F - xn K0)) Q (F0 m 96 ls [.int z0]) := by
  have hx := C.1
  have hb := C.2.1
  unfold cb_X0_branch_96 at hm
  refine lv_istore (lv' := [(5, .int z0), (0, .ref (a 200)), (1, .int x1), (2, .int x2)]) hx hb dX0_branch_96 hl (by decide) rfl (fun ls hl => ?_)
  exact cw_X0_branch_98 fu C hret x1 x2 z0 F G hm hw (lv_sub hl [1, 2, 3, 0] rfl)
theorem cn_X0_branch_90 (fu : Nat) {res : Int32 × PF × PG} (x1 : Int32) (x2 : Int32) (x3 : Int32) (x4 : Int32) (F : PF) (G : PG) (hm : cb_X0_branch_90 fu x1 x2 x3 x4 F G = some res) : xn F ≤ xn res.2.1 := by
  unfold cb_X0_branch_90 at hm
  obtain ⟨⟨r1, F1, G1⟩, hc, hm⟩ := bind_elim hm
  exact Nat.le_trans (cn_X0_isBelow fu x3 x4 F G _ hc) (cn_X0_branch_96 fu x1 x2 r1 F1 G1 hm)
theorem cw_X0_branch_90 (fu : Nat) {res : Int32 × PF × PG} (C : cMC p R s m args c A v RX0 cX0_branch 7 1 21 (xn res.2.1 - xn K0)) (hret : ∀ (b1 : Nat) (H1 : Heap) (locs1 : List Loc) (ls1 : Array Slot) (pc : Nat), cMW s A v a b1 K0 res.2.1 res.2.2 H1 locs1 → narrow .int (.int res.1) = .int res.1 → decode cX0_branch pc = .ok (.ireturn, 1) → W p l e R s m args below meth c H1 locs1 (xn res.2.1 - xn K0) (2 * (xn res.2.1 - xn K0)) Q (F0 m pc ls1 [.int res.1])) (x1 : Int32) (x2 : Int32) (x3 : Int32) (x4 : Int32) (F : PF) (G : PG) (hm : cb_X0_branch_90 fu x1 x2 x3 x4 F G = some res) {b : Nat} {H : Heap} {locs : List Loc} (hw : cMW s A v a b K0 F G H locs) {ls : Array Slot} (hl : lv_has ls 7 [(0, .ref (a 200)), (1, .int x1), (2, .int x2), (3, .int x3), (4, .int x4)]) : W p l e R s m args below meth c H locs (xn F - xn K0) (2 * (xn F - xn K0)) Q (F0 m 90 ls []) := by
  have hx := C.1
  have hb := C.2.1
  unfold cb_X0_branch_90 at hm
  refine lv_iload_n hx hb dX0_branch_90 rfl (lv_at hl 3 rfl) ?_
  refine lv_iload hx hb dX0_branch_91 (lv_at hl 4 rfl) ?_
  obtain ⟨⟨r1, F1, G1⟩, hc, hm⟩ := bind_elim hm
  refine ccallIS (n := 2) (As := [.int x3, .int x4]) (rest := []) C hw (ck_X0_isBelow l v a _ _ fu x3 x4 F G r1 F1 G1 hc) (cn_X0_isBelow fu x3 x4 F G _ hc) (Nat.sub_le_sub_right (cn_X0_branch_96 fu x1 x2 r1 F1 G1 hm) _) cm_980 cm_981 cm_938 cm_982 (by decide +kernel) rfl (by omega) (by omega) hl.1 rfl (Nat.le_of_ble_eq_true rfl) dX0_branch_93 (fun b H locs hw => ?_)
  exact cw_X0_branch_96 fu C hret x1 x2 r1 F1 G1 hm hw (lv_sub hl [0, 1, 2] rfl)
theorem cn_X0_branch_85 (fu : Nat) {res : Int32 × PF × PG} (x1 : Int32) (x2 : Int32) (z0 : Int32) (F : PF) (G : PG) (hm : cb_X0_branch_85 fu x1 x2 z0 F G = some res) : xn F ≤ xn res.2.1 := by
  unfold cb_X0_branch_85 at hm
  exact (cn_X0_branch_98 fu x1 x2 z0 F G hm)
theorem cw_X0_branch_85 (fu : Nat) {res : Int32 × PF × PG} (C : cMC p R s m args c A v RX0 cX0_branch 7 1 21 (xn res.2.1 - xn K0)) (hret : ∀ (b1 : Nat) (H1 : Heap) (locs1 : List Loc) (ls1 : Array Slot) (pc : Nat), cMW s A v a b1 K0 res.2.1 res.2.2 H1 locs1 → narrow .int (.int res.1) = .int res.1 → decode cX0_branch pc = .ok (.ireturn, 1) → W p l e R s m args below meth c H1 locs1 (xn res.2.1 - xn K0) (2 * (xn res.2.1 - xn K0)) Q (F0 m pc ls1 [.int res.1])) (x1 : Int32) (x2 : Int32) (z0 : Int32) (F : PF) (G : PG) (hm : cb_X0_branch_85 fu x1 x2 z0 F G = some res) {b : Nat} {H : Heap} {locs : List Loc} (hw : cMW s A v a b K0 F G H locs) {ls : Array Slot} (hl : lv_has ls 7 [(0, .ref (a 200)), (1, .int x1), (2, .int x2)]) : W p l e R s m args below meth c H locs (xn F - xn K0) (2 * (xn F - xn K0)) Q (F0 m 85 ls [.int z0]) := by
  have hx := C.1
  have hb := C.2.1
  unfold cb_X0_branch_85 at hm
  refine lv_istore (lv' := [(5, .int z0), (0, .ref (a 200)), (1, .int x1), (2, .int x2)]) hx hb dX0_branch_85 hl (by decide) rfl (fun ls hl => ?_)
  refine lv_goto (tgt := 98) hx hb dX0_branch_87 (by decide) ?_
  exact cw_X0_branch_98 fu C hret x1 x2 z0 F G hm hw (lv_sub hl [1, 2, 3, 0] rfl)
theorem cn_X0_branch_84 (fu : Nat) {res : Int32 × PF × PG} (x1 : Int32) (x2 : Int32) (F : PF) (G : PG) (hm : cb_X0_branch_84 fu x1 x2 F G = some res) : xn F ≤ xn res.2.1 := by
  unfold cb_X0_branch_84 at hm
  exact (cn_X0_branch_85 fu x1 x2 0 F G hm)
theorem cw_X0_branch_84 (fu : Nat) {res : Int32 × PF × PG} (C : cMC p R s m args c A v RX0 cX0_branch 7 1 21 (xn res.2.1 - xn K0)) (hret : ∀ (b1 : Nat) (H1 : Heap) (locs1 : List Loc) (ls1 : Array Slot) (pc : Nat), cMW s A v a b1 K0 res.2.1 res.2.2 H1 locs1 → narrow .int (.int res.1) = .int res.1 → decode cX0_branch pc = .ok (.ireturn, 1) → W p l e R s m args below meth c H1 locs1 (xn res.2.1 - xn K0) (2 * (xn res.2.1 - xn K0)) Q (F0 m pc ls1 [.int res.1])) (x1 : Int32) (x2 : Int32) (F : PF) (G : PG) (hm : cb_X0_branch_84 fu x1 x2 F G = some res) {b : Nat} {H : Heap} {locs : List Loc} (hw : cMW s A v a b K0 F G H locs) {ls : Array Slot} (hl : lv_has ls 7 [(0, .ref (a 200)), (1, .int x1), (2, .int x2)]) : W p l e R s m args below meth c H locs (xn F - xn K0) (2 * (xn F - xn K0)) Q (F0 m 84 ls []) := by
  have hx := C.1
  have hb := C.2.1
  unfold cb_X0_branch_84 at hm
  refine lv_iconst (v := 0) hx hb dX0_branch_84 (by decide) ?_
  exact cw_X0_branch_85 fu C hret x1 x2 0 F G hm hw (lv_sub hl [0, 1, 2] rfl)
theorem cn_X0_branch_80 (fu : Nat) {res : Int32 × PF × PG} (x1 : Int32) (x2 : Int32) (F : PF) (G : PG) (hm : cb_X0_branch_80 fu x1 x2 F G = some res) : xn F ≤ xn res.2.1 := by
  unfold cb_X0_branch_80 at hm
  exact (cn_X0_branch_85 fu x1 x2 1 F G hm)
theorem cw_X0_branch_80 (fu : Nat) {res : Int32 × PF × PG} (C : cMC p R s m args c A v RX0 cX0_branch 7 1 21 (xn res.2.1 - xn K0)) (hret : ∀ (b1 : Nat) (H1 : Heap) (locs1 : List Loc) (ls1 : Array Slot) (pc : Nat), cMW s A v a b1 K0 res.2.1 res.2.2 H1 locs1 → narrow .int (.int res.1) = .int res.1 → decode cX0_branch pc = .ok (.ireturn, 1) → W p l e R s m args below meth c H1 locs1 (xn res.2.1 - xn K0) (2 * (xn res.2.1 - xn K0)) Q (F0 m pc ls1 [.int res.1])) (x1 : Int32) (x2 : Int32) (F : PF) (G : PG) (hm : cb_X0_branch_80 fu x1 x2 F G = some res) {b : Nat} {H : Heap} {locs : List Loc} (hw : cMW s A v a b K0 F G H locs) {ls : Array Slot} (hl : lv_has ls 7 [(0, .ref (a 200)), (1, .int x1), (2, .int x2)]) : W p l e R s m args below meth c H locs (xn F - xn K0) (2 * (xn F - xn K0)) Q (F0 m 80 ls []) := by
  have hx := C.1
  have hb := C.2.1
  unfold cb_X0_branch_80 at hm
  refine lv_iconst (v := 1) hx hb dX0_branch_80 (by decide) ?_
  refine lv_goto (tgt := 85) hx hb dX0_branch_81 (by decide) ?_
  exact cw_X0_branch_85 fu C hret x1 x2 1 F G hm hw (lv_sub hl [0, 1, 2] rfl)
theorem cn_X0_branch_74 (fu : Nat) {res : Int32 × PF × PG} (x1 : Int32) (x2 : Int32) (x3 : Int32) (x4 : Int32) (F : PF) (G : PG) (hm : cb_X0_branch_74 fu x1 x2 x3 x4 F G = some res) : xn F ≤ xn res.2.1 := by
  unfold cb_X0_branch_74 at hm
  by_cases c_1 : x4 ≤ x3
  · have hm := (if_pos c_1).symm.trans hm
    exact (cn_X0_branch_84 fu x1 x2 F G hm)
  · have hm := (if_neg c_1).symm.trans hm
    exact (cn_X0_branch_80 fu x1 x2 F G hm)
theorem cw_X0_branch_74 (fu : Nat) {res : Int32 × PF × PG} (C : cMC p R s m args c A v RX0 cX0_branch 7 1 21 (xn res.2.1 - xn K0)) (hret : ∀ (b1 : Nat) (H1 : Heap) (locs1 : List Loc) (ls1 : Array Slot) (pc : Nat), cMW s A v a b1 K0 res.2.1 res.2.2 H1 locs1 → narrow .int (.int res.1) = .int res.1 → decode cX0_branch pc = .ok (.ireturn, 1) → W p l e R s m args below meth c H1 locs1 (xn res.2.1 - xn K0) (2 * (xn res.2.1 - xn K0)) Q (F0 m pc ls1 [.int res.1])) (x1 : Int32) (x2 : Int32) (x3 : Int32) (x4 : Int32) (F : PF) (G : PG) (hm : cb_X0_branch_74 fu x1 x2 x3 x4 F G = some res) {b : Nat} {H : Heap} {locs : List Loc} (hw : cMW s A v a b K0 F G H locs) {ls : Array Slot} (hl : lv_has ls 7 [(0, .ref (a 200)), (1, .int x1), (2, .int x2), (3, .int x3), (4, .int x4)]) : W p l e R s m args below meth c H locs (xn F - xn K0) (2 * (xn F - xn K0)) Q (F0 m 74 ls []) := by
  have hx := C.1
  have hb := C.2.1
  unfold cb_X0_branch_74 at hm
  refine lv_iload_n hx hb dX0_branch_74 rfl (lv_at hl 3 rfl) ?_
  refine lv_iload hx hb dX0_branch_75 (lv_at hl 4 rfl) ?_
  refine lv_icmp_ge (tgt := 84) hx hb dX0_branch_77 (by decide) (fun c_1 => ?_) (fun c_1 => ?_)
  · have hm := (if_pos c_1).symm.trans hm
    exact cw_X0_branch_84 fu C hret x1 x2 F G hm hw (lv_sub hl [0, 1, 2] rfl)
  · have hm := (if_neg c_1).symm.trans hm
    exact cw_X0_branch_80 fu C hret x1 x2 F G hm hw (lv_sub hl [0, 1, 2] rfl)
theorem cn_X0_branch_68 (fu : Nat) {res : Int32 × PF × PG} (x1 : Int32) (x2 : Int32) (x3 : Int32) (x4 : Int32) (F : PF) (G : PG) (hm : cb_X0_branch_68 fu x1 x2 x3 x4 F G = some res) : xn F ≤ xn res.2.1 := by
  unfold cb_X0_branch_68 at hm
  by_cases c_1 : (6 : Int32) ≤ x2
  · have hm := (if_pos c_1).symm.trans hm
    exact (cn_X0_branch_90 fu x1 x2 x3 x4 F G hm)
  · have hm := (if_neg c_1).symm.trans hm
    exact (cn_X0_branch_74 fu x1 x2 x3 x4 F G hm)
theorem cw_X0_branch_68 (fu : Nat) {res : Int32 × PF × PG} (C : cMC p R s m args c A v RX0 cX0_branch 7 1 21 (xn res.2.1 - xn K0)) (hret : ∀ (b1 : Nat) (H1 : Heap) (locs1 : List Loc) (ls1 : Array Slot) (pc : Nat), cMW s A v a b1 K0 res.2.1 res.2.2 H1 locs1 → narrow .int (.int res.1) = .int res.1 → decode cX0_branch pc = .ok (.ireturn, 1) → W p l e R s m args below meth c H1 locs1 (xn res.2.1 - xn K0) (2 * (xn res.2.1 - xn K0)) Q (F0 m pc ls1 [.int res.1])) (x1 : Int32) (x2 : Int32) (x3 : Int32) (x4 : Int32) (F : PF) (G : PG) (hm : cb_X0_branch_68 fu x1 x2 x3 x4 F G = some res) {b : Nat} {H : Heap} {locs : List Loc} (hw : cMW s A v a b K0 F G H locs) {ls : Array Slot} (hl : lv_has ls 7 [(0, .ref (a 200)), (1, .int x1), (2, .int x2), (3, .int x3), (4, .int x4)]) : W p l e R s m args below meth c H locs (xn F - xn K0) (2 * (xn F - xn K0)) Q (F0 m 68 ls []) := by
  have hx := C.1
  have hb := C.2.1
  unfold cb_X0_branch_68 at hm
  refine lv_iload_n hx hb dX0_branch_68 rfl (lv_at hl 2 rfl) ?_
  refine lv_bipush (v := 6) hx hb dX0_branch_69 (by decide) ?_
  refine lv_icmp_ge (tgt := 90) hx hb dX0_branch_71 (by decide) (fun c_1 => ?_) (fun c_1 => ?_)
  · have hm := (if_pos c_1).symm.trans hm
    exact cw_X0_branch_90 fu C hret x1 x2 x3 x4 F G hm hw (lv_sub hl [0, 1, 2, 3, 4] rfl)
  · have hm := (if_neg c_1).symm.trans hm
    exact cw_X0_branch_74 fu C hret x1 x2 x3 x4 F G hm hw (lv_sub hl [0, 1, 2, 3, 4] rfl)
theorem cn_X0_branch_63 (fu : Nat) {res : Int32 × PF × PG} (x1 : Int32) (x2 : Int32) (z0 : Int32) (F : PF) (G : PG) (hm : cb_X0_branch_63 fu x1 x2 z0 F G = some res) : xn F ≤ xn res.2.1 := by
  unfold cb_X0_branch_63 at hm
  exact (cn_X0_branch_98 fu x1 x2 z0 F G hm)
theorem cw_X0_branch_63 (fu : Nat) {res : Int32 × PF × PG} (C : cMC p R s m args c A v RX0 cX0_branch 7 1 21 (xn res.2.1 - xn K0)) (hret : ∀ (b1 : Nat) (H1 : Heap) (locs1 : List Loc) (ls1 : Array Slot) (pc : Nat), cMW s A v a b1 K0 res.2.1 res.2.2 H1 locs1 → narrow .int (.int res.1) = .int res.1 → decode cX0_branch pc = .ok (.ireturn, 1) → W p l e R s m args below meth c H1 locs1 (xn res.2.1 - xn K0) (2 * (xn res.2.1 - xn K0)) Q (F0 m pc ls1 [.int res.1])) (x1 : Int32) (x2 : Int32) (z0 : Int32) (F : PF) (G : PG) (hm : cb_X0_branch_63 fu x1 x2 z0 F G = some res) {b : Nat} {H : Heap} {locs : List Loc} (hw : cMW s A v a b K0 F G H locs) {ls : Array Slot} (hl : lv_has ls 7 [(0, .ref (a 200)), (1, .int x1), (2, .int x2)]) : W p l e R s m args below meth c H locs (xn F - xn K0) (2 * (xn F - xn K0)) Q (F0 m 63 ls [.int z0]) := by
  have hx := C.1
  have hb := C.2.1
  unfold cb_X0_branch_63 at hm
  refine lv_istore (lv' := [(5, .int z0), (0, .ref (a 200)), (1, .int x1), (2, .int x2)]) hx hb dX0_branch_63 hl (by decide) rfl (fun ls hl => ?_)
  refine lv_goto (tgt := 98) hx hb dX0_branch_65 (by decide) ?_
  exact cw_X0_branch_98 fu C hret x1 x2 z0 F G hm hw (lv_sub hl [1, 2, 3, 0] rfl)
theorem cn_X0_branch_62 (fu : Nat) {res : Int32 × PF × PG} (x1 : Int32) (x2 : Int32) (F : PF) (G : PG) (hm : cb_X0_branch_62 fu x1 x2 F G = some res) : xn F ≤ xn res.2.1 := by
  unfold cb_X0_branch_62 at hm
  exact (cn_X0_branch_63 fu x1 x2 0 F G hm)
theorem cw_X0_branch_62 (fu : Nat) {res : Int32 × PF × PG} (C : cMC p R s m args c A v RX0 cX0_branch 7 1 21 (xn res.2.1 - xn K0)) (hret : ∀ (b1 : Nat) (H1 : Heap) (locs1 : List Loc) (ls1 : Array Slot) (pc : Nat), cMW s A v a b1 K0 res.2.1 res.2.2 H1 locs1 → narrow .int (.int res.1) = .int res.1 → decode cX0_branch pc = .ok (.ireturn, 1) → W p l e R s m args below meth c H1 locs1 (xn res.2.1 - xn K0) (2 * (xn res.2.1 - xn K0)) Q (F0 m pc ls1 [.int res.1])) (x1 : Int32) (x2 : Int32) (F : PF) (G : PG) (hm : cb_X0_branch_62 fu x1 x2 F G = some res) {b : Nat} {H : Heap} {locs : List Loc} (hw : cMW s A v a b K0 F G H locs) {ls : Array Slot} (hl : lv_has ls 7 [(0, .ref (a 200)), (1, .int x1), (2, .int x2)]) : W p l e R s m args below meth c H locs (xn F - xn K0) (2 * (xn F - xn K0)) Q (F0 m 62 ls []) := by
  have hx := C.1
  have hb := C.2.1
  unfold cb_X0_branch_62 at hm
  refine lv_iconst (v := 0) hx hb dX0_branch_62 (by decide) ?_
  exact cw_X0_branch_63 fu C hret x1 x2 0 F G hm hw (lv_sub hl [0, 1, 2] rfl)
theorem cn_X0_branch_58 (fu : Nat) {res : Int32 × PF × PG} (x1 : Int32) (x2 : Int32) (F : PF) (G : PG) (hm : cb_X0_branch_58 fu x1 x2 F G = some res) : xn F ≤ xn res.2.1 := by
  unfold cb_X0_branch_58 at hm
  exact (cn_X0_branch_63 fu x1 x2 1 F G hm)
theorem cw_X0_branch_58 (fu : Nat) {res : Int32 × PF × PG} (C : cMC p R s m args c A v RX0 cX0_branch 7 1 21 (xn res.2.1 - xn K0)) (hret : ∀ (b1 : Nat) (H1 : Heap) (locs1 : List Loc) (ls1 : Array Slot) (pc : Nat), cMW s A v a b1 K0 res.2.1 res.2.2 H1 locs1 → narrow .int (.int res.1) = .int res.1 → decode cX0_branch pc = .ok (.ireturn, 1) → W p l e R s m args below meth c H1 locs1 (xn res.2.1 - xn K0) (2 * (xn res.2.1 - xn K0)) Q (F0 m pc ls1 [.int res.1])) (x1 : Int32) (x2 : Int32) (F : PF) (G : PG) (hm : cb_X0_branch_58 fu x1 x2 F G = some res) {b : Nat} {H : Heap} {locs : List Loc} (hw : cMW s A v a b K0 F G H locs) {ls : Array Slot} (hl : lv_has ls 7 [(0, .ref (a 200)), (1, .int x1), (2, .int x2)]) : W p l e R s m args below meth c H locs (xn F - xn K0) (2 * (xn F - xn K0)) Q (F0 m 58 ls []) := by
  have hx := C.1
  have hb := C.2.1
  unfold cb_X0_branch_58 at hm
  refine lv_iconst (v := 1) hx hb dX0_branch_58 (by decide) ?_
  refine lv_goto (tgt := 63) hx hb dX0_branch_59 (by decide) ?_
  exact cw_X0_branch_63 fu C hret x1 x2 1 F G hm hw (lv_sub hl [0, 1, 2] rfl)
theorem cn_X0_branch_52 (fu : Nat) {res : Int32 × PF × PG} (x1 : Int32) (x2 : Int32) (x3 : Int32) (x4 : Int32) (F : PF) (G : PG) (hm : cb_X0_branch_52 fu x1 x2 x3 x4 F G = some res) : xn F ≤ xn res.2.1 := by
  unfold cb_X0_branch_52 at hm
  by_cases c_1 : x3 = x4
  · have hm := (if_pos c_1).symm.trans hm
    exact (cn_X0_branch_58 fu x1 x2 F G hm)
  · have hm := (if_neg c_1).symm.trans hm
    exact (cn_X0_branch_62 fu x1 x2 F G hm)
theorem cw_X0_branch_52 (fu : Nat) {res : Int32 × PF × PG} (C : cMC p R s m args c A v RX0 cX0_branch 7 1 21 (xn res.2.1 - xn K0)) (hret : ∀ (b1 : Nat) (H1 : Heap) (locs1 : List Loc) (ls1 : Array Slot) (pc : Nat), cMW s A v a b1 K0 res.2.1 res.2.2 H1 locs1 → narrow .int (.int res.1) = .int res.1 → decode cX0_branch pc = .ok (.ireturn, 1) → W p l e R s m args below meth c H1 locs1 (xn res.2.1 - xn K0) (2 * (xn res.2.1 - xn K0)) Q (F0 m pc ls1 [.int res.1])) (x1 : Int32) (x2 : Int32) (x3 : Int32) (x4 : Int32) (F : PF) (G : PG) (hm : cb_X0_branch_52 fu x1 x2 x3 x4 F G = some res) {b : Nat} {H : Heap} {locs : List Loc} (hw : cMW s A v a b K0 F G H locs) {ls : Array Slot} (hl : lv_has ls 7 [(0, .ref (a 200)), (1, .int x1), (2, .int x2), (3, .int x3), (4, .int x4)]) : W p l e R s m args below meth c H locs (xn F - xn K0) (2 * (xn F - xn K0)) Q (F0 m 52 ls []) := by
  have hx := C.1
  have hb := C.2.1
  unfold cb_X0_branch_52 at hm
  refine lv_iload_n hx hb dX0_branch_52 rfl (lv_at hl 3 rfl) ?_
  refine lv_iload hx hb dX0_branch_53 (lv_at hl 4 rfl) ?_
  refine lv_icmp_ne (tgt := 62) hx hb dX0_branch_55 (by decide) (fun c_1 => ?_) (fun c_1 => ?_)
  · have hm := (if_neg c_1).symm.trans hm
    exact cw_X0_branch_62 fu C hret x1 x2 F G hm hw (lv_sub hl [0, 1, 2] rfl)
  · have hm := (if_pos c_1).symm.trans hm
    exact cw_X0_branch_58 fu C hret x1 x2 F G hm hw (lv_sub hl [0, 1, 2] rfl)
theorem cn_X0_branch_47 (fu : Nat) {res : Int32 × PF × PG} (x1 : Int32) (x2 : Int32) (x3 : Int32) (x4 : Int32) (F : PF) (G : PG) (hm : cb_X0_branch_47 fu x1 x2 x3 x4 F G = some res) : xn F ≤ xn res.2.1 := by
  unfold cb_X0_branch_47 at hm
  by_cases c_1 : (2 : Int32) ≤ x2
  · have hm := (if_pos c_1).symm.trans hm
    exact (cn_X0_branch_68 fu x1 x2 x3 x4 F G hm)
  · have hm := (if_neg c_1).symm.trans hm
    exact (cn_X0_branch_52 fu x1 x2 x3 x4 F G hm)
theorem cw_X0_branch_47 (fu : Nat) {res : Int32 × PF × PG} (C : cMC p R s m args c A v RX0 cX0_branch 7 1 21 (xn res.2.1 - xn K0)) (hret : ∀ (b1 : Nat) (H1 : Heap) (locs1 : List Loc) (ls1 : Array Slot) (pc : Nat), cMW s A v a b1 K0 res.2.1 res.2.2 H1 locs1 → narrow .int (.int res.1) = .int res.1 → decode cX0_branch pc = .ok (.ireturn, 1) → W p l e R s m args below meth c H1 locs1 (xn res.2.1 - xn K0) (2 * (xn res.2.1 - xn K0)) Q (F0 m pc ls1 [.int res.1])) (x1 : Int32) (x2 : Int32) (x3 : Int32) (x4 : Int32) (F : PF) (G : PG) (hm : cb_X0_branch_47 fu x1 x2 x3 x4 F G = some res) {b : Nat} {H : Heap} {locs : List Loc} (hw : cMW s A v a b K0 F G H locs) {ls : Array Slot} (hl : lv_has ls 7 [(0, .ref (a 200)), (1, .int x1), (2, .int x2), (3, .int x3), (4, .int x4)]) : W p l e R s m args below meth c H locs (xn F - xn K0) (2 * (xn F - xn K0)) Q (F0 m 47 ls []) := by
  have hx := C.1
  have hb := C.2.1
  unfold cb_X0_branch_47 at hm
  refine lv_iload_n hx hb dX0_branch_47 rfl (lv_at hl 2 rfl) ?_
  refine lv_iconst (v := 2) hx hb dX0_branch_48 (by decide) ?_
  refine lv_icmp_ge (tgt := 68) hx hb dX0_branch_49 (by decide) (fun c_1 => ?_) (fun c_1 => ?_)
  · have hm := (if_pos c_1).symm.trans hm
    exact cw_X0_branch_68 fu C hret x1 x2 x3 x4 F G hm hw (lv_sub hl [0, 1, 2, 3, 4] rfl)
  · have hm := (if_neg c_1).symm.trans hm
    exact cw_X0_branch_52 fu C hret x1 x2 x3 x4 F G hm hw (lv_sub hl [0, 1, 2, 3, 4] rfl)
theorem cn_X0_branch_40 (fu : Nat) {res : Int32 × PF × PG} (x1 : Int32) (x2 : Int32) (x3 : Int32) (x4 : Int32) (F : PF) (G : PG) (hm : cb_X0_branch_40 fu x1 x2 x3 x4 F G = some res) : xn F ≤ xn res.2.1 := by
  unfold cb_X0_branch_40 at hm
  by_cases c_1 : x2 = (3 : Int32)
  · have hm := (if_pos c_1).symm.trans hm
    exact (cn_X0_branch_45 fu F G hm)
  · have hm := (if_neg c_1).symm.trans hm
    exact (cn_X0_branch_47 fu x1 x2 x3 x4 F G hm)
theorem cw_X0_branch_40 (fu : Nat) {res : Int32 × PF × PG} (C : cMC p R s m args c A v RX0 cX0_branch 7 1 21 (xn res.2.1 - xn K0)) (hret : ∀ (b1 : Nat) (H1 : Heap) (locs1 : List Loc) (ls1 : Array Slot) (pc : Nat), cMW s A v a b1 K0 res.2.1 res.2.2 H1 locs1 → narrow .int (.int res.1) = .int res.1 → decode cX0_branch pc = .ok (.ireturn, 1) → W p l e R s m args below meth c H1 locs1 (xn res.2.1 - xn K0) (2 * (xn res.2.1 - xn K0)) Q (F0 m pc ls1 [.int res.1])) (x1 : Int32) (x2 : Int32) (x3 : Int32) (x4 : Int32) (F : PF) (G : PG) (hm : cb_X0_branch_40 fu x1 x2 x3 x4 F G = some res) {b : Nat} {H : Heap} {locs : List Loc} (hw : cMW s A v a b K0 F G H locs) {ls : Array Slot} (hl : lv_has ls 7 [(0, .ref (a 200)), (1, .int x1), (2, .int x2), (3, .int x3), (4, .int x4)]) : W p l e R s m args below meth c H locs (xn F - xn K0) (2 * (xn F - xn K0)) Q (F0 m 40 ls []) := by
  have hx := C.1
  have hb := C.2.1
  unfold cb_X0_branch_40 at hm
  refine lv_iload_n hx hb dX0_branch_40 rfl (lv_at hl 2 rfl) ?_
  refine lv_iconst (v := 3) hx hb dX0_branch_41 (by decide) ?_
  refine lv_icmp_ne (tgt := 47) hx hb dX0_branch_42 (by decide) (fun c_1 => ?_) (fun c_1 => ?_)
  · have hm := (if_neg c_1).symm.trans hm
    exact cw_X0_branch_47 fu C hret x1 x2 x3 x4 F G hm hw (lv_sub hl [0, 1, 2, 3, 4] rfl)
  · have hm := (if_pos c_1).symm.trans hm
    exact cw_X0_branch_45 fu C hret F G hm hw (lv_sub hl [] rfl)
theorem cn_X0_branch_0 (fu : Nat) {res : Int32 × PF × PG} (x1 : Int32) (F : PF) (G : PG) (hm : cb_X0_branch_0 fu x1 F G = some res) : xn F ≤ xn res.2.1 := by
  unfold cb_X0_branch_0 at hm
  have hm := (ix_elim hm).2
  have hm := (ix_elim hm).2
  by_cases c_1 : (((x1.toUInt32 >>> ((12 : Int32).toUInt32 &&& Int32.toUInt32 31)).toInt32) &&& (7 : Int32)) = (2 : Int32)
  · have hm := (if_pos c_1).symm.trans hm
    exact (cn_X0_branch_45 fu F G hm)
  · have hm := (if_neg c_1).symm.trans hm
    exact (cn_X0_branch_40 fu x1 (((x1.toUInt32 >>> ((12 : Int32).toUInt32 &&& Int32.toUInt32 31)).toInt32) &&& (7 : Int32)) (G 1 (((x1.toUInt32 >>> ((15 : Int32).toUInt32 &&& Int32.toUInt32 31)).toInt32) &&& (31 : Int32)).toNatClampNeg) (G 1 (((x1.toUInt32 >>> ((20 : Int32).toUInt32 &&& Int32.toUInt32 31)).toInt32) &&& (31 : Int32)).toNatClampNeg) F G hm)
theorem cw_X0_branch_0 (fu : Nat) {res : Int32 × PF × PG} (C : cMC p R s m args c A v RX0 cX0_branch 7 1 21 (xn res.2.1 - xn K0)) (hret : ∀ (b1 : Nat) (H1 : Heap) (locs1 : List Loc) (ls1 : Array Slot) (pc : Nat), cMW s A v a b1 K0 res.2.1 res.2.2 H1 locs1 → narrow .int (.int res.1) = .int res.1 → decode cX0_branch pc = .ok (.ireturn, 1) → W p l e R s m args below meth c H1 locs1 (xn res.2.1 - xn K0) (2 * (xn res.2.1 - xn K0)) Q (F0 m pc ls1 [.int res.1])) (x1 : Int32) (F : PF) (G : PG) (hm : cb_X0_branch_0 fu x1 F G = some res) {b : Nat} {H : Heap} {locs : List Loc} (hw : cMW s A v a b K0 F G H locs) {ls : Array Slot} (hl : lv_has ls 7 [(0, .ref (a 200)), (1, .int x1)]) : W p l e R s m args below meth c H locs (xn F - xn K0) (2 * (xn F - xn K0)) Q (F0 m 0 ls []) := by
  have hx := C.1
  have hb := C.2.1
  unfold cb_X0_branch_0 at hm
  refine lv_iload_n hx hb dX0_branch_0 rfl (lv_at hl 1 rfl) ?_
  refine lv_bipush (v := 12) hx hb dX0_branch_1 (by decide) ?_
  refine lv_iushr hx hb dX0_branch_3 rfl ?_
  refine lv_bipush (v := 7) hx hb dX0_branch_4 (by decide) ?_
  refine lv_iand hx hb dX0_branch_6 ?_
  refine lv_istore_n (lv' := [(2, .int (((x1.toUInt32 >>> ((12 : Int32).toUInt32 &&& Int32.toUInt32 31)).toInt32) &&& (7 : Int32))), (0, .ref (a 200)), (1, .int x1)]) hx hb dX0_branch_7 rfl hl (by decide) rfl (fun ls hl => ?_)
  refine lv_aload_n hx hb dX0_branch_8 rfl (lv_at hl 1 rfl) ?_
  refine cg_X0_15 C hw dX0_branch_9 ?_
  refine lv_iload_n hx hb dX0_branch_12 rfl (lv_at hl 2 rfl) ?_
  refine lv_bipush (v := 15) hx hb dX0_branch_13 (by decide) ?_
  refine lv_iushr hx hb dX0_branch_15 rfl ?_
  refine lv_bipush (v := 31) hx hb dX0_branch_16 (by decide) ?_
  refine lv_iand hx hb dX0_branch_18 ?_
  obtain ⟨hi, hm⟩ := ix_elim hm
  refine cal_1 C hw hi dX0_branch_19 ?_
  refine lv_istore_n (lv' := [(3, .int (G 1 (((x1.toUInt32 >>> ((15 : Int32).toUInt32 &&& Int32.toUInt32 31)).toInt32) &&& (31 : Int32)).toNatClampNeg)), (2, .int (((x1.toUInt32 >>> ((12 : Int32).toUInt32 &&& Int32.toUInt32 31)).toInt32) &&& (7 : Int32))), (0, .ref (a 200)), (1, .int x1)]) hx hb dX0_branch_20 rfl hl (by decide) rfl (fun ls hl => ?_)
  refine lv_aload_n hx hb dX0_branch_21 rfl (lv_at hl 2 rfl) ?_
  refine cg_X0_15 C hw dX0_branch_22 ?_
  refine lv_iload_n hx hb dX0_branch_25 rfl (lv_at hl 3 rfl) ?_
  refine lv_bipush (v := 20) hx hb dX0_branch_26 (by decide) ?_
  refine lv_iushr hx hb dX0_branch_28 rfl ?_
  refine lv_bipush (v := 31) hx hb dX0_branch_29 (by decide) ?_
  refine lv_iand hx hb dX0_branch_31 ?_
  obtain ⟨hi, hm⟩ := ix_elim hm
  refine cal_1 C hw hi dX0_branch_32 ?_
  refine lv_istore (lv' := [(4, .int (G 1 (((x1.toUInt32 >>> ((20 : Int32).toUInt32 &&& Int32.toUInt32 31)).toInt32) &&& (31 : Int32)).toNatClampNeg)), (3, .int (G 1 (((x1.toUInt32 >>> ((15 : Int32).toUInt32 &&& Int32.toUInt32 31)).toInt32) &&& (31 : Int32)).toNatClampNeg)), (2, .int (((x1.toUInt32 >>> ((12 : Int32).toUInt32 &&& Int32.toUInt32 31)).toInt32) &&& (7 : Int32))), (0, .ref (a 200)), (1, .int x1)]) hx hb dX0_branch_33 hl (by decide) rfl (fun ls hl => ?_)
  refine lv_iload_n hx hb dX0_branch_35 rfl (lv_at hl 2 rfl) ?_
  refine lv_iconst (v := 2) hx hb dX0_branch_36 (by decide) ?_
  refine lv_icmp_eq (tgt := 45) hx hb dX0_branch_37 (by decide) (fun c_1 => ?_) (fun c_1 => ?_)
  · have hm := (if_pos c_1).symm.trans hm
    exact cw_X0_branch_45 fu C hret F G hm hw (lv_sub hl [] rfl)
  · have hm := (if_neg c_1).symm.trans hm
    exact cw_X0_branch_40 fu C hret x1 (((x1.toUInt32 >>> ((12 : Int32).toUInt32 &&& Int32.toUInt32 31)).toInt32) &&& (7 : Int32)) (G 1 (((x1.toUInt32 >>> ((15 : Int32).toUInt32 &&& Int32.toUInt32 31)).toInt32) &&& (31 : Int32)).toNatClampNeg) (G 1 (((x1.toUInt32 >>> ((20 : Int32).toUInt32 &&& Int32.toUInt32 31)).toInt32) &&& (31 : Int32)).toNatClampNeg) F G hm hw (lv_sub hl [3, 4, 2, 1, 0] rfl)
theorem cn_X0_branch (fu : Nat) (x1 : Int32) (F : PF) (G : PG) (q : Int32 × PF × PG) (hm : cf_X0_branch fu x1 F G = some q) : xn F ≤ xn q.2.1 := cn_X0_branch_0 fu x1 F G hm
theorem ck_X0_branch (l : Launch) (v : EV) (a : Nat → Nat) (b sz : Nat) (fu : Nat) (x1 : Int32) (F : PF) (G : PG) (r : Int32) (F1 : PF) (G1 : PG) (hm : cf_X0_branch fu x1 F G = some (r, F1, G1)) : cMI l yX0_branch cX0_branch 7 (some .int) 1 21 v a b sz [.ref (a 200), .int x1] F G r F1 G1 := cMI.of (ty := .int) (by decide) rfl (Nat.le_of_ble_eq_true rfl) (fun p e R s m args below meth c Q A H locs ls C hw hl hret => cw_X0_branch_0 fu (res := (r, F1, G1)) C hret x1 F G hm hw hl)
def cb_X0_withNumber_94 (fu : Nat) (z0 : Int32) (F : PF) (G : PG) : PR := some (z0, F, G)
def cb_X0_withNumber_91 (fu : Nat) (z0 : Int32) (z1 : Int32) (F : PF) (G : PG) : PR := (cf_X0_keep fu z1 z0 F G).bind (fun q => cb_X0_withNumber_94 fu q.1 q.2.1 q.2.2)
def cb_X0_withNumber_84 (fu : Nat) (x4 : Int32) (x5 : Int32) (z0 : Int32) (z1 : Int32) (z2 : Int32) (F : PF) (G : PG) : PR := (cf_X0_plain fu z1 z0 x4 x5 F G).bind (fun q => cb_X0_withNumber_91 fu q.1 z2 q.2.1 q.2.2)
def cb_X0_withNumber_83 (fu : Nat) (x4 : Int32) (x5 : Int32) (z0 : Int32) (z1 : Int32) (F : PF) (G : PG) : PR := cb_X0_withNumber_84 fu x4 x5 0 z0 z1 F G
def cb_X0_withNumber_79 (fu : Nat) (x4 : Int32) (x5 : Int32) (z0 : Int32) (z1 : Int32) (F : PF) (G : PG) : PR := cb_X0_withNumber_84 fu x4 x5 1 z0 z1 F G
def cb_X0_withNumber_73 (fu : Nat) (x3 : Int32) (x4 : Int32) (x5 : Int32) (z0 : Int32) (z1 : Int32) (F : PF) (G : PG) : PR := if x3 = (32 : Int32) then cb_X0_withNumber_79 fu x4 x5 z0 z1 F G else cb_X0_withNumber_83 fu x4 x5 z0 z1 F G
def cb_X0_withNumber_59 (fu : Nat) (x1 : Int32) (x2 : Int32) (x3 : Int32) (x4 : Int32) (x5 : Int32) (F : PF) (G : PG) : PR := if x2 = (5 : Int32) then cb_X0_withNumber_73 fu x3 x4 x5 x2 (((x1.toUInt32 >>> ((7 : Int32).toUInt32 &&& Int32.toUInt32 31)).toInt32) &&& (31 : Int32)) F G else cb_X0_withNumber_83 fu x4 x5 x2 (((x1.toUInt32 >>> ((7 : Int32).toUInt32 &&& Int32.toUInt32 31)).toInt32) &&& (31 : Int32)) F G
def cb_X0_withNumber_57 (fu : Nat) (F : PF) (G : PG) : PR := some (2, F, G)
def cb_X0_withNumber_51 (fu : Nat) (x1 : Int32) (x2 : Int32) (x3 : Int32) (x4 : Int32) (x5 : Int32) (F : PF) (G : PG) : PR := if x3 = (32 : Int32) then cb_X0_withNumber_59 fu x1 x2 x3 x4 x5 F G else cb_X0_withNumber_57 fu F G
def cb_X0_withNumber_47 (fu : Nat) (x1 : Int32) (x2 : Int32) (x3 : Int32) (x4 : Int32) (x5 : Int32) (F : PF) (G : PG) : PR := if x3 = (0 : Int32) then cb_X0_withNumber_59 fu x1 x2 x3 x4 x5 F G else cb_X0_withNumber_51 fu x1 x2 x3 x4 x5 F G
def cb_X0_withNumber_42 (fu : Nat) (x1 : Int32) (x2 : Int32) (x3 : Int32) (x4 : Int32) (x5 : Int32) (F : PF) (G : PG) : PR := if x2 = (5 : Int32) then cb_X0_withNumber_47 fu x1 x2 x3 x4 x5 F G else cb_X0_withNumber_59 fu x1 x2 x3 x4 x5 F G
def cb_X0_withNumber_38 (fu : Nat) (x1 : Int32) (x2 : Int32) (x3 : Int32) (x4 : Int32) (x5 : Int32) (F : PF) (G : PG) : PR := if x3 = (0 : Int32) then cb_X0_withNumber_42 fu x1 x2 x3 x4 x5 F G else cb_X0_withNumber_57 fu F G
def cb_X0_withNumber_0 (fu : Nat) (x1 : Int32) (F : PF) (G : PG) : PR := if ixb (((x1.toUInt32 >>> ((15 : Int32).toUInt32 &&& Int32.toUInt32 31)).toInt32) &&& (31 : Int32)) 32 = true then (if (((x1.toUInt32 >>> ((12 : Int32).toUInt32 &&& Int32.toUInt32 31)).toInt32) &&& (7 : Int32)) = (1 : Int32) then cb_X0_withNumber_38 fu x1 (((x1.toUInt32 >>> ((12 : Int32).toUInt32 &&& Int32.toUInt32 31)).toInt32) &&& (7 : Int32)) ((x1.toUInt32 >>> ((25 : Int32).toUInt32 &&& Int32.toUInt32 31)).toInt32) (G 1 (((x1.toUInt32 >>> ((15 : Int32).toUInt32 &&& Int32.toUInt32 31)).toInt32) &&& (31 : Int32)).toNatClampNeg) (x1 >>> ((20 : Int32) &&& 31)) F G else cb_X0_withNumber_42 fu x1 (((x1.toUInt32 >>> ((12 : Int32).toUInt32 &&& Int32.toUInt32 31)).toInt32) &&& (7 : Int32)) ((x1.toUInt32 >>> ((25 : Int32).toUInt32 &&& Int32.toUInt32 31)).toInt32) (G 1 (((x1.toUInt32 >>> ((15 : Int32).toUInt32 &&& Int32.toUInt32 31)).toInt32) &&& (31 : Int32)).toNatClampNeg) (x1 >>> ((20 : Int32) &&& 31)) F G) else none
def cf_X0_withNumber (fu : Nat) (x1 : Int32) (F : PF) (G : PG) : PR := cb_X0_withNumber_0 fu x1 F G
theorem cn_X0_withNumber_94 (fu : Nat) {res : Int32 × PF × PG} (z0 : Int32) (F : PF) (G : PG) (hm : cb_X0_withNumber_94 fu z0 F G = some res) : xn F ≤ xn res.2.1 := by
  unfold cb_X0_withNumber_94 at hm
  obtain rfl := Option.some.inj hm
  exact Nat.le_refl _
theorem cw_X0_withNumber_94 (fu : Nat) {res : Int32 × PF × PG} (C : cMC p R s m args c A v RX0 cX0_withNumber 6 2 44 (xn res.2.1 - xn K0)) (hret : ∀ (b1 : Nat) (H1 : Heap) (locs1 : List Loc) (ls1 : Array Slot) (pc : Nat), cMW s A v a b1 K0 res.2.1 res.2.2 H1 locs1 → narrow .int (.int res.1) = .int res.1 → decode cX0_withNumber pc = .ok (.ireturn, 1) → W p l e R s m args below meth c H1 locs1 (xn res.2.1 - xn K0) (2 * (xn res.2.1 - xn K0)) Q (F0 m pc ls1 [.int res.1])) (z0 : Int32) (F : PF) (G : PG) (hm : cb_X0_withNumber_94 fu z0 F G = some res) {b : Nat} {H : Heap} {locs : List Loc} (hw : cMW s A v a b K0 F G H locs) {ls : Array Slot} (hl : lv_has ls 6 []) : W p l e R s m args below meth c H locs (xn F - xn K0) (2 * (xn F - xn K0)) Q (F0 m 94 ls [.int z0]) := by
  have hx := C.1
  have hb := C.2.1
  unfold cb_X0_withNumber_94 at hm
  obtain rfl := Option.some.inj hm
  exact hret _ _ _ _ _ hw rfl dX0_withNumber_94
theorem cn_X0_withNumber_91 (fu : Nat) {res : Int32 × PF × PG} (z0 : Int32) (z1 : Int32) (F : PF) (G : PG) (hm : cb_X0_withNumber_91 fu z0 z1 F G = some res) : xn F ≤ xn res.2.1 := by
  unfold cb_X0_withNumber_91 at hm
  obtain ⟨⟨r1, F1, G1⟩, hc, hm⟩ := bind_elim hm
  exact Nat.le_trans (cn_X0_keep fu z1 z0 F G _ hc) (cn_X0_withNumber_94 fu r1 F1 G1 hm)
theorem cw_X0_withNumber_91 (fu : Nat) {res : Int32 × PF × PG} (C : cMC p R s m args c A v RX0 cX0_withNumber 6 2 44 (xn res.2.1 - xn K0)) (hret : ∀ (b1 : Nat) (H1 : Heap) (locs1 : List Loc) (ls1 : Array Slot) (pc : Nat), cMW s A v a b1 K0 res.2.1 res.2.2 H1 locs1 → narrow .int (.int res.1) = .int res.1 → decode cX0_withNumber pc = .ok (.ireturn, 1) → W p l e R s m args below meth c H1 locs1 (xn res.2.1 - xn K0) (2 * (xn res.2.1 - xn K0)) Q (F0 m pc ls1 [.int res.1])) (z0 : Int32) (z1 : Int32) (F : PF) (G : PG) (hm : cb_X0_withNumber_91 fu z0 z1 F G = some res) {b : Nat} {H : Heap} {locs : List Loc} (hw : cMW s A v a b K0 F G H locs) {ls : Array Slot} (hl : lv_has ls 6 []) : W p l e R s m args below meth c H locs (xn F - xn K0) (2 * (xn F - xn K0)) Q (F0 m 91 ls [.int z0, .int z1, .ref (a 200)]) := by
  have hx := C.1
  have hb := C.2.1
  unfold cb_X0_withNumber_91 at hm
  obtain ⟨⟨r1, F1, G1⟩, hc, hm⟩ := bind_elim hm
  refine ccallI (n := 2) (As := [.int z1, .int z0]) (rest := []) C hw (ck_X0_keep l v a _ _ fu z1 z0 F G r1 F1 G1 hc) (cn_X0_keep fu z1 z0 F G _ hc) (Nat.sub_le_sub_right (cn_X0_withNumber_94 fu r1 F1 G1 hm) _) (crecv_X0 C hw) cm_947 cm_948 cm_949 cm_938 cm_950 (by decide +kernel) rfl (by omega) (by omega) hl.1 rfl (Nat.le_of_ble_eq_true rfl) dX0_withNumber_91 (fun b H locs hw => ?_)
  exact cw_X0_withNumber_94 fu C hret r1 F1 G1 hm hw (lv_sub hl [] rfl)
theorem cn_X0_withNumber_84 (fu : Nat) {res : Int32 × PF × PG} (x4 : Int32) (x5 : Int32) (z0 : Int32) (z1 : Int32) (z2 : Int32) (F : PF) (G : PG) (hm : cb_X0_withNumber_84 fu x4 x5 z0 z1 z2 F G = some res) : xn F ≤ xn res.2.1 := by
  unfold cb_X0_withNumber_84 at hm
  obtain ⟨⟨r1, F1, G1⟩, hc, hm⟩ := bind_elim hm
  exact Nat.le_trans (cn_X0_plain fu z1 z0 x4 x5 F G _ hc) (cn_X0_withNumber_91 fu r1 z2 F1 G1 hm)
theorem cw_X0_withNumber_84 (fu : Nat) {res : Int32 × PF × PG} (C : cMC p R s m args c A v RX0 cX0_withNumber 6 2 44 (xn res.2.1 - xn K0)) (hret : ∀ (b1 : Nat) (H1 : Heap) (locs1 : List Loc) (ls1 : Array Slot) (pc : Nat), cMW s A v a b1 K0 res.2.1 res.2.2 H1 locs1 → narrow .int (.int res.1) = .int res.1 → decode cX0_withNumber pc = .ok (.ireturn, 1) → W p l e R s m args below meth c H1 locs1 (xn res.2.1 - xn K0) (2 * (xn res.2.1 - xn K0)) Q (F0 m pc ls1 [.int res.1])) (x4 : Int32) (x5 : Int32) (z0 : Int32) (z1 : Int32) (z2 : Int32) (F : PF) (G : PG) (hm : cb_X0_withNumber_84 fu x4 x5 z0 z1 z2 F G = some res) {b : Nat} {H : Heap} {locs : List Loc} (hw : cMW s A v a b K0 F G H locs) {ls : Array Slot} (hl : lv_has ls 6 [(4, .int x4), (5, .int x5)]) : W p l e R s m args below meth c H locs (xn F - xn K0) (2 * (xn F - xn K0)) Q (F0 m 84 ls [.int z0, .int z1, .int z2, .ref (a 200)]) := by
  have hx := C.1
  have hb := C.2.1
  unfold cb_X0_withNumber_84 at hm
  refine lv_iload hx hb dX0_withNumber_84 (lv_at hl 0 rfl) ?_
  refine lv_iload hx hb dX0_withNumber_86 (lv_at hl 1 rfl) ?_
  obtain ⟨⟨r1, F1, G1⟩, hc, hm⟩ := bind_elim hm
  refine ccallIS (n := 4) (As := [.int z1, .int z0, .int x4, .int x5]) (rest := [.int z2, .ref (a 200)]) C hw (ck_X0_plain l v a _ _ fu z1 z0 x4 x5 F G r1 F1 G1 hc) (cn_X0_plain fu z1 z0 x4 x5 F G _ hc) (Nat.sub_le_sub_right (cn_X0_withNumber_91 fu r1 z2 F1 G1 hm) _) cm_1002 cm_1003 cm_938 cm_1004 (by decide +kernel) rfl (by omega) (by omega) hl.1 rfl (Nat.le_of_ble_eq_true rfl) dX0_withNumber_88 (fun b H locs hw => ?_)
  exact cw_X0_withNumber_91 fu C hret r1 z2 F1 G1 hm hw (lv_sub hl [] rfl)
theorem cn_X0_withNumber_83 (fu : Nat) {res : Int32 × PF × PG} (x4 : Int32) (x5 : Int32) (z0 : Int32) (z1 : Int32) (F : PF) (G : PG) (hm : cb_X0_withNumber_83 fu x4 x5 z0 z1 F G = some res) : xn F ≤ xn res.2.1 := by
  unfold cb_X0_withNumber_83 at hm
  exact (cn_X0_withNumber_84 fu x4 x5 0 z0 z1 F G hm)
theorem cw_X0_withNumber_83 (fu : Nat) {res : Int32 × PF × PG} (C : cMC p R s m args c A v RX0 cX0_withNumber 6 2 44 (xn res.2.1 - xn K0)) (hret : ∀ (b1 : Nat) (H1 : Heap) (locs1 : List Loc) (ls1 : Array Slot) (pc : Nat), cMW s A v a b1 K0 res.2.1 res.2.2 H1 locs1 → narrow .int (.int res.1) = .int res.1 → decode cX0_withNumber pc = .ok (.ireturn, 1) → W p l e R s m args below meth c H1 locs1 (xn res.2.1 - xn K0) (2 * (xn res.2.1 - xn K0)) Q (F0 m pc ls1 [.int res.1])) (x4 : Int32) (x5 : Int32) (z0 : Int32) (z1 : Int32) (F : PF) (G : PG) (hm : cb_X0_withNumber_83 fu x4 x5 z0 z1 F G = some res) {b : Nat} {H : Heap} {locs : List Loc} (hw : cMW s A v a b K0 F G H locs) {ls : Array Slot} (hl : lv_has ls 6 [(4, .int x4), (5, .int x5)]) : W p l e R s m args below meth c H locs (xn F - xn K0) (2 * (xn F - xn K0)) Q (F0 m 83 ls [.int z0, .int z1, .ref (a 200)]) := by
  have hx := C.1
  have hb := C.2.1
  unfold cb_X0_withNumber_83 at hm
  refine lv_iconst (v := 0) hx hb dX0_withNumber_83 (by decide) ?_
  exact cw_X0_withNumber_84 fu C hret x4 x5 0 z0 z1 F G hm hw (lv_sub hl [0, 1] rfl)
theorem cn_X0_withNumber_79 (fu : Nat) {res : Int32 × PF × PG} (x4 : Int32) (x5 : Int32) (z0 : Int32) (z1 : Int32) (F : PF) (G : PG) (hm : cb_X0_withNumber_79 fu x4 x5 z0 z1 F G = some res) : xn F ≤ xn res.2.1 := by
  unfold cb_X0_withNumber_79 at hm
  exact (cn_X0_withNumber_84 fu x4 x5 1 z0 z1 F G hm)
theorem cw_X0_withNumber_79 (fu : Nat) {res : Int32 × PF × PG} (C : cMC p R s m args c A v RX0 cX0_withNumber 6 2 44 (xn res.2.1 - xn K0)) (hret : ∀ (b1 : Nat) (H1 : Heap) (locs1 : List Loc) (ls1 : Array Slot) (pc : Nat), cMW s A v a b1 K0 res.2.1 res.2.2 H1 locs1 → narrow .int (.int res.1) = .int res.1 → decode cX0_withNumber pc = .ok (.ireturn, 1) → W p l e R s m args below meth c H1 locs1 (xn res.2.1 - xn K0) (2 * (xn res.2.1 - xn K0)) Q (F0 m pc ls1 [.int res.1])) (x4 : Int32) (x5 : Int32) (z0 : Int32) (z1 : Int32) (F : PF) (G : PG) (hm : cb_X0_withNumber_79 fu x4 x5 z0 z1 F G = some res) {b : Nat} {H : Heap} {locs : List Loc} (hw : cMW s A v a b K0 F G H locs) {ls : Array Slot} (hl : lv_has ls 6 [(4, .int x4), (5, .int x5)]) : W p l e R s m args below meth c H locs (xn F - xn K0) (2 * (xn F - xn K0)) Q (F0 m 79 ls [.int z0, .int z1, .ref (a 200)]) := by
  have hx := C.1
  have hb := C.2.1
  unfold cb_X0_withNumber_79 at hm
  refine lv_iconst (v := 1) hx hb dX0_withNumber_79 (by decide) ?_
  refine lv_goto (tgt := 84) hx hb dX0_withNumber_80 (by decide) ?_
  exact cw_X0_withNumber_84 fu C hret x4 x5 1 z0 z1 F G hm hw (lv_sub hl [0, 1] rfl)
theorem cn_X0_withNumber_73 (fu : Nat) {res : Int32 × PF × PG} (x3 : Int32) (x4 : Int32) (x5 : Int32) (z0 : Int32) (z1 : Int32) (F : PF) (G : PG) (hm : cb_X0_withNumber_73 fu x3 x4 x5 z0 z1 F G = some res) : xn F ≤ xn res.2.1 := by
  unfold cb_X0_withNumber_73 at hm
  by_cases c_1 : x3 = (32 : Int32)
  · have hm := (if_pos c_1).symm.trans hm
    exact (cn_X0_withNumber_79 fu x4 x5 z0 z1 F G hm)
  · have hm := (if_neg c_1).symm.trans hm
    exact (cn_X0_withNumber_83 fu x4 x5 z0 z1 F G hm)
theorem cw_X0_withNumber_73 (fu : Nat) {res : Int32 × PF × PG} (C : cMC p R s m args c A v RX0 cX0_withNumber 6 2 44 (xn res.2.1 - xn K0)) (hret : ∀ (b1 : Nat) (H1 : Heap) (locs1 : List Loc) (ls1 : Array Slot) (pc : Nat), cMW s A v a b1 K0 res.2.1 res.2.2 H1 locs1 → narrow .int (.int res.1) = .int res.1 → decode cX0_withNumber pc = .ok (.ireturn, 1) → W p l e R s m args below meth c H1 locs1 (xn res.2.1 - xn K0) (2 * (xn res.2.1 - xn K0)) Q (F0 m pc ls1 [.int res.1])) (x3 : Int32) (x4 : Int32) (x5 : Int32) (z0 : Int32) (z1 : Int32) (F : PF) (G : PG) (hm : cb_X0_withNumber_73 fu x3 x4 x5 z0 z1 F G = some res) {b : Nat} {H : Heap} {locs : List Loc} (hw : cMW s A v a b K0 F G H locs) {ls : Array Slot} (hl : lv_has ls 6 [(3, .int x3), (4, .int x4), (5, .int x5)]) : W p l e R s m args below meth c H locs (xn F - xn K0) (2 * (xn F - xn K0)) Q (F0 m 73 ls [.int z0, .int z1, .ref (a 200)]) := by
  have hx := C.1
  have hb := C.2.1
  unfold cb_X0_withNumber_73 at hm
  refine lv_iload_n hx hb dX0_withNumber_73 rfl (lv_at hl 0 rfl) ?_
  refine lv_bipush (v := 32) hx hb dX0_withNumber_74 (by decide) ?_
  refine lv_icmp_ne (tgt := 83) hx hb dX0_withNumber_76 (by decide) (fun c_1 => ?_) (fun c_1 => ?_)
  · have hm := (if_neg c_1).symm.trans hm
    exact cw_X0_withNumber_83 fu C hret x4 x5 z0 z1 F G hm hw (lv_sub hl [1, 2] rfl)
  · have hm := (if_pos c_1).symm.trans hm
    exact cw_X0_withNumber_79 fu C hret x4 x5 z0 z1 F G hm hw (lv_sub hl [1, 2] rfl)
theorem cn_X0_withNumber_59 (fu : Nat) {res : Int32 × PF × PG} (x1 : Int32) (x2 : Int32) (x3 : Int32) (x4 : Int32) (x5 : Int32) (F : PF) (G : PG) (hm : cb_X0_withNumber_59 fu x1 x2 x3 x4 x5 F G = some res) : xn F ≤ xn res.2.1 := by
  unfold cb_X0_withNumber_59 at hm
  by_cases c_1 : x2 = (5 : Int32)
  · have hm := (if_pos c_1).symm.trans hm
    exact (cn_X0_withNumber_73 fu x3 x4 x5 x2 (((x1.toUInt32 >>> ((7 : Int32).toUInt32 &&& Int32.toUInt32 31)).toInt32) &&& (31 : Int32)) F G hm)
  · have hm := (if_neg c_1).symm.trans hm
    exact (cn_X0_withNumber_83 fu x4 x5 x2 (((x1.toUInt32 >>> ((7 : Int32).toUInt32 &&& Int32.toUInt32 31)).toInt32) &&& (31 : Int32)) F G hm)
theorem cw_X0_withNumber_59 (fu : Nat) {res : Int32 × PF × PG} (C : cMC p R s m args c A v RX0 cX0_withNumber 6 2 44 (xn res.2.1 - xn K0)) (hret : ∀ (b1 : Nat) (H1 : Heap) (locs1 : List Loc) (ls1 : Array Slot) (pc : Nat), cMW s A v a b1 K0 res.2.1 res.2.2 H1 locs1 → narrow .int (.int res.1) = .int res.1 → decode cX0_withNumber pc = .ok (.ireturn, 1) → W p l e R s m args below meth c H1 locs1 (xn res.2.1 - xn K0) (2 * (xn res.2.1 - xn K0)) Q (F0 m pc ls1 [.int res.1])) (x1 : Int32) (x2 : Int32) (x3 : Int32) (x4 : Int32) (x5 : Int32) (F : PF) (G : PG) (hm : cb_X0_withNumber_59 fu x1 x2 x3 x4 x5 F G = some res) {b : Nat} {H : Heap} {locs : List Loc} (hw : cMW s A v a b K0 F G H locs) {ls : Array Slot} (hl : lv_has ls 6 [(0, .ref (a 200)), (1, .int x1), (2, .int x2), (3, .int x3), (4, .int x4), (5, .int x5)]) : W p l e R s m args below meth c H locs (xn F - xn K0) (2 * (xn F - xn K0)) Q (F0 m 59 ls []) := by
  have hx := C.1
  have hb := C.2.1
  unfold cb_X0_withNumber_59 at hm
  refine lv_aload_n hx hb dX0_withNumber_59 rfl (lv_at hl 0 rfl) ?_
  refine lv_iload_n hx hb dX0_withNumber_60 rfl (lv_at hl 1 rfl) ?_
  refine lv_bipush (v := 7) hx hb dX0_withNumber_61 (by decide) ?_
  refine lv_iushr hx hb dX0_withNumber_63 rfl ?_
  refine lv_bipush (v := 31) hx hb dX0_withNumber_64 (by decide) ?_
  refine lv_iand hx hb dX0_withNumber_66 ?_
  refine lv_iload_n hx hb dX0_withNumber_67 rfl (lv_at hl 2 rfl) ?_
  refine lv_iload_n hx hb dX0_withNumber_68 rfl (lv_at hl 2 rfl) ?_
  refine lv_iconst (v := 5) hx hb dX0_withNumber_69 (by decide) ?_
  refine lv_icmp_ne (tgt := 83) hx hb dX0_withNumber_70 (by decide) (fun c_1 => ?_) (fun c_1 => ?_)
  · have hm := (if_neg c_1).symm.trans hm
    exact cw_X0_withNumber_83 fu C hret x4 x5 x2 (((x1.toUInt32 >>> ((7 : Int32).toUInt32 &&& Int32.toUInt32 31)).toInt32) &&& (31 : Int32)) F G hm hw (lv_sub hl [4, 5] rfl)
  · have hm := (if_pos c_1).symm.trans hm
    exact cw_X0_withNumber_73 fu C hret x3 x4 x5 x2 (((x1.toUInt32 >>> ((7 : Int32).toUInt32 &&& Int32.toUInt32 31)).toInt32) &&& (31 : Int32)) F G hm hw (lv_sub hl [3, 4, 5] rfl)
theorem cn_X0_withNumber_57 (fu : Nat) {res : Int32 × PF × PG} (F : PF) (G : PG) (hm : cb_X0_withNumber_57 fu F G = some res) : xn F ≤ xn res.2.1 := by
  unfold cb_X0_withNumber_57 at hm
  obtain rfl := Option.some.inj hm
  exact Nat.le_refl _
theorem cw_X0_withNumber_57 (fu : Nat) {res : Int32 × PF × PG} (C : cMC p R s m args c A v RX0 cX0_withNumber 6 2 44 (xn res.2.1 - xn K0)) (hret : ∀ (b1 : Nat) (H1 : Heap) (locs1 : List Loc) (ls1 : Array Slot) (pc : Nat), cMW s A v a b1 K0 res.2.1 res.2.2 H1 locs1 → narrow .int (.int res.1) = .int res.1 → decode cX0_withNumber pc = .ok (.ireturn, 1) → W p l e R s m args below meth c H1 locs1 (xn res.2.1 - xn K0) (2 * (xn res.2.1 - xn K0)) Q (F0 m pc ls1 [.int res.1])) (F : PF) (G : PG) (hm : cb_X0_withNumber_57 fu F G = some res) {b : Nat} {H : Heap} {locs : List Loc} (hw : cMW s A v a b K0 F G H locs) {ls : Array Slot} (hl : lv_has ls 6 []) : W p l e R s m args below meth c H locs (xn F - xn K0) (2 * (xn F - xn K0)) Q (F0 m 57 ls []) := by
  have hx := C.1
  have hb := C.2.1
  unfold cb_X0_withNumber_57 at hm
  refine lv_iconst (v := 2) hx hb dX0_withNumber_57 (by decide) ?_
  obtain rfl := Option.some.inj hm
  exact hret _ _ _ _ _ hw rfl dX0_withNumber_58
theorem cn_X0_withNumber_51 (fu : Nat) {res : Int32 × PF × PG} (x1 : Int32) (x2 : Int32) (x3 : Int32) (x4 : Int32) (x5 : Int32) (F : PF) (G : PG) (hm : cb_X0_withNumber_51 fu x1 x2 x3 x4 x5 F G = some res) : xn F ≤ xn res.2.1 := by
  unfold cb_X0_withNumber_51 at hm
  by_cases c_1 : x3 = (32 : Int32)
  · have hm := (if_pos c_1).symm.trans hm
    exact (cn_X0_withNumber_59 fu x1 x2 x3 x4 x5 F G hm)
  · have hm := (if_neg c_1).symm.trans hm
    exact (cn_X0_withNumber_57 fu F G hm)
theorem cw_X0_withNumber_51 (fu : Nat) {res : Int32 × PF × PG} (C : cMC p R s m args c A v RX0 cX0_withNumber 6 2 44 (xn res.2.1 - xn K0)) (hret : ∀ (b1 : Nat) (H1 : Heap) (locs1 : List Loc) (ls1 : Array Slot) (pc : Nat), cMW s A v a b1 K0 res.2.1 res.2.2 H1 locs1 → narrow .int (.int res.1) = .int res.1 → decode cX0_withNumber pc = .ok (.ireturn, 1) → W p l e R s m args below meth c H1 locs1 (xn res.2.1 - xn K0) (2 * (xn res.2.1 - xn K0)) Q (F0 m pc ls1 [.int res.1])) (x1 : Int32) (x2 : Int32) (x3 : Int32) (x4 : Int32) (x5 : Int32) (F : PF) (G : PG) (hm : cb_X0_withNumber_51 fu x1 x2 x3 x4 x5 F G = some res) {b : Nat} {H : Heap} {locs : List Loc} (hw : cMW s A v a b K0 F G H locs) {ls : Array Slot} (hl : lv_has ls 6 [(0, .ref (a 200)), (1, .int x1), (2, .int x2), (3, .int x3), (4, .int x4), (5, .int x5)]) : W p l e R s m args below meth c H locs (xn F - xn K0) (2 * (xn F - xn K0)) Q (F0 m 51 ls []) := by
  have hx := C.1
  have hb := C.2.1
  unfold cb_X0_withNumber_51 at hm
  refine lv_iload_n hx hb dX0_withNumber_51 rfl (lv_at hl 3 rfl) ?_
  refine lv_bipush (v := 32) hx hb dX0_withNumber_52 (by decide) ?_
  refine lv_icmp_eq (tgt := 59) hx hb dX0_withNumber_54 (by decide) (fun c_1 => ?_) (fun c_1 => ?_)
  · have hm := (if_pos c_1).symm.trans hm
    exact cw_X0_withNumber_59 fu C hret x1 x2 x3 x4 x5 F G hm hw (lv_sub hl [0, 1, 2, 3, 4, 5] rfl)
  · have hm := (if_neg c_1).symm.trans hm
    exact cw_X0_withNumber_57 fu C hret F G hm hw (lv_sub hl [] rfl)
theorem cn_X0_withNumber_47 (fu : Nat) {res : Int32 × PF × PG} (x1 : Int32) (x2 : Int32) (x3 : Int32) (x4 : Int32) (x5 : Int32) (F : PF) (G : PG) (hm : cb_X0_withNumber_47 fu x1 x2 x3 x4 x5 F G = some res) : xn F ≤ xn res.2.1 := by
  unfold cb_X0_withNumber_47 at hm
  by_cases c_1 : x3 = (0 : Int32)
  · have hm := (if_pos c_1).symm.trans hm
    exact (cn_X0_withNumber_59 fu x1 x2 x3 x4 x5 F G hm)
  · have hm := (if_neg c_1).symm.trans hm
    exact (cn_X0_withNumber_51 fu x1 x2 x3 x4 x5 F G hm)
theorem cw_X0_withNumber_47 (fu : Nat) {res : Int32 × PF × PG} (C : cMC p R s m args c A v RX0 cX0_withNumber 6 2 44 (xn res.2.1 - xn K0)) (hret : ∀ (b1 : Nat) (H1 : Heap) (locs1 : List Loc) (ls1 : Array Slot) (pc : Nat), cMW s A v a b1 K0 res.2.1 res.2.2 H1 locs1 → narrow .int (.int res.1) = .int res.1 → decode cX0_withNumber pc = .ok (.ireturn, 1) → W p l e R s m args below meth c H1 locs1 (xn res.2.1 - xn K0) (2 * (xn res.2.1 - xn K0)) Q (F0 m pc ls1 [.int res.1])) (x1 : Int32) (x2 : Int32) (x3 : Int32) (x4 : Int32) (x5 : Int32) (F : PF) (G : PG) (hm : cb_X0_withNumber_47 fu x1 x2 x3 x4 x5 F G = some res) {b : Nat} {H : Heap} {locs : List Loc} (hw : cMW s A v a b K0 F G H locs) {ls : Array Slot} (hl : lv_has ls 6 [(0, .ref (a 200)), (1, .int x1), (2, .int x2), (3, .int x3), (4, .int x4), (5, .int x5)]) : W p l e R s m args below meth c H locs (xn F - xn K0) (2 * (xn F - xn K0)) Q (F0 m 47 ls []) := by
  have hx := C.1
  have hb := C.2.1
  unfold cb_X0_withNumber_47 at hm
  refine lv_iload_n hx hb dX0_withNumber_47 rfl (lv_at hl 3 rfl) ?_
  refine lv_if_eq (tgt := 59) hx hb dX0_withNumber_48 (by decide) (fun c_1 => ?_) (fun c_1 => ?_)
  · have hm := (if_pos c_1).symm.trans hm
    exact cw_X0_withNumber_59 fu C hret x1 x2 x3 x4 x5 F G hm hw (lv_sub hl [0, 1, 2, 3, 4, 5] rfl)
  · have hm := (if_neg c_1).symm.trans hm
    exact cw_X0_withNumber_51 fu C hret x1 x2 x3 x4 x5 F G hm hw (lv_sub hl [0, 1, 2, 3, 4, 5] rfl)
theorem cn_X0_withNumber_42 (fu : Nat) {res : Int32 × PF × PG} (x1 : Int32) (x2 : Int32) (x3 : Int32) (x4 : Int32) (x5 : Int32) (F : PF) (G : PG) (hm : cb_X0_withNumber_42 fu x1 x2 x3 x4 x5 F G = some res) : xn F ≤ xn res.2.1 := by
  unfold cb_X0_withNumber_42 at hm
  by_cases c_1 : x2 = (5 : Int32)
  · have hm := (if_pos c_1).symm.trans hm
    exact (cn_X0_withNumber_47 fu x1 x2 x3 x4 x5 F G hm)
  · have hm := (if_neg c_1).symm.trans hm
    exact (cn_X0_withNumber_59 fu x1 x2 x3 x4 x5 F G hm)
theorem cw_X0_withNumber_42 (fu : Nat) {res : Int32 × PF × PG} (C : cMC p R s m args c A v RX0 cX0_withNumber 6 2 44 (xn res.2.1 - xn K0)) (hret : ∀ (b1 : Nat) (H1 : Heap) (locs1 : List Loc) (ls1 : Array Slot) (pc : Nat), cMW s A v a b1 K0 res.2.1 res.2.2 H1 locs1 → narrow .int (.int res.1) = .int res.1 → decode cX0_withNumber pc = .ok (.ireturn, 1) → W p l e R s m args below meth c H1 locs1 (xn res.2.1 - xn K0) (2 * (xn res.2.1 - xn K0)) Q (F0 m pc ls1 [.int res.1])) (x1 : Int32) (x2 : Int32) (x3 : Int32) (x4 : Int32) (x5 : Int32) (F : PF) (G : PG) (hm : cb_X0_withNumber_42 fu x1 x2 x3 x4 x5 F G = some res) {b : Nat} {H : Heap} {locs : List Loc} (hw : cMW s A v a b K0 F G H locs) {ls : Array Slot} (hl : lv_has ls 6 [(0, .ref (a 200)), (1, .int x1), (2, .int x2), (3, .int x3), (4, .int x4), (5, .int x5)]) : W p l e R s m args below meth c H locs (xn F - xn K0) (2 * (xn F - xn K0)) Q (F0 m 42 ls []) := by
  have hx := C.1
  have hb := C.2.1
  unfold cb_X0_withNumber_42 at hm
  refine lv_iload_n hx hb dX0_withNumber_42 rfl (lv_at hl 2 rfl) ?_
  refine lv_iconst (v := 5) hx hb dX0_withNumber_43 (by decide) ?_
  refine lv_icmp_ne (tgt := 59) hx hb dX0_withNumber_44 (by decide) (fun c_1 => ?_) (fun c_1 => ?_)
  · have hm := (if_neg c_1).symm.trans hm
    exact cw_X0_withNumber_59 fu C hret x1 x2 x3 x4 x5 F G hm hw (lv_sub hl [0, 1, 2, 3, 4, 5] rfl)
  · have hm := (if_pos c_1).symm.trans hm
    exact cw_X0_withNumber_47 fu C hret x1 x2 x3 x4 x5 F G hm hw (lv_sub hl [0, 1, 2, 3, 4, 5] rfl)
theorem cn_X0_withNumber_38 (fu : Nat) {res : Int32 × PF × PG} (x1 : Int32) (x2 : Int32) (x3 : Int32) (x4 : Int32) (x5 : Int32) (F : PF) (G : PG) (hm : cb_X0_withNumber_38 fu x1 x2 x3 x4 x5 F G = some res) : xn F ≤ xn res.2.1 := by
  unfold cb_X0_withNumber_38 at hm
  by_cases c_1 : x3 = (0 : Int32)
  · have hm := (if_pos c_1).symm.trans hm
    exact (cn_X0_withNumber_42 fu x1 x2 x3 x4 x5 F G hm)
  · have hm := (if_neg c_1).symm.trans hm
    exact (cn_X0_withNumber_57 fu F G hm)
theorem cw_X0_withNumber_38 (fu : Nat) {res : Int32 × PF × PG} (C : cMC p R s m args c A v RX0 cX0_withNumber 6 2 44 (xn res.2.1 - xn K0)) (hret : ∀ (b1 : Nat) (H1 : Heap) (locs1 : List Loc) (ls1 : Array Slot) (pc : Nat), cMW s A v a b1 K0 res.2.1 res.2.2 H1 locs1 → narrow .int (.int res.1) = .int res.1 → decode cX0_withNumber pc = .ok (.ireturn, 1) → W p l e R s m args below meth c H1 locs1 (xn res.2.1 - xn K0) (2 * (xn res.2.1 - xn K0)) Q (F0 m pc ls1 [.int res.1])) (x1 : Int32) (x2 : Int32) (x3 : Int32) (x4 : Int32) (x5 : Int32) (F : PF) (G : PG) (hm : cb_X0_withNumber_38 fu x1 x2 x3 x4 x5 F G = some res) {b : Nat} {H : Heap} {locs : List Loc} (hw : cMW s A v a b K0 F G H locs) {ls : Array Slot} (hl : lv_has ls 6 [(0, .ref (a 200)), (1, .int x1), (2, .int x2), (3, .int x3), (4, .int x4), (5, .int x5)]) : W p l e R s m args below meth c H locs (xn F - xn K0) (2 * (xn F - xn K0)) Q (F0 m 38 ls []) := by
  have hx := C.1
  have hb := C.2.1
  unfold cb_X0_withNumber_38 at hm
  refine lv_iload_n hx hb dX0_withNumber_38 rfl (lv_at hl 3 rfl) ?_
  refine lv_if_ne (tgt := 57) hx hb dX0_withNumber_39 (by decide) (fun c_1 => ?_) (fun c_1 => ?_)
  · have hm := (if_neg c_1).symm.trans hm
    exact cw_X0_withNumber_57 fu C hret F G hm hw (lv_sub hl [] rfl)
  · have hm := (if_pos c_1).symm.trans hm
    exact cw_X0_withNumber_42 fu C hret x1 x2 x3 x4 x5 F G hm hw (lv_sub hl [0, 1, 2, 3, 4, 5] rfl)
theorem cn_X0_withNumber_0 (fu : Nat) {res : Int32 × PF × PG} (x1 : Int32) (F : PF) (G : PG) (hm : cb_X0_withNumber_0 fu x1 F G = some res) : xn F ≤ xn res.2.1 := by
  unfold cb_X0_withNumber_0 at hm
  have hm := (ix_elim hm).2
  by_cases c_1 : (((x1.toUInt32 >>> ((12 : Int32).toUInt32 &&& Int32.toUInt32 31)).toInt32) &&& (7 : Int32)) = (1 : Int32)
  · have hm := (if_pos c_1).symm.trans hm
    exact (cn_X0_withNumber_38 fu x1 (((x1.toUInt32 >>> ((12 : Int32).toUInt32 &&& Int32.toUInt32 31)).toInt32) &&& (7 : Int32)) ((x1.toUInt32 >>> ((25 : Int32).toUInt32 &&& Int32.toUInt32 31)).toInt32) (G 1 (((x1.toUInt32 >>> ((15 : Int32).toUInt32 &&& Int32.toUInt32 31)).toInt32) &&& (31 : Int32)).toNatClampNeg) (x1 >>> ((20 : Int32) &&& 31)) F G hm)
  · have hm := (if_neg c_1).symm.trans hm
    exact (cn_X0_withNumber_42 fu x1 (((x1.toUInt32 >>> ((12 : Int32).toUInt32 &&& Int32.toUInt32 31)).toInt32) &&& (7 : Int32)) ((x1.toUInt32 >>> ((25 : Int32).toUInt32 &&& Int32.toUInt32 31)).toInt32) (G 1 (((x1.toUInt32 >>> ((15 : Int32).toUInt32 &&& Int32.toUInt32 31)).toInt32) &&& (31 : Int32)).toNatClampNeg) (x1 >>> ((20 : Int32) &&& 31)) F G hm)
theorem cw_X0_withNumber_0 (fu : Nat) {res : Int32 × PF × PG} (C : cMC p R s m args c A v RX0 cX0_withNumber 6 2 44 (xn res.2.1 - xn K0)) (hret : ∀ (b1 : Nat) (H1 : Heap) (locs1 : List Loc) (ls1 : Array Slot) (pc : Nat), cMW s A v a b1 K0 res.2.1 res.2.2 H1 locs1 → narrow .int (.int res.1) = .int res.1 → decode cX0_withNumber pc = .ok (.ireturn, 1) → W p l e R s m args below meth c H1 locs1 (xn res.2.1 - xn K0) (2 * (xn res.2.1 - xn K0)) Q (F0 m pc ls1 [.int res.1])) (x1 : Int32) (F : PF) (G : PG) (hm : cb_X0_withNumber_0 fu x1 F G = some res) {b : Nat} {H : Heap} {locs : List Loc} (hw : cMW s A v a b K0 F G H locs) {ls : Array Slot} (hl : lv_has ls 6 [(0, .ref (a 200)), (1, .int x1)]) : W p l e R s m args below meth c H locs (xn F - xn K0) (2 * (xn F - xn K0)) Q (F0 m 0 ls []) := by
  have hx := C.1
  have hb := C.2.1
  unfold cb_X0_withNumber_0 at hm
  refine lv_iload_n hx hb dX0_withNumber_0 rfl (lv_at hl 1 rfl) ?_
  refine lv_bipush (v := 12) hx hb dX0_withNumber_1 (by decide) ?_
  refine lv_iushr hx hb dX0_withNumber_3 rfl ?_
  refine lv_bipush (v := 7) hx hb dX0_withNumber_4 (by decide) ?_
  refine lv_iand hx hb dX0_withNumber_6 ?_
  refine lv_istore_n (lv' := [(2, .int (((x1.toUInt32 >>> ((12 : Int32).toUInt32 &&& Int32.toUInt32 31)).toInt32) &&& (7 : Int32))), (0, .ref (a 200)), (1, .int x1)]) hx hb dX0_withNumber_7 rfl hl (by decide) rfl (fun ls hl => ?_)
  refine lv_iload_n hx hb dX0_withNumber_8 rfl (lv_at hl 2 rfl) ?_
  refine lv_bipush (v := 25) hx hb dX0_withNumber_9 (by decide) ?_
  refine lv_iushr hx hb dX0_withNumber_11 rfl ?_
  refine lv_istore_n (lv' := [(3, .int ((x1.toUInt32 >>> ((25 : Int32).toUInt32 &&& Int32.toUInt32 31)).toInt32)), (2, .int (((x1.toUInt32 >>> ((12 : Int32).toUInt32 &&& Int32.toUInt32 31)).toInt32) &&& (7 : Int32))), (0, .ref (a 200)), (1, .int x1)]) hx hb dX0_withNumber_12 rfl hl (by decide) rfl (fun ls hl => ?_)
  refine lv_aload_n hx hb dX0_withNumber_13 rfl (lv_at hl 2 rfl) ?_
  refine cg_X0_15 C hw dX0_withNumber_14 ?_
  refine lv_iload_n hx hb dX0_withNumber_17 rfl (lv_at hl 3 rfl) ?_
  refine lv_bipush (v := 15) hx hb dX0_withNumber_18 (by decide) ?_
  refine lv_iushr hx hb dX0_withNumber_20 rfl ?_
  refine lv_bipush (v := 31) hx hb dX0_withNumber_21 (by decide) ?_
  refine lv_iand hx hb dX0_withNumber_23 ?_
  obtain ⟨hi, hm⟩ := ix_elim hm
  refine cal_1 C hw hi dX0_withNumber_24 ?_
  refine lv_istore (lv' := [(4, .int (G 1 (((x1.toUInt32 >>> ((15 : Int32).toUInt32 &&& Int32.toUInt32 31)).toInt32) &&& (31 : Int32)).toNatClampNeg)), (3, .int ((x1.toUInt32 >>> ((25 : Int32).toUInt32 &&& Int32.toUInt32 31)).toInt32)), (2, .int (((x1.toUInt32 >>> ((12 : Int32).toUInt32 &&& Int32.toUInt32 31)).toInt32) &&& (7 : Int32))), (0, .ref (a 200)), (1, .int x1)]) hx hb dX0_withNumber_25 hl (by decide) rfl (fun ls hl => ?_)
  refine lv_iload_n hx hb dX0_withNumber_27 rfl (lv_at hl 4 rfl) ?_
  refine lv_bipush (v := 20) hx hb dX0_withNumber_28 (by decide) ?_
  refine lv_ishr hx hb dX0_withNumber_30 ?_
  refine lv_istore (lv' := [(5, .int (x1 >>> ((20 : Int32) &&& 31))), (4, .int (G 1 (((x1.toUInt32 >>> ((15 : Int32).toUInt32 &&& Int32.toUInt32 31)).toInt32) &&& (31 : Int32)).toNatClampNeg)), (3, .int ((x1.toUInt32 >>> ((25 : Int32).toUInt32 &&& Int32.toUInt32 31)).toInt32)), (2, .int (((x1.toUInt32 >>> ((12 : Int32).toUInt32 &&& Int32.toUInt32 31)).toInt32) &&& (7 : Int32))), (0, .ref (a 200)), (1, .int x1)]) hx hb dX0_withNumber_31 hl (by decide) rfl (fun ls hl => ?_)
  refine lv_iload_n hx hb dX0_withNumber_33 rfl (lv_at hl 3 rfl) ?_
  refine lv_iconst (v := 1) hx hb dX0_withNumber_34 (by decide) ?_
  refine lv_icmp_ne (tgt := 42) hx hb dX0_withNumber_35 (by decide) (fun c_1 => ?_) (fun c_1 => ?_)
  · have hm := (if_neg c_1).symm.trans hm
    exact cw_X0_withNumber_42 fu C hret x1 (((x1.toUInt32 >>> ((12 : Int32).toUInt32 &&& Int32.toUInt32 31)).toInt32) &&& (7 : Int32)) ((x1.toUInt32 >>> ((25 : Int32).toUInt32 &&& Int32.toUInt32 31)).toInt32) (G 1 (((x1.toUInt32 >>> ((15 : Int32).toUInt32 &&& Int32.toUInt32 31)).toInt32) &&& (31 : Int32)).toNatClampNeg) (x1 >>> ((20 : Int32) &&& 31)) F G hm hw (lv_sub hl [4, 5, 3, 2, 1, 0] rfl)
  · have hm := (if_pos c_1).symm.trans hm
    exact cw_X0_withNumber_38 fu C hret x1 (((x1.toUInt32 >>> ((12 : Int32).toUInt32 &&& Int32.toUInt32 31)).toInt32) &&& (7 : Int32)) ((x1.toUInt32 >>> ((25 : Int32).toUInt32 &&& Int32.toUInt32 31)).toInt32) (G 1 (((x1.toUInt32 >>> ((15 : Int32).toUInt32 &&& Int32.toUInt32 31)).toInt32) &&& (31 : Int32)).toNatClampNeg) (x1 >>> ((20 : Int32) &&& 31)) F G hm hw (lv_sub hl [4, 5, 3, 2, 1, 0] rfl)
theorem cn_X0_withNumber (fu : Nat) (x1 : Int32) (F : PF) (G : PG) (q : Int32 × PF × PG) (hm : cf_X0_withNumber fu x1 F G = some q) : xn F ≤ xn q.2.1 := cn_X0_withNumber_0 fu x1 F G hm
theorem ck_X0_withNumber (l : Launch) (v : EV) (a : Nat → Nat) (b sz : Nat) (fu : Nat) (x1 : Int32) (F : PF) (G : PG) (r : Int32) (F1 : PF) (G1 : PG) (hm : cf_X0_withNumber fu x1 F G = some (r, F1, G1)) : cMI l yX0_withNumber cX0_withNumber 6 (some .int) 2 44 v a b sz [.ref (a 200), .int x1] F G r F1 G1 := cMI.of (ty := .int) (by decide) rfl (Nat.le_of_ble_eq_true rfl) (fun p e R s m args below meth c Q A H locs ls C hw hl hret => cw_X0_withNumber_0 fu (res := (r, F1, G1)) C hret x1 F G hm hw hl)
def cb_X0_does_112 (fu : Nat) (z0 : Int32) (F : PF) (G : PG) : PR := some (z0, F, G)
def cb_X0_does_96 (fu : Nat) (x1 : Int32) (F : PF) (G : PG) : PR := (cf_X0_keep fu (((x1.toUInt32 >>> ((7 : Int32).toUInt32 &&& Int32.toUInt32 31)).toInt32) &&& (31 : Int32)) (x1 &&& (-4096 : Int32)) F G).bind (fun q => cb_X0_does_112 fu q.1 q.2.1 q.2.2)
def cb_X0_does_134 (fu : Nat) (z0 : Int32) (F : PF) (G : PG) : PR := some (z0, F, G)
def cb_X0_does_113 (fu : Nat) (x1 : Int32) (F : PF) (G : PG) : PR := (cf_X0_keep fu (((x1.toUInt32 >>> ((7 : Int32).toUInt32 &&& Int32.toUInt32 31)).toInt32) &&& (31 : Int32)) ((F 2) + (x1 &&& (-4096 : Int32))) F G).bind (fun q => cb_X0_does_134 fu q.1 q.2.1 q.2.2)
def cb_X0_does_155 (fu : Nat) (z0 : Int32) (F : PF) (G : PG) : PR := some (z0, F, G)
def cb_X0_does_151 (fu : Nat) (z0 : Int32) (z1 : Int32) (z2 : Int32) (F : PF) (G : PG) : PR := (cf_X0_link fu z2 (z1 + z0) F G).bind (fun q => cb_X0_does_155 fu q.1 q.2.1 q.2.2)
def cb_X0_does_135 (fu : Nat) (x1 : Int32) (F : PF) (G : PG) : PR := (cf_X0_offsetJ fu x1 F G).bind (fun q => cb_X0_does_151 fu q.1 (F 2) (((x1.toUInt32 >>> ((7 : Int32).toUInt32 &&& Int32.toUInt32 31)).toInt32) &&& (31 : Int32)) q.2.1 q.2.2)
def cb_X0_does_203 (fu : Nat) (z0 : Int32) (F : PF) (G : PG) : PR := some (z0, F, G)
def cb_X0_does_202 (fu : Nat) (F : PF) (G : PG) : PR := cb_X0_does_203 fu 2 F G
def cb_X0_does_199 (fu : Nat) (z0 : Int32) (F : PF) (G : PG) : PR := cb_X0_does_203 fu z0 F G
def cb_X0_does_187 (fu : Nat) (x1 : Int32) (x2 : Int32) (F : PF) (G : PG) : PR := (cf_X0_link fu (((x1.toUInt32 >>> ((7 : Int32).toUInt32 &&& Int32.toUInt32 31)).toInt32) &&& (31 : Int32)) x2 F G).bind (fun q => cb_X0_does_199 fu q.1 q.2.1 q.2.2)
def cb_X0_does_156 (fu : Nat) (x1 : Int32) (F : PF) (G : PG) : PR := if ixb (((x1.toUInt32 >>> ((15 : Int32).toUInt32 &&& Int32.toUInt32 31)).toInt32) &&& (31 : Int32)) 32 = true then (if (((x1.toUInt32 >>> ((12 : Int32).toUInt32 &&& Int32.toUInt32 31)).toInt32) &&& (7 : Int32)) = (0 : Int32) then cb_X0_does_187 fu x1 (((G 1 (((x1.toUInt32 >>> ((15 : Int32).toUInt32 &&& Int32.toUInt32 31)).toInt32) &&& (31 : Int32)).toNatClampNeg) + (x1 >>> ((20 : Int32) &&& 31))) &&& (-2 : Int32)) F G else cb_X0_does_202 fu F G) else none
def cb_X0_does_209 (fu : Nat) (z0 : Int32) (F : PF) (G : PG) : PR := some (z0, F, G)
def cb_X0_does_204 (fu : Nat) (x1 : Int32) (F : PF) (G : PG) : PR := (cf_X0_branch fu x1 F G).bind (fun q => cb_X0_does_209 fu q.1 q.2.1 q.2.2)
def cb_X0_does_215 (fu : Nat) (z0 : Int32) (F : PF) (G : PG) : PR := some (z0, F, G)
def cb_X0_does_210 (fu : Nat) (x1 : Int32) (F : PF) (G : PG) : PR := (cf_X0_load fu x1 F G).bind (fun q => cb_X0_does_215 fu q.1 q.2.1 q.2.2)
def cb_X0_does_221 (fu : Nat) (z0 : Int32) (F : PF) (G : PG) : PR := some (z0, F, G)
def cb_X0_does_216 (fu : Nat) (x1 : Int32) (F : PF) (G : PG) : PR := (cf_X0_store fu x1 F G).bind (fun q => cb_X0_does_221 fu q.1 q.2.1 q.2.2)
def cb_X0_does_227 (fu : Nat) (z0 : Int32) (F : PF) (G : PG) : PR := some (z0, F, G)
def cb_X0_does_222 (fu : Nat) (x1 : Int32) (F : PF) (G : PG) : PR := (cf_X0_withNumber fu x1 F G).bind (fun q => cb_X0_does_227 fu q.1 q.2.1 q.2.2)
def cb_X0_does_233 (fu : Nat) (z0 : Int32) (F : PF) (G : PG) : PR := some (z0, F, G)
def cb_X0_does_228 (fu : Nat) (x1 : Int32) (F : PF) (G : PG) : PR := (cf_X0_withRegister fu x1 F G).bind (fun q => cb_X0_does_233 fu q.1 q.2.1 q.2.2)
def cb_X0_does_249 (fu : Nat) (z0 : Int32) (F : PF) (G : PG) : PR := some (z0, F, G)
def cb_X0_does_248 (fu : Nat) (F : PF) (G : PG) : PR := cb_X0_does_249 fu 2 F G
def cb_X0_does_244 (fu : Nat) (F : PF) (G : PG) : PR := cb_X0_does_249 fu 0 F G
def cb_X0_does_234 (fu : Nat) (x1 : Int32) (F : PF) (G : PG) : PR := if (((x1.toUInt32 >>> ((12 : Int32).toUInt32 &&& Int32.toUInt32 31)).toInt32) &&& (7 : Int32)) = (0 : Int32) then cb_X0_does_244 fu F G else cb_X0_does_248 fu F G
def cb_X0_does_273 (fu : Nat) (z0 : Int32) (F : PF) (G : PG) : PR := some (z0, F, G)
def cb_X0_does_272 (fu : Nat) (F : PF) (G : PG) : PR := cb_X0_does_273 fu 2 F G
def cb_X0_does_267 (fu : Nat) (F : PF) (G : PG) : PR := cb_X0_does_273 fu 7 F G
def cb_X0_does_261 (fu : Nat) (x1 : Int32) (F : PF) (G : PG) : PR := if x1 = (1048691 : Int32) then cb_X0_does_267 fu F G else cb_X0_does_272 fu F G
def cb_X0_does_256 (fu : Nat) (F : PF) (G : PG) : PR := cb_X0_does_273 fu 6 F G
def cb_X0_does_250 (fu : Nat) (x1 : Int32) (F : PF) (G : PG) : PR := if x1 = (115 : Int32) then cb_X0_does_256 fu F G else cb_X0_does_261 fu x1 F G
def cb_X0_does_0 (fu : Nat) (x1 : Int32) (F : PF) (G : PG) : PR := if (x1 &&& (127 : Int32)) = 3 then cb_X0_does_210 fu x1 F G else if (x1 &&& (127 : Int32)) = 15 then cb_X0_does_234 fu x1 F G else if (x1 &&& (127 : Int32)) = 19 then cb_X0_does_222 fu x1 F G else if (x1 &&& (127 : Int32)) = 23 then cb_X0_does_113 fu x1 F G else if (x1 &&& (127 : Int32)) = 35 then cb_X0_does_216 fu x1 F G else if (x1 &&& (127 : Int32)) = 51 then cb_X0_does_228 fu x1 F G else if (x1 &&& (127 : Int32)) = 55 then cb_X0_does_96 fu x1 F G else if (x1 &&& (127 : Int32)) = 99 then cb_X0_does_204 fu x1 F G else if (x1 &&& (127 : Int32)) = 103 then cb_X0_does_156 fu x1 F G else if (x1 &&& (127 : Int32)) = 111 then cb_X0_does_135 fu x1 F G else cb_X0_does_250 fu x1 F G
def cf_X0_does (fu : Nat) (x1 : Int32) (F : PF) (G : PG) : PR := cb_X0_does_0 fu x1 F G
theorem cn_X0_does_112 (fu : Nat) {res : Int32 × PF × PG} (z0 : Int32) (F : PF) (G : PG) (hm : cb_X0_does_112 fu z0 F G = some res) : xn F ≤ xn res.2.1 := by
  unfold cb_X0_does_112 at hm
  obtain rfl := Option.some.inj hm
  exact Nat.le_refl _
theorem cw_X0_does_112 (fu : Nat) {res : Int32 × PF × PG} (C : cMC p R s m args c A v RX0 cX0_does 3 3 69 (xn res.2.1 - xn K0)) (hret : ∀ (b1 : Nat) (H1 : Heap) (locs1 : List Loc) (ls1 : Array Slot) (pc : Nat), cMW s A v a b1 K0 res.2.1 res.2.2 H1 locs1 → narrow .int (.int res.1) = .int res.1 → decode cX0_does pc = .ok (.ireturn, 1) → W p l e R s m args below meth c H1 locs1 (xn res.2.1 - xn K0) (2 * (xn res.2.1 - xn K0)) Q (F0 m pc ls1 [.int res.1])) (z0 : Int32) (F : PF) (G : PG) (hm : cb_X0_does_112 fu z0 F G = some res) {b : Nat} {H : Heap} {locs : List Loc} (hw : cMW s A v a b K0 F G H locs) {ls : Array Slot} (hl : lv_has ls 3 []) : W p l e R s m args below meth c H locs (xn F - xn K0) (2 * (xn F - xn K0)) Q (F0 m 112 ls [.int z0]) := by
  have hx := C.1
  have hb := C.2.1
  unfold cb_X0_does_112 at hm
  obtain rfl := Option.some.inj hm
  exact hret _ _ _ _ _ hw rfl dX0_does_112
theorem cn_X0_does_96 (fu : Nat) {res : Int32 × PF × PG} (x1 : Int32) (F : PF) (G : PG) (hm : cb_X0_does_96 fu x1 F G = some res) : xn F ≤ xn res.2.1 := by
  unfold cb_X0_does_96 at hm
  obtain ⟨⟨r1, F1, G1⟩, hc, hm⟩ := bind_elim hm
  exact Nat.le_trans (cn_X0_keep fu (((x1.toUInt32 >>> ((7 : Int32).toUInt32 &&& Int32.toUInt32 31)).toInt32) &&& (31 : Int32)) (x1 &&& (-4096 : Int32)) F G _ hc) (cn_X0_does_112 fu r1 F1 G1 hm)
theorem cw_X0_does_96 (fu : Nat) {res : Int32 × PF × PG} (C : cMC p R s m args c A v RX0 cX0_does 3 3 69 (xn res.2.1 - xn K0)) (hret : ∀ (b1 : Nat) (H1 : Heap) (locs1 : List Loc) (ls1 : Array Slot) (pc : Nat), cMW s A v a b1 K0 res.2.1 res.2.2 H1 locs1 → narrow .int (.int res.1) = .int res.1 → decode cX0_does pc = .ok (.ireturn, 1) → W p l e R s m args below meth c H1 locs1 (xn res.2.1 - xn K0) (2 * (xn res.2.1 - xn K0)) Q (F0 m pc ls1 [.int res.1])) (x1 : Int32) (F : PF) (G : PG) (hm : cb_X0_does_96 fu x1 F G = some res) {b : Nat} {H : Heap} {locs : List Loc} (hw : cMW s A v a b K0 F G H locs) {ls : Array Slot} (hl : lv_has ls 3 [(0, .ref (a 200)), (1, .int x1)]) : W p l e R s m args below meth c H locs (xn F - xn K0) (2 * (xn F - xn K0)) Q (F0 m 96 ls []) := by
  have hx := C.1
  have hb := C.2.1
  unfold cb_X0_does_96 at hm
  refine lv_aload_n hx hb dX0_does_96 rfl (lv_at hl 0 rfl) ?_
  refine lv_iload_n hx hb dX0_does_97 rfl (lv_at hl 1 rfl) ?_
  refine lv_bipush (v := 7) hx hb dX0_does_98 (by decide) ?_
  refine lv_iushr hx hb dX0_does_100 rfl ?_
  refine lv_bipush (v := 31) hx hb dX0_does_101 (by decide) ?_
  refine lv_iand hx hb dX0_does_103 ?_
  refine lv_iload_n hx hb dX0_does_104 rfl (lv_at hl 1 rfl) ?_
  refine lv_sipush (v := (-4096)) hx hb dX0_does_105 (by decide) ?_
  refine lv_iand hx hb dX0_does_108 ?_
  obtain ⟨⟨r1, F1, G1⟩, hc, hm⟩ := bind_elim hm
  refine ccallI (n := 2) (As := [.int (((x1.toUInt32 >>> ((7 : Int32).toUInt32 &&& Int32.toUInt32 31)).toInt32) &&& (31 : Int32)), .int (x1 &&& (-4096 : Int32))]) (rest := []) C hw (ck_X0_keep l v a _ _ fu (((x1.toUInt32 >>> ((7 : Int32).toUInt32 &&& Int32.toUInt32 31)).toInt32) &&& (31 : Int32)) (x1 &&& (-4096 : Int32)) F G r1 F1 G1 hc) (cn_X0_keep fu (((x1.toUInt32 >>> ((7 : Int32).toUInt32 &&& Int32.toUInt32 31)).toInt32) &&& (31 : Int32)) (x1 &&& (-4096 : Int32)) F G _ hc) (Nat.sub_le_sub_right (cn_X0_does_112 fu r1 F1 G1 hm) _) (crecv_X0 C hw) cm_947 cm_948 cm_949 cm_938 cm_950 (by decide +kernel) rfl (by omega) (by omega) hl.1 rfl (Nat.le_of_ble_eq_true rfl) dX0_does_109 (fun b H locs hw => ?_)
  exact cw_X0_does_112 fu C hret r1 F1 G1 hm hw (lv_sub hl [] rfl)
theorem cn_X0_does_134 (fu : Nat) {res : Int32 × PF × PG} (z0 : Int32) (F : PF) (G : PG) (hm : cb_X0_does_134 fu z0 F G = some res) : xn F ≤ xn res.2.1 := by
  unfold cb_X0_does_134 at hm
  obtain rfl := Option.some.inj hm
  exact Nat.le_refl _
theorem cw_X0_does_134 (fu : Nat) {res : Int32 × PF × PG} (C : cMC p R s m args c A v RX0 cX0_does 3 3 69 (xn res.2.1 - xn K0)) (hret : ∀ (b1 : Nat) (H1 : Heap) (locs1 : List Loc) (ls1 : Array Slot) (pc : Nat), cMW s A v a b1 K0 res.2.1 res.2.2 H1 locs1 → narrow .int (.int res.1) = .int res.1 → decode cX0_does pc = .ok (.ireturn, 1) → W p l e R s m args below meth c H1 locs1 (xn res.2.1 - xn K0) (2 * (xn res.2.1 - xn K0)) Q (F0 m pc ls1 [.int res.1])) (z0 : Int32) (F : PF) (G : PG) (hm : cb_X0_does_134 fu z0 F G = some res) {b : Nat} {H : Heap} {locs : List Loc} (hw : cMW s A v a b K0 F G H locs) {ls : Array Slot} (hl : lv_has ls 3 []) : W p l e R s m args below meth c H locs (xn F - xn K0) (2 * (xn F - xn K0)) Q (F0 m 134 ls [.int z0]) := by
  have hx := C.1
  have hb := C.2.1
  unfold cb_X0_does_134 at hm
  obtain rfl := Option.some.inj hm
  exact hret _ _ _ _ _ hw rfl dX0_does_134
theorem cn_X0_does_113 (fu : Nat) {res : Int32 × PF × PG} (x1 : Int32) (F : PF) (G : PG) (hm : cb_X0_does_113 fu x1 F G = some res) : xn F ≤ xn res.2.1 := by
  unfold cb_X0_does_113 at hm
  obtain ⟨⟨r1, F1, G1⟩, hc, hm⟩ := bind_elim hm
  exact Nat.le_trans (cn_X0_keep fu (((x1.toUInt32 >>> ((7 : Int32).toUInt32 &&& Int32.toUInt32 31)).toInt32) &&& (31 : Int32)) ((F 2) + (x1 &&& (-4096 : Int32))) F G _ hc) (cn_X0_does_134 fu r1 F1 G1 hm)
theorem cw_X0_does_113 (fu : Nat) {res : Int32 × PF × PG} (C : cMC p R s m args c A v RX0 cX0_does 3 3 69 (xn res.2.1 - xn K0)) (hret : ∀ (b1 : Nat) (H1 : Heap) (locs1 : List Loc) (ls1 : Array Slot) (pc : Nat), cMW s A v a b1 K0 res.2.1 res.2.2 H1 locs1 → narrow .int (.int res.1) = .int res.1 → decode cX0_does pc = .ok (.ireturn, 1) → W p l e R s m args below meth c H1 locs1 (xn res.2.1 - xn K0) (2 * (xn res.2.1 - xn K0)) Q (F0 m pc ls1 [.int res.1])) (x1 : Int32) (F : PF) (G : PG) (hm : cb_X0_does_113 fu x1 F G = some res) {b : Nat} {H : Heap} {locs : List Loc} (hw : cMW s A v a b K0 F G H locs) {ls : Array Slot} (hl : lv_has ls 3 [(0, .ref (a 200)), (1, .int x1)]) : W p l e R s m args below meth c H locs (xn F - xn K0) (2 * (xn F - xn K0)) Q (F0 m 113 ls []) := by
  have hx := C.1
  have hb := C.2.1
  unfold cb_X0_does_113 at hm
  refine lv_aload_n hx hb dX0_does_113 rfl (lv_at hl 0 rfl) ?_
  refine lv_iload_n hx hb dX0_does_114 rfl (lv_at hl 1 rfl) ?_
  refine lv_bipush (v := 7) hx hb dX0_does_115 (by decide) ?_
  refine lv_iushr hx hb dX0_does_117 rfl ?_
  refine lv_bipush (v := 31) hx hb dX0_does_118 (by decide) ?_
  refine lv_iand hx hb dX0_does_120 ?_
  refine lv_aload_n hx hb dX0_does_121 rfl (lv_at hl 0 rfl) ?_
  refine cg_X0_18 C hw dX0_does_122 ?_
  refine lv_iload_n hx hb dX0_does_125 rfl (lv_at hl 1 rfl) ?_
  refine lv_sipush (v := (-4096)) hx hb dX0_does_126 (by decide) ?_
  refine lv_iand hx hb dX0_does_129 ?_
  refine lv_iadd hx hb dX0_does_130 ?_
  obtain ⟨⟨r1, F1, G1⟩, hc, hm⟩ := bind_elim hm
  refine ccallI (n := 2) (As := [.int (((x1.toUInt32 >>> ((7 : Int32).toUInt32 &&& Int32.toUInt32 31)).toInt32) &&& (31 : Int32)), .int ((F 2) + (x1 &&& (-4096 : Int32)))]) (rest := []) C hw (ck_X0_keep l v a _ _ fu (((x1.toUInt32 >>> ((7 : Int32).toUInt32 &&& Int32.toUInt32 31)).toInt32) &&& (31 : Int32)) ((F 2) + (x1 &&& (-4096 : Int32))) F G r1 F1 G1 hc) (cn_X0_keep fu (((x1.toUInt32 >>> ((7 : Int32).toUInt32 &&& Int32.toUInt32 31)).toInt32) &&& (31 : Int32)) ((F 2) + (x1 &&& (-4096 : Int32))) F G _ hc) (Nat.sub_le_sub_right (cn_X0_does_134 fu r1 F1 G1 hm) _) (crecv_X0 C hw) cm_947 cm_948 cm_949 cm_938 cm_950 (by decide +kernel) rfl (by omega) (by omega) hl.1 rfl (Nat.le_of_ble_eq_true rfl) dX0_does_131 (fun b H locs hw => ?_)
  exact cw_X0_does_134 fu C hret r1 F1 G1 hm hw (lv_sub hl [] rfl)
theorem cn_X0_does_155 (fu : Nat) {res : Int32 × PF × PG} (z0 : Int32) (F : PF) (G : PG) (hm : cb_X0_does_155 fu z0 F G = some res) : xn F ≤ xn res.2.1 := by
  unfold cb_X0_does_155 at hm
  obtain rfl := Option.some.inj hm
  exact Nat.le_refl _
theorem cw_X0_does_155 (fu : Nat) {res : Int32 × PF × PG} (C : cMC p R s m args c A v RX0 cX0_does 3 3 69 (xn res.2.1 - xn K0)) (hret : ∀ (b1 : Nat) (H1 : Heap) (locs1 : List Loc) (ls1 : Array Slot) (pc : Nat), cMW s A v a b1 K0 res.2.1 res.2.2 H1 locs1 → narrow .int (.int res.1) = .int res.1 → decode cX0_does pc = .ok (.ireturn, 1) → W p l e R s m args below meth c H1 locs1 (xn res.2.1 - xn K0) (2 * (xn res.2.1 - xn K0)) Q (F0 m pc ls1 [.int res.1])) (z0 : Int32) (F : PF) (G : PG) (hm : cb_X0_does_155 fu z0 F G = some res) {b : Nat} {H : Heap} {locs : List Loc} (hw : cMW s A v a b K0 F G H locs) {ls : Array Slot} (hl : lv_has ls 3 []) : W p l e R s m args below meth c H locs (xn F - xn K0) (2 * (xn F - xn K0)) Q (F0 m 155 ls [.int z0]) := by
  have hx := C.1
  have hb := C.2.1
  unfold cb_X0_does_155 at hm
  obtain rfl := Option.some.inj hm
  exact hret _ _ _ _ _ hw rfl dX0_does_155
theorem cn_X0_does_151 (fu : Nat) {res : Int32 × PF × PG} (z0 : Int32) (z1 : Int32) (z2 : Int32) (F : PF) (G : PG) (hm : cb_X0_does_151 fu z0 z1 z2 F G = some res) : xn F ≤ xn res.2.1 := by
  unfold cb_X0_does_151 at hm
  obtain ⟨⟨r1, F1, G1⟩, hc, hm⟩ := bind_elim hm
  exact Nat.le_trans (cn_X0_link fu z2 (z1 + z0) F G _ hc) (cn_X0_does_155 fu r1 F1 G1 hm)
theorem cw_X0_does_151 (fu : Nat) {res : Int32 × PF × PG} (C : cMC p R s m args c A v RX0 cX0_does 3 3 69 (xn res.2.1 - xn K0)) (hret : ∀ (b1 : Nat) (H1 : Heap) (locs1 : List Loc) (ls1 : Array Slot) (pc : Nat), cMW s A v a b1 K0 res.2.1 res.2.2 H1 locs1 → narrow .int (.int res.1) = .int res.1 → decode cX0_does pc = .ok (.ireturn, 1) → W p l e R s m args below meth c H1 locs1 (xn res.2.1 - xn K0) (2 * (xn res.2.1 - xn K0)) Q (F0 m pc ls1 [.int res.1])) (z0 : Int32) (z1 : Int32) (z2 : Int32) (F : PF) (G : PG) (hm : cb_X0_does_151 fu z0 z1 z2 F G = some res) {b : Nat} {H : Heap} {locs : List Loc} (hw : cMW s A v a b K0 F G H locs) {ls : Array Slot} (hl : lv_has ls 3 []) : W p l e R s m args below meth c H locs (xn F - xn K0) (2 * (xn F - xn K0)) Q (F0 m 151 ls [.int z0, .int z1, .int z2, .ref (a 200)]) := by
  have hx := C.1
  have hb := C.2.1
  unfold cb_X0_does_151 at hm
  refine lv_iadd hx hb dX0_does_151 ?_
  obtain ⟨⟨r1, F1, G1⟩, hc, hm⟩ := bind_elim hm
  refine ccallI (n := 2) (As := [.int z2, .int (z1 + z0)]) (rest := []) C hw (ck_X0_link l v a _ _ fu z2 (z1 + z0) F G r1 F1 G1 hc) (cn_X0_link fu z2 (z1 + z0) F G _ hc) (Nat.sub_le_sub_right (cn_X0_does_155 fu r1 F1 G1 hm) _) (crecv_X0 C hw) cm_972 cm_973 cm_974 cm_938 cm_975 (by decide +kernel) rfl (by omega) (by omega) hl.1 rfl (Nat.le_of_ble_eq_true rfl) dX0_does_152 (fun b H locs hw => ?_)
  exact cw_X0_does_155 fu C hret r1 F1 G1 hm hw (lv_sub hl [] rfl)
theorem cn_X0_does_135 (fu : Nat) {res : Int32 × PF × PG} (x1 : Int32) (F : PF) (G : PG) (hm : cb_X0_does_135 fu x1 F G = some res) : xn F ≤ xn res.2.1 := by
  unfold cb_X0_does_135 at hm
  obtain ⟨⟨r1, F1, G1⟩, hc, hm⟩ := bind_elim hm
  exact Nat.le_trans (cn_X0_offsetJ fu x1 F G _ hc) (cn_X0_does_151 fu r1 (F 2) (((x1.toUInt32 >>> ((7 : Int32).toUInt32 &&& Int32.toUInt32 31)).toInt32) &&& (31 : Int32)) F1 G1 hm)
theorem cw_X0_does_135 (fu : Nat) {res : Int32 × PF × PG} (C : cMC p R s m args c A v RX0 cX0_does 3 3 69 (xn res.2.1 - xn K0)) (hret : ∀ (b1 : Nat) (H1 : Heap) (locs1 : List Loc) (ls1 : Array Slot) (pc : Nat), cMW s A v a b1 K0 res.2.1 res.2.2 H1 locs1 → narrow .int (.int res.1) = .int res.1 → decode cX0_does pc = .ok (.ireturn, 1) → W p l e R s m args below meth c H1 locs1 (xn res.2.1 - xn K0) (2 * (xn res.2.1 - xn K0)) Q (F0 m pc ls1 [.int res.1])) (x1 : Int32) (F : PF) (G : PG) (hm : cb_X0_does_135 fu x1 F G = some res) {b : Nat} {H : Heap} {locs : List Loc} (hw : cMW s A v a b K0 F G H locs) {ls : Array Slot} (hl : lv_has ls 3 [(0, .ref (a 200)), (1, .int x1)]) : W p l e R s m args below meth c H locs (xn F - xn K0) (2 * (xn F - xn K0)) Q (F0 m 135 ls []) := by
  have hx := C.1
  have hb := C.2.1
  unfold cb_X0_does_135 at hm
  refine lv_aload_n hx hb dX0_does_135 rfl (lv_at hl 0 rfl) ?_
  refine lv_iload_n hx hb dX0_does_136 rfl (lv_at hl 1 rfl) ?_
  refine lv_bipush (v := 7) hx hb dX0_does_137 (by decide) ?_
  refine lv_iushr hx hb dX0_does_139 rfl ?_
  refine lv_bipush (v := 31) hx hb dX0_does_140 (by decide) ?_
  refine lv_iand hx hb dX0_does_142 ?_
  refine lv_aload_n hx hb dX0_does_143 rfl (lv_at hl 0 rfl) ?_
  refine cg_X0_18 C hw dX0_does_144 ?_
  refine lv_iload_n hx hb dX0_does_147 rfl (lv_at hl 1 rfl) ?_
  obtain ⟨⟨r1, F1, G1⟩, hc, hm⟩ := bind_elim hm
  refine ccallIS (n := 1) (As := [.int x1]) (rest := [.int (F 2), .int (((x1.toUInt32 >>> ((7 : Int32).toUInt32 &&& Int32.toUInt32 31)).toInt32) &&& (31 : Int32)), .ref (a 200)]) C hw (ck_X0_offsetJ l v a _ _ fu x1 F G r1 F1 G1 hc) (cn_X0_offsetJ fu x1 F G _ hc) (Nat.sub_le_sub_right (cn_X0_does_151 fu r1 (F 2) (((x1.toUInt32 >>> ((7 : Int32).toUInt32 &&& Int32.toUInt32 31)).toInt32) &&& (31 : Int32)) F1 G1 hm) _) cm_968 cm_969 cm_938 cm_970 (by decide +kernel) rfl (by omega) (by omega) hl.1 rfl (Nat.le_of_ble_eq_true rfl) dX0_does_148 (fun b H locs hw => ?_)
  exact cw_X0_does_151 fu C hret r1 (F 2) (((x1.toUInt32 >>> ((7 : Int32).toUInt32 &&& Int32.toUInt32 31)).toInt32) &&& (31 : Int32)) F1 G1 hm hw (lv_sub hl [] rfl)
theorem cn_X0_does_203 (fu : Nat) {res : Int32 × PF × PG} (z0 : Int32) (F : PF) (G : PG) (hm : cb_X0_does_203 fu z0 F G = some res) : xn F ≤ xn res.2.1 := by
  unfold cb_X0_does_203 at hm
  obtain rfl := Option.some.inj hm
  exact Nat.le_refl _
theorem cw_X0_does_203 (fu : Nat) {res : Int32 × PF × PG} (C : cMC p R s m args c A v RX0 cX0_does 3 3 69 (xn res.2.1 - xn K0)) (hret : ∀ (b1 : Nat) (H1 : Heap) (locs1 : List Loc) (ls1 : Array Slot) (pc : Nat), cMW s A v a b1 K0 res.2.1 res.2.2 H1 locs1 → narrow .int (.int res.1) = .int res.1 → decode cX0_does pc = .ok (.ireturn, 1) → W p l e R s m args below meth c H1 locs1 (xn res.2.1 - xn K0) (2 * (xn res.2.1 - xn K0)) Q (F0 m pc ls1 [.int res.1])) (z0 : Int32) (F : PF) (G : PG) (hm : cb_X0_does_203 fu z0 F G = some res) {b : Nat} {H : Heap} {locs : List Loc} (hw : cMW s A v a b K0 F G H locs) {ls : Array Slot} (hl : lv_has ls 3 []) : W p l e R s m args below meth c H locs (xn F - xn K0) (2 * (xn F - xn K0)) Q (F0 m 203 ls [.int z0]) := by
  have hx := C.1
  have hb := C.2.1
  unfold cb_X0_does_203 at hm
  obtain rfl := Option.some.inj hm
  exact hret _ _ _ _ _ hw rfl dX0_does_203
theorem cn_X0_does_202 (fu : Nat) {res : Int32 × PF × PG} (F : PF) (G : PG) (hm : cb_X0_does_202 fu F G = some res) : xn F ≤ xn res.2.1 := by
  unfold cb_X0_does_202 at hm
  exact (cn_X0_does_203 fu 2 F G hm)
theorem cw_X0_does_202 (fu : Nat) {res : Int32 × PF × PG} (C : cMC p R s m args c A v RX0 cX0_does 3 3 69 (xn res.2.1 - xn K0)) (hret : ∀ (b1 : Nat) (H1 : Heap) (locs1 : List Loc) (ls1 : Array Slot) (pc : Nat), cMW s A v a b1 K0 res.2.1 res.2.2 H1 locs1 → narrow .int (.int res.1) = .int res.1 → decode cX0_does pc = .ok (.ireturn, 1) → W p l e R s m args below meth c H1 locs1 (xn res.2.1 - xn K0) (2 * (xn res.2.1 - xn K0)) Q (F0 m pc ls1 [.int res.1])) (F : PF) (G : PG) (hm : cb_X0_does_202 fu F G = some res) {b : Nat} {H : Heap} {locs : List Loc} (hw : cMW s A v a b K0 F G H locs) {ls : Array Slot} (hl : lv_has ls 3 []) : W p l e R s m args below meth c H locs (xn F - xn K0) (2 * (xn F - xn K0)) Q (F0 m 202 ls []) := by
  have hx := C.1
  have hb := C.2.1
  unfold cb_X0_does_202 at hm
  refine lv_iconst (v := 2) hx hb dX0_does_202 (by decide) ?_
  exact cw_X0_does_203 fu C hret 2 F G hm hw (lv_sub hl [] rfl)
theorem cn_X0_does_199 (fu : Nat) {res : Int32 × PF × PG} (z0 : Int32) (F : PF) (G : PG) (hm : cb_X0_does_199 fu z0 F G = some res) : xn F ≤ xn res.2.1 := by
  unfold cb_X0_does_199 at hm
  exact (cn_X0_does_203 fu z0 F G hm)
theorem cw_X0_does_199 (fu : Nat) {res : Int32 × PF × PG} (C : cMC p R s m args c A v RX0 cX0_does 3 3 69 (xn res.2.1 - xn K0)) (hret : ∀ (b1 : Nat) (H1 : Heap) (locs1 : List Loc) (ls1 : Array Slot) (pc : Nat), cMW s A v a b1 K0 res.2.1 res.2.2 H1 locs1 → narrow .int (.int res.1) = .int res.1 → decode cX0_does pc = .ok (.ireturn, 1) → W p l e R s m args below meth c H1 locs1 (xn res.2.1 - xn K0) (2 * (xn res.2.1 - xn K0)) Q (F0 m pc ls1 [.int res.1])) (z0 : Int32) (F : PF) (G : PG) (hm : cb_X0_does_199 fu z0 F G = some res) {b : Nat} {H : Heap} {locs : List Loc} (hw : cMW s A v a b K0 F G H locs) {ls : Array Slot} (hl : lv_has ls 3 []) : W p l e R s m args below meth c H locs (xn F - xn K0) (2 * (xn F - xn K0)) Q (F0 m 199 ls [.int z0]) := by
  have hx := C.1
  have hb := C.2.1
  unfold cb_X0_does_199 at hm
  refine lv_goto (tgt := 203) hx hb dX0_does_199 (by decide) ?_
  exact cw_X0_does_203 fu C hret z0 F G hm hw (lv_sub hl [] rfl)
theorem cn_X0_does_187 (fu : Nat) {res : Int32 × PF × PG} (x1 : Int32) (x2 : Int32) (F : PF) (G : PG) (hm : cb_X0_does_187 fu x1 x2 F G = some res) : xn F ≤ xn res.2.1 := by
  unfold cb_X0_does_187 at hm
  obtain ⟨⟨r1, F1, G1⟩, hc, hm⟩ := bind_elim hm
  exact Nat.le_trans (cn_X0_link fu (((x1.toUInt32 >>> ((7 : Int32).toUInt32 &&& Int32.toUInt32 31)).toInt32) &&& (31 : Int32)) x2 F G _ hc) (cn_X0_does_199 fu r1 F1 G1 hm)
theorem cw_X0_does_187 (fu : Nat) {res : Int32 × PF × PG} (C : cMC p R s m args c A v RX0 cX0_does 3 3 69 (xn res.2.1 - xn K0)) (hret : ∀ (b1 : Nat) (H1 : Heap) (locs1 : List Loc) (ls1 : Array Slot) (pc : Nat), cMW s A v a b1 K0 res.2.1 res.2.2 H1 locs1 → narrow .int (.int res.1) = .int res.1 → decode cX0_does pc = .ok (.ireturn, 1) → W p l e R s m args below meth c H1 locs1 (xn res.2.1 - xn K0) (2 * (xn res.2.1 - xn K0)) Q (F0 m pc ls1 [.int res.1])) (x1 : Int32) (x2 : Int32) (F : PF) (G : PG) (hm : cb_X0_does_187 fu x1 x2 F G = some res) {b : Nat} {H : Heap} {locs : List Loc} (hw : cMW s A v a b K0 F G H locs) {ls : Array Slot} (hl : lv_has ls 3 [(0, .ref (a 200)), (1, .int x1), (2, .int x2)]) : W p l e R s m args below meth c H locs (xn F - xn K0) (2 * (xn F - xn K0)) Q (F0 m 187 ls []) := by
  have hx := C.1
  have hb := C.2.1
  unfold cb_X0_does_187 at hm
  refine lv_aload_n hx hb dX0_does_187 rfl (lv_at hl 0 rfl) ?_
  refine lv_iload_n hx hb dX0_does_188 rfl (lv_at hl 1 rfl) ?_
  refine lv_bipush (v := 7) hx hb dX0_does_189 (by decide) ?_
  refine lv_iushr hx hb dX0_does_191 rfl ?_
  refine lv_bipush (v := 31) hx hb dX0_does_192 (by decide) ?_
  refine lv_iand hx hb dX0_does_194 ?_
  refine lv_iload_n hx hb dX0_does_195 rfl (lv_at hl 2 rfl) ?_
  obtain ⟨⟨r1, F1, G1⟩, hc, hm⟩ := bind_elim hm
  refine ccallI (n := 2) (As := [.int (((x1.toUInt32 >>> ((7 : Int32).toUInt32 &&& Int32.toUInt32 31)).toInt32) &&& (31 : Int32)), .int x2]) (rest := []) C hw (ck_X0_link l v a _ _ fu (((x1.toUInt32 >>> ((7 : Int32).toUInt32 &&& Int32.toUInt32 31)).toInt32) &&& (31 : Int32)) x2 F G r1 F1 G1 hc) (cn_X0_link fu (((x1.toUInt32 >>> ((7 : Int32).toUInt32 &&& Int32.toUInt32 31)).toInt32) &&& (31 : Int32)) x2 F G _ hc) (Nat.sub_le_sub_right (cn_X0_does_199 fu r1 F1 G1 hm) _) (crecv_X0 C hw) cm_972 cm_973 cm_974 cm_938 cm_975 (by decide +kernel) rfl (by omega) (by omega) hl.1 rfl (Nat.le_of_ble_eq_true rfl) dX0_does_196 (fun b H locs hw => ?_)
  exact cw_X0_does_199 fu C hret r1 F1 G1 hm hw (lv_sub hl [] rfl)
theorem cn_X0_does_156 (fu : Nat) {res : Int32 × PF × PG} (x1 : Int32) (F : PF) (G : PG) (hm : cb_X0_does_156 fu x1 F G = some res) : xn F ≤ xn res.2.1 := by
  unfold cb_X0_does_156 at hm
  have hm := (ix_elim hm).2
  by_cases c_1 : (((x1.toUInt32 >>> ((12 : Int32).toUInt32 &&& Int32.toUInt32 31)).toInt32) &&& (7 : Int32)) = (0 : Int32)
  · have hm := (if_pos c_1).symm.trans hm
    exact (cn_X0_does_187 fu x1 (((G 1 (((x1.toUInt32 >>> ((15 : Int32).toUInt32 &&& Int32.toUInt32 31)).toInt32) &&& (31 : Int32)).toNatClampNeg) + (x1 >>> ((20 : Int32) &&& 31))) &&& (-2 : Int32)) F G hm)
  · have hm := (if_neg c_1).symm.trans hm
    exact (cn_X0_does_202 fu F G hm)
theorem cw_X0_does_156 (fu : Nat) {res : Int32 × PF × PG} (C : cMC p R s m args c A v RX0 cX0_does 3 3 69 (xn res.2.1 - xn K0)) (hret : ∀ (b1 : Nat) (H1 : Heap) (locs1 : List Loc) (ls1 : Array Slot) (pc : Nat), cMW s A v a b1 K0 res.2.1 res.2.2 H1 locs1 → narrow .int (.int res.1) = .int res.1 → decode cX0_does pc = .ok (.ireturn, 1) → W p l e R s m args below meth c H1 locs1 (xn res.2.1 - xn K0) (2 * (xn res.2.1 - xn K0)) Q (F0 m pc ls1 [.int res.1])) (x1 : Int32) (F : PF) (G : PG) (hm : cb_X0_does_156 fu x1 F G = some res) {b : Nat} {H : Heap} {locs : List Loc} (hw : cMW s A v a b K0 F G H locs) {ls : Array Slot} (hl : lv_has ls 3 [(0, .ref (a 200)), (1, .int x1)]) : W p l e R s m args below meth c H locs (xn F - xn K0) (2 * (xn F - xn K0)) Q (F0 m 156 ls []) := by
  have hx := C.1
  have hb := C.2.1
  unfold cb_X0_does_156 at hm
  refine lv_aload_n hx hb dX0_does_156 rfl (lv_at hl 0 rfl) ?_
  refine cg_X0_15 C hw dX0_does_157 ?_
  refine lv_iload_n hx hb dX0_does_160 rfl (lv_at hl 1 rfl) ?_
  refine lv_bipush (v := 15) hx hb dX0_does_161 (by decide) ?_
  refine lv_iushr hx hb dX0_does_163 rfl ?_
  refine lv_bipush (v := 31) hx hb dX0_does_164 (by decide) ?_
  refine lv_iand hx hb dX0_does_166 ?_
  obtain ⟨hi, hm⟩ := ix_elim hm
  refine cal_1 C hw hi dX0_does_167 ?_
  refine lv_iload_n hx hb dX0_does_168 rfl (lv_at hl 1 rfl) ?_
  refine lv_bipush (v := 20) hx hb dX0_does_169 (by decide) ?_
  refine lv_ishr hx hb dX0_does_171 ?_
  refine lv_iadd hx hb dX0_does_172 ?_
  refine lv_bipush (v := (-2)) hx hb dX0_does_173 (by decide) ?_
  refine lv_iand hx hb dX0_does_175 ?_
  refine lv_istore_n (lv' := [(2, .int (((G 1 (((x1.toUInt32 >>> ((15 : Int32).toUInt32 &&& Int32.toUInt32 31)).toInt32) &&& (31 : Int32)).toNatClampNeg) + (x1 >>> ((20 : Int32) &&& 31))) &&& (-2 : Int32))), (0, .ref (a 200)), (1, .int x1)]) hx hb dX0_does_176 rfl hl (by decide) rfl (fun ls hl => ?_)
  refine lv_iload_n hx hb dX0_does_177 rfl (lv_at hl 2 rfl) ?_
  refine lv_bipush (v := 12) hx hb dX0_does_178 (by decide) ?_
  refine lv_iushr hx hb dX0_does_180 rfl ?_
  refine lv_bipush (v := 7) hx hb dX0_does_181 (by decide) ?_
  refine lv_iand hx hb dX0_does_183 ?_
  refine lv_if_ne (tgt := 202) hx hb dX0_does_184 (by decide) (fun c_1 => ?_) (fun c_1 => ?_)
  · have hm := (if_neg c_1).symm.trans hm
    exact cw_X0_does_202 fu C hret F G hm hw (lv_sub hl [] rfl)
  · have hm := (if_pos c_1).symm.trans hm
    exact cw_X0_does_187 fu C hret x1 (((G 1 (((x1.toUInt32 >>> ((15 : Int32).toUInt32 &&& Int32.toUInt32 31)).toInt32) &&& (31 : Int32)).toNatClampNeg) + (x1 >>> ((20 : Int32) &&& 31))) &&& (-2 : Int32)) F G hm hw (lv_sub hl [1, 2, 0] rfl)
theorem cn_X0_does_209 (fu : Nat) {res : Int32 × PF × PG} (z0 : Int32) (F : PF) (G : PG) (hm : cb_X0_does_209 fu z0 F G = some res) : xn F ≤ xn res.2.1 := by
  unfold cb_X0_does_209 at hm
  obtain rfl := Option.some.inj hm
  exact Nat.le_refl _
theorem cw_X0_does_209 (fu : Nat) {res : Int32 × PF × PG} (C : cMC p R s m args c A v RX0 cX0_does 3 3 69 (xn res.2.1 - xn K0)) (hret : ∀ (b1 : Nat) (H1 : Heap) (locs1 : List Loc) (ls1 : Array Slot) (pc : Nat), cMW s A v a b1 K0 res.2.1 res.2.2 H1 locs1 → narrow .int (.int res.1) = .int res.1 → decode cX0_does pc = .ok (.ireturn, 1) → W p l e R s m args below meth c H1 locs1 (xn res.2.1 - xn K0) (2 * (xn res.2.1 - xn K0)) Q (F0 m pc ls1 [.int res.1])) (z0 : Int32) (F : PF) (G : PG) (hm : cb_X0_does_209 fu z0 F G = some res) {b : Nat} {H : Heap} {locs : List Loc} (hw : cMW s A v a b K0 F G H locs) {ls : Array Slot} (hl : lv_has ls 3 []) : W p l e R s m args below meth c H locs (xn F - xn K0) (2 * (xn F - xn K0)) Q (F0 m 209 ls [.int z0]) := by
  have hx := C.1
  have hb := C.2.1
  unfold cb_X0_does_209 at hm
  obtain rfl := Option.some.inj hm
  exact hret _ _ _ _ _ hw rfl dX0_does_209
theorem cn_X0_does_204 (fu : Nat) {res : Int32 × PF × PG} (x1 : Int32) (F : PF) (G : PG) (hm : cb_X0_does_204 fu x1 F G = some res) : xn F ≤ xn res.2.1 := by
  unfold cb_X0_does_204 at hm
  obtain ⟨⟨r1, F1, G1⟩, hc, hm⟩ := bind_elim hm
  exact Nat.le_trans (cn_X0_branch fu x1 F G _ hc) (cn_X0_does_209 fu r1 F1 G1 hm)
theorem cw_X0_does_204 (fu : Nat) {res : Int32 × PF × PG} (C : cMC p R s m args c A v RX0 cX0_does 3 3 69 (xn res.2.1 - xn K0)) (hret : ∀ (b1 : Nat) (H1 : Heap) (locs1 : List Loc) (ls1 : Array Slot) (pc : Nat), cMW s A v a b1 K0 res.2.1 res.2.2 H1 locs1 → narrow .int (.int res.1) = .int res.1 → decode cX0_does pc = .ok (.ireturn, 1) → W p l e R s m args below meth c H1 locs1 (xn res.2.1 - xn K0) (2 * (xn res.2.1 - xn K0)) Q (F0 m pc ls1 [.int res.1])) (x1 : Int32) (F : PF) (G : PG) (hm : cb_X0_does_204 fu x1 F G = some res) {b : Nat} {H : Heap} {locs : List Loc} (hw : cMW s A v a b K0 F G H locs) {ls : Array Slot} (hl : lv_has ls 3 [(0, .ref (a 200)), (1, .int x1)]) : W p l e R s m args below meth c H locs (xn F - xn K0) (2 * (xn F - xn K0)) Q (F0 m 204 ls []) := by
  have hx := C.1
  have hb := C.2.1
  unfold cb_X0_does_204 at hm
  refine lv_aload_n hx hb dX0_does_204 rfl (lv_at hl 0 rfl) ?_
  refine lv_iload_n hx hb dX0_does_205 rfl (lv_at hl 1 rfl) ?_
  obtain ⟨⟨r1, F1, G1⟩, hc, hm⟩ := bind_elim hm
  refine ccallI (n := 1) (As := [.int x1]) (rest := []) C hw (ck_X0_branch l v a _ _ fu x1 F G r1 F1 G1 hc) (cn_X0_branch fu x1 F G _ hc) (Nat.sub_le_sub_right (cn_X0_does_209 fu r1 F1 G1 hm) _) (crecv_X0 C hw) cm_976 cm_977 cm_978 cm_938 cm_979 (by decide +kernel) rfl (by omega) (by omega) hl.1 rfl (Nat.le_of_ble_eq_true rfl) dX0_does_206 (fun b H locs hw => ?_)
  exact cw_X0_does_209 fu C hret r1 F1 G1 hm hw (lv_sub hl [] rfl)
theorem cn_X0_does_215 (fu : Nat) {res : Int32 × PF × PG} (z0 : Int32) (F : PF) (G : PG) (hm : cb_X0_does_215 fu z0 F G = some res) : xn F ≤ xn res.2.1 := by
  unfold cb_X0_does_215 at hm
  obtain rfl := Option.some.inj hm
  exact Nat.le_refl _
theorem cw_X0_does_215 (fu : Nat) {res : Int32 × PF × PG} (C : cMC p R s m args c A v RX0 cX0_does 3 3 69 (xn res.2.1 - xn K0)) (hret : ∀ (b1 : Nat) (H1 : Heap) (locs1 : List Loc) (ls1 : Array Slot) (pc : Nat), cMW s A v a b1 K0 res.2.1 res.2.2 H1 locs1 → narrow .int (.int res.1) = .int res.1 → decode cX0_does pc = .ok (.ireturn, 1) → W p l e R s m args below meth c H1 locs1 (xn res.2.1 - xn K0) (2 * (xn res.2.1 - xn K0)) Q (F0 m pc ls1 [.int res.1])) (z0 : Int32) (F : PF) (G : PG) (hm : cb_X0_does_215 fu z0 F G = some res) {b : Nat} {H : Heap} {locs : List Loc} (hw : cMW s A v a b K0 F G H locs) {ls : Array Slot} (hl : lv_has ls 3 []) : W p l e R s m args below meth c H locs (xn F - xn K0) (2 * (xn F - xn K0)) Q (F0 m 215 ls [.int z0]) := by
  have hx := C.1
  have hb := C.2.1
  unfold cb_X0_does_215 at hm
  obtain rfl := Option.some.inj hm
  exact hret _ _ _ _ _ hw rfl dX0_does_215
theorem cn_X0_does_210 (fu : Nat) {res : Int32 × PF × PG} (x1 : Int32) (F : PF) (G : PG) (hm : cb_X0_does_210 fu x1 F G = some res) : xn F ≤ xn res.2.1 := by
  unfold cb_X0_does_210 at hm
  obtain ⟨⟨r1, F1, G1⟩, hc, hm⟩ := bind_elim hm
  exact Nat.le_trans (cn_X0_load fu x1 F G _ hc) (cn_X0_does_215 fu r1 F1 G1 hm)
theorem cw_X0_does_210 (fu : Nat) {res : Int32 × PF × PG} (C : cMC p R s m args c A v RX0 cX0_does 3 3 69 (xn res.2.1 - xn K0)) (hret : ∀ (b1 : Nat) (H1 : Heap) (locs1 : List Loc) (ls1 : Array Slot) (pc : Nat), cMW s A v a b1 K0 res.2.1 res.2.2 H1 locs1 → narrow .int (.int res.1) = .int res.1 → decode cX0_does pc = .ok (.ireturn, 1) → W p l e R s m args below meth c H1 locs1 (xn res.2.1 - xn K0) (2 * (xn res.2.1 - xn K0)) Q (F0 m pc ls1 [.int res.1])) (x1 : Int32) (F : PF) (G : PG) (hm : cb_X0_does_210 fu x1 F G = some res) {b : Nat} {H : Heap} {locs : List Loc} (hw : cMW s A v a b K0 F G H locs) {ls : Array Slot} (hl : lv_has ls 3 [(0, .ref (a 200)), (1, .int x1)]) : W p l e R s m args below meth c H locs (xn F - xn K0) (2 * (xn F - xn K0)) Q (F0 m 210 ls []) := by
  have hx := C.1
  have hb := C.2.1
  unfold cb_X0_does_210 at hm
  refine lv_aload_n hx hb dX0_does_210 rfl (lv_at hl 0 rfl) ?_
  refine lv_iload_n hx hb dX0_does_211 rfl (lv_at hl 1 rfl) ?_
  obtain ⟨⟨r1, F1, G1⟩, hc, hm⟩ := bind_elim hm
  refine ccallI (n := 1) (As := [.int x1]) (rest := []) C hw (ck_X0_load l v a _ _ fu x1 F G r1 F1 G1 hc) (cn_X0_load fu x1 F G _ hc) (Nat.sub_le_sub_right (cn_X0_does_215 fu r1 F1 G1 hm) _) (crecv_X0 C hw) cm_987 cm_988 cm_989 cm_938 cm_990 (by decide +kernel) rfl (by omega) (by omega) hl.1 rfl (Nat.le_of_ble_eq_true rfl) dX0_does_212 (fun b H locs hw => ?_)
  exact cw_X0_does_215 fu C hret r1 F1 G1 hm hw (lv_sub hl [] rfl)
theorem cn_X0_does_221 (fu : Nat) {res : Int32 × PF × PG} (z0 : Int32) (F : PF) (G : PG) (hm : cb_X0_does_221 fu z0 F G = some res) : xn F ≤ xn res.2.1 := by
  unfold cb_X0_does_221 at hm
  obtain rfl := Option.some.inj hm
  exact Nat.le_refl _
theorem cw_X0_does_221 (fu : Nat) {res : Int32 × PF × PG} (C : cMC p R s m args c A v RX0 cX0_does 3 3 69 (xn res.2.1 - xn K0)) (hret : ∀ (b1 : Nat) (H1 : Heap) (locs1 : List Loc) (ls1 : Array Slot) (pc : Nat), cMW s A v a b1 K0 res.2.1 res.2.2 H1 locs1 → narrow .int (.int res.1) = .int res.1 → decode cX0_does pc = .ok (.ireturn, 1) → W p l e R s m args below meth c H1 locs1 (xn res.2.1 - xn K0) (2 * (xn res.2.1 - xn K0)) Q (F0 m pc ls1 [.int res.1])) (z0 : Int32) (F : PF) (G : PG) (hm : cb_X0_does_221 fu z0 F G = some res) {b : Nat} {H : Heap} {locs : List Loc} (hw : cMW s A v a b K0 F G H locs) {ls : Array Slot} (hl : lv_has ls 3 []) : W p l e R s m args below meth c H locs (xn F - xn K0) (2 * (xn F - xn K0)) Q (F0 m 221 ls [.int z0]) := by
  have hx := C.1
  have hb := C.2.1
  unfold cb_X0_does_221 at hm
  obtain rfl := Option.some.inj hm
  exact hret _ _ _ _ _ hw rfl dX0_does_221
theorem cn_X0_does_216 (fu : Nat) {res : Int32 × PF × PG} (x1 : Int32) (F : PF) (G : PG) (hm : cb_X0_does_216 fu x1 F G = some res) : xn F ≤ xn res.2.1 := by
  unfold cb_X0_does_216 at hm
  obtain ⟨⟨r1, F1, G1⟩, hc, hm⟩ := bind_elim hm
  exact Nat.le_trans (cn_X0_store fu x1 F G _ hc) (cn_X0_does_221 fu r1 F1 G1 hm)
theorem cw_X0_does_216 (fu : Nat) {res : Int32 × PF × PG} (C : cMC p R s m args c A v RX0 cX0_does 3 3 69 (xn res.2.1 - xn K0)) (hret : ∀ (b1 : Nat) (H1 : Heap) (locs1 : List Loc) (ls1 : Array Slot) (pc : Nat), cMW s A v a b1 K0 res.2.1 res.2.2 H1 locs1 → narrow .int (.int res.1) = .int res.1 → decode cX0_does pc = .ok (.ireturn, 1) → W p l e R s m args below meth c H1 locs1 (xn res.2.1 - xn K0) (2 * (xn res.2.1 - xn K0)) Q (F0 m pc ls1 [.int res.1])) (x1 : Int32) (F : PF) (G : PG) (hm : cb_X0_does_216 fu x1 F G = some res) {b : Nat} {H : Heap} {locs : List Loc} (hw : cMW s A v a b K0 F G H locs) {ls : Array Slot} (hl : lv_has ls 3 [(0, .ref (a 200)), (1, .int x1)]) : W p l e R s m args below meth c H locs (xn F - xn K0) (2 * (xn F - xn K0)) Q (F0 m 216 ls []) := by
  have hx := C.1
  have hb := C.2.1
  unfold cb_X0_does_216 at hm
  refine lv_aload_n hx hb dX0_does_216 rfl (lv_at hl 0 rfl) ?_
  refine lv_iload_n hx hb dX0_does_217 rfl (lv_at hl 1 rfl) ?_
  obtain ⟨⟨r1, F1, G1⟩, hc, hm⟩ := bind_elim hm
  refine ccallI (n := 1) (As := [.int x1]) (rest := []) C hw (ck_X0_store l v a _ _ fu x1 F G r1 F1 G1 hc) (cn_X0_store fu x1 F G _ hc) (Nat.sub_le_sub_right (cn_X0_does_221 fu r1 F1 G1 hm) _) (crecv_X0 C hw) cm_994 cm_995 cm_996 cm_938 cm_997 (by decide +kernel) rfl (by omega) (by omega) hl.1 rfl (Nat.le_of_ble_eq_true rfl) dX0_does_218 (fun b H locs hw => ?_)
  exact cw_X0_does_221 fu C hret r1 F1 G1 hm hw (lv_sub hl [] rfl)
theorem cn_X0_does_227 (fu : Nat) {res : Int32 × PF × PG} (z0 : Int32) (F : PF) (G : PG) (hm : cb_X0_does_227 fu z0 F G = some res) : xn F ≤ xn res.2.1 := by
  unfold cb_X0_does_227 at hm
  obtain rfl := Option.some.inj hm
  exact Nat.le_refl _
theorem cw_X0_does_227 (fu : Nat) {res : Int32 × PF × PG} (C : cMC p R s m args c A v RX0 cX0_does 3 3 69 (xn res.2.1 - xn K0)) (hret : ∀ (b1 : Nat) (H1 : Heap) (locs1 : List Loc) (ls1 : Array Slot) (pc : Nat), cMW s A v a b1 K0 res.2.1 res.2.2 H1 locs1 → narrow .int (.int res.1) = .int res.1 → decode cX0_does pc = .ok (.ireturn, 1) → W p l e R s m args below meth c H1 locs1 (xn res.2.1 - xn K0) (2 * (xn res.2.1 - xn K0)) Q (F0 m pc ls1 [.int res.1])) (z0 : Int32) (F : PF) (G : PG) (hm : cb_X0_does_227 fu z0 F G = some res) {b : Nat} {H : Heap} {locs : List Loc} (hw : cMW s A v a b K0 F G H locs) {ls : Array Slot} (hl : lv_has ls 3 []) : W p l e R s m args below meth c H locs (xn F - xn K0) (2 * (xn F - xn K0)) Q (F0 m 227 ls [.int z0]) := by
  have hx := C.1
  have hb := C.2.1
  unfold cb_X0_does_227 at hm
  obtain rfl := Option.some.inj hm
  exact hret _ _ _ _ _ hw rfl dX0_does_227
theorem cn_X0_does_222 (fu : Nat) {res : Int32 × PF × PG} (x1 : Int32) (F : PF) (G : PG) (hm : cb_X0_does_222 fu x1 F G = some res) : xn F ≤ xn res.2.1 := by
  unfold cb_X0_does_222 at hm
  obtain ⟨⟨r1, F1, G1⟩, hc, hm⟩ := bind_elim hm
  exact Nat.le_trans (cn_X0_withNumber fu x1 F G _ hc) (cn_X0_does_227 fu r1 F1 G1 hm)
theorem cw_X0_does_222 (fu : Nat) {res : Int32 × PF × PG} (C : cMC p R s m args c A v RX0 cX0_does 3 3 69 (xn res.2.1 - xn K0)) (hret : ∀ (b1 : Nat) (H1 : Heap) (locs1 : List Loc) (ls1 : Array Slot) (pc : Nat), cMW s A v a b1 K0 res.2.1 res.2.2 H1 locs1 → narrow .int (.int res.1) = .int res.1 → decode cX0_does pc = .ok (.ireturn, 1) → W p l e R s m args below meth c H1 locs1 (xn res.2.1 - xn K0) (2 * (xn res.2.1 - xn K0)) Q (F0 m pc ls1 [.int res.1])) (x1 : Int32) (F : PF) (G : PG) (hm : cb_X0_does_222 fu x1 F G = some res) {b : Nat} {H : Heap} {locs : List Loc} (hw : cMW s A v a b K0 F G H locs) {ls : Array Slot} (hl : lv_has ls 3 [(0, .ref (a 200)), (1, .int x1)]) : W p l e R s m args below meth c H locs (xn F - xn K0) (2 * (xn F - xn K0)) Q (F0 m 222 ls []) := by
  have hx := C.1
  have hb := C.2.1
  unfold cb_X0_does_222 at hm
  refine lv_aload_n hx hb dX0_does_222 rfl (lv_at hl 0 rfl) ?_
  refine lv_iload_n hx hb dX0_does_223 rfl (lv_at hl 1 rfl) ?_
  obtain ⟨⟨r1, F1, G1⟩, hc, hm⟩ := bind_elim hm
  refine ccallI (n := 1) (As := [.int x1]) (rest := []) C hw (ck_X0_withNumber l v a _ _ fu x1 F G r1 F1 G1 hc) (cn_X0_withNumber fu x1 F G _ hc) (Nat.sub_le_sub_right (cn_X0_does_227 fu r1 F1 G1 hm) _) (crecv_X0 C hw) cm_998 cm_999 cm_1000 cm_938 cm_1001 (by decide +kernel) rfl (by omega) (by omega) hl.1 rfl (Nat.le_of_ble_eq_true rfl) dX0_does_224 (fun b H locs hw => ?_)
  exact cw_X0_does_227 fu C hret r1 F1 G1 hm hw (lv_sub hl [] rfl)
theorem cn_X0_does_233 (fu : Nat) {res : Int32 × PF × PG} (z0 : Int32) (F : PF) (G : PG) (hm : cb_X0_does_233 fu z0 F G = some res) : xn F ≤ xn res.2.1 := by
  unfold cb_X0_does_233 at hm
  obtain rfl := Option.some.inj hm
  exact Nat.le_refl _
theorem cw_X0_does_233 (fu : Nat) {res : Int32 × PF × PG} (C : cMC p R s m args c A v RX0 cX0_does 3 3 69 (xn res.2.1 - xn K0)) (hret : ∀ (b1 : Nat) (H1 : Heap) (locs1 : List Loc) (ls1 : Array Slot) (pc : Nat), cMW s A v a b1 K0 res.2.1 res.2.2 H1 locs1 → narrow .int (.int res.1) = .int res.1 → decode cX0_does pc = .ok (.ireturn, 1) → W p l e R s m args below meth c H1 locs1 (xn res.2.1 - xn K0) (2 * (xn res.2.1 - xn K0)) Q (F0 m pc ls1 [.int res.1])) (z0 : Int32) (F : PF) (G : PG) (hm : cb_X0_does_233 fu z0 F G = some res) {b : Nat} {H : Heap} {locs : List Loc} (hw : cMW s A v a b K0 F G H locs) {ls : Array Slot} (hl : lv_has ls 3 []) : W p l e R s m args below meth c H locs (xn F - xn K0) (2 * (xn F - xn K0)) Q (F0 m 233 ls [.int z0]) := by
  have hx := C.1
  have hb := C.2.1
  unfold cb_X0_does_233 at hm
  obtain rfl := Option.some.inj hm
  exact hret _ _ _ _ _ hw rfl dX0_does_233
theorem cn_X0_does_228 (fu : Nat) {res : Int32 × PF × PG} (x1 : Int32) (F : PF) (G : PG) (hm : cb_X0_does_228 fu x1 F G = some res) : xn F ≤ xn res.2.1 := by
  unfold cb_X0_does_228 at hm
  obtain ⟨⟨r1, F1, G1⟩, hc, hm⟩ := bind_elim hm
  exact Nat.le_trans (cn_X0_withRegister fu x1 F G _ hc) (cn_X0_does_233 fu r1 F1 G1 hm)
theorem cw_X0_does_228 (fu : Nat) {res : Int32 × PF × PG} (C : cMC p R s m args c A v RX0 cX0_does 3 3 69 (xn res.2.1 - xn K0)) (hret : ∀ (b1 : Nat) (H1 : Heap) (locs1 : List Loc) (ls1 : Array Slot) (pc : Nat), cMW s A v a b1 K0 res.2.1 res.2.2 H1 locs1 → narrow .int (.int res.1) = .int res.1 → decode cX0_does pc = .ok (.ireturn, 1) → W p l e R s m args below meth c H1 locs1 (xn res.2.1 - xn K0) (2 * (xn res.2.1 - xn K0)) Q (F0 m pc ls1 [.int res.1])) (x1 : Int32) (F : PF) (G : PG) (hm : cb_X0_does_228 fu x1 F G = some res) {b : Nat} {H : Heap} {locs : List Loc} (hw : cMW s A v a b K0 F G H locs) {ls : Array Slot} (hl : lv_has ls 3 [(0, .ref (a 200)), (1, .int x1)]) : W p l e R s m args below meth c H locs (xn F - xn K0) (2 * (xn F - xn K0)) Q (F0 m 228 ls []) := by
  have hx := C.1
  have hb := C.2.1
  unfold cb_X0_does_228 at hm
  refine lv_aload_n hx hb dX0_does_228 rfl (lv_at hl 0 rfl) ?_
  refine lv_iload_n hx hb dX0_does_229 rfl (lv_at hl 1 rfl) ?_
  obtain ⟨⟨r1, F1, G1⟩, hc, hm⟩ := bind_elim hm
  refine ccallI (n := 1) (As := [.int x1]) (rest := []) C hw (ck_X0_withRegister l v a _ _ fu x1 F G r1 F1 G1 hc) (cn_X0_withRegister fu x1 F G _ hc) (Nat.sub_le_sub_right (cn_X0_does_233 fu r1 F1 G1 hm) _) (crecv_X0 C hw) cm_1005 cm_1006 cm_1007 cm_938 cm_1008 (by decide +kernel) rfl (by omega) (by omega) hl.1 rfl (Nat.le_of_ble_eq_true rfl) dX0_does_230 (fun b H locs hw => ?_)
  exact cw_X0_does_233 fu C hret r1 F1 G1 hm hw (lv_sub hl [] rfl)
theorem cn_X0_does_249 (fu : Nat) {res : Int32 × PF × PG} (z0 : Int32) (F : PF) (G : PG) (hm : cb_X0_does_249 fu z0 F G = some res) : xn F ≤ xn res.2.1 := by
  unfold cb_X0_does_249 at hm
  obtain rfl := Option.some.inj hm
  exact Nat.le_refl _
theorem cw_X0_does_249 (fu : Nat) {res : Int32 × PF × PG} (C : cMC p R s m args c A v RX0 cX0_does 3 3 69 (xn res.2.1 - xn K0)) (hret : ∀ (b1 : Nat) (H1 : Heap) (locs1 : List Loc) (ls1 : Array Slot) (pc : Nat), cMW s A v a b1 K0 res.2.1 res.2.2 H1 locs1 → narrow .int (.int res.1) = .int res.1 → decode cX0_does pc = .ok (.ireturn, 1) → W p l e R s m args below meth c H1 locs1 (xn res.2.1 - xn K0) (2 * (xn res.2.1 - xn K0)) Q (F0 m pc ls1 [.int res.1])) (z0 : Int32) (F : PF) (G : PG) (hm : cb_X0_does_249 fu z0 F G = some res) {b : Nat} {H : Heap} {locs : List Loc} (hw : cMW s A v a b K0 F G H locs) {ls : Array Slot} (hl : lv_has ls 3 []) : W p l e R s m args below meth c H locs (xn F - xn K0) (2 * (xn F - xn K0)) Q (F0 m 249 ls [.int z0]) := by
  have hx := C.1
  have hb := C.2.1
  unfold cb_X0_does_249 at hm
  obtain rfl := Option.some.inj hm
  exact hret _ _ _ _ _ hw rfl dX0_does_249
theorem cn_X0_does_248 (fu : Nat) {res : Int32 × PF × PG} (F : PF) (G : PG) (hm : cb_X0_does_248 fu F G = some res) : xn F ≤ xn res.2.1 := by
  unfold cb_X0_does_248 at hm
  exact (cn_X0_does_249 fu 2 F G hm)
theorem cw_X0_does_248 (fu : Nat) {res : Int32 × PF × PG} (C : cMC p R s m args c A v RX0 cX0_does 3 3 69 (xn res.2.1 - xn K0)) (hret : ∀ (b1 : Nat) (H1 : Heap) (locs1 : List Loc) (ls1 : Array Slot) (pc : Nat), cMW s A v a b1 K0 res.2.1 res.2.2 H1 locs1 → narrow .int (.int res.1) = .int res.1 → decode cX0_does pc = .ok (.ireturn, 1) → W p l e R s m args below meth c H1 locs1 (xn res.2.1 - xn K0) (2 * (xn res.2.1 - xn K0)) Q (F0 m pc ls1 [.int res.1])) (F : PF) (G : PG) (hm : cb_X0_does_248 fu F G = some res) {b : Nat} {H : Heap} {locs : List Loc} (hw : cMW s A v a b K0 F G H locs) {ls : Array Slot} (hl : lv_has ls 3 []) : W p l e R s m args below meth c H locs (xn F - xn K0) (2 * (xn F - xn K0)) Q (F0 m 248 ls []) := by
  have hx := C.1
  have hb := C.2.1
  unfold cb_X0_does_248 at hm
  refine lv_iconst (v := 2) hx hb dX0_does_248 (by decide) ?_
  exact cw_X0_does_249 fu C hret 2 F G hm hw (lv_sub hl [] rfl)
theorem cn_X0_does_244 (fu : Nat) {res : Int32 × PF × PG} (F : PF) (G : PG) (hm : cb_X0_does_244 fu F G = some res) : xn F ≤ xn res.2.1 := by
  unfold cb_X0_does_244 at hm
  exact (cn_X0_does_249 fu 0 F G hm)
theorem cw_X0_does_244 (fu : Nat) {res : Int32 × PF × PG} (C : cMC p R s m args c A v RX0 cX0_does 3 3 69 (xn res.2.1 - xn K0)) (hret : ∀ (b1 : Nat) (H1 : Heap) (locs1 : List Loc) (ls1 : Array Slot) (pc : Nat), cMW s A v a b1 K0 res.2.1 res.2.2 H1 locs1 → narrow .int (.int res.1) = .int res.1 → decode cX0_does pc = .ok (.ireturn, 1) → W p l e R s m args below meth c H1 locs1 (xn res.2.1 - xn K0) (2 * (xn res.2.1 - xn K0)) Q (F0 m pc ls1 [.int res.1])) (F : PF) (G : PG) (hm : cb_X0_does_244 fu F G = some res) {b : Nat} {H : Heap} {locs : List Loc} (hw : cMW s A v a b K0 F G H locs) {ls : Array Slot} (hl : lv_has ls 3 []) : W p l e R s m args below meth c H locs (xn F - xn K0) (2 * (xn F - xn K0)) Q (F0 m 244 ls []) := by
  have hx := C.1
  have hb := C.2.1
  unfold cb_X0_does_244 at hm
  refine lv_iconst (v := 0) hx hb dX0_does_244 (by decide) ?_
  refine lv_goto (tgt := 249) hx hb dX0_does_245 (by decide) ?_
  exact cw_X0_does_249 fu C hret 0 F G hm hw (lv_sub hl [] rfl)
theorem cn_X0_does_234 (fu : Nat) {res : Int32 × PF × PG} (x1 : Int32) (F : PF) (G : PG) (hm : cb_X0_does_234 fu x1 F G = some res) : xn F ≤ xn res.2.1 := by
  unfold cb_X0_does_234 at hm
  by_cases c_1 : (((x1.toUInt32 >>> ((12 : Int32).toUInt32 &&& Int32.toUInt32 31)).toInt32) &&& (7 : Int32)) = (0 : Int32)
  · have hm := (if_pos c_1).symm.trans hm
    exact (cn_X0_does_244 fu F G hm)
  · have hm := (if_neg c_1).symm.trans hm
    exact (cn_X0_does_248 fu F G hm)
theorem cw_X0_does_234 (fu : Nat) {res : Int32 × PF × PG} (C : cMC p R s m args c A v RX0 cX0_does 3 3 69 (xn res.2.1 - xn K0)) (hret : ∀ (b1 : Nat) (H1 : Heap) (locs1 : List Loc) (ls1 : Array Slot) (pc : Nat), cMW s A v a b1 K0 res.2.1 res.2.2 H1 locs1 → narrow .int (.int res.1) = .int res.1 → decode cX0_does pc = .ok (.ireturn, 1) → W p l e R s m args below meth c H1 locs1 (xn res.2.1 - xn K0) (2 * (xn res.2.1 - xn K0)) Q (F0 m pc ls1 [.int res.1])) (x1 : Int32) (F : PF) (G : PG) (hm : cb_X0_does_234 fu x1 F G = some res) {b : Nat} {H : Heap} {locs : List Loc} (hw : cMW s A v a b K0 F G H locs) {ls : Array Slot} (hl : lv_has ls 3 [(1, .int x1)]) : W p l e R s m args below meth c H locs (xn F - xn K0) (2 * (xn F - xn K0)) Q (F0 m 234 ls []) := by
  have hx := C.1
  have hb := C.2.1
  unfold cb_X0_does_234 at hm
  refine lv_iload_n hx hb dX0_does_234 rfl (lv_at hl 0 rfl) ?_
  refine lv_bipush (v := 12) hx hb dX0_does_235 (by decide) ?_
  refine lv_iushr hx hb dX0_does_237 rfl ?_
  refine lv_bipush (v := 7) hx hb dX0_does_238 (by decide) ?_
  refine lv_iand hx hb dX0_does_240 ?_
  refine lv_if_ne (tgt := 248) hx hb dX0_does_241 (by decide) (fun c_1 => ?_) (fun c_1 => ?_)
  · have hm := (if_neg c_1).symm.trans hm
    exact cw_X0_does_248 fu C hret F G hm hw (lv_sub hl [] rfl)
  · have hm := (if_pos c_1).symm.trans hm
    exact cw_X0_does_244 fu C hret F G hm hw (lv_sub hl [] rfl)
theorem cn_X0_does_273 (fu : Nat) {res : Int32 × PF × PG} (z0 : Int32) (F : PF) (G : PG) (hm : cb_X0_does_273 fu z0 F G = some res) : xn F ≤ xn res.2.1 := by
  unfold cb_X0_does_273 at hm
  obtain rfl := Option.some.inj hm
  exact Nat.le_refl _
theorem cw_X0_does_273 (fu : Nat) {res : Int32 × PF × PG} (C : cMC p R s m args c A v RX0 cX0_does 3 3 69 (xn res.2.1 - xn K0)) (hret : ∀ (b1 : Nat) (H1 : Heap) (locs1 : List Loc) (ls1 : Array Slot) (pc : Nat), cMW s A v a b1 K0 res.2.1 res.2.2 H1 locs1 → narrow .int (.int res.1) = .int res.1 → decode cX0_does pc = .ok (.ireturn, 1) → W p l e R s m args below meth c H1 locs1 (xn res.2.1 - xn K0) (2 * (xn res.2.1 - xn K0)) Q (F0 m pc ls1 [.int res.1])) (z0 : Int32) (F : PF) (G : PG) (hm : cb_X0_does_273 fu z0 F G = some res) {b : Nat} {H : Heap} {locs : List Loc} (hw : cMW s A v a b K0 F G H locs) {ls : Array Slot} (hl : lv_has ls 3 []) : W p l e R s m args below meth c H locs (xn F - xn K0) (2 * (xn F - xn K0)) Q (F0 m 273 ls [.int z0]) := by
  have hx := C.1
  have hb := C.2.1
  unfold cb_X0_does_273 at hm
  obtain rfl := Option.some.inj hm
  exact hret _ _ _ _ _ hw rfl dX0_does_273
theorem cn_X0_does_272 (fu : Nat) {res : Int32 × PF × PG} (F : PF) (G : PG) (hm : cb_X0_does_272 fu F G = some res) : xn F ≤ xn res.2.1 := by
  unfold cb_X0_does_272 at hm
  exact (cn_X0_does_273 fu 2 F G hm)
theorem cw_X0_does_272 (fu : Nat) {res : Int32 × PF × PG} (C : cMC p R s m args c A v RX0 cX0_does 3 3 69 (xn res.2.1 - xn K0)) (hret : ∀ (b1 : Nat) (H1 : Heap) (locs1 : List Loc) (ls1 : Array Slot) (pc : Nat), cMW s A v a b1 K0 res.2.1 res.2.2 H1 locs1 → narrow .int (.int res.1) = .int res.1 → decode cX0_does pc = .ok (.ireturn, 1) → W p l e R s m args below meth c H1 locs1 (xn res.2.1 - xn K0) (2 * (xn res.2.1 - xn K0)) Q (F0 m pc ls1 [.int res.1])) (F : PF) (G : PG) (hm : cb_X0_does_272 fu F G = some res) {b : Nat} {H : Heap} {locs : List Loc} (hw : cMW s A v a b K0 F G H locs) {ls : Array Slot} (hl : lv_has ls 3 []) : W p l e R s m args below meth c H locs (xn F - xn K0) (2 * (xn F - xn K0)) Q (F0 m 272 ls []) := by
  have hx := C.1
  have hb := C.2.1
  unfold cb_X0_does_272 at hm
  refine lv_iconst (v := 2) hx hb dX0_does_272 (by decide) ?_
  exact cw_X0_does_273 fu C hret 2 F G hm hw (lv_sub hl [] rfl)
theorem cn_X0_does_267 (fu : Nat) {res : Int32 × PF × PG} (F : PF) (G : PG) (hm : cb_X0_does_267 fu F G = some res) : xn F ≤ xn res.2.1 := by
  unfold cb_X0_does_267 at hm
  exact (cn_X0_does_273 fu 7 F G hm)
theorem cw_X0_does_267 (fu : Nat) {res : Int32 × PF × PG} (C : cMC p R s m args c A v RX0 cX0_does 3 3 69 (xn res.2.1 - xn K0)) (hret : ∀ (b1 : Nat) (H1 : Heap) (locs1 : List Loc) (ls1 : Array Slot) (pc : Nat), cMW s A v a b1 K0 res.2.1 res.2.2 H1 locs1 → narrow .int (.int res.1) = .int res.1 → decode cX0_does pc = .ok (.ireturn, 1) → W p l e R s m args below meth c H1 locs1 (xn res.2.1 - xn K0) (2 * (xn res.2.1 - xn K0)) Q (F0 m pc ls1 [.int res.1])) (F : PF) (G : PG) (hm : cb_X0_does_267 fu F G = some res) {b : Nat} {H : Heap} {locs : List Loc} (hw : cMW s A v a b K0 F G H locs) {ls : Array Slot} (hl : lv_has ls 3 []) : W p l e R s m args below meth c H locs (xn F - xn K0) (2 * (xn F - xn K0)) Q (F0 m 267 ls []) := by
  have hx := C.1
  have hb := C.2.1
  unfold cb_X0_does_267 at hm
  refine lv_bipush (v := 7) hx hb dX0_does_267 (by decide) ?_
  refine lv_goto (tgt := 273) hx hb dX0_does_269 (by decide) ?_
  exact cw_X0_does_273 fu C hret 7 F G hm hw (lv_sub hl [] rfl)
theorem cn_X0_does_261 (fu : Nat) {res : Int32 × PF × PG} (x1 : Int32) (F : PF) (G : PG) (hm : cb_X0_does_261 fu x1 F G = some res) : xn F ≤ xn res.2.1 := by
  unfold cb_X0_does_261 at hm
  by_cases c_1 : x1 = (1048691 : Int32)
  · have hm := (if_pos c_1).symm.trans hm
    exact (cn_X0_does_267 fu F G hm)
  · have hm := (if_neg c_1).symm.trans hm
    exact (cn_X0_does_272 fu F G hm)
theorem cw_X0_does_261 (fu : Nat) {res : Int32 × PF × PG} (C : cMC p R s m args c A v RX0 cX0_does 3 3 69 (xn res.2.1 - xn K0)) (hret : ∀ (b1 : Nat) (H1 : Heap) (locs1 : List Loc) (ls1 : Array Slot) (pc : Nat), cMW s A v a b1 K0 res.2.1 res.2.2 H1 locs1 → narrow .int (.int res.1) = .int res.1 → decode cX0_does pc = .ok (.ireturn, 1) → W p l e R s m args below meth c H1 locs1 (xn res.2.1 - xn K0) (2 * (xn res.2.1 - xn K0)) Q (F0 m pc ls1 [.int res.1])) (x1 : Int32) (F : PF) (G : PG) (hm : cb_X0_does_261 fu x1 F G = some res) {b : Nat} {H : Heap} {locs : List Loc} (hw : cMW s A v a b K0 F G H locs) {ls : Array Slot} (hl : lv_has ls 3 [(1, .int x1)]) : W p l e R s m args below meth c H locs (xn F - xn K0) (2 * (xn F - xn K0)) Q (F0 m 261 ls []) := by
  have hx := C.1
  have hb := C.2.1
  unfold cb_X0_does_261 at hm
  refine lv_iload_n hx hb dX0_does_261 rfl (lv_at hl 0 rfl) ?_
  refine lv_ldc (v := 1048691) hx hb C.2.2.2.1 (C.2.2.2.2.1 _ cm_967) dX0_does_262 ?_
  refine lv_icmp_ne (tgt := 272) hx hb dX0_does_264 (by decide) (fun c_1 => ?_) (fun c_1 => ?_)
  · have hm := (if_neg c_1).symm.trans hm
    exact cw_X0_does_272 fu C hret F G hm hw (lv_sub hl [] rfl)
  · have hm := (if_pos c_1).symm.trans hm
    exact cw_X0_does_267 fu C hret F G hm hw (lv_sub hl [] rfl)
theorem cn_X0_does_256 (fu : Nat) {res : Int32 × PF × PG} (F : PF) (G : PG) (hm : cb_X0_does_256 fu F G = some res) : xn F ≤ xn res.2.1 := by
  unfold cb_X0_does_256 at hm
  exact (cn_X0_does_273 fu 6 F G hm)
theorem cw_X0_does_256 (fu : Nat) {res : Int32 × PF × PG} (C : cMC p R s m args c A v RX0 cX0_does 3 3 69 (xn res.2.1 - xn K0)) (hret : ∀ (b1 : Nat) (H1 : Heap) (locs1 : List Loc) (ls1 : Array Slot) (pc : Nat), cMW s A v a b1 K0 res.2.1 res.2.2 H1 locs1 → narrow .int (.int res.1) = .int res.1 → decode cX0_does pc = .ok (.ireturn, 1) → W p l e R s m args below meth c H1 locs1 (xn res.2.1 - xn K0) (2 * (xn res.2.1 - xn K0)) Q (F0 m pc ls1 [.int res.1])) (F : PF) (G : PG) (hm : cb_X0_does_256 fu F G = some res) {b : Nat} {H : Heap} {locs : List Loc} (hw : cMW s A v a b K0 F G H locs) {ls : Array Slot} (hl : lv_has ls 3 []) : W p l e R s m args below meth c H locs (xn F - xn K0) (2 * (xn F - xn K0)) Q (F0 m 256 ls []) := by
  have hx := C.1
  have hb := C.2.1
  unfold cb_X0_does_256 at hm
  refine lv_bipush (v := 6) hx hb dX0_does_256 (by decide) ?_
  refine lv_goto (tgt := 273) hx hb dX0_does_258 (by decide) ?_
  exact cw_X0_does_273 fu C hret 6 F G hm hw (lv_sub hl [] rfl)
theorem cn_X0_does_250 (fu : Nat) {res : Int32 × PF × PG} (x1 : Int32) (F : PF) (G : PG) (hm : cb_X0_does_250 fu x1 F G = some res) : xn F ≤ xn res.2.1 := by
  unfold cb_X0_does_250 at hm
  by_cases c_1 : x1 = (115 : Int32)
  · have hm := (if_pos c_1).symm.trans hm
    exact (cn_X0_does_256 fu F G hm)
  · have hm := (if_neg c_1).symm.trans hm
    exact (cn_X0_does_261 fu x1 F G hm)
theorem cw_X0_does_250 (fu : Nat) {res : Int32 × PF × PG} (C : cMC p R s m args c A v RX0 cX0_does 3 3 69 (xn res.2.1 - xn K0)) (hret : ∀ (b1 : Nat) (H1 : Heap) (locs1 : List Loc) (ls1 : Array Slot) (pc : Nat), cMW s A v a b1 K0 res.2.1 res.2.2 H1 locs1 → narrow .int (.int res.1) = .int res.1 → decode cX0_does pc = .ok (.ireturn, 1) → W p l e R s m args below meth c H1 locs1 (xn res.2.1 - xn K0) (2 * (xn res.2.1 - xn K0)) Q (F0 m pc ls1 [.int res.1])) (x1 : Int32) (F : PF) (G : PG) (hm : cb_X0_does_250 fu x1 F G = some res) {b : Nat} {H : Heap} {locs : List Loc} (hw : cMW s A v a b K0 F G H locs) {ls : Array Slot} (hl : lv_has ls 3 [(1, .int x1)]) : W p l e R s m args below meth c H locs (xn F - xn K0) (2 * (xn F - xn K0)) Q (F0 m 250 ls []) := by
  have hx := C.1
  have hb := C.2.1
  unfold cb_X0_does_250 at hm
  refine lv_iload_n hx hb dX0_does_250 rfl (lv_at hl 0 rfl) ?_
  refine lv_bipush (v := 115) hx hb dX0_does_251 (by decide) ?_
  refine lv_icmp_ne (tgt := 261) hx hb dX0_does_253 (by decide) (fun c_1 => ?_) (fun c_1 => ?_)
  · have hm := (if_neg c_1).symm.trans hm
    exact cw_X0_does_261 fu C hret x1 F G hm hw (lv_sub hl [0] rfl)
  · have hm := (if_pos c_1).symm.trans hm
    exact cw_X0_does_256 fu C hret F G hm hw (lv_sub hl [] rfl)
theorem cn_X0_does_0 (fu : Nat) {res : Int32 × PF × PG} (x1 : Int32) (F : PF) (G : PG) (hm : cb_X0_does_0 fu x1 F G = some res) : xn F ≤ xn res.2.1 := by
  unfold cb_X0_does_0 at hm
  by_cases c_1 : (x1 &&& (127 : Int32)) = 3
  · have hm := (if_pos c_1).symm.trans hm
    exact (cn_X0_does_210 fu x1 F G hm)
  have hm := (if_neg c_1).symm.trans hm
  clear c_1
  by_cases c_1 : (x1 &&& (127 : Int32)) = 15
  · have hm := (if_pos c_1).symm.trans hm
    exact (cn_X0_does_234 fu x1 F G hm)
  have hm := (if_neg c_1).symm.trans hm
  clear c_1
  by_cases c_1 : (x1 &&& (127 : Int32)) = 19
  · have hm := (if_pos c_1).symm.trans hm
    exact (cn_X0_does_222 fu x1 F G hm)
  have hm := (if_neg c_1).symm.trans hm
  clear c_1
  by_cases c_1 : (x1 &&& (127 : Int32)) = 23
  · have hm := (if_pos c_1).symm.trans hm
    exact (cn_X0_does_113 fu x1 F G hm)
  have hm := (if_neg c_1).symm.trans hm
  clear c_1
  by_cases c_1 : (x1 &&& (127 : Int32)) = 35
  · have hm := (if_pos c_1).symm.trans hm
    exact (cn_X0_does_216 fu x1 F G hm)
  have hm := (if_neg c_1).symm.trans hm
  clear c_1
  by_cases c_1 : (x1 &&& (127 : Int32)) = 51
  · have hm := (if_pos c_1).symm.trans hm
    exact (cn_X0_does_228 fu x1 F G hm)
  have hm := (if_neg c_1).symm.trans hm
  clear c_1
  by_cases c_1 : (x1 &&& (127 : Int32)) = 55
  · have hm := (if_pos c_1).symm.trans hm
    exact (cn_X0_does_96 fu x1 F G hm)
  have hm := (if_neg c_1).symm.trans hm
  clear c_1
  by_cases c_1 : (x1 &&& (127 : Int32)) = 99
  · have hm := (if_pos c_1).symm.trans hm
    exact (cn_X0_does_204 fu x1 F G hm)
  have hm := (if_neg c_1).symm.trans hm
  clear c_1
  by_cases c_1 : (x1 &&& (127 : Int32)) = 103
  · have hm := (if_pos c_1).symm.trans hm
    exact (cn_X0_does_156 fu x1 F G hm)
  have hm := (if_neg c_1).symm.trans hm
  clear c_1
  by_cases c_1 : (x1 &&& (127 : Int32)) = 111
  · have hm := (if_pos c_1).symm.trans hm
    exact (cn_X0_does_135 fu x1 F G hm)
  have hm := (if_neg c_1).symm.trans hm
  clear c_1
  exact (cn_X0_does_250 fu x1 F G hm)
theorem cw_X0_does_0 (fu : Nat) {res : Int32 × PF × PG} (C : cMC p R s m args c A v RX0 cX0_does 3 3 69 (xn res.2.1 - xn K0)) (hret : ∀ (b1 : Nat) (H1 : Heap) (locs1 : List Loc) (ls1 : Array Slot) (pc : Nat), cMW s A v a b1 K0 res.2.1 res.2.2 H1 locs1 → narrow .int (.int res.1) = .int res.1 → decode cX0_does pc = .ok (.ireturn, 1) → W p l e R s m args below meth c H1 locs1 (xn res.2.1 - xn K0) (2 * (xn res.2.1 - xn K0)) Q (F0 m pc ls1 [.int res.1])) (x1 : Int32) (F : PF) (G : PG) (hm : cb_X0_does_0 fu x1 F G = some res) {b : Nat} {H : Heap} {locs : List Loc} (hw : cMW s A v a b K0 F G H locs) {ls : Array Slot} (hl : lv_has ls 3 [(0, .ref (a 200)), (1, .int x1)]) : W p l e R s m args below meth c H locs (xn F - xn K0) (2 * (xn F - xn K0)) Q (F0 m 0 ls []) := by
  have hx := C.1
  have hb := C.2.1
  unfold cb_X0_does_0 at hm
  refine lv_iload_n hx hb dX0_does_0 rfl (lv_at hl 1 rfl) ?_
  refine lv_bipush (v := 127) hx hb dX0_does_1 (by decide) ?_
  refine lv_iand hx hb dX0_does_3 ?_
  by_cases c_1 : (x1 &&& (127 : Int32)) = 3
  · have hm := (if_pos c_1).symm.trans hm
    refine my_top 3 c_1 ?_
    refine lv_lookup (off := 206) (tgt := 210) hx hb dX0_does_4 (by decide) (by decide) (by decide) ?_
    exact cw_X0_does_210 fu C hret x1 F G hm hw (lv_sub hl [0, 1] rfl)
  have hm := (if_neg c_1).symm.trans hm
  have n_0 := c_1
  clear c_1
  by_cases c_1 : (x1 &&& (127 : Int32)) = 15
  · have hm := (if_pos c_1).symm.trans hm
    refine my_top 15 c_1 ?_
    refine lv_lookup (off := 230) (tgt := 234) hx hb dX0_does_4 (by decide) (by decide) (by decide) ?_
    exact cw_X0_does_234 fu C hret x1 F G hm hw (lv_sub hl [1] rfl)
  have hm := (if_neg c_1).symm.trans hm
  have n_1 := c_1
  clear c_1
  by_cases c_1 : (x1 &&& (127 : Int32)) = 19
  · have hm := (if_pos c_1).symm.trans hm
    refine my_top 19 c_1 ?_
    refine lv_lookup (off := 218) (tgt := 222) hx hb dX0_does_4 (by decide) (by decide) (by decide) ?_
    exact cw_X0_does_222 fu C hret x1 F G hm hw (lv_sub hl [0, 1] rfl)
  have hm := (if_neg c_1).symm.trans hm
  have n_2 := c_1
  clear c_1
  by_cases c_1 : (x1 &&& (127 : Int32)) = 23
  · have hm := (if_pos c_1).symm.trans hm
    refine my_top 23 c_1 ?_
    refine lv_lookup (off := 109) (tgt := 113) hx hb dX0_does_4 (by decide) (by decide) (by decide) ?_
    exact cw_X0_does_113 fu C hret x1 F G hm hw (lv_sub hl [0, 1] rfl)
  have hm := (if_neg c_1).symm.trans hm
  have n_3 := c_1
  clear c_1
  by_cases c_1 : (x1 &&& (127 : Int32)) = 35
  · have hm := (if_pos c_1).symm.trans hm
    refine my_top 35 c_1 ?_
    refine lv_lookup (off := 212) (tgt := 216) hx hb dX0_does_4 (by decide) (by decide) (by decide) ?_
    exact cw_X0_does_216 fu C hret x1 F G hm hw (lv_sub hl [0, 1] rfl)
  have hm := (if_neg c_1).symm.trans hm
  have n_4 := c_1
  clear c_1
  by_cases c_1 : (x1 &&& (127 : Int32)) = 51
  · have hm := (if_pos c_1).symm.trans hm
    refine my_top 51 c_1 ?_
    refine lv_lookup (off := 224) (tgt := 228) hx hb dX0_does_4 (by decide) (by decide) (by decide) ?_
    exact cw_X0_does_228 fu C hret x1 F G hm hw (lv_sub hl [0, 1] rfl)
  have hm := (if_neg c_1).symm.trans hm
  have n_5 := c_1
  clear c_1
  by_cases c_1 : (x1 &&& (127 : Int32)) = 55
  · have hm := (if_pos c_1).symm.trans hm
    refine my_top 55 c_1 ?_
    refine lv_lookup (off := 92) (tgt := 96) hx hb dX0_does_4 (by decide) (by decide) (by decide) ?_
    exact cw_X0_does_96 fu C hret x1 F G hm hw (lv_sub hl [0, 1] rfl)
  have hm := (if_neg c_1).symm.trans hm
  have n_6 := c_1
  clear c_1
  by_cases c_1 : (x1 &&& (127 : Int32)) = 99
  · have hm := (if_pos c_1).symm.trans hm
    refine my_top 99 c_1 ?_
    refine lv_lookup (off := 200) (tgt := 204) hx hb dX0_does_4 (by decide) (by decide) (by decide) ?_
    exact cw_X0_does_204 fu C hret x1 F G hm hw (lv_sub hl [0, 1] rfl)
  have hm := (if_neg c_1).symm.trans hm
  have n_7 := c_1
  clear c_1
  by_cases c_1 : (x1 &&& (127 : Int32)) = 103
  · have hm := (if_pos c_1).symm.trans hm
    refine my_top 103 c_1 ?_
    refine lv_lookup (off := 152) (tgt := 156) hx hb dX0_does_4 (by decide) (by decide) (by decide) ?_
    exact cw_X0_does_156 fu C hret x1 F G hm hw (lv_sub hl [0, 1] rfl)
  have hm := (if_neg c_1).symm.trans hm
  have n_8 := c_1
  clear c_1
  by_cases c_1 : (x1 &&& (127 : Int32)) = 111
  · have hm := (if_pos c_1).symm.trans hm
    refine my_top 111 c_1 ?_
    refine lv_lookup (off := 131) (tgt := 135) hx hb dX0_does_4 (by decide) (by decide) (by decide) ?_
    exact cw_X0_does_135 fu C hret x1 F G hm hw (lv_sub hl [0, 1] rfl)
  have hm := (if_neg c_1).symm.trans hm
  have n_9 := c_1
  clear c_1
  refine lv_lookup (off := 246) (tgt := 250) hx hb dX0_does_4 (by decide) ((lv_osw n_0 (by decide)).trans ((lv_osw n_1 (by decide)).trans ((lv_osw n_2 (by decide)).trans ((lv_osw n_3 (by decide)).trans ((lv_osw n_4 (by decide)).trans ((lv_osw n_5 (by decide)).trans ((lv_osw n_6 (by decide)).trans ((lv_osw n_7 (by decide)).trans ((lv_osw n_8 (by decide)).trans ((lv_osw n_9 (by decide)).trans (rfl))))))))))) (by decide) ?_
  exact cw_X0_does_250 fu C hret x1 F G hm hw (lv_sub hl [1] rfl)
theorem cn_X0_does (fu : Nat) (x1 : Int32) (F : PF) (G : PG) (q : Int32 × PF × PG) (hm : cf_X0_does fu x1 F G = some q) : xn F ≤ xn q.2.1 := cn_X0_does_0 fu x1 F G hm
theorem ck_X0_does (l : Launch) (v : EV) (a : Nat → Nat) (b sz : Nat) (fu : Nat) (x1 : Int32) (F : PF) (G : PG) (r : Int32) (F1 : PF) (G1 : PG) (hm : cf_X0_does fu x1 F G = some (r, F1, G1)) : cMI l yX0_does cX0_does 3 (some .int) 3 69 v a b sz [.ref (a 200), .int x1] F G r F1 G1 := cMI.of (ty := .int) (by decide) rfl (Nat.le_of_ble_eq_true rfl) (fun p e R s m args below meth c Q A H locs ls C hw hl hret => cw_X0_does_0 fu (res := (r, F1, G1)) C hret x1 F G hm hw hl)
end MB
