section MB
variable {p : Program} {l : Launch} {e : Env} {R : Room} {s : State} {m : MethodId} {args : Array Value} {below : List Frame} {meth : Method} {c : Code} {H : Heap} {locs : List Loc} {Q : State → Prop} {A : Nat → Prop} {v : EV} {a : Nat → Nat} {b ce : Nat} {own : String} {cc : ByteArray} {nL fr lo : Nat} {K0 : PF}
def cb_X8_tellInt_18 (fu : Nat) (F : PF) (G : PG) : PR := some (0, F, G)
def cb_X8_tellInt_11 (fu : Nat) (x1 : Int32) (x2 : Int32) (F : PF) (G : PG) : PR := if ixb x1 2000 = true then (cb_X8_tellInt_18 fu F (gup G 86 x1.toNatClampNeg x2)) else none
def cb_X8_tellInt_4 (fu : Nat) (x1 : Int32) (x2 : Int32) (F : PF) (G : PG) : PR := if (2000 : Int32) ≤ x1 then cb_X8_tellInt_18 fu F G else cb_X8_tellInt_11 fu x1 x2 F G
def cb_X8_tellInt_0 (fu : Nat) (x1 : Int32) (x2 : Int32) (F : PF) (G : PG) : PR := if x1 < (0 : Int32) then cb_X8_tellInt_18 fu F G else cb_X8_tellInt_4 fu x1 x2 F G
def cf_X8_tellInt (fu : Nat) (x1 : Int32) (x2 : Int32) (F : PF) (G : PG) : PR := cb_X8_tellInt_0 fu x1 x2 F G
theorem cn_X8_tellInt_18 (fu : Nat) {res : Int32 × PF × PG} (F : PF) (G : PG) (hm : cb_X8_tellInt_18 fu F G = some res) : xn F ≤ xn res.2.1 := by
  unfold cb_X8_tellInt_18 at hm
  obtain rfl := Option.some.inj hm
  exact Nat.le_refl _
theorem cw_X8_tellInt_18 (fu : Nat) {res : Int32 × PF × PG} (C : cMC p R s m args c A v RX8 cX8_tellInt 3 0 0 (xn res.2.1 - xn K0)) (hret : ∀ (b1 : Nat) (H1 : Heap) (locs1 : List Loc) (ls1 : Array Slot) (pc : Nat), cMW s A v a b1 K0 res.2.1 res.2.2 H1 locs1 → decode cX8_tellInt pc = .ok (.return_, 1) → W p l e R s m args below meth c H1 locs1 (xn res.2.1 - xn K0) (2 * (xn res.2.1 - xn K0)) Q (F0 m pc ls1 [])) (F : PF) (G : PG) (hm : cb_X8_tellInt_18 fu F G = some res) {b : Nat} {H : Heap} {locs : List Loc} (hw : cMW s A v a b K0 F G H locs) {ls : Array Slot} (hl : lv_has ls 3 []) : W p l e R s m args below meth c H locs (xn F - xn K0) (2 * (xn F - xn K0)) Q (F0 m 18 ls []) := by
  have hx := C.1
  have hb := C.2.1
  unfold cb_X8_tellInt_18 at hm
  obtain rfl := Option.some.inj hm
  exact hret _ _ _ _ _ hw dX8_tellInt_18
theorem cn_X8_tellInt_11 (fu : Nat) {res : Int32 × PF × PG} (x1 : Int32) (x2 : Int32) (F : PF) (G : PG) (hm : cb_X8_tellInt_11 fu x1 x2 F G = some res) : xn F ≤ xn res.2.1 := by
  unfold cb_X8_tellInt_11 at hm
  have hm := (ix_elim hm).2
  exact (cn_X8_tellInt_18 fu F (gup G 86 x1.toNatClampNeg x2) hm)
theorem cw_X8_tellInt_11 (fu : Nat) {res : Int32 × PF × PG} (C : cMC p R s m args c A v RX8 cX8_tellInt 3 0 0 (xn res.2.1 - xn K0)) (hret : ∀ (b1 : Nat) (H1 : Heap) (locs1 : List Loc) (ls1 : Array Slot) (pc : Nat), cMW s A v a b1 K0 res.2.1 res.2.2 H1 locs1 → decode cX8_tellInt pc = .ok (.return_, 1) → W p l e R s m args below meth c H1 locs1 (xn res.2.1 - xn K0) (2 * (xn res.2.1 - xn K0)) Q (F0 m pc ls1 [])) (x1 : Int32) (x2 : Int32) (F : PF) (G : PG) (hm : cb_X8_tellInt_11 fu x1 x2 F G = some res) {b : Nat} {H : Heap} {locs : List Loc} (hw : cMW s A v a b K0 F G H locs) {ls : Array Slot} (hl : lv_has ls 3 [(0, .ref (a 208)), (1, .int x1), (2, .int x2)]) : W p l e R s m args below meth c H locs (xn F - xn K0) (2 * (xn F - xn K0)) Q (F0 m 11 ls []) := by
  have hx := C.1
  have hb := C.2.1
  unfold cb_X8_tellInt_11 at hm
  refine lv_aload_n hx hb dX8_tellInt_11 rfl (lv_at hl 0 rfl) ?_
  refine cg_X8_36 C hw dX8_tellInt_12 ?_
  refine lv_iload_n hx hb dX8_tellInt_15 rfl (lv_at hl 1 rfl) ?_
  refine lv_iload_n hx hb dX8_tellInt_16 rfl (lv_at hl 2 rfl) ?_
  obtain ⟨hi, hm⟩ := ix_elim hm
  refine cas_86 C hw hi dX8_tellInt_17 (fun H locs hw => ?_)
  exact cw_X8_tellInt_18 fu C hret F (gup G 86 x1.toNatClampNeg x2) hm hw (lv_sub hl [] rfl)
theorem cn_X8_tellInt_4 (fu : Nat) {res : Int32 × PF × PG} (x1 : Int32) (x2 : Int32) (F : PF) (G : PG) (hm : cb_X8_tellInt_4 fu x1 x2 F G = some res) : xn F ≤ xn res.2.1 := by
  unfold cb_X8_tellInt_4 at hm
  by_cases c_1 : (2000 : Int32) ≤ x1
  · have hm := (if_pos c_1).symm.trans hm
    exact (cn_X8_tellInt_18 fu F G hm)
  · have hm := (if_neg c_1).symm.trans hm
    exact (cn_X8_tellInt_11 fu x1 x2 F G hm)
theorem cw_X8_tellInt_4 (fu : Nat) {res : Int32 × PF × PG} (C : cMC p R s m args c A v RX8 cX8_tellInt 3 0 0 (xn res.2.1 - xn K0)) (hret : ∀ (b1 : Nat) (H1 : Heap) (locs1 : List Loc) (ls1 : Array Slot) (pc : Nat), cMW s A v a b1 K0 res.2.1 res.2.2 H1 locs1 → decode cX8_tellInt pc = .ok (.return_, 1) → W p l e R s m args below meth c H1 locs1 (xn res.2.1 - xn K0) (2 * (xn res.2.1 - xn K0)) Q (F0 m pc ls1 [])) (x1 : Int32) (x2 : Int32) (F : PF) (G : PG) (hm : cb_X8_tellInt_4 fu x1 x2 F G = some res) {b : Nat} {H : Heap} {locs : List Loc} (hw : cMW s A v a b K0 F G H locs) {ls : Array Slot} (hl : lv_has ls 3 [(0, .ref (a 208)), (1, .int x1), (2, .int x2)]) : W p l e R s m args below meth c H locs (xn F - xn K0) (2 * (xn F - xn K0)) Q (F0 m 4 ls []) := by
  have hx := C.1
  have hb := C.2.1
  unfold cb_X8_tellInt_4 at hm
  refine lv_iload_n hx hb dX8_tellInt_4 rfl (lv_at hl 1 rfl) ?_
  refine lv_sipush (v := 2000) hx hb dX8_tellInt_5 (by decide) ?_
  refine lv_icmp_ge (tgt := 18) hx hb dX8_tellInt_8 (by decide) (fun c_1 => ?_) (fun c_1 => ?_)
  · have hm := (if_pos c_1).symm.trans hm
    exact cw_X8_tellInt_18 fu C hret F G hm hw (lv_sub hl [] rfl)
  · have hm := (if_neg c_1).symm.trans hm
    exact cw_X8_tellInt_11 fu C hret x1 x2 F G hm hw (lv_sub hl [0, 1, 2] rfl)
theorem cn_X8_tellInt_0 (fu : Nat) {res : Int32 × PF × PG} (x1 : Int32) (x2 : Int32) (F : PF) (G : PG) (hm : cb_X8_tellInt_0 fu x1 x2 F G = some res) : xn F ≤ xn res.2.1 := by
  unfold cb_X8_tellInt_0 at hm
  by_cases c_1 : x1 < (0 : Int32)
  · have hm := (if_pos c_1).symm.trans hm
    exact (cn_X8_tellInt_18 fu F G hm)
  · have hm := (if_neg c_1).symm.trans hm
    exact (cn_X8_tellInt_4 fu x1 x2 F G hm)
theorem cw_X8_tellInt_0 (fu : Nat) {res : Int32 × PF × PG} (C : cMC p R s m args c A v RX8 cX8_tellInt 3 0 0 (xn res.2.1 - xn K0)) (hret : ∀ (b1 : Nat) (H1 : Heap) (locs1 : List Loc) (ls1 : Array Slot) (pc : Nat), cMW s A v a b1 K0 res.2.1 res.2.2 H1 locs1 → decode cX8_tellInt pc = .ok (.return_, 1) → W p l e R s m args below meth c H1 locs1 (xn res.2.1 - xn K0) (2 * (xn res.2.1 - xn K0)) Q (F0 m pc ls1 [])) (x1 : Int32) (x2 : Int32) (F : PF) (G : PG) (hm : cb_X8_tellInt_0 fu x1 x2 F G = some res) {b : Nat} {H : Heap} {locs : List Loc} (hw : cMW s A v a b K0 F G H locs) {ls : Array Slot} (hl : lv_has ls 3 [(0, .ref (a 208)), (1, .int x1), (2, .int x2)]) : W p l e R s m args below meth c H locs (xn F - xn K0) (2 * (xn F - xn K0)) Q (F0 m 0 ls []) := by
  have hx := C.1
  have hb := C.2.1
  unfold cb_X8_tellInt_0 at hm
  refine lv_iload_n hx hb dX8_tellInt_0 rfl (lv_at hl 1 rfl) ?_
  refine lv_if_lt (tgt := 18) hx hb dX8_tellInt_1 (by decide) (fun c_1 => ?_) (fun c_1 => ?_)
  · have hm := (if_pos c_1).symm.trans hm
    exact cw_X8_tellInt_18 fu C hret F G hm hw (lv_sub hl [] rfl)
  · have hm := (if_neg c_1).symm.trans hm
    exact cw_X8_tellInt_4 fu C hret x1 x2 F G hm hw (lv_sub hl [0, 1, 2] rfl)
theorem cn_X8_tellInt (fu : Nat) (x1 : Int32) (x2 : Int32) (F : PF) (G : PG) (q : Int32 × PF × PG) (hm : cf_X8_tellInt fu x1 x2 F G = some q) : xn F ≤ xn q.2.1 := cn_X8_tellInt_0 fu x1 x2 F G hm
theorem ck_X8_tellInt (l : Launch) (v : EV) (a : Nat → Nat) (b sz : Nat) (fu : Nat) (x1 : Int32) (x2 : Int32) (F : PF) (G : PG) (r : Int32) (F1 : PF) (G1 : PG) (hm : cf_X8_tellInt fu x1 x2 F G = some (r, F1, G1)) : cMV l yX8_tellInt cX8_tellInt 3 0 0 v a b sz [.ref (a 208), .int x1, .int x2] F G F1 G1 := cMV.of (by decide) (Nat.le_of_ble_eq_true rfl) (fun p e R s m args below meth c Q A H locs ls C hw hl hret => cw_X8_tellInt_0 fu (res := (r, F1, G1)) C hret x1 x2 F G hm hw hl)
def cb_X4_globalInt_72 (fu : Nat) (F : PF) (G : PG) : PR := some (0, F, G)
def cb_X4_globalInt_59 (fu : Nat) (x1 : Int32) (x2 : Int32) (x4 : Int32) (F : PF) (G : PG) : PR := (cf_X5_tell fu x1 x2 1 x4 0 F G).bind (fun q => cb_X4_globalInt_72 fu q.2.1 q.2.2)
def cb_X4_globalInt_47 (fu : Nat) (x1 : Int32) (x2 : Int32) (x3 : Int32) (z0 : Int32) (F : PF) (G : PG) : PR := (cf_X8_tellInt fu z0 x3 F G).bind (fun q => cb_X4_globalInt_59 fu x1 x2 z0 q.2.1 q.2.2)
def cb_X4_globalInt_38 (fu : Nat) (x1 : Int32) (x2 : Int32) (x3 : Int32) (F : PF) (G : PG) : PR := (cf_X5_globalRoom fu 1 x2 F G).bind (fun q => cb_X4_globalInt_47 fu x1 x2 x3 q.1 q.2.1 q.2.2)
def cb_X4_globalInt_29 (fu : Nat) (x1 : Int32) (x2 : Int32) (x3 : Int32) (F : PF) (G : PG) : PR := (cf_X2_expect fu 26 F G).bind (fun q => cb_X4_globalInt_38 fu x1 x2 x3 q.2.1 q.2.2)
def cb_X4_globalInt_28 (fu : Nat) (x1 : Int32) (x2 : Int32) (z0 : Int32) (F : PF) (G : PG) : PR := cb_X4_globalInt_29 fu x1 x2 z0 F G
def cb_X4_globalInt_21 (fu : Nat) (x1 : Int32) (x2 : Int32) (F : PF) (G : PG) : PR := (cf_X3_constant fu F G).bind (fun q => cb_X4_globalInt_28 fu x1 x2 q.1 q.2.1 q.2.2)
def cb_X4_globalInt_14 (fu : Nat) (x1 : Int32) (x2 : Int32) (F : PF) (G : PG) : PR := (cf_X2_next fu F G).bind (fun q => cb_X4_globalInt_21 fu x1 x2 q.2.1 q.2.2)
def cb_X4_globalInt_0 (fu : Nat) (x1 : Int32) (x2 : Int32) (F : PF) (G : PG) : PR := if (F 11) = (29 : Int32) then cb_X4_globalInt_14 fu x1 x2 F G else cb_X4_globalInt_29 fu x1 x2 0 F G
def cf_X4_globalInt (fu : Nat) (x1 : Int32) (x2 : Int32) (F : PF) (G : PG) : PR := cb_X4_globalInt_0 fu x1 x2 F G
theorem cn_X4_globalInt_72 (fu : Nat) {res : Int32 × PF × PG} (F : PF) (G : PG) (hm : cb_X4_globalInt_72 fu F G = some res) : xn F ≤ xn res.2.1 := by
  unfold cb_X4_globalInt_72 at hm
  obtain rfl := Option.some.inj hm
  exact Nat.le_refl _
theorem cw_X4_globalInt_72 (fu : Nat) {res : Int32 × PF × PG} (C : cMC p R s m args c A v RX4 cX4_globalInt 5 304 18093 (xn res.2.1 - xn K0)) (hret : ∀ (b1 : Nat) (H1 : Heap) (locs1 : List Loc) (ls1 : Array Slot) (pc : Nat), cMW s A v a b1 K0 res.2.1 res.2.2 H1 locs1 → decode cX4_globalInt pc = .ok (.return_, 1) → W p l e R s m args below meth c H1 locs1 (xn res.2.1 - xn K0) (2 * (xn res.2.1 - xn K0)) Q (F0 m pc ls1 [])) (F : PF) (G : PG) (hm : cb_X4_globalInt_72 fu F G = some res) {b : Nat} {H : Heap} {locs : List Loc} (hw : cMW s A v a b K0 F G H locs) {ls : Array Slot} (hl : lv_has ls 5 []) : W p l e R s m args below meth c H locs (xn F - xn K0) (2 * (xn F - xn K0)) Q (F0 m 72 ls []) := by
  have hx := C.1
  have hb := C.2.1
  unfold cb_X4_globalInt_72 at hm
  obtain rfl := Option.some.inj hm
  exact hret _ _ _ _ _ hw dX4_globalInt_72
theorem cn_X4_globalInt_59 (fu : Nat) {res : Int32 × PF × PG} (x1 : Int32) (x2 : Int32) (x4 : Int32) (F : PF) (G : PG) (hm : cb_X4_globalInt_59 fu x1 x2 x4 F G = some res) : xn F ≤ xn res.2.1 := by
  unfold cb_X4_globalInt_59 at hm
  obtain ⟨⟨r1, F1, G1⟩, hc, hm⟩ := bind_elim hm
  exact Nat.le_trans (cn_X5_tell fu x1 x2 1 x4 0 F G _ hc) (cn_X4_globalInt_72 fu F1 G1 hm)
theorem cw_X4_globalInt_59 (fu : Nat) {res : Int32 × PF × PG} (C : cMC p R s m args c A v RX4 cX4_globalInt 5 304 18093 (xn res.2.1 - xn K0)) (hret : ∀ (b1 : Nat) (H1 : Heap) (locs1 : List Loc) (ls1 : Array Slot) (pc : Nat), cMW s A v a b1 K0 res.2.1 res.2.2 H1 locs1 → decode cX4_globalInt pc = .ok (.return_, 1) → W p l e R s m args below meth c H1 locs1 (xn res.2.1 - xn K0) (2 * (xn res.2.1 - xn K0)) Q (F0 m pc ls1 [])) (x1 : Int32) (x2 : Int32) (x4 : Int32) (F : PF) (G : PG) (hm : cb_X4_globalInt_59 fu x1 x2 x4 F G = some res) {b : Nat} {H : Heap} {locs : List Loc} (hw : cMW s A v a b K0 F G H locs) {ls : Array Slot} (hl : lv_has ls 5 [(0, .ref (a 204)), (1, .int x1), (2, .int x2), (4, .int x4)]) : W p l e R s m args below meth c H locs (xn F - xn K0) (2 * (xn F - xn K0)) Q (F0 m 59 ls []) := by
  have hx := C.1
  have hb := C.2.1
  unfold cb_X4_globalInt_59 at hm
  refine lv_aload_n hx hb dX4_globalInt_59 rfl (lv_at hl 0 rfl) ?_
  refine cg_X4_15 C hw dX4_globalInt_60 ?_
  refine lv_iload_n hx hb dX4_globalInt_63 rfl (lv_at hl 1 rfl) ?_
  refine lv_iload_n hx hb dX4_globalInt_64 rfl (lv_at hl 2 rfl) ?_
  refine lv_iconst (v := 1) hx hb dX4_globalInt_65 (by decide) ?_
  refine lv_iload hx hb dX4_globalInt_66 (lv_at hl 3 rfl) ?_
  refine lv_iconst (v := 0) hx hb dX4_globalInt_68 (by decide) ?_
  obtain ⟨⟨r1, F1, G1⟩, hc, hm⟩ := bind_elim hm
  refine ccallV (n := 5) (As := [.int x1, .int x2, .int 1, .int x4, .int 0]) (rest := []) C hw (ck_X5_tell l v a _ _ fu x1 x2 1 x4 0 F G r1 F1 G1 hc) (cn_X5_tell fu x1 x2 1 x4 0 F G _ hc) (Nat.sub_le_sub_right (cn_X4_globalInt_72 fu F1 G1 hm) _) (crecv_X5 C hw) cm_574 cm_575 cm_576 cm_266 cm_577 (by decide +kernel) rfl (by omega) (by omega) hl.1 rfl (Nat.le_of_ble_eq_true rfl) dX4_globalInt_69 (fun b H locs hw => ?_)
  exact cw_X4_globalInt_72 fu C hret F1 G1 hm hw (lv_sub hl [] rfl)
theorem cn_X4_globalInt_47 (fu : Nat) {res : Int32 × PF × PG} (x1 : Int32) (x2 : Int32) (x3 : Int32) (z0 : Int32) (F : PF) (G : PG) (hm : cb_X4_globalInt_47 fu x1 x2 x3 z0 F G = some res) : xn F ≤ xn res.2.1 := by
  unfold cb_X4_globalInt_47 at hm
  obtain ⟨⟨r1, F1, G1⟩, hc, hm⟩ := bind_elim hm
  exact Nat.le_trans (cn_X8_tellInt fu z0 x3 F G _ hc) (cn_X4_globalInt_59 fu x1 x2 z0 F1 G1 hm)
theorem cw_X4_globalInt_47 (fu : Nat) {res : Int32 × PF × PG} (C : cMC p R s m args c A v RX4 cX4_globalInt 5 304 18093 (xn res.2.1 - xn K0)) (hret : ∀ (b1 : Nat) (H1 : Heap) (locs1 : List Loc) (ls1 : Array Slot) (pc : Nat), cMW s A v a b1 K0 res.2.1 res.2.2 H1 locs1 → decode cX4_globalInt pc = .ok (.return_, 1) → W p l e R s m args below meth c H1 locs1 (xn res.2.1 - xn K0) (2 * (xn res.2.1 - xn K0)) Q (F0 m pc ls1 [])) (x1 : Int32) (x2 : Int32) (x3 : Int32) (z0 : Int32) (F : PF) (G : PG) (hm : cb_X4_globalInt_47 fu x1 x2 x3 z0 F G = some res) {b : Nat} {H : Heap} {locs : List Loc} (hw : cMW s A v a b K0 F G H locs) {ls : Array Slot} (hl : lv_has ls 5 [(0, .ref (a 204)), (1, .int x1), (2, .int x2), (3, .int x3)]) : W p l e R s m args below meth c H locs (xn F - xn K0) (2 * (xn F - xn K0)) Q (F0 m 47 ls [.int z0]) := by
  have hx := C.1
  have hb := C.2.1
  unfold cb_X4_globalInt_47 at hm
  refine lv_istore (lv' := [(4, .int z0), (0, .ref (a 204)), (1, .int x1), (2, .int x2), (3, .int x3)]) hx hb dX4_globalInt_47 hl (by decide) rfl (fun ls hl => ?_)
  refine lv_aload_n hx hb dX4_globalInt_49 rfl (lv_at hl 1 rfl) ?_
  refine cg_X4_23 C hw dX4_globalInt_50 ?_
  refine lv_iload hx hb dX4_globalInt_53 (lv_at hl 0 rfl) ?_
  refine lv_iload_n hx hb dX4_globalInt_55 rfl (lv_at hl 4 rfl) ?_
  obtain ⟨⟨r1, F1, G1⟩, hc, hm⟩ := bind_elim hm
  refine ccallV (n := 2) (As := [.int z0, .int x3]) (rest := []) C hw (ck_X8_tellInt l v a _ _ fu z0 x3 F G r1 F1 G1 hc) (cn_X8_tellInt fu z0 x3 F G _ hc) (Nat.sub_le_sub_right (cn_X4_globalInt_59 fu x1 x2 z0 F1 G1 hm) _) (crecv_X8 C hw) cm_775 cm_776 cm_777 cm_254 cm_778 (by decide +kernel) rfl (by omega) (by omega) hl.1 rfl (Nat.le_of_ble_eq_true rfl) dX4_globalInt_56 (fun b H locs hw => ?_)
  exact cw_X4_globalInt_59 fu C hret x1 x2 z0 F1 G1 hm hw (lv_sub hl [1, 2, 3, 0] rfl)
theorem cn_X4_globalInt_38 (fu : Nat) {res : Int32 × PF × PG} (x1 : Int32) (x2 : Int32) (x3 : Int32) (F : PF) (G : PG) (hm : cb_X4_globalInt_38 fu x1 x2 x3 F G = some res) : xn F ≤ xn res.2.1 := by
  unfold cb_X4_globalInt_38 at hm
  obtain ⟨⟨r1, F1, G1⟩, hc, hm⟩ := bind_elim hm
  exact Nat.le_trans (cn_X5_globalRoom fu 1 x2 F G _ hc) (cn_X4_globalInt_47 fu x1 x2 x3 r1 F1 G1 hm)
theorem cw_X4_globalInt_38 (fu : Nat) {res : Int32 × PF × PG} (C : cMC p R s m args c A v RX4 cX4_globalInt 5 304 18093 (xn res.2.1 - xn K0)) (hret : ∀ (b1 : Nat) (H1 : Heap) (locs1 : List Loc) (ls1 : Array Slot) (pc : Nat), cMW s A v a b1 K0 res.2.1 res.2.2 H1 locs1 → decode cX4_globalInt pc = .ok (.return_, 1) → W p l e R s m args below meth c H1 locs1 (xn res.2.1 - xn K0) (2 * (xn res.2.1 - xn K0)) Q (F0 m pc ls1 [])) (x1 : Int32) (x2 : Int32) (x3 : Int32) (F : PF) (G : PG) (hm : cb_X4_globalInt_38 fu x1 x2 x3 F G = some res) {b : Nat} {H : Heap} {locs : List Loc} (hw : cMW s A v a b K0 F G H locs) {ls : Array Slot} (hl : lv_has ls 5 [(0, .ref (a 204)), (1, .int x1), (2, .int x2), (3, .int x3)]) : W p l e R s m args below meth c H locs (xn F - xn K0) (2 * (xn F - xn K0)) Q (F0 m 38 ls []) := by
  have hx := C.1
  have hb := C.2.1
  unfold cb_X4_globalInt_38 at hm
  refine lv_aload_n hx hb dX4_globalInt_38 rfl (lv_at hl 0 rfl) ?_
  refine cg_X4_15 C hw dX4_globalInt_39 ?_
  refine lv_iconst (v := 1) hx hb dX4_globalInt_42 (by decide) ?_
  refine lv_iload_n hx hb dX4_globalInt_43 rfl (lv_at hl 2 rfl) ?_
  obtain ⟨⟨r1, F1, G1⟩, hc, hm⟩ := bind_elim hm
  refine ccallI (n := 2) (As := [.int 1, .int x2]) (rest := []) C hw (ck_X5_globalRoom l v a _ _ fu 1 x2 F G r1 F1 G1 hc) (cn_X5_globalRoom fu 1 x2 F G _ hc) (Nat.sub_le_sub_right (cn_X4_globalInt_47 fu x1 x2 x3 r1 F1 G1 hm) _) (crecv_X5 C hw) cm_766 cm_767 cm_768 cm_266 cm_769 (by decide +kernel) rfl (by omega) (by omega) hl.1 rfl (Nat.le_of_ble_eq_true rfl) dX4_globalInt_44 (fun b H locs hw => ?_)
  exact cw_X4_globalInt_47 fu C hret x1 x2 x3 r1 F1 G1 hm hw (lv_sub hl [0, 1, 2, 3] rfl)
theorem cn_X4_globalInt_29 (fu : Nat) {res : Int32 × PF × PG} (x1 : Int32) (x2 : Int32) (x3 : Int32) (F : PF) (G : PG) (hm : cb_X4_globalInt_29 fu x1 x2 x3 F G = some res) : xn F ≤ xn res.2.1 := by
  unfold cb_X4_globalInt_29 at hm
  obtain ⟨⟨r1, F1, G1⟩, hc, hm⟩ := bind_elim hm
  exact Nat.le_trans (cn_X2_expect fu 26 F G _ hc) (cn_X4_globalInt_38 fu x1 x2 x3 F1 G1 hm)
theorem cw_X4_globalInt_29 (fu : Nat) {res : Int32 × PF × PG} (C : cMC p R s m args c A v RX4 cX4_globalInt 5 304 18093 (xn res.2.1 - xn K0)) (hret : ∀ (b1 : Nat) (H1 : Heap) (locs1 : List Loc) (ls1 : Array Slot) (pc : Nat), cMW s A v a b1 K0 res.2.1 res.2.2 H1 locs1 → decode cX4_globalInt pc = .ok (.return_, 1) → W p l e R s m args below meth c H1 locs1 (xn res.2.1 - xn K0) (2 * (xn res.2.1 - xn K0)) Q (F0 m pc ls1 [])) (x1 : Int32) (x2 : Int32) (x3 : Int32) (F : PF) (G : PG) (hm : cb_X4_globalInt_29 fu x1 x2 x3 F G = some res) {b : Nat} {H : Heap} {locs : List Loc} (hw : cMW s A v a b K0 F G H locs) {ls : Array Slot} (hl : lv_has ls 5 [(0, .ref (a 204)), (1, .int x1), (2, .int x2), (3, .int x3)]) : W p l e R s m args below meth c H locs (xn F - xn K0) (2 * (xn F - xn K0)) Q (F0 m 29 ls []) := by
  have hx := C.1
  have hb := C.2.1
  unfold cb_X4_globalInt_29 at hm
  refine lv_aload_n hx hb dX4_globalInt_29 rfl (lv_at hl 0 rfl) ?_
  refine cg_X4_9 C hw dX4_globalInt_30 ?_
  refine lv_bipush (v := 26) hx hb dX4_globalInt_33 (by decide) ?_
  obtain ⟨⟨r1, F1, G1⟩, hc, hm⟩ := bind_elim hm
  refine ccallV (n := 1) (As := [.int 26]) (rest := []) C hw (ck_X2_expect l v a _ _ fu 26 F G r1 F1 G1 hc) (cn_X2_expect fu 26 F G _ hc) (Nat.sub_le_sub_right (cn_X4_globalInt_38 fu x1 x2 x3 F1 G1 hm) _) (crecv_X2 C hw) cm_332 cm_333 cm_334 cm_307 cm_335 (by decide +kernel) rfl (by omega) (by omega) hl.1 rfl (Nat.le_of_ble_eq_true rfl) dX4_globalInt_35 (fun b H locs hw => ?_)
  exact cw_X4_globalInt_38 fu C hret x1 x2 x3 F1 G1 hm hw (lv_sub hl [0, 1, 2, 3] rfl)
theorem cn_X4_globalInt_28 (fu : Nat) {res : Int32 × PF × PG} (x1 : Int32) (x2 : Int32) (z0 : Int32) (F : PF) (G : PG) (hm : cb_X4_globalInt_28 fu x1 x2 z0 F G = some res) : xn F ≤ xn res.2.1 := by
  unfold cb_X4_globalInt_28 at hm
  exact (cn_X4_globalInt_29 fu x1 x2 z0 F G hm)
theorem cw_X4_globalInt_28 (fu : Nat) {res : Int32 × PF × PG} (C : cMC p R s m args c A v RX4 cX4_globalInt 5 304 18093 (xn res.2.1 - xn K0)) (hret : ∀ (b1 : Nat) (H1 : Heap) (locs1 : List Loc) (ls1 : Array Slot) (pc : Nat), cMW s A v a b1 K0 res.2.1 res.2.2 H1 locs1 → decode cX4_globalInt pc = .ok (.return_, 1) → W p l e R s m args below meth c H1 locs1 (xn res.2.1 - xn K0) (2 * (xn res.2.1 - xn K0)) Q (F0 m pc ls1 [])) (x1 : Int32) (x2 : Int32) (z0 : Int32) (F : PF) (G : PG) (hm : cb_X4_globalInt_28 fu x1 x2 z0 F G = some res) {b : Nat} {H : Heap} {locs : List Loc} (hw : cMW s A v a b K0 F G H locs) {ls : Array Slot} (hl : lv_has ls 5 [(0, .ref (a 204)), (1, .int x1), (2, .int x2)]) : W p l e R s m args below meth c H locs (xn F - xn K0) (2 * (xn F - xn K0)) Q (F0 m 28 ls [.int z0]) := by
  have hx := C.1
  have hb := C.2.1
  unfold cb_X4_globalInt_28 at hm
  refine lv_istore_n (lv' := [(3, .int z0), (0, .ref (a 204)), (1, .int x1), (2, .int x2)]) hx hb dX4_globalInt_28 rfl hl (by decide) rfl (fun ls hl => ?_)
  exact cw_X4_globalInt_29 fu C hret x1 x2 z0 F G hm hw (lv_sub hl [1, 2, 3, 0] rfl)
theorem cn_X4_globalInt_21 (fu : Nat) {res : Int32 × PF × PG} (x1 : Int32) (x2 : Int32) (F : PF) (G : PG) (hm : cb_X4_globalInt_21 fu x1 x2 F G = some res) : xn F ≤ xn res.2.1 := by
  unfold cb_X4_globalInt_21 at hm
  obtain ⟨⟨r1, F1, G1⟩, hc, hm⟩ := bind_elim hm
  exact Nat.le_trans (cn_X3_constant fu F G _ hc) (cn_X4_globalInt_28 fu x1 x2 r1 F1 G1 hm)
theorem cw_X4_globalInt_21 (fu : Nat) {res : Int32 × PF × PG} (C : cMC p R s m args c A v RX4 cX4_globalInt 5 304 18093 (xn res.2.1 - xn K0)) (hret : ∀ (b1 : Nat) (H1 : Heap) (locs1 : List Loc) (ls1 : Array Slot) (pc : Nat), cMW s A v a b1 K0 res.2.1 res.2.2 H1 locs1 → decode cX4_globalInt pc = .ok (.return_, 1) → W p l e R s m args below meth c H1 locs1 (xn res.2.1 - xn K0) (2 * (xn res.2.1 - xn K0)) Q (F0 m pc ls1 [])) (x1 : Int32) (x2 : Int32) (F : PF) (G : PG) (hm : cb_X4_globalInt_21 fu x1 x2 F G = some res) {b : Nat} {H : Heap} {locs : List Loc} (hw : cMW s A v a b K0 F G H locs) {ls : Array Slot} (hl : lv_has ls 5 [(0, .ref (a 204)), (1, .int x1), (2, .int x2)]) : W p l e R s m args below meth c H locs (xn F - xn K0) (2 * (xn F - xn K0)) Q (F0 m 21 ls []) := by
  have hx := C.1
  have hb := C.2.1
  unfold cb_X4_globalInt_21 at hm
  refine lv_aload_n hx hb dX4_globalInt_21 rfl (lv_at hl 0 rfl) ?_
  refine cg_X4_27 C hw dX4_globalInt_22 ?_
  obtain ⟨⟨r1, F1, G1⟩, hc, hm⟩ := bind_elim hm
  refine ccallI (n := 0) (As := []) (rest := []) C hw (ck_X3_constant l v a _ _ fu F G r1 F1 G1 hc) (cn_X3_constant fu F G _ hc) (Nat.sub_le_sub_right (cn_X4_globalInt_28 fu x1 x2 r1 F1 G1 hm) _) (crecv_X3 C hw) cm_341 cm_342 cm_343 cm_301 cm_344 (by decide +kernel) rfl (by omega) (by omega) hl.1 rfl (Nat.le_of_ble_eq_true rfl) dX4_globalInt_25 (fun b H locs hw => ?_)
  exact cw_X4_globalInt_28 fu C hret x1 x2 r1 F1 G1 hm hw (lv_sub hl [0, 1, 2] rfl)
theorem cn_X4_globalInt_14 (fu : Nat) {res : Int32 × PF × PG} (x1 : Int32) (x2 : Int32) (F : PF) (G : PG) (hm : cb_X4_globalInt_14 fu x1 x2 F G = some res) : xn F ≤ xn res.2.1 := by
  unfold cb_X4_globalInt_14 at hm
  obtain ⟨⟨r1, F1, G1⟩, hc, hm⟩ := bind_elim hm
  exact Nat.le_trans (cn_X2_next fu F G _ hc) (cn_X4_globalInt_21 fu x1 x2 F1 G1 hm)
theorem cw_X4_globalInt_14 (fu : Nat) {res : Int32 × PF × PG} (C : cMC p R s m args c A v RX4 cX4_globalInt 5 304 18093 (xn res.2.1 - xn K0)) (hret : ∀ (b1 : Nat) (H1 : Heap) (locs1 : List Loc) (ls1 : Array Slot) (pc : Nat), cMW s A v a b1 K0 res.2.1 res.2.2 H1 locs1 → decode cX4_globalInt pc = .ok (.return_, 1) → W p l e R s m args below meth c H1 locs1 (xn res.2.1 - xn K0) (2 * (xn res.2.1 - xn K0)) Q (F0 m pc ls1 [])) (x1 : Int32) (x2 : Int32) (F : PF) (G : PG) (hm : cb_X4_globalInt_14 fu x1 x2 F G = some res) {b : Nat} {H : Heap} {locs : List Loc} (hw : cMW s A v a b K0 F G H locs) {ls : Array Slot} (hl : lv_has ls 5 [(0, .ref (a 204)), (1, .int x1), (2, .int x2)]) : W p l e R s m args below meth c H locs (xn F - xn K0) (2 * (xn F - xn K0)) Q (F0 m 14 ls []) := by
  have hx := C.1
  have hb := C.2.1
  unfold cb_X4_globalInt_14 at hm
  refine lv_aload_n hx hb dX4_globalInt_14 rfl (lv_at hl 0 rfl) ?_
  refine cg_X4_9 C hw dX4_globalInt_15 ?_
  obtain ⟨⟨r1, F1, G1⟩, hc, hm⟩ := bind_elim hm
  refine ccallV (n := 0) (As := []) (rest := []) C hw (ck_X2_next l v a _ _ fu F G r1 F1 G1 hc) (cn_X2_next fu F G _ hc) (Nat.sub_le_sub_right (cn_X4_globalInt_21 fu x1 x2 F1 G1 hm) _) (crecv_X2 C hw) cm_320 cm_321 cm_322 cm_307 cm_323 (by decide +kernel) rfl (by omega) (by omega) hl.1 rfl (Nat.le_of_ble_eq_true rfl) dX4_globalInt_18 (fun b H locs hw => ?_)
  exact cw_X4_globalInt_21 fu C hret x1 x2 F1 G1 hm hw (lv_sub hl [0, 1, 2] rfl)
theorem cn_X4_globalInt_0 (fu : Nat) {res : Int32 × PF × PG} (x1 : Int32) (x2 : Int32) (F : PF) (G : PG) (hm : cb_X4_globalInt_0 fu x1 x2 F G = some res) : xn F ≤ xn res.2.1 := by
  unfold cb_X4_globalInt_0 at hm
  by_cases c_1 : (F 11) = (29 : Int32)
  · have hm := (if_pos c_1).symm.trans hm
    exact (cn_X4_globalInt_14 fu x1 x2 F G hm)
  · have hm := (if_neg c_1).symm.trans hm
    exact (cn_X4_globalInt_29 fu x1 x2 0 F G hm)
theorem cw_X4_globalInt_0 (fu : Nat) {res : Int32 × PF × PG} (C : cMC p R s m args c A v RX4 cX4_globalInt 5 304 18093 (xn res.2.1 - xn K0)) (hret : ∀ (b1 : Nat) (H1 : Heap) (locs1 : List Loc) (ls1 : Array Slot) (pc : Nat), cMW s A v a b1 K0 res.2.1 res.2.2 H1 locs1 → decode cX4_globalInt pc = .ok (.return_, 1) → W p l e R s m args below meth c H1 locs1 (xn res.2.1 - xn K0) (2 * (xn res.2.1 - xn K0)) Q (F0 m pc ls1 [])) (x1 : Int32) (x2 : Int32) (F : PF) (G : PG) (hm : cb_X4_globalInt_0 fu x1 x2 F G = some res) {b : Nat} {H : Heap} {locs : List Loc} (hw : cMW s A v a b K0 F G H locs) {ls : Array Slot} (hl : lv_has ls 5 [(0, .ref (a 204)), (1, .int x1), (2, .int x2)]) : W p l e R s m args below meth c H locs (xn F - xn K0) (2 * (xn F - xn K0)) Q (F0 m 0 ls []) := by
  have hx := C.1
  have hb := C.2.1
  unfold cb_X4_globalInt_0 at hm
  refine lv_iconst (v := 0) hx hb dX4_globalInt_0 (by decide) ?_
  refine lv_istore_n (lv' := [(3, .int 0), (0, .ref (a 204)), (1, .int x1), (2, .int x2)]) hx hb dX4_globalInt_1 rfl hl (by decide) rfl (fun ls hl => ?_)
  refine lv_aload_n hx hb dX4_globalInt_2 rfl (lv_at hl 1 rfl) ?_
  refine cg_X4_9 C hw dX4_globalInt_3 ?_
  refine cg_X4_52 C hw dX4_globalInt_6 ?_
  refine lv_bipush (v := 29) hx hb dX4_globalInt_9 (by decide) ?_
  refine lv_icmp_ne (tgt := 29) hx hb dX4_globalInt_11 (by decide) (fun c_1 => ?_) (fun c_1 => ?_)
  · have hm := (if_neg c_1).symm.trans hm
    exact cw_X4_globalInt_29 fu C hret x1 x2 0 F G hm hw (lv_sub hl [1, 2, 3, 0] rfl)
  · have hm := (if_pos c_1).symm.trans hm
    exact cw_X4_globalInt_14 fu C hret x1 x2 F G hm hw (lv_sub hl [1, 2, 3] rfl)
theorem cn_X4_globalInt (fu : Nat) (x1 : Int32) (x2 : Int32) (F : PF) (G : PG) (q : Int32 × PF × PG) (hm : cf_X4_globalInt fu x1 x2 F G = some q) : xn F ≤ xn q.2.1 := cn_X4_globalInt_0 fu x1 x2 F G hm
theorem ck_X4_globalInt (l : Launch) (v : EV) (a : Nat → Nat) (b sz : Nat) (fu : Nat) (x1 : Int32) (x2 : Int32) (F : PF) (G : PG) (r : Int32) (F1 : PF) (G1 : PG) (hm : cf_X4_globalInt fu x1 x2 F G = some (r, F1, G1)) : cMV l yX4_globalInt cX4_globalInt 5 304 18093 v a b sz [.ref (a 204), .int x1, .int x2] F G F1 G1 := cMV.of (by decide) (Nat.le_of_ble_eq_true rfl) (fun p e R s m args below meth c Q A H locs ls C hw hl hret => cw_X4_globalInt_0 fu (res := (r, F1, G1)) C hret x1 x2 F G hm hw hl)
def cb_X5_fault_30 (fu : Nat) (z0 : Int32) (F : PF) (G : PG) : PR := some (z0, F, G)
def cb_X5_fault_14 (fu : Nat) (F : PF) (G : PG) : PR := if ixb (F 44) 10 = true then (cb_X5_fault_30 fu (((F 43) * (16 : Int32)) + (tb_0 (F 44).toNatClampNeg)) F G) else none
def cb_X5_fault_10 (fu : Nat) (F : PF) (G : PG) : PR := cb_X5_fault_30 fu 0 F G
def cb_X5_fault_0 (fu : Nat) (F : PF) (G : PG) : PR := if (F 43) ≤ (4000 : Int32) then cb_X5_fault_14 fu F G else cb_X5_fault_10 fu F G
def cf_X5_fault (fu : Nat) (F : PF) (G : PG) : PR := cb_X5_fault_0 fu F G
theorem cn_X5_fault_30 (fu : Nat) {res : Int32 × PF × PG} (z0 : Int32) (F : PF) (G : PG) (hm : cb_X5_fault_30 fu z0 F G = some res) : xn F ≤ xn res.2.1 := by
  unfold cb_X5_fault_30 at hm
  obtain rfl := Option.some.inj hm
  exact Nat.le_refl _
theorem cw_X5_fault_30 (fu : Nat) {res : Int32 × PF × PG} (C : cMC p R s m args c A v RX5 cX5_fault 1 0 0 (xn res.2.1 - xn K0)) (hret : ∀ (b1 : Nat) (H1 : Heap) (locs1 : List Loc) (ls1 : Array Slot) (pc : Nat), cMW s A v a b1 K0 res.2.1 res.2.2 H1 locs1 → narrow .int (.int res.1) = .int res.1 → decode cX5_fault pc = .ok (.ireturn, 1) → W p l e R s m args below meth c H1 locs1 (xn res.2.1 - xn K0) (2 * (xn res.2.1 - xn K0)) Q (F0 m pc ls1 [.int res.1])) (z0 : Int32) (F : PF) (G : PG) (hm : cb_X5_fault_30 fu z0 F G = some res) {b : Nat} {H : Heap} {locs : List Loc} (hw : cMW s A v a b K0 F G H locs) {ls : Array Slot} (hl : lv_has ls 1 []) : W p l e R s m args below meth c H locs (xn F - xn K0) (2 * (xn F - xn K0)) Q (F0 m 30 ls [.int z0]) := by
  have hx := C.1
  have hb := C.2.1
  unfold cb_X5_fault_30 at hm
  obtain rfl := Option.some.inj hm
  exact hret _ _ _ _ _ hw rfl dX5_fault_30
theorem cn_X5_fault_14 (fu : Nat) {res : Int32 × PF × PG} (F : PF) (G : PG) (hm : cb_X5_fault_14 fu F G = some res) : xn F ≤ xn res.2.1 := by
  unfold cb_X5_fault_14 at hm
  have hm := (ix_elim hm).2
  exact (cn_X5_fault_30 fu (((F 43) * (16 : Int32)) + (tb_0 (F 44).toNatClampNeg)) F G hm)
theorem cw_X5_fault_14 (fu : Nat) {res : Int32 × PF × PG} (C : cMC p R s m args c A v RX5 cX5_fault 1 0 0 (xn res.2.1 - xn K0)) (hret : ∀ (b1 : Nat) (H1 : Heap) (locs1 : List Loc) (ls1 : Array Slot) (pc : Nat), cMW s A v a b1 K0 res.2.1 res.2.2 H1 locs1 → narrow .int (.int res.1) = .int res.1 → decode cX5_fault pc = .ok (.ireturn, 1) → W p l e R s m args below meth c H1 locs1 (xn res.2.1 - xn K0) (2 * (xn res.2.1 - xn K0)) Q (F0 m pc ls1 [.int res.1])) (F : PF) (G : PG) (hm : cb_X5_fault_14 fu F G = some res) {b : Nat} {H : Heap} {locs : List Loc} (hw : cMW s A v a b K0 F G H locs) {ls : Array Slot} (hl : lv_has ls 1 [(0, .ref (a 205))]) : W p l e R s m args below meth c H locs (xn F - xn K0) (2 * (xn F - xn K0)) Q (F0 m 14 ls []) := by
  have hx := C.1
  have hb := C.2.1
  unfold cb_X5_fault_14 at hm
  refine lv_aload_n hx hb dX5_fault_14 rfl (lv_at hl 0 rfl) ?_
  refine cg_X5_47 C hw dX5_fault_15 ?_
  refine lv_bipush (v := 16) hx hb dX5_fault_18 (by decide) ?_
  refine lv_imul hx hb dX5_fault_20 ?_
  refine cgs_X5_69 C hw dX5_fault_21 ?_
  refine lv_aload_n hx hb dX5_fault_24 rfl (lv_at hl 0 rfl) ?_
  refine cg_X5_50 C hw dX5_fault_25 ?_
  obtain ⟨hi, hm⟩ := ix_elim hm
  refine cta_0 C hw hi dX5_fault_28 ?_
  refine lv_iadd hx hb dX5_fault_29 ?_
  exact cw_X5_fault_30 fu C hret (((F 43) * (16 : Int32)) + (tb_0 (F 44).toNatClampNeg)) F G hm hw (lv_sub hl [] rfl)
theorem cn_X5_fault_10 (fu : Nat) {res : Int32 × PF × PG} (F : PF) (G : PG) (hm : cb_X5_fault_10 fu F G = some res) : xn F ≤ xn res.2.1 := by
  unfold cb_X5_fault_10 at hm
  exact (cn_X5_fault_30 fu 0 F G hm)
theorem cw_X5_fault_10 (fu : Nat) {res : Int32 × PF × PG} (C : cMC p R s m args c A v RX5 cX5_fault 1 0 0 (xn res.2.1 - xn K0)) (hret : ∀ (b1 : Nat) (H1 : Heap) (locs1 : List Loc) (ls1 : Array Slot) (pc : Nat), cMW s A v a b1 K0 res.2.1 res.2.2 H1 locs1 → narrow .int (.int res.1) = .int res.1 → decode cX5_fault pc = .ok (.ireturn, 1) → W p l e R s m args below meth c H1 locs1 (xn res.2.1 - xn K0) (2 * (xn res.2.1 - xn K0)) Q (F0 m pc ls1 [.int res.1])) (F : PF) (G : PG) (hm : cb_X5_fault_10 fu F G = some res) {b : Nat} {H : Heap} {locs : List Loc} (hw : cMW s A v a b K0 F G H locs) {ls : Array Slot} (hl : lv_has ls 1 []) : W p l e R s m args below meth c H locs (xn F - xn K0) (2 * (xn F - xn K0)) Q (F0 m 10 ls []) := by
  have hx := C.1
  have hb := C.2.1
  unfold cb_X5_fault_10 at hm
  refine lv_iconst (v := 0) hx hb dX5_fault_10 (by decide) ?_
  refine lv_goto (tgt := 30) hx hb dX5_fault_11 (by decide) ?_
  exact cw_X5_fault_30 fu C hret 0 F G hm hw (lv_sub hl [] rfl)
theorem cn_X5_fault_0 (fu : Nat) {res : Int32 × PF × PG} (F : PF) (G : PG) (hm : cb_X5_fault_0 fu F G = some res) : xn F ≤ xn res.2.1 := by
  unfold cb_X5_fault_0 at hm
  by_cases c_1 : (F 43) ≤ (4000 : Int32)
  · have hm := (if_pos c_1).symm.trans hm
    exact (cn_X5_fault_14 fu F G hm)
  · have hm := (if_neg c_1).symm.trans hm
    exact (cn_X5_fault_10 fu F G hm)
theorem cw_X5_fault_0 (fu : Nat) {res : Int32 × PF × PG} (C : cMC p R s m args c A v RX5 cX5_fault 1 0 0 (xn res.2.1 - xn K0)) (hret : ∀ (b1 : Nat) (H1 : Heap) (locs1 : List Loc) (ls1 : Array Slot) (pc : Nat), cMW s A v a b1 K0 res.2.1 res.2.2 H1 locs1 → narrow .int (.int res.1) = .int res.1 → decode cX5_fault pc = .ok (.ireturn, 1) → W p l e R s m args below meth c H1 locs1 (xn res.2.1 - xn K0) (2 * (xn res.2.1 - xn K0)) Q (F0 m pc ls1 [.int res.1])) (F : PF) (G : PG) (hm : cb_X5_fault_0 fu F G = some res) {b : Nat} {H : Heap} {locs : List Loc} (hw : cMW s A v a b K0 F G H locs) {ls : Array Slot} (hl : lv_has ls 1 [(0, .ref (a 205))]) : W p l e R s m args below meth c H locs (xn F - xn K0) (2 * (xn F - xn K0)) Q (F0 m 0 ls []) := by
  have hx := C.1
  have hb := C.2.1
  unfold cb_X5_fault_0 at hm
  refine lv_aload_n hx hb dX5_fault_0 rfl (lv_at hl 0 rfl) ?_
  refine cg_X5_47 C hw dX5_fault_1 ?_
  refine lv_sipush (v := 4000) hx hb dX5_fault_4 (by decide) ?_
  refine lv_icmp_le (tgt := 14) hx hb dX5_fault_7 (by decide) (fun c_1 => ?_) (fun c_1 => ?_)
  · have hm := (if_pos c_1).symm.trans hm
    exact cw_X5_fault_14 fu C hret F G hm hw (lv_sub hl [0] rfl)
  · have hm := (if_neg c_1).symm.trans hm
    exact cw_X5_fault_10 fu C hret F G hm hw (lv_sub hl [] rfl)
theorem cn_X5_fault (fu : Nat) (F : PF) (G : PG) (q : Int32 × PF × PG) (hm : cf_X5_fault fu F G = some q) : xn F ≤ xn q.2.1 := cn_X5_fault_0 fu F G hm
theorem ck_X5_fault (l : Launch) (v : EV) (a : Nat → Nat) (b sz : Nat) (fu : Nat) (F : PF) (G : PG) (r : Int32) (F1 : PF) (G1 : PG) (hm : cf_X5_fault fu F G = some (r, F1, G1)) : cMI l yX5_fault cX5_fault 1 (some .int) 0 0 v a b sz [.ref (a 205)] F G r F1 G1 := cMI.of (ty := .int) (by decide) rfl (Nat.le_of_ble_eq_true rfl) (fun p e R s m args below meth c Q A H locs ls C hw hl hret => cw_X5_fault_0 fu (res := (r, F1, G1)) C hret F G hm hw hl)
def cb_X5_leave_75 (fu : Nat) (F : PF) (G : PG) : PR := some (0, F, G)
def cb_X5_leave_65 (fu : Nat) (F : PF) (G : PG) : PR := cb_X5_leave_75 fu (fup F 42 ((F 42) - (1 : Int32))) G
def cb_X5_leave_59 (fu : Nat) (ag_7 : Int32 → PF → PG → PR) (x1 : Int32) (F : PF) (G : PG) : PR := ag_7 (x1 + (-1)) F G
def cb_X5_leave_54 (fu : Nat) (ag_7 : Int32 → PF → PG → PR) (x1 : Int32) (F : PF) (G : PG) : PR := cb_X5_leave_59 fu ag_7 x1 (fup F 41 x1) G
def cb_X5_leave_42 (fu : Nat) (ag_7 : Int32 → PF → PG → PR) (x1 : Int32) (x2 : Int32) (F : PF) (G : PG) : PR := if ixb x1 700 = true then (if ixb x2 1408 = true then (cb_X5_leave_54 fu ag_7 x1 F (gup G 40 x2.toNatClampNeg (G 39 x1.toNatClampNeg))) else none) else none
def cb_X5_leave_35 (fu : Nat) (ag_7 : Int32 → PF → PG → PR) (x1 : Int32) (x2 : Int32) (F : PF) (G : PG) : PR := if (1408 : Int32) ≤ x2 then cb_X5_leave_54 fu ag_7 x1 F G else cb_X5_leave_42 fu ag_7 x1 x2 F G
def cb_X5_leave_24 (fu : Nat) (ag_7 : Int32 → PF → PG → PR) (x1 : Int32) (F : PF) (G : PG) : PR := if ixb x1 700 = true then (if (G 33 x1.toNatClampNeg) < (0 : Int32) then cb_X5_leave_54 fu ag_7 x1 F G else cb_X5_leave_35 fu ag_7 x1 (G 33 x1.toNatClampNeg) F G) else none
def cb_X5_leave_11 (fu : Nat) (ag_7 : Int32 → PF → PG → PR) (x1 : Int32) (F : PF) (G : PG) : PR := if ixb x1 700 = true then (if (G 34 x1.toNatClampNeg) = (F 42) then cb_X5_leave_24 fu ag_7 x1 F G else cb_X5_leave_65 fu F G) else none
def cb_X5_leave_7 (fu : Nat) (ag_7 : Int32 → PF → PG → PR) (x1 : Int32) (F : PF) (G : PG) : PR := if x1 < (0 : Int32) then cb_X5_leave_65 fu F G else cb_X5_leave_11 fu ag_7 x1 F G
def cl_X5_leave_7 (fu : Nat) : Nat → Int32 → PF → PG → PR
  | 0 => fun _ _ _ => none
  | n + 1 => fun x1 F G => cb_X5_leave_7 fu (cl_X5_leave_7 fu n) x1 F G
def cb_X5_leave_0 (fu : Nat) (F : PF) (G : PG) : PR := cl_X5_leave_7 fu fu ((F 41) - (1 : Int32)) F G
def cf_X5_leave (fu : Nat) (F : PF) (G : PG) : PR := cb_X5_leave_0 fu F G
theorem cn_X5_leave_75 (fu : Nat) {res : Int32 × PF × PG} (F : PF) (G : PG) (hm : cb_X5_leave_75 fu F G = some res) : xn F ≤ xn res.2.1 := by
  unfold cb_X5_leave_75 at hm
  obtain rfl := Option.some.inj hm
  exact Nat.le_refl _
theorem cw_X5_leave_75 (fu : Nat) {res : Int32 × PF × PG} (C : cMC p R s m args c A v RX5 cX5_leave 3 0 0 (xn res.2.1 - xn K0)) (hret : ∀ (b1 : Nat) (H1 : Heap) (locs1 : List Loc) (ls1 : Array Slot) (pc : Nat), cMW s A v a b1 K0 res.2.1 res.2.2 H1 locs1 → decode cX5_leave pc = .ok (.return_, 1) → W p l e R s m args below meth c H1 locs1 (xn res.2.1 - xn K0) (2 * (xn res.2.1 - xn K0)) Q (F0 m pc ls1 [])) (F : PF) (G : PG) (hm : cb_X5_leave_75 fu F G = some res) {b : Nat} {H : Heap} {locs : List Loc} (hw : cMW s A v a b K0 F G H locs) {ls : Array Slot} (hl : lv_has ls 3 []) : W p l e R s m args below meth c H locs (xn F - xn K0) (2 * (xn F - xn K0)) Q (F0 m 75 ls []) := by
  have hx := C.1
  have hb := C.2.1
  unfold cb_X5_leave_75 at hm
  obtain rfl := Option.some.inj hm
  exact hret _ _ _ _ _ hw dX5_leave_75
theorem cn_X5_leave_65 (fu : Nat) {res : Int32 × PF × PG} (F : PF) (G : PG) (hm : cb_X5_leave_65 fu F G = some res) : xn F ≤ xn res.2.1 := by
  unfold cb_X5_leave_65 at hm
  exact Nat.le_trans (Nat.le_of_eq (xn_fup (by decide)).symm) (cn_X5_leave_75 fu (fup F 42 ((F 42) - (1 : Int32))) G hm)
theorem cw_X5_leave_65 (fu : Nat) {res : Int32 × PF × PG} (C : cMC p R s m args c A v RX5 cX5_leave 3 0 0 (xn res.2.1 - xn K0)) (hret : ∀ (b1 : Nat) (H1 : Heap) (locs1 : List Loc) (ls1 : Array Slot) (pc : Nat), cMW s A v a b1 K0 res.2.1 res.2.2 H1 locs1 → decode cX5_leave pc = .ok (.return_, 1) → W p l e R s m args below meth c H1 locs1 (xn res.2.1 - xn K0) (2 * (xn res.2.1 - xn K0)) Q (F0 m pc ls1 [])) (F : PF) (G : PG) (hm : cb_X5_leave_65 fu F G = some res) {b : Nat} {H : Heap} {locs : List Loc} (hw : cMW s A v a b K0 F G H locs) {ls : Array Slot} (hl : lv_has ls 3 [(0, .ref (a 205))]) : W p l e R s m args below meth c H locs (xn F - xn K0) (2 * (xn F - xn K0)) Q (F0 m 65 ls []) := by
  have hx := C.1
  have hb := C.2.1
  unfold cb_X5_leave_65 at hm
  refine lv_aload_n hx hb dX5_leave_65 rfl (lv_at hl 0 rfl) ?_
  refine lv_dup hx hb dX5_leave_66 rfl ?_
  refine cg_X5_44 C hw dX5_leave_67 ?_
  refine lv_iconst (v := 1) hx hb dX5_leave_70 (by decide) ?_
  refine lv_isub hx hb dX5_leave_71 ?_
  refine cp_X5_44 C hw dX5_leave_72 (fun H locs hw => ?_)
  exact cw_X5_leave_75 fu C hret (fup F 42 ((F 42) - (1 : Int32))) G hm hw (lv_sub hl [] rfl)
theorem cn_X5_leave_59 (fu : Nat) {res : Int32 × PF × PG} (ag_7 : Int32 → PF → PG → PR) (hagn_7 : ∀ (x1 : Int32) (F : PF) (G : PG), ag_7 x1 F G = some res → xn F ≤ xn res.2.1) (x1 : Int32) (F : PF) (G : PG) (hm : cb_X5_leave_59 fu ag_7 x1 F G = some res) : xn F ≤ xn res.2.1 := by
  unfold cb_X5_leave_59 at hm
  exact (hagn_7 (x1 + (-1)) F G hm)
theorem cw_X5_leave_59 (fu : Nat) {res : Int32 × PF × PG} (C : cMC p R s m args c A v RX5 cX5_leave 3 0 0 (xn res.2.1 - xn K0)) (hret : ∀ (b1 : Nat) (H1 : Heap) (locs1 : List Loc) (ls1 : Array Slot) (pc : Nat), cMW s A v a b1 K0 res.2.1 res.2.2 H1 locs1 → decode cX5_leave pc = .ok (.return_, 1) → W p l e R s m args below meth c H1 locs1 (xn res.2.1 - xn K0) (2 * (xn res.2.1 - xn K0)) Q (F0 m pc ls1 [])) (ag_7 : Int32 → PF → PG → PR) (hag_7 : ∀ (x1 : Int32) (F : PF) (G : PG), ag_7 x1 F G = some res → ∀ (b : Nat) (H : Heap) (locs : List Loc) (ls : Array Slot), cMW s A v a b K0 F G H locs → lv_has ls 3 [(0, .ref (a 205)), (1, .int x1)] → W p l e R s m args below meth c H locs (xn F - xn K0) (2 * (xn F - xn K0)) Q (F0 m 7 ls [])) (hagn_7 : ∀ (x1 : Int32) (F : PF) (G : PG), ag_7 x1 F G = some res → xn F ≤ xn res.2.1) (x1 : Int32) (F : PF) (G : PG) (hm : cb_X5_leave_59 fu ag_7 x1 F G = some res) {b : Nat} {H : Heap} {locs : List Loc} (hw : cMW s A v a b K0 F G H locs) {ls : Array Slot} (hl : lv_has ls 3 [(0, .ref (a 205)), (1, .int x1)]) : W p l e R s m args below meth c H locs (xn F - xn K0) (2 * (xn F - xn K0)) Q (F0 m 59 ls []) := by
  have hx := C.1
  have hb := C.2.1
  unfold cb_X5_leave_59 at hm
  refine lv_iinc (v := (x1 + (-1))) (lv' := [(1, .int (x1 + (-1))), (0, .ref (a 205))]) hx hb dX5_leave_59 hl (k := 1) rfl (by rfl) (by decide) rfl (fun ls hl => ?_)
  refine lv_goto (tgt := 7) hx hb dX5_leave_62 (by decide) ?_
  exact hag_7 (x1 + (-1)) F G hm _ _ _ _ hw (lv_sub hl [1, 0] rfl)
theorem cn_X5_leave_54 (fu : Nat) {res : Int32 × PF × PG} (ag_7 : Int32 → PF → PG → PR) (hagn_7 : ∀ (x1 : Int32) (F : PF) (G : PG), ag_7 x1 F G = some res → xn F ≤ xn res.2.1) (x1 : Int32) (F : PF) (G : PG) (hm : cb_X5_leave_54 fu ag_7 x1 F G = some res) : xn F ≤ xn res.2.1 := by
  unfold cb_X5_leave_54 at hm
  exact Nat.le_trans (Nat.le_of_eq (xn_fup (by decide)).symm) (cn_X5_leave_59 fu ag_7 hagn_7 x1 (fup F 41 x1) G hm)
theorem cw_X5_leave_54 (fu : Nat) {res : Int32 × PF × PG} (C : cMC p R s m args c A v RX5 cX5_leave 3 0 0 (xn res.2.1 - xn K0)) (hret : ∀ (b1 : Nat) (H1 : Heap) (locs1 : List Loc) (ls1 : Array Slot) (pc : Nat), cMW s A v a b1 K0 res.2.1 res.2.2 H1 locs1 → decode cX5_leave pc = .ok (.return_, 1) → W p l e R s m args below meth c H1 locs1 (xn res.2.1 - xn K0) (2 * (xn res.2.1 - xn K0)) Q (F0 m pc ls1 [])) (ag_7 : Int32 → PF → PG → PR) (hag_7 : ∀ (x1 : Int32) (F : PF) (G : PG), ag_7 x1 F G = some res → ∀ (b : Nat) (H : Heap) (locs : List Loc) (ls : Array Slot), cMW s A v a b K0 F G H locs → lv_has ls 3 [(0, .ref (a 205)), (1, .int x1)] → W p l e R s m args below meth c H locs (xn F - xn K0) (2 * (xn F - xn K0)) Q (F0 m 7 ls [])) (hagn_7 : ∀ (x1 : Int32) (F : PF) (G : PG), ag_7 x1 F G = some res → xn F ≤ xn res.2.1) (x1 : Int32) (F : PF) (G : PG) (hm : cb_X5_leave_54 fu ag_7 x1 F G = some res) {b : Nat} {H : Heap} {locs : List Loc} (hw : cMW s A v a b K0 F G H locs) {ls : Array Slot} (hl : lv_has ls 3 [(0, .ref (a 205)), (1, .int x1)]) : W p l e R s m args below meth c H locs (xn F - xn K0) (2 * (xn F - xn K0)) Q (F0 m 54 ls []) := by
  have hx := C.1
  have hb := C.2.1
  unfold cb_X5_leave_54 at hm
  refine lv_aload_n hx hb dX5_leave_54 rfl (lv_at hl 0 rfl) ?_
  refine lv_iload_n hx hb dX5_leave_55 rfl (lv_at hl 1 rfl) ?_
  refine cp_X5_40 C hw dX5_leave_56 (fun H locs hw => ?_)
  exact cw_X5_leave_59 fu C hret ag_7 hag_7 hagn_7 x1 (fup F 41 x1) G hm hw (lv_sub hl [0, 1] rfl)
theorem cn_X5_leave_42 (fu : Nat) {res : Int32 × PF × PG} (ag_7 : Int32 → PF → PG → PR) (hagn_7 : ∀ (x1 : Int32) (F : PF) (G : PG), ag_7 x1 F G = some res → xn F ≤ xn res.2.1) (x1 : Int32) (x2 : Int32) (F : PF) (G : PG) (hm : cb_X5_leave_42 fu ag_7 x1 x2 F G = some res) : xn F ≤ xn res.2.1 := by
  unfold cb_X5_leave_42 at hm
  have hm := (ix_elim hm).2
  have hm := (ix_elim hm).2
  exact (cn_X5_leave_54 fu ag_7 hagn_7 x1 F (gup G 40 x2.toNatClampNeg (G 39 x1.toNatClampNeg)) hm)
theorem cw_X5_leave_42 (fu : Nat) {res : Int32 × PF × PG} (C : cMC p R s m args c A v RX5 cX5_leave 3 0 0 (xn res.2.1 - xn K0)) (hret : ∀ (b1 : Nat) (H1 : Heap) (locs1 : List Loc) (ls1 : Array Slot) (pc : Nat), cMW s A v a b1 K0 res.2.1 res.2.2 H1 locs1 → decode cX5_leave pc = .ok (.return_, 1) → W p l e R s m args below meth c H1 locs1 (xn res.2.1 - xn K0) (2 * (xn res.2.1 - xn K0)) Q (F0 m pc ls1 [])) (ag_7 : Int32 → PF → PG → PR) (hag_7 : ∀ (x1 : Int32) (F : PF) (G : PG), ag_7 x1 F G = some res → ∀ (b : Nat) (H : Heap) (locs : List Loc) (ls : Array Slot), cMW s A v a b K0 F G H locs → lv_has ls 3 [(0, .ref (a 205)), (1, .int x1)] → W p l e R s m args below meth c H locs (xn F - xn K0) (2 * (xn F - xn K0)) Q (F0 m 7 ls [])) (hagn_7 : ∀ (x1 : Int32) (F : PF) (G : PG), ag_7 x1 F G = some res → xn F ≤ xn res.2.1) (x1 : Int32) (x2 : Int32) (F : PF) (G : PG) (hm : cb_X5_leave_42 fu ag_7 x1 x2 F G = some res) {b : Nat} {H : Heap} {locs : List Loc} (hw : cMW s A v a b K0 F G H locs) {ls : Array Slot} (hl : lv_has ls 3 [(0, .ref (a 205)), (1, .int x1), (2, .int x2)]) : W p l e R s m args below meth c H locs (xn F - xn K0) (2 * (xn F - xn K0)) Q (F0 m 42 ls []) := by
  have hx := C.1
  have hb := C.2.1
  unfold cb_X5_leave_42 at hm
  refine lv_aload_n hx hb dX5_leave_42 rfl (lv_at hl 0 rfl) ?_
  refine cg_X5_33 C hw dX5_leave_43 ?_
  refine lv_iload_n hx hb dX5_leave_46 rfl (lv_at hl 2 rfl) ?_
  refine lv_aload_n hx hb dX5_leave_47 rfl (lv_at hl 0 rfl) ?_
  refine cg_X5_30 C hw dX5_leave_48 ?_
  refine lv_iload_n hx hb dX5_leave_51 rfl (lv_at hl 1 rfl) ?_
  obtain ⟨hi, hm⟩ := ix_elim hm
  refine cal_39 C hw hi dX5_leave_52 ?_
  obtain ⟨hi, hm⟩ := ix_elim hm
  refine cas_40 C hw hi dX5_leave_53 (fun H locs hw => ?_)
  exact cw_X5_leave_54 fu C hret ag_7 hag_7 hagn_7 x1 F (gup G 40 x2.toNatClampNeg (G 39 x1.toNatClampNeg)) hm hw (lv_sub hl [0, 1] rfl)
theorem cn_X5_leave_35 (fu : Nat) {res : Int32 × PF × PG} (ag_7 : Int32 → PF → PG → PR) (hagn_7 : ∀ (x1 : Int32) (F : PF) (G : PG), ag_7 x1 F G = some res → xn F ≤ xn res.2.1) (x1 : Int32) (x2 : Int32) (F : PF) (G : PG) (hm : cb_X5_leave_35 fu ag_7 x1 x2 F G = some res) : xn F ≤ xn res.2.1 := by
  unfold cb_X5_leave_35 at hm
  by_cases c_1 : (1408 : Int32) ≤ x2
  · have hm := (if_pos c_1).symm.trans hm
    exact (cn_X5_leave_54 fu ag_7 hagn_7 x1 F G hm)
  · have hm := (if_neg c_1).symm.trans hm
    exact (cn_X5_leave_42 fu ag_7 hagn_7 x1 x2 F G hm)
theorem cw_X5_leave_35 (fu : Nat) {res : Int32 × PF × PG} (C : cMC p R s m args c A v RX5 cX5_leave 3 0 0 (xn res.2.1 - xn K0)) (hret : ∀ (b1 : Nat) (H1 : Heap) (locs1 : List Loc) (ls1 : Array Slot) (pc : Nat), cMW s A v a b1 K0 res.2.1 res.2.2 H1 locs1 → decode cX5_leave pc = .ok (.return_, 1) → W p l e R s m args below meth c H1 locs1 (xn res.2.1 - xn K0) (2 * (xn res.2.1 - xn K0)) Q (F0 m pc ls1 [])) (ag_7 : Int32 → PF → PG → PR) (hag_7 : ∀ (x1 : Int32) (F : PF) (G : PG), ag_7 x1 F G = some res → ∀ (b : Nat) (H : Heap) (locs : List Loc) (ls : Array Slot), cMW s A v a b K0 F G H locs → lv_has ls 3 [(0, .ref (a 205)), (1, .int x1)] → W p l e R s m args below meth c H locs (xn F - xn K0) (2 * (xn F - xn K0)) Q (F0 m 7 ls [])) (hagn_7 : ∀ (x1 : Int32) (F : PF) (G : PG), ag_7 x1 F G = some res → xn F ≤ xn res.2.1) (x1 : Int32) (x2 : Int32) (F : PF) (G : PG) (hm : cb_X5_leave_35 fu ag_7 x1 x2 F G = some res) {b : Nat} {H : Heap} {locs : List Loc} (hw : cMW s A v a b K0 F G H locs) {ls : Array Slot} (hl : lv_has ls 3 [(0, .ref (a 205)), (1, .int x1), (2, .int x2)]) : W p l e R s m args below meth c H locs (xn F - xn K0) (2 * (xn F - xn K0)) Q (F0 m 35 ls []) := by
  have hx := C.1
  have hb := C.2.1
  unfold cb_X5_leave_35 at hm
  refine lv_iload_n hx hb dX5_leave_35 rfl (lv_at hl 2 rfl) ?_
  refine lv_sipush (v := 1408) hx hb dX5_leave_36 (by decide) ?_
  refine lv_icmp_ge (tgt := 54) hx hb dX5_leave_39 (by decide) (fun c_1 => ?_) (fun c_1 => ?_)
  · have hm := (if_pos c_1).symm.trans hm
    exact cw_X5_leave_54 fu C hret ag_7 hag_7 hagn_7 x1 F G hm hw (lv_sub hl [0, 1] rfl)
  · have hm := (if_neg c_1).symm.trans hm
    exact cw_X5_leave_42 fu C hret ag_7 hag_7 hagn_7 x1 x2 F G hm hw (lv_sub hl [0, 1, 2] rfl)
theorem cn_X5_leave_24 (fu : Nat) {res : Int32 × PF × PG} (ag_7 : Int32 → PF → PG → PR) (hagn_7 : ∀ (x1 : Int32) (F : PF) (G : PG), ag_7 x1 F G = some res → xn F ≤ xn res.2.1) (x1 : Int32) (F : PF) (G : PG) (hm : cb_X5_leave_24 fu ag_7 x1 F G = some res) : xn F ≤ xn res.2.1 := by
  unfold cb_X5_leave_24 at hm
  have hm := (ix_elim hm).2
  by_cases c_1 : (G 33 x1.toNatClampNeg) < (0 : Int32)
  · have hm := (if_pos c_1).symm.trans hm
    exact (cn_X5_leave_54 fu ag_7 hagn_7 x1 F G hm)
  · have hm := (if_neg c_1).symm.trans hm
    exact (cn_X5_leave_35 fu ag_7 hagn_7 x1 (G 33 x1.toNatClampNeg) F G hm)
theorem cw_X5_leave_24 (fu : Nat) {res : Int32 × PF × PG} (C : cMC p R s m args c A v RX5 cX5_leave 3 0 0 (xn res.2.1 - xn K0)) (hret : ∀ (b1 : Nat) (H1 : Heap) (locs1 : List Loc) (ls1 : Array Slot) (pc : Nat), cMW s A v a b1 K0 res.2.1 res.2.2 H1 locs1 → decode cX5_leave pc = .ok (.return_, 1) → W p l e R s m args below meth c H1 locs1 (xn res.2.1 - xn K0) (2 * (xn res.2.1 - xn K0)) Q (F0 m pc ls1 [])) (ag_7 : Int32 → PF → PG → PR) (hag_7 : ∀ (x1 : Int32) (F : PF) (G : PG), ag_7 x1 F G = some res → ∀ (b : Nat) (H : Heap) (locs : List Loc) (ls : Array Slot), cMW s A v a b K0 F G H locs → lv_has ls 3 [(0, .ref (a 205)), (1, .int x1)] → W p l e R s m args below meth c H locs (xn F - xn K0) (2 * (xn F - xn K0)) Q (F0 m 7 ls [])) (hagn_7 : ∀ (x1 : Int32) (F : PF) (G : PG), ag_7 x1 F G = some res → xn F ≤ xn res.2.1) (x1 : Int32) (F : PF) (G : PG) (hm : cb_X5_leave_24 fu ag_7 x1 F G = some res) {b : Nat} {H : Heap} {locs : List Loc} (hw : cMW s A v a b K0 F G H locs) {ls : Array Slot} (hl : lv_has ls 3 [(0, .ref (a 205)), (1, .int x1)]) : W p l e R s m args below meth c H locs (xn F - xn K0) (2 * (xn F - xn K0)) Q (F0 m 24 ls []) := by
  have hx := C.1
  have hb := C.2.1
  unfold cb_X5_leave_24 at hm
  refine lv_aload_n hx hb dX5_leave_24 rfl (lv_at hl 0 rfl) ?_
  refine cg_X5_11 C hw dX5_leave_25 ?_
  refine lv_iload_n hx hb dX5_leave_28 rfl (lv_at hl 1 rfl) ?_
  obtain ⟨hi, hm⟩ := ix_elim hm
  refine cal_33 C hw hi dX5_leave_29 ?_
  refine lv_istore_n (lv' := [(2, .int (G 33 x1.toNatClampNeg)), (0, .ref (a 205)), (1, .int x1)]) hx hb dX5_leave_30 rfl hl (by decide) rfl (fun ls hl => ?_)
  refine lv_iload_n hx hb dX5_leave_31 rfl (lv_at hl 0 rfl) ?_
  refine lv_if_lt (tgt := 54) hx hb dX5_leave_32 (by decide) (fun c_1 => ?_) (fun c_1 => ?_)
  · have hm := (if_pos c_1).symm.trans hm
    exact cw_X5_leave_54 fu C hret ag_7 hag_7 hagn_7 x1 F G hm hw (lv_sub hl [1, 2] rfl)
  · have hm := (if_neg c_1).symm.trans hm
    exact cw_X5_leave_35 fu C hret ag_7 hag_7 hagn_7 x1 (G 33 x1.toNatClampNeg) F G hm hw (lv_sub hl [1, 2, 0] rfl)
theorem cn_X5_leave_11 (fu : Nat) {res : Int32 × PF × PG} (ag_7 : Int32 → PF → PG → PR) (hagn_7 : ∀ (x1 : Int32) (F : PF) (G : PG), ag_7 x1 F G = some res → xn F ≤ xn res.2.1) (x1 : Int32) (F : PF) (G : PG) (hm : cb_X5_leave_11 fu ag_7 x1 F G = some res) : xn F ≤ xn res.2.1 := by
  unfold cb_X5_leave_11 at hm
  have hm := (ix_elim hm).2
  by_cases c_1 : (G 34 x1.toNatClampNeg) = (F 42)
  · have hm := (if_pos c_1).symm.trans hm
    exact (cn_X5_leave_24 fu ag_7 hagn_7 x1 F G hm)
  · have hm := (if_neg c_1).symm.trans hm
    exact (cn_X5_leave_65 fu F G hm)
theorem cw_X5_leave_11 (fu : Nat) {res : Int32 × PF × PG} (C : cMC p R s m args c A v RX5 cX5_leave 3 0 0 (xn res.2.1 - xn K0)) (hret : ∀ (b1 : Nat) (H1 : Heap) (locs1 : List Loc) (ls1 : Array Slot) (pc : Nat), cMW s A v a b1 K0 res.2.1 res.2.2 H1 locs1 → decode cX5_leave pc = .ok (.return_, 1) → W p l e R s m args below meth c H1 locs1 (xn res.2.1 - xn K0) (2 * (xn res.2.1 - xn K0)) Q (F0 m pc ls1 [])) (ag_7 : Int32 → PF → PG → PR) (hag_7 : ∀ (x1 : Int32) (F : PF) (G : PG), ag_7 x1 F G = some res → ∀ (b : Nat) (H : Heap) (locs : List Loc) (ls : Array Slot), cMW s A v a b K0 F G H locs → lv_has ls 3 [(0, .ref (a 205)), (1, .int x1)] → W p l e R s m args below meth c H locs (xn F - xn K0) (2 * (xn F - xn K0)) Q (F0 m 7 ls [])) (hagn_7 : ∀ (x1 : Int32) (F : PF) (G : PG), ag_7 x1 F G = some res → xn F ≤ xn res.2.1) (x1 : Int32) (F : PF) (G : PG) (hm : cb_X5_leave_11 fu ag_7 x1 F G = some res) {b : Nat} {H : Heap} {locs : List Loc} (hw : cMW s A v a b K0 F G H locs) {ls : Array Slot} (hl : lv_has ls 3 [(0, .ref (a 205)), (1, .int x1)]) : W p l e R s m args below meth c H locs (xn F - xn K0) (2 * (xn F - xn K0)) Q (F0 m 11 ls []) := by
  have hx := C.1
  have hb := C.2.1
  unfold cb_X5_leave_11 at hm
  refine lv_aload_n hx hb dX5_leave_11 rfl (lv_at hl 0 rfl) ?_
  refine cg_X5_15 C hw dX5_leave_12 ?_
  refine lv_iload_n hx hb dX5_leave_15 rfl (lv_at hl 1 rfl) ?_
  obtain ⟨hi, hm⟩ := ix_elim hm
  refine cal_34 C hw hi dX5_leave_16 ?_
  refine lv_aload_n hx hb dX5_leave_17 rfl (lv_at hl 0 rfl) ?_
  refine cg_X5_44 C hw dX5_leave_18 ?_
  refine lv_icmp_ne (tgt := 65) hx hb dX5_leave_21 (by decide) (fun c_1 => ?_) (fun c_1 => ?_)
  · have hm := (if_neg c_1).symm.trans hm
    exact cw_X5_leave_65 fu C hret F G hm hw (lv_sub hl [0] rfl)
  · have hm := (if_pos c_1).symm.trans hm
    exact cw_X5_leave_24 fu C hret ag_7 hag_7 hagn_7 x1 F G hm hw (lv_sub hl [0, 1] rfl)
theorem cn_X5_leave_7 (fu : Nat) {res : Int32 × PF × PG} (ag_7 : Int32 → PF → PG → PR) (hagn_7 : ∀ (x1 : Int32) (F : PF) (G : PG), ag_7 x1 F G = some res → xn F ≤ xn res.2.1) (x1 : Int32) (F : PF) (G : PG) (hm : cb_X5_leave_7 fu ag_7 x1 F G = some res) : xn F ≤ xn res.2.1 := by
  unfold cb_X5_leave_7 at hm
  by_cases c_1 : x1 < (0 : Int32)
  · have hm := (if_pos c_1).symm.trans hm
    exact (cn_X5_leave_65 fu F G hm)
  · have hm := (if_neg c_1).symm.trans hm
    exact (cn_X5_leave_11 fu ag_7 hagn_7 x1 F G hm)
theorem cw_X5_leave_7 (fu : Nat) {res : Int32 × PF × PG} (C : cMC p R s m args c A v RX5 cX5_leave 3 0 0 (xn res.2.1 - xn K0)) (hret : ∀ (b1 : Nat) (H1 : Heap) (locs1 : List Loc) (ls1 : Array Slot) (pc : Nat), cMW s A v a b1 K0 res.2.1 res.2.2 H1 locs1 → decode cX5_leave pc = .ok (.return_, 1) → W p l e R s m args below meth c H1 locs1 (xn res.2.1 - xn K0) (2 * (xn res.2.1 - xn K0)) Q (F0 m pc ls1 [])) (ag_7 : Int32 → PF → PG → PR) (hag_7 : ∀ (x1 : Int32) (F : PF) (G : PG), ag_7 x1 F G = some res → ∀ (b : Nat) (H : Heap) (locs : List Loc) (ls : Array Slot), cMW s A v a b K0 F G H locs → lv_has ls 3 [(0, .ref (a 205)), (1, .int x1)] → W p l e R s m args below meth c H locs (xn F - xn K0) (2 * (xn F - xn K0)) Q (F0 m 7 ls [])) (hagn_7 : ∀ (x1 : Int32) (F : PF) (G : PG), ag_7 x1 F G = some res → xn F ≤ xn res.2.1) (x1 : Int32) (F : PF) (G : PG) (hm : cb_X5_leave_7 fu ag_7 x1 F G = some res) {b : Nat} {H : Heap} {locs : List Loc} (hw : cMW s A v a b K0 F G H locs) {ls : Array Slot} (hl : lv_has ls 3 [(0, .ref (a 205)), (1, .int x1)]) : W p l e R s m args below meth c H locs (xn F - xn K0) (2 * (xn F - xn K0)) Q (F0 m 7 ls []) := by
  have hx := C.1
  have hb := C.2.1
  unfold cb_X5_leave_7 at hm
  refine lv_iload_n hx hb dX5_leave_7 rfl (lv_at hl 1 rfl) ?_
  refine lv_if_lt (tgt := 65) hx hb dX5_leave_8 (by decide) (fun c_1 => ?_) (fun c_1 => ?_)
  · have hm := (if_pos c_1).symm.trans hm
    exact cw_X5_leave_65 fu C hret F G hm hw (lv_sub hl [0] rfl)
  · have hm := (if_neg c_1).symm.trans hm
    exact cw_X5_leave_11 fu C hret ag_7 hag_7 hagn_7 x1 F G hm hw (lv_sub hl [0, 1] rfl)
theorem cnl_X5_leave_7 (fu : Nat) {res : Int32 × PF × PG} : ∀ (n : Nat) (x1 : Int32) (F : PF) (G : PG) (hm : cl_X5_leave_7 fu n x1 F G = some res), xn F ≤ xn res.2.1 := by
  intro n
  induction n with
  | zero =>
    intro x1 F G hm
    exact no_elim (show (none : PR) = some res from hm)
  | succ n ih =>
    intro x1 F G hm
    exact cn_X5_leave_7 fu (cl_X5_leave_7 fu n) (fun x1 F G hm => ih x1 F G hm) x1 F G hm
theorem cwl_X5_leave_7 (fu : Nat) {res : Int32 × PF × PG} (C : cMC p R s m args c A v RX5 cX5_leave 3 0 0 (xn res.2.1 - xn K0)) (hret : ∀ (b1 : Nat) (H1 : Heap) (locs1 : List Loc) (ls1 : Array Slot) (pc : Nat), cMW s A v a b1 K0 res.2.1 res.2.2 H1 locs1 → decode cX5_leave pc = .ok (.return_, 1) → W p l e R s m args below meth c H1 locs1 (xn res.2.1 - xn K0) (2 * (xn res.2.1 - xn K0)) Q (F0 m pc ls1 [])) : ∀ (n : Nat) (x1 : Int32) (F : PF) (G : PG) (hm : cl_X5_leave_7 fu n x1 F G = some res) {b : Nat} {H : Heap} {locs : List Loc} (hw : cMW s A v a b K0 F G H locs) {ls : Array Slot} (hl : lv_has ls 3 [(0, .ref (a 205)), (1, .int x1)]), W p l e R s m args below meth c H locs (xn F - xn K0) (2 * (xn F - xn K0)) Q (F0 m 7 ls []) := by
  intro n
  induction n with
  | zero =>
    intro x1 F G hm
    exact no_elim (show (none : PR) = some res from hm)
  | succ n ih =>
    intro x1 F G hm b H locs hw ls hl
    exact cw_X5_leave_7 fu C hret (cl_X5_leave_7 fu n) (fun x1 F G hm b H locs ls hw hl => ih x1 F G hm hw hl) (fun x1 F G hm => cnl_X5_leave_7 fu n x1 F G hm) x1 F G hm hw hl
theorem cn_X5_leave_0 (fu : Nat) {res : Int32 × PF × PG} (F : PF) (G : PG) (hm : cb_X5_leave_0 fu F G = some res) : xn F ≤ xn res.2.1 := by
  unfold cb_X5_leave_0 at hm
  exact (cnl_X5_leave_7 fu fu ((F 41) - (1 : Int32)) F G hm)
theorem cw_X5_leave_0 (fu : Nat) {res : Int32 × PF × PG} (C : cMC p R s m args c A v RX5 cX5_leave 3 0 0 (xn res.2.1 - xn K0)) (hret : ∀ (b1 : Nat) (H1 : Heap) (locs1 : List Loc) (ls1 : Array Slot) (pc : Nat), cMW s A v a b1 K0 res.2.1 res.2.2 H1 locs1 → decode cX5_leave pc = .ok (.return_, 1) → W p l e R s m args below meth c H1 locs1 (xn res.2.1 - xn K0) (2 * (xn res.2.1 - xn K0)) Q (F0 m pc ls1 [])) (F : PF) (G : PG) (hm : cb_X5_leave_0 fu F G = some res) {b : Nat} {H : Heap} {locs : List Loc} (hw : cMW s A v a b K0 F G H locs) {ls : Array Slot} (hl : lv_has ls 3 [(0, .ref (a 205))]) : W p l e R s m args below meth c H locs (xn F - xn K0) (2 * (xn F - xn K0)) Q (F0 m 0 ls []) := by
  have hx := C.1
  have hb := C.2.1
  unfold cb_X5_leave_0 at hm
  refine lv_aload_n hx hb dX5_leave_0 rfl (lv_at hl 0 rfl) ?_
  refine cg_X5_40 C hw dX5_leave_1 ?_
  refine lv_iconst (v := 1) hx hb dX5_leave_4 (by decide) ?_
  refine lv_isub hx hb dX5_leave_5 ?_
  refine lv_istore_n (lv' := [(1, .int ((F 41) - (1 : Int32))), (0, .ref (a 205))]) hx hb dX5_leave_6 rfl hl (by decide) rfl (fun ls hl => ?_)
  exact cwl_X5_leave_7 fu C hret fu ((F 41) - (1 : Int32)) F G hm hw (lv_sub hl [1, 0] rfl)
theorem cn_X5_leave (fu : Nat) (F : PF) (G : PG) (q : Int32 × PF × PG) (hm : cf_X5_leave fu F G = some q) : xn F ≤ xn q.2.1 := cn_X5_leave_0 fu F G hm
theorem ck_X5_leave (l : Launch) (v : EV) (a : Nat → Nat) (b sz : Nat) (fu : Nat) (F : PF) (G : PG) (r : Int32) (F1 : PF) (G1 : PG) (hm : cf_X5_leave fu F G = some (r, F1, G1)) : cMV l yX5_leave cX5_leave 3 0 0 v a b sz [.ref (a 205)] F G F1 G1 := cMV.of (by decide) (Nat.le_of_ble_eq_true rfl) (fun p e R s m args below meth c Q A H locs ls C hw hl hret => cw_X5_leave_0 fu (res := (r, F1, G1)) C hret F G hm hw hl)
def cb_X4_endFunction_79 (fu : Nat) (F : PF) (G : PG) : PR := some (0, F, G)
def cb_X4_endFunction_69 (fu : Nat) (F : PF) (G : PG) : PR := cb_X4_endFunction_79 fu (fup F 28 ((F 28) + (1 : Int32))) G
def cb_X4_endFunction_62 (fu : Nat) (F : PF) (G : PG) : PR := (cf_X5_leave fu F G).bind (fun q => cb_X4_endFunction_69 fu q.2.1 q.2.2)
def cb_X4_endFunction_61 (fu : Nat) (z0 : Int32) (z1 : Int32) (F : PF) (G : PG) : PR := if ixb z1 450 = true then (cb_X4_endFunction_62 fu F (gup G 79 z1.toNatClampNeg z0)) else none
def cb_X4_endFunction_43 (fu : Nat) (F : PF) (G : PG) : PR := (cf_X5_measure fu F G).bind (fun q => cb_X4_endFunction_61 fu q.1 (F 28) q.2.1 q.2.2)
def cb_X4_endFunction_40 (fu : Nat) (z0 : Int32) (F : PF) (G : PG) : PR := if z0 = (0 : Int32) then cb_X4_endFunction_62 fu F G else cb_X4_endFunction_43 fu F G
def cb_X4_endFunction_29 (fu : Nat) (F : PF) (G : PG) : PR := (cf_X8_has fu (F 28) F G).bind (fun q => cb_X4_endFunction_40 fu q.1 q.2.1 q.2.2)
def cb_X4_endFunction_19 (fu : Nat) (F : PF) (G : PG) : PR := if (F 45) = (0 : Int32) then cb_X4_endFunction_62 fu F G else cb_X4_endFunction_29 fu F G
def cb_X4_endFunction_10 (fu : Nat) (F : PF) (G : PG) : PR := (cf_X1_add fu 15 F G).bind (fun q => cb_X4_endFunction_19 fu q.2.1 q.2.2)
def cb_X4_endFunction_0 (fu : Nat) (F : PF) (G : PG) : PR := (cf_X1_addPair fu 66 0 F G).bind (fun q => cb_X4_endFunction_10 fu q.2.1 q.2.2)
def cf_X4_endFunction (fu : Nat) (F : PF) (G : PG) : PR := cb_X4_endFunction_0 fu F G
theorem cn_X4_endFunction_79 (fu : Nat) {res : Int32 × PF × PG} (F : PF) (G : PG) (hm : cb_X4_endFunction_79 fu F G = some res) : xn F ≤ xn res.2.1 := by
  unfold cb_X4_endFunction_79 at hm
  obtain rfl := Option.some.inj hm
  exact Nat.le_refl _
theorem cw_X4_endFunction_79 (fu : Nat) {res : Int32 × PF × PG} (C : cMC p R s m args c A v RX4 cX4_endFunction 1 1 22 (xn res.2.1 - xn K0)) (hret : ∀ (b1 : Nat) (H1 : Heap) (locs1 : List Loc) (ls1 : Array Slot) (pc : Nat), cMW s A v a b1 K0 res.2.1 res.2.2 H1 locs1 → decode cX4_endFunction pc = .ok (.return_, 1) → W p l e R s m args below meth c H1 locs1 (xn res.2.1 - xn K0) (2 * (xn res.2.1 - xn K0)) Q (F0 m pc ls1 [])) (F : PF) (G : PG) (hm : cb_X4_endFunction_79 fu F G = some res) {b : Nat} {H : Heap} {locs : List Loc} (hw : cMW s A v a b K0 F G H locs) {ls : Array Slot} (hl : lv_has ls 1 []) : W p l e R s m args below meth c H locs (xn F - xn K0) (2 * (xn F - xn K0)) Q (F0 m 79 ls []) := by
  have hx := C.1
  have hb := C.2.1
  unfold cb_X4_endFunction_79 at hm
  obtain rfl := Option.some.inj hm
  exact hret _ _ _ _ _ hw dX4_endFunction_79
theorem cn_X4_endFunction_69 (fu : Nat) {res : Int32 × PF × PG} (F : PF) (G : PG) (hm : cb_X4_endFunction_69 fu F G = some res) : xn F ≤ xn res.2.1 := by
  unfold cb_X4_endFunction_69 at hm
  exact Nat.le_trans (Nat.le_of_eq (xn_fup (by decide)).symm) (cn_X4_endFunction_79 fu (fup F 28 ((F 28) + (1 : Int32))) G hm)
theorem cw_X4_endFunction_69 (fu : Nat) {res : Int32 × PF × PG} (C : cMC p R s m args c A v RX4 cX4_endFunction 1 1 22 (xn res.2.1 - xn K0)) (hret : ∀ (b1 : Nat) (H1 : Heap) (locs1 : List Loc) (ls1 : Array Slot) (pc : Nat), cMW s A v a b1 K0 res.2.1 res.2.2 H1 locs1 → decode cX4_endFunction pc = .ok (.return_, 1) → W p l e R s m args below meth c H1 locs1 (xn res.2.1 - xn K0) (2 * (xn res.2.1 - xn K0)) Q (F0 m pc ls1 [])) (F : PF) (G : PG) (hm : cb_X4_endFunction_69 fu F G = some res) {b : Nat} {H : Heap} {locs : List Loc} (hw : cMW s A v a b K0 F G H locs) {ls : Array Slot} (hl : lv_has ls 1 [(0, .ref (a 204))]) : W p l e R s m args below meth c H locs (xn F - xn K0) (2 * (xn F - xn K0)) Q (F0 m 69 ls []) := by
  have hx := C.1
  have hb := C.2.1
  unfold cb_X4_endFunction_69 at hm
  refine lv_aload_n hx hb dX4_endFunction_69 rfl (lv_at hl 0 rfl) ?_
  refine lv_dup hx hb dX4_endFunction_70 rfl ?_
  refine cg_X4_113 C hw dX4_endFunction_71 ?_
  refine lv_iconst (v := 1) hx hb dX4_endFunction_74 (by decide) ?_
  refine lv_iadd hx hb dX4_endFunction_75 ?_
  refine cp_X4_113 C hw dX4_endFunction_76 (fun H locs hw => ?_)
  exact cw_X4_endFunction_79 fu C hret (fup F 28 ((F 28) + (1 : Int32))) G hm hw (lv_sub hl [] rfl)
theorem cn_X4_endFunction_62 (fu : Nat) {res : Int32 × PF × PG} (F : PF) (G : PG) (hm : cb_X4_endFunction_62 fu F G = some res) : xn F ≤ xn res.2.1 := by
  unfold cb_X4_endFunction_62 at hm
  obtain ⟨⟨r1, F1, G1⟩, hc, hm⟩ := bind_elim hm
  exact Nat.le_trans (cn_X5_leave fu F G _ hc) (cn_X4_endFunction_69 fu F1 G1 hm)
theorem cw_X4_endFunction_62 (fu : Nat) {res : Int32 × PF × PG} (C : cMC p R s m args c A v RX4 cX4_endFunction 1 1 22 (xn res.2.1 - xn K0)) (hret : ∀ (b1 : Nat) (H1 : Heap) (locs1 : List Loc) (ls1 : Array Slot) (pc : Nat), cMW s A v a b1 K0 res.2.1 res.2.2 H1 locs1 → decode cX4_endFunction pc = .ok (.return_, 1) → W p l e R s m args below meth c H1 locs1 (xn res.2.1 - xn K0) (2 * (xn res.2.1 - xn K0)) Q (F0 m pc ls1 [])) (F : PF) (G : PG) (hm : cb_X4_endFunction_62 fu F G = some res) {b : Nat} {H : Heap} {locs : List Loc} (hw : cMW s A v a b K0 F G H locs) {ls : Array Slot} (hl : lv_has ls 1 [(0, .ref (a 204))]) : W p l e R s m args below meth c H locs (xn F - xn K0) (2 * (xn F - xn K0)) Q (F0 m 62 ls []) := by
  have hx := C.1
  have hb := C.2.1
  unfold cb_X4_endFunction_62 at hm
  refine lv_aload_n hx hb dX4_endFunction_62 rfl (lv_at hl 0 rfl) ?_
  refine cg_X4_15 C hw dX4_endFunction_63 ?_
  obtain ⟨⟨r1, F1, G1⟩, hc, hm⟩ := bind_elim hm
  refine ccallV (n := 0) (As := []) (rest := []) C hw (ck_X5_leave l v a _ _ fu F G r1 F1 G1 hc) (cn_X5_leave fu F G _ hc) (Nat.sub_le_sub_right (cn_X4_endFunction_69 fu F1 G1 hm) _) (crecv_X5 C hw) cm_719 cm_720 cm_721 cm_266 cm_722 (by decide +kernel) rfl (by omega) (by omega) hl.1 rfl (Nat.le_of_ble_eq_true rfl) dX4_endFunction_66 (fun b H locs hw => ?_)
  exact cw_X4_endFunction_69 fu C hret F1 G1 hm hw (lv_sub hl [0] rfl)
theorem cn_X4_endFunction_61 (fu : Nat) {res : Int32 × PF × PG} (z0 : Int32) (z1 : Int32) (F : PF) (G : PG) (hm : cb_X4_endFunction_61 fu z0 z1 F G = some res) : xn F ≤ xn res.2.1 := by
  unfold cb_X4_endFunction_61 at hm
  have hm := (ix_elim hm).2
  exact (cn_X4_endFunction_62 fu F (gup G 79 z1.toNatClampNeg z0) hm)
theorem cw_X4_endFunction_61 (fu : Nat) {res : Int32 × PF × PG} (C : cMC p R s m args c A v RX4 cX4_endFunction 1 1 22 (xn res.2.1 - xn K0)) (hret : ∀ (b1 : Nat) (H1 : Heap) (locs1 : List Loc) (ls1 : Array Slot) (pc : Nat), cMW s A v a b1 K0 res.2.1 res.2.2 H1 locs1 → decode cX4_endFunction pc = .ok (.return_, 1) → W p l e R s m args below meth c H1 locs1 (xn res.2.1 - xn K0) (2 * (xn res.2.1 - xn K0)) Q (F0 m pc ls1 [])) (z0 : Int32) (z1 : Int32) (F : PF) (G : PG) (hm : cb_X4_endFunction_61 fu z0 z1 F G = some res) {b : Nat} {H : Heap} {locs : List Loc} (hw : cMW s A v a b K0 F G H locs) {ls : Array Slot} (hl : lv_has ls 1 [(0, .ref (a 204))]) : W p l e R s m args below meth c H locs (xn F - xn K0) (2 * (xn F - xn K0)) Q (F0 m 61 ls [.int z0, .int z1, .ref (a 79)]) := by
  have hx := C.1
  have hb := C.2.1
  unfold cb_X4_endFunction_61 at hm
  obtain ⟨hi, hm⟩ := ix_elim hm
  refine cas_79 C hw hi dX4_endFunction_61 (fun H locs hw => ?_)
  exact cw_X4_endFunction_62 fu C hret F (gup G 79 z1.toNatClampNeg z0) hm hw (lv_sub hl [0] rfl)
theorem cn_X4_endFunction_43 (fu : Nat) {res : Int32 × PF × PG} (F : PF) (G : PG) (hm : cb_X4_endFunction_43 fu F G = some res) : xn F ≤ xn res.2.1 := by
  unfold cb_X4_endFunction_43 at hm
  obtain ⟨⟨r1, F1, G1⟩, hc, hm⟩ := bind_elim hm
  exact Nat.le_trans (cn_X5_measure fu F G _ hc) (cn_X4_endFunction_61 fu r1 (F 28) F1 G1 hm)
theorem cw_X4_endFunction_43 (fu : Nat) {res : Int32 × PF × PG} (C : cMC p R s m args c A v RX4 cX4_endFunction 1 1 22 (xn res.2.1 - xn K0)) (hret : ∀ (b1 : Nat) (H1 : Heap) (locs1 : List Loc) (ls1 : Array Slot) (pc : Nat), cMW s A v a b1 K0 res.2.1 res.2.2 H1 locs1 → decode cX4_endFunction pc = .ok (.return_, 1) → W p l e R s m args below meth c H1 locs1 (xn res.2.1 - xn K0) (2 * (xn res.2.1 - xn K0)) Q (F0 m pc ls1 [])) (F : PF) (G : PG) (hm : cb_X4_endFunction_43 fu F G = some res) {b : Nat} {H : Heap} {locs : List Loc} (hw : cMW s A v a b K0 F G H locs) {ls : Array Slot} (hl : lv_has ls 1 [(0, .ref (a 204))]) : W p l e R s m args below meth c H locs (xn F - xn K0) (2 * (xn F - xn K0)) Q (F0 m 43 ls []) := by
  have hx := C.1
  have hb := C.2.1
  unfold cb_X4_endFunction_43 at hm
  refine lv_aload_n hx hb dX4_endFunction_43 rfl (lv_at hl 0 rfl) ?_
  refine cg_X4_23 C hw dX4_endFunction_44 ?_
  refine cg_X4_197 C hw dX4_endFunction_47 ?_
  refine lv_aload_n hx hb dX4_endFunction_50 rfl (lv_at hl 0 rfl) ?_
  refine cg_X4_113 C hw dX4_endFunction_51 ?_
  refine lv_aload_n hx hb dX4_endFunction_54 rfl (lv_at hl 0 rfl) ?_
  refine cg_X4_15 C hw dX4_endFunction_55 ?_
  obtain ⟨⟨r1, F1, G1⟩, hc, hm⟩ := bind_elim hm
  refine ccallI (n := 0) (As := []) (rest := [.int (F 28), .ref (a 79)]) C hw (ck_X5_measure l v a _ _ fu F G r1 F1 G1 hc) (cn_X5_measure fu F G _ hc) (Nat.sub_le_sub_right (cn_X4_endFunction_61 fu r1 (F 28) F1 G1 hm) _) (crecv_X5 C hw) cm_761 cm_639 cm_640 cm_266 cm_641 (by decide +kernel) rfl (by omega) (by omega) hl.1 rfl (Nat.le_of_ble_eq_true rfl) dX4_endFunction_58 (fun b H locs hw => ?_)
  exact cw_X4_endFunction_61 fu C hret r1 (F 28) F1 G1 hm hw (lv_sub hl [0] rfl)
theorem cn_X4_endFunction_40 (fu : Nat) {res : Int32 × PF × PG} (z0 : Int32) (F : PF) (G : PG) (hm : cb_X4_endFunction_40 fu z0 F G = some res) : xn F ≤ xn res.2.1 := by
  unfold cb_X4_endFunction_40 at hm
  by_cases c_1 : z0 = (0 : Int32)
  · have hm := (if_pos c_1).symm.trans hm
    exact (cn_X4_endFunction_62 fu F G hm)
  · have hm := (if_neg c_1).symm.trans hm
    exact (cn_X4_endFunction_43 fu F G hm)
theorem cw_X4_endFunction_40 (fu : Nat) {res : Int32 × PF × PG} (C : cMC p R s m args c A v RX4 cX4_endFunction 1 1 22 (xn res.2.1 - xn K0)) (hret : ∀ (b1 : Nat) (H1 : Heap) (locs1 : List Loc) (ls1 : Array Slot) (pc : Nat), cMW s A v a b1 K0 res.2.1 res.2.2 H1 locs1 → decode cX4_endFunction pc = .ok (.return_, 1) → W p l e R s m args below meth c H1 locs1 (xn res.2.1 - xn K0) (2 * (xn res.2.1 - xn K0)) Q (F0 m pc ls1 [])) (z0 : Int32) (F : PF) (G : PG) (hm : cb_X4_endFunction_40 fu z0 F G = some res) {b : Nat} {H : Heap} {locs : List Loc} (hw : cMW s A v a b K0 F G H locs) {ls : Array Slot} (hl : lv_has ls 1 [(0, .ref (a 204))]) : W p l e R s m args below meth c H locs (xn F - xn K0) (2 * (xn F - xn K0)) Q (F0 m 40 ls [.int z0]) := by
  have hx := C.1
  have hb := C.2.1
  unfold cb_X4_endFunction_40 at hm
  refine lv_if_eq (tgt := 62) hx hb dX4_endFunction_40 (by decide) (fun c_1 => ?_) (fun c_1 => ?_)
  · have hm := (if_pos c_1).symm.trans hm
    exact cw_X4_endFunction_62 fu C hret F G hm hw (lv_sub hl [0] rfl)
  · have hm := (if_neg c_1).symm.trans hm
    exact cw_X4_endFunction_43 fu C hret F G hm hw (lv_sub hl [0] rfl)
theorem cn_X4_endFunction_29 (fu : Nat) {res : Int32 × PF × PG} (F : PF) (G : PG) (hm : cb_X4_endFunction_29 fu F G = some res) : xn F ≤ xn res.2.1 := by
  unfold cb_X4_endFunction_29 at hm
  obtain ⟨⟨r1, F1, G1⟩, hc, hm⟩ := bind_elim hm
  exact Nat.le_trans (cn_X8_has fu (F 28) F G _ hc) (cn_X4_endFunction_40 fu r1 F1 G1 hm)
theorem cw_X4_endFunction_29 (fu : Nat) {res : Int32 × PF × PG} (C : cMC p R s m args c A v RX4 cX4_endFunction 1 1 22 (xn res.2.1 - xn K0)) (hret : ∀ (b1 : Nat) (H1 : Heap) (locs1 : List Loc) (ls1 : Array Slot) (pc : Nat), cMW s A v a b1 K0 res.2.1 res.2.2 H1 locs1 → decode cX4_endFunction pc = .ok (.return_, 1) → W p l e R s m args below meth c H1 locs1 (xn res.2.1 - xn K0) (2 * (xn res.2.1 - xn K0)) Q (F0 m pc ls1 [])) (F : PF) (G : PG) (hm : cb_X4_endFunction_29 fu F G = some res) {b : Nat} {H : Heap} {locs : List Loc} (hw : cMW s A v a b K0 F G H locs) {ls : Array Slot} (hl : lv_has ls 1 [(0, .ref (a 204))]) : W p l e R s m args below meth c H locs (xn F - xn K0) (2 * (xn F - xn K0)) Q (F0 m 29 ls []) := by
  have hx := C.1
  have hb := C.2.1
  unfold cb_X4_endFunction_29 at hm
  refine lv_aload_n hx hb dX4_endFunction_29 rfl (lv_at hl 0 rfl) ?_
  refine cg_X4_23 C hw dX4_endFunction_30 ?_
  refine lv_aload_n hx hb dX4_endFunction_33 rfl (lv_at hl 0 rfl) ?_
  refine cg_X4_113 C hw dX4_endFunction_34 ?_
  obtain ⟨⟨r1, F1, G1⟩, hc, hm⟩ := bind_elim hm
  refine ccallI (n := 1) (As := [.int (F 28)]) (rest := []) C hw (ck_X8_has l v a _ _ fu (F 28) F G r1 F1 G1 hc) (cn_X8_has fu (F 28) F G _ hc) (Nat.sub_le_sub_right (cn_X4_endFunction_40 fu r1 F1 G1 hm) _) (crecv_X8 C hw) cm_607 cm_405 cm_406 cm_254 cm_407 (by decide +kernel) rfl (by omega) (by omega) hl.1 rfl (Nat.le_of_ble_eq_true rfl) dX4_endFunction_37 (fun b H locs hw => ?_)
  exact cw_X4_endFunction_40 fu C hret r1 F1 G1 hm hw (lv_sub hl [0] rfl)
theorem cn_X4_endFunction_19 (fu : Nat) {res : Int32 × PF × PG} (F : PF) (G : PG) (hm : cb_X4_endFunction_19 fu F G = some res) : xn F ≤ xn res.2.1 := by
  unfold cb_X4_endFunction_19 at hm
  by_cases c_1 : (F 45) = (0 : Int32)
  · have hm := (if_pos c_1).symm.trans hm
    exact (cn_X4_endFunction_62 fu F G hm)
  · have hm := (if_neg c_1).symm.trans hm
    exact (cn_X4_endFunction_29 fu F G hm)
theorem cw_X4_endFunction_19 (fu : Nat) {res : Int32 × PF × PG} (C : cMC p R s m args c A v RX4 cX4_endFunction 1 1 22 (xn res.2.1 - xn K0)) (hret : ∀ (b1 : Nat) (H1 : Heap) (locs1 : List Loc) (ls1 : Array Slot) (pc : Nat), cMW s A v a b1 K0 res.2.1 res.2.2 H1 locs1 → decode cX4_endFunction pc = .ok (.return_, 1) → W p l e R s m args below meth c H1 locs1 (xn res.2.1 - xn K0) (2 * (xn res.2.1 - xn K0)) Q (F0 m pc ls1 [])) (F : PF) (G : PG) (hm : cb_X4_endFunction_19 fu F G = some res) {b : Nat} {H : Heap} {locs : List Loc} (hw : cMW s A v a b K0 F G H locs) {ls : Array Slot} (hl : lv_has ls 1 [(0, .ref (a 204))]) : W p l e R s m args below meth c H locs (xn F - xn K0) (2 * (xn F - xn K0)) Q (F0 m 19 ls []) := by
  have hx := C.1
  have hb := C.2.1
  unfold cb_X4_endFunction_19 at hm
  refine lv_aload_n hx hb dX4_endFunction_19 rfl (lv_at hl 0 rfl) ?_
  refine cg_X4_15 C hw dX4_endFunction_20 ?_
  refine cg_X4_128 C hw dX4_endFunction_23 ?_
  refine lv_if_eq (tgt := 62) hx hb dX4_endFunction_26 (by decide) (fun c_1 => ?_) (fun c_1 => ?_)
  · have hm := (if_pos c_1).symm.trans hm
    exact cw_X4_endFunction_62 fu C hret F G hm hw (lv_sub hl [0] rfl)
  · have hm := (if_neg c_1).symm.trans hm
    exact cw_X4_endFunction_29 fu C hret F G hm hw (lv_sub hl [0] rfl)
theorem cn_X4_endFunction_10 (fu : Nat) {res : Int32 × PF × PG} (F : PF) (G : PG) (hm : cb_X4_endFunction_10 fu F G = some res) : xn F ≤ xn res.2.1 := by
  unfold cb_X4_endFunction_10 at hm
  obtain ⟨⟨r1, F1, G1⟩, hc, hm⟩ := bind_elim hm
  exact Nat.le_trans (cn_X1_add fu 15 F G _ hc) (cn_X4_endFunction_19 fu F1 G1 hm)
theorem cw_X4_endFunction_10 (fu : Nat) {res : Int32 × PF × PG} (C : cMC p R s m args c A v RX4 cX4_endFunction 1 1 22 (xn res.2.1 - xn K0)) (hret : ∀ (b1 : Nat) (H1 : Heap) (locs1 : List Loc) (ls1 : Array Slot) (pc : Nat), cMW s A v a b1 K0 res.2.1 res.2.2 H1 locs1 → decode cX4_endFunction pc = .ok (.return_, 1) → W p l e R s m args below meth c H1 locs1 (xn res.2.1 - xn K0) (2 * (xn res.2.1 - xn K0)) Q (F0 m pc ls1 [])) (F : PF) (G : PG) (hm : cb_X4_endFunction_10 fu F G = some res) {b : Nat} {H : Heap} {locs : List Loc} (hw : cMW s A v a b K0 F G H locs) {ls : Array Slot} (hl : lv_has ls 1 [(0, .ref (a 204))]) : W p l e R s m args below meth c H locs (xn F - xn K0) (2 * (xn F - xn K0)) Q (F0 m 10 ls []) := by
  have hx := C.1
  have hb := C.2.1
  unfold cb_X4_endFunction_10 at hm
  refine lv_aload_n hx hb dX4_endFunction_10 rfl (lv_at hl 0 rfl) ?_
  refine cg_X4_19 C hw dX4_endFunction_11 ?_
  refine lv_bipush (v := 15) hx hb dX4_endFunction_14 (by decide) ?_
  obtain ⟨⟨r1, F1, G1⟩, hc, hm⟩ := bind_elim hm
  refine ccallV (n := 1) (As := [.int 15]) (rest := []) C hw (ck_X1_add l v a _ _ fu 15 F G r1 F1 G1 hc) (cn_X1_add fu 15 F G _ hc) (Nat.sub_le_sub_right (cn_X4_endFunction_19 fu F1 G1 hm) _) (crecv_X1 C hw) cm_687 cm_453 cm_454 cm_369 cm_455 (by decide +kernel) rfl (by omega) (by omega) hl.1 rfl (Nat.le_of_ble_eq_true rfl) dX4_endFunction_16 (fun b H locs hw => ?_)
  exact cw_X4_endFunction_19 fu C hret F1 G1 hm hw (lv_sub hl [0] rfl)
theorem cn_X4_endFunction_0 (fu : Nat) {res : Int32 × PF × PG} (F : PF) (G : PG) (hm : cb_X4_endFunction_0 fu F G = some res) : xn F ≤ xn res.2.1 := by
  unfold cb_X4_endFunction_0 at hm
  obtain ⟨⟨r1, F1, G1⟩, hc, hm⟩ := bind_elim hm
  exact Nat.le_trans (cn_X1_addPair fu 66 0 F G _ hc) (cn_X4_endFunction_10 fu F1 G1 hm)
theorem cw_X4_endFunction_0 (fu : Nat) {res : Int32 × PF × PG} (C : cMC p R s m args c A v RX4 cX4_endFunction 1 1 22 (xn res.2.1 - xn K0)) (hret : ∀ (b1 : Nat) (H1 : Heap) (locs1 : List Loc) (ls1 : Array Slot) (pc : Nat), cMW s A v a b1 K0 res.2.1 res.2.2 H1 locs1 → decode cX4_endFunction pc = .ok (.return_, 1) → W p l e R s m args below meth c H1 locs1 (xn res.2.1 - xn K0) (2 * (xn res.2.1 - xn K0)) Q (F0 m pc ls1 [])) (F : PF) (G : PG) (hm : cb_X4_endFunction_0 fu F G = some res) {b : Nat} {H : Heap} {locs : List Loc} (hw : cMW s A v a b K0 F G H locs) {ls : Array Slot} (hl : lv_has ls 1 [(0, .ref (a 204))]) : W p l e R s m args below meth c H locs (xn F - xn K0) (2 * (xn F - xn K0)) Q (F0 m 0 ls []) := by
  have hx := C.1
  have hb := C.2.1
  unfold cb_X4_endFunction_0 at hm
  refine lv_aload_n hx hb dX4_endFunction_0 rfl (lv_at hl 0 rfl) ?_
  refine cg_X4_19 C hw dX4_endFunction_1 ?_
  refine lv_bipush (v := 66) hx hb dX4_endFunction_4 (by decide) ?_
  refine lv_iconst (v := 0) hx hb dX4_endFunction_6 (by decide) ?_
  obtain ⟨⟨r1, F1, G1⟩, hc, hm⟩ := bind_elim hm
  refine ccallV (n := 2) (As := [.int 66, .int 0]) (rest := []) C hw (ck_X1_addPair l v a _ _ fu 66 0 F G r1 F1 G1 hc) (cn_X1_addPair fu 66 0 F G _ hc) (Nat.sub_le_sub_right (cn_X4_endFunction_10 fu F1 G1 hm) _) (crecv_X1 C hw) cm_660 cm_449 cm_450 cm_369 cm_451 (by decide +kernel) rfl (by omega) (by omega) hl.1 rfl (Nat.le_of_ble_eq_true rfl) dX4_endFunction_7 (fun b H locs hw => ?_)
  exact cw_X4_endFunction_10 fu C hret F1 G1 hm hw (lv_sub hl [0] rfl)
theorem cn_X4_endFunction (fu : Nat) (F : PF) (G : PG) (q : Int32 × PF × PG) (hm : cf_X4_endFunction fu F G = some q) : xn F ≤ xn q.2.1 := cn_X4_endFunction_0 fu F G hm
theorem ck_X4_endFunction (l : Launch) (v : EV) (a : Nat → Nat) (b sz : Nat) (fu : Nat) (F : PF) (G : PG) (r : Int32) (F1 : PF) (G1 : PG) (hm : cf_X4_endFunction fu F G = some (r, F1, G1)) : cMV l yX4_endFunction cX4_endFunction 1 1 22 v a b sz [.ref (a 204)] F G F1 G1 := cMV.of (by decide) (Nat.le_of_ble_eq_true rfl) (fun p e R s m args below meth c Q A H locs ls C hw hl hret => cw_X4_endFunction_0 fu (res := (r, F1, G1)) C hret F G hm hw hl)
def cb_X4_start_58 (fu : Nat) (F : PF) (G : PG) : PR := some (0, F, G)
def cb_X4_start_51 (fu : Nat) (F : PF) (G : PG) : PR := (cf_X2_start fu F G).bind (fun q => cb_X4_start_58 fu q.2.1 q.2.2)
def cb_X4_start_44 (fu : Nat) (F : PF) (G : PG) : PR := (cf_X3_start fu F G).bind (fun q => cb_X4_start_51 fu q.2.1 q.2.2)
def cb_X4_start_36 (fu : Nat) (x1 : Int32) (F : PF) (G : PG) : PR := if b01 x1 = true then (cb_X4_start_44 fu (fup F 7 x1) G) else none
def cb_X4_start_28 (fu : Nat) (x1 : Int32) (F : PF) (G : PG) : PR := if b01 x1 = true then (cb_X4_start_36 fu x1 (fup F 45 x1) G) else none
def cb_X4_start_20 (fu : Nat) (x1 : Int32) (F : PF) (G : PG) : PR := cb_X4_start_28 fu x1 (fup F 42 (0 : Int32)) G
def cb_X4_start_15 (fu : Nat) (x1 : Int32) (F : PF) (G : PG) : PR := cb_X4_start_20 fu x1 (fup F 31 (-1 : Int32)) G
def cb_X4_start_10 (fu : Nat) (x1 : Int32) (F : PF) (G : PG) : PR := cb_X4_start_15 fu x1 (fup F 30 (-1 : Int32)) G
def cb_X4_start_5 (fu : Nat) (x1 : Int32) (F : PF) (G : PG) : PR := cb_X4_start_10 fu x1 (fup F 29 (0 : Int32)) G
def cb_X4_start_0 (fu : Nat) (x1 : Int32) (F : PF) (G : PG) : PR := cb_X4_start_5 fu x1 (fup F 28 (0 : Int32)) G
def cf_X4_start (fu : Nat) (x1 : Int32) (F : PF) (G : PG) : PR := cb_X4_start_0 fu x1 F G
theorem cn_X4_start_58 (fu : Nat) {res : Int32 × PF × PG} (F : PF) (G : PG) (hm : cb_X4_start_58 fu F G = some res) : xn F ≤ xn res.2.1 := by
  unfold cb_X4_start_58 at hm
  obtain rfl := Option.some.inj hm
  exact Nat.le_refl _
theorem cw_X4_start_58 (fu : Nat) {res : Int32 × PF × PG} (C : cMC p R s m args c A v RX4 cX4_start 2 2 41 (xn res.2.1 - xn K0)) (hret : ∀ (b1 : Nat) (H1 : Heap) (locs1 : List Loc) (ls1 : Array Slot) (pc : Nat), cMW s A v a b1 K0 res.2.1 res.2.2 H1 locs1 → decode cX4_start pc = .ok (.return_, 1) → W p l e R s m args below meth c H1 locs1 (xn res.2.1 - xn K0) (2 * (xn res.2.1 - xn K0)) Q (F0 m pc ls1 [])) (F : PF) (G : PG) (hm : cb_X4_start_58 fu F G = some res) {b : Nat} {H : Heap} {locs : List Loc} (hw : cMW s A v a b K0 F G H locs) {ls : Array Slot} (hl : lv_has ls 2 []) : W p l e R s m args below meth c H locs (xn F - xn K0) (2 * (xn F - xn K0)) Q (F0 m 58 ls []) := by
  have hx := C.1
  have hb := C.2.1
  unfold cb_X4_start_58 at hm
  obtain rfl := Option.some.inj hm
  exact hret _ _ _ _ _ hw dX4_start_58
theorem cn_X4_start_51 (fu : Nat) {res : Int32 × PF × PG} (F : PF) (G : PG) (hm : cb_X4_start_51 fu F G = some res) : xn F ≤ xn res.2.1 := by
  unfold cb_X4_start_51 at hm
  obtain ⟨⟨r1, F1, G1⟩, hc, hm⟩ := bind_elim hm
  exact Nat.le_trans (cn_X2_start fu F G _ hc) (cn_X4_start_58 fu F1 G1 hm)
theorem cw_X4_start_51 (fu : Nat) {res : Int32 × PF × PG} (C : cMC p R s m args c A v RX4 cX4_start 2 2 41 (xn res.2.1 - xn K0)) (hret : ∀ (b1 : Nat) (H1 : Heap) (locs1 : List Loc) (ls1 : Array Slot) (pc : Nat), cMW s A v a b1 K0 res.2.1 res.2.2 H1 locs1 → decode cX4_start pc = .ok (.return_, 1) → W p l e R s m args below meth c H1 locs1 (xn res.2.1 - xn K0) (2 * (xn res.2.1 - xn K0)) Q (F0 m pc ls1 [])) (F : PF) (G : PG) (hm : cb_X4_start_51 fu F G = some res) {b : Nat} {H : Heap} {locs : List Loc} (hw : cMW s A v a b K0 F G H locs) {ls : Array Slot} (hl : lv_has ls 2 [(0, .ref (a 204))]) : W p l e R s m args below meth c H locs (xn F - xn K0) (2 * (xn F - xn K0)) Q (F0 m 51 ls []) := by
  have hx := C.1
  have hb := C.2.1
  unfold cb_X4_start_51 at hm
  refine lv_aload_n hx hb dX4_start_51 rfl (lv_at hl 0 rfl) ?_
  refine cg_X4_9 C hw dX4_start_52 ?_
  obtain ⟨⟨r1, F1, G1⟩, hc, hm⟩ := bind_elim hm
  refine ccallV (n := 0) (As := []) (rest := []) C hw (ck_X2_start l v a _ _ fu F G r1 F1 G1 hc) (cn_X2_start fu F G _ hc) (Nat.sub_le_sub_right (cn_X4_start_58 fu F1 G1 hm) _) (crecv_X2 C hw) cm_304 cm_305 cm_306 cm_307 cm_308 (by decide +kernel) rfl (by omega) (by omega) hl.1 rfl (Nat.le_of_ble_eq_true rfl) dX4_start_55 (fun b H locs hw => ?_)
  exact cw_X4_start_58 fu C hret F1 G1 hm hw (lv_sub hl [] rfl)
theorem cn_X4_start_44 (fu : Nat) {res : Int32 × PF × PG} (F : PF) (G : PG) (hm : cb_X4_start_44 fu F G = some res) : xn F ≤ xn res.2.1 := by
  unfold cb_X4_start_44 at hm
  obtain ⟨⟨r1, F1, G1⟩, hc, hm⟩ := bind_elim hm
  exact Nat.le_trans (cn_X3_start fu F G _ hc) (cn_X4_start_51 fu F1 G1 hm)
theorem cw_X4_start_44 (fu : Nat) {res : Int32 × PF × PG} (C : cMC p R s m args c A v RX4 cX4_start 2 2 41 (xn res.2.1 - xn K0)) (hret : ∀ (b1 : Nat) (H1 : Heap) (locs1 : List Loc) (ls1 : Array Slot) (pc : Nat), cMW s A v a b1 K0 res.2.1 res.2.2 H1 locs1 → decode cX4_start pc = .ok (.return_, 1) → W p l e R s m args below meth c H1 locs1 (xn res.2.1 - xn K0) (2 * (xn res.2.1 - xn K0)) Q (F0 m pc ls1 [])) (F : PF) (G : PG) (hm : cb_X4_start_44 fu F G = some res) {b : Nat} {H : Heap} {locs : List Loc} (hw : cMW s A v a b K0 F G H locs) {ls : Array Slot} (hl : lv_has ls 2 [(0, .ref (a 204))]) : W p l e R s m args below meth c H locs (xn F - xn K0) (2 * (xn F - xn K0)) Q (F0 m 44 ls []) := by
  have hx := C.1
  have hb := C.2.1
  unfold cb_X4_start_44 at hm
  refine lv_aload_n hx hb dX4_start_44 rfl (lv_at hl 0 rfl) ?_
  refine cg_X4_27 C hw dX4_start_45 ?_
  obtain ⟨⟨r1, F1, G1⟩, hc, hm⟩ := bind_elim hm
  refine ccallV (n := 0) (As := []) (rest := []) C hw (ck_X3_start l v a _ _ fu F G r1 F1 G1 hc) (cn_X3_start fu F G _ hc) (Nat.sub_le_sub_right (cn_X4_start_51 fu F1 G1 hm) _) (crecv_X3 C hw) cm_298 cm_299 cm_300 cm_301 cm_302 (by decide +kernel) rfl (by omega) (by omega) hl.1 rfl (Nat.le_of_ble_eq_true rfl) dX4_start_48 (fun b H locs hw => ?_)
  exact cw_X4_start_51 fu C hret F1 G1 hm hw (lv_sub hl [0] rfl)
theorem cn_X4_start_36 (fu : Nat) {res : Int32 × PF × PG} (x1 : Int32) (F : PF) (G : PG) (hm : cb_X4_start_36 fu x1 F G = some res) : xn F ≤ xn res.2.1 := by
  unfold cb_X4_start_36 at hm
  have hm := (b01_elim hm).2
  exact Nat.le_trans (Nat.le_of_eq (xn_fup (by decide)).symm) (cn_X4_start_44 fu (fup F 7 x1) G hm)
theorem cw_X4_start_36 (fu : Nat) {res : Int32 × PF × PG} (C : cMC p R s m args c A v RX4 cX4_start 2 2 41 (xn res.2.1 - xn K0)) (hret : ∀ (b1 : Nat) (H1 : Heap) (locs1 : List Loc) (ls1 : Array Slot) (pc : Nat), cMW s A v a b1 K0 res.2.1 res.2.2 H1 locs1 → decode cX4_start pc = .ok (.return_, 1) → W p l e R s m args below meth c H1 locs1 (xn res.2.1 - xn K0) (2 * (xn res.2.1 - xn K0)) Q (F0 m pc ls1 [])) (x1 : Int32) (F : PF) (G : PG) (hm : cb_X4_start_36 fu x1 F G = some res) {b : Nat} {H : Heap} {locs : List Loc} (hw : cMW s A v a b K0 F G H locs) {ls : Array Slot} (hl : lv_has ls 2 [(0, .ref (a 204)), (1, .int x1)]) : W p l e R s m args below meth c H locs (xn F - xn K0) (2 * (xn F - xn K0)) Q (F0 m 36 ls []) := by
  have hx := C.1
  have hb := C.2.1
  unfold cb_X4_start_36 at hm
  refine lv_aload_n hx hb dX4_start_36 rfl (lv_at hl 0 rfl) ?_
  refine cg_X4_19 C hw dX4_start_37 ?_
  refine lv_iload_n hx hb dX4_start_40 rfl (lv_at hl 1 rfl) ?_
  obtain ⟨hz, hm⟩ := b01_elim hm
  refine cp_X4_132 C hw hz dX4_start_41 (fun H locs hw => ?_)
  exact cw_X4_start_44 fu C hret (fup F 7 x1) G hm hw (lv_sub hl [0] rfl)
theorem cn_X4_start_28 (fu : Nat) {res : Int32 × PF × PG} (x1 : Int32) (F : PF) (G : PG) (hm : cb_X4_start_28 fu x1 F G = some res) : xn F ≤ xn res.2.1 := by
  unfold cb_X4_start_28 at hm
  have hm := (b01_elim hm).2
  exact Nat.le_trans (Nat.le_of_eq (xn_fup (by decide)).symm) (cn_X4_start_36 fu x1 (fup F 45 x1) G hm)
theorem cw_X4_start_28 (fu : Nat) {res : Int32 × PF × PG} (C : cMC p R s m args c A v RX4 cX4_start 2 2 41 (xn res.2.1 - xn K0)) (hret : ∀ (b1 : Nat) (H1 : Heap) (locs1 : List Loc) (ls1 : Array Slot) (pc : Nat), cMW s A v a b1 K0 res.2.1 res.2.2 H1 locs1 → decode cX4_start pc = .ok (.return_, 1) → W p l e R s m args below meth c H1 locs1 (xn res.2.1 - xn K0) (2 * (xn res.2.1 - xn K0)) Q (F0 m pc ls1 [])) (x1 : Int32) (F : PF) (G : PG) (hm : cb_X4_start_28 fu x1 F G = some res) {b : Nat} {H : Heap} {locs : List Loc} (hw : cMW s A v a b K0 F G H locs) {ls : Array Slot} (hl : lv_has ls 2 [(0, .ref (a 204)), (1, .int x1)]) : W p l e R s m args below meth c H locs (xn F - xn K0) (2 * (xn F - xn K0)) Q (F0 m 28 ls []) := by
  have hx := C.1
  have hb := C.2.1
  unfold cb_X4_start_28 at hm
  refine lv_aload_n hx hb dX4_start_28 rfl (lv_at hl 0 rfl) ?_
  refine cg_X4_15 C hw dX4_start_29 ?_
  refine lv_iload_n hx hb dX4_start_32 rfl (lv_at hl 1 rfl) ?_
  obtain ⟨hz, hm⟩ := b01_elim hm
  refine cp_X4_128 C hw hz dX4_start_33 (fun H locs hw => ?_)
  exact cw_X4_start_36 fu C hret x1 (fup F 45 x1) G hm hw (lv_sub hl [0, 1] rfl)
theorem cn_X4_start_20 (fu : Nat) {res : Int32 × PF × PG} (x1 : Int32) (F : PF) (G : PG) (hm : cb_X4_start_20 fu x1 F G = some res) : xn F ≤ xn res.2.1 := by
  unfold cb_X4_start_20 at hm
  exact Nat.le_trans (Nat.le_of_eq (xn_fup (by decide)).symm) (cn_X4_start_28 fu x1 (fup F 42 (0 : Int32)) G hm)
theorem cw_X4_start_20 (fu : Nat) {res : Int32 × PF × PG} (C : cMC p R s m args c A v RX4 cX4_start 2 2 41 (xn res.2.1 - xn K0)) (hret : ∀ (b1 : Nat) (H1 : Heap) (locs1 : List Loc) (ls1 : Array Slot) (pc : Nat), cMW s A v a b1 K0 res.2.1 res.2.2 H1 locs1 → decode cX4_start pc = .ok (.return_, 1) → W p l e R s m args below meth c H1 locs1 (xn res.2.1 - xn K0) (2 * (xn res.2.1 - xn K0)) Q (F0 m pc ls1 [])) (x1 : Int32) (F : PF) (G : PG) (hm : cb_X4_start_20 fu x1 F G = some res) {b : Nat} {H : Heap} {locs : List Loc} (hw : cMW s A v a b K0 F G H locs) {ls : Array Slot} (hl : lv_has ls 2 [(0, .ref (a 204)), (1, .int x1)]) : W p l e R s m args below meth c H locs (xn F - xn K0) (2 * (xn F - xn K0)) Q (F0 m 20 ls []) := by
  have hx := C.1
  have hb := C.2.1
  unfold cb_X4_start_20 at hm
  refine lv_aload_n hx hb dX4_start_20 rfl (lv_at hl 0 rfl) ?_
  refine cg_X4_15 C hw dX4_start_21 ?_
  refine lv_iconst (v := 0) hx hb dX4_start_24 (by decide) ?_
  refine cp_X4_125 C hw dX4_start_25 (fun H locs hw => ?_)
  exact cw_X4_start_28 fu C hret x1 (fup F 42 (0 : Int32)) G hm hw (lv_sub hl [0, 1] rfl)
theorem cn_X4_start_15 (fu : Nat) {res : Int32 × PF × PG} (x1 : Int32) (F : PF) (G : PG) (hm : cb_X4_start_15 fu x1 F G = some res) : xn F ≤ xn res.2.1 := by
  unfold cb_X4_start_15 at hm
  exact Nat.le_trans (Nat.le_of_eq (xn_fup (by decide)).symm) (cn_X4_start_20 fu x1 (fup F 31 (-1 : Int32)) G hm)
theorem cw_X4_start_15 (fu : Nat) {res : Int32 × PF × PG} (C : cMC p R s m args c A v RX4 cX4_start 2 2 41 (xn res.2.1 - xn K0)) (hret : ∀ (b1 : Nat) (H1 : Heap) (locs1 : List Loc) (ls1 : Array Slot) (pc : Nat), cMW s A v a b1 K0 res.2.1 res.2.2 H1 locs1 → decode cX4_start pc = .ok (.return_, 1) → W p l e R s m args below meth c H1 locs1 (xn res.2.1 - xn K0) (2 * (xn res.2.1 - xn K0)) Q (F0 m pc ls1 [])) (x1 : Int32) (F : PF) (G : PG) (hm : cb_X4_start_15 fu x1 F G = some res) {b : Nat} {H : Heap} {locs : List Loc} (hw : cMW s A v a b K0 F G H locs) {ls : Array Slot} (hl : lv_has ls 2 [(0, .ref (a 204)), (1, .int x1)]) : W p l e R s m args below meth c H locs (xn F - xn K0) (2 * (xn F - xn K0)) Q (F0 m 15 ls []) := by
  have hx := C.1
  have hb := C.2.1
  unfold cb_X4_start_15 at hm
  refine lv_aload_n hx hb dX4_start_15 rfl (lv_at hl 0 rfl) ?_
  refine lv_iconst (v := (-1)) hx hb dX4_start_16 (by decide) ?_
  refine cp_X4_122 C hw dX4_start_17 (fun H locs hw => ?_)
  exact cw_X4_start_20 fu C hret x1 (fup F 31 (-1 : Int32)) G hm hw (lv_sub hl [0, 1] rfl)
theorem cn_X4_start_10 (fu : Nat) {res : Int32 × PF × PG} (x1 : Int32) (F : PF) (G : PG) (hm : cb_X4_start_10 fu x1 F G = some res) : xn F ≤ xn res.2.1 := by
  unfold cb_X4_start_10 at hm
  exact Nat.le_trans (Nat.le_of_eq (xn_fup (by decide)).symm) (cn_X4_start_15 fu x1 (fup F 30 (-1 : Int32)) G hm)
theorem cw_X4_start_10 (fu : Nat) {res : Int32 × PF × PG} (C : cMC p R s m args c A v RX4 cX4_start 2 2 41 (xn res.2.1 - xn K0)) (hret : ∀ (b1 : Nat) (H1 : Heap) (locs1 : List Loc) (ls1 : Array Slot) (pc : Nat), cMW s A v a b1 K0 res.2.1 res.2.2 H1 locs1 → decode cX4_start pc = .ok (.return_, 1) → W p l e R s m args below meth c H1 locs1 (xn res.2.1 - xn K0) (2 * (xn res.2.1 - xn K0)) Q (F0 m pc ls1 [])) (x1 : Int32) (F : PF) (G : PG) (hm : cb_X4_start_10 fu x1 F G = some res) {b : Nat} {H : Heap} {locs : List Loc} (hw : cMW s A v a b K0 F G H locs) {ls : Array Slot} (hl : lv_has ls 2 [(0, .ref (a 204)), (1, .int x1)]) : W p l e R s m args below meth c H locs (xn F - xn K0) (2 * (xn F - xn K0)) Q (F0 m 10 ls []) := by
  have hx := C.1
  have hb := C.2.1
  unfold cb_X4_start_10 at hm
  refine lv_aload_n hx hb dX4_start_10 rfl (lv_at hl 0 rfl) ?_
  refine lv_iconst (v := (-1)) hx hb dX4_start_11 (by decide) ?_
  refine cp_X4_119 C hw dX4_start_12 (fun H locs hw => ?_)
  exact cw_X4_start_15 fu C hret x1 (fup F 30 (-1 : Int32)) G hm hw (lv_sub hl [0, 1] rfl)
theorem cn_X4_start_5 (fu : Nat) {res : Int32 × PF × PG} (x1 : Int32) (F : PF) (G : PG) (hm : cb_X4_start_5 fu x1 F G = some res) : xn F ≤ xn res.2.1 := by
  unfold cb_X4_start_5 at hm
  exact Nat.le_trans (Nat.le_of_eq (xn_fup (by decide)).symm) (cn_X4_start_10 fu x1 (fup F 29 (0 : Int32)) G hm)
theorem cw_X4_start_5 (fu : Nat) {res : Int32 × PF × PG} (C : cMC p R s m args c A v RX4 cX4_start 2 2 41 (xn res.2.1 - xn K0)) (hret : ∀ (b1 : Nat) (H1 : Heap) (locs1 : List Loc) (ls1 : Array Slot) (pc : Nat), cMW s A v a b1 K0 res.2.1 res.2.2 H1 locs1 → decode cX4_start pc = .ok (.return_, 1) → W p l e R s m args below meth c H1 locs1 (xn res.2.1 - xn K0) (2 * (xn res.2.1 - xn K0)) Q (F0 m pc ls1 [])) (x1 : Int32) (F : PF) (G : PG) (hm : cb_X4_start_5 fu x1 F G = some res) {b : Nat} {H : Heap} {locs : List Loc} (hw : cMW s A v a b K0 F G H locs) {ls : Array Slot} (hl : lv_has ls 2 [(0, .ref (a 204)), (1, .int x1)]) : W p l e R s m args below meth c H locs (xn F - xn K0) (2 * (xn F - xn K0)) Q (F0 m 5 ls []) := by
  have hx := C.1
  have hb := C.2.1
  unfold cb_X4_start_5 at hm
  refine lv_aload_n hx hb dX4_start_5 rfl (lv_at hl 0 rfl) ?_
  refine lv_iconst (v := 0) hx hb dX4_start_6 (by decide) ?_
  refine cp_X4_116 C hw dX4_start_7 (fun H locs hw => ?_)
  exact cw_X4_start_10 fu C hret x1 (fup F 29 (0 : Int32)) G hm hw (lv_sub hl [0, 1] rfl)
theorem cn_X4_start_0 (fu : Nat) {res : Int32 × PF × PG} (x1 : Int32) (F : PF) (G : PG) (hm : cb_X4_start_0 fu x1 F G = some res) : xn F ≤ xn res.2.1 := by
  unfold cb_X4_start_0 at hm
  exact Nat.le_trans (Nat.le_of_eq (xn_fup (by decide)).symm) (cn_X4_start_5 fu x1 (fup F 28 (0 : Int32)) G hm)
theorem cw_X4_start_0 (fu : Nat) {res : Int32 × PF × PG} (C : cMC p R s m args c A v RX4 cX4_start 2 2 41 (xn res.2.1 - xn K0)) (hret : ∀ (b1 : Nat) (H1 : Heap) (locs1 : List Loc) (ls1 : Array Slot) (pc : Nat), cMW s A v a b1 K0 res.2.1 res.2.2 H1 locs1 → decode cX4_start pc = .ok (.return_, 1) → W p l e R s m args below meth c H1 locs1 (xn res.2.1 - xn K0) (2 * (xn res.2.1 - xn K0)) Q (F0 m pc ls1 [])) (x1 : Int32) (F : PF) (G : PG) (hm : cb_X4_start_0 fu x1 F G = some res) {b : Nat} {H : Heap} {locs : List Loc} (hw : cMW s A v a b K0 F G H locs) {ls : Array Slot} (hl : lv_has ls 2 [(0, .ref (a 204)), (1, .int x1)]) : W p l e R s m args below meth c H locs (xn F - xn K0) (2 * (xn F - xn K0)) Q (F0 m 0 ls []) := by
  have hx := C.1
  have hb := C.2.1
  unfold cb_X4_start_0 at hm
  refine lv_aload_n hx hb dX4_start_0 rfl (lv_at hl 0 rfl) ?_
  refine lv_iconst (v := 0) hx hb dX4_start_1 (by decide) ?_
  refine cp_X4_113 C hw dX4_start_2 (fun H locs hw => ?_)
  exact cw_X4_start_5 fu C hret x1 (fup F 28 (0 : Int32)) G hm hw (lv_sub hl [0, 1] rfl)
theorem cn_X4_start (fu : Nat) (x1 : Int32) (F : PF) (G : PG) (q : Int32 × PF × PG) (hm : cf_X4_start fu x1 F G = some q) : xn F ≤ xn q.2.1 := cn_X4_start_0 fu x1 F G hm
theorem ck_X4_start (l : Launch) (v : EV) (a : Nat → Nat) (b sz : Nat) (fu : Nat) (x1 : Int32) (F : PF) (G : PG) (r : Int32) (F1 : PF) (G1 : PG) (hm : cf_X4_start fu x1 F G = some (r, F1, G1)) : cMV l yX4_start cX4_start 2 2 41 v a b sz [.ref (a 204), .int x1] F G F1 G1 := cMV.of (by decide) (Nat.le_of_ble_eq_true rfl) (fun p e R s m args below meth c Q A H locs ls C hw hl hret => cw_X4_start_0 fu (res := (r, F1, G1)) C hret x1 F G hm hw hl)
def cb_X8_addFunction_96 (fu : Nat) (F : PF) (G : PG) : PR := some (0, F, G)
def cb_X8_addFunction_86 (fu : Nat) (F : PF) (G : PG) : PR := cb_X8_addFunction_96 fu (fup F 74 ((F 74) + (1 : Int32))) G
def cb_X8_addFunction_76 (fu : Nat) (F : PF) (G : PG) : PR := if ixb (F 74) 450 = true then (cb_X8_addFunction_86 fu F (gup G 80 (F 74).toNatClampNeg (0 : Int32))) else none
def cb_X8_addFunction_66 (fu : Nat) (F : PF) (G : PG) : PR := if ixb (F 74) 450 = true then (cb_X8_addFunction_76 fu F (gup G 79 (F 74).toNatClampNeg (4 : Int32))) else none
def cb_X8_addFunction_56 (fu : Nat) (F : PF) (G : PG) : PR := if ixb (F 74) 450 = true then (cb_X8_addFunction_66 fu F (gup G 81 (F 74).toNatClampNeg (0 : Int32))) else none
def cb_X8_addFunction_46 (fu : Nat) (F : PF) (G : PG) : PR := if ixb (F 74) 450 = true then (cb_X8_addFunction_56 fu F (gup G 78 (F 74).toNatClampNeg (0 : Int32))) else none
def cb_X8_addFunction_33 (fu : Nat) (F : PF) (G : PG) : PR := if ixb (F 74) 450 = true then (cb_X8_addFunction_46 fu F (gup G 83 (F 74).toNatClampNeg (F 85))) else none
def cb_X8_addFunction_32 (fu : Nat) (z0 : Int32) (z1 : Int32) (F : PF) (G : PG) : PR := if ixb z1 450 = true then (cb_X8_addFunction_33 fu F (gup G 82 z1.toNatClampNeg z0)) else none
def cb_X8_addFunction_20 (fu : Nat) (x2 : Int32) (F : PF) (G : PG) : PR := (cf_X11_truth fu x2 F G).bind (fun q => cb_X8_addFunction_32 fu q.1 (F 74) q.2.1 q.2.2)
def cb_X8_addFunction_10 (fu : Nat) (x1 : Int32) (x2 : Int32) (F : PF) (G : PG) : PR := if ixb (F 74) 450 = true then (cb_X8_addFunction_20 fu x2 F (gup G 77 (F 74).toNatClampNeg x1)) else none
def cb_X8_addFunction_0 (fu : Nat) (x1 : Int32) (x2 : Int32) (F : PF) (G : PG) : PR := if (450 : Int32) ≤ (F 74) then cb_X8_addFunction_96 fu F G else cb_X8_addFunction_10 fu x1 x2 F G
def cf_X8_addFunction (fu : Nat) (x1 : Int32) (x2 : Int32) (F : PF) (G : PG) : PR := cb_X8_addFunction_0 fu x1 x2 F G
theorem cn_X8_addFunction_96 (fu : Nat) {res : Int32 × PF × PG} (F : PF) (G : PG) (hm : cb_X8_addFunction_96 fu F G = some res) : xn F ≤ xn res.2.1 := by
  unfold cb_X8_addFunction_96 at hm
  obtain rfl := Option.some.inj hm
  exact Nat.le_refl _
theorem cw_X8_addFunction_96 (fu : Nat) {res : Int32 × PF × PG} (C : cMC p R s m args c A v RX8 cX8_addFunction 3 1 20 (xn res.2.1 - xn K0)) (hret : ∀ (b1 : Nat) (H1 : Heap) (locs1 : List Loc) (ls1 : Array Slot) (pc : Nat), cMW s A v a b1 K0 res.2.1 res.2.2 H1 locs1 → decode cX8_addFunction pc = .ok (.return_, 1) → W p l e R s m args below meth c H1 locs1 (xn res.2.1 - xn K0) (2 * (xn res.2.1 - xn K0)) Q (F0 m pc ls1 [])) (F : PF) (G : PG) (hm : cb_X8_addFunction_96 fu F G = some res) {b : Nat} {H : Heap} {locs : List Loc} (hw : cMW s A v a b K0 F G H locs) {ls : Array Slot} (hl : lv_has ls 3 []) : W p l e R s m args below meth c H locs (xn F - xn K0) (2 * (xn F - xn K0)) Q (F0 m 96 ls []) := by
  have hx := C.1
  have hb := C.2.1
  unfold cb_X8_addFunction_96 at hm
  obtain rfl := Option.some.inj hm
  exact hret _ _ _ _ _ hw dX8_addFunction_96
theorem cn_X8_addFunction_86 (fu : Nat) {res : Int32 × PF × PG} (F : PF) (G : PG) (hm : cb_X8_addFunction_86 fu F G = some res) : xn F ≤ xn res.2.1 := by
  unfold cb_X8_addFunction_86 at hm
  exact Nat.le_trans (Nat.le_of_eq (xn_fup (by decide)).symm) (cn_X8_addFunction_96 fu (fup F 74 ((F 74) + (1 : Int32))) G hm)
theorem cw_X8_addFunction_86 (fu : Nat) {res : Int32 × PF × PG} (C : cMC p R s m args c A v RX8 cX8_addFunction 3 1 20 (xn res.2.1 - xn K0)) (hret : ∀ (b1 : Nat) (H1 : Heap) (locs1 : List Loc) (ls1 : Array Slot) (pc : Nat), cMW s A v a b1 K0 res.2.1 res.2.2 H1 locs1 → decode cX8_addFunction pc = .ok (.return_, 1) → W p l e R s m args below meth c H1 locs1 (xn res.2.1 - xn K0) (2 * (xn res.2.1 - xn K0)) Q (F0 m pc ls1 [])) (F : PF) (G : PG) (hm : cb_X8_addFunction_86 fu F G = some res) {b : Nat} {H : Heap} {locs : List Loc} (hw : cMW s A v a b K0 F G H locs) {ls : Array Slot} (hl : lv_has ls 3 [(0, .ref (a 208))]) : W p l e R s m args below meth c H locs (xn F - xn K0) (2 * (xn F - xn K0)) Q (F0 m 86 ls []) := by
  have hx := C.1
  have hb := C.2.1
  unfold cb_X8_addFunction_86 at hm
  refine lv_aload_n hx hb dX8_addFunction_86 rfl (lv_at hl 0 rfl) ?_
  refine lv_dup hx hb dX8_addFunction_87 rfl ?_
  refine cg_X8_43 C hw dX8_addFunction_88 ?_
  refine lv_iconst (v := 1) hx hb dX8_addFunction_91 (by decide) ?_
  refine lv_iadd hx hb dX8_addFunction_92 ?_
  refine cp_X8_43 C hw dX8_addFunction_93 (fun H locs hw => ?_)
  exact cw_X8_addFunction_96 fu C hret (fup F 74 ((F 74) + (1 : Int32))) G hm hw (lv_sub hl [] rfl)
theorem cn_X8_addFunction_76 (fu : Nat) {res : Int32 × PF × PG} (F : PF) (G : PG) (hm : cb_X8_addFunction_76 fu F G = some res) : xn F ≤ xn res.2.1 := by
  unfold cb_X8_addFunction_76 at hm
  have hm := (ix_elim hm).2
  exact (cn_X8_addFunction_86 fu F (gup G 80 (F 74).toNatClampNeg (0 : Int32)) hm)
theorem cw_X8_addFunction_76 (fu : Nat) {res : Int32 × PF × PG} (C : cMC p R s m args c A v RX8 cX8_addFunction 3 1 20 (xn res.2.1 - xn K0)) (hret : ∀ (b1 : Nat) (H1 : Heap) (locs1 : List Loc) (ls1 : Array Slot) (pc : Nat), cMW s A v a b1 K0 res.2.1 res.2.2 H1 locs1 → decode cX8_addFunction pc = .ok (.return_, 1) → W p l e R s m args below meth c H1 locs1 (xn res.2.1 - xn K0) (2 * (xn res.2.1 - xn K0)) Q (F0 m pc ls1 [])) (F : PF) (G : PG) (hm : cb_X8_addFunction_76 fu F G = some res) {b : Nat} {H : Heap} {locs : List Loc} (hw : cMW s A v a b K0 F G H locs) {ls : Array Slot} (hl : lv_has ls 3 [(0, .ref (a 208))]) : W p l e R s m args below meth c H locs (xn F - xn K0) (2 * (xn F - xn K0)) Q (F0 m 76 ls []) := by
  have hx := C.1
  have hb := C.2.1
  unfold cb_X8_addFunction_76 at hm
  refine lv_aload_n hx hb dX8_addFunction_76 rfl (lv_at hl 0 rfl) ?_
  refine cg_X8_21 C hw dX8_addFunction_77 ?_
  refine lv_aload_n hx hb dX8_addFunction_80 rfl (lv_at hl 0 rfl) ?_
  refine cg_X8_43 C hw dX8_addFunction_81 ?_
  refine lv_iconst (v := 0) hx hb dX8_addFunction_84 (by decide) ?_
  obtain ⟨hi, hm⟩ := ix_elim hm
  refine cas_80 C hw hi dX8_addFunction_85 (fun H locs hw => ?_)
  exact cw_X8_addFunction_86 fu C hret F (gup G 80 (F 74).toNatClampNeg (0 : Int32)) hm hw (lv_sub hl [0] rfl)
theorem cn_X8_addFunction_66 (fu : Nat) {res : Int32 × PF × PG} (F : PF) (G : PG) (hm : cb_X8_addFunction_66 fu F G = some res) : xn F ≤ xn res.2.1 := by
  unfold cb_X8_addFunction_66 at hm
  have hm := (ix_elim hm).2
  exact (cn_X8_addFunction_76 fu F (gup G 79 (F 74).toNatClampNeg (4 : Int32)) hm)
theorem cw_X8_addFunction_66 (fu : Nat) {res : Int32 × PF × PG} (C : cMC p R s m args c A v RX8 cX8_addFunction 3 1 20 (xn res.2.1 - xn K0)) (hret : ∀ (b1 : Nat) (H1 : Heap) (locs1 : List Loc) (ls1 : Array Slot) (pc : Nat), cMW s A v a b1 K0 res.2.1 res.2.2 H1 locs1 → decode cX8_addFunction pc = .ok (.return_, 1) → W p l e R s m args below meth c H1 locs1 (xn res.2.1 - xn K0) (2 * (xn res.2.1 - xn K0)) Q (F0 m pc ls1 [])) (F : PF) (G : PG) (hm : cb_X8_addFunction_66 fu F G = some res) {b : Nat} {H : Heap} {locs : List Loc} (hw : cMW s A v a b K0 F G H locs) {ls : Array Slot} (hl : lv_has ls 3 [(0, .ref (a 208))]) : W p l e R s m args below meth c H locs (xn F - xn K0) (2 * (xn F - xn K0)) Q (F0 m 66 ls []) := by
  have hx := C.1
  have hb := C.2.1
  unfold cb_X8_addFunction_66 at hm
  refine lv_aload_n hx hb dX8_addFunction_66 rfl (lv_at hl 0 rfl) ?_
  refine cg_X8_18 C hw dX8_addFunction_67 ?_
  refine lv_aload_n hx hb dX8_addFunction_70 rfl (lv_at hl 0 rfl) ?_
  refine cg_X8_43 C hw dX8_addFunction_71 ?_
  refine lv_iconst (v := 4) hx hb dX8_addFunction_74 (by decide) ?_
  obtain ⟨hi, hm⟩ := ix_elim hm
  refine cas_79 C hw hi dX8_addFunction_75 (fun H locs hw => ?_)
  exact cw_X8_addFunction_76 fu C hret F (gup G 79 (F 74).toNatClampNeg (4 : Int32)) hm hw (lv_sub hl [0] rfl)
theorem cn_X8_addFunction_56 (fu : Nat) {res : Int32 × PF × PG} (F : PF) (G : PG) (hm : cb_X8_addFunction_56 fu F G = some res) : xn F ≤ xn res.2.1 := by
  unfold cb_X8_addFunction_56 at hm
  have hm := (ix_elim hm).2
  exact (cn_X8_addFunction_66 fu F (gup G 81 (F 74).toNatClampNeg (0 : Int32)) hm)
theorem cw_X8_addFunction_56 (fu : Nat) {res : Int32 × PF × PG} (C : cMC p R s m args c A v RX8 cX8_addFunction 3 1 20 (xn res.2.1 - xn K0)) (hret : ∀ (b1 : Nat) (H1 : Heap) (locs1 : List Loc) (ls1 : Array Slot) (pc : Nat), cMW s A v a b1 K0 res.2.1 res.2.2 H1 locs1 → decode cX8_addFunction pc = .ok (.return_, 1) → W p l e R s m args below meth c H1 locs1 (xn res.2.1 - xn K0) (2 * (xn res.2.1 - xn K0)) Q (F0 m pc ls1 [])) (F : PF) (G : PG) (hm : cb_X8_addFunction_56 fu F G = some res) {b : Nat} {H : Heap} {locs : List Loc} (hw : cMW s A v a b K0 F G H locs) {ls : Array Slot} (hl : lv_has ls 3 [(0, .ref (a 208))]) : W p l e R s m args below meth c H locs (xn F - xn K0) (2 * (xn F - xn K0)) Q (F0 m 56 ls []) := by
  have hx := C.1
  have hb := C.2.1
  unfold cb_X8_addFunction_56 at hm
  refine lv_aload_n hx hb dX8_addFunction_56 rfl (lv_at hl 0 rfl) ?_
  refine cg_X8_24 C hw dX8_addFunction_57 ?_
  refine lv_aload_n hx hb dX8_addFunction_60 rfl (lv_at hl 0 rfl) ?_
  refine cg_X8_43 C hw dX8_addFunction_61 ?_
  refine lv_iconst (v := 0) hx hb dX8_addFunction_64 (by decide) ?_
  obtain ⟨hi, hm⟩ := ix_elim hm
  refine cas_81 C hw hi dX8_addFunction_65 (fun H locs hw => ?_)
  exact cw_X8_addFunction_66 fu C hret F (gup G 81 (F 74).toNatClampNeg (0 : Int32)) hm hw (lv_sub hl [0] rfl)
theorem cn_X8_addFunction_46 (fu : Nat) {res : Int32 × PF × PG} (F : PF) (G : PG) (hm : cb_X8_addFunction_46 fu F G = some res) : xn F ≤ xn res.2.1 := by
  unfold cb_X8_addFunction_46 at hm
  have hm := (ix_elim hm).2
  exact (cn_X8_addFunction_56 fu F (gup G 78 (F 74).toNatClampNeg (0 : Int32)) hm)
theorem cw_X8_addFunction_46 (fu : Nat) {res : Int32 × PF × PG} (C : cMC p R s m args c A v RX8 cX8_addFunction 3 1 20 (xn res.2.1 - xn K0)) (hret : ∀ (b1 : Nat) (H1 : Heap) (locs1 : List Loc) (ls1 : Array Slot) (pc : Nat), cMW s A v a b1 K0 res.2.1 res.2.2 H1 locs1 → decode cX8_addFunction pc = .ok (.return_, 1) → W p l e R s m args below meth c H1 locs1 (xn res.2.1 - xn K0) (2 * (xn res.2.1 - xn K0)) Q (F0 m pc ls1 [])) (F : PF) (G : PG) (hm : cb_X8_addFunction_46 fu F G = some res) {b : Nat} {H : Heap} {locs : List Loc} (hw : cMW s A v a b K0 F G H locs) {ls : Array Slot} (hl : lv_has ls 3 [(0, .ref (a 208))]) : W p l e R s m args below meth c H locs (xn F - xn K0) (2 * (xn F - xn K0)) Q (F0 m 46 ls []) := by
  have hx := C.1
  have hb := C.2.1
  unfold cb_X8_addFunction_46 at hm
  refine lv_aload_n hx hb dX8_addFunction_46 rfl (lv_at hl 0 rfl) ?_
  refine cg_X8_15 C hw dX8_addFunction_47 ?_
  refine lv_aload_n hx hb dX8_addFunction_50 rfl (lv_at hl 0 rfl) ?_
  refine cg_X8_43 C hw dX8_addFunction_51 ?_
  refine lv_iconst (v := 0) hx hb dX8_addFunction_54 (by decide) ?_
  obtain ⟨hi, hm⟩ := ix_elim hm
  refine cas_78 C hw hi dX8_addFunction_55 (fun H locs hw => ?_)
  exact cw_X8_addFunction_56 fu C hret F (gup G 78 (F 74).toNatClampNeg (0 : Int32)) hm hw (lv_sub hl [0] rfl)
theorem cn_X8_addFunction_33 (fu : Nat) {res : Int32 × PF × PG} (F : PF) (G : PG) (hm : cb_X8_addFunction_33 fu F G = some res) : xn F ≤ xn res.2.1 := by
  unfold cb_X8_addFunction_33 at hm
  have hm := (ix_elim hm).2
  exact (cn_X8_addFunction_46 fu F (gup G 83 (F 74).toNatClampNeg (F 85)) hm)
theorem cw_X8_addFunction_33 (fu : Nat) {res : Int32 × PF × PG} (C : cMC p R s m args c A v RX8 cX8_addFunction 3 1 20 (xn res.2.1 - xn K0)) (hret : ∀ (b1 : Nat) (H1 : Heap) (locs1 : List Loc) (ls1 : Array Slot) (pc : Nat), cMW s A v a b1 K0 res.2.1 res.2.2 H1 locs1 → decode cX8_addFunction pc = .ok (.return_, 1) → W p l e R s m args below meth c H1 locs1 (xn res.2.1 - xn K0) (2 * (xn res.2.1 - xn K0)) Q (F0 m pc ls1 [])) (F : PF) (G : PG) (hm : cb_X8_addFunction_33 fu F G = some res) {b : Nat} {H : Heap} {locs : List Loc} (hw : cMW s A v a b K0 F G H locs) {ls : Array Slot} (hl : lv_has ls 3 [(0, .ref (a 208))]) : W p l e R s m args below meth c H locs (xn F - xn K0) (2 * (xn F - xn K0)) Q (F0 m 33 ls []) := by
  have hx := C.1
  have hb := C.2.1
  unfold cb_X8_addFunction_33 at hm
  refine lv_aload_n hx hb dX8_addFunction_33 rfl (lv_at hl 0 rfl) ?_
  refine cg_X8_30 C hw dX8_addFunction_34 ?_
  refine lv_aload_n hx hb dX8_addFunction_37 rfl (lv_at hl 0 rfl) ?_
  refine cg_X8_43 C hw dX8_addFunction_38 ?_
  refine lv_aload_n hx hb dX8_addFunction_41 rfl (lv_at hl 0 rfl) ?_
  refine cg_X8_53 C hw dX8_addFunction_42 ?_
  obtain ⟨hi, hm⟩ := ix_elim hm
  refine cas_83 C hw hi dX8_addFunction_45 (fun H locs hw => ?_)
  exact cw_X8_addFunction_46 fu C hret F (gup G 83 (F 74).toNatClampNeg (F 85)) hm hw (lv_sub hl [0] rfl)
theorem cn_X8_addFunction_32 (fu : Nat) {res : Int32 × PF × PG} (z0 : Int32) (z1 : Int32) (F : PF) (G : PG) (hm : cb_X8_addFunction_32 fu z0 z1 F G = some res) : xn F ≤ xn res.2.1 := by
  unfold cb_X8_addFunction_32 at hm
  have hm := (ix_elim hm).2
  exact (cn_X8_addFunction_33 fu F (gup G 82 z1.toNatClampNeg z0) hm)
theorem cw_X8_addFunction_32 (fu : Nat) {res : Int32 × PF × PG} (C : cMC p R s m args c A v RX8 cX8_addFunction 3 1 20 (xn res.2.1 - xn K0)) (hret : ∀ (b1 : Nat) (H1 : Heap) (locs1 : List Loc) (ls1 : Array Slot) (pc : Nat), cMW s A v a b1 K0 res.2.1 res.2.2 H1 locs1 → decode cX8_addFunction pc = .ok (.return_, 1) → W p l e R s m args below meth c H1 locs1 (xn res.2.1 - xn K0) (2 * (xn res.2.1 - xn K0)) Q (F0 m pc ls1 [])) (z0 : Int32) (z1 : Int32) (F : PF) (G : PG) (hm : cb_X8_addFunction_32 fu z0 z1 F G = some res) {b : Nat} {H : Heap} {locs : List Loc} (hw : cMW s A v a b K0 F G H locs) {ls : Array Slot} (hl : lv_has ls 3 [(0, .ref (a 208))]) : W p l e R s m args below meth c H locs (xn F - xn K0) (2 * (xn F - xn K0)) Q (F0 m 32 ls [.int z0, .int z1, .ref (a 82)]) := by
  have hx := C.1
  have hb := C.2.1
  unfold cb_X8_addFunction_32 at hm
  obtain ⟨hi, hm⟩ := ix_elim hm
  refine cas_82 C hw hi dX8_addFunction_32 (fun H locs hw => ?_)
  exact cw_X8_addFunction_33 fu C hret F (gup G 82 z1.toNatClampNeg z0) hm hw (lv_sub hl [0] rfl)
theorem cn_X8_addFunction_20 (fu : Nat) {res : Int32 × PF × PG} (x2 : Int32) (F : PF) (G : PG) (hm : cb_X8_addFunction_20 fu x2 F G = some res) : xn F ≤ xn res.2.1 := by
  unfold cb_X8_addFunction_20 at hm
  obtain ⟨⟨r1, F1, G1⟩, hc, hm⟩ := bind_elim hm
  exact Nat.le_trans (cn_X11_truth fu x2 F G _ hc) (cn_X8_addFunction_32 fu r1 (F 74) F1 G1 hm)
theorem cw_X8_addFunction_20 (fu : Nat) {res : Int32 × PF × PG} (C : cMC p R s m args c A v RX8 cX8_addFunction 3 1 20 (xn res.2.1 - xn K0)) (hret : ∀ (b1 : Nat) (H1 : Heap) (locs1 : List Loc) (ls1 : Array Slot) (pc : Nat), cMW s A v a b1 K0 res.2.1 res.2.2 H1 locs1 → decode cX8_addFunction pc = .ok (.return_, 1) → W p l e R s m args below meth c H1 locs1 (xn res.2.1 - xn K0) (2 * (xn res.2.1 - xn K0)) Q (F0 m pc ls1 [])) (x2 : Int32) (F : PF) (G : PG) (hm : cb_X8_addFunction_20 fu x2 F G = some res) {b : Nat} {H : Heap} {locs : List Loc} (hw : cMW s A v a b K0 F G H locs) {ls : Array Slot} (hl : lv_has ls 3 [(0, .ref (a 208)), (2, .int x2)]) : W p l e R s m args below meth c H locs (xn F - xn K0) (2 * (xn F - xn K0)) Q (F0 m 20 ls []) := by
  have hx := C.1
  have hb := C.2.1
  unfold cb_X8_addFunction_20 at hm
  refine lv_aload_n hx hb dX8_addFunction_20 rfl (lv_at hl 0 rfl) ?_
  refine cg_X8_27 C hw dX8_addFunction_21 ?_
  refine lv_aload_n hx hb dX8_addFunction_24 rfl (lv_at hl 0 rfl) ?_
  refine cg_X8_43 C hw dX8_addFunction_25 ?_
  refine lv_iload_n hx hb dX8_addFunction_28 rfl (lv_at hl 1 rfl) ?_
  obtain ⟨⟨r1, F1, G1⟩, hc, hm⟩ := bind_elim hm
  refine ccallIN (n := 1) (As := [.int x2]) (rest := [.int (F 74), .ref (a 82)]) C hw (ck_X11_truth l v a _ _ fu x2 F G r1 F1 G1 hc) (cn_X11_truth fu x2 F G _ hc) (Nat.sub_le_sub_right (cn_X8_addFunction_32 fu r1 (F 74) F1 G1 hm) _) C.2.2.2.2.2.2.2.2.2.1.2.2.2.2.2.2.2.2.2.2.2.2.2.2.2.2.2.2.2.2.2.2.2.2 cm_562 cm_563 cm_564 (by decide +kernel) rfl (by omega) (by omega) hl.1 rfl (Nat.le_of_ble_eq_true rfl) dX8_addFunction_29 (fun b H locs hw => ?_)
  exact cw_X8_addFunction_32 fu C hret r1 (F 74) F1 G1 hm hw (lv_sub hl [0] rfl)
theorem cn_X8_addFunction_10 (fu : Nat) {res : Int32 × PF × PG} (x1 : Int32) (x2 : Int32) (F : PF) (G : PG) (hm : cb_X8_addFunction_10 fu x1 x2 F G = some res) : xn F ≤ xn res.2.1 := by
  unfold cb_X8_addFunction_10 at hm
  have hm := (ix_elim hm).2
  exact (cn_X8_addFunction_20 fu x2 F (gup G 77 (F 74).toNatClampNeg x1) hm)
theorem cw_X8_addFunction_10 (fu : Nat) {res : Int32 × PF × PG} (C : cMC p R s m args c A v RX8 cX8_addFunction 3 1 20 (xn res.2.1 - xn K0)) (hret : ∀ (b1 : Nat) (H1 : Heap) (locs1 : List Loc) (ls1 : Array Slot) (pc : Nat), cMW s A v a b1 K0 res.2.1 res.2.2 H1 locs1 → decode cX8_addFunction pc = .ok (.return_, 1) → W p l e R s m args below meth c H1 locs1 (xn res.2.1 - xn K0) (2 * (xn res.2.1 - xn K0)) Q (F0 m pc ls1 [])) (x1 : Int32) (x2 : Int32) (F : PF) (G : PG) (hm : cb_X8_addFunction_10 fu x1 x2 F G = some res) {b : Nat} {H : Heap} {locs : List Loc} (hw : cMW s A v a b K0 F G H locs) {ls : Array Slot} (hl : lv_has ls 3 [(0, .ref (a 208)), (1, .int x1), (2, .int x2)]) : W p l e R s m args below meth c H locs (xn F - xn K0) (2 * (xn F - xn K0)) Q (F0 m 10 ls []) := by
  have hx := C.1
  have hb := C.2.1
  unfold cb_X8_addFunction_10 at hm
  refine lv_aload_n hx hb dX8_addFunction_10 rfl (lv_at hl 0 rfl) ?_
  refine cg_X8_11 C hw dX8_addFunction_11 ?_
  refine lv_aload_n hx hb dX8_addFunction_14 rfl (lv_at hl 0 rfl) ?_
  refine cg_X8_43 C hw dX8_addFunction_15 ?_
  refine lv_iload_n hx hb dX8_addFunction_18 rfl (lv_at hl 1 rfl) ?_
  obtain ⟨hi, hm⟩ := ix_elim hm
  refine cas_77 C hw hi dX8_addFunction_19 (fun H locs hw => ?_)
  exact cw_X8_addFunction_20 fu C hret x2 F (gup G 77 (F 74).toNatClampNeg x1) hm hw (lv_sub hl [0, 2] rfl)
theorem cn_X8_addFunction_0 (fu : Nat) {res : Int32 × PF × PG} (x1 : Int32) (x2 : Int32) (F : PF) (G : PG) (hm : cb_X8_addFunction_0 fu x1 x2 F G = some res) : xn F ≤ xn res.2.1 := by
  unfold cb_X8_addFunction_0 at hm
  by_cases c_1 : (450 : Int32) ≤ (F 74)
  · have hm := (if_pos c_1).symm.trans hm
    exact (cn_X8_addFunction_96 fu F G hm)
  · have hm := (if_neg c_1).symm.trans hm
    exact (cn_X8_addFunction_10 fu x1 x2 F G hm)
theorem cw_X8_addFunction_0 (fu : Nat) {res : Int32 × PF × PG} (C : cMC p R s m args c A v RX8 cX8_addFunction 3 1 20 (xn res.2.1 - xn K0)) (hret : ∀ (b1 : Nat) (H1 : Heap) (locs1 : List Loc) (ls1 : Array Slot) (pc : Nat), cMW s A v a b1 K0 res.2.1 res.2.2 H1 locs1 → decode cX8_addFunction pc = .ok (.return_, 1) → W p l e R s m args below meth c H1 locs1 (xn res.2.1 - xn K0) (2 * (xn res.2.1 - xn K0)) Q (F0 m pc ls1 [])) (x1 : Int32) (x2 : Int32) (F : PF) (G : PG) (hm : cb_X8_addFunction_0 fu x1 x2 F G = some res) {b : Nat} {H : Heap} {locs : List Loc} (hw : cMW s A v a b K0 F G H locs) {ls : Array Slot} (hl : lv_has ls 3 [(0, .ref (a 208)), (1, .int x1), (2, .int x2)]) : W p l e R s m args below meth c H locs (xn F - xn K0) (2 * (xn F - xn K0)) Q (F0 m 0 ls []) := by
  have hx := C.1
  have hb := C.2.1
  unfold cb_X8_addFunction_0 at hm
  refine lv_aload_n hx hb dX8_addFunction_0 rfl (lv_at hl 0 rfl) ?_
  refine cg_X8_43 C hw dX8_addFunction_1 ?_
  refine lv_sipush (v := 450) hx hb dX8_addFunction_4 (by decide) ?_
  refine lv_icmp_ge (tgt := 96) hx hb dX8_addFunction_7 (by decide) (fun c_1 => ?_) (fun c_1 => ?_)
  · have hm := (if_pos c_1).symm.trans hm
    exact cw_X8_addFunction_96 fu C hret F G hm hw (lv_sub hl [] rfl)
  · have hm := (if_neg c_1).symm.trans hm
    exact cw_X8_addFunction_10 fu C hret x1 x2 F G hm hw (lv_sub hl [0, 1, 2] rfl)
theorem cn_X8_addFunction (fu : Nat) (x1 : Int32) (x2 : Int32) (F : PF) (G : PG) (q : Int32 × PF × PG) (hm : cf_X8_addFunction fu x1 x2 F G = some q) : xn F ≤ xn q.2.1 := cn_X8_addFunction_0 fu x1 x2 F G hm
theorem ck_X8_addFunction (l : Launch) (v : EV) (a : Nat → Nat) (b sz : Nat) (fu : Nat) (x1 : Int32) (x2 : Int32) (F : PF) (G : PG) (r : Int32) (F1 : PF) (G1 : PG) (hm : cf_X8_addFunction fu x1 x2 F G = some (r, F1, G1)) : cMV l yX8_addFunction cX8_addFunction 3 1 20 v a b sz [.ref (a 208), .int x1, .int x2] F G F1 G1 := cMV.of (by decide) (Nat.le_of_ble_eq_true rfl) (fun p e R s m args below meth c Q A H locs ls C hw hl hret => cw_X8_addFunction_0 fu (res := (r, F1, G1)) C hret x1 x2 F G hm hw hl)
def cb_X5_enter_10 (fu : Nat) (F : PF) (G : PG) : PR := some (0, F, G)
def cb_X5_enter_0 (fu : Nat) (F : PF) (G : PG) : PR := cb_X5_enter_10 fu (fup F 42 ((F 42) + (1 : Int32))) G
def cf_X5_enter (fu : Nat) (F : PF) (G : PG) : PR := cb_X5_enter_0 fu F G
theorem cn_X5_enter_10 (fu : Nat) {res : Int32 × PF × PG} (F : PF) (G : PG) (hm : cb_X5_enter_10 fu F G = some res) : xn F ≤ xn res.2.1 := by
  unfold cb_X5_enter_10 at hm
  obtain rfl := Option.some.inj hm
  exact Nat.le_refl _
theorem cw_X5_enter_10 (fu : Nat) {res : Int32 × PF × PG} (C : cMC p R s m args c A v RX5 cX5_enter 1 0 0 (xn res.2.1 - xn K0)) (hret : ∀ (b1 : Nat) (H1 : Heap) (locs1 : List Loc) (ls1 : Array Slot) (pc : Nat), cMW s A v a b1 K0 res.2.1 res.2.2 H1 locs1 → decode cX5_enter pc = .ok (.return_, 1) → W p l e R s m args below meth c H1 locs1 (xn res.2.1 - xn K0) (2 * (xn res.2.1 - xn K0)) Q (F0 m pc ls1 [])) (F : PF) (G : PG) (hm : cb_X5_enter_10 fu F G = some res) {b : Nat} {H : Heap} {locs : List Loc} (hw : cMW s A v a b K0 F G H locs) {ls : Array Slot} (hl : lv_has ls 1 []) : W p l e R s m args below meth c H locs (xn F - xn K0) (2 * (xn F - xn K0)) Q (F0 m 10 ls []) := by
  have hx := C.1
  have hb := C.2.1
  unfold cb_X5_enter_10 at hm
  obtain rfl := Option.some.inj hm
  exact hret _ _ _ _ _ hw dX5_enter_10
theorem cn_X5_enter_0 (fu : Nat) {res : Int32 × PF × PG} (F : PF) (G : PG) (hm : cb_X5_enter_0 fu F G = some res) : xn F ≤ xn res.2.1 := by
  unfold cb_X5_enter_0 at hm
  exact Nat.le_trans (Nat.le_of_eq (xn_fup (by decide)).symm) (cn_X5_enter_10 fu (fup F 42 ((F 42) + (1 : Int32))) G hm)
theorem cw_X5_enter_0 (fu : Nat) {res : Int32 × PF × PG} (C : cMC p R s m args c A v RX5 cX5_enter 1 0 0 (xn res.2.1 - xn K0)) (hret : ∀ (b1 : Nat) (H1 : Heap) (locs1 : List Loc) (ls1 : Array Slot) (pc : Nat), cMW s A v a b1 K0 res.2.1 res.2.2 H1 locs1 → decode cX5_enter pc = .ok (.return_, 1) → W p l e R s m args below meth c H1 locs1 (xn res.2.1 - xn K0) (2 * (xn res.2.1 - xn K0)) Q (F0 m pc ls1 [])) (F : PF) (G : PG) (hm : cb_X5_enter_0 fu F G = some res) {b : Nat} {H : Heap} {locs : List Loc} (hw : cMW s A v a b K0 F G H locs) {ls : Array Slot} (hl : lv_has ls 1 [(0, .ref (a 205))]) : W p l e R s m args below meth c H locs (xn F - xn K0) (2 * (xn F - xn K0)) Q (F0 m 0 ls []) := by
  have hx := C.1
  have hb := C.2.1
  unfold cb_X5_enter_0 at hm
  refine lv_aload_n hx hb dX5_enter_0 rfl (lv_at hl 0 rfl) ?_
  refine lv_dup hx hb dX5_enter_1 rfl ?_
  refine cg_X5_44 C hw dX5_enter_2 ?_
  refine lv_iconst (v := 1) hx hb dX5_enter_5 (by decide) ?_
  refine lv_iadd hx hb dX5_enter_6 ?_
  refine cp_X5_44 C hw dX5_enter_7 (fun H locs hw => ?_)
  exact cw_X5_enter_10 fu C hret (fup F 42 ((F 42) + (1 : Int32))) G hm hw (lv_sub hl [] rfl)
theorem cn_X5_enter (fu : Nat) (F : PF) (G : PG) (q : Int32 × PF × PG) (hm : cf_X5_enter fu F G = some q) : xn F ≤ xn q.2.1 := cn_X5_enter_0 fu F G hm
theorem ck_X5_enter (l : Launch) (v : EV) (a : Nat → Nat) (b sz : Nat) (fu : Nat) (F : PF) (G : PG) (r : Int32) (F1 : PF) (G1 : PG) (hm : cf_X5_enter fu F G = some (r, F1, G1)) : cMV l yX5_enter cX5_enter 1 0 0 v a b sz [.ref (a 205)] F G F1 G1 := cMV.of (by decide) (Nat.le_of_ble_eq_true rfl) (fun p e R s m args below meth c Q A H locs ls C hw hl hret => cw_X5_enter_0 fu (res := (r, F1, G1)) C hret F G hm hw hl)
def cb_X5_enterFunction_19 (fu : Nat) (F : PF) (G : PG) : PR := some (0, F, G)
def cb_X5_enterFunction_15 (fu : Nat) (F : PF) (G : PG) : PR := (cf_X5_enter fu F G).bind (fun q => cb_X5_enterFunction_19 fu q.2.1 q.2.2)
def cb_X5_enterFunction_10 (fu : Nat) (F : PF) (G : PG) : PR := cb_X5_enterFunction_15 fu (fup F 50 (0 : Int32)) G
def cb_X5_enterFunction_5 (fu : Nat) (F : PF) (G : PG) : PR := cb_X5_enterFunction_10 fu (fup F 49 (0 : Int32)) G
def cb_X5_enterFunction_0 (fu : Nat) (x1 : Int32) (F : PF) (G : PG) : PR := if b01 x1 = true then (cb_X5_enterFunction_5 fu (fup F 48 x1) G) else none
def cf_X5_enterFunction (fu : Nat) (x1 : Int32) (F : PF) (G : PG) : PR := cb_X5_enterFunction_0 fu x1 F G
theorem cn_X5_enterFunction_19 (fu : Nat) {res : Int32 × PF × PG} (F : PF) (G : PG) (hm : cb_X5_enterFunction_19 fu F G = some res) : xn F ≤ xn res.2.1 := by
  unfold cb_X5_enterFunction_19 at hm
  obtain rfl := Option.some.inj hm
  exact Nat.le_refl _
theorem cw_X5_enterFunction_19 (fu : Nat) {res : Int32 × PF × PG} (C : cMC p R s m args c A v RX5 cX5_enterFunction 2 1 20 (xn res.2.1 - xn K0)) (hret : ∀ (b1 : Nat) (H1 : Heap) (locs1 : List Loc) (ls1 : Array Slot) (pc : Nat), cMW s A v a b1 K0 res.2.1 res.2.2 H1 locs1 → decode cX5_enterFunction pc = .ok (.return_, 1) → W p l e R s m args below meth c H1 locs1 (xn res.2.1 - xn K0) (2 * (xn res.2.1 - xn K0)) Q (F0 m pc ls1 [])) (F : PF) (G : PG) (hm : cb_X5_enterFunction_19 fu F G = some res) {b : Nat} {H : Heap} {locs : List Loc} (hw : cMW s A v a b K0 F G H locs) {ls : Array Slot} (hl : lv_has ls 2 []) : W p l e R s m args below meth c H locs (xn F - xn K0) (2 * (xn F - xn K0)) Q (F0 m 19 ls []) := by
  have hx := C.1
  have hb := C.2.1
  unfold cb_X5_enterFunction_19 at hm
  obtain rfl := Option.some.inj hm
  exact hret _ _ _ _ _ hw dX5_enterFunction_19
theorem cn_X5_enterFunction_15 (fu : Nat) {res : Int32 × PF × PG} (F : PF) (G : PG) (hm : cb_X5_enterFunction_15 fu F G = some res) : xn F ≤ xn res.2.1 := by
  unfold cb_X5_enterFunction_15 at hm
  obtain ⟨⟨r1, F1, G1⟩, hc, hm⟩ := bind_elim hm
  exact Nat.le_trans (cn_X5_enter fu F G _ hc) (cn_X5_enterFunction_19 fu F1 G1 hm)
theorem cw_X5_enterFunction_15 (fu : Nat) {res : Int32 × PF × PG} (C : cMC p R s m args c A v RX5 cX5_enterFunction 2 1 20 (xn res.2.1 - xn K0)) (hret : ∀ (b1 : Nat) (H1 : Heap) (locs1 : List Loc) (ls1 : Array Slot) (pc : Nat), cMW s A v a b1 K0 res.2.1 res.2.2 H1 locs1 → decode cX5_enterFunction pc = .ok (.return_, 1) → W p l e R s m args below meth c H1 locs1 (xn res.2.1 - xn K0) (2 * (xn res.2.1 - xn K0)) Q (F0 m pc ls1 [])) (F : PF) (G : PG) (hm : cb_X5_enterFunction_15 fu F G = some res) {b : Nat} {H : Heap} {locs : List Loc} (hw : cMW s A v a b K0 F G H locs) {ls : Array Slot} (hl : lv_has ls 2 [(0, .ref (a 205))]) : W p l e R s m args below meth c H locs (xn F - xn K0) (2 * (xn F - xn K0)) Q (F0 m 15 ls []) := by
  have hx := C.1
  have hb := C.2.1
  unfold cb_X5_enterFunction_15 at hm
  refine lv_aload_n hx hb dX5_enterFunction_15 rfl (lv_at hl 0 rfl) ?_
  obtain ⟨⟨r1, F1, G1⟩, hc, hm⟩ := bind_elim hm
  refine ccallV (n := 0) (As := []) (rest := []) C hw (ck_X5_enter l v a _ _ fu F G r1 F1 G1 hc) (cn_X5_enter fu F G _ hc) (Nat.sub_le_sub_right (cn_X5_enterFunction_19 fu F1 G1 hm) _) (crecv_X5 C hw) cm_615 cm_616 cm_617 cm_266 cm_618 (by decide +kernel) rfl (by omega) (by omega) hl.1 rfl (Nat.le_of_ble_eq_true rfl) dX5_enterFunction_16 (fun b H locs hw => ?_)
  exact cw_X5_enterFunction_19 fu C hret F1 G1 hm hw (lv_sub hl [] rfl)
theorem cn_X5_enterFunction_10 (fu : Nat) {res : Int32 × PF × PG} (F : PF) (G : PG) (hm : cb_X5_enterFunction_10 fu F G = some res) : xn F ≤ xn res.2.1 := by
  unfold cb_X5_enterFunction_10 at hm
  exact Nat.le_trans (Nat.le_of_eq (xn_fup (by decide)).symm) (cn_X5_enterFunction_15 fu (fup F 50 (0 : Int32)) G hm)
theorem cw_X5_enterFunction_10 (fu : Nat) {res : Int32 × PF × PG} (C : cMC p R s m args c A v RX5 cX5_enterFunction 2 1 20 (xn res.2.1 - xn K0)) (hret : ∀ (b1 : Nat) (H1 : Heap) (locs1 : List Loc) (ls1 : Array Slot) (pc : Nat), cMW s A v a b1 K0 res.2.1 res.2.2 H1 locs1 → decode cX5_enterFunction pc = .ok (.return_, 1) → W p l e R s m args below meth c H1 locs1 (xn res.2.1 - xn K0) (2 * (xn res.2.1 - xn K0)) Q (F0 m pc ls1 [])) (F : PF) (G : PG) (hm : cb_X5_enterFunction_10 fu F G = some res) {b : Nat} {H : Heap} {locs : List Loc} (hw : cMW s A v a b K0 F G H locs) {ls : Array Slot} (hl : lv_has ls 2 [(0, .ref (a 205))]) : W p l e R s m args below meth c H locs (xn F - xn K0) (2 * (xn F - xn K0)) Q (F0 m 10 ls []) := by
  have hx := C.1
  have hb := C.2.1
  unfold cb_X5_enterFunction_10 at hm
  refine lv_aload_n hx hb dX5_enterFunction_10 rfl (lv_at hl 0 rfl) ?_
  refine lv_iconst (v := 0) hx hb dX5_enterFunction_11 (by decide) ?_
  refine cp_X5_96 C hw dX5_enterFunction_12 (fun H locs hw => ?_)
  exact cw_X5_enterFunction_15 fu C hret (fup F 50 (0 : Int32)) G hm hw (lv_sub hl [0] rfl)
theorem cn_X5_enterFunction_5 (fu : Nat) {res : Int32 × PF × PG} (F : PF) (G : PG) (hm : cb_X5_enterFunction_5 fu F G = some res) : xn F ≤ xn res.2.1 := by
  unfold cb_X5_enterFunction_5 at hm
  exact Nat.le_trans (Nat.le_of_eq (xn_fup (by decide)).symm) (cn_X5_enterFunction_10 fu (fup F 49 (0 : Int32)) G hm)
theorem cw_X5_enterFunction_5 (fu : Nat) {res : Int32 × PF × PG} (C : cMC p R s m args c A v RX5 cX5_enterFunction 2 1 20 (xn res.2.1 - xn K0)) (hret : ∀ (b1 : Nat) (H1 : Heap) (locs1 : List Loc) (ls1 : Array Slot) (pc : Nat), cMW s A v a b1 K0 res.2.1 res.2.2 H1 locs1 → decode cX5_enterFunction pc = .ok (.return_, 1) → W p l e R s m args below meth c H1 locs1 (xn res.2.1 - xn K0) (2 * (xn res.2.1 - xn K0)) Q (F0 m pc ls1 [])) (F : PF) (G : PG) (hm : cb_X5_enterFunction_5 fu F G = some res) {b : Nat} {H : Heap} {locs : List Loc} (hw : cMW s A v a b K0 F G H locs) {ls : Array Slot} (hl : lv_has ls 2 [(0, .ref (a 205))]) : W p l e R s m args below meth c H locs (xn F - xn K0) (2 * (xn F - xn K0)) Q (F0 m 5 ls []) := by
  have hx := C.1
  have hb := C.2.1
  unfold cb_X5_enterFunction_5 at hm
  refine lv_aload_n hx hb dX5_enterFunction_5 rfl (lv_at hl 0 rfl) ?_
  refine lv_iconst (v := 0) hx hb dX5_enterFunction_6 (by decide) ?_
  refine cp_X5_93 C hw dX5_enterFunction_7 (fun H locs hw => ?_)
  exact cw_X5_enterFunction_10 fu C hret (fup F 49 (0 : Int32)) G hm hw (lv_sub hl [0] rfl)
theorem cn_X5_enterFunction_0 (fu : Nat) {res : Int32 × PF × PG} (x1 : Int32) (F : PF) (G : PG) (hm : cb_X5_enterFunction_0 fu x1 F G = some res) : xn F ≤ xn res.2.1 := by
  unfold cb_X5_enterFunction_0 at hm
  have hm := (b01_elim hm).2
  exact Nat.le_trans (Nat.le_of_eq (xn_fup (by decide)).symm) (cn_X5_enterFunction_5 fu (fup F 48 x1) G hm)
theorem cw_X5_enterFunction_0 (fu : Nat) {res : Int32 × PF × PG} (C : cMC p R s m args c A v RX5 cX5_enterFunction 2 1 20 (xn res.2.1 - xn K0)) (hret : ∀ (b1 : Nat) (H1 : Heap) (locs1 : List Loc) (ls1 : Array Slot) (pc : Nat), cMW s A v a b1 K0 res.2.1 res.2.2 H1 locs1 → decode cX5_enterFunction pc = .ok (.return_, 1) → W p l e R s m args below meth c H1 locs1 (xn res.2.1 - xn K0) (2 * (xn res.2.1 - xn K0)) Q (F0 m pc ls1 [])) (x1 : Int32) (F : PF) (G : PG) (hm : cb_X5_enterFunction_0 fu x1 F G = some res) {b : Nat} {H : Heap} {locs : List Loc} (hw : cMW s A v a b K0 F G H locs) {ls : Array Slot} (hl : lv_has ls 2 [(0, .ref (a 205)), (1, .int x1)]) : W p l e R s m args below meth c H locs (xn F - xn K0) (2 * (xn F - xn K0)) Q (F0 m 0 ls []) := by
  have hx := C.1
  have hb := C.2.1
  unfold cb_X5_enterFunction_0 at hm
  refine lv_aload_n hx hb dX5_enterFunction_0 rfl (lv_at hl 0 rfl) ?_
  refine lv_iload_n hx hb dX5_enterFunction_1 rfl (lv_at hl 1 rfl) ?_
  obtain ⟨hz, hm⟩ := b01_elim hm
  refine cp_X5_90 C hw hz dX5_enterFunction_2 (fun H locs hw => ?_)
  exact cw_X5_enterFunction_5 fu C hret (fup F 48 x1) G hm hw (lv_sub hl [0] rfl)
theorem cn_X5_enterFunction (fu : Nat) (x1 : Int32) (F : PF) (G : PG) (q : Int32 × PF × PG) (hm : cf_X5_enterFunction fu x1 F G = some q) : xn F ≤ xn q.2.1 := cn_X5_enterFunction_0 fu x1 F G hm
theorem ck_X5_enterFunction (l : Launch) (v : EV) (a : Nat → Nat) (b sz : Nat) (fu : Nat) (x1 : Int32) (F : PF) (G : PG) (r : Int32) (F1 : PF) (G1 : PG) (hm : cf_X5_enterFunction fu x1 F G = some (r, F1, G1)) : cMV l yX5_enterFunction cX5_enterFunction 2 1 20 v a b sz [.ref (a 205), .int x1] F G F1 G1 := cMV.of (by decide) (Nat.le_of_ble_eq_true rfl) (fun p e R s m args below meth c Q A H locs ls C hw hl hret => cw_X5_enterFunction_0 fu (res := (r, F1, G1)) C hret x1 F G hm hw hl)
def cb_X5_tellFunction_46 (fu : Nat) (F : PF) (G : PG) : PR := some (0, F, G)
def cb_X5_tellFunction_39 (fu : Nat) (x2 : Int32) (F : PF) (G : PG) : PR := (cf_X5_note fu 8 x2 F G).bind (fun q => cb_X5_tellFunction_46 fu q.2.1 q.2.2)
def cb_X5_tellFunction_33 (fu : Nat) (x2 : Int32) (x3 : Int32) (F : PF) (G : PG) : PR := if x3 < (40 : Int32) then cb_X5_tellFunction_46 fu F G else cb_X5_tellFunction_39 fu x2 F G
def cb_X5_tellFunction_27 (fu : Nat) (x2 : Int32) (x3 : Int32) (F : PF) (G : PG) : PR := (cf_X5_note fu 1 x2 F G).bind (fun q => cb_X5_tellFunction_33 fu x2 x3 q.2.1 q.2.2)
def cb_X5_tellFunction_23 (fu : Nat) (x2 : Int32) (x3 : Int32) (z0 : Int32) (F : PF) (G : PG) : PR := if z0 = x3 then cb_X5_tellFunction_33 fu x2 x3 F G else cb_X5_tellFunction_27 fu x2 x3 F G
def cb_X5_tellFunction_17 (fu : Nat) (x2 : Int32) (x3 : Int32) (x4 : Int32) (F : PF) (G : PG) : PR := (cf_X5_value fu x4 F G).bind (fun q => cb_X5_tellFunction_23 fu x2 x3 q.1 q.2.1 q.2.2)
def cb_X5_tellFunction_13 (fu : Nat) (x2 : Int32) (x3 : Int32) (x4 : Int32) (z0 : Int32) (F : PF) (G : PG) : PR := if z0 = (4 : Int32) then cb_X5_tellFunction_17 fu x2 x3 x4 F G else cb_X5_tellFunction_27 fu x2 x3 F G
def cb_X5_tellFunction_5 (fu : Nat) (x2 : Int32) (x3 : Int32) (z0 : Int32) (F : PF) (G : PG) : PR := (cf_X5_kind fu z0 F G).bind (fun q => cb_X5_tellFunction_13 fu x2 x3 z0 q.1 q.2.1 q.2.2)
def cb_X5_tellFunction_0 (fu : Nat) (x1 : Int32) (x2 : Int32) (x3 : Int32) (F : PF) (G : PG) : PR := (cf_X5_known fu x1 F G).bind (fun q => cb_X5_tellFunction_5 fu x2 x3 q.1 q.2.1 q.2.2)
def cf_X5_tellFunction (fu : Nat) (x1 : Int32) (x2 : Int32) (x3 : Int32) (F : PF) (G : PG) : PR := cb_X5_tellFunction_0 fu x1 x2 x3 F G
theorem cn_X5_tellFunction_46 (fu : Nat) {res : Int32 × PF × PG} (F : PF) (G : PG) (hm : cb_X5_tellFunction_46 fu F G = some res) : xn F ≤ xn res.2.1 := by
  unfold cb_X5_tellFunction_46 at hm
  obtain rfl := Option.some.inj hm
  exact Nat.le_refl _
theorem cw_X5_tellFunction_46 (fu : Nat) {res : Int32 × PF × PG} (C : cMC p R s m args c A v RX5 cX5_tellFunction 5 1 22 (xn res.2.1 - xn K0)) (hret : ∀ (b1 : Nat) (H1 : Heap) (locs1 : List Loc) (ls1 : Array Slot) (pc : Nat), cMW s A v a b1 K0 res.2.1 res.2.2 H1 locs1 → decode cX5_tellFunction pc = .ok (.return_, 1) → W p l e R s m args below meth c H1 locs1 (xn res.2.1 - xn K0) (2 * (xn res.2.1 - xn K0)) Q (F0 m pc ls1 [])) (F : PF) (G : PG) (hm : cb_X5_tellFunction_46 fu F G = some res) {b : Nat} {H : Heap} {locs : List Loc} (hw : cMW s A v a b K0 F G H locs) {ls : Array Slot} (hl : lv_has ls 5 []) : W p l e R s m args below meth c H locs (xn F - xn K0) (2 * (xn F - xn K0)) Q (F0 m 46 ls []) := by
  have hx := C.1
  have hb := C.2.1
  unfold cb_X5_tellFunction_46 at hm
  obtain rfl := Option.some.inj hm
  exact hret _ _ _ _ _ hw dX5_tellFunction_46
theorem cn_X5_tellFunction_39 (fu : Nat) {res : Int32 × PF × PG} (x2 : Int32) (F : PF) (G : PG) (hm : cb_X5_tellFunction_39 fu x2 F G = some res) : xn F ≤ xn res.2.1 := by
  unfold cb_X5_tellFunction_39 at hm
  obtain ⟨⟨r1, F1, G1⟩, hc, hm⟩ := bind_elim hm
  exact Nat.le_trans (cn_X5_note fu 8 x2 F G _ hc) (cn_X5_tellFunction_46 fu F1 G1 hm)
theorem cw_X5_tellFunction_39 (fu : Nat) {res : Int32 × PF × PG} (C : cMC p R s m args c A v RX5 cX5_tellFunction 5 1 22 (xn res.2.1 - xn K0)) (hret : ∀ (b1 : Nat) (H1 : Heap) (locs1 : List Loc) (ls1 : Array Slot) (pc : Nat), cMW s A v a b1 K0 res.2.1 res.2.2 H1 locs1 → decode cX5_tellFunction pc = .ok (.return_, 1) → W p l e R s m args below meth c H1 locs1 (xn res.2.1 - xn K0) (2 * (xn res.2.1 - xn K0)) Q (F0 m pc ls1 [])) (x2 : Int32) (F : PF) (G : PG) (hm : cb_X5_tellFunction_39 fu x2 F G = some res) {b : Nat} {H : Heap} {locs : List Loc} (hw : cMW s A v a b K0 F G H locs) {ls : Array Slot} (hl : lv_has ls 5 [(0, .ref (a 205)), (2, .int x2)]) : W p l e R s m args below meth c H locs (xn F - xn K0) (2 * (xn F - xn K0)) Q (F0 m 39 ls []) := by
  have hx := C.1
  have hb := C.2.1
  unfold cb_X5_tellFunction_39 at hm
  refine lv_aload_n hx hb dX5_tellFunction_39 rfl (lv_at hl 0 rfl) ?_
  refine lv_bipush (v := 8) hx hb dX5_tellFunction_40 (by decide) ?_
  refine lv_iload_n hx hb dX5_tellFunction_42 rfl (lv_at hl 1 rfl) ?_
  obtain ⟨⟨r1, F1, G1⟩, hc, hm⟩ := bind_elim hm
  refine ccallV (n := 2) (As := [.int 8, .int x2]) (rest := []) C hw (ck_X5_note l v a _ _ fu 8 x2 F G r1 F1 G1 hc) (cn_X5_note fu 8 x2 F G _ hc) (Nat.sub_le_sub_right (cn_X5_tellFunction_46 fu F1 G1 hm) _) (crecv_X5 C hw) cm_424 cm_425 cm_426 cm_266 cm_427 (by decide +kernel) rfl (by omega) (by omega) hl.1 rfl (Nat.le_of_ble_eq_true rfl) dX5_tellFunction_43 (fun b H locs hw => ?_)
  exact cw_X5_tellFunction_46 fu C hret F1 G1 hm hw (lv_sub hl [] rfl)
theorem cn_X5_tellFunction_33 (fu : Nat) {res : Int32 × PF × PG} (x2 : Int32) (x3 : Int32) (F : PF) (G : PG) (hm : cb_X5_tellFunction_33 fu x2 x3 F G = some res) : xn F ≤ xn res.2.1 := by
  unfold cb_X5_tellFunction_33 at hm
  by_cases c_1 : x3 < (40 : Int32)
  · have hm := (if_pos c_1).symm.trans hm
    exact (cn_X5_tellFunction_46 fu F G hm)
  · have hm := (if_neg c_1).symm.trans hm
    exact (cn_X5_tellFunction_39 fu x2 F G hm)
theorem cw_X5_tellFunction_33 (fu : Nat) {res : Int32 × PF × PG} (C : cMC p R s m args c A v RX5 cX5_tellFunction 5 1 22 (xn res.2.1 - xn K0)) (hret : ∀ (b1 : Nat) (H1 : Heap) (locs1 : List Loc) (ls1 : Array Slot) (pc : Nat), cMW s A v a b1 K0 res.2.1 res.2.2 H1 locs1 → decode cX5_tellFunction pc = .ok (.return_, 1) → W p l e R s m args below meth c H1 locs1 (xn res.2.1 - xn K0) (2 * (xn res.2.1 - xn K0)) Q (F0 m pc ls1 [])) (x2 : Int32) (x3 : Int32) (F : PF) (G : PG) (hm : cb_X5_tellFunction_33 fu x2 x3 F G = some res) {b : Nat} {H : Heap} {locs : List Loc} (hw : cMW s A v a b K0 F G H locs) {ls : Array Slot} (hl : lv_has ls 5 [(0, .ref (a 205)), (2, .int x2), (3, .int x3)]) : W p l e R s m args below meth c H locs (xn F - xn K0) (2 * (xn F - xn K0)) Q (F0 m 33 ls []) := by
  have hx := C.1
  have hb := C.2.1
  unfold cb_X5_tellFunction_33 at hm
  refine lv_iload_n hx hb dX5_tellFunction_33 rfl (lv_at hl 2 rfl) ?_
  refine lv_bipush (v := 40) hx hb dX5_tellFunction_34 (by decide) ?_
  refine lv_icmp_lt (tgt := 46) hx hb dX5_tellFunction_36 (by decide) (fun c_1 => ?_) (fun c_1 => ?_)
  · have hm := (if_pos c_1).symm.trans hm
    exact cw_X5_tellFunction_46 fu C hret F G hm hw (lv_sub hl [] rfl)
  · have hm := (if_neg c_1).symm.trans hm
    exact cw_X5_tellFunction_39 fu C hret x2 F G hm hw (lv_sub hl [0, 1] rfl)
theorem cn_X5_tellFunction_27 (fu : Nat) {res : Int32 × PF × PG} (x2 : Int32) (x3 : Int32) (F : PF) (G : PG) (hm : cb_X5_tellFunction_27 fu x2 x3 F G = some res) : xn F ≤ xn res.2.1 := by
  unfold cb_X5_tellFunction_27 at hm
  obtain ⟨⟨r1, F1, G1⟩, hc, hm⟩ := bind_elim hm
  exact Nat.le_trans (cn_X5_note fu 1 x2 F G _ hc) (cn_X5_tellFunction_33 fu x2 x3 F1 G1 hm)
theorem cw_X5_tellFunction_27 (fu : Nat) {res : Int32 × PF × PG} (C : cMC p R s m args c A v RX5 cX5_tellFunction 5 1 22 (xn res.2.1 - xn K0)) (hret : ∀ (b1 : Nat) (H1 : Heap) (locs1 : List Loc) (ls1 : Array Slot) (pc : Nat), cMW s A v a b1 K0 res.2.1 res.2.2 H1 locs1 → decode cX5_tellFunction pc = .ok (.return_, 1) → W p l e R s m args below meth c H1 locs1 (xn res.2.1 - xn K0) (2 * (xn res.2.1 - xn K0)) Q (F0 m pc ls1 [])) (x2 : Int32) (x3 : Int32) (F : PF) (G : PG) (hm : cb_X5_tellFunction_27 fu x2 x3 F G = some res) {b : Nat} {H : Heap} {locs : List Loc} (hw : cMW s A v a b K0 F G H locs) {ls : Array Slot} (hl : lv_has ls 5 [(0, .ref (a 205)), (2, .int x2), (3, .int x3)]) : W p l e R s m args below meth c H locs (xn F - xn K0) (2 * (xn F - xn K0)) Q (F0 m 27 ls []) := by
  have hx := C.1
  have hb := C.2.1
  unfold cb_X5_tellFunction_27 at hm
  refine lv_aload_n hx hb dX5_tellFunction_27 rfl (lv_at hl 0 rfl) ?_
  refine lv_iconst (v := 1) hx hb dX5_tellFunction_28 (by decide) ?_
  refine lv_iload_n hx hb dX5_tellFunction_29 rfl (lv_at hl 1 rfl) ?_
  obtain ⟨⟨r1, F1, G1⟩, hc, hm⟩ := bind_elim hm
  refine ccallV (n := 2) (As := [.int 1, .int x2]) (rest := []) C hw (ck_X5_note l v a _ _ fu 1 x2 F G r1 F1 G1 hc) (cn_X5_note fu 1 x2 F G _ hc) (Nat.sub_le_sub_right (cn_X5_tellFunction_33 fu x2 x3 F1 G1 hm) _) (crecv_X5 C hw) cm_424 cm_425 cm_426 cm_266 cm_427 (by decide +kernel) rfl (by omega) (by omega) hl.1 rfl (Nat.le_of_ble_eq_true rfl) dX5_tellFunction_30 (fun b H locs hw => ?_)
  exact cw_X5_tellFunction_33 fu C hret x2 x3 F1 G1 hm hw (lv_sub hl [0, 1, 2] rfl)
theorem cn_X5_tellFunction_23 (fu : Nat) {res : Int32 × PF × PG} (x2 : Int32) (x3 : Int32) (z0 : Int32) (F : PF) (G : PG) (hm : cb_X5_tellFunction_23 fu x2 x3 z0 F G = some res) : xn F ≤ xn res.2.1 := by
  unfold cb_X5_tellFunction_23 at hm
  by_cases c_1 : z0 = x3
  · have hm := (if_pos c_1).symm.trans hm
    exact (cn_X5_tellFunction_33 fu x2 x3 F G hm)
  · have hm := (if_neg c_1).symm.trans hm
    exact (cn_X5_tellFunction_27 fu x2 x3 F G hm)
theorem cw_X5_tellFunction_23 (fu : Nat) {res : Int32 × PF × PG} (C : cMC p R s m args c A v RX5 cX5_tellFunction 5 1 22 (xn res.2.1 - xn K0)) (hret : ∀ (b1 : Nat) (H1 : Heap) (locs1 : List Loc) (ls1 : Array Slot) (pc : Nat), cMW s A v a b1 K0 res.2.1 res.2.2 H1 locs1 → decode cX5_tellFunction pc = .ok (.return_, 1) → W p l e R s m args below meth c H1 locs1 (xn res.2.1 - xn K0) (2 * (xn res.2.1 - xn K0)) Q (F0 m pc ls1 [])) (x2 : Int32) (x3 : Int32) (z0 : Int32) (F : PF) (G : PG) (hm : cb_X5_tellFunction_23 fu x2 x3 z0 F G = some res) {b : Nat} {H : Heap} {locs : List Loc} (hw : cMW s A v a b K0 F G H locs) {ls : Array Slot} (hl : lv_has ls 5 [(0, .ref (a 205)), (2, .int x2), (3, .int x3)]) : W p l e R s m args below meth c H locs (xn F - xn K0) (2 * (xn F - xn K0)) Q (F0 m 23 ls [.int z0]) := by
  have hx := C.1
  have hb := C.2.1
  unfold cb_X5_tellFunction_23 at hm
  refine lv_iload_n hx hb dX5_tellFunction_23 rfl (lv_at hl 2 rfl) ?_
  refine lv_icmp_eq (tgt := 33) hx hb dX5_tellFunction_24 (by decide) (fun c_1 => ?_) (fun c_1 => ?_)
  · have hm := (if_pos c_1).symm.trans hm
    exact cw_X5_tellFunction_33 fu C hret x2 x3 F G hm hw (lv_sub hl [0, 1, 2] rfl)
  · have hm := (if_neg c_1).symm.trans hm
    exact cw_X5_tellFunction_27 fu C hret x2 x3 F G hm hw (lv_sub hl [0, 1, 2] rfl)
theorem cn_X5_tellFunction_17 (fu : Nat) {res : Int32 × PF × PG} (x2 : Int32) (x3 : Int32) (x4 : Int32) (F : PF) (G : PG) (hm : cb_X5_tellFunction_17 fu x2 x3 x4 F G = some res) : xn F ≤ xn res.2.1 := by
  unfold cb_X5_tellFunction_17 at hm
  obtain ⟨⟨r1, F1, G1⟩, hc, hm⟩ := bind_elim hm
  exact Nat.le_trans (cn_X5_value fu x4 F G _ hc) (cn_X5_tellFunction_23 fu x2 x3 r1 F1 G1 hm)
theorem cw_X5_tellFunction_17 (fu : Nat) {res : Int32 × PF × PG} (C : cMC p R s m args c A v RX5 cX5_tellFunction 5 1 22 (xn res.2.1 - xn K0)) (hret : ∀ (b1 : Nat) (H1 : Heap) (locs1 : List Loc) (ls1 : Array Slot) (pc : Nat), cMW s A v a b1 K0 res.2.1 res.2.2 H1 locs1 → decode cX5_tellFunction pc = .ok (.return_, 1) → W p l e R s m args below meth c H1 locs1 (xn res.2.1 - xn K0) (2 * (xn res.2.1 - xn K0)) Q (F0 m pc ls1 [])) (x2 : Int32) (x3 : Int32) (x4 : Int32) (F : PF) (G : PG) (hm : cb_X5_tellFunction_17 fu x2 x3 x4 F G = some res) {b : Nat} {H : Heap} {locs : List Loc} (hw : cMW s A v a b K0 F G H locs) {ls : Array Slot} (hl : lv_has ls 5 [(0, .ref (a 205)), (2, .int x2), (3, .int x3), (4, .int x4)]) : W p l e R s m args below meth c H locs (xn F - xn K0) (2 * (xn F - xn K0)) Q (F0 m 17 ls []) := by
  have hx := C.1
  have hb := C.2.1
  unfold cb_X5_tellFunction_17 at hm
  refine lv_aload_n hx hb dX5_tellFunction_17 rfl (lv_at hl 0 rfl) ?_
  refine lv_iload hx hb dX5_tellFunction_18 (lv_at hl 3 rfl) ?_
  obtain ⟨⟨r1, F1, G1⟩, hc, hm⟩ := bind_elim hm
  refine ccallI (n := 1) (As := [.int x4]) (rest := []) C hw (ck_X5_value l v a _ _ fu x4 F G r1 F1 G1 hc) (cn_X5_value fu x4 F G _ hc) (Nat.sub_le_sub_right (cn_X5_tellFunction_23 fu x2 x3 r1 F1 G1 hm) _) (crecv_X5 C hw) cm_594 cm_393 cm_394 cm_266 cm_395 (by decide +kernel) rfl (by omega) (by omega) hl.1 rfl (Nat.le_of_ble_eq_true rfl) dX5_tellFunction_20 (fun b H locs hw => ?_)
  exact cw_X5_tellFunction_23 fu C hret x2 x3 r1 F1 G1 hm hw (lv_sub hl [0, 1, 2] rfl)
theorem cn_X5_tellFunction_13 (fu : Nat) {res : Int32 × PF × PG} (x2 : Int32) (x3 : Int32) (x4 : Int32) (z0 : Int32) (F : PF) (G : PG) (hm : cb_X5_tellFunction_13 fu x2 x3 x4 z0 F G = some res) : xn F ≤ xn res.2.1 := by
  unfold cb_X5_tellFunction_13 at hm
  by_cases c_1 : z0 = (4 : Int32)
  · have hm := (if_pos c_1).symm.trans hm
    exact (cn_X5_tellFunction_17 fu x2 x3 x4 F G hm)
  · have hm := (if_neg c_1).symm.trans hm
    exact (cn_X5_tellFunction_27 fu x2 x3 F G hm)
theorem cw_X5_tellFunction_13 (fu : Nat) {res : Int32 × PF × PG} (C : cMC p R s m args c A v RX5 cX5_tellFunction 5 1 22 (xn res.2.1 - xn K0)) (hret : ∀ (b1 : Nat) (H1 : Heap) (locs1 : List Loc) (ls1 : Array Slot) (pc : Nat), cMW s A v a b1 K0 res.2.1 res.2.2 H1 locs1 → decode cX5_tellFunction pc = .ok (.return_, 1) → W p l e R s m args below meth c H1 locs1 (xn res.2.1 - xn K0) (2 * (xn res.2.1 - xn K0)) Q (F0 m pc ls1 [])) (x2 : Int32) (x3 : Int32) (x4 : Int32) (z0 : Int32) (F : PF) (G : PG) (hm : cb_X5_tellFunction_13 fu x2 x3 x4 z0 F G = some res) {b : Nat} {H : Heap} {locs : List Loc} (hw : cMW s A v a b K0 F G H locs) {ls : Array Slot} (hl : lv_has ls 5 [(0, .ref (a 205)), (2, .int x2), (3, .int x3), (4, .int x4)]) : W p l e R s m args below meth c H locs (xn F - xn K0) (2 * (xn F - xn K0)) Q (F0 m 13 ls [.int z0]) := by
  have hx := C.1
  have hb := C.2.1
  unfold cb_X5_tellFunction_13 at hm
  refine lv_iconst (v := 4) hx hb dX5_tellFunction_13 (by decide) ?_
  refine lv_icmp_ne (tgt := 27) hx hb dX5_tellFunction_14 (by decide) (fun c_1 => ?_) (fun c_1 => ?_)
  · have hm := (if_neg c_1).symm.trans hm
    exact cw_X5_tellFunction_27 fu C hret x2 x3 F G hm hw (lv_sub hl [0, 1, 2] rfl)
  · have hm := (if_pos c_1).symm.trans hm
    exact cw_X5_tellFunction_17 fu C hret x2 x3 x4 F G hm hw (lv_sub hl [0, 1, 2, 3] rfl)
theorem cn_X5_tellFunction_5 (fu : Nat) {res : Int32 × PF × PG} (x2 : Int32) (x3 : Int32) (z0 : Int32) (F : PF) (G : PG) (hm : cb_X5_tellFunction_5 fu x2 x3 z0 F G = some res) : xn F ≤ xn res.2.1 := by
  unfold cb_X5_tellFunction_5 at hm
  obtain ⟨⟨r1, F1, G1⟩, hc, hm⟩ := bind_elim hm
  exact Nat.le_trans (cn_X5_kind fu z0 F G _ hc) (cn_X5_tellFunction_13 fu x2 x3 z0 r1 F1 G1 hm)
theorem cw_X5_tellFunction_5 (fu : Nat) {res : Int32 × PF × PG} (C : cMC p R s m args c A v RX5 cX5_tellFunction 5 1 22 (xn res.2.1 - xn K0)) (hret : ∀ (b1 : Nat) (H1 : Heap) (locs1 : List Loc) (ls1 : Array Slot) (pc : Nat), cMW s A v a b1 K0 res.2.1 res.2.2 H1 locs1 → decode cX5_tellFunction pc = .ok (.return_, 1) → W p l e R s m args below meth c H1 locs1 (xn res.2.1 - xn K0) (2 * (xn res.2.1 - xn K0)) Q (F0 m pc ls1 [])) (x2 : Int32) (x3 : Int32) (z0 : Int32) (F : PF) (G : PG) (hm : cb_X5_tellFunction_5 fu x2 x3 z0 F G = some res) {b : Nat} {H : Heap} {locs : List Loc} (hw : cMW s A v a b K0 F G H locs) {ls : Array Slot} (hl : lv_has ls 5 [(0, .ref (a 205)), (2, .int x2), (3, .int x3)]) : W p l e R s m args below meth c H locs (xn F - xn K0) (2 * (xn F - xn K0)) Q (F0 m 5 ls [.int z0]) := by
  have hx := C.1
  have hb := C.2.1
  unfold cb_X5_tellFunction_5 at hm
  refine lv_istore (lv' := [(4, .int z0), (0, .ref (a 205)), (2, .int x2), (3, .int x3)]) hx hb dX5_tellFunction_5 hl (by decide) rfl (fun ls hl => ?_)
  refine lv_aload_n hx hb dX5_tellFunction_7 rfl (lv_at hl 1 rfl) ?_
  refine lv_iload hx hb dX5_tellFunction_8 (lv_at hl 0 rfl) ?_
  obtain ⟨⟨r1, F1, G1⟩, hc, hm⟩ := bind_elim hm
  refine ccallI (n := 1) (As := [.int z0]) (rest := []) C hw (ck_X5_kind l v a _ _ fu z0 F G r1 F1 G1 hc) (cn_X5_kind fu z0 F G _ hc) (Nat.sub_le_sub_right (cn_X5_tellFunction_13 fu x2 x3 z0 r1 F1 G1 hm) _) (crecv_X5 C hw) cm_433 cm_388 cm_389 cm_266 cm_390 (by decide +kernel) rfl (by omega) (by omega) hl.1 rfl (Nat.le_of_ble_eq_true rfl) dX5_tellFunction_10 (fun b H locs hw => ?_)
  exact cw_X5_tellFunction_13 fu C hret x2 x3 z0 r1 F1 G1 hm hw (lv_sub hl [1, 2, 3, 0] rfl)
theorem cn_X5_tellFunction_0 (fu : Nat) {res : Int32 × PF × PG} (x1 : Int32) (x2 : Int32) (x3 : Int32) (F : PF) (G : PG) (hm : cb_X5_tellFunction_0 fu x1 x2 x3 F G = some res) : xn F ≤ xn res.2.1 := by
  unfold cb_X5_tellFunction_0 at hm
  obtain ⟨⟨r1, F1, G1⟩, hc, hm⟩ := bind_elim hm
  exact Nat.le_trans (cn_X5_known fu x1 F G _ hc) (cn_X5_tellFunction_5 fu x2 x3 r1 F1 G1 hm)
theorem cw_X5_tellFunction_0 (fu : Nat) {res : Int32 × PF × PG} (C : cMC p R s m args c A v RX5 cX5_tellFunction 5 1 22 (xn res.2.1 - xn K0)) (hret : ∀ (b1 : Nat) (H1 : Heap) (locs1 : List Loc) (ls1 : Array Slot) (pc : Nat), cMW s A v a b1 K0 res.2.1 res.2.2 H1 locs1 → decode cX5_tellFunction pc = .ok (.return_, 1) → W p l e R s m args below meth c H1 locs1 (xn res.2.1 - xn K0) (2 * (xn res.2.1 - xn K0)) Q (F0 m pc ls1 [])) (x1 : Int32) (x2 : Int32) (x3 : Int32) (F : PF) (G : PG) (hm : cb_X5_tellFunction_0 fu x1 x2 x3 F G = some res) {b : Nat} {H : Heap} {locs : List Loc} (hw : cMW s A v a b K0 F G H locs) {ls : Array Slot} (hl : lv_has ls 5 [(0, .ref (a 205)), (1, .int x1), (2, .int x2), (3, .int x3)]) : W p l e R s m args below meth c H locs (xn F - xn K0) (2 * (xn F - xn K0)) Q (F0 m 0 ls []) := by
  have hx := C.1
  have hb := C.2.1
  unfold cb_X5_tellFunction_0 at hm
  refine lv_aload_n hx hb dX5_tellFunction_0 rfl (lv_at hl 0 rfl) ?_
  refine lv_iload_n hx hb dX5_tellFunction_1 rfl (lv_at hl 1 rfl) ?_
  obtain ⟨⟨r1, F1, G1⟩, hc, hm⟩ := bind_elim hm
  refine ccallI (n := 1) (As := [.int x1]) (rest := []) C hw (ck_X5_known l v a _ _ fu x1 F G r1 F1 G1 hc) (cn_X5_known fu x1 F G _ hc) (Nat.sub_le_sub_right (cn_X5_tellFunction_5 fu x2 x3 r1 F1 G1 hm) _) (crecv_X5 C hw) cm_420 cm_421 cm_422 cm_266 cm_423 (by decide +kernel) rfl (by omega) (by omega) hl.1 rfl (Nat.le_of_ble_eq_true rfl) dX5_tellFunction_2 (fun b H locs hw => ?_)
  exact cw_X5_tellFunction_5 fu C hret x2 x3 r1 F1 G1 hm hw (lv_sub hl [0, 2, 3] rfl)
theorem cn_X5_tellFunction (fu : Nat) (x1 : Int32) (x2 : Int32) (x3 : Int32) (F : PF) (G : PG) (q : Int32 × PF × PG) (hm : cf_X5_tellFunction fu x1 x2 x3 F G = some q) : xn F ≤ xn q.2.1 := cn_X5_tellFunction_0 fu x1 x2 x3 F G hm
theorem ck_X5_tellFunction (l : Launch) (v : EV) (a : Nat → Nat) (b sz : Nat) (fu : Nat) (x1 : Int32) (x2 : Int32) (x3 : Int32) (F : PF) (G : PG) (r : Int32) (F1 : PF) (G1 : PG) (hm : cf_X5_tellFunction fu x1 x2 x3 F G = some (r, F1, G1)) : cMV l yX5_tellFunction cX5_tellFunction 5 1 22 v a b sz [.ref (a 205), .int x1, .int x2, .int x3] F G F1 G1 := cMV.of (by decide) (Nat.le_of_ble_eq_true rfl) (fun p e R s m args below meth c Q A H locs ls C hw hl hret => cw_X5_tellFunction_0 fu (res := (r, F1, G1)) C hret x1 x2 x3 F G hm hw hl)
def cb_X5_announce_18 (fu : Nat) (F : PF) (G : PG) : PR := some (0, F, G)
def cb_X5_announce_9 (fu : Nat) (x1 : Int32) (x2 : Int32) (x3 : Int32) (F : PF) (G : PG) : PR := (cf_X5_install fu x1 x2 4 x3 0 F G).bind (fun q => cb_X5_announce_18 fu q.2.1 q.2.2)
def cb_X5_announce_5 (fu : Nat) (x1 : Int32) (x2 : Int32) (x3 : Int32) (z0 : Int32) (F : PF) (G : PG) : PR := if z0 = (-1 : Int32) then cb_X5_announce_9 fu x1 x2 x3 F G else cb_X5_announce_18 fu F G
def cb_X5_announce_0 (fu : Nat) (x1 : Int32) (x2 : Int32) (x3 : Int32) (F : PF) (G : PG) : PR := (cf_X5_known fu x1 F G).bind (fun q => cb_X5_announce_5 fu x1 x2 x3 q.1 q.2.1 q.2.2)
def cf_X5_announce (fu : Nat) (x1 : Int32) (x2 : Int32) (x3 : Int32) (F : PF) (G : PG) : PR := cb_X5_announce_0 fu x1 x2 x3 F G
theorem cn_X5_announce_18 (fu : Nat) {res : Int32 × PF × PG} (F : PF) (G : PG) (hm : cb_X5_announce_18 fu F G = some res) : xn F ≤ xn res.2.1 := by
  unfold cb_X5_announce_18 at hm
  obtain rfl := Option.some.inj hm
  exact Nat.le_refl _
theorem cw_X5_announce_18 (fu : Nat) {res : Int32 × PF × PG} (C : cMC p R s m args c A v RX5 cX5_announce 4 1 25 (xn res.2.1 - xn K0)) (hret : ∀ (b1 : Nat) (H1 : Heap) (locs1 : List Loc) (ls1 : Array Slot) (pc : Nat), cMW s A v a b1 K0 res.2.1 res.2.2 H1 locs1 → decode cX5_announce pc = .ok (.return_, 1) → W p l e R s m args below meth c H1 locs1 (xn res.2.1 - xn K0) (2 * (xn res.2.1 - xn K0)) Q (F0 m pc ls1 [])) (F : PF) (G : PG) (hm : cb_X5_announce_18 fu F G = some res) {b : Nat} {H : Heap} {locs : List Loc} (hw : cMW s A v a b K0 F G H locs) {ls : Array Slot} (hl : lv_has ls 4 []) : W p l e R s m args below meth c H locs (xn F - xn K0) (2 * (xn F - xn K0)) Q (F0 m 18 ls []) := by
  have hx := C.1
  have hb := C.2.1
  unfold cb_X5_announce_18 at hm
  obtain rfl := Option.some.inj hm
  exact hret _ _ _ _ _ hw dX5_announce_18
theorem cn_X5_announce_9 (fu : Nat) {res : Int32 × PF × PG} (x1 : Int32) (x2 : Int32) (x3 : Int32) (F : PF) (G : PG) (hm : cb_X5_announce_9 fu x1 x2 x3 F G = some res) : xn F ≤ xn res.2.1 := by
  unfold cb_X5_announce_9 at hm
  obtain ⟨⟨r1, F1, G1⟩, hc, hm⟩ := bind_elim hm
  exact Nat.le_trans (cn_X5_install fu x1 x2 4 x3 0 F G _ hc) (cn_X5_announce_18 fu F1 G1 hm)
theorem cw_X5_announce_9 (fu : Nat) {res : Int32 × PF × PG} (C : cMC p R s m args c A v RX5 cX5_announce 4 1 25 (xn res.2.1 - xn K0)) (hret : ∀ (b1 : Nat) (H1 : Heap) (locs1 : List Loc) (ls1 : Array Slot) (pc : Nat), cMW s A v a b1 K0 res.2.1 res.2.2 H1 locs1 → decode cX5_announce pc = .ok (.return_, 1) → W p l e R s m args below meth c H1 locs1 (xn res.2.1 - xn K0) (2 * (xn res.2.1 - xn K0)) Q (F0 m pc ls1 [])) (x1 : Int32) (x2 : Int32) (x3 : Int32) (F : PF) (G : PG) (hm : cb_X5_announce_9 fu x1 x2 x3 F G = some res) {b : Nat} {H : Heap} {locs : List Loc} (hw : cMW s A v a b K0 F G H locs) {ls : Array Slot} (hl : lv_has ls 4 [(0, .ref (a 205)), (1, .int x1), (2, .int x2), (3, .int x3)]) : W p l e R s m args below meth c H locs (xn F - xn K0) (2 * (xn F - xn K0)) Q (F0 m 9 ls []) := by
  have hx := C.1
  have hb := C.2.1
  unfold cb_X5_announce_9 at hm
  refine lv_aload_n hx hb dX5_announce_9 rfl (lv_at hl 0 rfl) ?_
  refine lv_iload_n hx hb dX5_announce_10 rfl (lv_at hl 1 rfl) ?_
  refine lv_iload_n hx hb dX5_announce_11 rfl (lv_at hl 2 rfl) ?_
  refine lv_iconst (v := 4) hx hb dX5_announce_12 (by decide) ?_
  refine lv_iload_n hx hb dX5_announce_13 rfl (lv_at hl 3 rfl) ?_
  refine lv_iconst (v := 0) hx hb dX5_announce_14 (by decide) ?_
  obtain ⟨⟨r1, F1, G1⟩, hc, hm⟩ := bind_elim hm
  refine ccallV (n := 5) (As := [.int x1, .int x2, .int 4, .int x3, .int 0]) (rest := []) C hw (ck_X5_install l v a _ _ fu x1 x2 4 x3 0 F G r1 F1 G1 hc) (cn_X5_install fu x1 x2 4 x3 0 F G _ hc) (Nat.sub_le_sub_right (cn_X5_announce_18 fu F1 G1 hm) _) (crecv_X5 C hw) cm_579 cm_580 cm_581 cm_266 cm_582 (by decide +kernel) rfl (by omega) (by omega) hl.1 rfl (Nat.le_of_ble_eq_true rfl) dX5_announce_15 (fun b H locs hw => ?_)
  exact cw_X5_announce_18 fu C hret F1 G1 hm hw (lv_sub hl [] rfl)
theorem cn_X5_announce_5 (fu : Nat) {res : Int32 × PF × PG} (x1 : Int32) (x2 : Int32) (x3 : Int32) (z0 : Int32) (F : PF) (G : PG) (hm : cb_X5_announce_5 fu x1 x2 x3 z0 F G = some res) : xn F ≤ xn res.2.1 := by
  unfold cb_X5_announce_5 at hm
  by_cases c_1 : z0 = (-1 : Int32)
  · have hm := (if_pos c_1).symm.trans hm
    exact (cn_X5_announce_9 fu x1 x2 x3 F G hm)
  · have hm := (if_neg c_1).symm.trans hm
    exact (cn_X5_announce_18 fu F G hm)
theorem cw_X5_announce_5 (fu : Nat) {res : Int32 × PF × PG} (C : cMC p R s m args c A v RX5 cX5_announce 4 1 25 (xn res.2.1 - xn K0)) (hret : ∀ (b1 : Nat) (H1 : Heap) (locs1 : List Loc) (ls1 : Array Slot) (pc : Nat), cMW s A v a b1 K0 res.2.1 res.2.2 H1 locs1 → decode cX5_announce pc = .ok (.return_, 1) → W p l e R s m args below meth c H1 locs1 (xn res.2.1 - xn K0) (2 * (xn res.2.1 - xn K0)) Q (F0 m pc ls1 [])) (x1 : Int32) (x2 : Int32) (x3 : Int32) (z0 : Int32) (F : PF) (G : PG) (hm : cb_X5_announce_5 fu x1 x2 x3 z0 F G = some res) {b : Nat} {H : Heap} {locs : List Loc} (hw : cMW s A v a b K0 F G H locs) {ls : Array Slot} (hl : lv_has ls 4 [(0, .ref (a 205)), (1, .int x1), (2, .int x2), (3, .int x3)]) : W p l e R s m args below meth c H locs (xn F - xn K0) (2 * (xn F - xn K0)) Q (F0 m 5 ls [.int z0]) := by
  have hx := C.1
  have hb := C.2.1
  unfold cb_X5_announce_5 at hm
  refine lv_iconst (v := (-1)) hx hb dX5_announce_5 (by decide) ?_
  refine lv_icmp_ne (tgt := 18) hx hb dX5_announce_6 (by decide) (fun c_1 => ?_) (fun c_1 => ?_)
  · have hm := (if_neg c_1).symm.trans hm
    exact cw_X5_announce_18 fu C hret F G hm hw (lv_sub hl [] rfl)
  · have hm := (if_pos c_1).symm.trans hm
    exact cw_X5_announce_9 fu C hret x1 x2 x3 F G hm hw (lv_sub hl [0, 1, 2, 3] rfl)
theorem cn_X5_announce_0 (fu : Nat) {res : Int32 × PF × PG} (x1 : Int32) (x2 : Int32) (x3 : Int32) (F : PF) (G : PG) (hm : cb_X5_announce_0 fu x1 x2 x3 F G = some res) : xn F ≤ xn res.2.1 := by
  unfold cb_X5_announce_0 at hm
  obtain ⟨⟨r1, F1, G1⟩, hc, hm⟩ := bind_elim hm
  exact Nat.le_trans (cn_X5_known fu x1 F G _ hc) (cn_X5_announce_5 fu x1 x2 x3 r1 F1 G1 hm)
theorem cw_X5_announce_0 (fu : Nat) {res : Int32 × PF × PG} (C : cMC p R s m args c A v RX5 cX5_announce 4 1 25 (xn res.2.1 - xn K0)) (hret : ∀ (b1 : Nat) (H1 : Heap) (locs1 : List Loc) (ls1 : Array Slot) (pc : Nat), cMW s A v a b1 K0 res.2.1 res.2.2 H1 locs1 → decode cX5_announce pc = .ok (.return_, 1) → W p l e R s m args below meth c H1 locs1 (xn res.2.1 - xn K0) (2 * (xn res.2.1 - xn K0)) Q (F0 m pc ls1 [])) (x1 : Int32) (x2 : Int32) (x3 : Int32) (F : PF) (G : PG) (hm : cb_X5_announce_0 fu x1 x2 x3 F G = some res) {b : Nat} {H : Heap} {locs : List Loc} (hw : cMW s A v a b K0 F G H locs) {ls : Array Slot} (hl : lv_has ls 4 [(0, .ref (a 205)), (1, .int x1), (2, .int x2), (3, .int x3)]) : W p l e R s m args below meth c H locs (xn F - xn K0) (2 * (xn F - xn K0)) Q (F0 m 0 ls []) := by
  have hx := C.1
  have hb := C.2.1
  unfold cb_X5_announce_0 at hm
  refine lv_aload_n hx hb dX5_announce_0 rfl (lv_at hl 0 rfl) ?_
  refine lv_iload_n hx hb dX5_announce_1 rfl (lv_at hl 1 rfl) ?_
  obtain ⟨⟨r1, F1, G1⟩, hc, hm⟩ := bind_elim hm
  refine ccallI (n := 1) (As := [.int x1]) (rest := []) C hw (ck_X5_known l v a _ _ fu x1 F G r1 F1 G1 hc) (cn_X5_known fu x1 F G _ hc) (Nat.sub_le_sub_right (cn_X5_announce_5 fu x1 x2 x3 r1 F1 G1 hm) _) (crecv_X5 C hw) cm_420 cm_421 cm_422 cm_266 cm_423 (by decide +kernel) rfl (by omega) (by omega) hl.1 rfl (Nat.le_of_ble_eq_true rfl) dX5_announce_2 (fun b H locs hw => ?_)
  exact cw_X5_announce_5 fu C hret x1 x2 x3 r1 F1 G1 hm hw (lv_sub hl [0, 1, 2, 3] rfl)
theorem cn_X5_announce (fu : Nat) (x1 : Int32) (x2 : Int32) (x3 : Int32) (F : PF) (G : PG) (q : Int32 × PF × PG) (hm : cf_X5_announce fu x1 x2 x3 F G = some q) : xn F ≤ xn q.2.1 := cn_X5_announce_0 fu x1 x2 x3 F G hm
theorem ck_X5_announce (l : Launch) (v : EV) (a : Nat → Nat) (b sz : Nat) (fu : Nat) (x1 : Int32) (x2 : Int32) (x3 : Int32) (F : PF) (G : PG) (r : Int32) (F1 : PF) (G1 : PG) (hm : cf_X5_announce fu x1 x2 x3 F G = some (r, F1, G1)) : cMV l yX5_announce cX5_announce 4 1 25 v a b sz [.ref (a 205), .int x1, .int x2, .int x3] F G F1 G1 := cMV.of (by decide) (Nat.le_of_ble_eq_true rfl) (fun p e R s m args below meth c Q A H locs ls C hw hl hret => cw_X5_announce_0 fu (res := (r, F1, G1)) C hret x1 x2 x3 F G hm hw hl)
def cb_X4_startFunction_119 (fu : Nat) (F : PF) (G : PG) : PR := some (0, F, G)
def cb_X4_startFunction_111 (fu : Nat) (x3 : Int32) (F : PF) (G : PG) : PR := (cf_X5_enterFunction fu x3 F G).bind (fun q => cb_X4_startFunction_119 fu q.2.1 q.2.2)
def cb_X4_startFunction_92 (fu : Nat) (x3 : Int32) (F : PF) (G : PG) : PR := if ixb (F 28) 450 = true then (cb_X4_startFunction_111 fu x3 F (gup G 80 (F 28).toNatClampNeg (F 6))) else none
def cb_X4_startFunction_89 (fu : Nat) (x3 : Int32) (z0 : Int32) (F : PF) (G : PG) : PR := if z0 = (0 : Int32) then cb_X4_startFunction_111 fu x3 F G else cb_X4_startFunction_92 fu x3 F G
def cb_X4_startFunction_78 (fu : Nat) (x3 : Int32) (F : PF) (G : PG) : PR := (cf_X8_has fu (F 28) F G).bind (fun q => cb_X4_startFunction_89 fu x3 q.1 q.2.1 q.2.2)
def cb_X4_startFunction_67 (fu : Nat) (x3 : Int32) (F : PF) (G : PG) : PR := cb_X4_startFunction_78 fu x3 (fup F 76 (F 28)) G
def cb_X4_startFunction_56 (fu : Nat) (x3 : Int32) (F : PF) (G : PG) : PR := if (F 76) = (-1 : Int32) then cb_X4_startFunction_67 fu x3 F G else cb_X4_startFunction_78 fu x3 F G
def cb_X4_startFunction_48 (fu : Nat) (x1 : Int32) (x3 : Int32) (F : PF) (G : PG) : PR := if x1 = (F 27) then cb_X4_startFunction_56 fu x3 F G else cb_X4_startFunction_78 fu x3 F G
def cb_X4_startFunction_35 (fu : Nat) (x1 : Int32) (x2 : Int32) (x3 : Int32) (F : PF) (G : PG) : PR := (cf_X5_announce fu x1 x2 (F 28) F G).bind (fun q => cb_X4_startFunction_48 fu x1 x3 q.2.1 q.2.2)
def cb_X4_startFunction_26 (fu : Nat) (x1 : Int32) (x2 : Int32) (x3 : Int32) (F : PF) (G : PG) : PR := (cf_X8_addFunction fu x2 x3 F G).bind (fun q => cb_X4_startFunction_35 fu x1 x2 x3 q.2.1 q.2.2)
def cb_X4_startFunction_23 (fu : Nat) (x3 : Int32) (F : PF) (G : PG) : PR := cb_X4_startFunction_78 fu x3 F G
def cb_X4_startFunction_10 (fu : Nat) (x1 : Int32) (x2 : Int32) (x3 : Int32) (F : PF) (G : PG) : PR := (cf_X5_tellFunction fu x1 x2 (F 28) F G).bind (fun q => cb_X4_startFunction_23 fu x3 q.2.1 q.2.2)
def cb_X4_startFunction_0 (fu : Nat) (x1 : Int32) (x2 : Int32) (x3 : Int32) (F : PF) (G : PG) : PR := if (F 45) = (0 : Int32) then cb_X4_startFunction_26 fu x1 x2 x3 F G else cb_X4_startFunction_10 fu x1 x2 x3 F G
def cf_X4_startFunction (fu : Nat) (x1 : Int32) (x2 : Int32) (x3 : Int32) (F : PF) (G : PG) : PR := cb_X4_startFunction_0 fu x1 x2 x3 F G
theorem cn_X4_startFunction_119 (fu : Nat) {res : Int32 × PF × PG} (F : PF) (G : PG) (hm : cb_X4_startFunction_119 fu F G = some res) : xn F ≤ xn res.2.1 := by
  unfold cb_X4_startFunction_119 at hm
  obtain rfl := Option.some.inj hm
  exact Nat.le_refl _
theorem cw_X4_startFunction_119 (fu : Nat) {res : Int32 × PF × PG} (C : cMC p R s m args c A v RX4 cX4_startFunction 4 2 48 (xn res.2.1 - xn K0)) (hret : ∀ (b1 : Nat) (H1 : Heap) (locs1 : List Loc) (ls1 : Array Slot) (pc : Nat), cMW s A v a b1 K0 res.2.1 res.2.2 H1 locs1 → decode cX4_startFunction pc = .ok (.return_, 1) → W p l e R s m args below meth c H1 locs1 (xn res.2.1 - xn K0) (2 * (xn res.2.1 - xn K0)) Q (F0 m pc ls1 [])) (F : PF) (G : PG) (hm : cb_X4_startFunction_119 fu F G = some res) {b : Nat} {H : Heap} {locs : List Loc} (hw : cMW s A v a b K0 F G H locs) {ls : Array Slot} (hl : lv_has ls 4 []) : W p l e R s m args below meth c H locs (xn F - xn K0) (2 * (xn F - xn K0)) Q (F0 m 119 ls []) := by
  have hx := C.1
  have hb := C.2.1
  unfold cb_X4_startFunction_119 at hm
  obtain rfl := Option.some.inj hm
  exact hret _ _ _ _ _ hw dX4_startFunction_119
theorem cn_X4_startFunction_111 (fu : Nat) {res : Int32 × PF × PG} (x3 : Int32) (F : PF) (G : PG) (hm : cb_X4_startFunction_111 fu x3 F G = some res) : xn F ≤ xn res.2.1 := by
  unfold cb_X4_startFunction_111 at hm
  obtain ⟨⟨r1, F1, G1⟩, hc, hm⟩ := bind_elim hm
  exact Nat.le_trans (cn_X5_enterFunction fu x3 F G _ hc) (cn_X4_startFunction_119 fu F1 G1 hm)
theorem cw_X4_startFunction_111 (fu : Nat) {res : Int32 × PF × PG} (C : cMC p R s m args c A v RX4 cX4_startFunction 4 2 48 (xn res.2.1 - xn K0)) (hret : ∀ (b1 : Nat) (H1 : Heap) (locs1 : List Loc) (ls1 : Array Slot) (pc : Nat), cMW s A v a b1 K0 res.2.1 res.2.2 H1 locs1 → decode cX4_startFunction pc = .ok (.return_, 1) → W p l e R s m args below meth c H1 locs1 (xn res.2.1 - xn K0) (2 * (xn res.2.1 - xn K0)) Q (F0 m pc ls1 [])) (x3 : Int32) (F : PF) (G : PG) (hm : cb_X4_startFunction_111 fu x3 F G = some res) {b : Nat} {H : Heap} {locs : List Loc} (hw : cMW s A v a b K0 F G H locs) {ls : Array Slot} (hl : lv_has ls 4 [(0, .ref (a 204)), (3, .int x3)]) : W p l e R s m args below meth c H locs (xn F - xn K0) (2 * (xn F - xn K0)) Q (F0 m 111 ls []) := by
  have hx := C.1
  have hb := C.2.1
  unfold cb_X4_startFunction_111 at hm
  refine lv_aload_n hx hb dX4_startFunction_111 rfl (lv_at hl 0 rfl) ?_
  refine cg_X4_15 C hw dX4_startFunction_112 ?_
  refine lv_iload_n hx hb dX4_startFunction_115 rfl (lv_at hl 1 rfl) ?_
  obtain ⟨⟨r1, F1, G1⟩, hc, hm⟩ := bind_elim hm
  refine ccallV (n := 1) (As := [.int x3]) (rest := []) C hw (ck_X5_enterFunction l v a _ _ fu x3 F G r1 F1 G1 hc) (cn_X5_enterFunction fu x3 F G _ hc) (Nat.sub_le_sub_right (cn_X4_startFunction_119 fu F1 G1 hm) _) (crecv_X5 C hw) cm_608 cm_609 cm_610 cm_266 cm_611 (by decide +kernel) rfl (by omega) (by omega) hl.1 rfl (Nat.le_of_ble_eq_true rfl) dX4_startFunction_116 (fun b H locs hw => ?_)
  exact cw_X4_startFunction_119 fu C hret F1 G1 hm hw (lv_sub hl [] rfl)
theorem cn_X4_startFunction_92 (fu : Nat) {res : Int32 × PF × PG} (x3 : Int32) (F : PF) (G : PG) (hm : cb_X4_startFunction_92 fu x3 F G = some res) : xn F ≤ xn res.2.1 := by
  unfold cb_X4_startFunction_92 at hm
  have hm := (ix_elim hm).2
  exact (cn_X4_startFunction_111 fu x3 F (gup G 80 (F 28).toNatClampNeg (F 6)) hm)
theorem cw_X4_startFunction_92 (fu : Nat) {res : Int32 × PF × PG} (C : cMC p R s m args c A v RX4 cX4_startFunction 4 2 48 (xn res.2.1 - xn K0)) (hret : ∀ (b1 : Nat) (H1 : Heap) (locs1 : List Loc) (ls1 : Array Slot) (pc : Nat), cMW s A v a b1 K0 res.2.1 res.2.2 H1 locs1 → decode cX4_startFunction pc = .ok (.return_, 1) → W p l e R s m args below meth c H1 locs1 (xn res.2.1 - xn K0) (2 * (xn res.2.1 - xn K0)) Q (F0 m pc ls1 [])) (x3 : Int32) (F : PF) (G : PG) (hm : cb_X4_startFunction_92 fu x3 F G = some res) {b : Nat} {H : Heap} {locs : List Loc} (hw : cMW s A v a b K0 F G H locs) {ls : Array Slot} (hl : lv_has ls 4 [(0, .ref (a 204)), (3, .int x3)]) : W p l e R s m args below meth c H locs (xn F - xn K0) (2 * (xn F - xn K0)) Q (F0 m 92 ls []) := by
  have hx := C.1
  have hb := C.2.1
  unfold cb_X4_startFunction_92 at hm
  refine lv_aload_n hx hb dX4_startFunction_92 rfl (lv_at hl 0 rfl) ?_
  refine cg_X4_23 C hw dX4_startFunction_93 ?_
  refine cg_X4_184 C hw dX4_startFunction_96 ?_
  refine lv_aload_n hx hb dX4_startFunction_99 rfl (lv_at hl 0 rfl) ?_
  refine cg_X4_113 C hw dX4_startFunction_100 ?_
  refine lv_aload_n hx hb dX4_startFunction_103 rfl (lv_at hl 0 rfl) ?_
  refine cg_X4_19 C hw dX4_startFunction_104 ?_
  refine cg_X4_43 C hw dX4_startFunction_107 ?_
  obtain ⟨hi, hm⟩ := ix_elim hm
  refine cas_80 C hw hi dX4_startFunction_110 (fun H locs hw => ?_)
  exact cw_X4_startFunction_111 fu C hret x3 F (gup G 80 (F 28).toNatClampNeg (F 6)) hm hw (lv_sub hl [0, 1] rfl)
theorem cn_X4_startFunction_89 (fu : Nat) {res : Int32 × PF × PG} (x3 : Int32) (z0 : Int32) (F : PF) (G : PG) (hm : cb_X4_startFunction_89 fu x3 z0 F G = some res) : xn F ≤ xn res.2.1 := by
  unfold cb_X4_startFunction_89 at hm
  by_cases c_1 : z0 = (0 : Int32)
  · have hm := (if_pos c_1).symm.trans hm
    exact (cn_X4_startFunction_111 fu x3 F G hm)
  · have hm := (if_neg c_1).symm.trans hm
    exact (cn_X4_startFunction_92 fu x3 F G hm)
theorem cw_X4_startFunction_89 (fu : Nat) {res : Int32 × PF × PG} (C : cMC p R s m args c A v RX4 cX4_startFunction 4 2 48 (xn res.2.1 - xn K0)) (hret : ∀ (b1 : Nat) (H1 : Heap) (locs1 : List Loc) (ls1 : Array Slot) (pc : Nat), cMW s A v a b1 K0 res.2.1 res.2.2 H1 locs1 → decode cX4_startFunction pc = .ok (.return_, 1) → W p l e R s m args below meth c H1 locs1 (xn res.2.1 - xn K0) (2 * (xn res.2.1 - xn K0)) Q (F0 m pc ls1 [])) (x3 : Int32) (z0 : Int32) (F : PF) (G : PG) (hm : cb_X4_startFunction_89 fu x3 z0 F G = some res) {b : Nat} {H : Heap} {locs : List Loc} (hw : cMW s A v a b K0 F G H locs) {ls : Array Slot} (hl : lv_has ls 4 [(0, .ref (a 204)), (3, .int x3)]) : W p l e R s m args below meth c H locs (xn F - xn K0) (2 * (xn F - xn K0)) Q (F0 m 89 ls [.int z0]) := by
  have hx := C.1
  have hb := C.2.1
  unfold cb_X4_startFunction_89 at hm
  refine lv_if_eq (tgt := 111) hx hb dX4_startFunction_89 (by decide) (fun c_1 => ?_) (fun c_1 => ?_)
  · have hm := (if_pos c_1).symm.trans hm
    exact cw_X4_startFunction_111 fu C hret x3 F G hm hw (lv_sub hl [0, 1] rfl)
  · have hm := (if_neg c_1).symm.trans hm
    exact cw_X4_startFunction_92 fu C hret x3 F G hm hw (lv_sub hl [0, 1] rfl)
theorem cn_X4_startFunction_78 (fu : Nat) {res : Int32 × PF × PG} (x3 : Int32) (F : PF) (G : PG) (hm : cb_X4_startFunction_78 fu x3 F G = some res) : xn F ≤ xn res.2.1 := by
  unfold cb_X4_startFunction_78 at hm
  obtain ⟨⟨r1, F1, G1⟩, hc, hm⟩ := bind_elim hm
  exact Nat.le_trans (cn_X8_has fu (F 28) F G _ hc) (cn_X4_startFunction_89 fu x3 r1 F1 G1 hm)
theorem cw_X4_startFunction_78 (fu : Nat) {res : Int32 × PF × PG} (C : cMC p R s m args c A v RX4 cX4_startFunction 4 2 48 (xn res.2.1 - xn K0)) (hret : ∀ (b1 : Nat) (H1 : Heap) (locs1 : List Loc) (ls1 : Array Slot) (pc : Nat), cMW s A v a b1 K0 res.2.1 res.2.2 H1 locs1 → decode cX4_startFunction pc = .ok (.return_, 1) → W p l e R s m args below meth c H1 locs1 (xn res.2.1 - xn K0) (2 * (xn res.2.1 - xn K0)) Q (F0 m pc ls1 [])) (x3 : Int32) (F : PF) (G : PG) (hm : cb_X4_startFunction_78 fu x3 F G = some res) {b : Nat} {H : Heap} {locs : List Loc} (hw : cMW s A v a b K0 F G H locs) {ls : Array Slot} (hl : lv_has ls 4 [(0, .ref (a 204)), (3, .int x3)]) : W p l e R s m args below meth c H locs (xn F - xn K0) (2 * (xn F - xn K0)) Q (F0 m 78 ls []) := by
  have hx := C.1
  have hb := C.2.1
  unfold cb_X4_startFunction_78 at hm
  refine lv_aload_n hx hb dX4_startFunction_78 rfl (lv_at hl 0 rfl) ?_
  refine cg_X4_23 C hw dX4_startFunction_79 ?_
  refine lv_aload_n hx hb dX4_startFunction_82 rfl (lv_at hl 0 rfl) ?_
  refine cg_X4_113 C hw dX4_startFunction_83 ?_
  obtain ⟨⟨r1, F1, G1⟩, hc, hm⟩ := bind_elim hm
  refine ccallI (n := 1) (As := [.int (F 28)]) (rest := []) C hw (ck_X8_has l v a _ _ fu (F 28) F G r1 F1 G1 hc) (cn_X8_has fu (F 28) F G _ hc) (Nat.sub_le_sub_right (cn_X4_startFunction_89 fu x3 r1 F1 G1 hm) _) (crecv_X8 C hw) cm_607 cm_405 cm_406 cm_254 cm_407 (by decide +kernel) rfl (by omega) (by omega) hl.1 rfl (Nat.le_of_ble_eq_true rfl) dX4_startFunction_86 (fun b H locs hw => ?_)
  exact cw_X4_startFunction_89 fu C hret x3 r1 F1 G1 hm hw (lv_sub hl [0, 1] rfl)
theorem cn_X4_startFunction_67 (fu : Nat) {res : Int32 × PF × PG} (x3 : Int32) (F : PF) (G : PG) (hm : cb_X4_startFunction_67 fu x3 F G = some res) : xn F ≤ xn res.2.1 := by
  unfold cb_X4_startFunction_67 at hm
  exact Nat.le_trans (Nat.le_of_eq (xn_fup (by decide)).symm) (cn_X4_startFunction_78 fu x3 (fup F 76 (F 28)) G hm)
theorem cw_X4_startFunction_67 (fu : Nat) {res : Int32 × PF × PG} (C : cMC p R s m args c A v RX4 cX4_startFunction 4 2 48 (xn res.2.1 - xn K0)) (hret : ∀ (b1 : Nat) (H1 : Heap) (locs1 : List Loc) (ls1 : Array Slot) (pc : Nat), cMW s A v a b1 K0 res.2.1 res.2.2 H1 locs1 → decode cX4_startFunction pc = .ok (.return_, 1) → W p l e R s m args below meth c H1 locs1 (xn res.2.1 - xn K0) (2 * (xn res.2.1 - xn K0)) Q (F0 m pc ls1 [])) (x3 : Int32) (F : PF) (G : PG) (hm : cb_X4_startFunction_67 fu x3 F G = some res) {b : Nat} {H : Heap} {locs : List Loc} (hw : cMW s A v a b K0 F G H locs) {ls : Array Slot} (hl : lv_has ls 4 [(0, .ref (a 204)), (3, .int x3)]) : W p l e R s m args below meth c H locs (xn F - xn K0) (2 * (xn F - xn K0)) Q (F0 m 67 ls []) := by
  have hx := C.1
  have hb := C.2.1
  unfold cb_X4_startFunction_67 at hm
  refine lv_aload_n hx hb dX4_startFunction_67 rfl (lv_at hl 0 rfl) ?_
  refine cg_X4_23 C hw dX4_startFunction_68 ?_
  refine lv_aload_n hx hb dX4_startFunction_71 rfl (lv_at hl 0 rfl) ?_
  refine cg_X4_113 C hw dX4_startFunction_72 ?_
  refine cp_X4_101 C hw dX4_startFunction_75 (fun H locs hw => ?_)
  exact cw_X4_startFunction_78 fu C hret x3 (fup F 76 (F 28)) G hm hw (lv_sub hl [0, 1] rfl)
theorem cn_X4_startFunction_56 (fu : Nat) {res : Int32 × PF × PG} (x3 : Int32) (F : PF) (G : PG) (hm : cb_X4_startFunction_56 fu x3 F G = some res) : xn F ≤ xn res.2.1 := by
  unfold cb_X4_startFunction_56 at hm
  by_cases c_1 : (F 76) = (-1 : Int32)
  · have hm := (if_pos c_1).symm.trans hm
    exact (cn_X4_startFunction_67 fu x3 F G hm)
  · have hm := (if_neg c_1).symm.trans hm
    exact (cn_X4_startFunction_78 fu x3 F G hm)
theorem cw_X4_startFunction_56 (fu : Nat) {res : Int32 × PF × PG} (C : cMC p R s m args c A v RX4 cX4_startFunction 4 2 48 (xn res.2.1 - xn K0)) (hret : ∀ (b1 : Nat) (H1 : Heap) (locs1 : List Loc) (ls1 : Array Slot) (pc : Nat), cMW s A v a b1 K0 res.2.1 res.2.2 H1 locs1 → decode cX4_startFunction pc = .ok (.return_, 1) → W p l e R s m args below meth c H1 locs1 (xn res.2.1 - xn K0) (2 * (xn res.2.1 - xn K0)) Q (F0 m pc ls1 [])) (x3 : Int32) (F : PF) (G : PG) (hm : cb_X4_startFunction_56 fu x3 F G = some res) {b : Nat} {H : Heap} {locs : List Loc} (hw : cMW s A v a b K0 F G H locs) {ls : Array Slot} (hl : lv_has ls 4 [(0, .ref (a 204)), (3, .int x3)]) : W p l e R s m args below meth c H locs (xn F - xn K0) (2 * (xn F - xn K0)) Q (F0 m 56 ls []) := by
  have hx := C.1
  have hb := C.2.1
  unfold cb_X4_startFunction_56 at hm
  refine lv_aload_n hx hb dX4_startFunction_56 rfl (lv_at hl 0 rfl) ?_
  refine cg_X4_23 C hw dX4_startFunction_57 ?_
  refine cg_X4_101 C hw dX4_startFunction_60 ?_
  refine lv_iconst (v := (-1)) hx hb dX4_startFunction_63 (by decide) ?_
  refine lv_icmp_ne (tgt := 78) hx hb dX4_startFunction_64 (by decide) (fun c_1 => ?_) (fun c_1 => ?_)
  · have hm := (if_neg c_1).symm.trans hm
    exact cw_X4_startFunction_78 fu C hret x3 F G hm hw (lv_sub hl [0, 1] rfl)
  · have hm := (if_pos c_1).symm.trans hm
    exact cw_X4_startFunction_67 fu C hret x3 F G hm hw (lv_sub hl [0, 1] rfl)
theorem cn_X4_startFunction_48 (fu : Nat) {res : Int32 × PF × PG} (x1 : Int32) (x3 : Int32) (F : PF) (G : PG) (hm : cb_X4_startFunction_48 fu x1 x3 F G = some res) : xn F ≤ xn res.2.1 := by
  unfold cb_X4_startFunction_48 at hm
  by_cases c_1 : x1 = (F 27)
  · have hm := (if_pos c_1).symm.trans hm
    exact (cn_X4_startFunction_56 fu x3 F G hm)
  · have hm := (if_neg c_1).symm.trans hm
    exact (cn_X4_startFunction_78 fu x3 F G hm)
theorem cw_X4_startFunction_48 (fu : Nat) {res : Int32 × PF × PG} (C : cMC p R s m args c A v RX4 cX4_startFunction 4 2 48 (xn res.2.1 - xn K0)) (hret : ∀ (b1 : Nat) (H1 : Heap) (locs1 : List Loc) (ls1 : Array Slot) (pc : Nat), cMW s A v a b1 K0 res.2.1 res.2.2 H1 locs1 → decode cX4_startFunction pc = .ok (.return_, 1) → W p l e R s m args below meth c H1 locs1 (xn res.2.1 - xn K0) (2 * (xn res.2.1 - xn K0)) Q (F0 m pc ls1 [])) (x1 : Int32) (x3 : Int32) (F : PF) (G : PG) (hm : cb_X4_startFunction_48 fu x1 x3 F G = some res) {b : Nat} {H : Heap} {locs : List Loc} (hw : cMW s A v a b K0 F G H locs) {ls : Array Slot} (hl : lv_has ls 4 [(0, .ref (a 204)), (1, .int x1), (3, .int x3)]) : W p l e R s m args below meth c H locs (xn F - xn K0) (2 * (xn F - xn K0)) Q (F0 m 48 ls []) := by
  have hx := C.1
  have hb := C.2.1
  unfold cb_X4_startFunction_48 at hm
  refine lv_iload_n hx hb dX4_startFunction_48 rfl (lv_at hl 1 rfl) ?_
  refine lv_aload_n hx hb dX4_startFunction_49 rfl (lv_at hl 0 rfl) ?_
  refine cg_X4_31 C hw dX4_startFunction_50 ?_
  refine lv_icmp_ne (tgt := 78) hx hb dX4_startFunction_53 (by decide) (fun c_1 => ?_) (fun c_1 => ?_)
  · have hm := (if_neg c_1).symm.trans hm
    exact cw_X4_startFunction_78 fu C hret x3 F G hm hw (lv_sub hl [0, 2] rfl)
  · have hm := (if_pos c_1).symm.trans hm
    exact cw_X4_startFunction_56 fu C hret x3 F G hm hw (lv_sub hl [0, 2] rfl)
theorem cn_X4_startFunction_35 (fu : Nat) {res : Int32 × PF × PG} (x1 : Int32) (x2 : Int32) (x3 : Int32) (F : PF) (G : PG) (hm : cb_X4_startFunction_35 fu x1 x2 x3 F G = some res) : xn F ≤ xn res.2.1 := by
  unfold cb_X4_startFunction_35 at hm
  obtain ⟨⟨r1, F1, G1⟩, hc, hm⟩ := bind_elim hm
  exact Nat.le_trans (cn_X5_announce fu x1 x2 (F 28) F G _ hc) (cn_X4_startFunction_48 fu x1 x3 F1 G1 hm)
theorem cw_X4_startFunction_35 (fu : Nat) {res : Int32 × PF × PG} (C : cMC p R s m args c A v RX4 cX4_startFunction 4 2 48 (xn res.2.1 - xn K0)) (hret : ∀ (b1 : Nat) (H1 : Heap) (locs1 : List Loc) (ls1 : Array Slot) (pc : Nat), cMW s A v a b1 K0 res.2.1 res.2.2 H1 locs1 → decode cX4_startFunction pc = .ok (.return_, 1) → W p l e R s m args below meth c H1 locs1 (xn res.2.1 - xn K0) (2 * (xn res.2.1 - xn K0)) Q (F0 m pc ls1 [])) (x1 : Int32) (x2 : Int32) (x3 : Int32) (F : PF) (G : PG) (hm : cb_X4_startFunction_35 fu x1 x2 x3 F G = some res) {b : Nat} {H : Heap} {locs : List Loc} (hw : cMW s A v a b K0 F G H locs) {ls : Array Slot} (hl : lv_has ls 4 [(0, .ref (a 204)), (1, .int x1), (2, .int x2), (3, .int x3)]) : W p l e R s m args below meth c H locs (xn F - xn K0) (2 * (xn F - xn K0)) Q (F0 m 35 ls []) := by
  have hx := C.1
  have hb := C.2.1
  unfold cb_X4_startFunction_35 at hm
  refine lv_aload_n hx hb dX4_startFunction_35 rfl (lv_at hl 0 rfl) ?_
  refine cg_X4_15 C hw dX4_startFunction_36 ?_
  refine lv_iload_n hx hb dX4_startFunction_39 rfl (lv_at hl 1 rfl) ?_
  refine lv_iload_n hx hb dX4_startFunction_40 rfl (lv_at hl 2 rfl) ?_
  refine lv_aload_n hx hb dX4_startFunction_41 rfl (lv_at hl 0 rfl) ?_
  refine cg_X4_113 C hw dX4_startFunction_42 ?_
  obtain ⟨⟨r1, F1, G1⟩, hc, hm⟩ := bind_elim hm
  refine ccallV (n := 3) (As := [.int x1, .int x2, .int (F 28)]) (rest := []) C hw (ck_X5_announce l v a _ _ fu x1 x2 (F 28) F G r1 F1 G1 hc) (cn_X5_announce fu x1 x2 (F 28) F G _ hc) (Nat.sub_le_sub_right (cn_X4_startFunction_48 fu x1 x3 F1 G1 hm) _) (crecv_X5 C hw) cm_603 cm_604 cm_605 cm_266 cm_606 (by decide +kernel) rfl (by omega) (by omega) hl.1 rfl (Nat.le_of_ble_eq_true rfl) dX4_startFunction_45 (fun b H locs hw => ?_)
  exact cw_X4_startFunction_48 fu C hret x1 x3 F1 G1 hm hw (lv_sub hl [0, 1, 3] rfl)
theorem cn_X4_startFunction_26 (fu : Nat) {res : Int32 × PF × PG} (x1 : Int32) (x2 : Int32) (x3 : Int32) (F : PF) (G : PG) (hm : cb_X4_startFunction_26 fu x1 x2 x3 F G = some res) : xn F ≤ xn res.2.1 := by
  unfold cb_X4_startFunction_26 at hm
  obtain ⟨⟨r1, F1, G1⟩, hc, hm⟩ := bind_elim hm
  exact Nat.le_trans (cn_X8_addFunction fu x2 x3 F G _ hc) (cn_X4_startFunction_35 fu x1 x2 x3 F1 G1 hm)
theorem cw_X4_startFunction_26 (fu : Nat) {res : Int32 × PF × PG} (C : cMC p R s m args c A v RX4 cX4_startFunction 4 2 48 (xn res.2.1 - xn K0)) (hret : ∀ (b1 : Nat) (H1 : Heap) (locs1 : List Loc) (ls1 : Array Slot) (pc : Nat), cMW s A v a b1 K0 res.2.1 res.2.2 H1 locs1 → decode cX4_startFunction pc = .ok (.return_, 1) → W p l e R s m args below meth c H1 locs1 (xn res.2.1 - xn K0) (2 * (xn res.2.1 - xn K0)) Q (F0 m pc ls1 [])) (x1 : Int32) (x2 : Int32) (x3 : Int32) (F : PF) (G : PG) (hm : cb_X4_startFunction_26 fu x1 x2 x3 F G = some res) {b : Nat} {H : Heap} {locs : List Loc} (hw : cMW s A v a b K0 F G H locs) {ls : Array Slot} (hl : lv_has ls 4 [(0, .ref (a 204)), (1, .int x1), (2, .int x2), (3, .int x3)]) : W p l e R s m args below meth c H locs (xn F - xn K0) (2 * (xn F - xn K0)) Q (F0 m 26 ls []) := by
  have hx := C.1
  have hb := C.2.1
  unfold cb_X4_startFunction_26 at hm
  refine lv_aload_n hx hb dX4_startFunction_26 rfl (lv_at hl 0 rfl) ?_
  refine cg_X4_23 C hw dX4_startFunction_27 ?_
  refine lv_iload_n hx hb dX4_startFunction_30 rfl (lv_at hl 2 rfl) ?_
  refine lv_iload_n hx hb dX4_startFunction_31 rfl (lv_at hl 3 rfl) ?_
  obtain ⟨⟨r1, F1, G1⟩, hc, hm⟩ := bind_elim hm
  refine ccallV (n := 2) (As := [.int x2, .int x3]) (rest := []) C hw (ck_X8_addFunction l v a _ _ fu x2 x3 F G r1 F1 G1 hc) (cn_X8_addFunction fu x2 x3 F G _ hc) (Nat.sub_le_sub_right (cn_X4_startFunction_35 fu x1 x2 x3 F1 G1 hm) _) (crecv_X8 C hw) cm_595 cm_596 cm_597 cm_254 cm_598 (by decide +kernel) rfl (by omega) (by omega) hl.1 rfl (Nat.le_of_ble_eq_true rfl) dX4_startFunction_32 (fun b H locs hw => ?_)
  exact cw_X4_startFunction_35 fu C hret x1 x2 x3 F1 G1 hm hw (lv_sub hl [0, 1, 2, 3] rfl)
theorem cn_X4_startFunction_23 (fu : Nat) {res : Int32 × PF × PG} (x3 : Int32) (F : PF) (G : PG) (hm : cb_X4_startFunction_23 fu x3 F G = some res) : xn F ≤ xn res.2.1 := by
  unfold cb_X4_startFunction_23 at hm
  exact (cn_X4_startFunction_78 fu x3 F G hm)
theorem cw_X4_startFunction_23 (fu : Nat) {res : Int32 × PF × PG} (C : cMC p R s m args c A v RX4 cX4_startFunction 4 2 48 (xn res.2.1 - xn K0)) (hret : ∀ (b1 : Nat) (H1 : Heap) (locs1 : List Loc) (ls1 : Array Slot) (pc : Nat), cMW s A v a b1 K0 res.2.1 res.2.2 H1 locs1 → decode cX4_startFunction pc = .ok (.return_, 1) → W p l e R s m args below meth c H1 locs1 (xn res.2.1 - xn K0) (2 * (xn res.2.1 - xn K0)) Q (F0 m pc ls1 [])) (x3 : Int32) (F : PF) (G : PG) (hm : cb_X4_startFunction_23 fu x3 F G = some res) {b : Nat} {H : Heap} {locs : List Loc} (hw : cMW s A v a b K0 F G H locs) {ls : Array Slot} (hl : lv_has ls 4 [(0, .ref (a 204)), (3, .int x3)]) : W p l e R s m args below meth c H locs (xn F - xn K0) (2 * (xn F - xn K0)) Q (F0 m 23 ls []) := by
  have hx := C.1
  have hb := C.2.1
  unfold cb_X4_startFunction_23 at hm
  refine lv_goto (tgt := 78) hx hb dX4_startFunction_23 (by decide) ?_
  exact cw_X4_startFunction_78 fu C hret x3 F G hm hw (lv_sub hl [0, 1] rfl)
theorem cn_X4_startFunction_10 (fu : Nat) {res : Int32 × PF × PG} (x1 : Int32) (x2 : Int32) (x3 : Int32) (F : PF) (G : PG) (hm : cb_X4_startFunction_10 fu x1 x2 x3 F G = some res) : xn F ≤ xn res.2.1 := by
  unfold cb_X4_startFunction_10 at hm
  obtain ⟨⟨r1, F1, G1⟩, hc, hm⟩ := bind_elim hm
  exact Nat.le_trans (cn_X5_tellFunction fu x1 x2 (F 28) F G _ hc) (cn_X4_startFunction_23 fu x3 F1 G1 hm)
theorem cw_X4_startFunction_10 (fu : Nat) {res : Int32 × PF × PG} (C : cMC p R s m args c A v RX4 cX4_startFunction 4 2 48 (xn res.2.1 - xn K0)) (hret : ∀ (b1 : Nat) (H1 : Heap) (locs1 : List Loc) (ls1 : Array Slot) (pc : Nat), cMW s A v a b1 K0 res.2.1 res.2.2 H1 locs1 → decode cX4_startFunction pc = .ok (.return_, 1) → W p l e R s m args below meth c H1 locs1 (xn res.2.1 - xn K0) (2 * (xn res.2.1 - xn K0)) Q (F0 m pc ls1 [])) (x1 : Int32) (x2 : Int32) (x3 : Int32) (F : PF) (G : PG) (hm : cb_X4_startFunction_10 fu x1 x2 x3 F G = some res) {b : Nat} {H : Heap} {locs : List Loc} (hw : cMW s A v a b K0 F G H locs) {ls : Array Slot} (hl : lv_has ls 4 [(0, .ref (a 204)), (1, .int x1), (2, .int x2), (3, .int x3)]) : W p l e R s m args below meth c H locs (xn F - xn K0) (2 * (xn F - xn K0)) Q (F0 m 10 ls []) := by
  have hx := C.1
  have hb := C.2.1
  unfold cb_X4_startFunction_10 at hm
  refine lv_aload_n hx hb dX4_startFunction_10 rfl (lv_at hl 0 rfl) ?_
  refine cg_X4_15 C hw dX4_startFunction_11 ?_
  refine lv_iload_n hx hb dX4_startFunction_14 rfl (lv_at hl 1 rfl) ?_
  refine lv_iload_n hx hb dX4_startFunction_15 rfl (lv_at hl 2 rfl) ?_
  refine lv_aload_n hx hb dX4_startFunction_16 rfl (lv_at hl 0 rfl) ?_
  refine cg_X4_113 C hw dX4_startFunction_17 ?_
  obtain ⟨⟨r1, F1, G1⟩, hc, hm⟩ := bind_elim hm
  refine ccallV (n := 3) (As := [.int x1, .int x2, .int (F 28)]) (rest := []) C hw (ck_X5_tellFunction l v a _ _ fu x1 x2 (F 28) F G r1 F1 G1 hc) (cn_X5_tellFunction fu x1 x2 (F 28) F G _ hc) (Nat.sub_le_sub_right (cn_X4_startFunction_23 fu x3 F1 G1 hm) _) (crecv_X5 C hw) cm_590 cm_591 cm_592 cm_266 cm_593 (by decide +kernel) rfl (by omega) (by omega) hl.1 rfl (Nat.le_of_ble_eq_true rfl) dX4_startFunction_20 (fun b H locs hw => ?_)
  exact cw_X4_startFunction_23 fu C hret x3 F1 G1 hm hw (lv_sub hl [0, 3] rfl)
theorem cn_X4_startFunction_0 (fu : Nat) {res : Int32 × PF × PG} (x1 : Int32) (x2 : Int32) (x3 : Int32) (F : PF) (G : PG) (hm : cb_X4_startFunction_0 fu x1 x2 x3 F G = some res) : xn F ≤ xn res.2.1 := by
  unfold cb_X4_startFunction_0 at hm
  by_cases c_1 : (F 45) = (0 : Int32)
  · have hm := (if_pos c_1).symm.trans hm
    exact (cn_X4_startFunction_26 fu x1 x2 x3 F G hm)
  · have hm := (if_neg c_1).symm.trans hm
    exact (cn_X4_startFunction_10 fu x1 x2 x3 F G hm)
theorem cw_X4_startFunction_0 (fu : Nat) {res : Int32 × PF × PG} (C : cMC p R s m args c A v RX4 cX4_startFunction 4 2 48 (xn res.2.1 - xn K0)) (hret : ∀ (b1 : Nat) (H1 : Heap) (locs1 : List Loc) (ls1 : Array Slot) (pc : Nat), cMW s A v a b1 K0 res.2.1 res.2.2 H1 locs1 → decode cX4_startFunction pc = .ok (.return_, 1) → W p l e R s m args below meth c H1 locs1 (xn res.2.1 - xn K0) (2 * (xn res.2.1 - xn K0)) Q (F0 m pc ls1 [])) (x1 : Int32) (x2 : Int32) (x3 : Int32) (F : PF) (G : PG) (hm : cb_X4_startFunction_0 fu x1 x2 x3 F G = some res) {b : Nat} {H : Heap} {locs : List Loc} (hw : cMW s A v a b K0 F G H locs) {ls : Array Slot} (hl : lv_has ls 4 [(0, .ref (a 204)), (1, .int x1), (2, .int x2), (3, .int x3)]) : W p l e R s m args below meth c H locs (xn F - xn K0) (2 * (xn F - xn K0)) Q (F0 m 0 ls []) := by
  have hx := C.1
  have hb := C.2.1
  unfold cb_X4_startFunction_0 at hm
  refine lv_aload_n hx hb dX4_startFunction_0 rfl (lv_at hl 0 rfl) ?_
  refine cg_X4_15 C hw dX4_startFunction_1 ?_
  refine cg_X4_128 C hw dX4_startFunction_4 ?_
  refine lv_if_eq (tgt := 26) hx hb dX4_startFunction_7 (by decide) (fun c_1 => ?_) (fun c_1 => ?_)
  · have hm := (if_pos c_1).symm.trans hm
    exact cw_X4_startFunction_26 fu C hret x1 x2 x3 F G hm hw (lv_sub hl [0, 1, 2, 3] rfl)
  · have hm := (if_neg c_1).symm.trans hm
    exact cw_X4_startFunction_10 fu C hret x1 x2 x3 F G hm hw (lv_sub hl [0, 1, 2, 3] rfl)
theorem cn_X4_startFunction (fu : Nat) (x1 : Int32) (x2 : Int32) (x3 : Int32) (F : PF) (G : PG) (q : Int32 × PF × PG) (hm : cf_X4_startFunction fu x1 x2 x3 F G = some q) : xn F ≤ xn q.2.1 := cn_X4_startFunction_0 fu x1 x2 x3 F G hm
theorem ck_X4_startFunction (l : Launch) (v : EV) (a : Nat → Nat) (b sz : Nat) (fu : Nat) (x1 : Int32) (x2 : Int32) (x3 : Int32) (F : PF) (G : PG) (r : Int32) (F1 : PF) (G1 : PG) (hm : cf_X4_startFunction fu x1 x2 x3 F G = some (r, F1, G1)) : cMV l yX4_startFunction cX4_startFunction 4 2 48 v a b sz [.ref (a 204), .int x1, .int x2, .int x3] F G F1 G1 := cMV.of (by decide) (Nat.le_of_ble_eq_true rfl) (fun p e R s m args below meth c Q A H locs ls C hw hl hret => cw_X4_startFunction_0 fu (res := (r, F1, G1)) C hret x1 x2 x3 F G hm hw hl)
def cb_X4_condition_28 (fu : Nat) (F : PF) (G : PG) : PR := some (0, F, G)
def cb_X4_condition_19 (fu : Nat) (F : PF) (G : PG) : PR := (cf_X2_closesWith fu 20 F G).bind (fun q => cb_X4_condition_28 fu q.2.1 q.2.2)
def cb_X4_condition_12 (fu : Nat) (F : PF) (G : PG) : PR := (cf_X3_expression fu F G).bind (fun q => cb_X4_condition_19 fu q.2.1 q.2.2)
def cb_X4_condition_9 (fu : Nat) (z0 : Int32) (F : PF) (G : PG) : PR := if z0 = (0 : Int32) then cb_X4_condition_28 fu F G else cb_X4_condition_12 fu F G
def cb_X4_condition_0 (fu : Nat) (F : PF) (G : PG) : PR := (cf_X2_opens fu 19 F G).bind (fun q => cb_X4_condition_9 fu q.1 q.2.1 q.2.2)
def cf_X4_condition (fu : Nat) (F : PF) (G : PG) : PR := cb_X4_condition_0 fu F G
theorem cn_X4_condition_28 (fu : Nat) {res : Int32 × PF × PG} (F : PF) (G : PG) (hm : cb_X4_condition_28 fu F G = some res) : xn F ≤ xn res.2.1 := by
  unfold cb_X4_condition_28 at hm
  obtain rfl := Option.some.inj hm
  exact Nat.le_refl _
theorem cw_X4_condition_28 (fu : Nat) {res : Int32 × PF × PG} (C : cMC p R s m args c A v RX4 cX4_condition 1 303 18071 (xn res.2.1 - xn K0)) (hret : ∀ (b1 : Nat) (H1 : Heap) (locs1 : List Loc) (ls1 : Array Slot) (pc : Nat), cMW s A v a b1 K0 res.2.1 res.2.2 H1 locs1 → decode cX4_condition pc = .ok (.return_, 1) → W p l e R s m args below meth c H1 locs1 (xn res.2.1 - xn K0) (2 * (xn res.2.1 - xn K0)) Q (F0 m pc ls1 [])) (F : PF) (G : PG) (hm : cb_X4_condition_28 fu F G = some res) {b : Nat} {H : Heap} {locs : List Loc} (hw : cMW s A v a b K0 F G H locs) {ls : Array Slot} (hl : lv_has ls 1 []) : W p l e R s m args below meth c H locs (xn F - xn K0) (2 * (xn F - xn K0)) Q (F0 m 28 ls []) := by
  have hx := C.1
  have hb := C.2.1
  unfold cb_X4_condition_28 at hm
  obtain rfl := Option.some.inj hm
  exact hret _ _ _ _ _ hw dX4_condition_28
theorem cn_X4_condition_19 (fu : Nat) {res : Int32 × PF × PG} (F : PF) (G : PG) (hm : cb_X4_condition_19 fu F G = some res) : xn F ≤ xn res.2.1 := by
  unfold cb_X4_condition_19 at hm
  obtain ⟨⟨r1, F1, G1⟩, hc, hm⟩ := bind_elim hm
  exact Nat.le_trans (cn_X2_closesWith fu 20 F G _ hc) (cn_X4_condition_28 fu F1 G1 hm)
theorem cw_X4_condition_19 (fu : Nat) {res : Int32 × PF × PG} (C : cMC p R s m args c A v RX4 cX4_condition 1 303 18071 (xn res.2.1 - xn K0)) (hret : ∀ (b1 : Nat) (H1 : Heap) (locs1 : List Loc) (ls1 : Array Slot) (pc : Nat), cMW s A v a b1 K0 res.2.1 res.2.2 H1 locs1 → decode cX4_condition pc = .ok (.return_, 1) → W p l e R s m args below meth c H1 locs1 (xn res.2.1 - xn K0) (2 * (xn res.2.1 - xn K0)) Q (F0 m pc ls1 [])) (F : PF) (G : PG) (hm : cb_X4_condition_19 fu F G = some res) {b : Nat} {H : Heap} {locs : List Loc} (hw : cMW s A v a b K0 F G H locs) {ls : Array Slot} (hl : lv_has ls 1 [(0, .ref (a 204))]) : W p l e R s m args below meth c H locs (xn F - xn K0) (2 * (xn F - xn K0)) Q (F0 m 19 ls []) := by
  have hx := C.1
  have hb := C.2.1
  unfold cb_X4_condition_19 at hm
  refine lv_aload_n hx hb dX4_condition_19 rfl (lv_at hl 0 rfl) ?_
  refine cg_X4_9 C hw dX4_condition_20 ?_
  refine lv_bipush (v := 20) hx hb dX4_condition_23 (by decide) ?_
  obtain ⟨⟨r1, F1, G1⟩, hc, hm⟩ := bind_elim hm
  refine ccallV (n := 1) (As := [.int 20]) (rest := []) C hw (ck_X2_closesWith l v a _ _ fu 20 F G r1 F1 G1 hc) (cn_X2_closesWith fu 20 F G _ hc) (Nat.sub_le_sub_right (cn_X4_condition_28 fu F1 G1 hm) _) (crecv_X2 C hw) cm_629 cm_459 cm_460 cm_307 cm_461 (by decide +kernel) rfl (by omega) (by omega) hl.1 rfl (Nat.le_of_ble_eq_true rfl) dX4_condition_25 (fun b H locs hw => ?_)
  exact cw_X4_condition_28 fu C hret F1 G1 hm hw (lv_sub hl [] rfl)
theorem cn_X4_condition_12 (fu : Nat) {res : Int32 × PF × PG} (F : PF) (G : PG) (hm : cb_X4_condition_12 fu F G = some res) : xn F ≤ xn res.2.1 := by
  unfold cb_X4_condition_12 at hm
  obtain ⟨⟨r1, F1, G1⟩, hc, hm⟩ := bind_elim hm
  exact Nat.le_trans (cn_X3_expression fu F G _ hc) (cn_X4_condition_19 fu F1 G1 hm)
theorem cw_X4_condition_12 (fu : Nat) {res : Int32 × PF × PG} (C : cMC p R s m args c A v RX4 cX4_condition 1 303 18071 (xn res.2.1 - xn K0)) (hret : ∀ (b1 : Nat) (H1 : Heap) (locs1 : List Loc) (ls1 : Array Slot) (pc : Nat), cMW s A v a b1 K0 res.2.1 res.2.2 H1 locs1 → decode cX4_condition pc = .ok (.return_, 1) → W p l e R s m args below meth c H1 locs1 (xn res.2.1 - xn K0) (2 * (xn res.2.1 - xn K0)) Q (F0 m pc ls1 [])) (F : PF) (G : PG) (hm : cb_X4_condition_12 fu F G = some res) {b : Nat} {H : Heap} {locs : List Loc} (hw : cMW s A v a b K0 F G H locs) {ls : Array Slot} (hl : lv_has ls 1 [(0, .ref (a 204))]) : W p l e R s m args below meth c H locs (xn F - xn K0) (2 * (xn F - xn K0)) Q (F0 m 12 ls []) := by
  have hx := C.1
  have hb := C.2.1
  unfold cb_X4_condition_12 at hm
  refine lv_aload_n hx hb dX4_condition_12 rfl (lv_at hl 0 rfl) ?_
  refine cg_X4_27 C hw dX4_condition_13 ?_
  obtain ⟨⟨r1, F1, G1⟩, hc, hm⟩ := bind_elim hm
  refine ccallV (n := 0) (As := []) (rest := []) C hw (ck_X3_expression l v a _ _ fu F G r1 F1 G1 hc) (cn_X3_expression fu F G _ hc) (Nat.sub_le_sub_right (cn_X4_condition_19 fu F1 G1 hm) _) (crecv_X3 C hw) cm_659 cm_354 cm_355 cm_301 cm_356 (by decide +kernel) rfl (by omega) (by omega) hl.1 rfl (Nat.le_of_ble_eq_true rfl) dX4_condition_16 (fun b H locs hw => ?_)
  exact cw_X4_condition_19 fu C hret F1 G1 hm hw (lv_sub hl [0] rfl)
theorem cn_X4_condition_9 (fu : Nat) {res : Int32 × PF × PG} (z0 : Int32) (F : PF) (G : PG) (hm : cb_X4_condition_9 fu z0 F G = some res) : xn F ≤ xn res.2.1 := by
  unfold cb_X4_condition_9 at hm
  by_cases c_1 : z0 = (0 : Int32)
  · have hm := (if_pos c_1).symm.trans hm
    exact (cn_X4_condition_28 fu F G hm)
  · have hm := (if_neg c_1).symm.trans hm
    exact (cn_X4_condition_12 fu F G hm)
theorem cw_X4_condition_9 (fu : Nat) {res : Int32 × PF × PG} (C : cMC p R s m args c A v RX4 cX4_condition 1 303 18071 (xn res.2.1 - xn K0)) (hret : ∀ (b1 : Nat) (H1 : Heap) (locs1 : List Loc) (ls1 : Array Slot) (pc : Nat), cMW s A v a b1 K0 res.2.1 res.2.2 H1 locs1 → decode cX4_condition pc = .ok (.return_, 1) → W p l e R s m args below meth c H1 locs1 (xn res.2.1 - xn K0) (2 * (xn res.2.1 - xn K0)) Q (F0 m pc ls1 [])) (z0 : Int32) (F : PF) (G : PG) (hm : cb_X4_condition_9 fu z0 F G = some res) {b : Nat} {H : Heap} {locs : List Loc} (hw : cMW s A v a b K0 F G H locs) {ls : Array Slot} (hl : lv_has ls 1 [(0, .ref (a 204))]) : W p l e R s m args below meth c H locs (xn F - xn K0) (2 * (xn F - xn K0)) Q (F0 m 9 ls [.int z0]) := by
  have hx := C.1
  have hb := C.2.1
  unfold cb_X4_condition_9 at hm
  refine lv_if_eq (tgt := 28) hx hb dX4_condition_9 (by decide) (fun c_1 => ?_) (fun c_1 => ?_)
  · have hm := (if_pos c_1).symm.trans hm
    exact cw_X4_condition_28 fu C hret F G hm hw (lv_sub hl [] rfl)
  · have hm := (if_neg c_1).symm.trans hm
    exact cw_X4_condition_12 fu C hret F G hm hw (lv_sub hl [0] rfl)
theorem cn_X4_condition_0 (fu : Nat) {res : Int32 × PF × PG} (F : PF) (G : PG) (hm : cb_X4_condition_0 fu F G = some res) : xn F ≤ xn res.2.1 := by
  unfold cb_X4_condition_0 at hm
  obtain ⟨⟨r1, F1, G1⟩, hc, hm⟩ := bind_elim hm
  exact Nat.le_trans (cn_X2_opens fu 19 F G _ hc) (cn_X4_condition_9 fu r1 F1 G1 hm)
theorem cw_X4_condition_0 (fu : Nat) {res : Int32 × PF × PG} (C : cMC p R s m args c A v RX4 cX4_condition 1 303 18071 (xn res.2.1 - xn K0)) (hret : ∀ (b1 : Nat) (H1 : Heap) (locs1 : List Loc) (ls1 : Array Slot) (pc : Nat), cMW s A v a b1 K0 res.2.1 res.2.2 H1 locs1 → decode cX4_condition pc = .ok (.return_, 1) → W p l e R s m args below meth c H1 locs1 (xn res.2.1 - xn K0) (2 * (xn res.2.1 - xn K0)) Q (F0 m pc ls1 [])) (F : PF) (G : PG) (hm : cb_X4_condition_0 fu F G = some res) {b : Nat} {H : Heap} {locs : List Loc} (hw : cMW s A v a b K0 F G H locs) {ls : Array Slot} (hl : lv_has ls 1 [(0, .ref (a 204))]) : W p l e R s m args below meth c H locs (xn F - xn K0) (2 * (xn F - xn K0)) Q (F0 m 0 ls []) := by
  have hx := C.1
  have hb := C.2.1
  unfold cb_X4_condition_0 at hm
  refine lv_aload_n hx hb dX4_condition_0 rfl (lv_at hl 0 rfl) ?_
  refine cg_X4_9 C hw dX4_condition_1 ?_
  refine lv_bipush (v := 19) hx hb dX4_condition_4 (by decide) ?_
  obtain ⟨⟨r1, F1, G1⟩, hc, hm⟩ := bind_elim hm
  refine ccallI (n := 1) (As := [.int 19]) (rest := []) C hw (ck_X2_opens l v a _ _ fu 19 F G r1 F1 G1 hc) (cn_X2_opens fu 19 F G _ hc) (Nat.sub_le_sub_right (cn_X4_condition_9 fu r1 F1 G1 hm) _) (crecv_X2 C hw) cm_623 cm_363 cm_364 cm_307 cm_365 (by decide +kernel) rfl (by omega) (by omega) hl.1 rfl (Nat.le_of_ble_eq_true rfl) dX4_condition_6 (fun b H locs hw => ?_)
  exact cw_X4_condition_9 fu C hret r1 F1 G1 hm hw (lv_sub hl [0] rfl)
theorem cn_X4_condition (fu : Nat) (F : PF) (G : PG) (q : Int32 × PF × PG) (hm : cf_X4_condition fu F G = some q) : xn F ≤ xn q.2.1 := cn_X4_condition_0 fu F G hm
theorem ck_X4_condition (l : Launch) (v : EV) (a : Nat → Nat) (b sz : Nat) (fu : Nat) (F : PF) (G : PG) (r : Int32) (F1 : PF) (G1 : PG) (hm : cf_X4_condition fu F G = some (r, F1, G1)) : cMV l yX4_condition cX4_condition 1 303 18071 v a b sz [.ref (a 204)] F G F1 G1 := cMV.of (by decide) (Nat.le_of_ble_eq_true rfl) (fun p e R s m args below meth c Q A H locs ls C hw hl hret => cw_X4_condition_0 fu (res := (r, F1, G1)) C hret F G hm hw hl)
def cb_X4_handOut_36 (fu : Nat) (F : PF) (G : PG) : PR := some (0, F, G)
def cb_X4_handOut_27 (fu : Nat) (F : PF) (G : PG) : PR := (cf_X2_expect fu 26 F G).bind (fun q => cb_X4_handOut_36 fu q.2.1 q.2.2)
def cb_X4_handOut_19 (fu : Nat) (x1 : Int32) (F : PF) (G : PG) : PR := (cf_X1_add fu x1 F G).bind (fun q => cb_X4_handOut_27 fu q.2.1 q.2.2)
def cb_X4_handOut_15 (fu : Nat) (x1 : Int32) (F : PF) (G : PG) : PR := (cf_X4_condition fu F G).bind (fun q => cb_X4_handOut_19 fu x1 q.2.1 q.2.2)
def cb_X4_handOut_0 (fu : Nat) (F : PF) (G : PG) : PR := (cf_X2_next fu F G).bind (fun q => cb_X4_handOut_15 fu (F 11) q.2.1 q.2.2)
def cf_X4_handOut (fu : Nat) (F : PF) (G : PG) : PR := cb_X4_handOut_0 fu F G
theorem cn_X4_handOut_36 (fu : Nat) {res : Int32 × PF × PG} (F : PF) (G : PG) (hm : cb_X4_handOut_36 fu F G = some res) : xn F ≤ xn res.2.1 := by
  unfold cb_X4_handOut_36 at hm
  obtain rfl := Option.some.inj hm
  exact Nat.le_refl _
theorem cw_X4_handOut_36 (fu : Nat) {res : Int32 × PF × PG} (C : cMC p R s m args c A v RX4 cX4_handOut 2 304 18091 (xn res.2.1 - xn K0)) (hret : ∀ (b1 : Nat) (H1 : Heap) (locs1 : List Loc) (ls1 : Array Slot) (pc : Nat), cMW s A v a b1 K0 res.2.1 res.2.2 H1 locs1 → decode cX4_handOut pc = .ok (.return_, 1) → W p l e R s m args below meth c H1 locs1 (xn res.2.1 - xn K0) (2 * (xn res.2.1 - xn K0)) Q (F0 m pc ls1 [])) (F : PF) (G : PG) (hm : cb_X4_handOut_36 fu F G = some res) {b : Nat} {H : Heap} {locs : List Loc} (hw : cMW s A v a b K0 F G H locs) {ls : Array Slot} (hl : lv_has ls 2 []) : W p l e R s m args below meth c H locs (xn F - xn K0) (2 * (xn F - xn K0)) Q (F0 m 36 ls []) := by
  have hx := C.1
  have hb := C.2.1
  unfold cb_X4_handOut_36 at hm
  obtain rfl := Option.some.inj hm
  exact hret _ _ _ _ _ hw dX4_handOut_36
theorem cn_X4_handOut_27 (fu : Nat) {res : Int32 × PF × PG} (F : PF) (G : PG) (hm : cb_X4_handOut_27 fu F G = some res) : xn F ≤ xn res.2.1 := by
  unfold cb_X4_handOut_27 at hm
  obtain ⟨⟨r1, F1, G1⟩, hc, hm⟩ := bind_elim hm
  exact Nat.le_trans (cn_X2_expect fu 26 F G _ hc) (cn_X4_handOut_36 fu F1 G1 hm)
theorem cw_X4_handOut_27 (fu : Nat) {res : Int32 × PF × PG} (C : cMC p R s m args c A v RX4 cX4_handOut 2 304 18091 (xn res.2.1 - xn K0)) (hret : ∀ (b1 : Nat) (H1 : Heap) (locs1 : List Loc) (ls1 : Array Slot) (pc : Nat), cMW s A v a b1 K0 res.2.1 res.2.2 H1 locs1 → decode cX4_handOut pc = .ok (.return_, 1) → W p l e R s m args below meth c H1 locs1 (xn res.2.1 - xn K0) (2 * (xn res.2.1 - xn K0)) Q (F0 m pc ls1 [])) (F : PF) (G : PG) (hm : cb_X4_handOut_27 fu F G = some res) {b : Nat} {H : Heap} {locs : List Loc} (hw : cMW s A v a b K0 F G H locs) {ls : Array Slot} (hl : lv_has ls 2 [(0, .ref (a 204))]) : W p l e R s m args below meth c H locs (xn F - xn K0) (2 * (xn F - xn K0)) Q (F0 m 27 ls []) := by
  have hx := C.1
  have hb := C.2.1
  unfold cb_X4_handOut_27 at hm
  refine lv_aload_n hx hb dX4_handOut_27 rfl (lv_at hl 0 rfl) ?_
  refine cg_X4_9 C hw dX4_handOut_28 ?_
  refine lv_bipush (v := 26) hx hb dX4_handOut_31 (by decide) ?_
  obtain ⟨⟨r1, F1, G1⟩, hc, hm⟩ := bind_elim hm
  refine ccallV (n := 1) (As := [.int 26]) (rest := []) C hw (ck_X2_expect l v a _ _ fu 26 F G r1 F1 G1 hc) (cn_X2_expect fu 26 F G _ hc) (Nat.sub_le_sub_right (cn_X4_handOut_36 fu F1 G1 hm) _) (crecv_X2 C hw) cm_332 cm_333 cm_334 cm_307 cm_335 (by decide +kernel) rfl (by omega) (by omega) hl.1 rfl (Nat.le_of_ble_eq_true rfl) dX4_handOut_33 (fun b H locs hw => ?_)
  exact cw_X4_handOut_36 fu C hret F1 G1 hm hw (lv_sub hl [] rfl)
theorem cn_X4_handOut_19 (fu : Nat) {res : Int32 × PF × PG} (x1 : Int32) (F : PF) (G : PG) (hm : cb_X4_handOut_19 fu x1 F G = some res) : xn F ≤ xn res.2.1 := by
  unfold cb_X4_handOut_19 at hm
  obtain ⟨⟨r1, F1, G1⟩, hc, hm⟩ := bind_elim hm
  exact Nat.le_trans (cn_X1_add fu x1 F G _ hc) (cn_X4_handOut_27 fu F1 G1 hm)
theorem cw_X4_handOut_19 (fu : Nat) {res : Int32 × PF × PG} (C : cMC p R s m args c A v RX4 cX4_handOut 2 304 18091 (xn res.2.1 - xn K0)) (hret : ∀ (b1 : Nat) (H1 : Heap) (locs1 : List Loc) (ls1 : Array Slot) (pc : Nat), cMW s A v a b1 K0 res.2.1 res.2.2 H1 locs1 → decode cX4_handOut pc = .ok (.return_, 1) → W p l e R s m args below meth c H1 locs1 (xn res.2.1 - xn K0) (2 * (xn res.2.1 - xn K0)) Q (F0 m pc ls1 [])) (x1 : Int32) (F : PF) (G : PG) (hm : cb_X4_handOut_19 fu x1 F G = some res) {b : Nat} {H : Heap} {locs : List Loc} (hw : cMW s A v a b K0 F G H locs) {ls : Array Slot} (hl : lv_has ls 2 [(0, .ref (a 204)), (1, .int x1)]) : W p l e R s m args below meth c H locs (xn F - xn K0) (2 * (xn F - xn K0)) Q (F0 m 19 ls []) := by
  have hx := C.1
  have hb := C.2.1
  unfold cb_X4_handOut_19 at hm
  refine lv_aload_n hx hb dX4_handOut_19 rfl (lv_at hl 0 rfl) ?_
  refine cg_X4_19 C hw dX4_handOut_20 ?_
  refine lv_iload_n hx hb dX4_handOut_23 rfl (lv_at hl 1 rfl) ?_
  obtain ⟨⟨r1, F1, G1⟩, hc, hm⟩ := bind_elim hm
  refine ccallV (n := 1) (As := [.int x1]) (rest := []) C hw (ck_X1_add l v a _ _ fu x1 F G r1 F1 G1 hc) (cn_X1_add fu x1 F G _ hc) (Nat.sub_le_sub_right (cn_X4_handOut_27 fu F1 G1 hm) _) (crecv_X1 C hw) cm_687 cm_453 cm_454 cm_369 cm_455 (by decide +kernel) rfl (by omega) (by omega) hl.1 rfl (Nat.le_of_ble_eq_true rfl) dX4_handOut_24 (fun b H locs hw => ?_)
  exact cw_X4_handOut_27 fu C hret F1 G1 hm hw (lv_sub hl [0] rfl)
theorem cn_X4_handOut_15 (fu : Nat) {res : Int32 × PF × PG} (x1 : Int32) (F : PF) (G : PG) (hm : cb_X4_handOut_15 fu x1 F G = some res) : xn F ≤ xn res.2.1 := by
  unfold cb_X4_handOut_15 at hm
  obtain ⟨⟨r1, F1, G1⟩, hc, hm⟩ := bind_elim hm
  exact Nat.le_trans (cn_X4_condition fu F G _ hc) (cn_X4_handOut_19 fu x1 F1 G1 hm)
theorem cw_X4_handOut_15 (fu : Nat) {res : Int32 × PF × PG} (C : cMC p R s m args c A v RX4 cX4_handOut 2 304 18091 (xn res.2.1 - xn K0)) (hret : ∀ (b1 : Nat) (H1 : Heap) (locs1 : List Loc) (ls1 : Array Slot) (pc : Nat), cMW s A v a b1 K0 res.2.1 res.2.2 H1 locs1 → decode cX4_handOut pc = .ok (.return_, 1) → W p l e R s m args below meth c H1 locs1 (xn res.2.1 - xn K0) (2 * (xn res.2.1 - xn K0)) Q (F0 m pc ls1 [])) (x1 : Int32) (F : PF) (G : PG) (hm : cb_X4_handOut_15 fu x1 F G = some res) {b : Nat} {H : Heap} {locs : List Loc} (hw : cMW s A v a b K0 F G H locs) {ls : Array Slot} (hl : lv_has ls 2 [(0, .ref (a 204)), (1, .int x1)]) : W p l e R s m args below meth c H locs (xn F - xn K0) (2 * (xn F - xn K0)) Q (F0 m 15 ls []) := by
  have hx := C.1
  have hb := C.2.1
  unfold cb_X4_handOut_15 at hm
  refine lv_aload_n hx hb dX4_handOut_15 rfl (lv_at hl 0 rfl) ?_
  obtain ⟨⟨r1, F1, G1⟩, hc, hm⟩ := bind_elim hm
  refine ccallV (n := 0) (As := []) (rest := []) C hw (ck_X4_condition l v a _ _ fu F G r1 F1 G1 hc) (cn_X4_condition fu F G _ hc) (Nat.sub_le_sub_right (cn_X4_handOut_19 fu x1 F1 G1 hm) _) (crecv_X4 C hw) cm_655 cm_656 cm_657 cm_244 cm_658 (by decide +kernel) rfl (by omega) (by omega) hl.1 rfl (Nat.le_of_ble_eq_true rfl) dX4_handOut_16 (fun b H locs hw => ?_)
  exact cw_X4_handOut_19 fu C hret x1 F1 G1 hm hw (lv_sub hl [0, 1] rfl)
theorem cn_X4_handOut_0 (fu : Nat) {res : Int32 × PF × PG} (F : PF) (G : PG) (hm : cb_X4_handOut_0 fu F G = some res) : xn F ≤ xn res.2.1 := by
  unfold cb_X4_handOut_0 at hm
  obtain ⟨⟨r1, F1, G1⟩, hc, hm⟩ := bind_elim hm
  exact Nat.le_trans (cn_X2_next fu F G _ hc) (cn_X4_handOut_15 fu (F 11) F1 G1 hm)
theorem cw_X4_handOut_0 (fu : Nat) {res : Int32 × PF × PG} (C : cMC p R s m args c A v RX4 cX4_handOut 2 304 18091 (xn res.2.1 - xn K0)) (hret : ∀ (b1 : Nat) (H1 : Heap) (locs1 : List Loc) (ls1 : Array Slot) (pc : Nat), cMW s A v a b1 K0 res.2.1 res.2.2 H1 locs1 → decode cX4_handOut pc = .ok (.return_, 1) → W p l e R s m args below meth c H1 locs1 (xn res.2.1 - xn K0) (2 * (xn res.2.1 - xn K0)) Q (F0 m pc ls1 [])) (F : PF) (G : PG) (hm : cb_X4_handOut_0 fu F G = some res) {b : Nat} {H : Heap} {locs : List Loc} (hw : cMW s A v a b K0 F G H locs) {ls : Array Slot} (hl : lv_has ls 2 [(0, .ref (a 204))]) : W p l e R s m args below meth c H locs (xn F - xn K0) (2 * (xn F - xn K0)) Q (F0 m 0 ls []) := by
  have hx := C.1
  have hb := C.2.1
  unfold cb_X4_handOut_0 at hm
  refine lv_aload_n hx hb dX4_handOut_0 rfl (lv_at hl 0 rfl) ?_
  refine cg_X4_9 C hw dX4_handOut_1 ?_
  refine cg_X4_52 C hw dX4_handOut_4 ?_
  refine lv_istore_n (lv' := [(1, .int (F 11)), (0, .ref (a 204))]) hx hb dX4_handOut_7 rfl hl (by decide) rfl (fun ls hl => ?_)
  refine lv_aload_n hx hb dX4_handOut_8 rfl (lv_at hl 1 rfl) ?_
  refine cg_X4_9 C hw dX4_handOut_9 ?_
  obtain ⟨⟨r1, F1, G1⟩, hc, hm⟩ := bind_elim hm
  refine ccallV (n := 0) (As := []) (rest := []) C hw (ck_X2_next l v a _ _ fu F G r1 F1 G1 hc) (cn_X2_next fu F G _ hc) (Nat.sub_le_sub_right (cn_X4_handOut_15 fu (F 11) F1 G1 hm) _) (crecv_X2 C hw) cm_320 cm_321 cm_322 cm_307 cm_323 (by decide +kernel) rfl (by omega) (by omega) hl.1 rfl (Nat.le_of_ble_eq_true rfl) dX4_handOut_12 (fun b H locs hw => ?_)
  exact cw_X4_handOut_15 fu C hret (F 11) F1 G1 hm hw (lv_sub hl [1, 0] rfl)
theorem cn_X4_handOut (fu : Nat) (F : PF) (G : PG) (q : Int32 × PF × PG) (hm : cf_X4_handOut fu F G = some q) : xn F ≤ xn q.2.1 := cn_X4_handOut_0 fu F G hm
theorem ck_X4_handOut (l : Launch) (v : EV) (a : Nat → Nat) (b sz : Nat) (fu : Nat) (F : PF) (G : PG) (r : Int32) (F1 : PF) (G1 : PG) (hm : cf_X4_handOut fu F G = some (r, F1, G1)) : cMV l yX4_handOut cX4_handOut 2 304 18091 v a b sz [.ref (a 204)] F G F1 G1 := cMV.of (by decide) (Nat.le_of_ble_eq_true rfl) (fun p e R s m args below meth c Q A H locs ls C hw hl hret => cw_X4_handOut_0 fu (res := (r, F1, G1)) C hret F G hm hw hl)
def cb_X5_localRoom_32 (fu : Nat) (x3 : Int32) (F : PF) (G : PG) : PR := some (x3, F, G)
def cb_X5_localRoom_25 (fu : Nat) (x2 : Int32) (x3 : Int32) (F : PF) (G : PG) : PR := (cf_X5_note fu 8 x2 F G).bind (fun q => cb_X5_localRoom_32 fu x3 q.2.1 q.2.2)
def cb_X5_localRoom_15 (fu : Nat) (x2 : Int32) (x3 : Int32) (F : PF) (G : PG) : PR := if (F 50) ≤ (200 : Int32) then cb_X5_localRoom_32 fu x3 F G else cb_X5_localRoom_25 fu x2 x3 F G
def cb_X5_localRoom_4 (fu : Nat) (x1 : Int32) (x2 : Int32) (z0 : Int32) (F : PF) (G : PG) : PR := cb_X5_localRoom_15 fu x2 z0 (fup F 50 ((F 50) + x1)) G
def cb_X5_localRoom_0 (fu : Nat) (x1 : Int32) (x2 : Int32) (F : PF) (G : PG) : PR := (cf_X5_measure fu F G).bind (fun q => cb_X5_localRoom_4 fu x1 x2 q.1 q.2.1 q.2.2)
def cf_X5_localRoom (fu : Nat) (x1 : Int32) (x2 : Int32) (F : PF) (G : PG) : PR := cb_X5_localRoom_0 fu x1 x2 F G
theorem cn_X5_localRoom_32 (fu : Nat) {res : Int32 × PF × PG} (x3 : Int32) (F : PF) (G : PG) (hm : cb_X5_localRoom_32 fu x3 F G = some res) : xn F ≤ xn res.2.1 := by
  unfold cb_X5_localRoom_32 at hm
  obtain rfl := Option.some.inj hm
  exact Nat.le_refl _
theorem cw_X5_localRoom_32 (fu : Nat) {res : Int32 × PF × PG} (C : cMC p R s m args c A v RX5 cX5_localRoom 4 1 22 (xn res.2.1 - xn K0)) (hret : ∀ (b1 : Nat) (H1 : Heap) (locs1 : List Loc) (ls1 : Array Slot) (pc : Nat), cMW s A v a b1 K0 res.2.1 res.2.2 H1 locs1 → narrow .int (.int res.1) = .int res.1 → decode cX5_localRoom pc = .ok (.ireturn, 1) → W p l e R s m args below meth c H1 locs1 (xn res.2.1 - xn K0) (2 * (xn res.2.1 - xn K0)) Q (F0 m pc ls1 [.int res.1])) (x3 : Int32) (F : PF) (G : PG) (hm : cb_X5_localRoom_32 fu x3 F G = some res) {b : Nat} {H : Heap} {locs : List Loc} (hw : cMW s A v a b K0 F G H locs) {ls : Array Slot} (hl : lv_has ls 4 [(3, .int x3)]) : W p l e R s m args below meth c H locs (xn F - xn K0) (2 * (xn F - xn K0)) Q (F0 m 32 ls []) := by
  have hx := C.1
  have hb := C.2.1
  unfold cb_X5_localRoom_32 at hm
  refine lv_iload_n hx hb dX5_localRoom_32 rfl (lv_at hl 0 rfl) ?_
  obtain rfl := Option.some.inj hm
  exact hret _ _ _ _ _ hw rfl dX5_localRoom_33
theorem cn_X5_localRoom_25 (fu : Nat) {res : Int32 × PF × PG} (x2 : Int32) (x3 : Int32) (F : PF) (G : PG) (hm : cb_X5_localRoom_25 fu x2 x3 F G = some res) : xn F ≤ xn res.2.1 := by
  unfold cb_X5_localRoom_25 at hm
  obtain ⟨⟨r1, F1, G1⟩, hc, hm⟩ := bind_elim hm
  exact Nat.le_trans (cn_X5_note fu 8 x2 F G _ hc) (cn_X5_localRoom_32 fu x3 F1 G1 hm)
theorem cw_X5_localRoom_25 (fu : Nat) {res : Int32 × PF × PG} (C : cMC p R s m args c A v RX5 cX5_localRoom 4 1 22 (xn res.2.1 - xn K0)) (hret : ∀ (b1 : Nat) (H1 : Heap) (locs1 : List Loc) (ls1 : Array Slot) (pc : Nat), cMW s A v a b1 K0 res.2.1 res.2.2 H1 locs1 → narrow .int (.int res.1) = .int res.1 → decode cX5_localRoom pc = .ok (.ireturn, 1) → W p l e R s m args below meth c H1 locs1 (xn res.2.1 - xn K0) (2 * (xn res.2.1 - xn K0)) Q (F0 m pc ls1 [.int res.1])) (x2 : Int32) (x3 : Int32) (F : PF) (G : PG) (hm : cb_X5_localRoom_25 fu x2 x3 F G = some res) {b : Nat} {H : Heap} {locs : List Loc} (hw : cMW s A v a b K0 F G H locs) {ls : Array Slot} (hl : lv_has ls 4 [(0, .ref (a 205)), (2, .int x2), (3, .int x3)]) : W p l e R s m args below meth c H locs (xn F - xn K0) (2 * (xn F - xn K0)) Q (F0 m 25 ls []) := by
  have hx := C.1
  have hb := C.2.1
  unfold cb_X5_localRoom_25 at hm
  refine lv_aload_n hx hb dX5_localRoom_25 rfl (lv_at hl 0 rfl) ?_
  refine lv_bipush (v := 8) hx hb dX5_localRoom_26 (by decide) ?_
  refine lv_iload_n hx hb dX5_localRoom_28 rfl (lv_at hl 1 rfl) ?_
  obtain ⟨⟨r1, F1, G1⟩, hc, hm⟩ := bind_elim hm
  refine ccallV (n := 2) (As := [.int 8, .int x2]) (rest := []) C hw (ck_X5_note l v a _ _ fu 8 x2 F G r1 F1 G1 hc) (cn_X5_note fu 8 x2 F G _ hc) (Nat.sub_le_sub_right (cn_X5_localRoom_32 fu x3 F1 G1 hm) _) (crecv_X5 C hw) cm_424 cm_425 cm_426 cm_266 cm_427 (by decide +kernel) rfl (by omega) (by omega) hl.1 rfl (Nat.le_of_ble_eq_true rfl) dX5_localRoom_29 (fun b H locs hw => ?_)
  exact cw_X5_localRoom_32 fu C hret x3 F1 G1 hm hw (lv_sub hl [2] rfl)
theorem cn_X5_localRoom_15 (fu : Nat) {res : Int32 × PF × PG} (x2 : Int32) (x3 : Int32) (F : PF) (G : PG) (hm : cb_X5_localRoom_15 fu x2 x3 F G = some res) : xn F ≤ xn res.2.1 := by
  unfold cb_X5_localRoom_15 at hm
  by_cases c_1 : (F 50) ≤ (200 : Int32)
  · have hm := (if_pos c_1).symm.trans hm
    exact (cn_X5_localRoom_32 fu x3 F G hm)
  · have hm := (if_neg c_1).symm.trans hm
    exact (cn_X5_localRoom_25 fu x2 x3 F G hm)
theorem cw_X5_localRoom_15 (fu : Nat) {res : Int32 × PF × PG} (C : cMC p R s m args c A v RX5 cX5_localRoom 4 1 22 (xn res.2.1 - xn K0)) (hret : ∀ (b1 : Nat) (H1 : Heap) (locs1 : List Loc) (ls1 : Array Slot) (pc : Nat), cMW s A v a b1 K0 res.2.1 res.2.2 H1 locs1 → narrow .int (.int res.1) = .int res.1 → decode cX5_localRoom pc = .ok (.ireturn, 1) → W p l e R s m args below meth c H1 locs1 (xn res.2.1 - xn K0) (2 * (xn res.2.1 - xn K0)) Q (F0 m pc ls1 [.int res.1])) (x2 : Int32) (x3 : Int32) (F : PF) (G : PG) (hm : cb_X5_localRoom_15 fu x2 x3 F G = some res) {b : Nat} {H : Heap} {locs : List Loc} (hw : cMW s A v a b K0 F G H locs) {ls : Array Slot} (hl : lv_has ls 4 [(0, .ref (a 205)), (2, .int x2), (3, .int x3)]) : W p l e R s m args below meth c H locs (xn F - xn K0) (2 * (xn F - xn K0)) Q (F0 m 15 ls []) := by
  have hx := C.1
  have hb := C.2.1
  unfold cb_X5_localRoom_15 at hm
  refine lv_aload_n hx hb dX5_localRoom_15 rfl (lv_at hl 0 rfl) ?_
  refine cg_X5_96 C hw dX5_localRoom_16 ?_
  refine lv_sipush (v := 200) hx hb dX5_localRoom_19 (by decide) ?_
  refine lv_icmp_le (tgt := 32) hx hb dX5_localRoom_22 (by decide) (fun c_1 => ?_) (fun c_1 => ?_)
  · have hm := (if_pos c_1).symm.trans hm
    exact cw_X5_localRoom_32 fu C hret x3 F G hm hw (lv_sub hl [2] rfl)
  · have hm := (if_neg c_1).symm.trans hm
    exact cw_X5_localRoom_25 fu C hret x2 x3 F G hm hw (lv_sub hl [0, 1, 2] rfl)
theorem cn_X5_localRoom_4 (fu : Nat) {res : Int32 × PF × PG} (x1 : Int32) (x2 : Int32) (z0 : Int32) (F : PF) (G : PG) (hm : cb_X5_localRoom_4 fu x1 x2 z0 F G = some res) : xn F ≤ xn res.2.1 := by
  unfold cb_X5_localRoom_4 at hm
  exact Nat.le_trans (Nat.le_of_eq (xn_fup (by decide)).symm) (cn_X5_localRoom_15 fu x2 z0 (fup F 50 ((F 50) + x1)) G hm)
theorem cw_X5_localRoom_4 (fu : Nat) {res : Int32 × PF × PG} (C : cMC p R s m args c A v RX5 cX5_localRoom 4 1 22 (xn res.2.1 - xn K0)) (hret : ∀ (b1 : Nat) (H1 : Heap) (locs1 : List Loc) (ls1 : Array Slot) (pc : Nat), cMW s A v a b1 K0 res.2.1 res.2.2 H1 locs1 → narrow .int (.int res.1) = .int res.1 → decode cX5_localRoom pc = .ok (.ireturn, 1) → W p l e R s m args below meth c H1 locs1 (xn res.2.1 - xn K0) (2 * (xn res.2.1 - xn K0)) Q (F0 m pc ls1 [.int res.1])) (x1 : Int32) (x2 : Int32) (z0 : Int32) (F : PF) (G : PG) (hm : cb_X5_localRoom_4 fu x1 x2 z0 F G = some res) {b : Nat} {H : Heap} {locs : List Loc} (hw : cMW s A v a b K0 F G H locs) {ls : Array Slot} (hl : lv_has ls 4 [(0, .ref (a 205)), (1, .int x1), (2, .int x2)]) : W p l e R s m args below meth c H locs (xn F - xn K0) (2 * (xn F - xn K0)) Q (F0 m 4 ls [.int z0]) := by
  have hx := C.1
  have hb := C.2.1
  unfold cb_X5_localRoom_4 at hm
  refine lv_istore_n (lv' := [(3, .int z0), (0, .ref (a 205)), (1, .int x1), (2, .int x2)]) hx hb dX5_localRoom_4 rfl hl (by decide) rfl (fun ls hl => ?_)
  refine lv_aload_n hx hb dX5_localRoom_5 rfl (lv_at hl 1 rfl) ?_
  refine lv_dup hx hb dX5_localRoom_6 rfl ?_
  refine cg_X5_96 C hw dX5_localRoom_7 ?_
  refine lv_iload_n hx hb dX5_localRoom_10 rfl (lv_at hl 2 rfl) ?_
  refine lv_iadd hx hb dX5_localRoom_11 ?_
  refine cp_X5_96 C hw dX5_localRoom_12 (fun H locs hw => ?_)
  exact cw_X5_localRoom_15 fu C hret x2 z0 (fup F 50 ((F 50) + x1)) G hm hw (lv_sub hl [1, 3, 0] rfl)
theorem cn_X5_localRoom_0 (fu : Nat) {res : Int32 × PF × PG} (x1 : Int32) (x2 : Int32) (F : PF) (G : PG) (hm : cb_X5_localRoom_0 fu x1 x2 F G = some res) : xn F ≤ xn res.2.1 := by
  unfold cb_X5_localRoom_0 at hm
  obtain ⟨⟨r1, F1, G1⟩, hc, hm⟩ := bind_elim hm
  exact Nat.le_trans (cn_X5_measure fu F G _ hc) (cn_X5_localRoom_4 fu x1 x2 r1 F1 G1 hm)
theorem cw_X5_localRoom_0 (fu : Nat) {res : Int32 × PF × PG} (C : cMC p R s m args c A v RX5 cX5_localRoom 4 1 22 (xn res.2.1 - xn K0)) (hret : ∀ (b1 : Nat) (H1 : Heap) (locs1 : List Loc) (ls1 : Array Slot) (pc : Nat), cMW s A v a b1 K0 res.2.1 res.2.2 H1 locs1 → narrow .int (.int res.1) = .int res.1 → decode cX5_localRoom pc = .ok (.ireturn, 1) → W p l e R s m args below meth c H1 locs1 (xn res.2.1 - xn K0) (2 * (xn res.2.1 - xn K0)) Q (F0 m pc ls1 [.int res.1])) (x1 : Int32) (x2 : Int32) (F : PF) (G : PG) (hm : cb_X5_localRoom_0 fu x1 x2 F G = some res) {b : Nat} {H : Heap} {locs : List Loc} (hw : cMW s A v a b K0 F G H locs) {ls : Array Slot} (hl : lv_has ls 4 [(0, .ref (a 205)), (1, .int x1), (2, .int x2)]) : W p l e R s m args below meth c H locs (xn F - xn K0) (2 * (xn F - xn K0)) Q (F0 m 0 ls []) := by
  have hx := C.1
  have hb := C.2.1
  unfold cb_X5_localRoom_0 at hm
  refine lv_aload_n hx hb dX5_localRoom_0 rfl (lv_at hl 0 rfl) ?_
  obtain ⟨⟨r1, F1, G1⟩, hc, hm⟩ := bind_elim hm
  refine ccallI (n := 0) (As := []) (rest := []) C hw (ck_X5_measure l v a _ _ fu F G r1 F1 G1 hc) (cn_X5_measure fu F G _ hc) (Nat.sub_le_sub_right (cn_X5_localRoom_4 fu x1 x2 r1 F1 G1 hm) _) (crecv_X5 C hw) cm_638 cm_639 cm_640 cm_266 cm_641 (by decide +kernel) rfl (by omega) (by omega) hl.1 rfl (Nat.le_of_ble_eq_true rfl) dX5_localRoom_1 (fun b H locs hw => ?_)
  exact cw_X5_localRoom_4 fu C hret x1 x2 r1 F1 G1 hm hw (lv_sub hl [0, 1, 2] rfl)
theorem cn_X5_localRoom (fu : Nat) (x1 : Int32) (x2 : Int32) (F : PF) (G : PG) (q : Int32 × PF × PG) (hm : cf_X5_localRoom fu x1 x2 F G = some q) : xn F ≤ xn q.2.1 := cn_X5_localRoom_0 fu x1 x2 F G hm
theorem ck_X5_localRoom (l : Launch) (v : EV) (a : Nat → Nat) (b sz : Nat) (fu : Nat) (x1 : Int32) (x2 : Int32) (F : PF) (G : PG) (r : Int32) (F1 : PF) (G1 : PG) (hm : cf_X5_localRoom fu x1 x2 F G = some (r, F1, G1)) : cMI l yX5_localRoom cX5_localRoom 4 (some .int) 1 22 v a b sz [.ref (a 205), .int x1, .int x2] F G r F1 G1 := cMI.of (ty := .int) (by decide) rfl (Nat.le_of_ble_eq_true rfl) (fun p e R s m args below meth c Q A H locs ls C hw hl hret => cw_X5_localRoom_0 fu (res := (r, F1, G1)) C hret x1 x2 F G hm hw hl)
def cb_X4_wordsOf_14 (fu : Nat) (z0 : Int32) (F : PF) (G : PG) : PR := some (z0, F, G)
def cb_X4_wordsOf_9 (fu : Nat) (x1 : Int32) (F : PF) (G : PG) : PR := cb_X4_wordsOf_14 fu ((x1 + (3 : Int32)) / (4 : Int32)) F G
def cb_X4_wordsOf_5 (fu : Nat) (x1 : Int32) (F : PF) (G : PG) : PR := cb_X4_wordsOf_14 fu x1 F G
def cb_X4_wordsOf_0 (fu : Nat) (x0 : Int32) (x1 : Int32) (F : PF) (G : PG) : PR := if x0 = (2 : Int32) then cb_X4_wordsOf_5 fu x1 F G else cb_X4_wordsOf_9 fu x1 F G
def cf_X4_wordsOf (fu : Nat) (x0 : Int32) (x1 : Int32) (F : PF) (G : PG) : PR := cb_X4_wordsOf_0 fu x0 x1 F G
theorem cn_X4_wordsOf_14 (fu : Nat) {res : Int32 × PF × PG} (z0 : Int32) (F : PF) (G : PG) (hm : cb_X4_wordsOf_14 fu z0 F G = some res) : xn F ≤ xn res.2.1 := by
  unfold cb_X4_wordsOf_14 at hm
  obtain rfl := Option.some.inj hm
  exact Nat.le_refl _
theorem cw_X4_wordsOf_14 (fu : Nat) {res : Int32 × PF × PG} (C : cMC p R s m args c A v RX4 cX4_wordsOf 2 0 0 (xn res.2.1 - xn K0)) (hret : ∀ (b1 : Nat) (H1 : Heap) (locs1 : List Loc) (ls1 : Array Slot) (pc : Nat), cMW s A v a b1 K0 res.2.1 res.2.2 H1 locs1 → narrow .int (.int res.1) = .int res.1 → decode cX4_wordsOf pc = .ok (.ireturn, 1) → W p l e R s m args below meth c H1 locs1 (xn res.2.1 - xn K0) (2 * (xn res.2.1 - xn K0)) Q (F0 m pc ls1 [.int res.1])) (z0 : Int32) (F : PF) (G : PG) (hm : cb_X4_wordsOf_14 fu z0 F G = some res) {b : Nat} {H : Heap} {locs : List Loc} (hw : cMW s A v a b K0 F G H locs) {ls : Array Slot} (hl : lv_has ls 2 []) : W p l e R s m args below meth c H locs (xn F - xn K0) (2 * (xn F - xn K0)) Q (F0 m 14 ls [.int z0]) := by
  have hx := C.1
  have hb := C.2.1
  unfold cb_X4_wordsOf_14 at hm
  obtain rfl := Option.some.inj hm
  exact hret _ _ _ _ _ hw rfl dX4_wordsOf_14
theorem cn_X4_wordsOf_9 (fu : Nat) {res : Int32 × PF × PG} (x1 : Int32) (F : PF) (G : PG) (hm : cb_X4_wordsOf_9 fu x1 F G = some res) : xn F ≤ xn res.2.1 := by
  unfold cb_X4_wordsOf_9 at hm
  exact (cn_X4_wordsOf_14 fu ((x1 + (3 : Int32)) / (4 : Int32)) F G hm)
theorem cw_X4_wordsOf_9 (fu : Nat) {res : Int32 × PF × PG} (C : cMC p R s m args c A v RX4 cX4_wordsOf 2 0 0 (xn res.2.1 - xn K0)) (hret : ∀ (b1 : Nat) (H1 : Heap) (locs1 : List Loc) (ls1 : Array Slot) (pc : Nat), cMW s A v a b1 K0 res.2.1 res.2.2 H1 locs1 → narrow .int (.int res.1) = .int res.1 → decode cX4_wordsOf pc = .ok (.ireturn, 1) → W p l e R s m args below meth c H1 locs1 (xn res.2.1 - xn K0) (2 * (xn res.2.1 - xn K0)) Q (F0 m pc ls1 [.int res.1])) (x1 : Int32) (F : PF) (G : PG) (hm : cb_X4_wordsOf_9 fu x1 F G = some res) {b : Nat} {H : Heap} {locs : List Loc} (hw : cMW s A v a b K0 F G H locs) {ls : Array Slot} (hl : lv_has ls 2 [(1, .int x1)]) : W p l e R s m args below meth c H locs (xn F - xn K0) (2 * (xn F - xn K0)) Q (F0 m 9 ls []) := by
  have hx := C.1
  have hb := C.2.1
  unfold cb_X4_wordsOf_9 at hm
  refine lv_iload_n hx hb dX4_wordsOf_9 rfl (lv_at hl 0 rfl) ?_
  refine lv_iconst (v := 3) hx hb dX4_wordsOf_10 (by decide) ?_
  refine lv_iadd hx hb dX4_wordsOf_11 ?_
  refine lv_iconst (v := 4) hx hb dX4_wordsOf_12 (by decide) ?_
  refine lv_idiv hx hb dX4_wordsOf_13 (by decide) ?_
  exact cw_X4_wordsOf_14 fu C hret ((x1 + (3 : Int32)) / (4 : Int32)) F G hm hw (lv_sub hl [] rfl)
theorem cn_X4_wordsOf_5 (fu : Nat) {res : Int32 × PF × PG} (x1 : Int32) (F : PF) (G : PG) (hm : cb_X4_wordsOf_5 fu x1 F G = some res) : xn F ≤ xn res.2.1 := by
  unfold cb_X4_wordsOf_5 at hm
  exact (cn_X4_wordsOf_14 fu x1 F G hm)
theorem cw_X4_wordsOf_5 (fu : Nat) {res : Int32 × PF × PG} (C : cMC p R s m args c A v RX4 cX4_wordsOf 2 0 0 (xn res.2.1 - xn K0)) (hret : ∀ (b1 : Nat) (H1 : Heap) (locs1 : List Loc) (ls1 : Array Slot) (pc : Nat), cMW s A v a b1 K0 res.2.1 res.2.2 H1 locs1 → narrow .int (.int res.1) = .int res.1 → decode cX4_wordsOf pc = .ok (.ireturn, 1) → W p l e R s m args below meth c H1 locs1 (xn res.2.1 - xn K0) (2 * (xn res.2.1 - xn K0)) Q (F0 m pc ls1 [.int res.1])) (x1 : Int32) (F : PF) (G : PG) (hm : cb_X4_wordsOf_5 fu x1 F G = some res) {b : Nat} {H : Heap} {locs : List Loc} (hw : cMW s A v a b K0 F G H locs) {ls : Array Slot} (hl : lv_has ls 2 [(1, .int x1)]) : W p l e R s m args below meth c H locs (xn F - xn K0) (2 * (xn F - xn K0)) Q (F0 m 5 ls []) := by
  have hx := C.1
  have hb := C.2.1
  unfold cb_X4_wordsOf_5 at hm
  refine lv_iload_n hx hb dX4_wordsOf_5 rfl (lv_at hl 0 rfl) ?_
  refine lv_goto (tgt := 14) hx hb dX4_wordsOf_6 (by decide) ?_
  exact cw_X4_wordsOf_14 fu C hret x1 F G hm hw (lv_sub hl [] rfl)
theorem cn_X4_wordsOf_0 (fu : Nat) {res : Int32 × PF × PG} (x0 : Int32) (x1 : Int32) (F : PF) (G : PG) (hm : cb_X4_wordsOf_0 fu x0 x1 F G = some res) : xn F ≤ xn res.2.1 := by
  unfold cb_X4_wordsOf_0 at hm
  by_cases c_1 : x0 = (2 : Int32)
  · have hm := (if_pos c_1).symm.trans hm
    exact (cn_X4_wordsOf_5 fu x1 F G hm)
  · have hm := (if_neg c_1).symm.trans hm
    exact (cn_X4_wordsOf_9 fu x1 F G hm)
theorem cw_X4_wordsOf_0 (fu : Nat) {res : Int32 × PF × PG} (C : cMC p R s m args c A v RX4 cX4_wordsOf 2 0 0 (xn res.2.1 - xn K0)) (hret : ∀ (b1 : Nat) (H1 : Heap) (locs1 : List Loc) (ls1 : Array Slot) (pc : Nat), cMW s A v a b1 K0 res.2.1 res.2.2 H1 locs1 → narrow .int (.int res.1) = .int res.1 → decode cX4_wordsOf pc = .ok (.ireturn, 1) → W p l e R s m args below meth c H1 locs1 (xn res.2.1 - xn K0) (2 * (xn res.2.1 - xn K0)) Q (F0 m pc ls1 [.int res.1])) (x0 : Int32) (x1 : Int32) (F : PF) (G : PG) (hm : cb_X4_wordsOf_0 fu x0 x1 F G = some res) {b : Nat} {H : Heap} {locs : List Loc} (hw : cMW s A v a b K0 F G H locs) {ls : Array Slot} (hl : lv_has ls 2 [(0, .int x0), (1, .int x1)]) : W p l e R s m args below meth c H locs (xn F - xn K0) (2 * (xn F - xn K0)) Q (F0 m 0 ls []) := by
  have hx := C.1
  have hb := C.2.1
  unfold cb_X4_wordsOf_0 at hm
  refine lv_iload_n hx hb dX4_wordsOf_0 rfl (lv_at hl 0 rfl) ?_
  refine lv_iconst (v := 2) hx hb dX4_wordsOf_1 (by decide) ?_
  refine lv_icmp_ne (tgt := 9) hx hb dX4_wordsOf_2 (by decide) (fun c_1 => ?_) (fun c_1 => ?_)
  · have hm := (if_neg c_1).symm.trans hm
    exact cw_X4_wordsOf_9 fu C hret x1 F G hm hw (lv_sub hl [1] rfl)
  · have hm := (if_pos c_1).symm.trans hm
    exact cw_X4_wordsOf_5 fu C hret x1 F G hm hw (lv_sub hl [1] rfl)
theorem cn_X4_wordsOf (fu : Nat) (x0 : Int32) (x1 : Int32) (F : PF) (G : PG) (q : Int32 × PF × PG) (hm : cf_X4_wordsOf fu x0 x1 F G = some q) : xn F ≤ xn q.2.1 := cn_X4_wordsOf_0 fu x0 x1 F G hm
theorem ck_X4_wordsOf (l : Launch) (v : EV) (a : Nat → Nat) (b sz : Nat) (fu : Nat) (x0 : Int32) (x1 : Int32) (F : PF) (G : PG) (r : Int32) (F1 : PF) (G1 : PG) (hm : cf_X4_wordsOf fu x0 x1 F G = some (r, F1, G1)) : cMI l yX4_wordsOf cX4_wordsOf 2 (some .int) 0 0 v a b sz [.int x0, .int x1] F G r F1 G1 := cMI.of (ty := .int) (by decide) rfl (Nat.le_of_ble_eq_true rfl) (fun p e R s m args below meth c Q A H locs ls C hw hl hret => cw_X4_wordsOf_0 fu (res := (r, F1, G1)) C hret x0 x1 F G hm hw hl)
def cb_X4_localArray_54 (fu : Nat) (F : PF) (G : PG) : PR := some (0, F, G)
def cb_X4_localArray_40 (fu : Nat) (x1 : Int32) (x2 : Int32) (x3 : Int32) (x4 : Int32) (x6 : Int32) (F : PF) (G : PG) : PR := (cf_X5_tell fu x1 x2 x3 x6 x4 F G).bind (fun q => cb_X4_localArray_54 fu q.2.1 q.2.2)
def cb_X4_localArray_31 (fu : Nat) (x1 : Int32) (x2 : Int32) (x3 : Int32) (x4 : Int32) (x5 : Int32) (x6 : Int32) (F : PF) (G : PG) : PR := (cf_X1_add fu x5 F G).bind (fun q => cb_X4_localArray_40 fu x1 x2 x3 x4 x6 q.2.1 q.2.2)
def cb_X4_localArray_18 (fu : Nat) (x1 : Int32) (x2 : Int32) (x3 : Int32) (x4 : Int32) (x5 : Int32) (z0 : Int32) (F : PF) (G : PG) : PR := (cf_X1_addPair fu 73 z0 F G).bind (fun q => cb_X4_localArray_31 fu x1 x2 x3 x4 x5 z0 q.2.1 q.2.2)
def cb_X4_localArray_6 (fu : Nat) (x1 : Int32) (x2 : Int32) (x3 : Int32) (x4 : Int32) (z0 : Int32) (F : PF) (G : PG) : PR := (cf_X5_localRoom fu z0 x2 F G).bind (fun q => cb_X4_localArray_18 fu x1 x2 x3 x4 z0 q.1 q.2.1 q.2.2)
def cb_X4_localArray_0 (fu : Nat) (x1 : Int32) (x2 : Int32) (x3 : Int32) (x4 : Int32) (F : PF) (G : PG) : PR := (cf_X4_wordsOf fu x3 x4 F G).bind (fun q => cb_X4_localArray_6 fu x1 x2 x3 x4 q.1 q.2.1 q.2.2)
def cf_X4_localArray (fu : Nat) (x1 : Int32) (x2 : Int32) (x3 : Int32) (x4 : Int32) (F : PF) (G : PG) : PR := cb_X4_localArray_0 fu x1 x2 x3 x4 F G
theorem cn_X4_localArray_54 (fu : Nat) {res : Int32 × PF × PG} (F : PF) (G : PG) (hm : cb_X4_localArray_54 fu F G = some res) : xn F ≤ xn res.2.1 := by
  unfold cb_X4_localArray_54 at hm
  obtain rfl := Option.some.inj hm
  exact Nat.le_refl _
theorem cw_X4_localArray_54 (fu : Nat) {res : Int32 × PF × PG} (C : cMC p R s m args c A v RX4 cX4_localArray 7 2 53 (xn res.2.1 - xn K0)) (hret : ∀ (b1 : Nat) (H1 : Heap) (locs1 : List Loc) (ls1 : Array Slot) (pc : Nat), cMW s A v a b1 K0 res.2.1 res.2.2 H1 locs1 → decode cX4_localArray pc = .ok (.return_, 1) → W p l e R s m args below meth c H1 locs1 (xn res.2.1 - xn K0) (2 * (xn res.2.1 - xn K0)) Q (F0 m pc ls1 [])) (F : PF) (G : PG) (hm : cb_X4_localArray_54 fu F G = some res) {b : Nat} {H : Heap} {locs : List Loc} (hw : cMW s A v a b K0 F G H locs) {ls : Array Slot} (hl : lv_has ls 7 []) : W p l e R s m args below meth c H locs (xn F - xn K0) (2 * (xn F - xn K0)) Q (F0 m 54 ls []) := by
  have hx := C.1
  have hb := C.2.1
  unfold cb_X4_localArray_54 at hm
  obtain rfl := Option.some.inj hm
  exact hret _ _ _ _ _ hw dX4_localArray_54
theorem cn_X4_localArray_40 (fu : Nat) {res : Int32 × PF × PG} (x1 : Int32) (x2 : Int32) (x3 : Int32) (x4 : Int32) (x6 : Int32) (F : PF) (G : PG) (hm : cb_X4_localArray_40 fu x1 x2 x3 x4 x6 F G = some res) : xn F ≤ xn res.2.1 := by
  unfold cb_X4_localArray_40 at hm
  obtain ⟨⟨r1, F1, G1⟩, hc, hm⟩ := bind_elim hm
  exact Nat.le_trans (cn_X5_tell fu x1 x2 x3 x6 x4 F G _ hc) (cn_X4_localArray_54 fu F1 G1 hm)
theorem cw_X4_localArray_40 (fu : Nat) {res : Int32 × PF × PG} (C : cMC p R s m args c A v RX4 cX4_localArray 7 2 53 (xn res.2.1 - xn K0)) (hret : ∀ (b1 : Nat) (H1 : Heap) (locs1 : List Loc) (ls1 : Array Slot) (pc : Nat), cMW s A v a b1 K0 res.2.1 res.2.2 H1 locs1 → decode cX4_localArray pc = .ok (.return_, 1) → W p l e R s m args below meth c H1 locs1 (xn res.2.1 - xn K0) (2 * (xn res.2.1 - xn K0)) Q (F0 m pc ls1 [])) (x1 : Int32) (x2 : Int32) (x3 : Int32) (x4 : Int32) (x6 : Int32) (F : PF) (G : PG) (hm : cb_X4_localArray_40 fu x1 x2 x3 x4 x6 F G = some res) {b : Nat} {H : Heap} {locs : List Loc} (hw : cMW s A v a b K0 F G H locs) {ls : Array Slot} (hl : lv_has ls 7 [(0, .ref (a 204)), (1, .int x1), (2, .int x2), (3, .int x3), (4, .int x4), (6, .int x6)]) : W p l e R s m args below meth c H locs (xn F - xn K0) (2 * (xn F - xn K0)) Q (F0 m 40 ls []) := by
  have hx := C.1
  have hb := C.2.1
  unfold cb_X4_localArray_40 at hm
  refine lv_aload_n hx hb dX4_localArray_40 rfl (lv_at hl 0 rfl) ?_
  refine cg_X4_15 C hw dX4_localArray_41 ?_
  refine lv_iload_n hx hb dX4_localArray_44 rfl (lv_at hl 1 rfl) ?_
  refine lv_iload_n hx hb dX4_localArray_45 rfl (lv_at hl 2 rfl) ?_
  refine lv_iload_n hx hb dX4_localArray_46 rfl (lv_at hl 3 rfl) ?_
  refine lv_iload hx hb dX4_localArray_47 (lv_at hl 5 rfl) ?_
  refine lv_iload hx hb dX4_localArray_49 (lv_at hl 4 rfl) ?_
  obtain ⟨⟨r1, F1, G1⟩, hc, hm⟩ := bind_elim hm
  refine ccallV (n := 5) (As := [.int x1, .int x2, .int x3, .int x6, .int x4]) (rest := []) C hw (ck_X5_tell l v a _ _ fu x1 x2 x3 x6 x4 F G r1 F1 G1 hc) (cn_X5_tell fu x1 x2 x3 x6 x4 F G _ hc) (Nat.sub_le_sub_right (cn_X4_localArray_54 fu F1 G1 hm) _) (crecv_X5 C hw) cm_574 cm_575 cm_576 cm_266 cm_577 (by decide +kernel) rfl (by omega) (by omega) hl.1 rfl (Nat.le_of_ble_eq_true rfl) dX4_localArray_51 (fun b H locs hw => ?_)
  exact cw_X4_localArray_54 fu C hret F1 G1 hm hw (lv_sub hl [] rfl)
theorem cn_X4_localArray_31 (fu : Nat) {res : Int32 × PF × PG} (x1 : Int32) (x2 : Int32) (x3 : Int32) (x4 : Int32) (x5 : Int32) (x6 : Int32) (F : PF) (G : PG) (hm : cb_X4_localArray_31 fu x1 x2 x3 x4 x5 x6 F G = some res) : xn F ≤ xn res.2.1 := by
  unfold cb_X4_localArray_31 at hm
  obtain ⟨⟨r1, F1, G1⟩, hc, hm⟩ := bind_elim hm
  exact Nat.le_trans (cn_X1_add fu x5 F G _ hc) (cn_X4_localArray_40 fu x1 x2 x3 x4 x6 F1 G1 hm)
theorem cw_X4_localArray_31 (fu : Nat) {res : Int32 × PF × PG} (C : cMC p R s m args c A v RX4 cX4_localArray 7 2 53 (xn res.2.1 - xn K0)) (hret : ∀ (b1 : Nat) (H1 : Heap) (locs1 : List Loc) (ls1 : Array Slot) (pc : Nat), cMW s A v a b1 K0 res.2.1 res.2.2 H1 locs1 → decode cX4_localArray pc = .ok (.return_, 1) → W p l e R s m args below meth c H1 locs1 (xn res.2.1 - xn K0) (2 * (xn res.2.1 - xn K0)) Q (F0 m pc ls1 [])) (x1 : Int32) (x2 : Int32) (x3 : Int32) (x4 : Int32) (x5 : Int32) (x6 : Int32) (F : PF) (G : PG) (hm : cb_X4_localArray_31 fu x1 x2 x3 x4 x5 x6 F G = some res) {b : Nat} {H : Heap} {locs : List Loc} (hw : cMW s A v a b K0 F G H locs) {ls : Array Slot} (hl : lv_has ls 7 [(0, .ref (a 204)), (1, .int x1), (2, .int x2), (3, .int x3), (4, .int x4), (5, .int x5), (6, .int x6)]) : W p l e R s m args below meth c H locs (xn F - xn K0) (2 * (xn F - xn K0)) Q (F0 m 31 ls []) := by
  have hx := C.1
  have hb := C.2.1
  unfold cb_X4_localArray_31 at hm
  refine lv_aload_n hx hb dX4_localArray_31 rfl (lv_at hl 0 rfl) ?_
  refine cg_X4_19 C hw dX4_localArray_32 ?_
  refine lv_iload hx hb dX4_localArray_35 (lv_at hl 5 rfl) ?_
  obtain ⟨⟨r1, F1, G1⟩, hc, hm⟩ := bind_elim hm
  refine ccallV (n := 1) (As := [.int x5]) (rest := []) C hw (ck_X1_add l v a _ _ fu x5 F G r1 F1 G1 hc) (cn_X1_add fu x5 F G _ hc) (Nat.sub_le_sub_right (cn_X4_localArray_40 fu x1 x2 x3 x4 x6 F1 G1 hm) _) (crecv_X1 C hw) cm_687 cm_453 cm_454 cm_369 cm_455 (by decide +kernel) rfl (by omega) (by omega) hl.1 rfl (Nat.le_of_ble_eq_true rfl) dX4_localArray_37 (fun b H locs hw => ?_)
  exact cw_X4_localArray_40 fu C hret x1 x2 x3 x4 x6 F1 G1 hm hw (lv_sub hl [0, 1, 2, 3, 4, 6] rfl)
theorem cn_X4_localArray_18 (fu : Nat) {res : Int32 × PF × PG} (x1 : Int32) (x2 : Int32) (x3 : Int32) (x4 : Int32) (x5 : Int32) (z0 : Int32) (F : PF) (G : PG) (hm : cb_X4_localArray_18 fu x1 x2 x3 x4 x5 z0 F G = some res) : xn F ≤ xn res.2.1 := by
  unfold cb_X4_localArray_18 at hm
  obtain ⟨⟨r1, F1, G1⟩, hc, hm⟩ := bind_elim hm
  exact Nat.le_trans (cn_X1_addPair fu 73 z0 F G _ hc) (cn_X4_localArray_31 fu x1 x2 x3 x4 x5 z0 F1 G1 hm)
theorem cw_X4_localArray_18 (fu : Nat) {res : Int32 × PF × PG} (C : cMC p R s m args c A v RX4 cX4_localArray 7 2 53 (xn res.2.1 - xn K0)) (hret : ∀ (b1 : Nat) (H1 : Heap) (locs1 : List Loc) (ls1 : Array Slot) (pc : Nat), cMW s A v a b1 K0 res.2.1 res.2.2 H1 locs1 → decode cX4_localArray pc = .ok (.return_, 1) → W p l e R s m args below meth c H1 locs1 (xn res.2.1 - xn K0) (2 * (xn res.2.1 - xn K0)) Q (F0 m pc ls1 [])) (x1 : Int32) (x2 : Int32) (x3 : Int32) (x4 : Int32) (x5 : Int32) (z0 : Int32) (F : PF) (G : PG) (hm : cb_X4_localArray_18 fu x1 x2 x3 x4 x5 z0 F G = some res) {b : Nat} {H : Heap} {locs : List Loc} (hw : cMW s A v a b K0 F G H locs) {ls : Array Slot} (hl : lv_has ls 7 [(0, .ref (a 204)), (1, .int x1), (2, .int x2), (3, .int x3), (4, .int x4), (5, .int x5)]) : W p l e R s m args below meth c H locs (xn F - xn K0) (2 * (xn F - xn K0)) Q (F0 m 18 ls [.int z0]) := by
  have hx := C.1
  have hb := C.2.1
  unfold cb_X4_localArray_18 at hm
  refine lv_istore (lv' := [(6, .int z0), (0, .ref (a 204)), (1, .int x1), (2, .int x2), (3, .int x3), (4, .int x4), (5, .int x5)]) hx hb dX4_localArray_18 hl (by decide) rfl (fun ls hl => ?_)
  refine lv_aload_n hx hb dX4_localArray_20 rfl (lv_at hl 1 rfl) ?_
  refine cg_X4_19 C hw dX4_localArray_21 ?_
  refine lv_bipush (v := 73) hx hb dX4_localArray_24 (by decide) ?_
  refine lv_iload hx hb dX4_localArray_26 (lv_at hl 0 rfl) ?_
  obtain ⟨⟨r1, F1, G1⟩, hc, hm⟩ := bind_elim hm
  refine ccallV (n := 2) (As := [.int 73, .int z0]) (rest := []) C hw (ck_X1_addPair l v a _ _ fu 73 z0 F G r1 F1 G1 hc) (cn_X1_addPair fu 73 z0 F G _ hc) (Nat.sub_le_sub_right (cn_X4_localArray_31 fu x1 x2 x3 x4 x5 z0 F1 G1 hm) _) (crecv_X1 C hw) cm_660 cm_449 cm_450 cm_369 cm_451 (by decide +kernel) rfl (by omega) (by omega) hl.1 rfl (Nat.le_of_ble_eq_true rfl) dX4_localArray_28 (fun b H locs hw => ?_)
  exact cw_X4_localArray_31 fu C hret x1 x2 x3 x4 x5 z0 F1 G1 hm hw (lv_sub hl [1, 2, 3, 4, 5, 6, 0] rfl)
theorem cn_X4_localArray_6 (fu : Nat) {res : Int32 × PF × PG} (x1 : Int32) (x2 : Int32) (x3 : Int32) (x4 : Int32) (z0 : Int32) (F : PF) (G : PG) (hm : cb_X4_localArray_6 fu x1 x2 x3 x4 z0 F G = some res) : xn F ≤ xn res.2.1 := by
  unfold cb_X4_localArray_6 at hm
  obtain ⟨⟨r1, F1, G1⟩, hc, hm⟩ := bind_elim hm
  exact Nat.le_trans (cn_X5_localRoom fu z0 x2 F G _ hc) (cn_X4_localArray_18 fu x1 x2 x3 x4 z0 r1 F1 G1 hm)
theorem cw_X4_localArray_6 (fu : Nat) {res : Int32 × PF × PG} (C : cMC p R s m args c A v RX4 cX4_localArray 7 2 53 (xn res.2.1 - xn K0)) (hret : ∀ (b1 : Nat) (H1 : Heap) (locs1 : List Loc) (ls1 : Array Slot) (pc : Nat), cMW s A v a b1 K0 res.2.1 res.2.2 H1 locs1 → decode cX4_localArray pc = .ok (.return_, 1) → W p l e R s m args below meth c H1 locs1 (xn res.2.1 - xn K0) (2 * (xn res.2.1 - xn K0)) Q (F0 m pc ls1 [])) (x1 : Int32) (x2 : Int32) (x3 : Int32) (x4 : Int32) (z0 : Int32) (F : PF) (G : PG) (hm : cb_X4_localArray_6 fu x1 x2 x3 x4 z0 F G = some res) {b : Nat} {H : Heap} {locs : List Loc} (hw : cMW s A v a b K0 F G H locs) {ls : Array Slot} (hl : lv_has ls 7 [(0, .ref (a 204)), (1, .int x1), (2, .int x2), (3, .int x3), (4, .int x4)]) : W p l e R s m args below meth c H locs (xn F - xn K0) (2 * (xn F - xn K0)) Q (F0 m 6 ls [.int z0]) := by
  have hx := C.1
  have hb := C.2.1
  unfold cb_X4_localArray_6 at hm
  refine lv_istore (lv' := [(5, .int z0), (0, .ref (a 204)), (1, .int x1), (2, .int x2), (3, .int x3), (4, .int x4)]) hx hb dX4_localArray_6 hl (by decide) rfl (fun ls hl => ?_)
  refine lv_aload_n hx hb dX4_localArray_8 rfl (lv_at hl 1 rfl) ?_
  refine cg_X4_15 C hw dX4_localArray_9 ?_
  refine lv_iload hx hb dX4_localArray_12 (lv_at hl 0 rfl) ?_
  refine lv_iload_n hx hb dX4_localArray_14 rfl (lv_at hl 3 rfl) ?_
  obtain ⟨⟨r1, F1, G1⟩, hc, hm⟩ := bind_elim hm
  refine ccallI (n := 2) (As := [.int z0, .int x2]) (rest := []) C hw (ck_X5_localRoom l v a _ _ fu z0 x2 F G r1 F1 G1 hc) (cn_X5_localRoom fu z0 x2 F G _ hc) (Nat.sub_le_sub_right (cn_X4_localArray_18 fu x1 x2 x3 x4 z0 r1 F1 G1 hm) _) (crecv_X5 C hw) cm_683 cm_684 cm_685 cm_266 cm_686 (by decide +kernel) rfl (by omega) (by omega) hl.1 rfl (Nat.le_of_ble_eq_true rfl) dX4_localArray_15 (fun b H locs hw => ?_)
  exact cw_X4_localArray_18 fu C hret x1 x2 x3 x4 z0 r1 F1 G1 hm hw (lv_sub hl [1, 2, 3, 4, 5, 0] rfl)
theorem cn_X4_localArray_0 (fu : Nat) {res : Int32 × PF × PG} (x1 : Int32) (x2 : Int32) (x3 : Int32) (x4 : Int32) (F : PF) (G : PG) (hm : cb_X4_localArray_0 fu x1 x2 x3 x4 F G = some res) : xn F ≤ xn res.2.1 := by
  unfold cb_X4_localArray_0 at hm
  obtain ⟨⟨r1, F1, G1⟩, hc, hm⟩ := bind_elim hm
  exact Nat.le_trans (cn_X4_wordsOf fu x3 x4 F G _ hc) (cn_X4_localArray_6 fu x1 x2 x3 x4 r1 F1 G1 hm)
theorem cw_X4_localArray_0 (fu : Nat) {res : Int32 × PF × PG} (C : cMC p R s m args c A v RX4 cX4_localArray 7 2 53 (xn res.2.1 - xn K0)) (hret : ∀ (b1 : Nat) (H1 : Heap) (locs1 : List Loc) (ls1 : Array Slot) (pc : Nat), cMW s A v a b1 K0 res.2.1 res.2.2 H1 locs1 → decode cX4_localArray pc = .ok (.return_, 1) → W p l e R s m args below meth c H1 locs1 (xn res.2.1 - xn K0) (2 * (xn res.2.1 - xn K0)) Q (F0 m pc ls1 [])) (x1 : Int32) (x2 : Int32) (x3 : Int32) (x4 : Int32) (F : PF) (G : PG) (hm : cb_X4_localArray_0 fu x1 x2 x3 x4 F G = some res) {b : Nat} {H : Heap} {locs : List Loc} (hw : cMW s A v a b K0 F G H locs) {ls : Array Slot} (hl : lv_has ls 7 [(0, .ref (a 204)), (1, .int x1), (2, .int x2), (3, .int x3), (4, .int x4)]) : W p l e R s m args below meth c H locs (xn F - xn K0) (2 * (xn F - xn K0)) Q (F0 m 0 ls []) := by
  have hx := C.1
  have hb := C.2.1
  unfold cb_X4_localArray_0 at hm
  refine lv_iload_n hx hb dX4_localArray_0 rfl (lv_at hl 3 rfl) ?_
  refine lv_iload hx hb dX4_localArray_1 (lv_at hl 4 rfl) ?_
  obtain ⟨⟨r1, F1, G1⟩, hc, hm⟩ := bind_elim hm
  refine ccallIS (n := 2) (As := [.int x3, .int x4]) (rest := []) C hw (ck_X4_wordsOf l v a _ _ fu x3 x4 F G r1 F1 G1 hc) (cn_X4_wordsOf fu x3 x4 F G _ hc) (Nat.sub_le_sub_right (cn_X4_localArray_6 fu x1 x2 x3 x4 r1 F1 G1 hm) _) cm_680 cm_681 cm_244 cm_682 (by decide +kernel) rfl (by omega) (by omega) hl.1 rfl (Nat.le_of_ble_eq_true rfl) dX4_localArray_3 (fun b H locs hw => ?_)
  exact cw_X4_localArray_6 fu C hret x1 x2 x3 x4 r1 F1 G1 hm hw (lv_sub hl [0, 1, 2, 3, 4] rfl)
theorem cn_X4_localArray (fu : Nat) (x1 : Int32) (x2 : Int32) (x3 : Int32) (x4 : Int32) (F : PF) (G : PG) (q : Int32 × PF × PG) (hm : cf_X4_localArray fu x1 x2 x3 x4 F G = some q) : xn F ≤ xn q.2.1 := cn_X4_localArray_0 fu x1 x2 x3 x4 F G hm
theorem ck_X4_localArray (l : Launch) (v : EV) (a : Nat → Nat) (b sz : Nat) (fu : Nat) (x1 : Int32) (x2 : Int32) (x3 : Int32) (x4 : Int32) (F : PF) (G : PG) (r : Int32) (F1 : PF) (G1 : PG) (hm : cf_X4_localArray fu x1 x2 x3 x4 F G = some (r, F1, G1)) : cMV l yX4_localArray cX4_localArray 7 2 53 v a b sz [.ref (a 204), .int x1, .int x2, .int x3, .int x4] F G F1 G1 := cMV.of (by decide) (Nat.le_of_ble_eq_true rfl) (fun p e R s m args below meth c Q A H locs ls C hw hl hret => cw_X4_localArray_0 fu (res := (r, F1, G1)) C hret x1 x2 x3 x4 F G hm hw hl)
def cb_X4_localInt_32 (fu : Nat) (F : PF) (G : PG) : PR := some (0, F, G)
def cb_X4_localInt_20 (fu : Nat) (x1 : Int32) (x2 : Int32) (x3 : Int32) (F : PF) (G : PG) : PR := (cf_X5_tell fu x1 x2 1 x3 0 F G).bind (fun q => cb_X4_localInt_32 fu q.2.1 q.2.2)
def cb_X4_localInt_9 (fu : Nat) (x1 : Int32) (x2 : Int32) (z0 : Int32) (F : PF) (G : PG) : PR := (cf_X1_addPair fu 72 z0 F G).bind (fun q => cb_X4_localInt_20 fu x1 x2 z0 q.2.1 q.2.2)
def cb_X4_localInt_0 (fu : Nat) (x1 : Int32) (x2 : Int32) (F : PF) (G : PG) : PR := (cf_X5_localRoom fu 1 x2 F G).bind (fun q => cb_X4_localInt_9 fu x1 x2 q.1 q.2.1 q.2.2)
def cf_X4_localInt (fu : Nat) (x1 : Int32) (x2 : Int32) (F : PF) (G : PG) : PR := cb_X4_localInt_0 fu x1 x2 F G
theorem cn_X4_localInt_32 (fu : Nat) {res : Int32 × PF × PG} (F : PF) (G : PG) (hm : cb_X4_localInt_32 fu F G = some res) : xn F ≤ xn res.2.1 := by
  unfold cb_X4_localInt_32 at hm
  obtain rfl := Option.some.inj hm
  exact Nat.le_refl _
theorem cw_X4_localInt_32 (fu : Nat) {res : Int32 × PF × PG} (C : cMC p R s m args c A v RX4 cX4_localInt 4 2 53 (xn res.2.1 - xn K0)) (hret : ∀ (b1 : Nat) (H1 : Heap) (locs1 : List Loc) (ls1 : Array Slot) (pc : Nat), cMW s A v a b1 K0 res.2.1 res.2.2 H1 locs1 → decode cX4_localInt pc = .ok (.return_, 1) → W p l e R s m args below meth c H1 locs1 (xn res.2.1 - xn K0) (2 * (xn res.2.1 - xn K0)) Q (F0 m pc ls1 [])) (F : PF) (G : PG) (hm : cb_X4_localInt_32 fu F G = some res) {b : Nat} {H : Heap} {locs : List Loc} (hw : cMW s A v a b K0 F G H locs) {ls : Array Slot} (hl : lv_has ls 4 []) : W p l e R s m args below meth c H locs (xn F - xn K0) (2 * (xn F - xn K0)) Q (F0 m 32 ls []) := by
  have hx := C.1
  have hb := C.2.1
  unfold cb_X4_localInt_32 at hm
  obtain rfl := Option.some.inj hm
  exact hret _ _ _ _ _ hw dX4_localInt_32
theorem cn_X4_localInt_20 (fu : Nat) {res : Int32 × PF × PG} (x1 : Int32) (x2 : Int32) (x3 : Int32) (F : PF) (G : PG) (hm : cb_X4_localInt_20 fu x1 x2 x3 F G = some res) : xn F ≤ xn res.2.1 := by
  unfold cb_X4_localInt_20 at hm
  obtain ⟨⟨r1, F1, G1⟩, hc, hm⟩ := bind_elim hm
  exact Nat.le_trans (cn_X5_tell fu x1 x2 1 x3 0 F G _ hc) (cn_X4_localInt_32 fu F1 G1 hm)
theorem cw_X4_localInt_20 (fu : Nat) {res : Int32 × PF × PG} (C : cMC p R s m args c A v RX4 cX4_localInt 4 2 53 (xn res.2.1 - xn K0)) (hret : ∀ (b1 : Nat) (H1 : Heap) (locs1 : List Loc) (ls1 : Array Slot) (pc : Nat), cMW s A v a b1 K0 res.2.1 res.2.2 H1 locs1 → decode cX4_localInt pc = .ok (.return_, 1) → W p l e R s m args below meth c H1 locs1 (xn res.2.1 - xn K0) (2 * (xn res.2.1 - xn K0)) Q (F0 m pc ls1 [])) (x1 : Int32) (x2 : Int32) (x3 : Int32) (F : PF) (G : PG) (hm : cb_X4_localInt_20 fu x1 x2 x3 F G = some res) {b : Nat} {H : Heap} {locs : List Loc} (hw : cMW s A v a b K0 F G H locs) {ls : Array Slot} (hl : lv_has ls 4 [(0, .ref (a 204)), (1, .int x1), (2, .int x2), (3, .int x3)]) : W p l e R s m args below meth c H locs (xn F - xn K0) (2 * (xn F - xn K0)) Q (F0 m 20 ls []) := by
  have hx := C.1
  have hb := C.2.1
  unfold cb_X4_localInt_20 at hm
  refine lv_aload_n hx hb dX4_localInt_20 rfl (lv_at hl 0 rfl) ?_
  refine cg_X4_15 C hw dX4_localInt_21 ?_
  refine lv_iload_n hx hb dX4_localInt_24 rfl (lv_at hl 1 rfl) ?_
  refine lv_iload_n hx hb dX4_localInt_25 rfl (lv_at hl 2 rfl) ?_
  refine lv_iconst (v := 1) hx hb dX4_localInt_26 (by decide) ?_
  refine lv_iload_n hx hb dX4_localInt_27 rfl (lv_at hl 3 rfl) ?_
  refine lv_iconst (v := 0) hx hb dX4_localInt_28 (by decide) ?_
  obtain ⟨⟨r1, F1, G1⟩, hc, hm⟩ := bind_elim hm
  refine ccallV (n := 5) (As := [.int x1, .int x2, .int 1, .int x3, .int 0]) (rest := []) C hw (ck_X5_tell l v a _ _ fu x1 x2 1 x3 0 F G r1 F1 G1 hc) (cn_X5_tell fu x1 x2 1 x3 0 F G _ hc) (Nat.sub_le_sub_right (cn_X4_localInt_32 fu F1 G1 hm) _) (crecv_X5 C hw) cm_574 cm_575 cm_576 cm_266 cm_577 (by decide +kernel) rfl (by omega) (by omega) hl.1 rfl (Nat.le_of_ble_eq_true rfl) dX4_localInt_29 (fun b H locs hw => ?_)
  exact cw_X4_localInt_32 fu C hret F1 G1 hm hw (lv_sub hl [] rfl)
theorem cn_X4_localInt_9 (fu : Nat) {res : Int32 × PF × PG} (x1 : Int32) (x2 : Int32) (z0 : Int32) (F : PF) (G : PG) (hm : cb_X4_localInt_9 fu x1 x2 z0 F G = some res) : xn F ≤ xn res.2.1 := by
  unfold cb_X4_localInt_9 at hm
  obtain ⟨⟨r1, F1, G1⟩, hc, hm⟩ := bind_elim hm
  exact Nat.le_trans (cn_X1_addPair fu 72 z0 F G _ hc) (cn_X4_localInt_20 fu x1 x2 z0 F1 G1 hm)
theorem cw_X4_localInt_9 (fu : Nat) {res : Int32 × PF × PG} (C : cMC p R s m args c A v RX4 cX4_localInt 4 2 53 (xn res.2.1 - xn K0)) (hret : ∀ (b1 : Nat) (H1 : Heap) (locs1 : List Loc) (ls1 : Array Slot) (pc : Nat), cMW s A v a b1 K0 res.2.1 res.2.2 H1 locs1 → decode cX4_localInt pc = .ok (.return_, 1) → W p l e R s m args below meth c H1 locs1 (xn res.2.1 - xn K0) (2 * (xn res.2.1 - xn K0)) Q (F0 m pc ls1 [])) (x1 : Int32) (x2 : Int32) (z0 : Int32) (F : PF) (G : PG) (hm : cb_X4_localInt_9 fu x1 x2 z0 F G = some res) {b : Nat} {H : Heap} {locs : List Loc} (hw : cMW s A v a b K0 F G H locs) {ls : Array Slot} (hl : lv_has ls 4 [(0, .ref (a 204)), (1, .int x1), (2, .int x2)]) : W p l e R s m args below meth c H locs (xn F - xn K0) (2 * (xn F - xn K0)) Q (F0 m 9 ls [.int z0]) := by
  have hx := C.1
  have hb := C.2.1
  unfold cb_X4_localInt_9 at hm
  refine lv_istore_n (lv' := [(3, .int z0), (0, .ref (a 204)), (1, .int x1), (2, .int x2)]) hx hb dX4_localInt_9 rfl hl (by decide) rfl (fun ls hl => ?_)
  refine lv_aload_n hx hb dX4_localInt_10 rfl (lv_at hl 1 rfl) ?_
  refine cg_X4_19 C hw dX4_localInt_11 ?_
  refine lv_bipush (v := 72) hx hb dX4_localInt_14 (by decide) ?_
  refine lv_iload_n hx hb dX4_localInt_16 rfl (lv_at hl 0 rfl) ?_
  obtain ⟨⟨r1, F1, G1⟩, hc, hm⟩ := bind_elim hm
  refine ccallV (n := 2) (As := [.int 72, .int z0]) (rest := []) C hw (ck_X1_addPair l v a _ _ fu 72 z0 F G r1 F1 G1 hc) (cn_X1_addPair fu 72 z0 F G _ hc) (Nat.sub_le_sub_right (cn_X4_localInt_20 fu x1 x2 z0 F1 G1 hm) _) (crecv_X1 C hw) cm_660 cm_449 cm_450 cm_369 cm_451 (by decide +kernel) rfl (by omega) (by omega) hl.1 rfl (Nat.le_of_ble_eq_true rfl) dX4_localInt_17 (fun b H locs hw => ?_)
  exact cw_X4_localInt_20 fu C hret x1 x2 z0 F1 G1 hm hw (lv_sub hl [1, 2, 3, 0] rfl)
theorem cn_X4_localInt_0 (fu : Nat) {res : Int32 × PF × PG} (x1 : Int32) (x2 : Int32) (F : PF) (G : PG) (hm : cb_X4_localInt_0 fu x1 x2 F G = some res) : xn F ≤ xn res.2.1 := by
  unfold cb_X4_localInt_0 at hm
  obtain ⟨⟨r1, F1, G1⟩, hc, hm⟩ := bind_elim hm
  exact Nat.le_trans (cn_X5_localRoom fu 1 x2 F G _ hc) (cn_X4_localInt_9 fu x1 x2 r1 F1 G1 hm)
theorem cw_X4_localInt_0 (fu : Nat) {res : Int32 × PF × PG} (C : cMC p R s m args c A v RX4 cX4_localInt 4 2 53 (xn res.2.1 - xn K0)) (hret : ∀ (b1 : Nat) (H1 : Heap) (locs1 : List Loc) (ls1 : Array Slot) (pc : Nat), cMW s A v a b1 K0 res.2.1 res.2.2 H1 locs1 → decode cX4_localInt pc = .ok (.return_, 1) → W p l e R s m args below meth c H1 locs1 (xn res.2.1 - xn K0) (2 * (xn res.2.1 - xn K0)) Q (F0 m pc ls1 [])) (x1 : Int32) (x2 : Int32) (F : PF) (G : PG) (hm : cb_X4_localInt_0 fu x1 x2 F G = some res) {b : Nat} {H : Heap} {locs : List Loc} (hw : cMW s A v a b K0 F G H locs) {ls : Array Slot} (hl : lv_has ls 4 [(0, .ref (a 204)), (1, .int x1), (2, .int x2)]) : W p l e R s m args below meth c H locs (xn F - xn K0) (2 * (xn F - xn K0)) Q (F0 m 0 ls []) := by
  have hx := C.1
  have hb := C.2.1
  unfold cb_X4_localInt_0 at hm
  refine lv_aload_n hx hb dX4_localInt_0 rfl (lv_at hl 0 rfl) ?_
  refine cg_X4_15 C hw dX4_localInt_1 ?_
  refine lv_iconst (v := 1) hx hb dX4_localInt_4 (by decide) ?_
  refine lv_iload_n hx hb dX4_localInt_5 rfl (lv_at hl 2 rfl) ?_
  obtain ⟨⟨r1, F1, G1⟩, hc, hm⟩ := bind_elim hm
  refine ccallI (n := 2) (As := [.int 1, .int x2]) (rest := []) C hw (ck_X5_localRoom l v a _ _ fu 1 x2 F G r1 F1 G1 hc) (cn_X5_localRoom fu 1 x2 F G _ hc) (Nat.sub_le_sub_right (cn_X4_localInt_9 fu x1 x2 r1 F1 G1 hm) _) (crecv_X5 C hw) cm_683 cm_684 cm_685 cm_266 cm_686 (by decide +kernel) rfl (by omega) (by omega) hl.1 rfl (Nat.le_of_ble_eq_true rfl) dX4_localInt_6 (fun b H locs hw => ?_)
  exact cw_X4_localInt_9 fu C hret x1 x2 r1 F1 G1 hm hw (lv_sub hl [0, 1, 2] rfl)
theorem cn_X4_localInt (fu : Nat) (x1 : Int32) (x2 : Int32) (F : PF) (G : PG) (q : Int32 × PF × PG) (hm : cf_X4_localInt fu x1 x2 F G = some q) : xn F ≤ xn q.2.1 := cn_X4_localInt_0 fu x1 x2 F G hm
theorem ck_X4_localInt (l : Launch) (v : EV) (a : Nat → Nat) (b sz : Nat) (fu : Nat) (x1 : Int32) (x2 : Int32) (F : PF) (G : PG) (r : Int32) (F1 : PF) (G1 : PG) (hm : cf_X4_localInt fu x1 x2 F G = some (r, F1, G1)) : cMV l yX4_localInt cX4_localInt 4 2 53 v a b sz [.ref (a 204), .int x1, .int x2] F G F1 G1 := cMV.of (by decide) (Nat.le_of_ble_eq_true rfl) (fun p e R s m args below meth c Q A H locs ls C hw hl hret => cw_X4_localInt_0 fu (res := (r, F1, G1)) C hret x1 x2 F G hm hw hl)
def cb_X4_localTold_168 (fu : Nat) (F : PF) (G : PG) : PR := some (0, F, G)
def cb_X4_localTold_112 (fu : Nat) (F : PF) (G : PG) : PR := cb_X4_localTold_168 fu F G
def cb_X4_localTold_107 (fu : Nat) (x5 : Int32) (z0 : Int32) (z1 : Int32) (z2 : Int32) (F : PF) (G : PG) : PR := (cf_X4_localArray fu z2 z1 z0 x5 F G).bind (fun q => cb_X4_localTold_112 fu q.2.1 q.2.2)
def cb_X4_localTold_106 (fu : Nat) (x5 : Int32) (z0 : Int32) (z1 : Int32) (F : PF) (G : PG) : PR := cb_X4_localTold_107 fu x5 3 z0 z1 F G
def cb_X4_localTold_102 (fu : Nat) (x5 : Int32) (z0 : Int32) (z1 : Int32) (F : PF) (G : PG) : PR := cb_X4_localTold_107 fu x5 2 z0 z1 F G
def cb_X4_localTold_91 (fu : Nat) (x2 : Int32) (x3 : Int32) (x4 : Int32) (z0 : Int32) (F : PF) (G : PG) : PR := if x2 = (4 : Int32) then cb_X4_localTold_102 fu z0 x4 x3 F G else cb_X4_localTold_106 fu z0 x4 x3 F G
def cb_X4_localTold_84 (fu : Nat) (x2 : Int32) (x3 : Int32) (x4 : Int32) (F : PF) (G : PG) : PR := (cf_X3_arraySize fu F G).bind (fun q => cb_X4_localTold_91 fu x2 x3 x4 q.1 q.2.1 q.2.2)
def cb_X4_localTold_161 (fu : Nat) (x3 : Int32) (x4 : Int32) (F : PF) (G : PG) : PR := (cf_X4_localInt fu x3 x4 F G).bind (fun q => cb_X4_localTold_168 fu q.2.1 q.2.2)
def cb_X4_localTold_151 (fu : Nat) (x3 : Int32) (x4 : Int32) (F : PF) (G : PG) : PR := (cf_X1_addPair fu 66 0 F G).bind (fun q => cb_X4_localTold_161 fu x3 x4 q.2.1 q.2.2)
def cb_X4_localTold_148 (fu : Nat) (F : PF) (G : PG) : PR := cb_X4_localTold_168 fu F G
def cb_X4_localTold_141 (fu : Nat) (x3 : Int32) (x4 : Int32) (F : PF) (G : PG) : PR := (cf_X4_localInt fu x3 x4 F G).bind (fun q => cb_X4_localTold_148 fu q.2.1 q.2.2)
def cb_X4_localTold_134 (fu : Nat) (x3 : Int32) (x4 : Int32) (F : PF) (G : PG) : PR := (cf_X3_expression fu F G).bind (fun q => cb_X4_localTold_141 fu x3 x4 q.2.1 q.2.2)
def cb_X4_localTold_127 (fu : Nat) (x3 : Int32) (x4 : Int32) (F : PF) (G : PG) : PR := (cf_X2_next fu F G).bind (fun q => cb_X4_localTold_134 fu x3 x4 q.2.1 q.2.2)
def cb_X4_localTold_115 (fu : Nat) (x3 : Int32) (x4 : Int32) (F : PF) (G : PG) : PR := if (F 11) = (29 : Int32) then cb_X4_localTold_127 fu x3 x4 F G else cb_X4_localTold_151 fu x3 x4 F G
def cb_X4_localTold_79 (fu : Nat) (x2 : Int32) (x3 : Int32) (x4 : Int32) (F : PF) (G : PG) : PR := if x2 = (5 : Int32) then cb_X4_localTold_84 fu x2 x3 x4 F G else cb_X4_localTold_115 fu x3 x4 F G
def cb_X4_localTold_67 (fu : Nat) (x2 : Int32) (x3 : Int32) (x4 : Int32) (F : PF) (G : PG) : PR := if (F 11) = (21 : Int32) then cb_X4_localTold_84 fu x2 x3 x4 F G else cb_X4_localTold_79 fu x2 x3 x4 F G
def cb_X4_localTold_64 (fu : Nat) (F : PF) (G : PG) : PR := cb_X4_localTold_168 fu F G
def cb_X4_localTold_56 (fu : Nat) (F : PF) (G : PG) : PR := (cf_X2_fail fu 2 F G).bind (fun q => cb_X4_localTold_64 fu q.2.1 q.2.2)
def cb_X4_localTold_44 (fu : Nat) (x2 : Int32) (x3 : Int32) (x4 : Int32) (F : PF) (G : PG) : PR := if (F 11) = (29 : Int32) then cb_X4_localTold_67 fu x2 x3 x4 F G else cb_X4_localTold_56 fu F G
def cb_X4_localTold_40 (fu : Nat) (x1 : Int32) (x2 : Int32) (x3 : Int32) (x4 : Int32) (F : PF) (G : PG) : PR := if x1 = (0 : Int32) then cb_X4_localTold_67 fu x2 x3 x4 F G else cb_X4_localTold_44 fu x2 x3 x4 F G
def cb_X4_localTold_15 (fu : Nat) (x1 : Int32) (x2 : Int32) (F : PF) (G : PG) : PR := (cf_X2_expect fu 2 F G).bind (fun q => cb_X4_localTold_40 fu x1 x2 (F 12) (F 13) q.2.1 q.2.2)
def cb_X4_localTold_0 (fu : Nat) (x1 : Int32) (F : PF) (G : PG) : PR := (cf_X2_next fu F G).bind (fun q => cb_X4_localTold_15 fu x1 (F 11) q.2.1 q.2.2)
def cf_X4_localTold (fu : Nat) (x1 : Int32) (F : PF) (G : PG) : PR := cb_X4_localTold_0 fu x1 F G
theorem cn_X4_localTold_168 (fu : Nat) {res : Int32 × PF × PG} (F : PF) (G : PG) (hm : cb_X4_localTold_168 fu F G = some res) : xn F ≤ xn res.2.1 := by
  unfold cb_X4_localTold_168 at hm
  obtain rfl := Option.some.inj hm
  exact Nat.le_refl _
theorem cw_X4_localTold_168 (fu : Nat) {res : Int32 × PF × PG} (C : cMC p R s m args c A v RX4 cX4_localTold 6 304 18094 (xn res.2.1 - xn K0)) (hret : ∀ (b1 : Nat) (H1 : Heap) (locs1 : List Loc) (ls1 : Array Slot) (pc : Nat), cMW s A v a b1 K0 res.2.1 res.2.2 H1 locs1 → decode cX4_localTold pc = .ok (.return_, 1) → W p l e R s m args below meth c H1 locs1 (xn res.2.1 - xn K0) (2 * (xn res.2.1 - xn K0)) Q (F0 m pc ls1 [])) (F : PF) (G : PG) (hm : cb_X4_localTold_168 fu F G = some res) {b : Nat} {H : Heap} {locs : List Loc} (hw : cMW s A v a b K0 F G H locs) {ls : Array Slot} (hl : lv_has ls 6 []) : W p l e R s m args below meth c H locs (xn F - xn K0) (2 * (xn F - xn K0)) Q (F0 m 168 ls []) := by
  have hx := C.1
  have hb := C.2.1
  unfold cb_X4_localTold_168 at hm
  obtain rfl := Option.some.inj hm
  exact hret _ _ _ _ _ hw dX4_localTold_168
theorem cn_X4_localTold_112 (fu : Nat) {res : Int32 × PF × PG} (F : PF) (G : PG) (hm : cb_X4_localTold_112 fu F G = some res) : xn F ≤ xn res.2.1 := by
  unfold cb_X4_localTold_112 at hm
  exact (cn_X4_localTold_168 fu F G hm)
theorem cw_X4_localTold_112 (fu : Nat) {res : Int32 × PF × PG} (C : cMC p R s m args c A v RX4 cX4_localTold 6 304 18094 (xn res.2.1 - xn K0)) (hret : ∀ (b1 : Nat) (H1 : Heap) (locs1 : List Loc) (ls1 : Array Slot) (pc : Nat), cMW s A v a b1 K0 res.2.1 res.2.2 H1 locs1 → decode cX4_localTold pc = .ok (.return_, 1) → W p l e R s m args below meth c H1 locs1 (xn res.2.1 - xn K0) (2 * (xn res.2.1 - xn K0)) Q (F0 m pc ls1 [])) (F : PF) (G : PG) (hm : cb_X4_localTold_112 fu F G = some res) {b : Nat} {H : Heap} {locs : List Loc} (hw : cMW s A v a b K0 F G H locs) {ls : Array Slot} (hl : lv_has ls 6 []) : W p l e R s m args below meth c H locs (xn F - xn K0) (2 * (xn F - xn K0)) Q (F0 m 112 ls []) := by
  have hx := C.1
  have hb := C.2.1
  unfold cb_X4_localTold_112 at hm
  refine lv_goto (tgt := 168) hx hb dX4_localTold_112 (by decide) ?_
  exact cw_X4_localTold_168 fu C hret F G hm hw (lv_sub hl [] rfl)
theorem cn_X4_localTold_107 (fu : Nat) {res : Int32 × PF × PG} (x5 : Int32) (z0 : Int32) (z1 : Int32) (z2 : Int32) (F : PF) (G : PG) (hm : cb_X4_localTold_107 fu x5 z0 z1 z2 F G = some res) : xn F ≤ xn res.2.1 := by
  unfold cb_X4_localTold_107 at hm
  obtain ⟨⟨r1, F1, G1⟩, hc, hm⟩ := bind_elim hm
  exact Nat.le_trans (cn_X4_localArray fu z2 z1 z0 x5 F G _ hc) (cn_X4_localTold_112 fu F1 G1 hm)
theorem cw_X4_localTold_107 (fu : Nat) {res : Int32 × PF × PG} (C : cMC p R s m args c A v RX4 cX4_localTold 6 304 18094 (xn res.2.1 - xn K0)) (hret : ∀ (b1 : Nat) (H1 : Heap) (locs1 : List Loc) (ls1 : Array Slot) (pc : Nat), cMW s A v a b1 K0 res.2.1 res.2.2 H1 locs1 → decode cX4_localTold pc = .ok (.return_, 1) → W p l e R s m args below meth c H1 locs1 (xn res.2.1 - xn K0) (2 * (xn res.2.1 - xn K0)) Q (F0 m pc ls1 [])) (x5 : Int32) (z0 : Int32) (z1 : Int32) (z2 : Int32) (F : PF) (G : PG) (hm : cb_X4_localTold_107 fu x5 z0 z1 z2 F G = some res) {b : Nat} {H : Heap} {locs : List Loc} (hw : cMW s A v a b K0 F G H locs) {ls : Array Slot} (hl : lv_has ls 6 [(5, .int x5)]) : W p l e R s m args below meth c H locs (xn F - xn K0) (2 * (xn F - xn K0)) Q (F0 m 107 ls [.int z0, .int z1, .int z2, .ref (a 204)]) := by
  have hx := C.1
  have hb := C.2.1
  unfold cb_X4_localTold_107 at hm
  refine lv_iload hx hb dX4_localTold_107 (lv_at hl 0 rfl) ?_
  obtain ⟨⟨r1, F1, G1⟩, hc, hm⟩ := bind_elim hm
  refine ccallV (n := 4) (As := [.int z2, .int z1, .int z0, .int x5]) (rest := []) C hw (ck_X4_localArray l v a _ _ fu z2 z1 z0 x5 F G r1 F1 G1 hc) (cn_X4_localArray fu z2 z1 z0 x5 F G _ hc) (Nat.sub_le_sub_right (cn_X4_localTold_112 fu F1 G1 hm) _) (crecv_X4 C hw) cm_676 cm_677 cm_678 cm_244 cm_679 (by decide +kernel) rfl (by omega) (by omega) hl.1 rfl (Nat.le_of_ble_eq_true rfl) dX4_localTold_109 (fun b H locs hw => ?_)
  exact cw_X4_localTold_112 fu C hret F1 G1 hm hw (lv_sub hl [] rfl)
theorem cn_X4_localTold_106 (fu : Nat) {res : Int32 × PF × PG} (x5 : Int32) (z0 : Int32) (z1 : Int32) (F : PF) (G : PG) (hm : cb_X4_localTold_106 fu x5 z0 z1 F G = some res) : xn F ≤ xn res.2.1 := by
  unfold cb_X4_localTold_106 at hm
  exact (cn_X4_localTold_107 fu x5 3 z0 z1 F G hm)
theorem cw_X4_localTold_106 (fu : Nat) {res : Int32 × PF × PG} (C : cMC p R s m args c A v RX4 cX4_localTold 6 304 18094 (xn res.2.1 - xn K0)) (hret : ∀ (b1 : Nat) (H1 : Heap) (locs1 : List Loc) (ls1 : Array Slot) (pc : Nat), cMW s A v a b1 K0 res.2.1 res.2.2 H1 locs1 → decode cX4_localTold pc = .ok (.return_, 1) → W p l e R s m args below meth c H1 locs1 (xn res.2.1 - xn K0) (2 * (xn res.2.1 - xn K0)) Q (F0 m pc ls1 [])) (x5 : Int32) (z0 : Int32) (z1 : Int32) (F : PF) (G : PG) (hm : cb_X4_localTold_106 fu x5 z0 z1 F G = some res) {b : Nat} {H : Heap} {locs : List Loc} (hw : cMW s A v a b K0 F G H locs) {ls : Array Slot} (hl : lv_has ls 6 [(5, .int x5)]) : W p l e R s m args below meth c H locs (xn F - xn K0) (2 * (xn F - xn K0)) Q (F0 m 106 ls [.int z0, .int z1, .ref (a 204)]) := by
  have hx := C.1
  have hb := C.2.1
  unfold cb_X4_localTold_106 at hm
  refine lv_iconst (v := 3) hx hb dX4_localTold_106 (by decide) ?_
  exact cw_X4_localTold_107 fu C hret x5 3 z0 z1 F G hm hw (lv_sub hl [0] rfl)
theorem cn_X4_localTold_102 (fu : Nat) {res : Int32 × PF × PG} (x5 : Int32) (z0 : Int32) (z1 : Int32) (F : PF) (G : PG) (hm : cb_X4_localTold_102 fu x5 z0 z1 F G = some res) : xn F ≤ xn res.2.1 := by
  unfold cb_X4_localTold_102 at hm
  exact (cn_X4_localTold_107 fu x5 2 z0 z1 F G hm)
theorem cw_X4_localTold_102 (fu : Nat) {res : Int32 × PF × PG} (C : cMC p R s m args c A v RX4 cX4_localTold 6 304 18094 (xn res.2.1 - xn K0)) (hret : ∀ (b1 : Nat) (H1 : Heap) (locs1 : List Loc) (ls1 : Array Slot) (pc : Nat), cMW s A v a b1 K0 res.2.1 res.2.2 H1 locs1 → decode cX4_localTold pc = .ok (.return_, 1) → W p l e R s m args below meth c H1 locs1 (xn res.2.1 - xn K0) (2 * (xn res.2.1 - xn K0)) Q (F0 m pc ls1 [])) (x5 : Int32) (z0 : Int32) (z1 : Int32) (F : PF) (G : PG) (hm : cb_X4_localTold_102 fu x5 z0 z1 F G = some res) {b : Nat} {H : Heap} {locs : List Loc} (hw : cMW s A v a b K0 F G H locs) {ls : Array Slot} (hl : lv_has ls 6 [(5, .int x5)]) : W p l e R s m args below meth c H locs (xn F - xn K0) (2 * (xn F - xn K0)) Q (F0 m 102 ls [.int z0, .int z1, .ref (a 204)]) := by
  have hx := C.1
  have hb := C.2.1
  unfold cb_X4_localTold_102 at hm
  refine lv_iconst (v := 2) hx hb dX4_localTold_102 (by decide) ?_
  refine lv_goto (tgt := 107) hx hb dX4_localTold_103 (by decide) ?_
  exact cw_X4_localTold_107 fu C hret x5 2 z0 z1 F G hm hw (lv_sub hl [0] rfl)
theorem cn_X4_localTold_91 (fu : Nat) {res : Int32 × PF × PG} (x2 : Int32) (x3 : Int32) (x4 : Int32) (z0 : Int32) (F : PF) (G : PG) (hm : cb_X4_localTold_91 fu x2 x3 x4 z0 F G = some res) : xn F ≤ xn res.2.1 := by
  unfold cb_X4_localTold_91 at hm
  by_cases c_1 : x2 = (4 : Int32)
  · have hm := (if_pos c_1).symm.trans hm
    exact (cn_X4_localTold_102 fu z0 x4 x3 F G hm)
  · have hm := (if_neg c_1).symm.trans hm
    exact (cn_X4_localTold_106 fu z0 x4 x3 F G hm)
theorem cw_X4_localTold_91 (fu : Nat) {res : Int32 × PF × PG} (C : cMC p R s m args c A v RX4 cX4_localTold 6 304 18094 (xn res.2.1 - xn K0)) (hret : ∀ (b1 : Nat) (H1 : Heap) (locs1 : List Loc) (ls1 : Array Slot) (pc : Nat), cMW s A v a b1 K0 res.2.1 res.2.2 H1 locs1 → decode cX4_localTold pc = .ok (.return_, 1) → W p l e R s m args below meth c H1 locs1 (xn res.2.1 - xn K0) (2 * (xn res.2.1 - xn K0)) Q (F0 m pc ls1 [])) (x2 : Int32) (x3 : Int32) (x4 : Int32) (z0 : Int32) (F : PF) (G : PG) (hm : cb_X4_localTold_91 fu x2 x3 x4 z0 F G = some res) {b : Nat} {H : Heap} {locs : List Loc} (hw : cMW s A v a b K0 F G H locs) {ls : Array Slot} (hl : lv_has ls 6 [(0, .ref (a 204)), (2, .int x2), (3, .int x3), (4, .int x4)]) : W p l e R s m args below meth c H locs (xn F - xn K0) (2 * (xn F - xn K0)) Q (F0 m 91 ls [.int z0]) := by
  have hx := C.1
  have hb := C.2.1
  unfold cb_X4_localTold_91 at hm
  refine lv_istore (lv' := [(5, .int z0), (0, .ref (a 204)), (2, .int x2), (3, .int x3), (4, .int x4)]) hx hb dX4_localTold_91 hl (by decide) rfl (fun ls hl => ?_)
  refine lv_aload_n hx hb dX4_localTold_93 rfl (lv_at hl 1 rfl) ?_
  refine lv_iload_n hx hb dX4_localTold_94 rfl (lv_at hl 3 rfl) ?_
  refine lv_iload hx hb dX4_localTold_95 (lv_at hl 4 rfl) ?_
  refine lv_iload_n hx hb dX4_localTold_97 rfl (lv_at hl 2 rfl) ?_
  refine lv_iconst (v := 4) hx hb dX4_localTold_98 (by decide) ?_
  refine lv_icmp_ne (tgt := 106) hx hb dX4_localTold_99 (by decide) (fun c_1 => ?_) (fun c_1 => ?_)
  · have hm := (if_neg c_1).symm.trans hm
    exact cw_X4_localTold_106 fu C hret z0 x4 x3 F G hm hw (lv_sub hl [0] rfl)
  · have hm := (if_pos c_1).symm.trans hm
    exact cw_X4_localTold_102 fu C hret z0 x4 x3 F G hm hw (lv_sub hl [0] rfl)
theorem cn_X4_localTold_84 (fu : Nat) {res : Int32 × PF × PG} (x2 : Int32) (x3 : Int32) (x4 : Int32) (F : PF) (G : PG) (hm : cb_X4_localTold_84 fu x2 x3 x4 F G = some res) : xn F ≤ xn res.2.1 := by
  unfold cb_X4_localTold_84 at hm
  obtain ⟨⟨r1, F1, G1⟩, hc, hm⟩ := bind_elim hm
  exact Nat.le_trans (cn_X3_arraySize fu F G _ hc) (cn_X4_localTold_91 fu x2 x3 x4 r1 F1 G1 hm)
theorem cw_X4_localTold_84 (fu : Nat) {res : Int32 × PF × PG} (C : cMC p R s m args c A v RX4 cX4_localTold 6 304 18094 (xn res.2.1 - xn K0)) (hret : ∀ (b1 : Nat) (H1 : Heap) (locs1 : List Loc) (ls1 : Array Slot) (pc : Nat), cMW s A v a b1 K0 res.2.1 res.2.2 H1 locs1 → decode cX4_localTold pc = .ok (.return_, 1) → W p l e R s m args below meth c H1 locs1 (xn res.2.1 - xn K0) (2 * (xn res.2.1 - xn K0)) Q (F0 m pc ls1 [])) (x2 : Int32) (x3 : Int32) (x4 : Int32) (F : PF) (G : PG) (hm : cb_X4_localTold_84 fu x2 x3 x4 F G = some res) {b : Nat} {H : Heap} {locs : List Loc} (hw : cMW s A v a b K0 F G H locs) {ls : Array Slot} (hl : lv_has ls 6 [(0, .ref (a 204)), (2, .int x2), (3, .int x3), (4, .int x4)]) : W p l e R s m args below meth c H locs (xn F - xn K0) (2 * (xn F - xn K0)) Q (F0 m 84 ls []) := by
  have hx := C.1
  have hb := C.2.1
  unfold cb_X4_localTold_84 at hm
  refine lv_aload_n hx hb dX4_localTold_84 rfl (lv_at hl 0 rfl) ?_
  refine cg_X4_27 C hw dX4_localTold_85 ?_
  obtain ⟨⟨r1, F1, G1⟩, hc, hm⟩ := bind_elim hm
  refine ccallI (n := 0) (As := []) (rest := []) C hw (ck_X3_arraySize l v a _ _ fu F G r1 F1 G1 hc) (cn_X3_arraySize fu F G _ hc) (Nat.sub_le_sub_right (cn_X4_localTold_91 fu x2 x3 x4 r1 F1 G1 hm) _) (crecv_X3 C hw) cm_668 cm_669 cm_670 cm_301 cm_671 (by decide +kernel) rfl (by omega) (by omega) hl.1 rfl (Nat.le_of_ble_eq_true rfl) dX4_localTold_88 (fun b H locs hw => ?_)
  exact cw_X4_localTold_91 fu C hret x2 x3 x4 r1 F1 G1 hm hw (lv_sub hl [0, 1, 2, 3] rfl)
theorem cn_X4_localTold_161 (fu : Nat) {res : Int32 × PF × PG} (x3 : Int32) (x4 : Int32) (F : PF) (G : PG) (hm : cb_X4_localTold_161 fu x3 x4 F G = some res) : xn F ≤ xn res.2.1 := by
  unfold cb_X4_localTold_161 at hm
  obtain ⟨⟨r1, F1, G1⟩, hc, hm⟩ := bind_elim hm
  exact Nat.le_trans (cn_X4_localInt fu x3 x4 F G _ hc) (cn_X4_localTold_168 fu F1 G1 hm)
theorem cw_X4_localTold_161 (fu : Nat) {res : Int32 × PF × PG} (C : cMC p R s m args c A v RX4 cX4_localTold 6 304 18094 (xn res.2.1 - xn K0)) (hret : ∀ (b1 : Nat) (H1 : Heap) (locs1 : List Loc) (ls1 : Array Slot) (pc : Nat), cMW s A v a b1 K0 res.2.1 res.2.2 H1 locs1 → decode cX4_localTold pc = .ok (.return_, 1) → W p l e R s m args below meth c H1 locs1 (xn res.2.1 - xn K0) (2 * (xn res.2.1 - xn K0)) Q (F0 m pc ls1 [])) (x3 : Int32) (x4 : Int32) (F : PF) (G : PG) (hm : cb_X4_localTold_161 fu x3 x4 F G = some res) {b : Nat} {H : Heap} {locs : List Loc} (hw : cMW s A v a b K0 F G H locs) {ls : Array Slot} (hl : lv_has ls 6 [(0, .ref (a 204)), (3, .int x3), (4, .int x4)]) : W p l e R s m args below meth c H locs (xn F - xn K0) (2 * (xn F - xn K0)) Q (F0 m 161 ls []) := by
  have hx := C.1
  have hb := C.2.1
  unfold cb_X4_localTold_161 at hm
  refine lv_aload_n hx hb dX4_localTold_161 rfl (lv_at hl 0 rfl) ?_
  refine lv_iload_n hx hb dX4_localTold_162 rfl (lv_at hl 1 rfl) ?_
  refine lv_iload hx hb dX4_localTold_163 (lv_at hl 2 rfl) ?_
  obtain ⟨⟨r1, F1, G1⟩, hc, hm⟩ := bind_elim hm
  refine ccallV (n := 2) (As := [.int x3, .int x4]) (rest := []) C hw (ck_X4_localInt l v a _ _ fu x3 x4 F G r1 F1 G1 hc) (cn_X4_localInt fu x3 x4 F G _ hc) (Nat.sub_le_sub_right (cn_X4_localTold_168 fu F1 G1 hm) _) (crecv_X4 C hw) cm_688 cm_689 cm_690 cm_244 cm_691 (by decide +kernel) rfl (by omega) (by omega) hl.1 rfl (Nat.le_of_ble_eq_true rfl) dX4_localTold_165 (fun b H locs hw => ?_)
  exact cw_X4_localTold_168 fu C hret F1 G1 hm hw (lv_sub hl [] rfl)
theorem cn_X4_localTold_151 (fu : Nat) {res : Int32 × PF × PG} (x3 : Int32) (x4 : Int32) (F : PF) (G : PG) (hm : cb_X4_localTold_151 fu x3 x4 F G = some res) : xn F ≤ xn res.2.1 := by
  unfold cb_X4_localTold_151 at hm
  obtain ⟨⟨r1, F1, G1⟩, hc, hm⟩ := bind_elim hm
  exact Nat.le_trans (cn_X1_addPair fu 66 0 F G _ hc) (cn_X4_localTold_161 fu x3 x4 F1 G1 hm)
theorem cw_X4_localTold_151 (fu : Nat) {res : Int32 × PF × PG} (C : cMC p R s m args c A v RX4 cX4_localTold 6 304 18094 (xn res.2.1 - xn K0)) (hret : ∀ (b1 : Nat) (H1 : Heap) (locs1 : List Loc) (ls1 : Array Slot) (pc : Nat), cMW s A v a b1 K0 res.2.1 res.2.2 H1 locs1 → decode cX4_localTold pc = .ok (.return_, 1) → W p l e R s m args below meth c H1 locs1 (xn res.2.1 - xn K0) (2 * (xn res.2.1 - xn K0)) Q (F0 m pc ls1 [])) (x3 : Int32) (x4 : Int32) (F : PF) (G : PG) (hm : cb_X4_localTold_151 fu x3 x4 F G = some res) {b : Nat} {H : Heap} {locs : List Loc} (hw : cMW s A v a b K0 F G H locs) {ls : Array Slot} (hl : lv_has ls 6 [(0, .ref (a 204)), (3, .int x3), (4, .int x4)]) : W p l e R s m args below meth c H locs (xn F - xn K0) (2 * (xn F - xn K0)) Q (F0 m 151 ls []) := by
  have hx := C.1
  have hb := C.2.1
  unfold cb_X4_localTold_151 at hm
  refine lv_aload_n hx hb dX4_localTold_151 rfl (lv_at hl 0 rfl) ?_
  refine cg_X4_19 C hw dX4_localTold_152 ?_
  refine lv_bipush (v := 66) hx hb dX4_localTold_155 (by decide) ?_
  refine lv_iconst (v := 0) hx hb dX4_localTold_157 (by decide) ?_
  obtain ⟨⟨r1, F1, G1⟩, hc, hm⟩ := bind_elim hm
  refine ccallV (n := 2) (As := [.int 66, .int 0]) (rest := []) C hw (ck_X1_addPair l v a _ _ fu 66 0 F G r1 F1 G1 hc) (cn_X1_addPair fu 66 0 F G _ hc) (Nat.sub_le_sub_right (cn_X4_localTold_161 fu x3 x4 F1 G1 hm) _) (crecv_X1 C hw) cm_660 cm_449 cm_450 cm_369 cm_451 (by decide +kernel) rfl (by omega) (by omega) hl.1 rfl (Nat.le_of_ble_eq_true rfl) dX4_localTold_158 (fun b H locs hw => ?_)
  exact cw_X4_localTold_161 fu C hret x3 x4 F1 G1 hm hw (lv_sub hl [0, 1, 2] rfl)
theorem cn_X4_localTold_148 (fu : Nat) {res : Int32 × PF × PG} (F : PF) (G : PG) (hm : cb_X4_localTold_148 fu F G = some res) : xn F ≤ xn res.2.1 := by
  unfold cb_X4_localTold_148 at hm
  exact (cn_X4_localTold_168 fu F G hm)
theorem cw_X4_localTold_148 (fu : Nat) {res : Int32 × PF × PG} (C : cMC p R s m args c A v RX4 cX4_localTold 6 304 18094 (xn res.2.1 - xn K0)) (hret : ∀ (b1 : Nat) (H1 : Heap) (locs1 : List Loc) (ls1 : Array Slot) (pc : Nat), cMW s A v a b1 K0 res.2.1 res.2.2 H1 locs1 → decode cX4_localTold pc = .ok (.return_, 1) → W p l e R s m args below meth c H1 locs1 (xn res.2.1 - xn K0) (2 * (xn res.2.1 - xn K0)) Q (F0 m pc ls1 [])) (F : PF) (G : PG) (hm : cb_X4_localTold_148 fu F G = some res) {b : Nat} {H : Heap} {locs : List Loc} (hw : cMW s A v a b K0 F G H locs) {ls : Array Slot} (hl : lv_has ls 6 []) : W p l e R s m args below meth c H locs (xn F - xn K0) (2 * (xn F - xn K0)) Q (F0 m 148 ls []) := by
  have hx := C.1
  have hb := C.2.1
  unfold cb_X4_localTold_148 at hm
  refine lv_goto (tgt := 168) hx hb dX4_localTold_148 (by decide) ?_
  exact cw_X4_localTold_168 fu C hret F G hm hw (lv_sub hl [] rfl)
theorem cn_X4_localTold_141 (fu : Nat) {res : Int32 × PF × PG} (x3 : Int32) (x4 : Int32) (F : PF) (G : PG) (hm : cb_X4_localTold_141 fu x3 x4 F G = some res) : xn F ≤ xn res.2.1 := by
  unfold cb_X4_localTold_141 at hm
  obtain ⟨⟨r1, F1, G1⟩, hc, hm⟩ := bind_elim hm
  exact Nat.le_trans (cn_X4_localInt fu x3 x4 F G _ hc) (cn_X4_localTold_148 fu F1 G1 hm)
theorem cw_X4_localTold_141 (fu : Nat) {res : Int32 × PF × PG} (C : cMC p R s m args c A v RX4 cX4_localTold 6 304 18094 (xn res.2.1 - xn K0)) (hret : ∀ (b1 : Nat) (H1 : Heap) (locs1 : List Loc) (ls1 : Array Slot) (pc : Nat), cMW s A v a b1 K0 res.2.1 res.2.2 H1 locs1 → decode cX4_localTold pc = .ok (.return_, 1) → W p l e R s m args below meth c H1 locs1 (xn res.2.1 - xn K0) (2 * (xn res.2.1 - xn K0)) Q (F0 m pc ls1 [])) (x3 : Int32) (x4 : Int32) (F : PF) (G : PG) (hm : cb_X4_localTold_141 fu x3 x4 F G = some res) {b : Nat} {H : Heap} {locs : List Loc} (hw : cMW s A v a b K0 F G H locs) {ls : Array Slot} (hl : lv_has ls 6 [(0, .ref (a 204)), (3, .int x3), (4, .int x4)]) : W p l e R s m args below meth c H locs (xn F - xn K0) (2 * (xn F - xn K0)) Q (F0 m 141 ls []) := by
  have hx := C.1
  have hb := C.2.1
  unfold cb_X4_localTold_141 at hm
  refine lv_aload_n hx hb dX4_localTold_141 rfl (lv_at hl 0 rfl) ?_
  refine lv_iload_n hx hb dX4_localTold_142 rfl (lv_at hl 1 rfl) ?_
  refine lv_iload hx hb dX4_localTold_143 (lv_at hl 2 rfl) ?_
  obtain ⟨⟨r1, F1, G1⟩, hc, hm⟩ := bind_elim hm
  refine ccallV (n := 2) (As := [.int x3, .int x4]) (rest := []) C hw (ck_X4_localInt l v a _ _ fu x3 x4 F G r1 F1 G1 hc) (cn_X4_localInt fu x3 x4 F G _ hc) (Nat.sub_le_sub_right (cn_X4_localTold_148 fu F1 G1 hm) _) (crecv_X4 C hw) cm_688 cm_689 cm_690 cm_244 cm_691 (by decide +kernel) rfl (by omega) (by omega) hl.1 rfl (Nat.le_of_ble_eq_true rfl) dX4_localTold_145 (fun b H locs hw => ?_)
  exact cw_X4_localTold_148 fu C hret F1 G1 hm hw (lv_sub hl [] rfl)
theorem cn_X4_localTold_134 (fu : Nat) {res : Int32 × PF × PG} (x3 : Int32) (x4 : Int32) (F : PF) (G : PG) (hm : cb_X4_localTold_134 fu x3 x4 F G = some res) : xn F ≤ xn res.2.1 := by
  unfold cb_X4_localTold_134 at hm
  obtain ⟨⟨r1, F1, G1⟩, hc, hm⟩ := bind_elim hm
  exact Nat.le_trans (cn_X3_expression fu F G _ hc) (cn_X4_localTold_141 fu x3 x4 F1 G1 hm)
theorem cw_X4_localTold_134 (fu : Nat) {res : Int32 × PF × PG} (C : cMC p R s m args c A v RX4 cX4_localTold 6 304 18094 (xn res.2.1 - xn K0)) (hret : ∀ (b1 : Nat) (H1 : Heap) (locs1 : List Loc) (ls1 : Array Slot) (pc : Nat), cMW s A v a b1 K0 res.2.1 res.2.2 H1 locs1 → decode cX4_localTold pc = .ok (.return_, 1) → W p l e R s m args below meth c H1 locs1 (xn res.2.1 - xn K0) (2 * (xn res.2.1 - xn K0)) Q (F0 m pc ls1 [])) (x3 : Int32) (x4 : Int32) (F : PF) (G : PG) (hm : cb_X4_localTold_134 fu x3 x4 F G = some res) {b : Nat} {H : Heap} {locs : List Loc} (hw : cMW s A v a b K0 F G H locs) {ls : Array Slot} (hl : lv_has ls 6 [(0, .ref (a 204)), (3, .int x3), (4, .int x4)]) : W p l e R s m args below meth c H locs (xn F - xn K0) (2 * (xn F - xn K0)) Q (F0 m 134 ls []) := by
  have hx := C.1
  have hb := C.2.1
  unfold cb_X4_localTold_134 at hm
  refine lv_aload_n hx hb dX4_localTold_134 rfl (lv_at hl 0 rfl) ?_
  refine cg_X4_27 C hw dX4_localTold_135 ?_
  obtain ⟨⟨r1, F1, G1⟩, hc, hm⟩ := bind_elim hm
  refine ccallV (n := 0) (As := []) (rest := []) C hw (ck_X3_expression l v a _ _ fu F G r1 F1 G1 hc) (cn_X3_expression fu F G _ hc) (Nat.sub_le_sub_right (cn_X4_localTold_141 fu x3 x4 F1 G1 hm) _) (crecv_X3 C hw) cm_659 cm_354 cm_355 cm_301 cm_356 (by decide +kernel) rfl (by omega) (by omega) hl.1 rfl (Nat.le_of_ble_eq_true rfl) dX4_localTold_138 (fun b H locs hw => ?_)
  exact cw_X4_localTold_141 fu C hret x3 x4 F1 G1 hm hw (lv_sub hl [0, 1, 2] rfl)
theorem cn_X4_localTold_127 (fu : Nat) {res : Int32 × PF × PG} (x3 : Int32) (x4 : Int32) (F : PF) (G : PG) (hm : cb_X4_localTold_127 fu x3 x4 F G = some res) : xn F ≤ xn res.2.1 := by
  unfold cb_X4_localTold_127 at hm
  obtain ⟨⟨r1, F1, G1⟩, hc, hm⟩ := bind_elim hm
  exact Nat.le_trans (cn_X2_next fu F G _ hc) (cn_X4_localTold_134 fu x3 x4 F1 G1 hm)
theorem cw_X4_localTold_127 (fu : Nat) {res : Int32 × PF × PG} (C : cMC p R s m args c A v RX4 cX4_localTold 6 304 18094 (xn res.2.1 - xn K0)) (hret : ∀ (b1 : Nat) (H1 : Heap) (locs1 : List Loc) (ls1 : Array Slot) (pc : Nat), cMW s A v a b1 K0 res.2.1 res.2.2 H1 locs1 → decode cX4_localTold pc = .ok (.return_, 1) → W p l e R s m args below meth c H1 locs1 (xn res.2.1 - xn K0) (2 * (xn res.2.1 - xn K0)) Q (F0 m pc ls1 [])) (x3 : Int32) (x4 : Int32) (F : PF) (G : PG) (hm : cb_X4_localTold_127 fu x3 x4 F G = some res) {b : Nat} {H : Heap} {locs : List Loc} (hw : cMW s A v a b K0 F G H locs) {ls : Array Slot} (hl : lv_has ls 6 [(0, .ref (a 204)), (3, .int x3), (4, .int x4)]) : W p l e R s m args below meth c H locs (xn F - xn K0) (2 * (xn F - xn K0)) Q (F0 m 127 ls []) := by
  have hx := C.1
  have hb := C.2.1
  unfold cb_X4_localTold_127 at hm
  refine lv_aload_n hx hb dX4_localTold_127 rfl (lv_at hl 0 rfl) ?_
  refine cg_X4_9 C hw dX4_localTold_128 ?_
  obtain ⟨⟨r1, F1, G1⟩, hc, hm⟩ := bind_elim hm
  refine ccallV (n := 0) (As := []) (rest := []) C hw (ck_X2_next l v a _ _ fu F G r1 F1 G1 hc) (cn_X2_next fu F G _ hc) (Nat.sub_le_sub_right (cn_X4_localTold_134 fu x3 x4 F1 G1 hm) _) (crecv_X2 C hw) cm_320 cm_321 cm_322 cm_307 cm_323 (by decide +kernel) rfl (by omega) (by omega) hl.1 rfl (Nat.le_of_ble_eq_true rfl) dX4_localTold_131 (fun b H locs hw => ?_)
  exact cw_X4_localTold_134 fu C hret x3 x4 F1 G1 hm hw (lv_sub hl [0, 1, 2] rfl)
theorem cn_X4_localTold_115 (fu : Nat) {res : Int32 × PF × PG} (x3 : Int32) (x4 : Int32) (F : PF) (G : PG) (hm : cb_X4_localTold_115 fu x3 x4 F G = some res) : xn F ≤ xn res.2.1 := by
  unfold cb_X4_localTold_115 at hm
  by_cases c_1 : (F 11) = (29 : Int32)
  · have hm := (if_pos c_1).symm.trans hm
    exact (cn_X4_localTold_127 fu x3 x4 F G hm)
  · have hm := (if_neg c_1).symm.trans hm
    exact (cn_X4_localTold_151 fu x3 x4 F G hm)
theorem cw_X4_localTold_115 (fu : Nat) {res : Int32 × PF × PG} (C : cMC p R s m args c A v RX4 cX4_localTold 6 304 18094 (xn res.2.1 - xn K0)) (hret : ∀ (b1 : Nat) (H1 : Heap) (locs1 : List Loc) (ls1 : Array Slot) (pc : Nat), cMW s A v a b1 K0 res.2.1 res.2.2 H1 locs1 → decode cX4_localTold pc = .ok (.return_, 1) → W p l e R s m args below meth c H1 locs1 (xn res.2.1 - xn K0) (2 * (xn res.2.1 - xn K0)) Q (F0 m pc ls1 [])) (x3 : Int32) (x4 : Int32) (F : PF) (G : PG) (hm : cb_X4_localTold_115 fu x3 x4 F G = some res) {b : Nat} {H : Heap} {locs : List Loc} (hw : cMW s A v a b K0 F G H locs) {ls : Array Slot} (hl : lv_has ls 6 [(0, .ref (a 204)), (3, .int x3), (4, .int x4)]) : W p l e R s m args below meth c H locs (xn F - xn K0) (2 * (xn F - xn K0)) Q (F0 m 115 ls []) := by
  have hx := C.1
  have hb := C.2.1
  unfold cb_X4_localTold_115 at hm
  refine lv_aload_n hx hb dX4_localTold_115 rfl (lv_at hl 0 rfl) ?_
  refine cg_X4_9 C hw dX4_localTold_116 ?_
  refine cg_X4_52 C hw dX4_localTold_119 ?_
  refine lv_bipush (v := 29) hx hb dX4_localTold_122 (by decide) ?_
  refine lv_icmp_ne (tgt := 151) hx hb dX4_localTold_124 (by decide) (fun c_1 => ?_) (fun c_1 => ?_)
  · have hm := (if_neg c_1).symm.trans hm
    exact cw_X4_localTold_151 fu C hret x3 x4 F G hm hw (lv_sub hl [0, 1, 2] rfl)
  · have hm := (if_pos c_1).symm.trans hm
    exact cw_X4_localTold_127 fu C hret x3 x4 F G hm hw (lv_sub hl [0, 1, 2] rfl)
theorem cn_X4_localTold_79 (fu : Nat) {res : Int32 × PF × PG} (x2 : Int32) (x3 : Int32) (x4 : Int32) (F : PF) (G : PG) (hm : cb_X4_localTold_79 fu x2 x3 x4 F G = some res) : xn F ≤ xn res.2.1 := by
  unfold cb_X4_localTold_79 at hm
  by_cases c_1 : x2 = (5 : Int32)
  · have hm := (if_pos c_1).symm.trans hm
    exact (cn_X4_localTold_84 fu x2 x3 x4 F G hm)
  · have hm := (if_neg c_1).symm.trans hm
    exact (cn_X4_localTold_115 fu x3 x4 F G hm)
theorem cw_X4_localTold_79 (fu : Nat) {res : Int32 × PF × PG} (C : cMC p R s m args c A v RX4 cX4_localTold 6 304 18094 (xn res.2.1 - xn K0)) (hret : ∀ (b1 : Nat) (H1 : Heap) (locs1 : List Loc) (ls1 : Array Slot) (pc : Nat), cMW s A v a b1 K0 res.2.1 res.2.2 H1 locs1 → decode cX4_localTold pc = .ok (.return_, 1) → W p l e R s m args below meth c H1 locs1 (xn res.2.1 - xn K0) (2 * (xn res.2.1 - xn K0)) Q (F0 m pc ls1 [])) (x2 : Int32) (x3 : Int32) (x4 : Int32) (F : PF) (G : PG) (hm : cb_X4_localTold_79 fu x2 x3 x4 F G = some res) {b : Nat} {H : Heap} {locs : List Loc} (hw : cMW s A v a b K0 F G H locs) {ls : Array Slot} (hl : lv_has ls 6 [(0, .ref (a 204)), (2, .int x2), (3, .int x3), (4, .int x4)]) : W p l e R s m args below meth c H locs (xn F - xn K0) (2 * (xn F - xn K0)) Q (F0 m 79 ls []) := by
  have hx := C.1
  have hb := C.2.1
  unfold cb_X4_localTold_79 at hm
  refine lv_iload_n hx hb dX4_localTold_79 rfl (lv_at hl 1 rfl) ?_
  refine lv_iconst (v := 5) hx hb dX4_localTold_80 (by decide) ?_
  refine lv_icmp_ne (tgt := 115) hx hb dX4_localTold_81 (by decide) (fun c_1 => ?_) (fun c_1 => ?_)
  · have hm := (if_neg c_1).symm.trans hm
    exact cw_X4_localTold_115 fu C hret x3 x4 F G hm hw (lv_sub hl [0, 2, 3] rfl)
  · have hm := (if_pos c_1).symm.trans hm
    exact cw_X4_localTold_84 fu C hret x2 x3 x4 F G hm hw (lv_sub hl [0, 1, 2, 3] rfl)
theorem cn_X4_localTold_67 (fu : Nat) {res : Int32 × PF × PG} (x2 : Int32) (x3 : Int32) (x4 : Int32) (F : PF) (G : PG) (hm : cb_X4_localTold_67 fu x2 x3 x4 F G = some res) : xn F ≤ xn res.2.1 := by
  unfold cb_X4_localTold_67 at hm
  by_cases c_1 : (F 11) = (21 : Int32)
  · have hm := (if_pos c_1).symm.trans hm
    exact (cn_X4_localTold_84 fu x2 x3 x4 F G hm)
  · have hm := (if_neg c_1).symm.trans hm
    exact (cn_X4_localTold_79 fu x2 x3 x4 F G hm)
theorem cw_X4_localTold_67 (fu : Nat) {res : Int32 × PF × PG} (C : cMC p R s m args c A v RX4 cX4_localTold 6 304 18094 (xn res.2.1 - xn K0)) (hret : ∀ (b1 : Nat) (H1 : Heap) (locs1 : List Loc) (ls1 : Array Slot) (pc : Nat), cMW s A v a b1 K0 res.2.1 res.2.2 H1 locs1 → decode cX4_localTold pc = .ok (.return_, 1) → W p l e R s m args below meth c H1 locs1 (xn res.2.1 - xn K0) (2 * (xn res.2.1 - xn K0)) Q (F0 m pc ls1 [])) (x2 : Int32) (x3 : Int32) (x4 : Int32) (F : PF) (G : PG) (hm : cb_X4_localTold_67 fu x2 x3 x4 F G = some res) {b : Nat} {H : Heap} {locs : List Loc} (hw : cMW s A v a b K0 F G H locs) {ls : Array Slot} (hl : lv_has ls 6 [(0, .ref (a 204)), (2, .int x2), (3, .int x3), (4, .int x4)]) : W p l e R s m args below meth c H locs (xn F - xn K0) (2 * (xn F - xn K0)) Q (F0 m 67 ls []) := by
  have hx := C.1
  have hb := C.2.1
  unfold cb_X4_localTold_67 at hm
  refine lv_aload_n hx hb dX4_localTold_67 rfl (lv_at hl 0 rfl) ?_
  refine cg_X4_9 C hw dX4_localTold_68 ?_
  refine cg_X4_52 C hw dX4_localTold_71 ?_
  refine lv_bipush (v := 21) hx hb dX4_localTold_74 (by decide) ?_
  refine lv_icmp_eq (tgt := 84) hx hb dX4_localTold_76 (by decide) (fun c_1 => ?_) (fun c_1 => ?_)
  · have hm := (if_pos c_1).symm.trans hm
    exact cw_X4_localTold_84 fu C hret x2 x3 x4 F G hm hw (lv_sub hl [0, 1, 2, 3] rfl)
  · have hm := (if_neg c_1).symm.trans hm
    exact cw_X4_localTold_79 fu C hret x2 x3 x4 F G hm hw (lv_sub hl [0, 1, 2, 3] rfl)
theorem cn_X4_localTold_64 (fu : Nat) {res : Int32 × PF × PG} (F : PF) (G : PG) (hm : cb_X4_localTold_64 fu F G = some res) : xn F ≤ xn res.2.1 := by
  unfold cb_X4_localTold_64 at hm
  exact (cn_X4_localTold_168 fu F G hm)
theorem cw_X4_localTold_64 (fu : Nat) {res : Int32 × PF × PG} (C : cMC p R s m args c A v RX4 cX4_localTold 6 304 18094 (xn res.2.1 - xn K0)) (hret : ∀ (b1 : Nat) (H1 : Heap) (locs1 : List Loc) (ls1 : Array Slot) (pc : Nat), cMW s A v a b1 K0 res.2.1 res.2.2 H1 locs1 → decode cX4_localTold pc = .ok (.return_, 1) → W p l e R s m args below meth c H1 locs1 (xn res.2.1 - xn K0) (2 * (xn res.2.1 - xn K0)) Q (F0 m pc ls1 [])) (F : PF) (G : PG) (hm : cb_X4_localTold_64 fu F G = some res) {b : Nat} {H : Heap} {locs : List Loc} (hw : cMW s A v a b K0 F G H locs) {ls : Array Slot} (hl : lv_has ls 6 []) : W p l e R s m args below meth c H locs (xn F - xn K0) (2 * (xn F - xn K0)) Q (F0 m 64 ls []) := by
  have hx := C.1
  have hb := C.2.1
  unfold cb_X4_localTold_64 at hm
  refine lv_goto (tgt := 168) hx hb dX4_localTold_64 (by decide) ?_
  exact cw_X4_localTold_168 fu C hret F G hm hw (lv_sub hl [] rfl)
theorem cn_X4_localTold_56 (fu : Nat) {res : Int32 × PF × PG} (F : PF) (G : PG) (hm : cb_X4_localTold_56 fu F G = some res) : xn F ≤ xn res.2.1 := by
  unfold cb_X4_localTold_56 at hm
  obtain ⟨⟨r1, F1, G1⟩, hc, hm⟩ := bind_elim hm
  exact Nat.le_trans (cn_X2_fail fu 2 F G _ hc) (cn_X4_localTold_64 fu F1 G1 hm)
theorem cw_X4_localTold_56 (fu : Nat) {res : Int32 × PF × PG} (C : cMC p R s m args c A v RX4 cX4_localTold 6 304 18094 (xn res.2.1 - xn K0)) (hret : ∀ (b1 : Nat) (H1 : Heap) (locs1 : List Loc) (ls1 : Array Slot) (pc : Nat), cMW s A v a b1 K0 res.2.1 res.2.2 H1 locs1 → decode cX4_localTold pc = .ok (.return_, 1) → W p l e R s m args below meth c H1 locs1 (xn res.2.1 - xn K0) (2 * (xn res.2.1 - xn K0)) Q (F0 m pc ls1 [])) (F : PF) (G : PG) (hm : cb_X4_localTold_56 fu F G = some res) {b : Nat} {H : Heap} {locs : List Loc} (hw : cMW s A v a b K0 F G H locs) {ls : Array Slot} (hl : lv_has ls 6 [(0, .ref (a 204))]) : W p l e R s m args below meth c H locs (xn F - xn K0) (2 * (xn F - xn K0)) Q (F0 m 56 ls []) := by
  have hx := C.1
  have hb := C.2.1
  unfold cb_X4_localTold_56 at hm
  refine lv_aload_n hx hb dX4_localTold_56 rfl (lv_at hl 0 rfl) ?_
  refine cg_X4_9 C hw dX4_localTold_57 ?_
  refine lv_iconst (v := 2) hx hb dX4_localTold_60 (by decide) ?_
  obtain ⟨⟨r1, F1, G1⟩, hc, hm⟩ := bind_elim hm
  refine ccallV (n := 1) (As := [.int 2]) (rest := []) C hw (ck_X2_fail l v a _ _ fu 2 F G r1 F1 G1 hc) (cn_X2_fail fu 2 F G _ hc) (Nat.sub_le_sub_right (cn_X4_localTold_64 fu F1 G1 hm) _) (crecv_X2 C hw) cm_328 cm_329 cm_330 cm_307 cm_331 (by decide +kernel) rfl (by omega) (by omega) hl.1 rfl (Nat.le_of_ble_eq_true rfl) dX4_localTold_61 (fun b H locs hw => ?_)
  exact cw_X4_localTold_64 fu C hret F1 G1 hm hw (lv_sub hl [] rfl)
theorem cn_X4_localTold_44 (fu : Nat) {res : Int32 × PF × PG} (x2 : Int32) (x3 : Int32) (x4 : Int32) (F : PF) (G : PG) (hm : cb_X4_localTold_44 fu x2 x3 x4 F G = some res) : xn F ≤ xn res.2.1 := by
  unfold cb_X4_localTold_44 at hm
  by_cases c_1 : (F 11) = (29 : Int32)
  · have hm := (if_pos c_1).symm.trans hm
    exact (cn_X4_localTold_67 fu x2 x3 x4 F G hm)
  · have hm := (if_neg c_1).symm.trans hm
    exact (cn_X4_localTold_56 fu F G hm)
theorem cw_X4_localTold_44 (fu : Nat) {res : Int32 × PF × PG} (C : cMC p R s m args c A v RX4 cX4_localTold 6 304 18094 (xn res.2.1 - xn K0)) (hret : ∀ (b1 : Nat) (H1 : Heap) (locs1 : List Loc) (ls1 : Array Slot) (pc : Nat), cMW s A v a b1 K0 res.2.1 res.2.2 H1 locs1 → decode cX4_localTold pc = .ok (.return_, 1) → W p l e R s m args below meth c H1 locs1 (xn res.2.1 - xn K0) (2 * (xn res.2.1 - xn K0)) Q (F0 m pc ls1 [])) (x2 : Int32) (x3 : Int32) (x4 : Int32) (F : PF) (G : PG) (hm : cb_X4_localTold_44 fu x2 x3 x4 F G = some res) {b : Nat} {H : Heap} {locs : List Loc} (hw : cMW s A v a b K0 F G H locs) {ls : Array Slot} (hl : lv_has ls 6 [(0, .ref (a 204)), (2, .int x2), (3, .int x3), (4, .int x4)]) : W p l e R s m args below meth c H locs (xn F - xn K0) (2 * (xn F - xn K0)) Q (F0 m 44 ls []) := by
  have hx := C.1
  have hb := C.2.1
  unfold cb_X4_localTold_44 at hm
  refine lv_aload_n hx hb dX4_localTold_44 rfl (lv_at hl 0 rfl) ?_
  refine cg_X4_9 C hw dX4_localTold_45 ?_
  refine cg_X4_52 C hw dX4_localTold_48 ?_
  refine lv_bipush (v := 29) hx hb dX4_localTold_51 (by decide) ?_
  refine lv_icmp_eq (tgt := 67) hx hb dX4_localTold_53 (by decide) (fun c_1 => ?_) (fun c_1 => ?_)
  · have hm := (if_pos c_1).symm.trans hm
    exact cw_X4_localTold_67 fu C hret x2 x3 x4 F G hm hw (lv_sub hl [0, 1, 2, 3] rfl)
  · have hm := (if_neg c_1).symm.trans hm
    exact cw_X4_localTold_56 fu C hret F G hm hw (lv_sub hl [0] rfl)
theorem cn_X4_localTold_40 (fu : Nat) {res : Int32 × PF × PG} (x1 : Int32) (x2 : Int32) (x3 : Int32) (x4 : Int32) (F : PF) (G : PG) (hm : cb_X4_localTold_40 fu x1 x2 x3 x4 F G = some res) : xn F ≤ xn res.2.1 := by
  unfold cb_X4_localTold_40 at hm
  by_cases c_1 : x1 = (0 : Int32)
  · have hm := (if_pos c_1).symm.trans hm
    exact (cn_X4_localTold_67 fu x2 x3 x4 F G hm)
  · have hm := (if_neg c_1).symm.trans hm
    exact (cn_X4_localTold_44 fu x2 x3 x4 F G hm)
theorem cw_X4_localTold_40 (fu : Nat) {res : Int32 × PF × PG} (C : cMC p R s m args c A v RX4 cX4_localTold 6 304 18094 (xn res.2.1 - xn K0)) (hret : ∀ (b1 : Nat) (H1 : Heap) (locs1 : List Loc) (ls1 : Array Slot) (pc : Nat), cMW s A v a b1 K0 res.2.1 res.2.2 H1 locs1 → decode cX4_localTold pc = .ok (.return_, 1) → W p l e R s m args below meth c H1 locs1 (xn res.2.1 - xn K0) (2 * (xn res.2.1 - xn K0)) Q (F0 m pc ls1 [])) (x1 : Int32) (x2 : Int32) (x3 : Int32) (x4 : Int32) (F : PF) (G : PG) (hm : cb_X4_localTold_40 fu x1 x2 x3 x4 F G = some res) {b : Nat} {H : Heap} {locs : List Loc} (hw : cMW s A v a b K0 F G H locs) {ls : Array Slot} (hl : lv_has ls 6 [(0, .ref (a 204)), (1, .int x1), (2, .int x2), (3, .int x3), (4, .int x4)]) : W p l e R s m args below meth c H locs (xn F - xn K0) (2 * (xn F - xn K0)) Q (F0 m 40 ls []) := by
  have hx := C.1
  have hb := C.2.1
  unfold cb_X4_localTold_40 at hm
  refine lv_iload_n hx hb dX4_localTold_40 rfl (lv_at hl 1 rfl) ?_
  refine lv_if_eq (tgt := 67) hx hb dX4_localTold_41 (by decide) (fun c_1 => ?_) (fun c_1 => ?_)
  · have hm := (if_pos c_1).symm.trans hm
    exact cw_X4_localTold_67 fu C hret x2 x3 x4 F G hm hw (lv_sub hl [0, 2, 3, 4] rfl)
  · have hm := (if_neg c_1).symm.trans hm
    exact cw_X4_localTold_44 fu C hret x2 x3 x4 F G hm hw (lv_sub hl [0, 2, 3, 4] rfl)
theorem cn_X4_localTold_15 (fu : Nat) {res : Int32 × PF × PG} (x1 : Int32) (x2 : Int32) (F : PF) (G : PG) (hm : cb_X4_localTold_15 fu x1 x2 F G = some res) : xn F ≤ xn res.2.1 := by
  unfold cb_X4_localTold_15 at hm
  obtain ⟨⟨r1, F1, G1⟩, hc, hm⟩ := bind_elim hm
  exact Nat.le_trans (cn_X2_expect fu 2 F G _ hc) (cn_X4_localTold_40 fu x1 x2 (F 12) (F 13) F1 G1 hm)
theorem cw_X4_localTold_15 (fu : Nat) {res : Int32 × PF × PG} (C : cMC p R s m args c A v RX4 cX4_localTold 6 304 18094 (xn res.2.1 - xn K0)) (hret : ∀ (b1 : Nat) (H1 : Heap) (locs1 : List Loc) (ls1 : Array Slot) (pc : Nat), cMW s A v a b1 K0 res.2.1 res.2.2 H1 locs1 → decode cX4_localTold pc = .ok (.return_, 1) → W p l e R s m args below meth c H1 locs1 (xn res.2.1 - xn K0) (2 * (xn res.2.1 - xn K0)) Q (F0 m pc ls1 [])) (x1 : Int32) (x2 : Int32) (F : PF) (G : PG) (hm : cb_X4_localTold_15 fu x1 x2 F G = some res) {b : Nat} {H : Heap} {locs : List Loc} (hw : cMW s A v a b K0 F G H locs) {ls : Array Slot} (hl : lv_has ls 6 [(0, .ref (a 204)), (1, .int x1), (2, .int x2)]) : W p l e R s m args below meth c H locs (xn F - xn K0) (2 * (xn F - xn K0)) Q (F0 m 15 ls []) := by
  have hx := C.1
  have hb := C.2.1
  unfold cb_X4_localTold_15 at hm
  refine lv_aload_n hx hb dX4_localTold_15 rfl (lv_at hl 0 rfl) ?_
  refine cg_X4_9 C hw dX4_localTold_16 ?_
  refine cg_X4_64 C hw dX4_localTold_19 ?_
  refine lv_istore_n (lv' := [(3, .int (F 12)), (0, .ref (a 204)), (1, .int x1), (2, .int x2)]) hx hb dX4_localTold_22 rfl hl (by decide) rfl (fun ls hl => ?_)
  refine lv_aload_n hx hb dX4_localTold_23 rfl (lv_at hl 1 rfl) ?_
  refine cg_X4_9 C hw dX4_localTold_24 ?_
  refine cg_X4_67 C hw dX4_localTold_27 ?_
  refine lv_istore (lv' := [(4, .int (F 13)), (3, .int (F 12)), (0, .ref (a 204)), (1, .int x1), (2, .int x2)]) hx hb dX4_localTold_30 hl (by decide) rfl (fun ls hl => ?_)
  refine lv_aload_n hx hb dX4_localTold_32 rfl (lv_at hl 2 rfl) ?_
  refine cg_X4_9 C hw dX4_localTold_33 ?_
  refine lv_iconst (v := 2) hx hb dX4_localTold_36 (by decide) ?_
  obtain ⟨⟨r1, F1, G1⟩, hc, hm⟩ := bind_elim hm
  refine ccallV (n := 1) (As := [.int 2]) (rest := []) C hw (ck_X2_expect l v a _ _ fu 2 F G r1 F1 G1 hc) (cn_X2_expect fu 2 F G _ hc) (Nat.sub_le_sub_right (cn_X4_localTold_40 fu x1 x2 (F 12) (F 13) F1 G1 hm) _) (crecv_X2 C hw) cm_332 cm_333 cm_334 cm_307 cm_335 (by decide +kernel) rfl (by omega) (by omega) hl.1 rfl (Nat.le_of_ble_eq_true rfl) dX4_localTold_37 (fun b H locs hw => ?_)
  exact cw_X4_localTold_40 fu C hret x1 x2 (F 12) (F 13) F1 G1 hm hw (lv_sub hl [2, 3, 4, 1, 0] rfl)
theorem cn_X4_localTold_0 (fu : Nat) {res : Int32 × PF × PG} (x1 : Int32) (F : PF) (G : PG) (hm : cb_X4_localTold_0 fu x1 F G = some res) : xn F ≤ xn res.2.1 := by
  unfold cb_X4_localTold_0 at hm
  obtain ⟨⟨r1, F1, G1⟩, hc, hm⟩ := bind_elim hm
  exact Nat.le_trans (cn_X2_next fu F G _ hc) (cn_X4_localTold_15 fu x1 (F 11) F1 G1 hm)
theorem cw_X4_localTold_0 (fu : Nat) {res : Int32 × PF × PG} (C : cMC p R s m args c A v RX4 cX4_localTold 6 304 18094 (xn res.2.1 - xn K0)) (hret : ∀ (b1 : Nat) (H1 : Heap) (locs1 : List Loc) (ls1 : Array Slot) (pc : Nat), cMW s A v a b1 K0 res.2.1 res.2.2 H1 locs1 → decode cX4_localTold pc = .ok (.return_, 1) → W p l e R s m args below meth c H1 locs1 (xn res.2.1 - xn K0) (2 * (xn res.2.1 - xn K0)) Q (F0 m pc ls1 [])) (x1 : Int32) (F : PF) (G : PG) (hm : cb_X4_localTold_0 fu x1 F G = some res) {b : Nat} {H : Heap} {locs : List Loc} (hw : cMW s A v a b K0 F G H locs) {ls : Array Slot} (hl : lv_has ls 6 [(0, .ref (a 204)), (1, .int x1)]) : W p l e R s m args below meth c H locs (xn F - xn K0) (2 * (xn F - xn K0)) Q (F0 m 0 ls []) := by
  have hx := C.1
  have hb := C.2.1
  unfold cb_X4_localTold_0 at hm
  refine lv_aload_n hx hb dX4_localTold_0 rfl (lv_at hl 0 rfl) ?_
  refine cg_X4_9 C hw dX4_localTold_1 ?_
  refine cg_X4_52 C hw dX4_localTold_4 ?_
  refine lv_istore_n (lv' := [(2, .int (F 11)), (0, .ref (a 204)), (1, .int x1)]) hx hb dX4_localTold_7 rfl hl (by decide) rfl (fun ls hl => ?_)
  refine lv_aload_n hx hb dX4_localTold_8 rfl (lv_at hl 1 rfl) ?_
  refine cg_X4_9 C hw dX4_localTold_9 ?_
  obtain ⟨⟨r1, F1, G1⟩, hc, hm⟩ := bind_elim hm
  refine ccallV (n := 0) (As := []) (rest := []) C hw (ck_X2_next l v a _ _ fu F G r1 F1 G1 hc) (cn_X2_next fu F G _ hc) (Nat.sub_le_sub_right (cn_X4_localTold_15 fu x1 (F 11) F1 G1 hm) _) (crecv_X2 C hw) cm_320 cm_321 cm_322 cm_307 cm_323 (by decide +kernel) rfl (by omega) (by omega) hl.1 rfl (Nat.le_of_ble_eq_true rfl) dX4_localTold_12 (fun b H locs hw => ?_)
  exact cw_X4_localTold_15 fu C hret x1 (F 11) F1 G1 hm hw (lv_sub hl [1, 2, 0] rfl)
theorem cn_X4_localTold (fu : Nat) (x1 : Int32) (F : PF) (G : PG) (q : Int32 × PF × PG) (hm : cf_X4_localTold fu x1 F G = some q) : xn F ≤ xn q.2.1 := cn_X4_localTold_0 fu x1 F G hm
theorem ck_X4_localTold (l : Launch) (v : EV) (a : Nat → Nat) (b sz : Nat) (fu : Nat) (x1 : Int32) (F : PF) (G : PG) (r : Int32) (F1 : PF) (G1 : PG) (hm : cf_X4_localTold fu x1 F G = some (r, F1, G1)) : cMV l yX4_localTold cX4_localTold 6 304 18094 v a b sz [.ref (a 204), .int x1] F G F1 G1 := cMV.of (by decide) (Nat.le_of_ble_eq_true rfl) (fun p e R s m args below meth c Q A H locs ls C hw hl hret => cw_X4_localTold_0 fu (res := (r, F1, G1)) C hret x1 F G hm hw hl)
def cb_X4_leap_88 (fu : Nat) (F : PF) (G : PG) : PR := some (0, F, G)
def cb_X4_leap_79 (fu : Nat) (F : PF) (G : PG) : PR := (cf_X2_expect fu 26 F G).bind (fun q => cb_X4_leap_88 fu q.2.1 q.2.2)
def cb_X4_leap_72 (fu : Nat) (F : PF) (G : PG) : PR := (cf_X2_next fu F G).bind (fun q => cb_X4_leap_79 fu q.2.1 q.2.2)
def cb_X4_leap_69 (fu : Nat) (z0 : Int32) (F : PF) (G : PG) : PR := cb_X4_leap_72 fu (fup F 31 z0) G
def cb_X4_leap_55 (fu : Nat) (F : PF) (G : PG) : PR := (cf_X1_addJump fu 84 (F 31) F G).bind (fun q => cb_X4_leap_69 fu q.1 q.2.1 q.2.2)
def cb_X4_leap_52 (fu : Nat) (F : PF) (G : PG) : PR := cb_X4_leap_72 fu F G
def cb_X4_leap_49 (fu : Nat) (z0 : Int32) (F : PF) (G : PG) : PR := cb_X4_leap_52 fu (fup F 30 z0) G
def cb_X4_leap_35 (fu : Nat) (F : PF) (G : PG) : PR := (cf_X1_addJump fu 84 (F 30) F G).bind (fun q => cb_X4_leap_49 fu q.1 q.2.1 q.2.2)
def cb_X4_leap_23 (fu : Nat) (F : PF) (G : PG) : PR := if (F 11) = (13 : Int32) then cb_X4_leap_35 fu F G else cb_X4_leap_55 fu F G
def cb_X4_leap_7 (fu : Nat) (F : PF) (G : PG) : PR := (cf_X5_note fu 6 (F 13) F G).bind (fun q => cb_X4_leap_23 fu q.2.1 q.2.2)
def cb_X4_leap_0 (fu : Nat) (F : PF) (G : PG) : PR := if (F 29) = (0 : Int32) then cb_X4_leap_7 fu F G else cb_X4_leap_23 fu F G
def cf_X4_leap (fu : Nat) (F : PF) (G : PG) : PR := cb_X4_leap_0 fu F G
theorem cn_X4_leap_88 (fu : Nat) {res : Int32 × PF × PG} (F : PF) (G : PG) (hm : cb_X4_leap_88 fu F G = some res) : xn F ≤ xn res.2.1 := by
  unfold cb_X4_leap_88 at hm
  obtain rfl := Option.some.inj hm
  exact Nat.le_refl _
theorem cw_X4_leap_88 (fu : Nat) {res : Int32 × PF × PG} (C : cMC p R s m args c A v RX4 cX4_leap 1 2 42 (xn res.2.1 - xn K0)) (hret : ∀ (b1 : Nat) (H1 : Heap) (locs1 : List Loc) (ls1 : Array Slot) (pc : Nat), cMW s A v a b1 K0 res.2.1 res.2.2 H1 locs1 → decode cX4_leap pc = .ok (.return_, 1) → W p l e R s m args below meth c H1 locs1 (xn res.2.1 - xn K0) (2 * (xn res.2.1 - xn K0)) Q (F0 m pc ls1 [])) (F : PF) (G : PG) (hm : cb_X4_leap_88 fu F G = some res) {b : Nat} {H : Heap} {locs : List Loc} (hw : cMW s A v a b K0 F G H locs) {ls : Array Slot} (hl : lv_has ls 1 []) : W p l e R s m args below meth c H locs (xn F - xn K0) (2 * (xn F - xn K0)) Q (F0 m 88 ls []) := by
  have hx := C.1
  have hb := C.2.1
  unfold cb_X4_leap_88 at hm
  obtain rfl := Option.some.inj hm
  exact hret _ _ _ _ _ hw dX4_leap_88
theorem cn_X4_leap_79 (fu : Nat) {res : Int32 × PF × PG} (F : PF) (G : PG) (hm : cb_X4_leap_79 fu F G = some res) : xn F ≤ xn res.2.1 := by
  unfold cb_X4_leap_79 at hm
  obtain ⟨⟨r1, F1, G1⟩, hc, hm⟩ := bind_elim hm
  exact Nat.le_trans (cn_X2_expect fu 26 F G _ hc) (cn_X4_leap_88 fu F1 G1 hm)
theorem cw_X4_leap_79 (fu : Nat) {res : Int32 × PF × PG} (C : cMC p R s m args c A v RX4 cX4_leap 1 2 42 (xn res.2.1 - xn K0)) (hret : ∀ (b1 : Nat) (H1 : Heap) (locs1 : List Loc) (ls1 : Array Slot) (pc : Nat), cMW s A v a b1 K0 res.2.1 res.2.2 H1 locs1 → decode cX4_leap pc = .ok (.return_, 1) → W p l e R s m args below meth c H1 locs1 (xn res.2.1 - xn K0) (2 * (xn res.2.1 - xn K0)) Q (F0 m pc ls1 [])) (F : PF) (G : PG) (hm : cb_X4_leap_79 fu F G = some res) {b : Nat} {H : Heap} {locs : List Loc} (hw : cMW s A v a b K0 F G H locs) {ls : Array Slot} (hl : lv_has ls 1 [(0, .ref (a 204))]) : W p l e R s m args below meth c H locs (xn F - xn K0) (2 * (xn F - xn K0)) Q (F0 m 79 ls []) := by
  have hx := C.1
  have hb := C.2.1
  unfold cb_X4_leap_79 at hm
  refine lv_aload_n hx hb dX4_leap_79 rfl (lv_at hl 0 rfl) ?_
  refine cg_X4_9 C hw dX4_leap_80 ?_
  refine lv_bipush (v := 26) hx hb dX4_leap_83 (by decide) ?_
  obtain ⟨⟨r1, F1, G1⟩, hc, hm⟩ := bind_elim hm
  refine ccallV (n := 1) (As := [.int 26]) (rest := []) C hw (ck_X2_expect l v a _ _ fu 26 F G r1 F1 G1 hc) (cn_X2_expect fu 26 F G _ hc) (Nat.sub_le_sub_right (cn_X4_leap_88 fu F1 G1 hm) _) (crecv_X2 C hw) cm_332 cm_333 cm_334 cm_307 cm_335 (by decide +kernel) rfl (by omega) (by omega) hl.1 rfl (Nat.le_of_ble_eq_true rfl) dX4_leap_85 (fun b H locs hw => ?_)
  exact cw_X4_leap_88 fu C hret F1 G1 hm hw (lv_sub hl [] rfl)
theorem cn_X4_leap_72 (fu : Nat) {res : Int32 × PF × PG} (F : PF) (G : PG) (hm : cb_X4_leap_72 fu F G = some res) : xn F ≤ xn res.2.1 := by
  unfold cb_X4_leap_72 at hm
  obtain ⟨⟨r1, F1, G1⟩, hc, hm⟩ := bind_elim hm
  exact Nat.le_trans (cn_X2_next fu F G _ hc) (cn_X4_leap_79 fu F1 G1 hm)
theorem cw_X4_leap_72 (fu : Nat) {res : Int32 × PF × PG} (C : cMC p R s m args c A v RX4 cX4_leap 1 2 42 (xn res.2.1 - xn K0)) (hret : ∀ (b1 : Nat) (H1 : Heap) (locs1 : List Loc) (ls1 : Array Slot) (pc : Nat), cMW s A v a b1 K0 res.2.1 res.2.2 H1 locs1 → decode cX4_leap pc = .ok (.return_, 1) → W p l e R s m args below meth c H1 locs1 (xn res.2.1 - xn K0) (2 * (xn res.2.1 - xn K0)) Q (F0 m pc ls1 [])) (F : PF) (G : PG) (hm : cb_X4_leap_72 fu F G = some res) {b : Nat} {H : Heap} {locs : List Loc} (hw : cMW s A v a b K0 F G H locs) {ls : Array Slot} (hl : lv_has ls 1 [(0, .ref (a 204))]) : W p l e R s m args below meth c H locs (xn F - xn K0) (2 * (xn F - xn K0)) Q (F0 m 72 ls []) := by
  have hx := C.1
  have hb := C.2.1
  unfold cb_X4_leap_72 at hm
  refine lv_aload_n hx hb dX4_leap_72 rfl (lv_at hl 0 rfl) ?_
  refine cg_X4_9 C hw dX4_leap_73 ?_
  obtain ⟨⟨r1, F1, G1⟩, hc, hm⟩ := bind_elim hm
  refine ccallV (n := 0) (As := []) (rest := []) C hw (ck_X2_next l v a _ _ fu F G r1 F1 G1 hc) (cn_X2_next fu F G _ hc) (Nat.sub_le_sub_right (cn_X4_leap_79 fu F1 G1 hm) _) (crecv_X2 C hw) cm_320 cm_321 cm_322 cm_307 cm_323 (by decide +kernel) rfl (by omega) (by omega) hl.1 rfl (Nat.le_of_ble_eq_true rfl) dX4_leap_76 (fun b H locs hw => ?_)
  exact cw_X4_leap_79 fu C hret F1 G1 hm hw (lv_sub hl [0] rfl)
theorem cn_X4_leap_69 (fu : Nat) {res : Int32 × PF × PG} (z0 : Int32) (F : PF) (G : PG) (hm : cb_X4_leap_69 fu z0 F G = some res) : xn F ≤ xn res.2.1 := by
  unfold cb_X4_leap_69 at hm
  exact Nat.le_trans (Nat.le_of_eq (xn_fup (by decide)).symm) (cn_X4_leap_72 fu (fup F 31 z0) G hm)
theorem cw_X4_leap_69 (fu : Nat) {res : Int32 × PF × PG} (C : cMC p R s m args c A v RX4 cX4_leap 1 2 42 (xn res.2.1 - xn K0)) (hret : ∀ (b1 : Nat) (H1 : Heap) (locs1 : List Loc) (ls1 : Array Slot) (pc : Nat), cMW s A v a b1 K0 res.2.1 res.2.2 H1 locs1 → decode cX4_leap pc = .ok (.return_, 1) → W p l e R s m args below meth c H1 locs1 (xn res.2.1 - xn K0) (2 * (xn res.2.1 - xn K0)) Q (F0 m pc ls1 [])) (z0 : Int32) (F : PF) (G : PG) (hm : cb_X4_leap_69 fu z0 F G = some res) {b : Nat} {H : Heap} {locs : List Loc} (hw : cMW s A v a b K0 F G H locs) {ls : Array Slot} (hl : lv_has ls 1 [(0, .ref (a 204))]) : W p l e R s m args below meth c H locs (xn F - xn K0) (2 * (xn F - xn K0)) Q (F0 m 69 ls [.int z0, .ref (a 204)]) := by
  have hx := C.1
  have hb := C.2.1
  unfold cb_X4_leap_69 at hm
  refine cp_X4_122 C hw dX4_leap_69 (fun H locs hw => ?_)
  exact cw_X4_leap_72 fu C hret (fup F 31 z0) G hm hw (lv_sub hl [0] rfl)
theorem cn_X4_leap_55 (fu : Nat) {res : Int32 × PF × PG} (F : PF) (G : PG) (hm : cb_X4_leap_55 fu F G = some res) : xn F ≤ xn res.2.1 := by
  unfold cb_X4_leap_55 at hm
  obtain ⟨⟨r1, F1, G1⟩, hc, hm⟩ := bind_elim hm
  exact Nat.le_trans (cn_X1_addJump fu 84 (F 31) F G _ hc) (cn_X4_leap_69 fu r1 F1 G1 hm)
theorem cw_X4_leap_55 (fu : Nat) {res : Int32 × PF × PG} (C : cMC p R s m args c A v RX4 cX4_leap 1 2 42 (xn res.2.1 - xn K0)) (hret : ∀ (b1 : Nat) (H1 : Heap) (locs1 : List Loc) (ls1 : Array Slot) (pc : Nat), cMW s A v a b1 K0 res.2.1 res.2.2 H1 locs1 → decode cX4_leap pc = .ok (.return_, 1) → W p l e R s m args below meth c H1 locs1 (xn res.2.1 - xn K0) (2 * (xn res.2.1 - xn K0)) Q (F0 m pc ls1 [])) (F : PF) (G : PG) (hm : cb_X4_leap_55 fu F G = some res) {b : Nat} {H : Heap} {locs : List Loc} (hw : cMW s A v a b K0 F G H locs) {ls : Array Slot} (hl : lv_has ls 1 [(0, .ref (a 204))]) : W p l e R s m args below meth c H locs (xn F - xn K0) (2 * (xn F - xn K0)) Q (F0 m 55 ls []) := by
  have hx := C.1
  have hb := C.2.1
  unfold cb_X4_leap_55 at hm
  refine lv_aload_n hx hb dX4_leap_55 rfl (lv_at hl 0 rfl) ?_
  refine lv_aload_n hx hb dX4_leap_56 rfl (lv_at hl 0 rfl) ?_
  refine cg_X4_19 C hw dX4_leap_57 ?_
  refine lv_bipush (v := 84) hx hb dX4_leap_60 (by decide) ?_
  refine lv_aload_n hx hb dX4_leap_62 rfl (lv_at hl 0 rfl) ?_
  refine cg_X4_122 C hw dX4_leap_63 ?_
  obtain ⟨⟨r1, F1, G1⟩, hc, hm⟩ := bind_elim hm
  refine ccallI (n := 2) (As := [.int 84, .int (F 31)]) (rest := [.ref (a 204)]) C hw (ck_X1_addJump l v a _ _ fu 84 (F 31) F G r1 F1 G1 hc) (cn_X1_addJump fu 84 (F 31) F G _ hc) (Nat.sub_le_sub_right (cn_X4_leap_69 fu r1 F1 G1 hm) _) (crecv_X1 C hw) cm_718 cm_367 cm_368 cm_369 cm_370 (by decide +kernel) rfl (by omega) (by omega) hl.1 rfl (Nat.le_of_ble_eq_true rfl) dX4_leap_66 (fun b H locs hw => ?_)
  exact cw_X4_leap_69 fu C hret r1 F1 G1 hm hw (lv_sub hl [0] rfl)
theorem cn_X4_leap_52 (fu : Nat) {res : Int32 × PF × PG} (F : PF) (G : PG) (hm : cb_X4_leap_52 fu F G = some res) : xn F ≤ xn res.2.1 := by
  unfold cb_X4_leap_52 at hm
  exact (cn_X4_leap_72 fu F G hm)
theorem cw_X4_leap_52 (fu : Nat) {res : Int32 × PF × PG} (C : cMC p R s m args c A v RX4 cX4_leap 1 2 42 (xn res.2.1 - xn K0)) (hret : ∀ (b1 : Nat) (H1 : Heap) (locs1 : List Loc) (ls1 : Array Slot) (pc : Nat), cMW s A v a b1 K0 res.2.1 res.2.2 H1 locs1 → decode cX4_leap pc = .ok (.return_, 1) → W p l e R s m args below meth c H1 locs1 (xn res.2.1 - xn K0) (2 * (xn res.2.1 - xn K0)) Q (F0 m pc ls1 [])) (F : PF) (G : PG) (hm : cb_X4_leap_52 fu F G = some res) {b : Nat} {H : Heap} {locs : List Loc} (hw : cMW s A v a b K0 F G H locs) {ls : Array Slot} (hl : lv_has ls 1 [(0, .ref (a 204))]) : W p l e R s m args below meth c H locs (xn F - xn K0) (2 * (xn F - xn K0)) Q (F0 m 52 ls []) := by
  have hx := C.1
  have hb := C.2.1
  unfold cb_X4_leap_52 at hm
  refine lv_goto (tgt := 72) hx hb dX4_leap_52 (by decide) ?_
  exact cw_X4_leap_72 fu C hret F G hm hw (lv_sub hl [0] rfl)
theorem cn_X4_leap_49 (fu : Nat) {res : Int32 × PF × PG} (z0 : Int32) (F : PF) (G : PG) (hm : cb_X4_leap_49 fu z0 F G = some res) : xn F ≤ xn res.2.1 := by
  unfold cb_X4_leap_49 at hm
  exact Nat.le_trans (Nat.le_of_eq (xn_fup (by decide)).symm) (cn_X4_leap_52 fu (fup F 30 z0) G hm)
theorem cw_X4_leap_49 (fu : Nat) {res : Int32 × PF × PG} (C : cMC p R s m args c A v RX4 cX4_leap 1 2 42 (xn res.2.1 - xn K0)) (hret : ∀ (b1 : Nat) (H1 : Heap) (locs1 : List Loc) (ls1 : Array Slot) (pc : Nat), cMW s A v a b1 K0 res.2.1 res.2.2 H1 locs1 → decode cX4_leap pc = .ok (.return_, 1) → W p l e R s m args below meth c H1 locs1 (xn res.2.1 - xn K0) (2 * (xn res.2.1 - xn K0)) Q (F0 m pc ls1 [])) (z0 : Int32) (F : PF) (G : PG) (hm : cb_X4_leap_49 fu z0 F G = some res) {b : Nat} {H : Heap} {locs : List Loc} (hw : cMW s A v a b K0 F G H locs) {ls : Array Slot} (hl : lv_has ls 1 [(0, .ref (a 204))]) : W p l e R s m args below meth c H locs (xn F - xn K0) (2 * (xn F - xn K0)) Q (F0 m 49 ls [.int z0, .ref (a 204)]) := by
  have hx := C.1
  have hb := C.2.1
  unfold cb_X4_leap_49 at hm
  refine cp_X4_119 C hw dX4_leap_49 (fun H locs hw => ?_)
  exact cw_X4_leap_52 fu C hret (fup F 30 z0) G hm hw (lv_sub hl [0] rfl)
theorem cn_X4_leap_35 (fu : Nat) {res : Int32 × PF × PG} (F : PF) (G : PG) (hm : cb_X4_leap_35 fu F G = some res) : xn F ≤ xn res.2.1 := by
  unfold cb_X4_leap_35 at hm
  obtain ⟨⟨r1, F1, G1⟩, hc, hm⟩ := bind_elim hm
  exact Nat.le_trans (cn_X1_addJump fu 84 (F 30) F G _ hc) (cn_X4_leap_49 fu r1 F1 G1 hm)
theorem cw_X4_leap_35 (fu : Nat) {res : Int32 × PF × PG} (C : cMC p R s m args c A v RX4 cX4_leap 1 2 42 (xn res.2.1 - xn K0)) (hret : ∀ (b1 : Nat) (H1 : Heap) (locs1 : List Loc) (ls1 : Array Slot) (pc : Nat), cMW s A v a b1 K0 res.2.1 res.2.2 H1 locs1 → decode cX4_leap pc = .ok (.return_, 1) → W p l e R s m args below meth c H1 locs1 (xn res.2.1 - xn K0) (2 * (xn res.2.1 - xn K0)) Q (F0 m pc ls1 [])) (F : PF) (G : PG) (hm : cb_X4_leap_35 fu F G = some res) {b : Nat} {H : Heap} {locs : List Loc} (hw : cMW s A v a b K0 F G H locs) {ls : Array Slot} (hl : lv_has ls 1 [(0, .ref (a 204))]) : W p l e R s m args below meth c H locs (xn F - xn K0) (2 * (xn F - xn K0)) Q (F0 m 35 ls []) := by
  have hx := C.1
  have hb := C.2.1
  unfold cb_X4_leap_35 at hm
  refine lv_aload_n hx hb dX4_leap_35 rfl (lv_at hl 0 rfl) ?_
  refine lv_aload_n hx hb dX4_leap_36 rfl (lv_at hl 0 rfl) ?_
  refine cg_X4_19 C hw dX4_leap_37 ?_
  refine lv_bipush (v := 84) hx hb dX4_leap_40 (by decide) ?_
  refine lv_aload_n hx hb dX4_leap_42 rfl (lv_at hl 0 rfl) ?_
  refine cg_X4_119 C hw dX4_leap_43 ?_
  obtain ⟨⟨r1, F1, G1⟩, hc, hm⟩ := bind_elim hm
  refine ccallI (n := 2) (As := [.int 84, .int (F 30)]) (rest := [.ref (a 204)]) C hw (ck_X1_addJump l v a _ _ fu 84 (F 30) F G r1 F1 G1 hc) (cn_X1_addJump fu 84 (F 30) F G _ hc) (Nat.sub_le_sub_right (cn_X4_leap_49 fu r1 F1 G1 hm) _) (crecv_X1 C hw) cm_718 cm_367 cm_368 cm_369 cm_370 (by decide +kernel) rfl (by omega) (by omega) hl.1 rfl (Nat.le_of_ble_eq_true rfl) dX4_leap_46 (fun b H locs hw => ?_)
  exact cw_X4_leap_49 fu C hret r1 F1 G1 hm hw (lv_sub hl [0] rfl)
theorem cn_X4_leap_23 (fu : Nat) {res : Int32 × PF × PG} (F : PF) (G : PG) (hm : cb_X4_leap_23 fu F G = some res) : xn F ≤ xn res.2.1 := by
  unfold cb_X4_leap_23 at hm
  by_cases c_1 : (F 11) = (13 : Int32)
  · have hm := (if_pos c_1).symm.trans hm
    exact (cn_X4_leap_35 fu F G hm)
  · have hm := (if_neg c_1).symm.trans hm
    exact (cn_X4_leap_55 fu F G hm)
theorem cw_X4_leap_23 (fu : Nat) {res : Int32 × PF × PG} (C : cMC p R s m args c A v RX4 cX4_leap 1 2 42 (xn res.2.1 - xn K0)) (hret : ∀ (b1 : Nat) (H1 : Heap) (locs1 : List Loc) (ls1 : Array Slot) (pc : Nat), cMW s A v a b1 K0 res.2.1 res.2.2 H1 locs1 → decode cX4_leap pc = .ok (.return_, 1) → W p l e R s m args below meth c H1 locs1 (xn res.2.1 - xn K0) (2 * (xn res.2.1 - xn K0)) Q (F0 m pc ls1 [])) (F : PF) (G : PG) (hm : cb_X4_leap_23 fu F G = some res) {b : Nat} {H : Heap} {locs : List Loc} (hw : cMW s A v a b K0 F G H locs) {ls : Array Slot} (hl : lv_has ls 1 [(0, .ref (a 204))]) : W p l e R s m args below meth c H locs (xn F - xn K0) (2 * (xn F - xn K0)) Q (F0 m 23 ls []) := by
  have hx := C.1
  have hb := C.2.1
  unfold cb_X4_leap_23 at hm
  refine lv_aload_n hx hb dX4_leap_23 rfl (lv_at hl 0 rfl) ?_
  refine cg_X4_9 C hw dX4_leap_24 ?_
  refine cg_X4_52 C hw dX4_leap_27 ?_
  refine lv_bipush (v := 13) hx hb dX4_leap_30 (by decide) ?_
  refine lv_icmp_ne (tgt := 55) hx hb dX4_leap_32 (by decide) (fun c_1 => ?_) (fun c_1 => ?_)
  · have hm := (if_neg c_1).symm.trans hm
    exact cw_X4_leap_55 fu C hret F G hm hw (lv_sub hl [0] rfl)
  · have hm := (if_pos c_1).symm.trans hm
    exact cw_X4_leap_35 fu C hret F G hm hw (lv_sub hl [0] rfl)
theorem cn_X4_leap_7 (fu : Nat) {res : Int32 × PF × PG} (F : PF) (G : PG) (hm : cb_X4_leap_7 fu F G = some res) : xn F ≤ xn res.2.1 := by
  unfold cb_X4_leap_7 at hm
  obtain ⟨⟨r1, F1, G1⟩, hc, hm⟩ := bind_elim hm
  exact Nat.le_trans (cn_X5_note fu 6 (F 13) F G _ hc) (cn_X4_leap_23 fu F1 G1 hm)
theorem cw_X4_leap_7 (fu : Nat) {res : Int32 × PF × PG} (C : cMC p R s m args c A v RX4 cX4_leap 1 2 42 (xn res.2.1 - xn K0)) (hret : ∀ (b1 : Nat) (H1 : Heap) (locs1 : List Loc) (ls1 : Array Slot) (pc : Nat), cMW s A v a b1 K0 res.2.1 res.2.2 H1 locs1 → decode cX4_leap pc = .ok (.return_, 1) → W p l e R s m args below meth c H1 locs1 (xn res.2.1 - xn K0) (2 * (xn res.2.1 - xn K0)) Q (F0 m pc ls1 [])) (F : PF) (G : PG) (hm : cb_X4_leap_7 fu F G = some res) {b : Nat} {H : Heap} {locs : List Loc} (hw : cMW s A v a b K0 F G H locs) {ls : Array Slot} (hl : lv_has ls 1 [(0, .ref (a 204))]) : W p l e R s m args below meth c H locs (xn F - xn K0) (2 * (xn F - xn K0)) Q (F0 m 7 ls []) := by
  have hx := C.1
  have hb := C.2.1
  unfold cb_X4_leap_7 at hm
  refine lv_aload_n hx hb dX4_leap_7 rfl (lv_at hl 0 rfl) ?_
  refine cg_X4_15 C hw dX4_leap_8 ?_
  refine lv_bipush (v := 6) hx hb dX4_leap_11 (by decide) ?_
  refine lv_aload_n hx hb dX4_leap_13 rfl (lv_at hl 0 rfl) ?_
  refine cg_X4_9 C hw dX4_leap_14 ?_
  refine cg_X4_67 C hw dX4_leap_17 ?_
  obtain ⟨⟨r1, F1, G1⟩, hc, hm⟩ := bind_elim hm
  refine ccallV (n := 2) (As := [.int 6, .int (F 13)]) (rest := []) C hw (ck_X5_note l v a _ _ fu 6 (F 13) F G r1 F1 G1 hc) (cn_X5_note fu 6 (F 13) F G _ hc) (Nat.sub_le_sub_right (cn_X4_leap_23 fu F1 G1 hm) _) (crecv_X5 C hw) cm_628 cm_425 cm_426 cm_266 cm_427 (by decide +kernel) rfl (by omega) (by omega) hl.1 rfl (Nat.le_of_ble_eq_true rfl) dX4_leap_20 (fun b H locs hw => ?_)
  exact cw_X4_leap_23 fu C hret F1 G1 hm hw (lv_sub hl [0] rfl)
theorem cn_X4_leap_0 (fu : Nat) {res : Int32 × PF × PG} (F : PF) (G : PG) (hm : cb_X4_leap_0 fu F G = some res) : xn F ≤ xn res.2.1 := by
  unfold cb_X4_leap_0 at hm
  by_cases c_1 : (F 29) = (0 : Int32)
  · have hm := (if_pos c_1).symm.trans hm
    exact (cn_X4_leap_7 fu F G hm)
  · have hm := (if_neg c_1).symm.trans hm
    exact (cn_X4_leap_23 fu F G hm)
theorem cw_X4_leap_0 (fu : Nat) {res : Int32 × PF × PG} (C : cMC p R s m args c A v RX4 cX4_leap 1 2 42 (xn res.2.1 - xn K0)) (hret : ∀ (b1 : Nat) (H1 : Heap) (locs1 : List Loc) (ls1 : Array Slot) (pc : Nat), cMW s A v a b1 K0 res.2.1 res.2.2 H1 locs1 → decode cX4_leap pc = .ok (.return_, 1) → W p l e R s m args below meth c H1 locs1 (xn res.2.1 - xn K0) (2 * (xn res.2.1 - xn K0)) Q (F0 m pc ls1 [])) (F : PF) (G : PG) (hm : cb_X4_leap_0 fu F G = some res) {b : Nat} {H : Heap} {locs : List Loc} (hw : cMW s A v a b K0 F G H locs) {ls : Array Slot} (hl : lv_has ls 1 [(0, .ref (a 204))]) : W p l e R s m args below meth c H locs (xn F - xn K0) (2 * (xn F - xn K0)) Q (F0 m 0 ls []) := by
  have hx := C.1
  have hb := C.2.1
  unfold cb_X4_leap_0 at hm
  refine lv_aload_n hx hb dX4_leap_0 rfl (lv_at hl 0 rfl) ?_
  refine cg_X4_116 C hw dX4_leap_1 ?_
  refine lv_if_ne (tgt := 23) hx hb dX4_leap_4 (by decide) (fun c_1 => ?_) (fun c_1 => ?_)
  · have hm := (if_neg c_1).symm.trans hm
    exact cw_X4_leap_23 fu C hret F G hm hw (lv_sub hl [0] rfl)
  · have hm := (if_pos c_1).symm.trans hm
    exact cw_X4_leap_7 fu C hret F G hm hw (lv_sub hl [0] rfl)
theorem cn_X4_leap (fu : Nat) (F : PF) (G : PG) (q : Int32 × PF × PG) (hm : cf_X4_leap fu F G = some q) : xn F ≤ xn q.2.1 := cn_X4_leap_0 fu F G hm
theorem ck_X4_leap (l : Launch) (v : EV) (a : Nat → Nat) (b sz : Nat) (fu : Nat) (F : PF) (G : PG) (r : Int32) (F1 : PF) (G1 : PG) (hm : cf_X4_leap fu F G = some (r, F1, G1)) : cMV l yX4_leap cX4_leap 1 2 42 v a b sz [.ref (a 204)] F G F1 G1 := cMV.of (by decide) (Nat.le_of_ble_eq_true rfl) (fun p e R s m args below meth c Q A H locs ls C hw hl hret => cw_X4_leap_0 fu (res := (r, F1, G1)) C hret F G hm hw hl)
def cb_X4_returnStatement_93 (fu : Nat) (F : PF) (G : PG) : PR := some (0, F, G)
def cb_X4_returnStatement_84 (fu : Nat) (F : PF) (G : PG) : PR := (cf_X2_expect fu 26 F G).bind (fun q => cb_X4_returnStatement_93 fu q.2.1 q.2.2)
def cb_X4_returnStatement_75 (fu : Nat) (F : PF) (G : PG) : PR := (cf_X1_add fu 15 F G).bind (fun q => cb_X4_returnStatement_84 fu q.2.1 q.2.2)
def cb_X4_returnStatement_68 (fu : Nat) (F : PF) (G : PG) : PR := (cf_X3_expression fu F G).bind (fun q => cb_X4_returnStatement_75 fu q.2.1 q.2.2)
def cb_X4_returnStatement_65 (fu : Nat) (F : PF) (G : PG) : PR := cb_X4_returnStatement_75 fu F G
def cb_X4_returnStatement_55 (fu : Nat) (F : PF) (G : PG) : PR := (cf_X1_addPair fu 66 0 F G).bind (fun q => cb_X4_returnStatement_65 fu q.2.1 q.2.2)
def cb_X4_returnStatement_51 (fu : Nat) (x1 : Int32) (F : PF) (G : PG) : PR := if x1 = (0 : Int32) then cb_X4_returnStatement_68 fu F G else cb_X4_returnStatement_55 fu F G
def cb_X4_returnStatement_36 (fu : Nat) (x1 : Int32) (F : PF) (G : PG) : PR := (cf_X5_note fu 3 (F 13) F G).bind (fun q => cb_X4_returnStatement_51 fu x1 q.2.1 q.2.2)
def cb_X4_returnStatement_24 (fu : Nat) (z0 : Int32) (F : PF) (G : PG) : PR := if z0 = (F 48) then cb_X4_returnStatement_36 fu z0 F G else cb_X4_returnStatement_51 fu z0 F G
def cb_X4_returnStatement_23 (fu : Nat) (F : PF) (G : PG) : PR := cb_X4_returnStatement_24 fu 0 F G
def cb_X4_returnStatement_19 (fu : Nat) (F : PF) (G : PG) : PR := cb_X4_returnStatement_24 fu 1 F G
def cb_X4_returnStatement_7 (fu : Nat) (F : PF) (G : PG) : PR := if (F 11) = (26 : Int32) then cb_X4_returnStatement_19 fu F G else cb_X4_returnStatement_23 fu F G
def cb_X4_returnStatement_0 (fu : Nat) (F : PF) (G : PG) : PR := (cf_X2_next fu F G).bind (fun q => cb_X4_returnStatement_7 fu q.2.1 q.2.2)
def cf_X4_returnStatement (fu : Nat) (F : PF) (G : PG) : PR := cb_X4_returnStatement_0 fu F G
theorem cn_X4_returnStatement_93 (fu : Nat) {res : Int32 × PF × PG} (F : PF) (G : PG) (hm : cb_X4_returnStatement_93 fu F G = some res) : xn F ≤ xn res.2.1 := by
  unfold cb_X4_returnStatement_93 at hm
  obtain rfl := Option.some.inj hm
  exact Nat.le_refl _
theorem cw_X4_returnStatement_93 (fu : Nat) {res : Int32 × PF × PG} (C : cMC p R s m args c A v RX4 cX4_returnStatement 2 303 18071 (xn res.2.1 - xn K0)) (hret : ∀ (b1 : Nat) (H1 : Heap) (locs1 : List Loc) (ls1 : Array Slot) (pc : Nat), cMW s A v a b1 K0 res.2.1 res.2.2 H1 locs1 → decode cX4_returnStatement pc = .ok (.return_, 1) → W p l e R s m args below meth c H1 locs1 (xn res.2.1 - xn K0) (2 * (xn res.2.1 - xn K0)) Q (F0 m pc ls1 [])) (F : PF) (G : PG) (hm : cb_X4_returnStatement_93 fu F G = some res) {b : Nat} {H : Heap} {locs : List Loc} (hw : cMW s A v a b K0 F G H locs) {ls : Array Slot} (hl : lv_has ls 2 []) : W p l e R s m args below meth c H locs (xn F - xn K0) (2 * (xn F - xn K0)) Q (F0 m 93 ls []) := by
  have hx := C.1
  have hb := C.2.1
  unfold cb_X4_returnStatement_93 at hm
  obtain rfl := Option.some.inj hm
  exact hret _ _ _ _ _ hw dX4_returnStatement_93
theorem cn_X4_returnStatement_84 (fu : Nat) {res : Int32 × PF × PG} (F : PF) (G : PG) (hm : cb_X4_returnStatement_84 fu F G = some res) : xn F ≤ xn res.2.1 := by
  unfold cb_X4_returnStatement_84 at hm
  obtain ⟨⟨r1, F1, G1⟩, hc, hm⟩ := bind_elim hm
  exact Nat.le_trans (cn_X2_expect fu 26 F G _ hc) (cn_X4_returnStatement_93 fu F1 G1 hm)
theorem cw_X4_returnStatement_84 (fu : Nat) {res : Int32 × PF × PG} (C : cMC p R s m args c A v RX4 cX4_returnStatement 2 303 18071 (xn res.2.1 - xn K0)) (hret : ∀ (b1 : Nat) (H1 : Heap) (locs1 : List Loc) (ls1 : Array Slot) (pc : Nat), cMW s A v a b1 K0 res.2.1 res.2.2 H1 locs1 → decode cX4_returnStatement pc = .ok (.return_, 1) → W p l e R s m args below meth c H1 locs1 (xn res.2.1 - xn K0) (2 * (xn res.2.1 - xn K0)) Q (F0 m pc ls1 [])) (F : PF) (G : PG) (hm : cb_X4_returnStatement_84 fu F G = some res) {b : Nat} {H : Heap} {locs : List Loc} (hw : cMW s A v a b K0 F G H locs) {ls : Array Slot} (hl : lv_has ls 2 [(0, .ref (a 204))]) : W p l e R s m args below meth c H locs (xn F - xn K0) (2 * (xn F - xn K0)) Q (F0 m 84 ls []) := by
  have hx := C.1
  have hb := C.2.1
  unfold cb_X4_returnStatement_84 at hm
  refine lv_aload_n hx hb dX4_returnStatement_84 rfl (lv_at hl 0 rfl) ?_
  refine cg_X4_9 C hw dX4_returnStatement_85 ?_
  refine lv_bipush (v := 26) hx hb dX4_returnStatement_88 (by decide) ?_
  obtain ⟨⟨r1, F1, G1⟩, hc, hm⟩ := bind_elim hm
  refine ccallV (n := 1) (As := [.int 26]) (rest := []) C hw (ck_X2_expect l v a _ _ fu 26 F G r1 F1 G1 hc) (cn_X2_expect fu 26 F G _ hc) (Nat.sub_le_sub_right (cn_X4_returnStatement_93 fu F1 G1 hm) _) (crecv_X2 C hw) cm_332 cm_333 cm_334 cm_307 cm_335 (by decide +kernel) rfl (by omega) (by omega) hl.1 rfl (Nat.le_of_ble_eq_true rfl) dX4_returnStatement_90 (fun b H locs hw => ?_)
  exact cw_X4_returnStatement_93 fu C hret F1 G1 hm hw (lv_sub hl [] rfl)
theorem cn_X4_returnStatement_75 (fu : Nat) {res : Int32 × PF × PG} (F : PF) (G : PG) (hm : cb_X4_returnStatement_75 fu F G = some res) : xn F ≤ xn res.2.1 := by
  unfold cb_X4_returnStatement_75 at hm
  obtain ⟨⟨r1, F1, G1⟩, hc, hm⟩ := bind_elim hm
  exact Nat.le_trans (cn_X1_add fu 15 F G _ hc) (cn_X4_returnStatement_84 fu F1 G1 hm)
theorem cw_X4_returnStatement_75 (fu : Nat) {res : Int32 × PF × PG} (C : cMC p R s m args c A v RX4 cX4_returnStatement 2 303 18071 (xn res.2.1 - xn K0)) (hret : ∀ (b1 : Nat) (H1 : Heap) (locs1 : List Loc) (ls1 : Array Slot) (pc : Nat), cMW s A v a b1 K0 res.2.1 res.2.2 H1 locs1 → decode cX4_returnStatement pc = .ok (.return_, 1) → W p l e R s m args below meth c H1 locs1 (xn res.2.1 - xn K0) (2 * (xn res.2.1 - xn K0)) Q (F0 m pc ls1 [])) (F : PF) (G : PG) (hm : cb_X4_returnStatement_75 fu F G = some res) {b : Nat} {H : Heap} {locs : List Loc} (hw : cMW s A v a b K0 F G H locs) {ls : Array Slot} (hl : lv_has ls 2 [(0, .ref (a 204))]) : W p l e R s m args below meth c H locs (xn F - xn K0) (2 * (xn F - xn K0)) Q (F0 m 75 ls []) := by
  have hx := C.1
  have hb := C.2.1
  unfold cb_X4_returnStatement_75 at hm
  refine lv_aload_n hx hb dX4_returnStatement_75 rfl (lv_at hl 0 rfl) ?_
  refine cg_X4_19 C hw dX4_returnStatement_76 ?_
  refine lv_bipush (v := 15) hx hb dX4_returnStatement_79 (by decide) ?_
  obtain ⟨⟨r1, F1, G1⟩, hc, hm⟩ := bind_elim hm
  refine ccallV (n := 1) (As := [.int 15]) (rest := []) C hw (ck_X1_add l v a _ _ fu 15 F G r1 F1 G1 hc) (cn_X1_add fu 15 F G _ hc) (Nat.sub_le_sub_right (cn_X4_returnStatement_84 fu F1 G1 hm) _) (crecv_X1 C hw) cm_687 cm_453 cm_454 cm_369 cm_455 (by decide +kernel) rfl (by omega) (by omega) hl.1 rfl (Nat.le_of_ble_eq_true rfl) dX4_returnStatement_81 (fun b H locs hw => ?_)
  exact cw_X4_returnStatement_84 fu C hret F1 G1 hm hw (lv_sub hl [0] rfl)
theorem cn_X4_returnStatement_68 (fu : Nat) {res : Int32 × PF × PG} (F : PF) (G : PG) (hm : cb_X4_returnStatement_68 fu F G = some res) : xn F ≤ xn res.2.1 := by
  unfold cb_X4_returnStatement_68 at hm
  obtain ⟨⟨r1, F1, G1⟩, hc, hm⟩ := bind_elim hm
  exact Nat.le_trans (cn_X3_expression fu F G _ hc) (cn_X4_returnStatement_75 fu F1 G1 hm)
theorem cw_X4_returnStatement_68 (fu : Nat) {res : Int32 × PF × PG} (C : cMC p R s m args c A v RX4 cX4_returnStatement 2 303 18071 (xn res.2.1 - xn K0)) (hret : ∀ (b1 : Nat) (H1 : Heap) (locs1 : List Loc) (ls1 : Array Slot) (pc : Nat), cMW s A v a b1 K0 res.2.1 res.2.2 H1 locs1 → decode cX4_returnStatement pc = .ok (.return_, 1) → W p l e R s m args below meth c H1 locs1 (xn res.2.1 - xn K0) (2 * (xn res.2.1 - xn K0)) Q (F0 m pc ls1 [])) (F : PF) (G : PG) (hm : cb_X4_returnStatement_68 fu F G = some res) {b : Nat} {H : Heap} {locs : List Loc} (hw : cMW s A v a b K0 F G H locs) {ls : Array Slot} (hl : lv_has ls 2 [(0, .ref (a 204))]) : W p l e R s m args below meth c H locs (xn F - xn K0) (2 * (xn F - xn K0)) Q (F0 m 68 ls []) := by
  have hx := C.1
  have hb := C.2.1
  unfold cb_X4_returnStatement_68 at hm
  refine lv_aload_n hx hb dX4_returnStatement_68 rfl (lv_at hl 0 rfl) ?_
  refine cg_X4_27 C hw dX4_returnStatement_69 ?_
  obtain ⟨⟨r1, F1, G1⟩, hc, hm⟩ := bind_elim hm
  refine ccallV (n := 0) (As := []) (rest := []) C hw (ck_X3_expression l v a _ _ fu F G r1 F1 G1 hc) (cn_X3_expression fu F G _ hc) (Nat.sub_le_sub_right (cn_X4_returnStatement_75 fu F1 G1 hm) _) (crecv_X3 C hw) cm_659 cm_354 cm_355 cm_301 cm_356 (by decide +kernel) rfl (by omega) (by omega) hl.1 rfl (Nat.le_of_ble_eq_true rfl) dX4_returnStatement_72 (fun b H locs hw => ?_)
  exact cw_X4_returnStatement_75 fu C hret F1 G1 hm hw (lv_sub hl [0] rfl)
theorem cn_X4_returnStatement_65 (fu : Nat) {res : Int32 × PF × PG} (F : PF) (G : PG) (hm : cb_X4_returnStatement_65 fu F G = some res) : xn F ≤ xn res.2.1 := by
  unfold cb_X4_returnStatement_65 at hm
  exact (cn_X4_returnStatement_75 fu F G hm)
theorem cw_X4_returnStatement_65 (fu : Nat) {res : Int32 × PF × PG} (C : cMC p R s m args c A v RX4 cX4_returnStatement 2 303 18071 (xn res.2.1 - xn K0)) (hret : ∀ (b1 : Nat) (H1 : Heap) (locs1 : List Loc) (ls1 : Array Slot) (pc : Nat), cMW s A v a b1 K0 res.2.1 res.2.2 H1 locs1 → decode cX4_returnStatement pc = .ok (.return_, 1) → W p l e R s m args below meth c H1 locs1 (xn res.2.1 - xn K0) (2 * (xn res.2.1 - xn K0)) Q (F0 m pc ls1 [])) (F : PF) (G : PG) (hm : cb_X4_returnStatement_65 fu F G = some res) {b : Nat} {H : Heap} {locs : List Loc} (hw : cMW s A v a b K0 F G H locs) {ls : Array Slot} (hl : lv_has ls 2 [(0, .ref (a 204))]) : W p l e R s m args below meth c H locs (xn F - xn K0) (2 * (xn F - xn K0)) Q (F0 m 65 ls []) := by
  have hx := C.1
  have hb := C.2.1
  unfold cb_X4_returnStatement_65 at hm
  refine lv_goto (tgt := 75) hx hb dX4_returnStatement_65 (by decide) ?_
  exact cw_X4_returnStatement_75 fu C hret F G hm hw (lv_sub hl [0] rfl)
theorem cn_X4_returnStatement_55 (fu : Nat) {res : Int32 × PF × PG} (F : PF) (G : PG) (hm : cb_X4_returnStatement_55 fu F G = some res) : xn F ≤ xn res.2.1 := by
  unfold cb_X4_returnStatement_55 at hm
  obtain ⟨⟨r1, F1, G1⟩, hc, hm⟩ := bind_elim hm
  exact Nat.le_trans (cn_X1_addPair fu 66 0 F G _ hc) (cn_X4_returnStatement_65 fu F1 G1 hm)
theorem cw_X4_returnStatement_55 (fu : Nat) {res : Int32 × PF × PG} (C : cMC p R s m args c A v RX4 cX4_returnStatement 2 303 18071 (xn res.2.1 - xn K0)) (hret : ∀ (b1 : Nat) (H1 : Heap) (locs1 : List Loc) (ls1 : Array Slot) (pc : Nat), cMW s A v a b1 K0 res.2.1 res.2.2 H1 locs1 → decode cX4_returnStatement pc = .ok (.return_, 1) → W p l e R s m args below meth c H1 locs1 (xn res.2.1 - xn K0) (2 * (xn res.2.1 - xn K0)) Q (F0 m pc ls1 [])) (F : PF) (G : PG) (hm : cb_X4_returnStatement_55 fu F G = some res) {b : Nat} {H : Heap} {locs : List Loc} (hw : cMW s A v a b K0 F G H locs) {ls : Array Slot} (hl : lv_has ls 2 [(0, .ref (a 204))]) : W p l e R s m args below meth c H locs (xn F - xn K0) (2 * (xn F - xn K0)) Q (F0 m 55 ls []) := by
  have hx := C.1
  have hb := C.2.1
  unfold cb_X4_returnStatement_55 at hm
  refine lv_aload_n hx hb dX4_returnStatement_55 rfl (lv_at hl 0 rfl) ?_
  refine cg_X4_19 C hw dX4_returnStatement_56 ?_
  refine lv_bipush (v := 66) hx hb dX4_returnStatement_59 (by decide) ?_
  refine lv_iconst (v := 0) hx hb dX4_returnStatement_61 (by decide) ?_
  obtain ⟨⟨r1, F1, G1⟩, hc, hm⟩ := bind_elim hm
  refine ccallV (n := 2) (As := [.int 66, .int 0]) (rest := []) C hw (ck_X1_addPair l v a _ _ fu 66 0 F G r1 F1 G1 hc) (cn_X1_addPair fu 66 0 F G _ hc) (Nat.sub_le_sub_right (cn_X4_returnStatement_65 fu F1 G1 hm) _) (crecv_X1 C hw) cm_660 cm_449 cm_450 cm_369 cm_451 (by decide +kernel) rfl (by omega) (by omega) hl.1 rfl (Nat.le_of_ble_eq_true rfl) dX4_returnStatement_62 (fun b H locs hw => ?_)
  exact cw_X4_returnStatement_65 fu C hret F1 G1 hm hw (lv_sub hl [0] rfl)
theorem cn_X4_returnStatement_51 (fu : Nat) {res : Int32 × PF × PG} (x1 : Int32) (F : PF) (G : PG) (hm : cb_X4_returnStatement_51 fu x1 F G = some res) : xn F ≤ xn res.2.1 := by
  unfold cb_X4_returnStatement_51 at hm
  by_cases c_1 : x1 = (0 : Int32)
  · have hm := (if_pos c_1).symm.trans hm
    exact (cn_X4_returnStatement_68 fu F G hm)
  · have hm := (if_neg c_1).symm.trans hm
    exact (cn_X4_returnStatement_55 fu F G hm)
theorem cw_X4_returnStatement_51 (fu : Nat) {res : Int32 × PF × PG} (C : cMC p R s m args c A v RX4 cX4_returnStatement 2 303 18071 (xn res.2.1 - xn K0)) (hret : ∀ (b1 : Nat) (H1 : Heap) (locs1 : List Loc) (ls1 : Array Slot) (pc : Nat), cMW s A v a b1 K0 res.2.1 res.2.2 H1 locs1 → decode cX4_returnStatement pc = .ok (.return_, 1) → W p l e R s m args below meth c H1 locs1 (xn res.2.1 - xn K0) (2 * (xn res.2.1 - xn K0)) Q (F0 m pc ls1 [])) (x1 : Int32) (F : PF) (G : PG) (hm : cb_X4_returnStatement_51 fu x1 F G = some res) {b : Nat} {H : Heap} {locs : List Loc} (hw : cMW s A v a b K0 F G H locs) {ls : Array Slot} (hl : lv_has ls 2 [(0, .ref (a 204)), (1, .int x1)]) : W p l e R s m args below meth c H locs (xn F - xn K0) (2 * (xn F - xn K0)) Q (F0 m 51 ls []) := by
  have hx := C.1
  have hb := C.2.1
  unfold cb_X4_returnStatement_51 at hm
  refine lv_iload_n hx hb dX4_returnStatement_51 rfl (lv_at hl 1 rfl) ?_
  refine lv_if_eq (tgt := 68) hx hb dX4_returnStatement_52 (by decide) (fun c_1 => ?_) (fun c_1 => ?_)
  · have hm := (if_pos c_1).symm.trans hm
    exact cw_X4_returnStatement_68 fu C hret F G hm hw (lv_sub hl [0] rfl)
  · have hm := (if_neg c_1).symm.trans hm
    exact cw_X4_returnStatement_55 fu C hret F G hm hw (lv_sub hl [0] rfl)
theorem cn_X4_returnStatement_36 (fu : Nat) {res : Int32 × PF × PG} (x1 : Int32) (F : PF) (G : PG) (hm : cb_X4_returnStatement_36 fu x1 F G = some res) : xn F ≤ xn res.2.1 := by
  unfold cb_X4_returnStatement_36 at hm
  obtain ⟨⟨r1, F1, G1⟩, hc, hm⟩ := bind_elim hm
  exact Nat.le_trans (cn_X5_note fu 3 (F 13) F G _ hc) (cn_X4_returnStatement_51 fu x1 F1 G1 hm)
theorem cw_X4_returnStatement_36 (fu : Nat) {res : Int32 × PF × PG} (C : cMC p R s m args c A v RX4 cX4_returnStatement 2 303 18071 (xn res.2.1 - xn K0)) (hret : ∀ (b1 : Nat) (H1 : Heap) (locs1 : List Loc) (ls1 : Array Slot) (pc : Nat), cMW s A v a b1 K0 res.2.1 res.2.2 H1 locs1 → decode cX4_returnStatement pc = .ok (.return_, 1) → W p l e R s m args below meth c H1 locs1 (xn res.2.1 - xn K0) (2 * (xn res.2.1 - xn K0)) Q (F0 m pc ls1 [])) (x1 : Int32) (F : PF) (G : PG) (hm : cb_X4_returnStatement_36 fu x1 F G = some res) {b : Nat} {H : Heap} {locs : List Loc} (hw : cMW s A v a b K0 F G H locs) {ls : Array Slot} (hl : lv_has ls 2 [(0, .ref (a 204)), (1, .int x1)]) : W p l e R s m args below meth c H locs (xn F - xn K0) (2 * (xn F - xn K0)) Q (F0 m 36 ls []) := by
  have hx := C.1
  have hb := C.2.1
  unfold cb_X4_returnStatement_36 at hm
  refine lv_aload_n hx hb dX4_returnStatement_36 rfl (lv_at hl 0 rfl) ?_
  refine cg_X4_15 C hw dX4_returnStatement_37 ?_
  refine lv_iconst (v := 3) hx hb dX4_returnStatement_40 (by decide) ?_
  refine lv_aload_n hx hb dX4_returnStatement_41 rfl (lv_at hl 0 rfl) ?_
  refine cg_X4_9 C hw dX4_returnStatement_42 ?_
  refine cg_X4_67 C hw dX4_returnStatement_45 ?_
  obtain ⟨⟨r1, F1, G1⟩, hc, hm⟩ := bind_elim hm
  refine ccallV (n := 2) (As := [.int 3, .int (F 13)]) (rest := []) C hw (ck_X5_note l v a _ _ fu 3 (F 13) F G r1 F1 G1 hc) (cn_X5_note fu 3 (F 13) F G _ hc) (Nat.sub_le_sub_right (cn_X4_returnStatement_51 fu x1 F1 G1 hm) _) (crecv_X5 C hw) cm_628 cm_425 cm_426 cm_266 cm_427 (by decide +kernel) rfl (by omega) (by omega) hl.1 rfl (Nat.le_of_ble_eq_true rfl) dX4_returnStatement_48 (fun b H locs hw => ?_)
  exact cw_X4_returnStatement_51 fu C hret x1 F1 G1 hm hw (lv_sub hl [0, 1] rfl)
theorem cn_X4_returnStatement_24 (fu : Nat) {res : Int32 × PF × PG} (z0 : Int32) (F : PF) (G : PG) (hm : cb_X4_returnStatement_24 fu z0 F G = some res) : xn F ≤ xn res.2.1 := by
  unfold cb_X4_returnStatement_24 at hm
  by_cases c_1 : z0 = (F 48)
  · have hm := (if_pos c_1).symm.trans hm
    exact (cn_X4_returnStatement_36 fu z0 F G hm)
  · have hm := (if_neg c_1).symm.trans hm
    exact (cn_X4_returnStatement_51 fu z0 F G hm)
theorem cw_X4_returnStatement_24 (fu : Nat) {res : Int32 × PF × PG} (C : cMC p R s m args c A v RX4 cX4_returnStatement 2 303 18071 (xn res.2.1 - xn K0)) (hret : ∀ (b1 : Nat) (H1 : Heap) (locs1 : List Loc) (ls1 : Array Slot) (pc : Nat), cMW s A v a b1 K0 res.2.1 res.2.2 H1 locs1 → decode cX4_returnStatement pc = .ok (.return_, 1) → W p l e R s m args below meth c H1 locs1 (xn res.2.1 - xn K0) (2 * (xn res.2.1 - xn K0)) Q (F0 m pc ls1 [])) (z0 : Int32) (F : PF) (G : PG) (hm : cb_X4_returnStatement_24 fu z0 F G = some res) {b : Nat} {H : Heap} {locs : List Loc} (hw : cMW s A v a b K0 F G H locs) {ls : Array Slot} (hl : lv_has ls 2 [(0, .ref (a 204))]) : W p l e R s m args below meth c H locs (xn F - xn K0) (2 * (xn F - xn K0)) Q (F0 m 24 ls [.int z0]) := by
  have hx := C.1
  have hb := C.2.1
  unfold cb_X4_returnStatement_24 at hm
  refine lv_istore_n (lv' := [(1, .int z0), (0, .ref (a 204))]) hx hb dX4_returnStatement_24 rfl hl (by decide) rfl (fun ls hl => ?_)
  refine lv_iload_n hx hb dX4_returnStatement_25 rfl (lv_at hl 0 rfl) ?_
  refine lv_aload_n hx hb dX4_returnStatement_26 rfl (lv_at hl 1 rfl) ?_
  refine cg_X4_15 C hw dX4_returnStatement_27 ?_
  refine cg_X4_279 C hw dX4_returnStatement_30 ?_
  refine lv_icmp_ne (tgt := 51) hx hb dX4_returnStatement_33 (by decide) (fun c_1 => ?_) (fun c_1 => ?_)
  · have hm := (if_neg c_1).symm.trans hm
    exact cw_X4_returnStatement_51 fu C hret z0 F G hm hw (lv_sub hl [1, 0] rfl)
  · have hm := (if_pos c_1).symm.trans hm
    exact cw_X4_returnStatement_36 fu C hret z0 F G hm hw (lv_sub hl [1, 0] rfl)
theorem cn_X4_returnStatement_23 (fu : Nat) {res : Int32 × PF × PG} (F : PF) (G : PG) (hm : cb_X4_returnStatement_23 fu F G = some res) : xn F ≤ xn res.2.1 := by
  unfold cb_X4_returnStatement_23 at hm
  exact (cn_X4_returnStatement_24 fu 0 F G hm)
theorem cw_X4_returnStatement_23 (fu : Nat) {res : Int32 × PF × PG} (C : cMC p R s m args c A v RX4 cX4_returnStatement 2 303 18071 (xn res.2.1 - xn K0)) (hret : ∀ (b1 : Nat) (H1 : Heap) (locs1 : List Loc) (ls1 : Array Slot) (pc : Nat), cMW s A v a b1 K0 res.2.1 res.2.2 H1 locs1 → decode cX4_returnStatement pc = .ok (.return_, 1) → W p l e R s m args below meth c H1 locs1 (xn res.2.1 - xn K0) (2 * (xn res.2.1 - xn K0)) Q (F0 m pc ls1 [])) (F : PF) (G : PG) (hm : cb_X4_returnStatement_23 fu F G = some res) {b : Nat} {H : Heap} {locs : List Loc} (hw : cMW s A v a b K0 F G H locs) {ls : Array Slot} (hl : lv_has ls 2 [(0, .ref (a 204))]) : W p l e R s m args below meth c H locs (xn F - xn K0) (2 * (xn F - xn K0)) Q (F0 m 23 ls []) := by
  have hx := C.1
  have hb := C.2.1
  unfold cb_X4_returnStatement_23 at hm
  refine lv_iconst (v := 0) hx hb dX4_returnStatement_23 (by decide) ?_
  exact cw_X4_returnStatement_24 fu C hret 0 F G hm hw (lv_sub hl [0] rfl)
theorem cn_X4_returnStatement_19 (fu : Nat) {res : Int32 × PF × PG} (F : PF) (G : PG) (hm : cb_X4_returnStatement_19 fu F G = some res) : xn F ≤ xn res.2.1 := by
  unfold cb_X4_returnStatement_19 at hm
  exact (cn_X4_returnStatement_24 fu 1 F G hm)
theorem cw_X4_returnStatement_19 (fu : Nat) {res : Int32 × PF × PG} (C : cMC p R s m args c A v RX4 cX4_returnStatement 2 303 18071 (xn res.2.1 - xn K0)) (hret : ∀ (b1 : Nat) (H1 : Heap) (locs1 : List Loc) (ls1 : Array Slot) (pc : Nat), cMW s A v a b1 K0 res.2.1 res.2.2 H1 locs1 → decode cX4_returnStatement pc = .ok (.return_, 1) → W p l e R s m args below meth c H1 locs1 (xn res.2.1 - xn K0) (2 * (xn res.2.1 - xn K0)) Q (F0 m pc ls1 [])) (F : PF) (G : PG) (hm : cb_X4_returnStatement_19 fu F G = some res) {b : Nat} {H : Heap} {locs : List Loc} (hw : cMW s A v a b K0 F G H locs) {ls : Array Slot} (hl : lv_has ls 2 [(0, .ref (a 204))]) : W p l e R s m args below meth c H locs (xn F - xn K0) (2 * (xn F - xn K0)) Q (F0 m 19 ls []) := by
  have hx := C.1
  have hb := C.2.1
  unfold cb_X4_returnStatement_19 at hm
  refine lv_iconst (v := 1) hx hb dX4_returnStatement_19 (by decide) ?_
  refine lv_goto (tgt := 24) hx hb dX4_returnStatement_20 (by decide) ?_
  exact cw_X4_returnStatement_24 fu C hret 1 F G hm hw (lv_sub hl [0] rfl)
theorem cn_X4_returnStatement_7 (fu : Nat) {res : Int32 × PF × PG} (F : PF) (G : PG) (hm : cb_X4_returnStatement_7 fu F G = some res) : xn F ≤ xn res.2.1 := by
  unfold cb_X4_returnStatement_7 at hm
  by_cases c_1 : (F 11) = (26 : Int32)
  · have hm := (if_pos c_1).symm.trans hm
    exact (cn_X4_returnStatement_19 fu F G hm)
  · have hm := (if_neg c_1).symm.trans hm
    exact (cn_X4_returnStatement_23 fu F G hm)
theorem cw_X4_returnStatement_7 (fu : Nat) {res : Int32 × PF × PG} (C : cMC p R s m args c A v RX4 cX4_returnStatement 2 303 18071 (xn res.2.1 - xn K0)) (hret : ∀ (b1 : Nat) (H1 : Heap) (locs1 : List Loc) (ls1 : Array Slot) (pc : Nat), cMW s A v a b1 K0 res.2.1 res.2.2 H1 locs1 → decode cX4_returnStatement pc = .ok (.return_, 1) → W p l e R s m args below meth c H1 locs1 (xn res.2.1 - xn K0) (2 * (xn res.2.1 - xn K0)) Q (F0 m pc ls1 [])) (F : PF) (G : PG) (hm : cb_X4_returnStatement_7 fu F G = some res) {b : Nat} {H : Heap} {locs : List Loc} (hw : cMW s A v a b K0 F G H locs) {ls : Array Slot} (hl : lv_has ls 2 [(0, .ref (a 204))]) : W p l e R s m args below meth c H locs (xn F - xn K0) (2 * (xn F - xn K0)) Q (F0 m 7 ls []) := by
  have hx := C.1
  have hb := C.2.1
  unfold cb_X4_returnStatement_7 at hm
  refine lv_aload_n hx hb dX4_returnStatement_7 rfl (lv_at hl 0 rfl) ?_
  refine cg_X4_9 C hw dX4_returnStatement_8 ?_
  refine cg_X4_52 C hw dX4_returnStatement_11 ?_
  refine lv_bipush (v := 26) hx hb dX4_returnStatement_14 (by decide) ?_
  refine lv_icmp_ne (tgt := 23) hx hb dX4_returnStatement_16 (by decide) (fun c_1 => ?_) (fun c_1 => ?_)
  · have hm := (if_neg c_1).symm.trans hm
    exact cw_X4_returnStatement_23 fu C hret F G hm hw (lv_sub hl [0] rfl)
  · have hm := (if_pos c_1).symm.trans hm
    exact cw_X4_returnStatement_19 fu C hret F G hm hw (lv_sub hl [0] rfl)
theorem cn_X4_returnStatement_0 (fu : Nat) {res : Int32 × PF × PG} (F : PF) (G : PG) (hm : cb_X4_returnStatement_0 fu F G = some res) : xn F ≤ xn res.2.1 := by
  unfold cb_X4_returnStatement_0 at hm
  obtain ⟨⟨r1, F1, G1⟩, hc, hm⟩ := bind_elim hm
  exact Nat.le_trans (cn_X2_next fu F G _ hc) (cn_X4_returnStatement_7 fu F1 G1 hm)
theorem cw_X4_returnStatement_0 (fu : Nat) {res : Int32 × PF × PG} (C : cMC p R s m args c A v RX4 cX4_returnStatement 2 303 18071 (xn res.2.1 - xn K0)) (hret : ∀ (b1 : Nat) (H1 : Heap) (locs1 : List Loc) (ls1 : Array Slot) (pc : Nat), cMW s A v a b1 K0 res.2.1 res.2.2 H1 locs1 → decode cX4_returnStatement pc = .ok (.return_, 1) → W p l e R s m args below meth c H1 locs1 (xn res.2.1 - xn K0) (2 * (xn res.2.1 - xn K0)) Q (F0 m pc ls1 [])) (F : PF) (G : PG) (hm : cb_X4_returnStatement_0 fu F G = some res) {b : Nat} {H : Heap} {locs : List Loc} (hw : cMW s A v a b K0 F G H locs) {ls : Array Slot} (hl : lv_has ls 2 [(0, .ref (a 204))]) : W p l e R s m args below meth c H locs (xn F - xn K0) (2 * (xn F - xn K0)) Q (F0 m 0 ls []) := by
  have hx := C.1
  have hb := C.2.1
  unfold cb_X4_returnStatement_0 at hm
  refine lv_aload_n hx hb dX4_returnStatement_0 rfl (lv_at hl 0 rfl) ?_
  refine cg_X4_9 C hw dX4_returnStatement_1 ?_
  obtain ⟨⟨r1, F1, G1⟩, hc, hm⟩ := bind_elim hm
  refine ccallV (n := 0) (As := []) (rest := []) C hw (ck_X2_next l v a _ _ fu F G r1 F1 G1 hc) (cn_X2_next fu F G _ hc) (Nat.sub_le_sub_right (cn_X4_returnStatement_7 fu F1 G1 hm) _) (crecv_X2 C hw) cm_320 cm_321 cm_322 cm_307 cm_323 (by decide +kernel) rfl (by omega) (by omega) hl.1 rfl (Nat.le_of_ble_eq_true rfl) dX4_returnStatement_4 (fun b H locs hw => ?_)
  exact cw_X4_returnStatement_7 fu C hret F1 G1 hm hw (lv_sub hl [0] rfl)
theorem cn_X4_returnStatement (fu : Nat) (F : PF) (G : PG) (q : Int32 × PF × PG) (hm : cf_X4_returnStatement fu F G = some q) : xn F ≤ xn q.2.1 := cn_X4_returnStatement_0 fu F G hm
theorem ck_X4_returnStatement (l : Launch) (v : EV) (a : Nat → Nat) (b sz : Nat) (fu : Nat) (F : PF) (G : PG) (r : Int32) (F1 : PF) (G1 : PG) (hm : cf_X4_returnStatement fu F G = some (r, F1, G1)) : cMV l yX4_returnStatement cX4_returnStatement 2 303 18071 v a b sz [.ref (a 204)] F G F1 G1 := cMV.of (by decide) (Nat.le_of_ble_eq_true rfl) (fun p e R s m args below meth c Q A H locs ls C hw hl hret => cw_X4_returnStatement_0 fu (res := (r, F1, G1)) C hret F G hm hw hl)
def cb_X5_wantPlace_28 (fu : Nat) (F : PF) (G : PG) : PR := some (0, F, G)
def cb_X5_wantPlace_22 (fu : Nat) (x2 : Int32) (F : PF) (G : PG) : PR := (cf_X5_note fu 4 x2 F G).bind (fun q => cb_X5_wantPlace_28 fu q.2.1 q.2.2)
def cb_X5_wantPlace_19 (fu : Nat) (x2 : Int32) (z0 : Int32) (F : PF) (G : PG) : PR := if z0 = (0 : Int32) then cb_X5_wantPlace_22 fu x2 F G else cb_X5_wantPlace_28 fu F G
def cb_X5_wantPlace_13 (fu : Nat) (x2 : Int32) (x3 : Int32) (x4 : Int32) (F : PF) (G : PG) : PR := (cf_X5_fits fu x4 x3 F G).bind (fun q => cb_X5_wantPlace_19 fu x2 q.1 q.2.1 q.2.2)
def cb_X5_wantPlace_5 (fu : Nat) (x2 : Int32) (x3 : Int32) (z0 : Int32) (F : PF) (G : PG) : PR := if z0 = (-1 : Int32) then cb_X5_wantPlace_28 fu F G else cb_X5_wantPlace_13 fu x2 x3 z0 F G
def cb_X5_wantPlace_0 (fu : Nat) (x1 : Int32) (x2 : Int32) (x3 : Int32) (F : PF) (G : PG) : PR := (cf_X5_kind fu x1 F G).bind (fun q => cb_X5_wantPlace_5 fu x2 x3 q.1 q.2.1 q.2.2)
def cf_X5_wantPlace (fu : Nat) (x1 : Int32) (x2 : Int32) (x3 : Int32) (F : PF) (G : PG) : PR := cb_X5_wantPlace_0 fu x1 x2 x3 F G
theorem cn_X5_wantPlace_28 (fu : Nat) {res : Int32 × PF × PG} (F : PF) (G : PG) (hm : cb_X5_wantPlace_28 fu F G = some res) : xn F ≤ xn res.2.1 := by
  unfold cb_X5_wantPlace_28 at hm
  obtain rfl := Option.some.inj hm
  exact Nat.le_refl _
theorem cw_X5_wantPlace_28 (fu : Nat) {res : Int32 × PF × PG} (C : cMC p R s m args c A v RX5 cX5_wantPlace 5 1 22 (xn res.2.1 - xn K0)) (hret : ∀ (b1 : Nat) (H1 : Heap) (locs1 : List Loc) (ls1 : Array Slot) (pc : Nat), cMW s A v a b1 K0 res.2.1 res.2.2 H1 locs1 → decode cX5_wantPlace pc = .ok (.return_, 1) → W p l e R s m args below meth c H1 locs1 (xn res.2.1 - xn K0) (2 * (xn res.2.1 - xn K0)) Q (F0 m pc ls1 [])) (F : PF) (G : PG) (hm : cb_X5_wantPlace_28 fu F G = some res) {b : Nat} {H : Heap} {locs : List Loc} (hw : cMW s A v a b K0 F G H locs) {ls : Array Slot} (hl : lv_has ls 5 []) : W p l e R s m args below meth c H locs (xn F - xn K0) (2 * (xn F - xn K0)) Q (F0 m 28 ls []) := by
  have hx := C.1
  have hb := C.2.1
  unfold cb_X5_wantPlace_28 at hm
  obtain rfl := Option.some.inj hm
  exact hret _ _ _ _ _ hw dX5_wantPlace_28
theorem cn_X5_wantPlace_22 (fu : Nat) {res : Int32 × PF × PG} (x2 : Int32) (F : PF) (G : PG) (hm : cb_X5_wantPlace_22 fu x2 F G = some res) : xn F ≤ xn res.2.1 := by
  unfold cb_X5_wantPlace_22 at hm
  obtain ⟨⟨r1, F1, G1⟩, hc, hm⟩ := bind_elim hm
  exact Nat.le_trans (cn_X5_note fu 4 x2 F G _ hc) (cn_X5_wantPlace_28 fu F1 G1 hm)
theorem cw_X5_wantPlace_22 (fu : Nat) {res : Int32 × PF × PG} (C : cMC p R s m args c A v RX5 cX5_wantPlace 5 1 22 (xn res.2.1 - xn K0)) (hret : ∀ (b1 : Nat) (H1 : Heap) (locs1 : List Loc) (ls1 : Array Slot) (pc : Nat), cMW s A v a b1 K0 res.2.1 res.2.2 H1 locs1 → decode cX5_wantPlace pc = .ok (.return_, 1) → W p l e R s m args below meth c H1 locs1 (xn res.2.1 - xn K0) (2 * (xn res.2.1 - xn K0)) Q (F0 m pc ls1 [])) (x2 : Int32) (F : PF) (G : PG) (hm : cb_X5_wantPlace_22 fu x2 F G = some res) {b : Nat} {H : Heap} {locs : List Loc} (hw : cMW s A v a b K0 F G H locs) {ls : Array Slot} (hl : lv_has ls 5 [(0, .ref (a 205)), (2, .int x2)]) : W p l e R s m args below meth c H locs (xn F - xn K0) (2 * (xn F - xn K0)) Q (F0 m 22 ls []) := by
  have hx := C.1
  have hb := C.2.1
  unfold cb_X5_wantPlace_22 at hm
  refine lv_aload_n hx hb dX5_wantPlace_22 rfl (lv_at hl 0 rfl) ?_
  refine lv_iconst (v := 4) hx hb dX5_wantPlace_23 (by decide) ?_
  refine lv_iload_n hx hb dX5_wantPlace_24 rfl (lv_at hl 1 rfl) ?_
  obtain ⟨⟨r1, F1, G1⟩, hc, hm⟩ := bind_elim hm
  refine ccallV (n := 2) (As := [.int 4, .int x2]) (rest := []) C hw (ck_X5_note l v a _ _ fu 4 x2 F G r1 F1 G1 hc) (cn_X5_note fu 4 x2 F G _ hc) (Nat.sub_le_sub_right (cn_X5_wantPlace_28 fu F1 G1 hm) _) (crecv_X5 C hw) cm_424 cm_425 cm_426 cm_266 cm_427 (by decide +kernel) rfl (by omega) (by omega) hl.1 rfl (Nat.le_of_ble_eq_true rfl) dX5_wantPlace_25 (fun b H locs hw => ?_)
  exact cw_X5_wantPlace_28 fu C hret F1 G1 hm hw (lv_sub hl [] rfl)
theorem cn_X5_wantPlace_19 (fu : Nat) {res : Int32 × PF × PG} (x2 : Int32) (z0 : Int32) (F : PF) (G : PG) (hm : cb_X5_wantPlace_19 fu x2 z0 F G = some res) : xn F ≤ xn res.2.1 := by
  unfold cb_X5_wantPlace_19 at hm
  by_cases c_1 : z0 = (0 : Int32)
  · have hm := (if_pos c_1).symm.trans hm
    exact (cn_X5_wantPlace_22 fu x2 F G hm)
  · have hm := (if_neg c_1).symm.trans hm
    exact (cn_X5_wantPlace_28 fu F G hm)
theorem cw_X5_wantPlace_19 (fu : Nat) {res : Int32 × PF × PG} (C : cMC p R s m args c A v RX5 cX5_wantPlace 5 1 22 (xn res.2.1 - xn K0)) (hret : ∀ (b1 : Nat) (H1 : Heap) (locs1 : List Loc) (ls1 : Array Slot) (pc : Nat), cMW s A v a b1 K0 res.2.1 res.2.2 H1 locs1 → decode cX5_wantPlace pc = .ok (.return_, 1) → W p l e R s m args below meth c H1 locs1 (xn res.2.1 - xn K0) (2 * (xn res.2.1 - xn K0)) Q (F0 m pc ls1 [])) (x2 : Int32) (z0 : Int32) (F : PF) (G : PG) (hm : cb_X5_wantPlace_19 fu x2 z0 F G = some res) {b : Nat} {H : Heap} {locs : List Loc} (hw : cMW s A v a b K0 F G H locs) {ls : Array Slot} (hl : lv_has ls 5 [(0, .ref (a 205)), (2, .int x2)]) : W p l e R s m args below meth c H locs (xn F - xn K0) (2 * (xn F - xn K0)) Q (F0 m 19 ls [.int z0]) := by
  have hx := C.1
  have hb := C.2.1
  unfold cb_X5_wantPlace_19 at hm
  refine lv_if_ne (tgt := 28) hx hb dX5_wantPlace_19 (by decide) (fun c_1 => ?_) (fun c_1 => ?_)
  · have hm := (if_neg c_1).symm.trans hm
    exact cw_X5_wantPlace_28 fu C hret F G hm hw (lv_sub hl [] rfl)
  · have hm := (if_pos c_1).symm.trans hm
    exact cw_X5_wantPlace_22 fu C hret x2 F G hm hw (lv_sub hl [0, 1] rfl)
theorem cn_X5_wantPlace_13 (fu : Nat) {res : Int32 × PF × PG} (x2 : Int32) (x3 : Int32) (x4 : Int32) (F : PF) (G : PG) (hm : cb_X5_wantPlace_13 fu x2 x3 x4 F G = some res) : xn F ≤ xn res.2.1 := by
  unfold cb_X5_wantPlace_13 at hm
  obtain ⟨⟨r1, F1, G1⟩, hc, hm⟩ := bind_elim hm
  exact Nat.le_trans (cn_X5_fits fu x4 x3 F G _ hc) (cn_X5_wantPlace_19 fu x2 r1 F1 G1 hm)
theorem cw_X5_wantPlace_13 (fu : Nat) {res : Int32 × PF × PG} (C : cMC p R s m args c A v RX5 cX5_wantPlace 5 1 22 (xn res.2.1 - xn K0)) (hret : ∀ (b1 : Nat) (H1 : Heap) (locs1 : List Loc) (ls1 : Array Slot) (pc : Nat), cMW s A v a b1 K0 res.2.1 res.2.2 H1 locs1 → decode cX5_wantPlace pc = .ok (.return_, 1) → W p l e R s m args below meth c H1 locs1 (xn res.2.1 - xn K0) (2 * (xn res.2.1 - xn K0)) Q (F0 m pc ls1 [])) (x2 : Int32) (x3 : Int32) (x4 : Int32) (F : PF) (G : PG) (hm : cb_X5_wantPlace_13 fu x2 x3 x4 F G = some res) {b : Nat} {H : Heap} {locs : List Loc} (hw : cMW s A v a b K0 F G H locs) {ls : Array Slot} (hl : lv_has ls 5 [(0, .ref (a 205)), (2, .int x2), (3, .int x3), (4, .int x4)]) : W p l e R s m args below meth c H locs (xn F - xn K0) (2 * (xn F - xn K0)) Q (F0 m 13 ls []) := by
  have hx := C.1
  have hb := C.2.1
  unfold cb_X5_wantPlace_13 at hm
  refine lv_iload hx hb dX5_wantPlace_13 (lv_at hl 3 rfl) ?_
  refine lv_iload_n hx hb dX5_wantPlace_15 rfl (lv_at hl 2 rfl) ?_
  obtain ⟨⟨r1, F1, G1⟩, hc, hm⟩ := bind_elim hm
  refine ccallIS (n := 2) (As := [.int x4, .int x3]) (rest := []) C hw (ck_X5_fits l v a _ _ fu x4 x3 F G r1 F1 G1 hc) (cn_X5_fits fu x4 x3 F G _ hc) (Nat.sub_le_sub_right (cn_X5_wantPlace_19 fu x2 r1 F1 G1 hm) _) cm_489 cm_490 cm_266 cm_491 (by decide +kernel) rfl (by omega) (by omega) hl.1 rfl (Nat.le_of_ble_eq_true rfl) dX5_wantPlace_16 (fun b H locs hw => ?_)
  exact cw_X5_wantPlace_19 fu C hret x2 r1 F1 G1 hm hw (lv_sub hl [0, 1] rfl)
theorem cn_X5_wantPlace_5 (fu : Nat) {res : Int32 × PF × PG} (x2 : Int32) (x3 : Int32) (z0 : Int32) (F : PF) (G : PG) (hm : cb_X5_wantPlace_5 fu x2 x3 z0 F G = some res) : xn F ≤ xn res.2.1 := by
  unfold cb_X5_wantPlace_5 at hm
  by_cases c_1 : z0 = (-1 : Int32)
  · have hm := (if_pos c_1).symm.trans hm
    exact (cn_X5_wantPlace_28 fu F G hm)
  · have hm := (if_neg c_1).symm.trans hm
    exact (cn_X5_wantPlace_13 fu x2 x3 z0 F G hm)
theorem cw_X5_wantPlace_5 (fu : Nat) {res : Int32 × PF × PG} (C : cMC p R s m args c A v RX5 cX5_wantPlace 5 1 22 (xn res.2.1 - xn K0)) (hret : ∀ (b1 : Nat) (H1 : Heap) (locs1 : List Loc) (ls1 : Array Slot) (pc : Nat), cMW s A v a b1 K0 res.2.1 res.2.2 H1 locs1 → decode cX5_wantPlace pc = .ok (.return_, 1) → W p l e R s m args below meth c H1 locs1 (xn res.2.1 - xn K0) (2 * (xn res.2.1 - xn K0)) Q (F0 m pc ls1 [])) (x2 : Int32) (x3 : Int32) (z0 : Int32) (F : PF) (G : PG) (hm : cb_X5_wantPlace_5 fu x2 x3 z0 F G = some res) {b : Nat} {H : Heap} {locs : List Loc} (hw : cMW s A v a b K0 F G H locs) {ls : Array Slot} (hl : lv_has ls 5 [(0, .ref (a 205)), (2, .int x2), (3, .int x3)]) : W p l e R s m args below meth c H locs (xn F - xn K0) (2 * (xn F - xn K0)) Q (F0 m 5 ls [.int z0]) := by
  have hx := C.1
  have hb := C.2.1
  unfold cb_X5_wantPlace_5 at hm
  refine lv_istore (lv' := [(4, .int z0), (0, .ref (a 205)), (2, .int x2), (3, .int x3)]) hx hb dX5_wantPlace_5 hl (by decide) rfl (fun ls hl => ?_)
  refine lv_iload hx hb dX5_wantPlace_7 (lv_at hl 0 rfl) ?_
  refine lv_iconst (v := (-1)) hx hb dX5_wantPlace_9 (by decide) ?_
  refine lv_icmp_eq (tgt := 28) hx hb dX5_wantPlace_10 (by decide) (fun c_1 => ?_) (fun c_1 => ?_)
  · have hm := (if_pos c_1).symm.trans hm
    exact cw_X5_wantPlace_28 fu C hret F G hm hw (lv_sub hl [] rfl)
  · have hm := (if_neg c_1).symm.trans hm
    exact cw_X5_wantPlace_13 fu C hret x2 x3 z0 F G hm hw (lv_sub hl [1, 2, 3, 0] rfl)
theorem cn_X5_wantPlace_0 (fu : Nat) {res : Int32 × PF × PG} (x1 : Int32) (x2 : Int32) (x3 : Int32) (F : PF) (G : PG) (hm : cb_X5_wantPlace_0 fu x1 x2 x3 F G = some res) : xn F ≤ xn res.2.1 := by
  unfold cb_X5_wantPlace_0 at hm
  obtain ⟨⟨r1, F1, G1⟩, hc, hm⟩ := bind_elim hm
  exact Nat.le_trans (cn_X5_kind fu x1 F G _ hc) (cn_X5_wantPlace_5 fu x2 x3 r1 F1 G1 hm)
theorem cw_X5_wantPlace_0 (fu : Nat) {res : Int32 × PF × PG} (C : cMC p R s m args c A v RX5 cX5_wantPlace 5 1 22 (xn res.2.1 - xn K0)) (hret : ∀ (b1 : Nat) (H1 : Heap) (locs1 : List Loc) (ls1 : Array Slot) (pc : Nat), cMW s A v a b1 K0 res.2.1 res.2.2 H1 locs1 → decode cX5_wantPlace pc = .ok (.return_, 1) → W p l e R s m args below meth c H1 locs1 (xn res.2.1 - xn K0) (2 * (xn res.2.1 - xn K0)) Q (F0 m pc ls1 [])) (x1 : Int32) (x2 : Int32) (x3 : Int32) (F : PF) (G : PG) (hm : cb_X5_wantPlace_0 fu x1 x2 x3 F G = some res) {b : Nat} {H : Heap} {locs : List Loc} (hw : cMW s A v a b K0 F G H locs) {ls : Array Slot} (hl : lv_has ls 5 [(0, .ref (a 205)), (1, .int x1), (2, .int x2), (3, .int x3)]) : W p l e R s m args below meth c H locs (xn F - xn K0) (2 * (xn F - xn K0)) Q (F0 m 0 ls []) := by
  have hx := C.1
  have hb := C.2.1
  unfold cb_X5_wantPlace_0 at hm
  refine lv_aload_n hx hb dX5_wantPlace_0 rfl (lv_at hl 0 rfl) ?_
  refine lv_iload_n hx hb dX5_wantPlace_1 rfl (lv_at hl 1 rfl) ?_
  obtain ⟨⟨r1, F1, G1⟩, hc, hm⟩ := bind_elim hm
  refine ccallI (n := 1) (As := [.int x1]) (rest := []) C hw (ck_X5_kind l v a _ _ fu x1 F G r1 F1 G1 hc) (cn_X5_kind fu x1 F G _ hc) (Nat.sub_le_sub_right (cn_X5_wantPlace_5 fu x2 x3 r1 F1 G1 hm) _) (crecv_X5 C hw) cm_433 cm_388 cm_389 cm_266 cm_390 (by decide +kernel) rfl (by omega) (by omega) hl.1 rfl (Nat.le_of_ble_eq_true rfl) dX5_wantPlace_2 (fun b H locs hw => ?_)
  exact cw_X5_wantPlace_5 fu C hret x2 x3 r1 F1 G1 hm hw (lv_sub hl [0, 2, 3] rfl)
theorem cn_X5_wantPlace (fu : Nat) (x1 : Int32) (x2 : Int32) (x3 : Int32) (F : PF) (G : PG) (q : Int32 × PF × PG) (hm : cf_X5_wantPlace fu x1 x2 x3 F G = some q) : xn F ≤ xn q.2.1 := cn_X5_wantPlace_0 fu x1 x2 x3 F G hm
theorem ck_X5_wantPlace (l : Launch) (v : EV) (a : Nat → Nat) (b sz : Nat) (fu : Nat) (x1 : Int32) (x2 : Int32) (x3 : Int32) (F : PF) (G : PG) (r : Int32) (F1 : PF) (G1 : PG) (hm : cf_X5_wantPlace fu x1 x2 x3 F G = some (r, F1, G1)) : cMV l yX5_wantPlace cX5_wantPlace 5 1 22 v a b sz [.ref (a 205), .int x1, .int x2, .int x3] F G F1 G1 := cMV.of (by decide) (Nat.le_of_ble_eq_true rfl) (fun p e R s m args below meth c Q A H locs ls C hw hl hret => cw_X5_wantPlace_0 fu (res := (r, F1, G1)) C hret x1 x2 x3 F G hm hw hl)
def cb_X4_oldValue_32 (fu : Nat) (F : PF) (G : PG) : PR := some (0, F, G)
def cb_X4_oldValue_24 (fu : Nat) (x1 : Int32) (F : PF) (G : PG) : PR := (cf_X3_load fu x1 F G).bind (fun q => cb_X4_oldValue_32 fu q.2.1 q.2.2)
def cb_X4_oldValue_21 (fu : Nat) (F : PF) (G : PG) : PR := cb_X4_oldValue_32 fu F G
def cb_X4_oldValue_13 (fu : Nat) (x1 : Int32) (F : PF) (G : PG) : PR := (cf_X3_fetch fu x1 F G).bind (fun q => cb_X4_oldValue_21 fu q.2.1 q.2.2)
def cb_X4_oldValue_4 (fu : Nat) (x1 : Int32) (F : PF) (G : PG) : PR := (cf_X1_add fu 67 F G).bind (fun q => cb_X4_oldValue_13 fu x1 q.2.1 q.2.2)
def cb_X4_oldValue_0 (fu : Nat) (x1 : Int32) (x2 : Int32) (F : PF) (G : PG) : PR := if x2 = (0 : Int32) then cb_X4_oldValue_24 fu x1 F G else cb_X4_oldValue_4 fu x1 F G
def cf_X4_oldValue (fu : Nat) (x1 : Int32) (x2 : Int32) (F : PF) (G : PG) : PR := cb_X4_oldValue_0 fu x1 x2 F G
theorem cn_X4_oldValue_32 (fu : Nat) {res : Int32 × PF × PG} (F : PF) (G : PG) (hm : cb_X4_oldValue_32 fu F G = some res) : xn F ≤ xn res.2.1 := by
  unfold cb_X4_oldValue_32 at hm
  obtain rfl := Option.some.inj hm
  exact Nat.le_refl _
theorem cw_X4_oldValue_32 (fu : Nat) {res : Int32 × PF × PG} (C : cMC p R s m args c A v RX4 cX4_oldValue 3 2 43 (xn res.2.1 - xn K0)) (hret : ∀ (b1 : Nat) (H1 : Heap) (locs1 : List Loc) (ls1 : Array Slot) (pc : Nat), cMW s A v a b1 K0 res.2.1 res.2.2 H1 locs1 → decode cX4_oldValue pc = .ok (.return_, 1) → W p l e R s m args below meth c H1 locs1 (xn res.2.1 - xn K0) (2 * (xn res.2.1 - xn K0)) Q (F0 m pc ls1 [])) (F : PF) (G : PG) (hm : cb_X4_oldValue_32 fu F G = some res) {b : Nat} {H : Heap} {locs : List Loc} (hw : cMW s A v a b K0 F G H locs) {ls : Array Slot} (hl : lv_has ls 3 []) : W p l e R s m args below meth c H locs (xn F - xn K0) (2 * (xn F - xn K0)) Q (F0 m 32 ls []) := by
  have hx := C.1
  have hb := C.2.1
  unfold cb_X4_oldValue_32 at hm
  obtain rfl := Option.some.inj hm
  exact hret _ _ _ _ _ hw dX4_oldValue_32
theorem cn_X4_oldValue_24 (fu : Nat) {res : Int32 × PF × PG} (x1 : Int32) (F : PF) (G : PG) (hm : cb_X4_oldValue_24 fu x1 F G = some res) : xn F ≤ xn res.2.1 := by
  unfold cb_X4_oldValue_24 at hm
  obtain ⟨⟨r1, F1, G1⟩, hc, hm⟩ := bind_elim hm
  exact Nat.le_trans (cn_X3_load fu x1 F G _ hc) (cn_X4_oldValue_32 fu F1 G1 hm)
theorem cw_X4_oldValue_24 (fu : Nat) {res : Int32 × PF × PG} (C : cMC p R s m args c A v RX4 cX4_oldValue 3 2 43 (xn res.2.1 - xn K0)) (hret : ∀ (b1 : Nat) (H1 : Heap) (locs1 : List Loc) (ls1 : Array Slot) (pc : Nat), cMW s A v a b1 K0 res.2.1 res.2.2 H1 locs1 → decode cX4_oldValue pc = .ok (.return_, 1) → W p l e R s m args below meth c H1 locs1 (xn res.2.1 - xn K0) (2 * (xn res.2.1 - xn K0)) Q (F0 m pc ls1 [])) (x1 : Int32) (F : PF) (G : PG) (hm : cb_X4_oldValue_24 fu x1 F G = some res) {b : Nat} {H : Heap} {locs : List Loc} (hw : cMW s A v a b K0 F G H locs) {ls : Array Slot} (hl : lv_has ls 3 [(0, .ref (a 204)), (1, .int x1)]) : W p l e R s m args below meth c H locs (xn F - xn K0) (2 * (xn F - xn K0)) Q (F0 m 24 ls []) := by
  have hx := C.1
  have hb := C.2.1
  unfold cb_X4_oldValue_24 at hm
  refine lv_aload_n hx hb dX4_oldValue_24 rfl (lv_at hl 0 rfl) ?_
  refine cg_X4_27 C hw dX4_oldValue_25 ?_
  refine lv_iload_n hx hb dX4_oldValue_28 rfl (lv_at hl 1 rfl) ?_
  obtain ⟨⟨r1, F1, G1⟩, hc, hm⟩ := bind_elim hm
  refine ccallV (n := 1) (As := [.int x1]) (rest := []) C hw (ck_X3_load l v a _ _ fu x1 F G r1 F1 G1 hc) (cn_X3_load fu x1 F G _ hc) (Nat.sub_le_sub_right (cn_X4_oldValue_32 fu F1 G1 hm) _) (crecv_X3 C hw) cm_709 cm_508 cm_509 cm_301 cm_510 (by decide +kernel) rfl (by omega) (by omega) hl.1 rfl (Nat.le_of_ble_eq_true rfl) dX4_oldValue_29 (fun b H locs hw => ?_)
  exact cw_X4_oldValue_32 fu C hret F1 G1 hm hw (lv_sub hl [] rfl)
theorem cn_X4_oldValue_21 (fu : Nat) {res : Int32 × PF × PG} (F : PF) (G : PG) (hm : cb_X4_oldValue_21 fu F G = some res) : xn F ≤ xn res.2.1 := by
  unfold cb_X4_oldValue_21 at hm
  exact (cn_X4_oldValue_32 fu F G hm)
theorem cw_X4_oldValue_21 (fu : Nat) {res : Int32 × PF × PG} (C : cMC p R s m args c A v RX4 cX4_oldValue 3 2 43 (xn res.2.1 - xn K0)) (hret : ∀ (b1 : Nat) (H1 : Heap) (locs1 : List Loc) (ls1 : Array Slot) (pc : Nat), cMW s A v a b1 K0 res.2.1 res.2.2 H1 locs1 → decode cX4_oldValue pc = .ok (.return_, 1) → W p l e R s m args below meth c H1 locs1 (xn res.2.1 - xn K0) (2 * (xn res.2.1 - xn K0)) Q (F0 m pc ls1 [])) (F : PF) (G : PG) (hm : cb_X4_oldValue_21 fu F G = some res) {b : Nat} {H : Heap} {locs : List Loc} (hw : cMW s A v a b K0 F G H locs) {ls : Array Slot} (hl : lv_has ls 3 []) : W p l e R s m args below meth c H locs (xn F - xn K0) (2 * (xn F - xn K0)) Q (F0 m 21 ls []) := by
  have hx := C.1
  have hb := C.2.1
  unfold cb_X4_oldValue_21 at hm
  refine lv_goto (tgt := 32) hx hb dX4_oldValue_21 (by decide) ?_
  exact cw_X4_oldValue_32 fu C hret F G hm hw (lv_sub hl [] rfl)
theorem cn_X4_oldValue_13 (fu : Nat) {res : Int32 × PF × PG} (x1 : Int32) (F : PF) (G : PG) (hm : cb_X4_oldValue_13 fu x1 F G = some res) : xn F ≤ xn res.2.1 := by
  unfold cb_X4_oldValue_13 at hm
  obtain ⟨⟨r1, F1, G1⟩, hc, hm⟩ := bind_elim hm
  exact Nat.le_trans (cn_X3_fetch fu x1 F G _ hc) (cn_X4_oldValue_21 fu F1 G1 hm)
theorem cw_X4_oldValue_13 (fu : Nat) {res : Int32 × PF × PG} (C : cMC p R s m args c A v RX4 cX4_oldValue 3 2 43 (xn res.2.1 - xn K0)) (hret : ∀ (b1 : Nat) (H1 : Heap) (locs1 : List Loc) (ls1 : Array Slot) (pc : Nat), cMW s A v a b1 K0 res.2.1 res.2.2 H1 locs1 → decode cX4_oldValue pc = .ok (.return_, 1) → W p l e R s m args below meth c H1 locs1 (xn res.2.1 - xn K0) (2 * (xn res.2.1 - xn K0)) Q (F0 m pc ls1 [])) (x1 : Int32) (F : PF) (G : PG) (hm : cb_X4_oldValue_13 fu x1 F G = some res) {b : Nat} {H : Heap} {locs : List Loc} (hw : cMW s A v a b K0 F G H locs) {ls : Array Slot} (hl : lv_has ls 3 [(0, .ref (a 204)), (1, .int x1)]) : W p l e R s m args below meth c H locs (xn F - xn K0) (2 * (xn F - xn K0)) Q (F0 m 13 ls []) := by
  have hx := C.1
  have hb := C.2.1
  unfold cb_X4_oldValue_13 at hm
  refine lv_aload_n hx hb dX4_oldValue_13 rfl (lv_at hl 0 rfl) ?_
  refine cg_X4_27 C hw dX4_oldValue_14 ?_
  refine lv_iload_n hx hb dX4_oldValue_17 rfl (lv_at hl 1 rfl) ?_
  obtain ⟨⟨r1, F1, G1⟩, hc, hm⟩ := bind_elim hm
  refine ccallV (n := 1) (As := [.int x1]) (rest := []) C hw (ck_X3_fetch l v a _ _ fu x1 F G r1 F1 G1 hc) (cn_X3_fetch fu x1 F G _ hc) (Nat.sub_le_sub_right (cn_X4_oldValue_21 fu F1 G1 hm) _) (crecv_X3 C hw) cm_708 cm_504 cm_505 cm_301 cm_506 (by decide +kernel) rfl (by omega) (by omega) hl.1 rfl (Nat.le_of_ble_eq_true rfl) dX4_oldValue_18 (fun b H locs hw => ?_)
  exact cw_X4_oldValue_21 fu C hret F1 G1 hm hw (lv_sub hl [] rfl)
theorem cn_X4_oldValue_4 (fu : Nat) {res : Int32 × PF × PG} (x1 : Int32) (F : PF) (G : PG) (hm : cb_X4_oldValue_4 fu x1 F G = some res) : xn F ≤ xn res.2.1 := by
  unfold cb_X4_oldValue_4 at hm
  obtain ⟨⟨r1, F1, G1⟩, hc, hm⟩ := bind_elim hm
  exact Nat.le_trans (cn_X1_add fu 67 F G _ hc) (cn_X4_oldValue_13 fu x1 F1 G1 hm)
theorem cw_X4_oldValue_4 (fu : Nat) {res : Int32 × PF × PG} (C : cMC p R s m args c A v RX4 cX4_oldValue 3 2 43 (xn res.2.1 - xn K0)) (hret : ∀ (b1 : Nat) (H1 : Heap) (locs1 : List Loc) (ls1 : Array Slot) (pc : Nat), cMW s A v a b1 K0 res.2.1 res.2.2 H1 locs1 → decode cX4_oldValue pc = .ok (.return_, 1) → W p l e R s m args below meth c H1 locs1 (xn res.2.1 - xn K0) (2 * (xn res.2.1 - xn K0)) Q (F0 m pc ls1 [])) (x1 : Int32) (F : PF) (G : PG) (hm : cb_X4_oldValue_4 fu x1 F G = some res) {b : Nat} {H : Heap} {locs : List Loc} (hw : cMW s A v a b K0 F G H locs) {ls : Array Slot} (hl : lv_has ls 3 [(0, .ref (a 204)), (1, .int x1)]) : W p l e R s m args below meth c H locs (xn F - xn K0) (2 * (xn F - xn K0)) Q (F0 m 4 ls []) := by
  have hx := C.1
  have hb := C.2.1
  unfold cb_X4_oldValue_4 at hm
  refine lv_aload_n hx hb dX4_oldValue_4 rfl (lv_at hl 0 rfl) ?_
  refine cg_X4_19 C hw dX4_oldValue_5 ?_
  refine lv_bipush (v := 67) hx hb dX4_oldValue_8 (by decide) ?_
  obtain ⟨⟨r1, F1, G1⟩, hc, hm⟩ := bind_elim hm
  refine ccallV (n := 1) (As := [.int 67]) (rest := []) C hw (ck_X1_add l v a _ _ fu 67 F G r1 F1 G1 hc) (cn_X1_add fu 67 F G _ hc) (Nat.sub_le_sub_right (cn_X4_oldValue_13 fu x1 F1 G1 hm) _) (crecv_X1 C hw) cm_687 cm_453 cm_454 cm_369 cm_455 (by decide +kernel) rfl (by omega) (by omega) hl.1 rfl (Nat.le_of_ble_eq_true rfl) dX4_oldValue_10 (fun b H locs hw => ?_)
  exact cw_X4_oldValue_13 fu C hret x1 F1 G1 hm hw (lv_sub hl [0, 1] rfl)
theorem cn_X4_oldValue_0 (fu : Nat) {res : Int32 × PF × PG} (x1 : Int32) (x2 : Int32) (F : PF) (G : PG) (hm : cb_X4_oldValue_0 fu x1 x2 F G = some res) : xn F ≤ xn res.2.1 := by
  unfold cb_X4_oldValue_0 at hm
  by_cases c_1 : x2 = (0 : Int32)
  · have hm := (if_pos c_1).symm.trans hm
    exact (cn_X4_oldValue_24 fu x1 F G hm)
  · have hm := (if_neg c_1).symm.trans hm
    exact (cn_X4_oldValue_4 fu x1 F G hm)
theorem cw_X4_oldValue_0 (fu : Nat) {res : Int32 × PF × PG} (C : cMC p R s m args c A v RX4 cX4_oldValue 3 2 43 (xn res.2.1 - xn K0)) (hret : ∀ (b1 : Nat) (H1 : Heap) (locs1 : List Loc) (ls1 : Array Slot) (pc : Nat), cMW s A v a b1 K0 res.2.1 res.2.2 H1 locs1 → decode cX4_oldValue pc = .ok (.return_, 1) → W p l e R s m args below meth c H1 locs1 (xn res.2.1 - xn K0) (2 * (xn res.2.1 - xn K0)) Q (F0 m pc ls1 [])) (x1 : Int32) (x2 : Int32) (F : PF) (G : PG) (hm : cb_X4_oldValue_0 fu x1 x2 F G = some res) {b : Nat} {H : Heap} {locs : List Loc} (hw : cMW s A v a b K0 F G H locs) {ls : Array Slot} (hl : lv_has ls 3 [(0, .ref (a 204)), (1, .int x1), (2, .int x2)]) : W p l e R s m args below meth c H locs (xn F - xn K0) (2 * (xn F - xn K0)) Q (F0 m 0 ls []) := by
  have hx := C.1
  have hb := C.2.1
  unfold cb_X4_oldValue_0 at hm
  refine lv_iload_n hx hb dX4_oldValue_0 rfl (lv_at hl 2 rfl) ?_
  refine lv_if_eq (tgt := 24) hx hb dX4_oldValue_1 (by decide) (fun c_1 => ?_) (fun c_1 => ?_)
  · have hm := (if_pos c_1).symm.trans hm
    exact cw_X4_oldValue_24 fu C hret x1 F G hm hw (lv_sub hl [0, 1] rfl)
  · have hm := (if_neg c_1).symm.trans hm
    exact cw_X4_oldValue_4 fu C hret x1 F G hm hw (lv_sub hl [0, 1] rfl)
theorem cn_X4_oldValue (fu : Nat) (x1 : Int32) (x2 : Int32) (F : PF) (G : PG) (q : Int32 × PF × PG) (hm : cf_X4_oldValue fu x1 x2 F G = some q) : xn F ≤ xn q.2.1 := cn_X4_oldValue_0 fu x1 x2 F G hm
theorem ck_X4_oldValue (l : Launch) (v : EV) (a : Nat → Nat) (b sz : Nat) (fu : Nat) (x1 : Int32) (x2 : Int32) (F : PF) (G : PG) (r : Int32) (F1 : PF) (G1 : PG) (hm : cf_X4_oldValue fu x1 x2 F G = some (r, F1, G1)) : cMV l yX4_oldValue cX4_oldValue 3 2 43 v a b sz [.ref (a 204), .int x1, .int x2] F G F1 G1 := cMV.of (by decide) (Nat.le_of_ble_eq_true rfl) (fun p e R s m args below meth c Q A H locs ls C hw hl hret => cw_X4_oldValue_0 fu (res := (r, F1, G1)) C hret x1 x2 F G hm hw hl)
def cb_X4_simple_157 (fu : Nat) (F : PF) (G : PG) : PR := some (0, F, G)
def cb_X4_simple_149 (fu : Nat) (F : PF) (G : PG) : PR := (cf_X2_fail fu 2 F G).bind (fun q => cb_X4_simple_157 fu q.2.1 q.2.2)
def cb_X4_simple_253 (fu : Nat) (F : PF) (G : PG) : PR := some (0, F, G)
def cb_X4_simple_245 (fu : Nat) (x3 : Int32) (F : PF) (G : PG) : PR := (cf_X3_store fu x3 F G).bind (fun q => cb_X4_simple_253 fu q.2.1 q.2.2)
def cb_X4_simple_242 (fu : Nat) (F : PF) (G : PG) : PR := cb_X4_simple_253 fu F G
def cb_X4_simple_234 (fu : Nat) (x3 : Int32) (F : PF) (G : PG) : PR := (cf_X3_keep fu x3 F G).bind (fun q => cb_X4_simple_242 fu q.2.1 q.2.2)
def cb_X4_simple_229 (fu : Nat) (x3 : Int32) (x4 : Int32) (F : PF) (G : PG) : PR := if x4 = (0 : Int32) then cb_X4_simple_245 fu x3 F G else cb_X4_simple_234 fu x3 F G
def cb_X4_simple_213 (fu : Nat) (x3 : Int32) (x4 : Int32) (x5 : Int32) (F : PF) (G : PG) : PR := if ixb (x5 - (30 : Int32)) 13 = true then ((cf_X1_add fu (tb_5 (x5 - (30 : Int32)).toNatClampNeg) F G).bind (fun q => cb_X4_simple_229 fu x3 x4 q.2.1 q.2.2)) else none
def cb_X4_simple_206 (fu : Nat) (x3 : Int32) (x4 : Int32) (x5 : Int32) (F : PF) (G : PG) : PR := if x5 = (29 : Int32) then cb_X4_simple_229 fu x3 x4 F G else cb_X4_simple_213 fu x3 x4 x5 F G
def cb_X4_simple_196 (fu : Nat) (x3 : Int32) (x4 : Int32) (x5 : Int32) (F : PF) (G : PG) : PR := (cf_X1_addPair fu 66 1 F G).bind (fun q => cb_X4_simple_206 fu x3 x4 x5 q.2.1 q.2.2)
def cb_X4_simple_193 (fu : Nat) (x3 : Int32) (x4 : Int32) (x5 : Int32) (F : PF) (G : PG) : PR := cb_X4_simple_206 fu x3 x4 x5 F G
def cb_X4_simple_186 (fu : Nat) (x3 : Int32) (x4 : Int32) (x5 : Int32) (F : PF) (G : PG) : PR := (cf_X3_expression fu F G).bind (fun q => cb_X4_simple_193 fu x3 x4 x5 q.2.1 q.2.2)
def cb_X4_simple_179 (fu : Nat) (x3 : Int32) (x4 : Int32) (x5 : Int32) (F : PF) (G : PG) : PR := if (41 : Int32) ≤ x5 then cb_X4_simple_196 fu x3 x4 x5 F G else cb_X4_simple_186 fu x3 x4 x5 F G
def cb_X4_simple_172 (fu : Nat) (x3 : Int32) (x4 : Int32) (x5 : Int32) (F : PF) (G : PG) : PR := (cf_X4_oldValue fu x3 x4 F G).bind (fun q => cb_X4_simple_179 fu x3 x4 x5 q.2.1 q.2.2)
def cb_X4_simple_165 (fu : Nat) (x3 : Int32) (x4 : Int32) (x5 : Int32) (F : PF) (G : PG) : PR := if x5 = (29 : Int32) then cb_X4_simple_179 fu x3 x4 x5 F G else cb_X4_simple_172 fu x3 x4 x5 F G
def cb_X4_simple_158 (fu : Nat) (x3 : Int32) (x4 : Int32) (x5 : Int32) (F : PF) (G : PG) : PR := (cf_X2_next fu F G).bind (fun q => cb_X4_simple_165 fu x3 x4 x5 q.2.1 q.2.2)
def cb_X4_simple_142 (fu : Nat) (x3 : Int32) (x4 : Int32) (x5 : Int32) (F : PF) (G : PG) : PR := if x5 ≤ (42 : Int32) then cb_X4_simple_158 fu x3 x4 x5 F G else cb_X4_simple_149 fu F G
def cb_X4_simple_126 (fu : Nat) (x3 : Int32) (x4 : Int32) (F : PF) (G : PG) : PR := if (F 11) < (29 : Int32) then cb_X4_simple_149 fu F G else cb_X4_simple_142 fu x3 x4 (F 11) F G
def cb_X4_simple_118 (fu : Nat) (x3 : Int32) (x4 : Int32) (F : PF) (G : PG) : PR := (cf_X3_index fu x3 F G).bind (fun q => cb_X4_simple_126 fu x3 x4 q.2.1 q.2.2)
def cb_X4_simple_111 (fu : Nat) (x3 : Int32) (z0 : Int32) (F : PF) (G : PG) : PR := if z0 = (0 : Int32) then cb_X4_simple_126 fu x3 z0 F G else cb_X4_simple_118 fu x3 z0 F G
def cb_X4_simple_110 (fu : Nat) (x3 : Int32) (F : PF) (G : PG) : PR := cb_X4_simple_111 fu x3 0 F G
def cb_X4_simple_106 (fu : Nat) (x3 : Int32) (F : PF) (G : PG) : PR := cb_X4_simple_111 fu x3 1 F G
def cb_X4_simple_94 (fu : Nat) (x3 : Int32) (F : PF) (G : PG) : PR := if (F 11) = (21 : Int32) then cb_X4_simple_106 fu x3 F G else cb_X4_simple_110 fu x3 F G
def cb_X4_simple_93 (fu : Nat) (F : PF) (G : PG) : PR := some (0, F, G)
def cb_X4_simple_84 (fu : Nat) (F : PF) (G : PG) : PR := (cf_X1_add fu 68 F G).bind (fun q => cb_X4_simple_93 fu q.2.1 q.2.2)
def cb_X4_simple_75 (fu : Nat) (x1 : Int32) (x3 : Int32) (F : PF) (G : PG) : PR := (cf_X3_call fu x3 x1 F G).bind (fun q => cb_X4_simple_84 fu q.2.1 q.2.2)
def cb_X4_simple_63 (fu : Nat) (x1 : Int32) (x3 : Int32) (F : PF) (G : PG) : PR := if (F 11) = (19 : Int32) then cb_X4_simple_75 fu x1 x3 F G else cb_X4_simple_94 fu x3 F G
def cb_X4_simple_46 (fu : Nat) (x1 : Int32) (z0 : Int32) (F : PF) (G : PG) : PR := (cf_X5_wantPlace fu z0 x1 (F 11) F G).bind (fun q => cb_X4_simple_63 fu x1 z0 q.2.1 q.2.2)
def cb_X4_simple_37 (fu : Nat) (x1 : Int32) (x2 : Int32) (F : PF) (G : PG) : PR := (cf_X5_meant fu x2 x1 F G).bind (fun q => cb_X4_simple_46 fu x1 q.1 q.2.1 q.2.2)
def cb_X4_simple_36 (fu : Nat) (F : PF) (G : PG) : PR := some (0, F, G)
def cb_X4_simple_24 (fu : Nat) (x1 : Int32) (x2 : Int32) (F : PF) (G : PG) : PR := if (F 11) = (-2 : Int32) then cb_X4_simple_36 fu F G else cb_X4_simple_37 fu x1 x2 F G
def cb_X4_simple_0 (fu : Nat) (F : PF) (G : PG) : PR := (cf_X2_expect fu 2 F G).bind (fun q => cb_X4_simple_24 fu (F 13) (F 12) q.2.1 q.2.2)
def cf_X4_simple (fu : Nat) (F : PF) (G : PG) : PR := cb_X4_simple_0 fu F G
theorem cn_X4_simple_157 (fu : Nat) {res : Int32 × PF × PG} (F : PF) (G : PG) (hm : cb_X4_simple_157 fu F G = some res) : xn F ≤ xn res.2.1 := by
  unfold cb_X4_simple_157 at hm
  obtain rfl := Option.some.inj hm
  exact Nat.le_refl _
theorem cw_X4_simple_157 (fu : Nat) {res : Int32 × PF × PG} (C : cMC p R s m args c A v RX4 cX4_simple 6 303 18078 (xn res.2.1 - xn K0)) (hret : ∀ (b1 : Nat) (H1 : Heap) (locs1 : List Loc) (ls1 : Array Slot) (pc : Nat), cMW s A v a b1 K0 res.2.1 res.2.2 H1 locs1 → decode cX4_simple pc = .ok (.return_, 1) → W p l e R s m args below meth c H1 locs1 (xn res.2.1 - xn K0) (2 * (xn res.2.1 - xn K0)) Q (F0 m pc ls1 [])) (F : PF) (G : PG) (hm : cb_X4_simple_157 fu F G = some res) {b : Nat} {H : Heap} {locs : List Loc} (hw : cMW s A v a b K0 F G H locs) {ls : Array Slot} (hl : lv_has ls 6 []) : W p l e R s m args below meth c H locs (xn F - xn K0) (2 * (xn F - xn K0)) Q (F0 m 157 ls []) := by
  have hx := C.1
  have hb := C.2.1
  unfold cb_X4_simple_157 at hm
  obtain rfl := Option.some.inj hm
  exact hret _ _ _ _ _ hw dX4_simple_157
theorem cn_X4_simple_149 (fu : Nat) {res : Int32 × PF × PG} (F : PF) (G : PG) (hm : cb_X4_simple_149 fu F G = some res) : xn F ≤ xn res.2.1 := by
  unfold cb_X4_simple_149 at hm
  obtain ⟨⟨r1, F1, G1⟩, hc, hm⟩ := bind_elim hm
  exact Nat.le_trans (cn_X2_fail fu 2 F G _ hc) (cn_X4_simple_157 fu F1 G1 hm)
theorem cw_X4_simple_149 (fu : Nat) {res : Int32 × PF × PG} (C : cMC p R s m args c A v RX4 cX4_simple 6 303 18078 (xn res.2.1 - xn K0)) (hret : ∀ (b1 : Nat) (H1 : Heap) (locs1 : List Loc) (ls1 : Array Slot) (pc : Nat), cMW s A v a b1 K0 res.2.1 res.2.2 H1 locs1 → decode cX4_simple pc = .ok (.return_, 1) → W p l e R s m args below meth c H1 locs1 (xn res.2.1 - xn K0) (2 * (xn res.2.1 - xn K0)) Q (F0 m pc ls1 [])) (F : PF) (G : PG) (hm : cb_X4_simple_149 fu F G = some res) {b : Nat} {H : Heap} {locs : List Loc} (hw : cMW s A v a b K0 F G H locs) {ls : Array Slot} (hl : lv_has ls 6 [(0, .ref (a 204))]) : W p l e R s m args below meth c H locs (xn F - xn K0) (2 * (xn F - xn K0)) Q (F0 m 149 ls []) := by
  have hx := C.1
  have hb := C.2.1
  unfold cb_X4_simple_149 at hm
  refine lv_aload_n hx hb dX4_simple_149 rfl (lv_at hl 0 rfl) ?_
  refine cg_X4_9 C hw dX4_simple_150 ?_
  refine lv_iconst (v := 2) hx hb dX4_simple_153 (by decide) ?_
  obtain ⟨⟨r1, F1, G1⟩, hc, hm⟩ := bind_elim hm
  refine ccallV (n := 1) (As := [.int 2]) (rest := []) C hw (ck_X2_fail l v a _ _ fu 2 F G r1 F1 G1 hc) (cn_X2_fail fu 2 F G _ hc) (Nat.sub_le_sub_right (cn_X4_simple_157 fu F1 G1 hm) _) (crecv_X2 C hw) cm_328 cm_329 cm_330 cm_307 cm_331 (by decide +kernel) rfl (by omega) (by omega) hl.1 rfl (Nat.le_of_ble_eq_true rfl) dX4_simple_154 (fun b H locs hw => ?_)
  exact cw_X4_simple_157 fu C hret F1 G1 hm hw (lv_sub hl [] rfl)
theorem cn_X4_simple_253 (fu : Nat) {res : Int32 × PF × PG} (F : PF) (G : PG) (hm : cb_X4_simple_253 fu F G = some res) : xn F ≤ xn res.2.1 := by
  unfold cb_X4_simple_253 at hm
  obtain rfl := Option.some.inj hm
  exact Nat.le_refl _
theorem cw_X4_simple_253 (fu : Nat) {res : Int32 × PF × PG} (C : cMC p R s m args c A v RX4 cX4_simple 6 303 18078 (xn res.2.1 - xn K0)) (hret : ∀ (b1 : Nat) (H1 : Heap) (locs1 : List Loc) (ls1 : Array Slot) (pc : Nat), cMW s A v a b1 K0 res.2.1 res.2.2 H1 locs1 → decode cX4_simple pc = .ok (.return_, 1) → W p l e R s m args below meth c H1 locs1 (xn res.2.1 - xn K0) (2 * (xn res.2.1 - xn K0)) Q (F0 m pc ls1 [])) (F : PF) (G : PG) (hm : cb_X4_simple_253 fu F G = some res) {b : Nat} {H : Heap} {locs : List Loc} (hw : cMW s A v a b K0 F G H locs) {ls : Array Slot} (hl : lv_has ls 6 []) : W p l e R s m args below meth c H locs (xn F - xn K0) (2 * (xn F - xn K0)) Q (F0 m 253 ls []) := by
  have hx := C.1
  have hb := C.2.1
  unfold cb_X4_simple_253 at hm
  obtain rfl := Option.some.inj hm
  exact hret _ _ _ _ _ hw dX4_simple_253
theorem cn_X4_simple_245 (fu : Nat) {res : Int32 × PF × PG} (x3 : Int32) (F : PF) (G : PG) (hm : cb_X4_simple_245 fu x3 F G = some res) : xn F ≤ xn res.2.1 := by
  unfold cb_X4_simple_245 at hm
  obtain ⟨⟨r1, F1, G1⟩, hc, hm⟩ := bind_elim hm
  exact Nat.le_trans (cn_X3_store fu x3 F G _ hc) (cn_X4_simple_253 fu F1 G1 hm)
theorem cw_X4_simple_245 (fu : Nat) {res : Int32 × PF × PG} (C : cMC p R s m args c A v RX4 cX4_simple 6 303 18078 (xn res.2.1 - xn K0)) (hret : ∀ (b1 : Nat) (H1 : Heap) (locs1 : List Loc) (ls1 : Array Slot) (pc : Nat), cMW s A v a b1 K0 res.2.1 res.2.2 H1 locs1 → decode cX4_simple pc = .ok (.return_, 1) → W p l e R s m args below meth c H1 locs1 (xn res.2.1 - xn K0) (2 * (xn res.2.1 - xn K0)) Q (F0 m pc ls1 [])) (x3 : Int32) (F : PF) (G : PG) (hm : cb_X4_simple_245 fu x3 F G = some res) {b : Nat} {H : Heap} {locs : List Loc} (hw : cMW s A v a b K0 F G H locs) {ls : Array Slot} (hl : lv_has ls 6 [(0, .ref (a 204)), (3, .int x3)]) : W p l e R s m args below meth c H locs (xn F - xn K0) (2 * (xn F - xn K0)) Q (F0 m 245 ls []) := by
  have hx := C.1
  have hb := C.2.1
  unfold cb_X4_simple_245 at hm
  refine lv_aload_n hx hb dX4_simple_245 rfl (lv_at hl 0 rfl) ?_
  refine cg_X4_27 C hw dX4_simple_246 ?_
  refine lv_iload_n hx hb dX4_simple_249 rfl (lv_at hl 1 rfl) ?_
  obtain ⟨⟨r1, F1, G1⟩, hc, hm⟩ := bind_elim hm
  refine ccallV (n := 1) (As := [.int x3]) (rest := []) C hw (ck_X3_store l v a _ _ fu x3 F G r1 F1 G1 hc) (cn_X3_store fu x3 F G _ hc) (Nat.sub_le_sub_right (cn_X4_simple_253 fu F1 G1 hm) _) (crecv_X3 C hw) cm_714 cm_715 cm_716 cm_301 cm_717 (by decide +kernel) rfl (by omega) (by omega) hl.1 rfl (Nat.le_of_ble_eq_true rfl) dX4_simple_250 (fun b H locs hw => ?_)
  exact cw_X4_simple_253 fu C hret F1 G1 hm hw (lv_sub hl [] rfl)
theorem cn_X4_simple_242 (fu : Nat) {res : Int32 × PF × PG} (F : PF) (G : PG) (hm : cb_X4_simple_242 fu F G = some res) : xn F ≤ xn res.2.1 := by
  unfold cb_X4_simple_242 at hm
  exact (cn_X4_simple_253 fu F G hm)
theorem cw_X4_simple_242 (fu : Nat) {res : Int32 × PF × PG} (C : cMC p R s m args c A v RX4 cX4_simple 6 303 18078 (xn res.2.1 - xn K0)) (hret : ∀ (b1 : Nat) (H1 : Heap) (locs1 : List Loc) (ls1 : Array Slot) (pc : Nat), cMW s A v a b1 K0 res.2.1 res.2.2 H1 locs1 → decode cX4_simple pc = .ok (.return_, 1) → W p l e R s m args below meth c H1 locs1 (xn res.2.1 - xn K0) (2 * (xn res.2.1 - xn K0)) Q (F0 m pc ls1 [])) (F : PF) (G : PG) (hm : cb_X4_simple_242 fu F G = some res) {b : Nat} {H : Heap} {locs : List Loc} (hw : cMW s A v a b K0 F G H locs) {ls : Array Slot} (hl : lv_has ls 6 []) : W p l e R s m args below meth c H locs (xn F - xn K0) (2 * (xn F - xn K0)) Q (F0 m 242 ls []) := by
  have hx := C.1
  have hb := C.2.1
  unfold cb_X4_simple_242 at hm
  refine lv_goto (tgt := 253) hx hb dX4_simple_242 (by decide) ?_
  exact cw_X4_simple_253 fu C hret F G hm hw (lv_sub hl [] rfl)
theorem cn_X4_simple_234 (fu : Nat) {res : Int32 × PF × PG} (x3 : Int32) (F : PF) (G : PG) (hm : cb_X4_simple_234 fu x3 F G = some res) : xn F ≤ xn res.2.1 := by
  unfold cb_X4_simple_234 at hm
  obtain ⟨⟨r1, F1, G1⟩, hc, hm⟩ := bind_elim hm
  exact Nat.le_trans (cn_X3_keep fu x3 F G _ hc) (cn_X4_simple_242 fu F1 G1 hm)
theorem cw_X4_simple_234 (fu : Nat) {res : Int32 × PF × PG} (C : cMC p R s m args c A v RX4 cX4_simple 6 303 18078 (xn res.2.1 - xn K0)) (hret : ∀ (b1 : Nat) (H1 : Heap) (locs1 : List Loc) (ls1 : Array Slot) (pc : Nat), cMW s A v a b1 K0 res.2.1 res.2.2 H1 locs1 → decode cX4_simple pc = .ok (.return_, 1) → W p l e R s m args below meth c H1 locs1 (xn res.2.1 - xn K0) (2 * (xn res.2.1 - xn K0)) Q (F0 m pc ls1 [])) (x3 : Int32) (F : PF) (G : PG) (hm : cb_X4_simple_234 fu x3 F G = some res) {b : Nat} {H : Heap} {locs : List Loc} (hw : cMW s A v a b K0 F G H locs) {ls : Array Slot} (hl : lv_has ls 6 [(0, .ref (a 204)), (3, .int x3)]) : W p l e R s m args below meth c H locs (xn F - xn K0) (2 * (xn F - xn K0)) Q (F0 m 234 ls []) := by
  have hx := C.1
  have hb := C.2.1
  unfold cb_X4_simple_234 at hm
  refine lv_aload_n hx hb dX4_simple_234 rfl (lv_at hl 0 rfl) ?_
  refine cg_X4_27 C hw dX4_simple_235 ?_
  refine lv_iload_n hx hb dX4_simple_238 rfl (lv_at hl 1 rfl) ?_
  obtain ⟨⟨r1, F1, G1⟩, hc, hm⟩ := bind_elim hm
  refine ccallV (n := 1) (As := [.int x3]) (rest := []) C hw (ck_X3_keep l v a _ _ fu x3 F G r1 F1 G1 hc) (cn_X3_keep fu x3 F G _ hc) (Nat.sub_le_sub_right (cn_X4_simple_242 fu F1 G1 hm) _) (crecv_X3 C hw) cm_710 cm_711 cm_712 cm_301 cm_713 (by decide +kernel) rfl (by omega) (by omega) hl.1 rfl (Nat.le_of_ble_eq_true rfl) dX4_simple_239 (fun b H locs hw => ?_)
  exact cw_X4_simple_242 fu C hret F1 G1 hm hw (lv_sub hl [] rfl)
theorem cn_X4_simple_229 (fu : Nat) {res : Int32 × PF × PG} (x3 : Int32) (x4 : Int32) (F : PF) (G : PG) (hm : cb_X4_simple_229 fu x3 x4 F G = some res) : xn F ≤ xn res.2.1 := by
  unfold cb_X4_simple_229 at hm
  by_cases c_1 : x4 = (0 : Int32)
  · have hm := (if_pos c_1).symm.trans hm
    exact (cn_X4_simple_245 fu x3 F G hm)
  · have hm := (if_neg c_1).symm.trans hm
    exact (cn_X4_simple_234 fu x3 F G hm)
theorem cw_X4_simple_229 (fu : Nat) {res : Int32 × PF × PG} (C : cMC p R s m args c A v RX4 cX4_simple 6 303 18078 (xn res.2.1 - xn K0)) (hret : ∀ (b1 : Nat) (H1 : Heap) (locs1 : List Loc) (ls1 : Array Slot) (pc : Nat), cMW s A v a b1 K0 res.2.1 res.2.2 H1 locs1 → decode cX4_simple pc = .ok (.return_, 1) → W p l e R s m args below meth c H1 locs1 (xn res.2.1 - xn K0) (2 * (xn res.2.1 - xn K0)) Q (F0 m pc ls1 [])) (x3 : Int32) (x4 : Int32) (F : PF) (G : PG) (hm : cb_X4_simple_229 fu x3 x4 F G = some res) {b : Nat} {H : Heap} {locs : List Loc} (hw : cMW s A v a b K0 F G H locs) {ls : Array Slot} (hl : lv_has ls 6 [(0, .ref (a 204)), (3, .int x3), (4, .int x4)]) : W p l e R s m args below meth c H locs (xn F - xn K0) (2 * (xn F - xn K0)) Q (F0 m 229 ls []) := by
  have hx := C.1
  have hb := C.2.1
  unfold cb_X4_simple_229 at hm
  refine lv_iload hx hb dX4_simple_229 (lv_at hl 2 rfl) ?_
  refine lv_if_eq (tgt := 245) hx hb dX4_simple_231 (by decide) (fun c_1 => ?_) (fun c_1 => ?_)
  · have hm := (if_pos c_1).symm.trans hm
    exact cw_X4_simple_245 fu C hret x3 F G hm hw (lv_sub hl [0, 1] rfl)
  · have hm := (if_neg c_1).symm.trans hm
    exact cw_X4_simple_234 fu C hret x3 F G hm hw (lv_sub hl [0, 1] rfl)
theorem cn_X4_simple_213 (fu : Nat) {res : Int32 × PF × PG} (x3 : Int32) (x4 : Int32) (x5 : Int32) (F : PF) (G : PG) (hm : cb_X4_simple_213 fu x3 x4 x5 F G = some res) : xn F ≤ xn res.2.1 := by
  unfold cb_X4_simple_213 at hm
  have hm := (ix_elim hm).2
  obtain ⟨⟨r1, F1, G1⟩, hc, hm⟩ := bind_elim hm
  exact Nat.le_trans (cn_X1_add fu (tb_5 (x5 - (30 : Int32)).toNatClampNeg) F G _ hc) (cn_X4_simple_229 fu x3 x4 F1 G1 hm)
theorem cw_X4_simple_213 (fu : Nat) {res : Int32 × PF × PG} (C : cMC p R s m args c A v RX4 cX4_simple 6 303 18078 (xn res.2.1 - xn K0)) (hret : ∀ (b1 : Nat) (H1 : Heap) (locs1 : List Loc) (ls1 : Array Slot) (pc : Nat), cMW s A v a b1 K0 res.2.1 res.2.2 H1 locs1 → decode cX4_simple pc = .ok (.return_, 1) → W p l e R s m args below meth c H1 locs1 (xn res.2.1 - xn K0) (2 * (xn res.2.1 - xn K0)) Q (F0 m pc ls1 [])) (x3 : Int32) (x4 : Int32) (x5 : Int32) (F : PF) (G : PG) (hm : cb_X4_simple_213 fu x3 x4 x5 F G = some res) {b : Nat} {H : Heap} {locs : List Loc} (hw : cMW s A v a b K0 F G H locs) {ls : Array Slot} (hl : lv_has ls 6 [(0, .ref (a 204)), (3, .int x3), (4, .int x4), (5, .int x5)]) : W p l e R s m args below meth c H locs (xn F - xn K0) (2 * (xn F - xn K0)) Q (F0 m 213 ls []) := by
  have hx := C.1
  have hb := C.2.1
  unfold cb_X4_simple_213 at hm
  refine lv_aload_n hx hb dX4_simple_213 rfl (lv_at hl 0 rfl) ?_
  refine cg_X4_19 C hw dX4_simple_214 ?_
  refine cgs_X4_297 C hw dX4_simple_217 ?_
  refine lv_iload hx hb dX4_simple_220 (lv_at hl 3 rfl) ?_
  refine lv_bipush (v := 30) hx hb dX4_simple_222 (by decide) ?_
  refine lv_isub hx hb dX4_simple_224 ?_
  obtain ⟨hi, hm⟩ := ix_elim hm
  refine cta_5 C hw hi dX4_simple_225 ?_
  obtain ⟨⟨r1, F1, G1⟩, hc, hm⟩ := bind_elim hm
  refine ccallV (n := 1) (As := [.int (tb_5 (x5 - (30 : Int32)).toNatClampNeg)]) (rest := []) C hw (ck_X1_add l v a _ _ fu (tb_5 (x5 - (30 : Int32)).toNatClampNeg) F G r1 F1 G1 hc) (cn_X1_add fu (tb_5 (x5 - (30 : Int32)).toNatClampNeg) F G _ hc) (Nat.sub_le_sub_right (cn_X4_simple_229 fu x3 x4 F1 G1 hm) _) (crecv_X1 C hw) cm_687 cm_453 cm_454 cm_369 cm_455 (by decide +kernel) rfl (by omega) (by omega) hl.1 rfl (Nat.le_of_ble_eq_true rfl) dX4_simple_226 (fun b H locs hw => ?_)
  exact cw_X4_simple_229 fu C hret x3 x4 F1 G1 hm hw (lv_sub hl [0, 1, 2] rfl)
theorem cn_X4_simple_206 (fu : Nat) {res : Int32 × PF × PG} (x3 : Int32) (x4 : Int32) (x5 : Int32) (F : PF) (G : PG) (hm : cb_X4_simple_206 fu x3 x4 x5 F G = some res) : xn F ≤ xn res.2.1 := by
  unfold cb_X4_simple_206 at hm
  by_cases c_1 : x5 = (29 : Int32)
  · have hm := (if_pos c_1).symm.trans hm
    exact (cn_X4_simple_229 fu x3 x4 F G hm)
  · have hm := (if_neg c_1).symm.trans hm
    exact (cn_X4_simple_213 fu x3 x4 x5 F G hm)
theorem cw_X4_simple_206 (fu : Nat) {res : Int32 × PF × PG} (C : cMC p R s m args c A v RX4 cX4_simple 6 303 18078 (xn res.2.1 - xn K0)) (hret : ∀ (b1 : Nat) (H1 : Heap) (locs1 : List Loc) (ls1 : Array Slot) (pc : Nat), cMW s A v a b1 K0 res.2.1 res.2.2 H1 locs1 → decode cX4_simple pc = .ok (.return_, 1) → W p l e R s m args below meth c H1 locs1 (xn res.2.1 - xn K0) (2 * (xn res.2.1 - xn K0)) Q (F0 m pc ls1 [])) (x3 : Int32) (x4 : Int32) (x5 : Int32) (F : PF) (G : PG) (hm : cb_X4_simple_206 fu x3 x4 x5 F G = some res) {b : Nat} {H : Heap} {locs : List Loc} (hw : cMW s A v a b K0 F G H locs) {ls : Array Slot} (hl : lv_has ls 6 [(0, .ref (a 204)), (3, .int x3), (4, .int x4), (5, .int x5)]) : W p l e R s m args below meth c H locs (xn F - xn K0) (2 * (xn F - xn K0)) Q (F0 m 206 ls []) := by
  have hx := C.1
  have hb := C.2.1
  unfold cb_X4_simple_206 at hm
  refine lv_iload hx hb dX4_simple_206 (lv_at hl 3 rfl) ?_
  refine lv_bipush (v := 29) hx hb dX4_simple_208 (by decide) ?_
  refine lv_icmp_eq (tgt := 229) hx hb dX4_simple_210 (by decide) (fun c_1 => ?_) (fun c_1 => ?_)
  · have hm := (if_pos c_1).symm.trans hm
    exact cw_X4_simple_229 fu C hret x3 x4 F G hm hw (lv_sub hl [0, 1, 2] rfl)
  · have hm := (if_neg c_1).symm.trans hm
    exact cw_X4_simple_213 fu C hret x3 x4 x5 F G hm hw (lv_sub hl [0, 1, 2, 3] rfl)
theorem cn_X4_simple_196 (fu : Nat) {res : Int32 × PF × PG} (x3 : Int32) (x4 : Int32) (x5 : Int32) (F : PF) (G : PG) (hm : cb_X4_simple_196 fu x3 x4 x5 F G = some res) : xn F ≤ xn res.2.1 := by
  unfold cb_X4_simple_196 at hm
  obtain ⟨⟨r1, F1, G1⟩, hc, hm⟩ := bind_elim hm
  exact Nat.le_trans (cn_X1_addPair fu 66 1 F G _ hc) (cn_X4_simple_206 fu x3 x4 x5 F1 G1 hm)
theorem cw_X4_simple_196 (fu : Nat) {res : Int32 × PF × PG} (C : cMC p R s m args c A v RX4 cX4_simple 6 303 18078 (xn res.2.1 - xn K0)) (hret : ∀ (b1 : Nat) (H1 : Heap) (locs1 : List Loc) (ls1 : Array Slot) (pc : Nat), cMW s A v a b1 K0 res.2.1 res.2.2 H1 locs1 → decode cX4_simple pc = .ok (.return_, 1) → W p l e R s m args below meth c H1 locs1 (xn res.2.1 - xn K0) (2 * (xn res.2.1 - xn K0)) Q (F0 m pc ls1 [])) (x3 : Int32) (x4 : Int32) (x5 : Int32) (F : PF) (G : PG) (hm : cb_X4_simple_196 fu x3 x4 x5 F G = some res) {b : Nat} {H : Heap} {locs : List Loc} (hw : cMW s A v a b K0 F G H locs) {ls : Array Slot} (hl : lv_has ls 6 [(0, .ref (a 204)), (3, .int x3), (4, .int x4), (5, .int x5)]) : W p l e R s m args below meth c H locs (xn F - xn K0) (2 * (xn F - xn K0)) Q (F0 m 196 ls []) := by
  have hx := C.1
  have hb := C.2.1
  unfold cb_X4_simple_196 at hm
  refine lv_aload_n hx hb dX4_simple_196 rfl (lv_at hl 0 rfl) ?_
  refine cg_X4_19 C hw dX4_simple_197 ?_
  refine lv_bipush (v := 66) hx hb dX4_simple_200 (by decide) ?_
  refine lv_iconst (v := 1) hx hb dX4_simple_202 (by decide) ?_
  obtain ⟨⟨r1, F1, G1⟩, hc, hm⟩ := bind_elim hm
  refine ccallV (n := 2) (As := [.int 66, .int 1]) (rest := []) C hw (ck_X1_addPair l v a _ _ fu 66 1 F G r1 F1 G1 hc) (cn_X1_addPair fu 66 1 F G _ hc) (Nat.sub_le_sub_right (cn_X4_simple_206 fu x3 x4 x5 F1 G1 hm) _) (crecv_X1 C hw) cm_660 cm_449 cm_450 cm_369 cm_451 (by decide +kernel) rfl (by omega) (by omega) hl.1 rfl (Nat.le_of_ble_eq_true rfl) dX4_simple_203 (fun b H locs hw => ?_)
  exact cw_X4_simple_206 fu C hret x3 x4 x5 F1 G1 hm hw (lv_sub hl [0, 1, 2, 3] rfl)
theorem cn_X4_simple_193 (fu : Nat) {res : Int32 × PF × PG} (x3 : Int32) (x4 : Int32) (x5 : Int32) (F : PF) (G : PG) (hm : cb_X4_simple_193 fu x3 x4 x5 F G = some res) : xn F ≤ xn res.2.1 := by
  unfold cb_X4_simple_193 at hm
  exact (cn_X4_simple_206 fu x3 x4 x5 F G hm)
theorem cw_X4_simple_193 (fu : Nat) {res : Int32 × PF × PG} (C : cMC p R s m args c A v RX4 cX4_simple 6 303 18078 (xn res.2.1 - xn K0)) (hret : ∀ (b1 : Nat) (H1 : Heap) (locs1 : List Loc) (ls1 : Array Slot) (pc : Nat), cMW s A v a b1 K0 res.2.1 res.2.2 H1 locs1 → decode cX4_simple pc = .ok (.return_, 1) → W p l e R s m args below meth c H1 locs1 (xn res.2.1 - xn K0) (2 * (xn res.2.1 - xn K0)) Q (F0 m pc ls1 [])) (x3 : Int32) (x4 : Int32) (x5 : Int32) (F : PF) (G : PG) (hm : cb_X4_simple_193 fu x3 x4 x5 F G = some res) {b : Nat} {H : Heap} {locs : List Loc} (hw : cMW s A v a b K0 F G H locs) {ls : Array Slot} (hl : lv_has ls 6 [(0, .ref (a 204)), (3, .int x3), (4, .int x4), (5, .int x5)]) : W p l e R s m args below meth c H locs (xn F - xn K0) (2 * (xn F - xn K0)) Q (F0 m 193 ls []) := by
  have hx := C.1
  have hb := C.2.1
  unfold cb_X4_simple_193 at hm
  refine lv_goto (tgt := 206) hx hb dX4_simple_193 (by decide) ?_
  exact cw_X4_simple_206 fu C hret x3 x4 x5 F G hm hw (lv_sub hl [0, 1, 2, 3] rfl)
theorem cn_X4_simple_186 (fu : Nat) {res : Int32 × PF × PG} (x3 : Int32) (x4 : Int32) (x5 : Int32) (F : PF) (G : PG) (hm : cb_X4_simple_186 fu x3 x4 x5 F G = some res) : xn F ≤ xn res.2.1 := by
  unfold cb_X4_simple_186 at hm
  obtain ⟨⟨r1, F1, G1⟩, hc, hm⟩ := bind_elim hm
  exact Nat.le_trans (cn_X3_expression fu F G _ hc) (cn_X4_simple_193 fu x3 x4 x5 F1 G1 hm)
theorem cw_X4_simple_186 (fu : Nat) {res : Int32 × PF × PG} (C : cMC p R s m args c A v RX4 cX4_simple 6 303 18078 (xn res.2.1 - xn K0)) (hret : ∀ (b1 : Nat) (H1 : Heap) (locs1 : List Loc) (ls1 : Array Slot) (pc : Nat), cMW s A v a b1 K0 res.2.1 res.2.2 H1 locs1 → decode cX4_simple pc = .ok (.return_, 1) → W p l e R s m args below meth c H1 locs1 (xn res.2.1 - xn K0) (2 * (xn res.2.1 - xn K0)) Q (F0 m pc ls1 [])) (x3 : Int32) (x4 : Int32) (x5 : Int32) (F : PF) (G : PG) (hm : cb_X4_simple_186 fu x3 x4 x5 F G = some res) {b : Nat} {H : Heap} {locs : List Loc} (hw : cMW s A v a b K0 F G H locs) {ls : Array Slot} (hl : lv_has ls 6 [(0, .ref (a 204)), (3, .int x3), (4, .int x4), (5, .int x5)]) : W p l e R s m args below meth c H locs (xn F - xn K0) (2 * (xn F - xn K0)) Q (F0 m 186 ls []) := by
  have hx := C.1
  have hb := C.2.1
  unfold cb_X4_simple_186 at hm
  refine lv_aload_n hx hb dX4_simple_186 rfl (lv_at hl 0 rfl) ?_
  refine cg_X4_27 C hw dX4_simple_187 ?_
  obtain ⟨⟨r1, F1, G1⟩, hc, hm⟩ := bind_elim hm
  refine ccallV (n := 0) (As := []) (rest := []) C hw (ck_X3_expression l v a _ _ fu F G r1 F1 G1 hc) (cn_X3_expression fu F G _ hc) (Nat.sub_le_sub_right (cn_X4_simple_193 fu x3 x4 x5 F1 G1 hm) _) (crecv_X3 C hw) cm_659 cm_354 cm_355 cm_301 cm_356 (by decide +kernel) rfl (by omega) (by omega) hl.1 rfl (Nat.le_of_ble_eq_true rfl) dX4_simple_190 (fun b H locs hw => ?_)
  exact cw_X4_simple_193 fu C hret x3 x4 x5 F1 G1 hm hw (lv_sub hl [0, 1, 2, 3] rfl)
theorem cn_X4_simple_179 (fu : Nat) {res : Int32 × PF × PG} (x3 : Int32) (x4 : Int32) (x5 : Int32) (F : PF) (G : PG) (hm : cb_X4_simple_179 fu x3 x4 x5 F G = some res) : xn F ≤ xn res.2.1 := by
  unfold cb_X4_simple_179 at hm
  by_cases c_1 : (41 : Int32) ≤ x5
  · have hm := (if_pos c_1).symm.trans hm
    exact (cn_X4_simple_196 fu x3 x4 x5 F G hm)
  · have hm := (if_neg c_1).symm.trans hm
    exact (cn_X4_simple_186 fu x3 x4 x5 F G hm)
theorem cw_X4_simple_179 (fu : Nat) {res : Int32 × PF × PG} (C : cMC p R s m args c A v RX4 cX4_simple 6 303 18078 (xn res.2.1 - xn K0)) (hret : ∀ (b1 : Nat) (H1 : Heap) (locs1 : List Loc) (ls1 : Array Slot) (pc : Nat), cMW s A v a b1 K0 res.2.1 res.2.2 H1 locs1 → decode cX4_simple pc = .ok (.return_, 1) → W p l e R s m args below meth c H1 locs1 (xn res.2.1 - xn K0) (2 * (xn res.2.1 - xn K0)) Q (F0 m pc ls1 [])) (x3 : Int32) (x4 : Int32) (x5 : Int32) (F : PF) (G : PG) (hm : cb_X4_simple_179 fu x3 x4 x5 F G = some res) {b : Nat} {H : Heap} {locs : List Loc} (hw : cMW s A v a b K0 F G H locs) {ls : Array Slot} (hl : lv_has ls 6 [(0, .ref (a 204)), (3, .int x3), (4, .int x4), (5, .int x5)]) : W p l e R s m args below meth c H locs (xn F - xn K0) (2 * (xn F - xn K0)) Q (F0 m 179 ls []) := by
  have hx := C.1
  have hb := C.2.1
  unfold cb_X4_simple_179 at hm
  refine lv_iload hx hb dX4_simple_179 (lv_at hl 3 rfl) ?_
  refine lv_bipush (v := 41) hx hb dX4_simple_181 (by decide) ?_
  refine lv_icmp_ge (tgt := 196) hx hb dX4_simple_183 (by decide) (fun c_1 => ?_) (fun c_1 => ?_)
  · have hm := (if_pos c_1).symm.trans hm
    exact cw_X4_simple_196 fu C hret x3 x4 x5 F G hm hw (lv_sub hl [0, 1, 2, 3] rfl)
  · have hm := (if_neg c_1).symm.trans hm
    exact cw_X4_simple_186 fu C hret x3 x4 x5 F G hm hw (lv_sub hl [0, 1, 2, 3] rfl)
theorem cn_X4_simple_172 (fu : Nat) {res : Int32 × PF × PG} (x3 : Int32) (x4 : Int32) (x5 : Int32) (F : PF) (G : PG) (hm : cb_X4_simple_172 fu x3 x4 x5 F G = some res) : xn F ≤ xn res.2.1 := by
  unfold cb_X4_simple_172 at hm
  obtain ⟨⟨r1, F1, G1⟩, hc, hm⟩ := bind_elim hm
  exact Nat.le_trans (cn_X4_oldValue fu x3 x4 F G _ hc) (cn_X4_simple_179 fu x3 x4 x5 F1 G1 hm)
theorem cw_X4_simple_172 (fu : Nat) {res : Int32 × PF × PG} (C : cMC p R s m args c A v RX4 cX4_simple 6 303 18078 (xn res.2.1 - xn K0)) (hret : ∀ (b1 : Nat) (H1 : Heap) (locs1 : List Loc) (ls1 : Array Slot) (pc : Nat), cMW s A v a b1 K0 res.2.1 res.2.2 H1 locs1 → decode cX4_simple pc = .ok (.return_, 1) → W p l e R s m args below meth c H1 locs1 (xn res.2.1 - xn K0) (2 * (xn res.2.1 - xn K0)) Q (F0 m pc ls1 [])) (x3 : Int32) (x4 : Int32) (x5 : Int32) (F : PF) (G : PG) (hm : cb_X4_simple_172 fu x3 x4 x5 F G = some res) {b : Nat} {H : Heap} {locs : List Loc} (hw : cMW s A v a b K0 F G H locs) {ls : Array Slot} (hl : lv_has ls 6 [(0, .ref (a 204)), (3, .int x3), (4, .int x4), (5, .int x5)]) : W p l e R s m args below meth c H locs (xn F - xn K0) (2 * (xn F - xn K0)) Q (F0 m 172 ls []) := by
  have hx := C.1
  have hb := C.2.1
  unfold cb_X4_simple_172 at hm
  refine lv_aload_n hx hb dX4_simple_172 rfl (lv_at hl 0 rfl) ?_
  refine lv_iload_n hx hb dX4_simple_173 rfl (lv_at hl 1 rfl) ?_
  refine lv_iload hx hb dX4_simple_174 (lv_at hl 2 rfl) ?_
  obtain ⟨⟨r1, F1, G1⟩, hc, hm⟩ := bind_elim hm
  refine ccallV (n := 2) (As := [.int x3, .int x4]) (rest := []) C hw (ck_X4_oldValue l v a _ _ fu x3 x4 F G r1 F1 G1 hc) (cn_X4_oldValue fu x3 x4 F G _ hc) (Nat.sub_le_sub_right (cn_X4_simple_179 fu x3 x4 x5 F1 G1 hm) _) (crecv_X4 C hw) cm_704 cm_705 cm_706 cm_244 cm_707 (by decide +kernel) rfl (by omega) (by omega) hl.1 rfl (Nat.le_of_ble_eq_true rfl) dX4_simple_176 (fun b H locs hw => ?_)
  exact cw_X4_simple_179 fu C hret x3 x4 x5 F1 G1 hm hw (lv_sub hl [0, 1, 2, 3] rfl)
theorem cn_X4_simple_165 (fu : Nat) {res : Int32 × PF × PG} (x3 : Int32) (x4 : Int32) (x5 : Int32) (F : PF) (G : PG) (hm : cb_X4_simple_165 fu x3 x4 x5 F G = some res) : xn F ≤ xn res.2.1 := by
  unfold cb_X4_simple_165 at hm
  by_cases c_1 : x5 = (29 : Int32)
  · have hm := (if_pos c_1).symm.trans hm
    exact (cn_X4_simple_179 fu x3 x4 x5 F G hm)
  · have hm := (if_neg c_1).symm.trans hm
    exact (cn_X4_simple_172 fu x3 x4 x5 F G hm)
theorem cw_X4_simple_165 (fu : Nat) {res : Int32 × PF × PG} (C : cMC p R s m args c A v RX4 cX4_simple 6 303 18078 (xn res.2.1 - xn K0)) (hret : ∀ (b1 : Nat) (H1 : Heap) (locs1 : List Loc) (ls1 : Array Slot) (pc : Nat), cMW s A v a b1 K0 res.2.1 res.2.2 H1 locs1 → decode cX4_simple pc = .ok (.return_, 1) → W p l e R s m args below meth c H1 locs1 (xn res.2.1 - xn K0) (2 * (xn res.2.1 - xn K0)) Q (F0 m pc ls1 [])) (x3 : Int32) (x4 : Int32) (x5 : Int32) (F : PF) (G : PG) (hm : cb_X4_simple_165 fu x3 x4 x5 F G = some res) {b : Nat} {H : Heap} {locs : List Loc} (hw : cMW s A v a b K0 F G H locs) {ls : Array Slot} (hl : lv_has ls 6 [(0, .ref (a 204)), (3, .int x3), (4, .int x4), (5, .int x5)]) : W p l e R s m args below meth c H locs (xn F - xn K0) (2 * (xn F - xn K0)) Q (F0 m 165 ls []) := by
  have hx := C.1
  have hb := C.2.1
  unfold cb_X4_simple_165 at hm
  refine lv_iload hx hb dX4_simple_165 (lv_at hl 3 rfl) ?_
  refine lv_bipush (v := 29) hx hb dX4_simple_167 (by decide) ?_
  refine lv_icmp_eq (tgt := 179) hx hb dX4_simple_169 (by decide) (fun c_1 => ?_) (fun c_1 => ?_)
  · have hm := (if_pos c_1).symm.trans hm
    exact cw_X4_simple_179 fu C hret x3 x4 x5 F G hm hw (lv_sub hl [0, 1, 2, 3] rfl)
  · have hm := (if_neg c_1).symm.trans hm
    exact cw_X4_simple_172 fu C hret x3 x4 x5 F G hm hw (lv_sub hl [0, 1, 2, 3] rfl)
theorem cn_X4_simple_158 (fu : Nat) {res : Int32 × PF × PG} (x3 : Int32) (x4 : Int32) (x5 : Int32) (F : PF) (G : PG) (hm : cb_X4_simple_158 fu x3 x4 x5 F G = some res) : xn F ≤ xn res.2.1 := by
  unfold cb_X4_simple_158 at hm
  obtain ⟨⟨r1, F1, G1⟩, hc, hm⟩ := bind_elim hm
  exact Nat.le_trans (cn_X2_next fu F G _ hc) (cn_X4_simple_165 fu x3 x4 x5 F1 G1 hm)
theorem cw_X4_simple_158 (fu : Nat) {res : Int32 × PF × PG} (C : cMC p R s m args c A v RX4 cX4_simple 6 303 18078 (xn res.2.1 - xn K0)) (hret : ∀ (b1 : Nat) (H1 : Heap) (locs1 : List Loc) (ls1 : Array Slot) (pc : Nat), cMW s A v a b1 K0 res.2.1 res.2.2 H1 locs1 → decode cX4_simple pc = .ok (.return_, 1) → W p l e R s m args below meth c H1 locs1 (xn res.2.1 - xn K0) (2 * (xn res.2.1 - xn K0)) Q (F0 m pc ls1 [])) (x3 : Int32) (x4 : Int32) (x5 : Int32) (F : PF) (G : PG) (hm : cb_X4_simple_158 fu x3 x4 x5 F G = some res) {b : Nat} {H : Heap} {locs : List Loc} (hw : cMW s A v a b K0 F G H locs) {ls : Array Slot} (hl : lv_has ls 6 [(0, .ref (a 204)), (3, .int x3), (4, .int x4), (5, .int x5)]) : W p l e R s m args below meth c H locs (xn F - xn K0) (2 * (xn F - xn K0)) Q (F0 m 158 ls []) := by
  have hx := C.1
  have hb := C.2.1
  unfold cb_X4_simple_158 at hm
  refine lv_aload_n hx hb dX4_simple_158 rfl (lv_at hl 0 rfl) ?_
  refine cg_X4_9 C hw dX4_simple_159 ?_
  obtain ⟨⟨r1, F1, G1⟩, hc, hm⟩ := bind_elim hm
  refine ccallV (n := 0) (As := []) (rest := []) C hw (ck_X2_next l v a _ _ fu F G r1 F1 G1 hc) (cn_X2_next fu F G _ hc) (Nat.sub_le_sub_right (cn_X4_simple_165 fu x3 x4 x5 F1 G1 hm) _) (crecv_X2 C hw) cm_320 cm_321 cm_322 cm_307 cm_323 (by decide +kernel) rfl (by omega) (by omega) hl.1 rfl (Nat.le_of_ble_eq_true rfl) dX4_simple_162 (fun b H locs hw => ?_)
  exact cw_X4_simple_165 fu C hret x3 x4 x5 F1 G1 hm hw (lv_sub hl [0, 1, 2, 3] rfl)
theorem cn_X4_simple_142 (fu : Nat) {res : Int32 × PF × PG} (x3 : Int32) (x4 : Int32) (x5 : Int32) (F : PF) (G : PG) (hm : cb_X4_simple_142 fu x3 x4 x5 F G = some res) : xn F ≤ xn res.2.1 := by
  unfold cb_X4_simple_142 at hm
  by_cases c_1 : x5 ≤ (42 : Int32)
  · have hm := (if_pos c_1).symm.trans hm
    exact (cn_X4_simple_158 fu x3 x4 x5 F G hm)
  · have hm := (if_neg c_1).symm.trans hm
    exact (cn_X4_simple_149 fu F G hm)
theorem cw_X4_simple_142 (fu : Nat) {res : Int32 × PF × PG} (C : cMC p R s m args c A v RX4 cX4_simple 6 303 18078 (xn res.2.1 - xn K0)) (hret : ∀ (b1 : Nat) (H1 : Heap) (locs1 : List Loc) (ls1 : Array Slot) (pc : Nat), cMW s A v a b1 K0 res.2.1 res.2.2 H1 locs1 → decode cX4_simple pc = .ok (.return_, 1) → W p l e R s m args below meth c H1 locs1 (xn res.2.1 - xn K0) (2 * (xn res.2.1 - xn K0)) Q (F0 m pc ls1 [])) (x3 : Int32) (x4 : Int32) (x5 : Int32) (F : PF) (G : PG) (hm : cb_X4_simple_142 fu x3 x4 x5 F G = some res) {b : Nat} {H : Heap} {locs : List Loc} (hw : cMW s A v a b K0 F G H locs) {ls : Array Slot} (hl : lv_has ls 6 [(0, .ref (a 204)), (3, .int x3), (4, .int x4), (5, .int x5)]) : W p l e R s m args below meth c H locs (xn F - xn K0) (2 * (xn F - xn K0)) Q (F0 m 142 ls []) := by
  have hx := C.1
  have hb := C.2.1
  unfold cb_X4_simple_142 at hm
  refine lv_iload hx hb dX4_simple_142 (lv_at hl 3 rfl) ?_
  refine lv_bipush (v := 42) hx hb dX4_simple_144 (by decide) ?_
  refine lv_icmp_le (tgt := 158) hx hb dX4_simple_146 (by decide) (fun c_1 => ?_) (fun c_1 => ?_)
  · have hm := (if_pos c_1).symm.trans hm
    exact cw_X4_simple_158 fu C hret x3 x4 x5 F G hm hw (lv_sub hl [0, 1, 2, 3] rfl)
  · have hm := (if_neg c_1).symm.trans hm
    exact cw_X4_simple_149 fu C hret F G hm hw (lv_sub hl [0] rfl)
theorem cn_X4_simple_126 (fu : Nat) {res : Int32 × PF × PG} (x3 : Int32) (x4 : Int32) (F : PF) (G : PG) (hm : cb_X4_simple_126 fu x3 x4 F G = some res) : xn F ≤ xn res.2.1 := by
  unfold cb_X4_simple_126 at hm
  by_cases c_1 : (F 11) < (29 : Int32)
  · have hm := (if_pos c_1).symm.trans hm
    exact (cn_X4_simple_149 fu F G hm)
  · have hm := (if_neg c_1).symm.trans hm
    exact (cn_X4_simple_142 fu x3 x4 (F 11) F G hm)
theorem cw_X4_simple_126 (fu : Nat) {res : Int32 × PF × PG} (C : cMC p R s m args c A v RX4 cX4_simple 6 303 18078 (xn res.2.1 - xn K0)) (hret : ∀ (b1 : Nat) (H1 : Heap) (locs1 : List Loc) (ls1 : Array Slot) (pc : Nat), cMW s A v a b1 K0 res.2.1 res.2.2 H1 locs1 → decode cX4_simple pc = .ok (.return_, 1) → W p l e R s m args below meth c H1 locs1 (xn res.2.1 - xn K0) (2 * (xn res.2.1 - xn K0)) Q (F0 m pc ls1 [])) (x3 : Int32) (x4 : Int32) (F : PF) (G : PG) (hm : cb_X4_simple_126 fu x3 x4 F G = some res) {b : Nat} {H : Heap} {locs : List Loc} (hw : cMW s A v a b K0 F G H locs) {ls : Array Slot} (hl : lv_has ls 6 [(0, .ref (a 204)), (3, .int x3), (4, .int x4)]) : W p l e R s m args below meth c H locs (xn F - xn K0) (2 * (xn F - xn K0)) Q (F0 m 126 ls []) := by
  have hx := C.1
  have hb := C.2.1
  unfold cb_X4_simple_126 at hm
  refine lv_aload_n hx hb dX4_simple_126 rfl (lv_at hl 0 rfl) ?_
  refine cg_X4_9 C hw dX4_simple_127 ?_
  refine cg_X4_52 C hw dX4_simple_130 ?_
  refine lv_istore (lv' := [(5, .int (F 11)), (0, .ref (a 204)), (3, .int x3), (4, .int x4)]) hx hb dX4_simple_133 hl (by decide) rfl (fun ls hl => ?_)
  refine lv_iload hx hb dX4_simple_135 (lv_at hl 0 rfl) ?_
  refine lv_bipush (v := 29) hx hb dX4_simple_137 (by decide) ?_
  refine lv_icmp_lt (tgt := 149) hx hb dX4_simple_139 (by decide) (fun c_1 => ?_) (fun c_1 => ?_)
  · have hm := (if_pos c_1).symm.trans hm
    exact cw_X4_simple_149 fu C hret F G hm hw (lv_sub hl [1] rfl)
  · have hm := (if_neg c_1).symm.trans hm
    exact cw_X4_simple_142 fu C hret x3 x4 (F 11) F G hm hw (lv_sub hl [1, 2, 3, 0] rfl)
theorem cn_X4_simple_118 (fu : Nat) {res : Int32 × PF × PG} (x3 : Int32) (x4 : Int32) (F : PF) (G : PG) (hm : cb_X4_simple_118 fu x3 x4 F G = some res) : xn F ≤ xn res.2.1 := by
  unfold cb_X4_simple_118 at hm
  obtain ⟨⟨r1, F1, G1⟩, hc, hm⟩ := bind_elim hm
  exact Nat.le_trans (cn_X3_index fu x3 F G _ hc) (cn_X4_simple_126 fu x3 x4 F1 G1 hm)
theorem cw_X4_simple_118 (fu : Nat) {res : Int32 × PF × PG} (C : cMC p R s m args c A v RX4 cX4_simple 6 303 18078 (xn res.2.1 - xn K0)) (hret : ∀ (b1 : Nat) (H1 : Heap) (locs1 : List Loc) (ls1 : Array Slot) (pc : Nat), cMW s A v a b1 K0 res.2.1 res.2.2 H1 locs1 → decode cX4_simple pc = .ok (.return_, 1) → W p l e R s m args below meth c H1 locs1 (xn res.2.1 - xn K0) (2 * (xn res.2.1 - xn K0)) Q (F0 m pc ls1 [])) (x3 : Int32) (x4 : Int32) (F : PF) (G : PG) (hm : cb_X4_simple_118 fu x3 x4 F G = some res) {b : Nat} {H : Heap} {locs : List Loc} (hw : cMW s A v a b K0 F G H locs) {ls : Array Slot} (hl : lv_has ls 6 [(0, .ref (a 204)), (3, .int x3), (4, .int x4)]) : W p l e R s m args below meth c H locs (xn F - xn K0) (2 * (xn F - xn K0)) Q (F0 m 118 ls []) := by
  have hx := C.1
  have hb := C.2.1
  unfold cb_X4_simple_118 at hm
  refine lv_aload_n hx hb dX4_simple_118 rfl (lv_at hl 0 rfl) ?_
  refine cg_X4_27 C hw dX4_simple_119 ?_
  refine lv_iload_n hx hb dX4_simple_122 rfl (lv_at hl 1 rfl) ?_
  obtain ⟨⟨r1, F1, G1⟩, hc, hm⟩ := bind_elim hm
  refine ccallV (n := 1) (As := [.int x3]) (rest := []) C hw (ck_X3_index l v a _ _ fu x3 F G r1 F1 G1 hc) (cn_X3_index fu x3 F G _ hc) (Nat.sub_le_sub_right (cn_X4_simple_126 fu x3 x4 F1 G1 hm) _) (crecv_X3 C hw) cm_703 cm_501 cm_502 cm_301 cm_462 (by decide +kernel) rfl (by omega) (by omega) hl.1 rfl (Nat.le_of_ble_eq_true rfl) dX4_simple_123 (fun b H locs hw => ?_)
  exact cw_X4_simple_126 fu C hret x3 x4 F1 G1 hm hw (lv_sub hl [0, 1, 2] rfl)
theorem cn_X4_simple_111 (fu : Nat) {res : Int32 × PF × PG} (x3 : Int32) (z0 : Int32) (F : PF) (G : PG) (hm : cb_X4_simple_111 fu x3 z0 F G = some res) : xn F ≤ xn res.2.1 := by
  unfold cb_X4_simple_111 at hm
  by_cases c_1 : z0 = (0 : Int32)
  · have hm := (if_pos c_1).symm.trans hm
    exact (cn_X4_simple_126 fu x3 z0 F G hm)
  · have hm := (if_neg c_1).symm.trans hm
    exact (cn_X4_simple_118 fu x3 z0 F G hm)
theorem cw_X4_simple_111 (fu : Nat) {res : Int32 × PF × PG} (C : cMC p R s m args c A v RX4 cX4_simple 6 303 18078 (xn res.2.1 - xn K0)) (hret : ∀ (b1 : Nat) (H1 : Heap) (locs1 : List Loc) (ls1 : Array Slot) (pc : Nat), cMW s A v a b1 K0 res.2.1 res.2.2 H1 locs1 → decode cX4_simple pc = .ok (.return_, 1) → W p l e R s m args below meth c H1 locs1 (xn res.2.1 - xn K0) (2 * (xn res.2.1 - xn K0)) Q (F0 m pc ls1 [])) (x3 : Int32) (z0 : Int32) (F : PF) (G : PG) (hm : cb_X4_simple_111 fu x3 z0 F G = some res) {b : Nat} {H : Heap} {locs : List Loc} (hw : cMW s A v a b K0 F G H locs) {ls : Array Slot} (hl : lv_has ls 6 [(0, .ref (a 204)), (3, .int x3)]) : W p l e R s m args below meth c H locs (xn F - xn K0) (2 * (xn F - xn K0)) Q (F0 m 111 ls [.int z0]) := by
  have hx := C.1
  have hb := C.2.1
  unfold cb_X4_simple_111 at hm
  refine lv_istore (lv' := [(4, .int z0), (0, .ref (a 204)), (3, .int x3)]) hx hb dX4_simple_111 hl (by decide) rfl (fun ls hl => ?_)
  refine lv_iload hx hb dX4_simple_113 (lv_at hl 0 rfl) ?_
  refine lv_if_eq (tgt := 126) hx hb dX4_simple_115 (by decide) (fun c_1 => ?_) (fun c_1 => ?_)
  · have hm := (if_pos c_1).symm.trans hm
    exact cw_X4_simple_126 fu C hret x3 z0 F G hm hw (lv_sub hl [1, 2, 0] rfl)
  · have hm := (if_neg c_1).symm.trans hm
    exact cw_X4_simple_118 fu C hret x3 z0 F G hm hw (lv_sub hl [1, 2, 0] rfl)
theorem cn_X4_simple_110 (fu : Nat) {res : Int32 × PF × PG} (x3 : Int32) (F : PF) (G : PG) (hm : cb_X4_simple_110 fu x3 F G = some res) : xn F ≤ xn res.2.1 := by
  unfold cb_X4_simple_110 at hm
  exact (cn_X4_simple_111 fu x3 0 F G hm)
theorem cw_X4_simple_110 (fu : Nat) {res : Int32 × PF × PG} (C : cMC p R s m args c A v RX4 cX4_simple 6 303 18078 (xn res.2.1 - xn K0)) (hret : ∀ (b1 : Nat) (H1 : Heap) (locs1 : List Loc) (ls1 : Array Slot) (pc : Nat), cMW s A v a b1 K0 res.2.1 res.2.2 H1 locs1 → decode cX4_simple pc = .ok (.return_, 1) → W p l e R s m args below meth c H1 locs1 (xn res.2.1 - xn K0) (2 * (xn res.2.1 - xn K0)) Q (F0 m pc ls1 [])) (x3 : Int32) (F : PF) (G : PG) (hm : cb_X4_simple_110 fu x3 F G = some res) {b : Nat} {H : Heap} {locs : List Loc} (hw : cMW s A v a b K0 F G H locs) {ls : Array Slot} (hl : lv_has ls 6 [(0, .ref (a 204)), (3, .int x3)]) : W p l e R s m args below meth c H locs (xn F - xn K0) (2 * (xn F - xn K0)) Q (F0 m 110 ls []) := by
  have hx := C.1
  have hb := C.2.1
  unfold cb_X4_simple_110 at hm
  refine lv_iconst (v := 0) hx hb dX4_simple_110 (by decide) ?_
  exact cw_X4_simple_111 fu C hret x3 0 F G hm hw (lv_sub hl [0, 1] rfl)
theorem cn_X4_simple_106 (fu : Nat) {res : Int32 × PF × PG} (x3 : Int32) (F : PF) (G : PG) (hm : cb_X4_simple_106 fu x3 F G = some res) : xn F ≤ xn res.2.1 := by
  unfold cb_X4_simple_106 at hm
  exact (cn_X4_simple_111 fu x3 1 F G hm)
theorem cw_X4_simple_106 (fu : Nat) {res : Int32 × PF × PG} (C : cMC p R s m args c A v RX4 cX4_simple 6 303 18078 (xn res.2.1 - xn K0)) (hret : ∀ (b1 : Nat) (H1 : Heap) (locs1 : List Loc) (ls1 : Array Slot) (pc : Nat), cMW s A v a b1 K0 res.2.1 res.2.2 H1 locs1 → decode cX4_simple pc = .ok (.return_, 1) → W p l e R s m args below meth c H1 locs1 (xn res.2.1 - xn K0) (2 * (xn res.2.1 - xn K0)) Q (F0 m pc ls1 [])) (x3 : Int32) (F : PF) (G : PG) (hm : cb_X4_simple_106 fu x3 F G = some res) {b : Nat} {H : Heap} {locs : List Loc} (hw : cMW s A v a b K0 F G H locs) {ls : Array Slot} (hl : lv_has ls 6 [(0, .ref (a 204)), (3, .int x3)]) : W p l e R s m args below meth c H locs (xn F - xn K0) (2 * (xn F - xn K0)) Q (F0 m 106 ls []) := by
  have hx := C.1
  have hb := C.2.1
  unfold cb_X4_simple_106 at hm
  refine lv_iconst (v := 1) hx hb dX4_simple_106 (by decide) ?_
  refine lv_goto (tgt := 111) hx hb dX4_simple_107 (by decide) ?_
  exact cw_X4_simple_111 fu C hret x3 1 F G hm hw (lv_sub hl [0, 1] rfl)
theorem cn_X4_simple_94 (fu : Nat) {res : Int32 × PF × PG} (x3 : Int32) (F : PF) (G : PG) (hm : cb_X4_simple_94 fu x3 F G = some res) : xn F ≤ xn res.2.1 := by
  unfold cb_X4_simple_94 at hm
  by_cases c_1 : (F 11) = (21 : Int32)
  · have hm := (if_pos c_1).symm.trans hm
    exact (cn_X4_simple_106 fu x3 F G hm)
  · have hm := (if_neg c_1).symm.trans hm
    exact (cn_X4_simple_110 fu x3 F G hm)
theorem cw_X4_simple_94 (fu : Nat) {res : Int32 × PF × PG} (C : cMC p R s m args c A v RX4 cX4_simple 6 303 18078 (xn res.2.1 - xn K0)) (hret : ∀ (b1 : Nat) (H1 : Heap) (locs1 : List Loc) (ls1 : Array Slot) (pc : Nat), cMW s A v a b1 K0 res.2.1 res.2.2 H1 locs1 → decode cX4_simple pc = .ok (.return_, 1) → W p l e R s m args below meth c H1 locs1 (xn res.2.1 - xn K0) (2 * (xn res.2.1 - xn K0)) Q (F0 m pc ls1 [])) (x3 : Int32) (F : PF) (G : PG) (hm : cb_X4_simple_94 fu x3 F G = some res) {b : Nat} {H : Heap} {locs : List Loc} (hw : cMW s A v a b K0 F G H locs) {ls : Array Slot} (hl : lv_has ls 6 [(0, .ref (a 204)), (3, .int x3)]) : W p l e R s m args below meth c H locs (xn F - xn K0) (2 * (xn F - xn K0)) Q (F0 m 94 ls []) := by
  have hx := C.1
  have hb := C.2.1
  unfold cb_X4_simple_94 at hm
  refine lv_aload_n hx hb dX4_simple_94 rfl (lv_at hl 0 rfl) ?_
  refine cg_X4_9 C hw dX4_simple_95 ?_
  refine cg_X4_52 C hw dX4_simple_98 ?_
  refine lv_bipush (v := 21) hx hb dX4_simple_101 (by decide) ?_
  refine lv_icmp_ne (tgt := 110) hx hb dX4_simple_103 (by decide) (fun c_1 => ?_) (fun c_1 => ?_)
  · have hm := (if_neg c_1).symm.trans hm
    exact cw_X4_simple_110 fu C hret x3 F G hm hw (lv_sub hl [0, 1] rfl)
  · have hm := (if_pos c_1).symm.trans hm
    exact cw_X4_simple_106 fu C hret x3 F G hm hw (lv_sub hl [0, 1] rfl)
theorem cn_X4_simple_93 (fu : Nat) {res : Int32 × PF × PG} (F : PF) (G : PG) (hm : cb_X4_simple_93 fu F G = some res) : xn F ≤ xn res.2.1 := by
  unfold cb_X4_simple_93 at hm
  obtain rfl := Option.some.inj hm
  exact Nat.le_refl _
theorem cw_X4_simple_93 (fu : Nat) {res : Int32 × PF × PG} (C : cMC p R s m args c A v RX4 cX4_simple 6 303 18078 (xn res.2.1 - xn K0)) (hret : ∀ (b1 : Nat) (H1 : Heap) (locs1 : List Loc) (ls1 : Array Slot) (pc : Nat), cMW s A v a b1 K0 res.2.1 res.2.2 H1 locs1 → decode cX4_simple pc = .ok (.return_, 1) → W p l e R s m args below meth c H1 locs1 (xn res.2.1 - xn K0) (2 * (xn res.2.1 - xn K0)) Q (F0 m pc ls1 [])) (F : PF) (G : PG) (hm : cb_X4_simple_93 fu F G = some res) {b : Nat} {H : Heap} {locs : List Loc} (hw : cMW s A v a b K0 F G H locs) {ls : Array Slot} (hl : lv_has ls 6 []) : W p l e R s m args below meth c H locs (xn F - xn K0) (2 * (xn F - xn K0)) Q (F0 m 93 ls []) := by
  have hx := C.1
  have hb := C.2.1
  unfold cb_X4_simple_93 at hm
  obtain rfl := Option.some.inj hm
  exact hret _ _ _ _ _ hw dX4_simple_93
theorem cn_X4_simple_84 (fu : Nat) {res : Int32 × PF × PG} (F : PF) (G : PG) (hm : cb_X4_simple_84 fu F G = some res) : xn F ≤ xn res.2.1 := by
  unfold cb_X4_simple_84 at hm
  obtain ⟨⟨r1, F1, G1⟩, hc, hm⟩ := bind_elim hm
  exact Nat.le_trans (cn_X1_add fu 68 F G _ hc) (cn_X4_simple_93 fu F1 G1 hm)
theorem cw_X4_simple_84 (fu : Nat) {res : Int32 × PF × PG} (C : cMC p R s m args c A v RX4 cX4_simple 6 303 18078 (xn res.2.1 - xn K0)) (hret : ∀ (b1 : Nat) (H1 : Heap) (locs1 : List Loc) (ls1 : Array Slot) (pc : Nat), cMW s A v a b1 K0 res.2.1 res.2.2 H1 locs1 → decode cX4_simple pc = .ok (.return_, 1) → W p l e R s m args below meth c H1 locs1 (xn res.2.1 - xn K0) (2 * (xn res.2.1 - xn K0)) Q (F0 m pc ls1 [])) (F : PF) (G : PG) (hm : cb_X4_simple_84 fu F G = some res) {b : Nat} {H : Heap} {locs : List Loc} (hw : cMW s A v a b K0 F G H locs) {ls : Array Slot} (hl : lv_has ls 6 [(0, .ref (a 204))]) : W p l e R s m args below meth c H locs (xn F - xn K0) (2 * (xn F - xn K0)) Q (F0 m 84 ls []) := by
  have hx := C.1
  have hb := C.2.1
  unfold cb_X4_simple_84 at hm
  refine lv_aload_n hx hb dX4_simple_84 rfl (lv_at hl 0 rfl) ?_
  refine cg_X4_19 C hw dX4_simple_85 ?_
  refine lv_bipush (v := 68) hx hb dX4_simple_88 (by decide) ?_
  obtain ⟨⟨r1, F1, G1⟩, hc, hm⟩ := bind_elim hm
  refine ccallV (n := 1) (As := [.int 68]) (rest := []) C hw (ck_X1_add l v a _ _ fu 68 F G r1 F1 G1 hc) (cn_X1_add fu 68 F G _ hc) (Nat.sub_le_sub_right (cn_X4_simple_93 fu F1 G1 hm) _) (crecv_X1 C hw) cm_687 cm_453 cm_454 cm_369 cm_455 (by decide +kernel) rfl (by omega) (by omega) hl.1 rfl (Nat.le_of_ble_eq_true rfl) dX4_simple_90 (fun b H locs hw => ?_)
  exact cw_X4_simple_93 fu C hret F1 G1 hm hw (lv_sub hl [] rfl)
theorem cn_X4_simple_75 (fu : Nat) {res : Int32 × PF × PG} (x1 : Int32) (x3 : Int32) (F : PF) (G : PG) (hm : cb_X4_simple_75 fu x1 x3 F G = some res) : xn F ≤ xn res.2.1 := by
  unfold cb_X4_simple_75 at hm
  obtain ⟨⟨r1, F1, G1⟩, hc, hm⟩ := bind_elim hm
  exact Nat.le_trans (cn_X3_call fu x3 x1 F G _ hc) (cn_X4_simple_84 fu F1 G1 hm)
theorem cw_X4_simple_75 (fu : Nat) {res : Int32 × PF × PG} (C : cMC p R s m args c A v RX4 cX4_simple 6 303 18078 (xn res.2.1 - xn K0)) (hret : ∀ (b1 : Nat) (H1 : Heap) (locs1 : List Loc) (ls1 : Array Slot) (pc : Nat), cMW s A v a b1 K0 res.2.1 res.2.2 H1 locs1 → decode cX4_simple pc = .ok (.return_, 1) → W p l e R s m args below meth c H1 locs1 (xn res.2.1 - xn K0) (2 * (xn res.2.1 - xn K0)) Q (F0 m pc ls1 [])) (x1 : Int32) (x3 : Int32) (F : PF) (G : PG) (hm : cb_X4_simple_75 fu x1 x3 F G = some res) {b : Nat} {H : Heap} {locs : List Loc} (hw : cMW s A v a b K0 F G H locs) {ls : Array Slot} (hl : lv_has ls 6 [(0, .ref (a 204)), (1, .int x1), (3, .int x3)]) : W p l e R s m args below meth c H locs (xn F - xn K0) (2 * (xn F - xn K0)) Q (F0 m 75 ls []) := by
  have hx := C.1
  have hb := C.2.1
  unfold cb_X4_simple_75 at hm
  refine lv_aload_n hx hb dX4_simple_75 rfl (lv_at hl 0 rfl) ?_
  refine cg_X4_27 C hw dX4_simple_76 ?_
  refine lv_iload_n hx hb dX4_simple_79 rfl (lv_at hl 2 rfl) ?_
  refine lv_iload_n hx hb dX4_simple_80 rfl (lv_at hl 1 rfl) ?_
  obtain ⟨⟨r1, F1, G1⟩, hc, hm⟩ := bind_elim hm
  refine ccallV (n := 2) (As := [.int x3, .int x1]) (rest := []) C hw (ck_X3_call l v a _ _ fu x3 x1 F G r1 F1 G1 hc) (cn_X3_call fu x3 x1 F G _ hc) (Nat.sub_le_sub_right (cn_X4_simple_84 fu F1 G1 hm) _) (crecv_X3 C hw) cm_702 cm_498 cm_499 cm_301 cm_383 (by decide +kernel) rfl (by omega) (by omega) hl.1 rfl (Nat.le_of_ble_eq_true rfl) dX4_simple_81 (fun b H locs hw => ?_)
  exact cw_X4_simple_84 fu C hret F1 G1 hm hw (lv_sub hl [0] rfl)
theorem cn_X4_simple_63 (fu : Nat) {res : Int32 × PF × PG} (x1 : Int32) (x3 : Int32) (F : PF) (G : PG) (hm : cb_X4_simple_63 fu x1 x3 F G = some res) : xn F ≤ xn res.2.1 := by
  unfold cb_X4_simple_63 at hm
  by_cases c_1 : (F 11) = (19 : Int32)
  · have hm := (if_pos c_1).symm.trans hm
    exact (cn_X4_simple_75 fu x1 x3 F G hm)
  · have hm := (if_neg c_1).symm.trans hm
    exact (cn_X4_simple_94 fu x3 F G hm)
theorem cw_X4_simple_63 (fu : Nat) {res : Int32 × PF × PG} (C : cMC p R s m args c A v RX4 cX4_simple 6 303 18078 (xn res.2.1 - xn K0)) (hret : ∀ (b1 : Nat) (H1 : Heap) (locs1 : List Loc) (ls1 : Array Slot) (pc : Nat), cMW s A v a b1 K0 res.2.1 res.2.2 H1 locs1 → decode cX4_simple pc = .ok (.return_, 1) → W p l e R s m args below meth c H1 locs1 (xn res.2.1 - xn K0) (2 * (xn res.2.1 - xn K0)) Q (F0 m pc ls1 [])) (x1 : Int32) (x3 : Int32) (F : PF) (G : PG) (hm : cb_X4_simple_63 fu x1 x3 F G = some res) {b : Nat} {H : Heap} {locs : List Loc} (hw : cMW s A v a b K0 F G H locs) {ls : Array Slot} (hl : lv_has ls 6 [(0, .ref (a 204)), (1, .int x1), (3, .int x3)]) : W p l e R s m args below meth c H locs (xn F - xn K0) (2 * (xn F - xn K0)) Q (F0 m 63 ls []) := by
  have hx := C.1
  have hb := C.2.1
  unfold cb_X4_simple_63 at hm
  refine lv_aload_n hx hb dX4_simple_63 rfl (lv_at hl 0 rfl) ?_
  refine cg_X4_9 C hw dX4_simple_64 ?_
  refine cg_X4_52 C hw dX4_simple_67 ?_
  refine lv_bipush (v := 19) hx hb dX4_simple_70 (by decide) ?_
  refine lv_icmp_ne (tgt := 94) hx hb dX4_simple_72 (by decide) (fun c_1 => ?_) (fun c_1 => ?_)
  · have hm := (if_neg c_1).symm.trans hm
    exact cw_X4_simple_94 fu C hret x3 F G hm hw (lv_sub hl [0, 2] rfl)
  · have hm := (if_pos c_1).symm.trans hm
    exact cw_X4_simple_75 fu C hret x1 x3 F G hm hw (lv_sub hl [0, 1, 2] rfl)
theorem cn_X4_simple_46 (fu : Nat) {res : Int32 × PF × PG} (x1 : Int32) (z0 : Int32) (F : PF) (G : PG) (hm : cb_X4_simple_46 fu x1 z0 F G = some res) : xn F ≤ xn res.2.1 := by
  unfold cb_X4_simple_46 at hm
  obtain ⟨⟨r1, F1, G1⟩, hc, hm⟩ := bind_elim hm
  exact Nat.le_trans (cn_X5_wantPlace fu z0 x1 (F 11) F G _ hc) (cn_X4_simple_63 fu x1 z0 F1 G1 hm)
theorem cw_X4_simple_46 (fu : Nat) {res : Int32 × PF × PG} (C : cMC p R s m args c A v RX4 cX4_simple 6 303 18078 (xn res.2.1 - xn K0)) (hret : ∀ (b1 : Nat) (H1 : Heap) (locs1 : List Loc) (ls1 : Array Slot) (pc : Nat), cMW s A v a b1 K0 res.2.1 res.2.2 H1 locs1 → decode cX4_simple pc = .ok (.return_, 1) → W p l e R s m args below meth c H1 locs1 (xn res.2.1 - xn K0) (2 * (xn res.2.1 - xn K0)) Q (F0 m pc ls1 [])) (x1 : Int32) (z0 : Int32) (F : PF) (G : PG) (hm : cb_X4_simple_46 fu x1 z0 F G = some res) {b : Nat} {H : Heap} {locs : List Loc} (hw : cMW s A v a b K0 F G H locs) {ls : Array Slot} (hl : lv_has ls 6 [(0, .ref (a 204)), (1, .int x1)]) : W p l e R s m args below meth c H locs (xn F - xn K0) (2 * (xn F - xn K0)) Q (F0 m 46 ls [.int z0]) := by
  have hx := C.1
  have hb := C.2.1
  unfold cb_X4_simple_46 at hm
  refine lv_istore_n (lv' := [(3, .int z0), (0, .ref (a 204)), (1, .int x1)]) hx hb dX4_simple_46 rfl hl (by decide) rfl (fun ls hl => ?_)
  refine lv_aload_n hx hb dX4_simple_47 rfl (lv_at hl 1 rfl) ?_
  refine cg_X4_15 C hw dX4_simple_48 ?_
  refine lv_iload_n hx hb dX4_simple_51 rfl (lv_at hl 0 rfl) ?_
  refine lv_iload_n hx hb dX4_simple_52 rfl (lv_at hl 2 rfl) ?_
  refine lv_aload_n hx hb dX4_simple_53 rfl (lv_at hl 1 rfl) ?_
  refine cg_X4_9 C hw dX4_simple_54 ?_
  refine cg_X4_52 C hw dX4_simple_57 ?_
  obtain ⟨⟨r1, F1, G1⟩, hc, hm⟩ := bind_elim hm
  refine ccallV (n := 3) (As := [.int z0, .int x1, .int (F 11)]) (rest := []) C hw (ck_X5_wantPlace l v a _ _ fu z0 x1 (F 11) F G r1 F1 G1 hc) (cn_X5_wantPlace fu z0 x1 (F 11) F G _ hc) (Nat.sub_le_sub_right (cn_X4_simple_63 fu x1 z0 F1 G1 hm) _) (crecv_X5 C hw) cm_698 cm_699 cm_700 cm_266 cm_701 (by decide +kernel) rfl (by omega) (by omega) hl.1 rfl (Nat.le_of_ble_eq_true rfl) dX4_simple_60 (fun b H locs hw => ?_)
  exact cw_X4_simple_63 fu C hret x1 z0 F1 G1 hm hw (lv_sub hl [1, 2, 0] rfl)
theorem cn_X4_simple_37 (fu : Nat) {res : Int32 × PF × PG} (x1 : Int32) (x2 : Int32) (F : PF) (G : PG) (hm : cb_X4_simple_37 fu x1 x2 F G = some res) : xn F ≤ xn res.2.1 := by
  unfold cb_X4_simple_37 at hm
  obtain ⟨⟨r1, F1, G1⟩, hc, hm⟩ := bind_elim hm
  exact Nat.le_trans (cn_X5_meant fu x2 x1 F G _ hc) (cn_X4_simple_46 fu x1 r1 F1 G1 hm)
theorem cw_X4_simple_37 (fu : Nat) {res : Int32 × PF × PG} (C : cMC p R s m args c A v RX4 cX4_simple 6 303 18078 (xn res.2.1 - xn K0)) (hret : ∀ (b1 : Nat) (H1 : Heap) (locs1 : List Loc) (ls1 : Array Slot) (pc : Nat), cMW s A v a b1 K0 res.2.1 res.2.2 H1 locs1 → decode cX4_simple pc = .ok (.return_, 1) → W p l e R s m args below meth c H1 locs1 (xn res.2.1 - xn K0) (2 * (xn res.2.1 - xn K0)) Q (F0 m pc ls1 [])) (x1 : Int32) (x2 : Int32) (F : PF) (G : PG) (hm : cb_X4_simple_37 fu x1 x2 F G = some res) {b : Nat} {H : Heap} {locs : List Loc} (hw : cMW s A v a b K0 F G H locs) {ls : Array Slot} (hl : lv_has ls 6 [(0, .ref (a 204)), (1, .int x1), (2, .int x2)]) : W p l e R s m args below meth c H locs (xn F - xn K0) (2 * (xn F - xn K0)) Q (F0 m 37 ls []) := by
  have hx := C.1
  have hb := C.2.1
  unfold cb_X4_simple_37 at hm
  refine lv_aload_n hx hb dX4_simple_37 rfl (lv_at hl 0 rfl) ?_
  refine cg_X4_15 C hw dX4_simple_38 ?_
  refine lv_iload_n hx hb dX4_simple_41 rfl (lv_at hl 2 rfl) ?_
  refine lv_iload_n hx hb dX4_simple_42 rfl (lv_at hl 1 rfl) ?_
  obtain ⟨⟨r1, F1, G1⟩, hc, hm⟩ := bind_elim hm
  refine ccallI (n := 2) (As := [.int x2, .int x1]) (rest := []) C hw (ck_X5_meant l v a _ _ fu x2 x1 F G r1 F1 G1 hc) (cn_X5_meant fu x2 x1 F G _ hc) (Nat.sub_le_sub_right (cn_X4_simple_46 fu x1 r1 F1 G1 hm) _) (crecv_X5 C hw) cm_697 cm_417 cm_418 cm_266 cm_419 (by decide +kernel) rfl (by omega) (by omega) hl.1 rfl (Nat.le_of_ble_eq_true rfl) dX4_simple_43 (fun b H locs hw => ?_)
  exact cw_X4_simple_46 fu C hret x1 r1 F1 G1 hm hw (lv_sub hl [0, 1] rfl)
theorem cn_X4_simple_36 (fu : Nat) {res : Int32 × PF × PG} (F : PF) (G : PG) (hm : cb_X4_simple_36 fu F G = some res) : xn F ≤ xn res.2.1 := by
  unfold cb_X4_simple_36 at hm
  obtain rfl := Option.some.inj hm
  exact Nat.le_refl _
theorem cw_X4_simple_36 (fu : Nat) {res : Int32 × PF × PG} (C : cMC p R s m args c A v RX4 cX4_simple 6 303 18078 (xn res.2.1 - xn K0)) (hret : ∀ (b1 : Nat) (H1 : Heap) (locs1 : List Loc) (ls1 : Array Slot) (pc : Nat), cMW s A v a b1 K0 res.2.1 res.2.2 H1 locs1 → decode cX4_simple pc = .ok (.return_, 1) → W p l e R s m args below meth c H1 locs1 (xn res.2.1 - xn K0) (2 * (xn res.2.1 - xn K0)) Q (F0 m pc ls1 [])) (F : PF) (G : PG) (hm : cb_X4_simple_36 fu F G = some res) {b : Nat} {H : Heap} {locs : List Loc} (hw : cMW s A v a b K0 F G H locs) {ls : Array Slot} (hl : lv_has ls 6 []) : W p l e R s m args below meth c H locs (xn F - xn K0) (2 * (xn F - xn K0)) Q (F0 m 36 ls []) := by
  have hx := C.1
  have hb := C.2.1
  unfold cb_X4_simple_36 at hm
  obtain rfl := Option.some.inj hm
  exact hret _ _ _ _ _ hw dX4_simple_36
theorem cn_X4_simple_24 (fu : Nat) {res : Int32 × PF × PG} (x1 : Int32) (x2 : Int32) (F : PF) (G : PG) (hm : cb_X4_simple_24 fu x1 x2 F G = some res) : xn F ≤ xn res.2.1 := by
  unfold cb_X4_simple_24 at hm
  by_cases c_1 : (F 11) = (-2 : Int32)
  · have hm := (if_pos c_1).symm.trans hm
    exact (cn_X4_simple_36 fu F G hm)
  · have hm := (if_neg c_1).symm.trans hm
    exact (cn_X4_simple_37 fu x1 x2 F G hm)
theorem cw_X4_simple_24 (fu : Nat) {res : Int32 × PF × PG} (C : cMC p R s m args c A v RX4 cX4_simple 6 303 18078 (xn res.2.1 - xn K0)) (hret : ∀ (b1 : Nat) (H1 : Heap) (locs1 : List Loc) (ls1 : Array Slot) (pc : Nat), cMW s A v a b1 K0 res.2.1 res.2.2 H1 locs1 → decode cX4_simple pc = .ok (.return_, 1) → W p l e R s m args below meth c H1 locs1 (xn res.2.1 - xn K0) (2 * (xn res.2.1 - xn K0)) Q (F0 m pc ls1 [])) (x1 : Int32) (x2 : Int32) (F : PF) (G : PG) (hm : cb_X4_simple_24 fu x1 x2 F G = some res) {b : Nat} {H : Heap} {locs : List Loc} (hw : cMW s A v a b K0 F G H locs) {ls : Array Slot} (hl : lv_has ls 6 [(0, .ref (a 204)), (1, .int x1), (2, .int x2)]) : W p l e R s m args below meth c H locs (xn F - xn K0) (2 * (xn F - xn K0)) Q (F0 m 24 ls []) := by
  have hx := C.1
  have hb := C.2.1
  unfold cb_X4_simple_24 at hm
  refine lv_aload_n hx hb dX4_simple_24 rfl (lv_at hl 0 rfl) ?_
  refine cg_X4_9 C hw dX4_simple_25 ?_
  refine cg_X4_52 C hw dX4_simple_28 ?_
  refine lv_bipush (v := (-2)) hx hb dX4_simple_31 (by decide) ?_
  refine lv_icmp_ne (tgt := 37) hx hb dX4_simple_33 (by decide) (fun c_1 => ?_) (fun c_1 => ?_)
  · have hm := (if_neg c_1).symm.trans hm
    exact cw_X4_simple_37 fu C hret x1 x2 F G hm hw (lv_sub hl [0, 1, 2] rfl)
  · have hm := (if_pos c_1).symm.trans hm
    exact cw_X4_simple_36 fu C hret F G hm hw (lv_sub hl [] rfl)
theorem cn_X4_simple_0 (fu : Nat) {res : Int32 × PF × PG} (F : PF) (G : PG) (hm : cb_X4_simple_0 fu F G = some res) : xn F ≤ xn res.2.1 := by
  unfold cb_X4_simple_0 at hm
  obtain ⟨⟨r1, F1, G1⟩, hc, hm⟩ := bind_elim hm
  exact Nat.le_trans (cn_X2_expect fu 2 F G _ hc) (cn_X4_simple_24 fu (F 13) (F 12) F1 G1 hm)
theorem cw_X4_simple_0 (fu : Nat) {res : Int32 × PF × PG} (C : cMC p R s m args c A v RX4 cX4_simple 6 303 18078 (xn res.2.1 - xn K0)) (hret : ∀ (b1 : Nat) (H1 : Heap) (locs1 : List Loc) (ls1 : Array Slot) (pc : Nat), cMW s A v a b1 K0 res.2.1 res.2.2 H1 locs1 → decode cX4_simple pc = .ok (.return_, 1) → W p l e R s m args below meth c H1 locs1 (xn res.2.1 - xn K0) (2 * (xn res.2.1 - xn K0)) Q (F0 m pc ls1 [])) (F : PF) (G : PG) (hm : cb_X4_simple_0 fu F G = some res) {b : Nat} {H : Heap} {locs : List Loc} (hw : cMW s A v a b K0 F G H locs) {ls : Array Slot} (hl : lv_has ls 6 [(0, .ref (a 204))]) : W p l e R s m args below meth c H locs (xn F - xn K0) (2 * (xn F - xn K0)) Q (F0 m 0 ls []) := by
  have hx := C.1
  have hb := C.2.1
  unfold cb_X4_simple_0 at hm
  refine lv_aload_n hx hb dX4_simple_0 rfl (lv_at hl 0 rfl) ?_
  refine cg_X4_9 C hw dX4_simple_1 ?_
  refine cg_X4_67 C hw dX4_simple_4 ?_
  refine lv_istore_n (lv' := [(1, .int (F 13)), (0, .ref (a 204))]) hx hb dX4_simple_7 rfl hl (by decide) rfl (fun ls hl => ?_)
  refine lv_aload_n hx hb dX4_simple_8 rfl (lv_at hl 1 rfl) ?_
  refine cg_X4_9 C hw dX4_simple_9 ?_
  refine cg_X4_64 C hw dX4_simple_12 ?_
  refine lv_istore_n (lv' := [(2, .int (F 12)), (1, .int (F 13)), (0, .ref (a 204))]) hx hb dX4_simple_15 rfl hl (by decide) rfl (fun ls hl => ?_)
  refine lv_aload_n hx hb dX4_simple_16 rfl (lv_at hl 2 rfl) ?_
  refine cg_X4_9 C hw dX4_simple_17 ?_
  refine lv_iconst (v := 2) hx hb dX4_simple_20 (by decide) ?_
  obtain ⟨⟨r1, F1, G1⟩, hc, hm⟩ := bind_elim hm
  refine ccallV (n := 1) (As := [.int 2]) (rest := []) C hw (ck_X2_expect l v a _ _ fu 2 F G r1 F1 G1 hc) (cn_X2_expect fu 2 F G _ hc) (Nat.sub_le_sub_right (cn_X4_simple_24 fu (F 13) (F 12) F1 G1 hm) _) (crecv_X2 C hw) cm_332 cm_333 cm_334 cm_307 cm_335 (by decide +kernel) rfl (by omega) (by omega) hl.1 rfl (Nat.le_of_ble_eq_true rfl) dX4_simple_21 (fun b H locs hw => ?_)
  exact cw_X4_simple_24 fu C hret (F 13) (F 12) F1 G1 hm hw (lv_sub hl [2, 1, 0] rfl)
theorem cn_X4_simple (fu : Nat) (F : PF) (G : PG) (q : Int32 × PF × PG) (hm : cf_X4_simple fu F G = some q) : xn F ≤ xn q.2.1 := cn_X4_simple_0 fu F G hm
theorem ck_X4_simple (l : Launch) (v : EV) (a : Nat → Nat) (b sz : Nat) (fu : Nat) (F : PF) (G : PG) (r : Int32) (F1 : PF) (G1 : PG) (hm : cf_X4_simple fu F G = some (r, F1, G1)) : cMV l yX4_simple cX4_simple 6 303 18078 v a b sz [.ref (a 204)] F G F1 G1 := cMV.of (by decide) (Nat.le_of_ble_eq_true rfl) (fun p e R s m args below meth c Q A H locs ls C hw hl hret => cw_X4_simple_0 fu (res := (r, F1, G1)) C hret F G hm hw hl)
def cH2 (l : Launch) (v : EV) (a : Nat → Nat) (rc : RC) (dd : Nat) : Prop := (∀ (b sz : Nat) (F : PF) (G : PG) (r : Int32) (F1 : PF) (G1 : PG), rc 0 0 0 F G = some (r, F1, G1) → cMV l yX4_block cX4_block 2 (dd + 305) (60 * dd + 18119) v a b sz [.ref (a 204)] F G F1 G1) ∧ (∀ (b sz : Nat) (F : PF) (G : PG) (r : Int32) (F1 : PF) (G1 : PG), rc 1 0 0 F G = some (r, F1, G1) → cMV l yX4_doStatement cX4_doStatement 4 (dd + 305) (60 * dd + 18119) v a b sz [.ref (a 204)] F G F1 G1) ∧ (∀ (b sz : Nat) (F : PF) (G : PG) (r : Int32) (F1 : PF) (G1 : PG), rc 2 0 0 F G = some (r, F1, G1) → cMV l yX4_forStatement cX4_forStatement 8 (dd + 305) (60 * dd + 18119) v a b sz [.ref (a 204)] F G F1 G1) ∧ (∀ (b sz : Nat) (F : PF) (G : PG) (r : Int32) (F1 : PF) (G1 : PG), rc 3 0 0 F G = some (r, F1, G1) → cMV l yX4_ifStatement cX4_ifStatement 3 (dd + 305) (60 * dd + 18119) v a b sz [.ref (a 204)] F G F1 G1) ∧ (∀ (b sz : Nat) (F : PF) (G : PG) (r : Int32) (F1 : PF) (G1 : PG), rc 4 0 0 F G = some (r, F1, G1) → cMV l yX4_inner cX4_inner 1 (dd + 305) (60 * dd + 18119) v a b sz [.ref (a 204)] F G F1 G1) ∧ (∀ (b sz : Nat) (F : PF) (G : PG) (r : Int32) (F1 : PF) (G1 : PG), rc 5 0 0 F G = some (r, F1, G1) → cMV l yX4_loopBody cX4_loopBody 1 (dd + 305) (60 * dd + 18119) v a b sz [.ref (a 204)] F G F1 G1) ∧ (∀ (b sz : Nat) (F : PF) (G : PG) (r : Int32) (F1 : PF) (G1 : PG), rc 6 0 0 F G = some (r, F1, G1) → cMV l yX4_statement cX4_statement 1 (dd + 305) (60 * dd + 18119) v a b sz [.ref (a 204)] F G F1 G1) ∧ (∀ (b sz : Nat) (F : PF) (G : PG) (r : Int32) (F1 : PF) (G1 : PG), rc 7 0 0 F G = some (r, F1, G1) → cMV l yX4_whileStatement cX4_whileStatement 5 (dd + 305) (60 * dd + 18119) v a b sz [.ref (a 204)] F G F1 G1)
def cb_X4_block_65 (fu : Nat) (rc : RC) (F : PF) (G : PG) : PR := some (0, F, G)
def cb_X4_block_56 (fu : Nat) (rc : RC) (F : PF) (G : PG) : PR := (cf_X2_closesWith fu 24 F G).bind (fun q => cb_X4_block_65 fu rc q.2.1 q.2.2)
def cb_X4_block_50 (fu : Nat) (rc : RC) (ag_15 : Int32 → PF → PG → PR) (x1 : Int32) (F : PF) (G : PG) : PR := ag_15 (x1 + 1) F G
def cb_X4_block_46 (fu : Nat) (rc : RC) (ag_15 : Int32 → PF → PG → PR) (x1 : Int32) (F : PF) (G : PG) : PR := (rc 6 0 0 F G).bind (fun q => cb_X4_block_50 fu rc ag_15 x1 q.2.1 q.2.2)
def cb_X4_block_34 (fu : Nat) (rc : RC) (ag_15 : Int32 → PF → PG → PR) (x1 : Int32) (F : PF) (G : PG) : PR := if (F 11) = (-2 : Int32) then cb_X4_block_56 fu rc F G else cb_X4_block_46 fu rc ag_15 x1 F G
def cb_X4_block_22 (fu : Nat) (rc : RC) (ag_15 : Int32 → PF → PG → PR) (x1 : Int32) (F : PF) (G : PG) : PR := if (F 11) = (24 : Int32) then cb_X4_block_56 fu rc F G else cb_X4_block_34 fu rc ag_15 x1 F G
def cb_X4_block_15 (fu : Nat) (rc : RC) (ag_15 : Int32 → PF → PG → PR) (x1 : Int32) (F : PF) (G : PG) : PR := if (4001 : Int32) ≤ x1 then cb_X4_block_56 fu rc F G else cb_X4_block_22 fu rc ag_15 x1 F G
def cl_X4_block_15 (fu : Nat) (rc : RC) : Nat → Int32 → PF → PG → PR
  | 0 => fun _ _ _ => none
  | n + 1 => fun x1 F G => cb_X4_block_15 fu rc (cl_X4_block_15 fu rc n) x1 F G
def cb_X4_block_13 (fu : Nat) (rc : RC) (F : PF) (G : PG) : PR := cl_X4_block_15 fu rc fu 0 F G
def cb_X4_block_12 (fu : Nat) (rc : RC) (F : PF) (G : PG) : PR := some (0, F, G)
def cb_X4_block_9 (fu : Nat) (rc : RC) (z0 : Int32) (F : PF) (G : PG) : PR := if z0 = (0 : Int32) then cb_X4_block_12 fu rc F G else cb_X4_block_13 fu rc F G
def cb_X4_block_0 (fu : Nat) (rc : RC) (F : PF) (G : PG) : PR := (cf_X2_opens fu 23 F G).bind (fun q => cb_X4_block_9 fu rc q.1 q.2.1 q.2.2)
def ch_X4_block (fu : Nat) (rc : RC) (F : PF) (G : PG) : PR := cb_X4_block_0 fu rc F G
theorem cn_X4_block_65 (fu : Nat) (rc : RC) (hrn : ∀ (i : Nat) (x y : Int32) (F : PF) (G : PG) (q : Int32 × PF × PG), rc i x y F G = some q → xn F ≤ xn q.2.1) {res : Int32 × PF × PG} (F : PF) (G : PG) (hm : cb_X4_block_65 fu rc F G = some res) : xn F ≤ xn res.2.1 := by
  unfold cb_X4_block_65 at hm
  obtain rfl := Option.some.inj hm
  exact Nat.le_refl _
theorem cw_X4_block_65 (fu : Nat) (rc : RC) {dd : Nat} (hr : cH2 l v a rc dd) (hrn : ∀ (i : Nat) (x y : Int32) (F : PF) (G : PG) (q : Int32 × PF × PG), rc i x y F G = some q → xn F ≤ xn q.2.1) {res : Int32 × PF × PG} (C : cMC p R s m args c A v RX4 cX4_block 2 (dd + 1 + 305) (60 * (dd + 1) + 18119) (xn res.2.1 - xn K0)) (hret : ∀ (b1 : Nat) (H1 : Heap) (locs1 : List Loc) (ls1 : Array Slot) (pc : Nat), cMW s A v a b1 K0 res.2.1 res.2.2 H1 locs1 → decode cX4_block pc = .ok (.return_, 1) → W p l e R s m args below meth c H1 locs1 (xn res.2.1 - xn K0) (2 * (xn res.2.1 - xn K0)) Q (F0 m pc ls1 [])) (F : PF) (G : PG) (hm : cb_X4_block_65 fu rc F G = some res) {b : Nat} {H : Heap} {locs : List Loc} (hw : cMW s A v a b K0 F G H locs) {ls : Array Slot} (hl : lv_has ls 2 []) : W p l e R s m args below meth c H locs (xn F - xn K0) (2 * (xn F - xn K0)) Q (F0 m 65 ls []) := by
  have hx := C.1
  have hb := C.2.1
  unfold cb_X4_block_65 at hm
  obtain rfl := Option.some.inj hm
  exact hret _ _ _ _ _ hw dX4_block_65
theorem cn_X4_block_56 (fu : Nat) (rc : RC) (hrn : ∀ (i : Nat) (x y : Int32) (F : PF) (G : PG) (q : Int32 × PF × PG), rc i x y F G = some q → xn F ≤ xn q.2.1) {res : Int32 × PF × PG} (F : PF) (G : PG) (hm : cb_X4_block_56 fu rc F G = some res) : xn F ≤ xn res.2.1 := by
  unfold cb_X4_block_56 at hm
  obtain ⟨⟨r1, F1, G1⟩, hc, hm⟩ := bind_elim hm
  exact Nat.le_trans (cn_X2_closesWith fu 24 F G _ hc) (cn_X4_block_65 fu rc hrn F1 G1 hm)
theorem cw_X4_block_56 (fu : Nat) (rc : RC) {dd : Nat} (hr : cH2 l v a rc dd) (hrn : ∀ (i : Nat) (x y : Int32) (F : PF) (G : PG) (q : Int32 × PF × PG), rc i x y F G = some q → xn F ≤ xn q.2.1) {res : Int32 × PF × PG} (C : cMC p R s m args c A v RX4 cX4_block 2 (dd + 1 + 305) (60 * (dd + 1) + 18119) (xn res.2.1 - xn K0)) (hret : ∀ (b1 : Nat) (H1 : Heap) (locs1 : List Loc) (ls1 : Array Slot) (pc : Nat), cMW s A v a b1 K0 res.2.1 res.2.2 H1 locs1 → decode cX4_block pc = .ok (.return_, 1) → W p l e R s m args below meth c H1 locs1 (xn res.2.1 - xn K0) (2 * (xn res.2.1 - xn K0)) Q (F0 m pc ls1 [])) (F : PF) (G : PG) (hm : cb_X4_block_56 fu rc F G = some res) {b : Nat} {H : Heap} {locs : List Loc} (hw : cMW s A v a b K0 F G H locs) {ls : Array Slot} (hl : lv_has ls 2 [(0, .ref (a 204))]) : W p l e R s m args below meth c H locs (xn F - xn K0) (2 * (xn F - xn K0)) Q (F0 m 56 ls []) := by
  have hx := C.1
  have hb := C.2.1
  unfold cb_X4_block_56 at hm
  refine lv_aload_n hx hb dX4_block_56 rfl (lv_at hl 0 rfl) ?_
  refine cg_X4_9 C hw dX4_block_57 ?_
  refine lv_bipush (v := 24) hx hb dX4_block_60 (by decide) ?_
  obtain ⟨⟨r1, F1, G1⟩, hc, hm⟩ := bind_elim hm
  refine ccallV (n := 1) (As := [.int 24]) (rest := []) C hw (ck_X2_closesWith l v a _ _ fu 24 F G r1 F1 G1 hc) (cn_X2_closesWith fu 24 F G _ hc) (Nat.sub_le_sub_right (cn_X4_block_65 fu rc hrn F1 G1 hm) _) (crecv_X2 C hw) cm_629 cm_459 cm_460 cm_307 cm_461 (by decide +kernel) rfl (by omega) (by omega) hl.1 rfl (Nat.le_of_ble_eq_true rfl) dX4_block_62 (fun b H locs hw => ?_)
  exact cw_X4_block_65 fu rc hr hrn C hret F1 G1 hm hw (lv_sub hl [] rfl)
theorem cn_X4_block_50 (fu : Nat) (rc : RC) (hrn : ∀ (i : Nat) (x y : Int32) (F : PF) (G : PG) (q : Int32 × PF × PG), rc i x y F G = some q → xn F ≤ xn q.2.1) {res : Int32 × PF × PG} (ag_15 : Int32 → PF → PG → PR) (hagn_15 : ∀ (x1 : Int32) (F : PF) (G : PG), ag_15 x1 F G = some res → xn F ≤ xn res.2.1) (x1 : Int32) (F : PF) (G : PG) (hm : cb_X4_block_50 fu rc ag_15 x1 F G = some res) : xn F ≤ xn res.2.1 := by
  unfold cb_X4_block_50 at hm
  exact (hagn_15 (x1 + 1) F G hm)
theorem cw_X4_block_50 (fu : Nat) (rc : RC) {dd : Nat} (hr : cH2 l v a rc dd) (hrn : ∀ (i : Nat) (x y : Int32) (F : PF) (G : PG) (q : Int32 × PF × PG), rc i x y F G = some q → xn F ≤ xn q.2.1) {res : Int32 × PF × PG} (C : cMC p R s m args c A v RX4 cX4_block 2 (dd + 1 + 305) (60 * (dd + 1) + 18119) (xn res.2.1 - xn K0)) (hret : ∀ (b1 : Nat) (H1 : Heap) (locs1 : List Loc) (ls1 : Array Slot) (pc : Nat), cMW s A v a b1 K0 res.2.1 res.2.2 H1 locs1 → decode cX4_block pc = .ok (.return_, 1) → W p l e R s m args below meth c H1 locs1 (xn res.2.1 - xn K0) (2 * (xn res.2.1 - xn K0)) Q (F0 m pc ls1 [])) (ag_15 : Int32 → PF → PG → PR) (hag_15 : ∀ (x1 : Int32) (F : PF) (G : PG), ag_15 x1 F G = some res → ∀ (b : Nat) (H : Heap) (locs : List Loc) (ls : Array Slot), cMW s A v a b K0 F G H locs → lv_has ls 2 [(0, .ref (a 204)), (1, .int x1)] → W p l e R s m args below meth c H locs (xn F - xn K0) (2 * (xn F - xn K0)) Q (F0 m 15 ls [])) (hagn_15 : ∀ (x1 : Int32) (F : PF) (G : PG), ag_15 x1 F G = some res → xn F ≤ xn res.2.1) (x1 : Int32) (F : PF) (G : PG) (hm : cb_X4_block_50 fu rc ag_15 x1 F G = some res) {b : Nat} {H : Heap} {locs : List Loc} (hw : cMW s A v a b K0 F G H locs) {ls : Array Slot} (hl : lv_has ls 2 [(0, .ref (a 204)), (1, .int x1)]) : W p l e R s m args below meth c H locs (xn F - xn K0) (2 * (xn F - xn K0)) Q (F0 m 50 ls []) := by
  have hx := C.1
  have hb := C.2.1
  unfold cb_X4_block_50 at hm
  refine lv_iinc (v := (x1 + 1)) (lv' := [(1, .int (x1 + 1)), (0, .ref (a 204))]) hx hb dX4_block_50 hl (k := 1) rfl (by rfl) (by decide) rfl (fun ls hl => ?_)
  refine lv_goto (tgt := 15) hx hb dX4_block_53 (by decide) ?_
  exact hag_15 (x1 + 1) F G hm _ _ _ _ hw (lv_sub hl [1, 0] rfl)
theorem cn_X4_block_46 (fu : Nat) (rc : RC) (hrn : ∀ (i : Nat) (x y : Int32) (F : PF) (G : PG) (q : Int32 × PF × PG), rc i x y F G = some q → xn F ≤ xn q.2.1) {res : Int32 × PF × PG} (ag_15 : Int32 → PF → PG → PR) (hagn_15 : ∀ (x1 : Int32) (F : PF) (G : PG), ag_15 x1 F G = some res → xn F ≤ xn res.2.1) (x1 : Int32) (F : PF) (G : PG) (hm : cb_X4_block_46 fu rc ag_15 x1 F G = some res) : xn F ≤ xn res.2.1 := by
  unfold cb_X4_block_46 at hm
  obtain ⟨⟨r1, F1, G1⟩, hc, hm⟩ := bind_elim hm
  exact Nat.le_trans (hrn _ _ _ _ _ _ hc) (cn_X4_block_50 fu rc hrn ag_15 hagn_15 x1 F1 G1 hm)
theorem cw_X4_block_46 (fu : Nat) (rc : RC) {dd : Nat} (hr : cH2 l v a rc dd) (hrn : ∀ (i : Nat) (x y : Int32) (F : PF) (G : PG) (q : Int32 × PF × PG), rc i x y F G = some q → xn F ≤ xn q.2.1) {res : Int32 × PF × PG} (C : cMC p R s m args c A v RX4 cX4_block 2 (dd + 1 + 305) (60 * (dd + 1) + 18119) (xn res.2.1 - xn K0)) (hret : ∀ (b1 : Nat) (H1 : Heap) (locs1 : List Loc) (ls1 : Array Slot) (pc : Nat), cMW s A v a b1 K0 res.2.1 res.2.2 H1 locs1 → decode cX4_block pc = .ok (.return_, 1) → W p l e R s m args below meth c H1 locs1 (xn res.2.1 - xn K0) (2 * (xn res.2.1 - xn K0)) Q (F0 m pc ls1 [])) (ag_15 : Int32 → PF → PG → PR) (hag_15 : ∀ (x1 : Int32) (F : PF) (G : PG), ag_15 x1 F G = some res → ∀ (b : Nat) (H : Heap) (locs : List Loc) (ls : Array Slot), cMW s A v a b K0 F G H locs → lv_has ls 2 [(0, .ref (a 204)), (1, .int x1)] → W p l e R s m args below meth c H locs (xn F - xn K0) (2 * (xn F - xn K0)) Q (F0 m 15 ls [])) (hagn_15 : ∀ (x1 : Int32) (F : PF) (G : PG), ag_15 x1 F G = some res → xn F ≤ xn res.2.1) (x1 : Int32) (F : PF) (G : PG) (hm : cb_X4_block_46 fu rc ag_15 x1 F G = some res) {b : Nat} {H : Heap} {locs : List Loc} (hw : cMW s A v a b K0 F G H locs) {ls : Array Slot} (hl : lv_has ls 2 [(0, .ref (a 204)), (1, .int x1)]) : W p l e R s m args below meth c H locs (xn F - xn K0) (2 * (xn F - xn K0)) Q (F0 m 46 ls []) := by
  have hx := C.1
  have hb := C.2.1
  unfold cb_X4_block_46 at hm
  refine lv_aload_n hx hb dX4_block_46 rfl (lv_at hl 0 rfl) ?_
  obtain ⟨⟨r1, F1, G1⟩, hc, hm⟩ := bind_elim hm
  refine ccallV (n := 0) (As := []) (rest := []) C hw (hr.2.2.2.2.2.2.1 _ _ F G r1 F1 G1 hc) (hrn _ _ _ _ _ _ hc) (Nat.sub_le_sub_right (cn_X4_block_50 fu rc hrn ag_15 hagn_15 x1 F1 G1 hm) _) (crecv_X4 C hw) cm_647 cm_648 cm_649 cm_244 cm_729 (by decide +kernel) rfl (by omega) (by omega) hl.1 rfl (Nat.le_of_ble_eq_true rfl) dX4_block_47 (fun b H locs hw => ?_)
  exact cw_X4_block_50 fu rc hr hrn C hret ag_15 hag_15 hagn_15 x1 F1 G1 hm hw (lv_sub hl [0, 1] rfl)
theorem cn_X4_block_34 (fu : Nat) (rc : RC) (hrn : ∀ (i : Nat) (x y : Int32) (F : PF) (G : PG) (q : Int32 × PF × PG), rc i x y F G = some q → xn F ≤ xn q.2.1) {res : Int32 × PF × PG} (ag_15 : Int32 → PF → PG → PR) (hagn_15 : ∀ (x1 : Int32) (F : PF) (G : PG), ag_15 x1 F G = some res → xn F ≤ xn res.2.1) (x1 : Int32) (F : PF) (G : PG) (hm : cb_X4_block_34 fu rc ag_15 x1 F G = some res) : xn F ≤ xn res.2.1 := by
  unfold cb_X4_block_34 at hm
  by_cases c_1 : (F 11) = (-2 : Int32)
  · have hm := (if_pos c_1).symm.trans hm
    exact (cn_X4_block_56 fu rc hrn F G hm)
  · have hm := (if_neg c_1).symm.trans hm
    exact (cn_X4_block_46 fu rc hrn ag_15 hagn_15 x1 F G hm)
theorem cw_X4_block_34 (fu : Nat) (rc : RC) {dd : Nat} (hr : cH2 l v a rc dd) (hrn : ∀ (i : Nat) (x y : Int32) (F : PF) (G : PG) (q : Int32 × PF × PG), rc i x y F G = some q → xn F ≤ xn q.2.1) {res : Int32 × PF × PG} (C : cMC p R s m args c A v RX4 cX4_block 2 (dd + 1 + 305) (60 * (dd + 1) + 18119) (xn res.2.1 - xn K0)) (hret : ∀ (b1 : Nat) (H1 : Heap) (locs1 : List Loc) (ls1 : Array Slot) (pc : Nat), cMW s A v a b1 K0 res.2.1 res.2.2 H1 locs1 → decode cX4_block pc = .ok (.return_, 1) → W p l e R s m args below meth c H1 locs1 (xn res.2.1 - xn K0) (2 * (xn res.2.1 - xn K0)) Q (F0 m pc ls1 [])) (ag_15 : Int32 → PF → PG → PR) (hag_15 : ∀ (x1 : Int32) (F : PF) (G : PG), ag_15 x1 F G = some res → ∀ (b : Nat) (H : Heap) (locs : List Loc) (ls : Array Slot), cMW s A v a b K0 F G H locs → lv_has ls 2 [(0, .ref (a 204)), (1, .int x1)] → W p l e R s m args below meth c H locs (xn F - xn K0) (2 * (xn F - xn K0)) Q (F0 m 15 ls [])) (hagn_15 : ∀ (x1 : Int32) (F : PF) (G : PG), ag_15 x1 F G = some res → xn F ≤ xn res.2.1) (x1 : Int32) (F : PF) (G : PG) (hm : cb_X4_block_34 fu rc ag_15 x1 F G = some res) {b : Nat} {H : Heap} {locs : List Loc} (hw : cMW s A v a b K0 F G H locs) {ls : Array Slot} (hl : lv_has ls 2 [(0, .ref (a 204)), (1, .int x1)]) : W p l e R s m args below meth c H locs (xn F - xn K0) (2 * (xn F - xn K0)) Q (F0 m 34 ls []) := by
  have hx := C.1
  have hb := C.2.1
  unfold cb_X4_block_34 at hm
  refine lv_aload_n hx hb dX4_block_34 rfl (lv_at hl 0 rfl) ?_
  refine cg_X4_9 C hw dX4_block_35 ?_
  refine cg_X4_52 C hw dX4_block_38 ?_
  refine lv_bipush (v := (-2)) hx hb dX4_block_41 (by decide) ?_
  refine lv_icmp_eq (tgt := 56) hx hb dX4_block_43 (by decide) (fun c_1 => ?_) (fun c_1 => ?_)
  · have hm := (if_pos c_1).symm.trans hm
    exact cw_X4_block_56 fu rc hr hrn C hret F G hm hw (lv_sub hl [0] rfl)
  · have hm := (if_neg c_1).symm.trans hm
    exact cw_X4_block_46 fu rc hr hrn C hret ag_15 hag_15 hagn_15 x1 F G hm hw (lv_sub hl [0, 1] rfl)
theorem cn_X4_block_22 (fu : Nat) (rc : RC) (hrn : ∀ (i : Nat) (x y : Int32) (F : PF) (G : PG) (q : Int32 × PF × PG), rc i x y F G = some q → xn F ≤ xn q.2.1) {res : Int32 × PF × PG} (ag_15 : Int32 → PF → PG → PR) (hagn_15 : ∀ (x1 : Int32) (F : PF) (G : PG), ag_15 x1 F G = some res → xn F ≤ xn res.2.1) (x1 : Int32) (F : PF) (G : PG) (hm : cb_X4_block_22 fu rc ag_15 x1 F G = some res) : xn F ≤ xn res.2.1 := by
  unfold cb_X4_block_22 at hm
  by_cases c_1 : (F 11) = (24 : Int32)
  · have hm := (if_pos c_1).symm.trans hm
    exact (cn_X4_block_56 fu rc hrn F G hm)
  · have hm := (if_neg c_1).symm.trans hm
    exact (cn_X4_block_34 fu rc hrn ag_15 hagn_15 x1 F G hm)
theorem cw_X4_block_22 (fu : Nat) (rc : RC) {dd : Nat} (hr : cH2 l v a rc dd) (hrn : ∀ (i : Nat) (x y : Int32) (F : PF) (G : PG) (q : Int32 × PF × PG), rc i x y F G = some q → xn F ≤ xn q.2.1) {res : Int32 × PF × PG} (C : cMC p R s m args c A v RX4 cX4_block 2 (dd + 1 + 305) (60 * (dd + 1) + 18119) (xn res.2.1 - xn K0)) (hret : ∀ (b1 : Nat) (H1 : Heap) (locs1 : List Loc) (ls1 : Array Slot) (pc : Nat), cMW s A v a b1 K0 res.2.1 res.2.2 H1 locs1 → decode cX4_block pc = .ok (.return_, 1) → W p l e R s m args below meth c H1 locs1 (xn res.2.1 - xn K0) (2 * (xn res.2.1 - xn K0)) Q (F0 m pc ls1 [])) (ag_15 : Int32 → PF → PG → PR) (hag_15 : ∀ (x1 : Int32) (F : PF) (G : PG), ag_15 x1 F G = some res → ∀ (b : Nat) (H : Heap) (locs : List Loc) (ls : Array Slot), cMW s A v a b K0 F G H locs → lv_has ls 2 [(0, .ref (a 204)), (1, .int x1)] → W p l e R s m args below meth c H locs (xn F - xn K0) (2 * (xn F - xn K0)) Q (F0 m 15 ls [])) (hagn_15 : ∀ (x1 : Int32) (F : PF) (G : PG), ag_15 x1 F G = some res → xn F ≤ xn res.2.1) (x1 : Int32) (F : PF) (G : PG) (hm : cb_X4_block_22 fu rc ag_15 x1 F G = some res) {b : Nat} {H : Heap} {locs : List Loc} (hw : cMW s A v a b K0 F G H locs) {ls : Array Slot} (hl : lv_has ls 2 [(0, .ref (a 204)), (1, .int x1)]) : W p l e R s m args below meth c H locs (xn F - xn K0) (2 * (xn F - xn K0)) Q (F0 m 22 ls []) := by
  have hx := C.1
  have hb := C.2.1
  unfold cb_X4_block_22 at hm
  refine lv_aload_n hx hb dX4_block_22 rfl (lv_at hl 0 rfl) ?_
  refine cg_X4_9 C hw dX4_block_23 ?_
  refine cg_X4_52 C hw dX4_block_26 ?_
  refine lv_bipush (v := 24) hx hb dX4_block_29 (by decide) ?_
  refine lv_icmp_eq (tgt := 56) hx hb dX4_block_31 (by decide) (fun c_1 => ?_) (fun c_1 => ?_)
  · have hm := (if_pos c_1).symm.trans hm
    exact cw_X4_block_56 fu rc hr hrn C hret F G hm hw (lv_sub hl [0] rfl)
  · have hm := (if_neg c_1).symm.trans hm
    exact cw_X4_block_34 fu rc hr hrn C hret ag_15 hag_15 hagn_15 x1 F G hm hw (lv_sub hl [0, 1] rfl)
theorem cn_X4_block_15 (fu : Nat) (rc : RC) (hrn : ∀ (i : Nat) (x y : Int32) (F : PF) (G : PG) (q : Int32 × PF × PG), rc i x y F G = some q → xn F ≤ xn q.2.1) {res : Int32 × PF × PG} (ag_15 : Int32 → PF → PG → PR) (hagn_15 : ∀ (x1 : Int32) (F : PF) (G : PG), ag_15 x1 F G = some res → xn F ≤ xn res.2.1) (x1 : Int32) (F : PF) (G : PG) (hm : cb_X4_block_15 fu rc ag_15 x1 F G = some res) : xn F ≤ xn res.2.1 := by
  unfold cb_X4_block_15 at hm
  by_cases c_1 : (4001 : Int32) ≤ x1
  · have hm := (if_pos c_1).symm.trans hm
    exact (cn_X4_block_56 fu rc hrn F G hm)
  · have hm := (if_neg c_1).symm.trans hm
    exact (cn_X4_block_22 fu rc hrn ag_15 hagn_15 x1 F G hm)
theorem cw_X4_block_15 (fu : Nat) (rc : RC) {dd : Nat} (hr : cH2 l v a rc dd) (hrn : ∀ (i : Nat) (x y : Int32) (F : PF) (G : PG) (q : Int32 × PF × PG), rc i x y F G = some q → xn F ≤ xn q.2.1) {res : Int32 × PF × PG} (C : cMC p R s m args c A v RX4 cX4_block 2 (dd + 1 + 305) (60 * (dd + 1) + 18119) (xn res.2.1 - xn K0)) (hret : ∀ (b1 : Nat) (H1 : Heap) (locs1 : List Loc) (ls1 : Array Slot) (pc : Nat), cMW s A v a b1 K0 res.2.1 res.2.2 H1 locs1 → decode cX4_block pc = .ok (.return_, 1) → W p l e R s m args below meth c H1 locs1 (xn res.2.1 - xn K0) (2 * (xn res.2.1 - xn K0)) Q (F0 m pc ls1 [])) (ag_15 : Int32 → PF → PG → PR) (hag_15 : ∀ (x1 : Int32) (F : PF) (G : PG), ag_15 x1 F G = some res → ∀ (b : Nat) (H : Heap) (locs : List Loc) (ls : Array Slot), cMW s A v a b K0 F G H locs → lv_has ls 2 [(0, .ref (a 204)), (1, .int x1)] → W p l e R s m args below meth c H locs (xn F - xn K0) (2 * (xn F - xn K0)) Q (F0 m 15 ls [])) (hagn_15 : ∀ (x1 : Int32) (F : PF) (G : PG), ag_15 x1 F G = some res → xn F ≤ xn res.2.1) (x1 : Int32) (F : PF) (G : PG) (hm : cb_X4_block_15 fu rc ag_15 x1 F G = some res) {b : Nat} {H : Heap} {locs : List Loc} (hw : cMW s A v a b K0 F G H locs) {ls : Array Slot} (hl : lv_has ls 2 [(0, .ref (a 204)), (1, .int x1)]) : W p l e R s m args below meth c H locs (xn F - xn K0) (2 * (xn F - xn K0)) Q (F0 m 15 ls []) := by
  have hx := C.1
  have hb := C.2.1
  unfold cb_X4_block_15 at hm
  refine lv_iload_n hx hb dX4_block_15 rfl (lv_at hl 1 rfl) ?_
  refine lv_sipush (v := 4001) hx hb dX4_block_16 (by decide) ?_
  refine lv_icmp_ge (tgt := 56) hx hb dX4_block_19 (by decide) (fun c_1 => ?_) (fun c_1 => ?_)
  · have hm := (if_pos c_1).symm.trans hm
    exact cw_X4_block_56 fu rc hr hrn C hret F G hm hw (lv_sub hl [0] rfl)
  · have hm := (if_neg c_1).symm.trans hm
    exact cw_X4_block_22 fu rc hr hrn C hret ag_15 hag_15 hagn_15 x1 F G hm hw (lv_sub hl [0, 1] rfl)
theorem cnl_X4_block_15 (fu : Nat) (rc : RC) (hrn : ∀ (i : Nat) (x y : Int32) (F : PF) (G : PG) (q : Int32 × PF × PG), rc i x y F G = some q → xn F ≤ xn q.2.1) {res : Int32 × PF × PG} : ∀ (n : Nat) (x1 : Int32) (F : PF) (G : PG) (hm : cl_X4_block_15 fu rc n x1 F G = some res), xn F ≤ xn res.2.1 := by
  intro n
  induction n with
  | zero =>
    intro x1 F G hm
    exact no_elim (show (none : PR) = some res from hm)
  | succ n ih =>
    intro x1 F G hm
    exact cn_X4_block_15 fu rc hrn (cl_X4_block_15 fu rc n) (fun x1 F G hm => ih x1 F G hm) x1 F G hm
theorem cwl_X4_block_15 (fu : Nat) (rc : RC) {dd : Nat} (hr : cH2 l v a rc dd) (hrn : ∀ (i : Nat) (x y : Int32) (F : PF) (G : PG) (q : Int32 × PF × PG), rc i x y F G = some q → xn F ≤ xn q.2.1) {res : Int32 × PF × PG} (C : cMC p R s m args c A v RX4 cX4_block 2 (dd + 1 + 305) (60 * (dd + 1) + 18119) (xn res.2.1 - xn K0)) (hret : ∀ (b1 : Nat) (H1 : Heap) (locs1 : List Loc) (ls1 : Array Slot) (pc : Nat), cMW s A v a b1 K0 res.2.1 res.2.2 H1 locs1 → decode cX4_block pc = .ok (.return_, 1) → W p l e R s m args below meth c H1 locs1 (xn res.2.1 - xn K0) (2 * (xn res.2.1 - xn K0)) Q (F0 m pc ls1 [])) : ∀ (n : Nat) (x1 : Int32) (F : PF) (G : PG) (hm : cl_X4_block_15 fu rc n x1 F G = some res) {b : Nat} {H : Heap} {locs : List Loc} (hw : cMW s A v a b K0 F G H locs) {ls : Array Slot} (hl : lv_has ls 2 [(0, .ref (a 204)), (1, .int x1)]), W p l e R s m args below meth c H locs (xn F - xn K0) (2 * (xn F - xn K0)) Q (F0 m 15 ls []) := by
  intro n
  induction n with
  | zero =>
    intro x1 F G hm
    exact no_elim (show (none : PR) = some res from hm)
  | succ n ih =>
    intro x1 F G hm b H locs hw ls hl
    exact cw_X4_block_15 fu rc hr hrn C hret (cl_X4_block_15 fu rc n) (fun x1 F G hm b H locs ls hw hl => ih x1 F G hm hw hl) (fun x1 F G hm => cnl_X4_block_15 fu rc hrn n x1 F G hm) x1 F G hm hw hl
theorem cn_X4_block_13 (fu : Nat) (rc : RC) (hrn : ∀ (i : Nat) (x y : Int32) (F : PF) (G : PG) (q : Int32 × PF × PG), rc i x y F G = some q → xn F ≤ xn q.2.1) {res : Int32 × PF × PG} (F : PF) (G : PG) (hm : cb_X4_block_13 fu rc F G = some res) : xn F ≤ xn res.2.1 := by
  unfold cb_X4_block_13 at hm
  exact (cnl_X4_block_15 fu rc hrn fu 0 F G hm)
theorem cw_X4_block_13 (fu : Nat) (rc : RC) {dd : Nat} (hr : cH2 l v a rc dd) (hrn : ∀ (i : Nat) (x y : Int32) (F : PF) (G : PG) (q : Int32 × PF × PG), rc i x y F G = some q → xn F ≤ xn q.2.1) {res : Int32 × PF × PG} (C : cMC p R s m args c A v RX4 cX4_block 2 (dd + 1 + 305) (60 * (dd + 1) + 18119) (xn res.2.1 - xn K0)) (hret : ∀ (b1 : Nat) (H1 : Heap) (locs1 : List Loc) (ls1 : Array Slot) (pc : Nat), cMW s A v a b1 K0 res.2.1 res.2.2 H1 locs1 → decode cX4_block pc = .ok (.return_, 1) → W p l e R s m args below meth c H1 locs1 (xn res.2.1 - xn K0) (2 * (xn res.2.1 - xn K0)) Q (F0 m pc ls1 [])) (F : PF) (G : PG) (hm : cb_X4_block_13 fu rc F G = some res) {b : Nat} {H : Heap} {locs : List Loc} (hw : cMW s A v a b K0 F G H locs) {ls : Array Slot} (hl : lv_has ls 2 [(0, .ref (a 204))]) : W p l e R s m args below meth c H locs (xn F - xn K0) (2 * (xn F - xn K0)) Q (F0 m 13 ls []) := by
  have hx := C.1
  have hb := C.2.1
  unfold cb_X4_block_13 at hm
  refine lv_iconst (v := 0) hx hb dX4_block_13 (by decide) ?_
  refine lv_istore_n (lv' := [(1, .int 0), (0, .ref (a 204))]) hx hb dX4_block_14 rfl hl (by decide) rfl (fun ls hl => ?_)
  exact cwl_X4_block_15 fu rc hr hrn C hret fu 0 F G hm hw (lv_sub hl [1, 0] rfl)
theorem cn_X4_block_12 (fu : Nat) (rc : RC) (hrn : ∀ (i : Nat) (x y : Int32) (F : PF) (G : PG) (q : Int32 × PF × PG), rc i x y F G = some q → xn F ≤ xn q.2.1) {res : Int32 × PF × PG} (F : PF) (G : PG) (hm : cb_X4_block_12 fu rc F G = some res) : xn F ≤ xn res.2.1 := by
  unfold cb_X4_block_12 at hm
  obtain rfl := Option.some.inj hm
  exact Nat.le_refl _
theorem cw_X4_block_12 (fu : Nat) (rc : RC) {dd : Nat} (hr : cH2 l v a rc dd) (hrn : ∀ (i : Nat) (x y : Int32) (F : PF) (G : PG) (q : Int32 × PF × PG), rc i x y F G = some q → xn F ≤ xn q.2.1) {res : Int32 × PF × PG} (C : cMC p R s m args c A v RX4 cX4_block 2 (dd + 1 + 305) (60 * (dd + 1) + 18119) (xn res.2.1 - xn K0)) (hret : ∀ (b1 : Nat) (H1 : Heap) (locs1 : List Loc) (ls1 : Array Slot) (pc : Nat), cMW s A v a b1 K0 res.2.1 res.2.2 H1 locs1 → decode cX4_block pc = .ok (.return_, 1) → W p l e R s m args below meth c H1 locs1 (xn res.2.1 - xn K0) (2 * (xn res.2.1 - xn K0)) Q (F0 m pc ls1 [])) (F : PF) (G : PG) (hm : cb_X4_block_12 fu rc F G = some res) {b : Nat} {H : Heap} {locs : List Loc} (hw : cMW s A v a b K0 F G H locs) {ls : Array Slot} (hl : lv_has ls 2 []) : W p l e R s m args below meth c H locs (xn F - xn K0) (2 * (xn F - xn K0)) Q (F0 m 12 ls []) := by
  have hx := C.1
  have hb := C.2.1
  unfold cb_X4_block_12 at hm
  obtain rfl := Option.some.inj hm
  exact hret _ _ _ _ _ hw dX4_block_12
theorem cn_X4_block_9 (fu : Nat) (rc : RC) (hrn : ∀ (i : Nat) (x y : Int32) (F : PF) (G : PG) (q : Int32 × PF × PG), rc i x y F G = some q → xn F ≤ xn q.2.1) {res : Int32 × PF × PG} (z0 : Int32) (F : PF) (G : PG) (hm : cb_X4_block_9 fu rc z0 F G = some res) : xn F ≤ xn res.2.1 := by
  unfold cb_X4_block_9 at hm
  by_cases c_1 : z0 = (0 : Int32)
  · have hm := (if_pos c_1).symm.trans hm
    exact (cn_X4_block_12 fu rc hrn F G hm)
  · have hm := (if_neg c_1).symm.trans hm
    exact (cn_X4_block_13 fu rc hrn F G hm)
theorem cw_X4_block_9 (fu : Nat) (rc : RC) {dd : Nat} (hr : cH2 l v a rc dd) (hrn : ∀ (i : Nat) (x y : Int32) (F : PF) (G : PG) (q : Int32 × PF × PG), rc i x y F G = some q → xn F ≤ xn q.2.1) {res : Int32 × PF × PG} (C : cMC p R s m args c A v RX4 cX4_block 2 (dd + 1 + 305) (60 * (dd + 1) + 18119) (xn res.2.1 - xn K0)) (hret : ∀ (b1 : Nat) (H1 : Heap) (locs1 : List Loc) (ls1 : Array Slot) (pc : Nat), cMW s A v a b1 K0 res.2.1 res.2.2 H1 locs1 → decode cX4_block pc = .ok (.return_, 1) → W p l e R s m args below meth c H1 locs1 (xn res.2.1 - xn K0) (2 * (xn res.2.1 - xn K0)) Q (F0 m pc ls1 [])) (z0 : Int32) (F : PF) (G : PG) (hm : cb_X4_block_9 fu rc z0 F G = some res) {b : Nat} {H : Heap} {locs : List Loc} (hw : cMW s A v a b K0 F G H locs) {ls : Array Slot} (hl : lv_has ls 2 [(0, .ref (a 204))]) : W p l e R s m args below meth c H locs (xn F - xn K0) (2 * (xn F - xn K0)) Q (F0 m 9 ls [.int z0]) := by
  have hx := C.1
  have hb := C.2.1
  unfold cb_X4_block_9 at hm
  refine lv_if_ne (tgt := 13) hx hb dX4_block_9 (by decide) (fun c_1 => ?_) (fun c_1 => ?_)
  · have hm := (if_neg c_1).symm.trans hm
    exact cw_X4_block_13 fu rc hr hrn C hret F G hm hw (lv_sub hl [0] rfl)
  · have hm := (if_pos c_1).symm.trans hm
    exact cw_X4_block_12 fu rc hr hrn C hret F G hm hw (lv_sub hl [] rfl)
theorem cn_X4_block_0 (fu : Nat) (rc : RC) (hrn : ∀ (i : Nat) (x y : Int32) (F : PF) (G : PG) (q : Int32 × PF × PG), rc i x y F G = some q → xn F ≤ xn q.2.1) {res : Int32 × PF × PG} (F : PF) (G : PG) (hm : cb_X4_block_0 fu rc F G = some res) : xn F ≤ xn res.2.1 := by
  unfold cb_X4_block_0 at hm
  obtain ⟨⟨r1, F1, G1⟩, hc, hm⟩ := bind_elim hm
  exact Nat.le_trans (cn_X2_opens fu 23 F G _ hc) (cn_X4_block_9 fu rc hrn r1 F1 G1 hm)
theorem cw_X4_block_0 (fu : Nat) (rc : RC) {dd : Nat} (hr : cH2 l v a rc dd) (hrn : ∀ (i : Nat) (x y : Int32) (F : PF) (G : PG) (q : Int32 × PF × PG), rc i x y F G = some q → xn F ≤ xn q.2.1) {res : Int32 × PF × PG} (C : cMC p R s m args c A v RX4 cX4_block 2 (dd + 1 + 305) (60 * (dd + 1) + 18119) (xn res.2.1 - xn K0)) (hret : ∀ (b1 : Nat) (H1 : Heap) (locs1 : List Loc) (ls1 : Array Slot) (pc : Nat), cMW s A v a b1 K0 res.2.1 res.2.2 H1 locs1 → decode cX4_block pc = .ok (.return_, 1) → W p l e R s m args below meth c H1 locs1 (xn res.2.1 - xn K0) (2 * (xn res.2.1 - xn K0)) Q (F0 m pc ls1 [])) (F : PF) (G : PG) (hm : cb_X4_block_0 fu rc F G = some res) {b : Nat} {H : Heap} {locs : List Loc} (hw : cMW s A v a b K0 F G H locs) {ls : Array Slot} (hl : lv_has ls 2 [(0, .ref (a 204))]) : W p l e R s m args below meth c H locs (xn F - xn K0) (2 * (xn F - xn K0)) Q (F0 m 0 ls []) := by
  have hx := C.1
  have hb := C.2.1
  unfold cb_X4_block_0 at hm
  refine lv_aload_n hx hb dX4_block_0 rfl (lv_at hl 0 rfl) ?_
  refine cg_X4_9 C hw dX4_block_1 ?_
  refine lv_bipush (v := 23) hx hb dX4_block_4 (by decide) ?_
  obtain ⟨⟨r1, F1, G1⟩, hc, hm⟩ := bind_elim hm
  refine ccallI (n := 1) (As := [.int 23]) (rest := []) C hw (ck_X2_opens l v a _ _ fu 23 F G r1 F1 G1 hc) (cn_X2_opens fu 23 F G _ hc) (Nat.sub_le_sub_right (cn_X4_block_9 fu rc hrn r1 F1 G1 hm) _) (crecv_X2 C hw) cm_623 cm_363 cm_364 cm_307 cm_365 (by decide +kernel) rfl (by omega) (by omega) hl.1 rfl (Nat.le_of_ble_eq_true rfl) dX4_block_6 (fun b H locs hw => ?_)
  exact cw_X4_block_9 fu rc hr hrn C hret r1 F1 G1 hm hw (lv_sub hl [0] rfl)
theorem cm_X4_block (fu : Nat) (rc : RC) (hrn : ∀ (i : Nat) (x y : Int32) (F : PF) (G : PG) (q : Int32 × PF × PG), rc i x y F G = some q → xn F ≤ xn q.2.1) (F : PF) (G : PG) (q : Int32 × PF × PG) (hm : ch_X4_block fu rc F G = some q) : xn F ≤ xn q.2.1 := cn_X4_block_0 fu rc hrn F G hm
theorem cq_X4_block (l : Launch) (v : EV) (a : Nat → Nat) (b sz : Nat) (fu : Nat) (rc : RC) {dd : Nat} (hr : cH2 l v a rc dd) (hrn : ∀ (i : Nat) (x y : Int32) (F : PF) (G : PG) (q : Int32 × PF × PG), rc i x y F G = some q → xn F ≤ xn q.2.1) (F : PF) (G : PG) (r : Int32) (F1 : PF) (G1 : PG) (hm : ch_X4_block fu rc F G = some (r, F1, G1)) : cMV l yX4_block cX4_block 2 (dd + 1 + 305) (60 * (dd + 1) + 18119) v a b sz [.ref (a 204)] F G F1 G1 := cMV.of (by decide) (Nat.le_of_ble_eq_true rfl) (fun p e R s m args below meth c Q A H locs ls C hw hl hret => cw_X4_block_0 fu rc hr hrn (res := (r, F1, G1)) C hret F G hm hw hl)
def cb_X4_doStatement_120 (fu : Nat) (rc : RC) (F : PF) (G : PG) : PR := some (0, F, G)
def cb_X4_doStatement_113 (fu : Nat) (rc : RC) (F : PF) (G : PG) : PR := (cf_X2_closes fu F G).bind (fun q => cb_X4_doStatement_120 fu rc q.2.1 q.2.2)
def cb_X4_doStatement_108 (fu : Nat) (rc : RC) (x2 : Int32) (F : PF) (G : PG) : PR := cb_X4_doStatement_113 fu rc (fup F 31 x2) G
def cb_X4_doStatement_103 (fu : Nat) (rc : RC) (x1 : Int32) (x2 : Int32) (F : PF) (G : PG) : PR := cb_X4_doStatement_108 fu rc x2 (fup F 30 x1) G
def cb_X4_doStatement_85 (fu : Nat) (rc : RC) (x1 : Int32) (x2 : Int32) (F : PF) (G : PG) : PR := (cf_X1_aim fu (F 30) (F 6) F G).bind (fun q => cb_X4_doStatement_103 fu rc x1 x2 q.2.1 q.2.2)
def cb_X4_doStatement_75 (fu : Nat) (rc : RC) (x1 : Int32) (x2 : Int32) (x3 : Int32) (F : PF) (G : PG) : PR := (cf_X1_addPair fu 85 x3 F G).bind (fun q => cb_X4_doStatement_85 fu rc x1 x2 q.2.1 q.2.2)
def cb_X4_doStatement_66 (fu : Nat) (rc : RC) (x1 : Int32) (x2 : Int32) (x3 : Int32) (F : PF) (G : PG) : PR := (cf_X2_expect fu 26 F G).bind (fun q => cb_X4_doStatement_75 fu rc x1 x2 x3 q.2.1 q.2.2)
def cb_X4_doStatement_62 (fu : Nat) (rc : RC) (x1 : Int32) (x2 : Int32) (x3 : Int32) (F : PF) (G : PG) : PR := (cf_X4_condition fu F G).bind (fun q => cb_X4_doStatement_66 fu rc x1 x2 x3 q.2.1 q.2.2)
def cb_X4_doStatement_53 (fu : Nat) (rc : RC) (x1 : Int32) (x2 : Int32) (x3 : Int32) (F : PF) (G : PG) : PR := (cf_X2_expect fu 10 F G).bind (fun q => cb_X4_doStatement_62 fu rc x1 x2 x3 q.2.1 q.2.2)
def cb_X4_doStatement_35 (fu : Nat) (rc : RC) (x1 : Int32) (x2 : Int32) (x3 : Int32) (F : PF) (G : PG) : PR := (cf_X1_aim fu (F 31) (F 6) F G).bind (fun q => cb_X4_doStatement_53 fu rc x1 x2 x3 q.2.1 q.2.2)
def cb_X4_doStatement_13 (fu : Nat) (rc : RC) (F : PF) (G : PG) : PR := (rc 5 0 0 F G).bind (fun q => cb_X4_doStatement_35 fu rc (F 30) (F 31) (F 6) q.2.1 q.2.2)
def cb_X4_doStatement_12 (fu : Nat) (rc : RC) (F : PF) (G : PG) : PR := some (0, F, G)
def cb_X4_doStatement_9 (fu : Nat) (rc : RC) (z0 : Int32) (F : PF) (G : PG) : PR := if z0 = (0 : Int32) then cb_X4_doStatement_12 fu rc F G else cb_X4_doStatement_13 fu rc F G
def cb_X4_doStatement_0 (fu : Nat) (rc : RC) (F : PF) (G : PG) : PR := (cf_X2_opens fu 11 F G).bind (fun q => cb_X4_doStatement_9 fu rc q.1 q.2.1 q.2.2)
def ch_X4_doStatement (fu : Nat) (rc : RC) (F : PF) (G : PG) : PR := cb_X4_doStatement_0 fu rc F G
theorem cn_X4_doStatement_120 (fu : Nat) (rc : RC) (hrn : ∀ (i : Nat) (x y : Int32) (F : PF) (G : PG) (q : Int32 × PF × PG), rc i x y F G = some q → xn F ≤ xn q.2.1) {res : Int32 × PF × PG} (F : PF) (G : PG) (hm : cb_X4_doStatement_120 fu rc F G = some res) : xn F ≤ xn res.2.1 := by
  unfold cb_X4_doStatement_120 at hm
  obtain rfl := Option.some.inj hm
  exact Nat.le_refl _
theorem cw_X4_doStatement_120 (fu : Nat) (rc : RC) {dd : Nat} (hr : cH2 l v a rc dd) (hrn : ∀ (i : Nat) (x y : Int32) (F : PF) (G : PG) (q : Int32 × PF × PG), rc i x y F G = some q → xn F ≤ xn q.2.1) {res : Int32 × PF × PG} (C : cMC p R s m args c A v RX4 cX4_doStatement 4 (dd + 1 + 305) (60 * (dd + 1) + 18119) (xn res.2.1 - xn K0)) (hret : ∀ (b1 : Nat) (H1 : Heap) (locs1 : List Loc) (ls1 : Array Slot) (pc : Nat), cMW s A v a b1 K0 res.2.1 res.2.2 H1 locs1 → decode cX4_doStatement pc = .ok (.return_, 1) → W p l e R s m args below meth c H1 locs1 (xn res.2.1 - xn K0) (2 * (xn res.2.1 - xn K0)) Q (F0 m pc ls1 [])) (F : PF) (G : PG) (hm : cb_X4_doStatement_120 fu rc F G = some res) {b : Nat} {H : Heap} {locs : List Loc} (hw : cMW s A v a b K0 F G H locs) {ls : Array Slot} (hl : lv_has ls 4 []) : W p l e R s m args below meth c H locs (xn F - xn K0) (2 * (xn F - xn K0)) Q (F0 m 120 ls []) := by
  have hx := C.1
  have hb := C.2.1
  unfold cb_X4_doStatement_120 at hm
  obtain rfl := Option.some.inj hm
  exact hret _ _ _ _ _ hw dX4_doStatement_120
theorem cn_X4_doStatement_113 (fu : Nat) (rc : RC) (hrn : ∀ (i : Nat) (x y : Int32) (F : PF) (G : PG) (q : Int32 × PF × PG), rc i x y F G = some q → xn F ≤ xn q.2.1) {res : Int32 × PF × PG} (F : PF) (G : PG) (hm : cb_X4_doStatement_113 fu rc F G = some res) : xn F ≤ xn res.2.1 := by
  unfold cb_X4_doStatement_113 at hm
  obtain ⟨⟨r1, F1, G1⟩, hc, hm⟩ := bind_elim hm
  exact Nat.le_trans (cn_X2_closes fu F G _ hc) (cn_X4_doStatement_120 fu rc hrn F1 G1 hm)
theorem cw_X4_doStatement_113 (fu : Nat) (rc : RC) {dd : Nat} (hr : cH2 l v a rc dd) (hrn : ∀ (i : Nat) (x y : Int32) (F : PF) (G : PG) (q : Int32 × PF × PG), rc i x y F G = some q → xn F ≤ xn q.2.1) {res : Int32 × PF × PG} (C : cMC p R s m args c A v RX4 cX4_doStatement 4 (dd + 1 + 305) (60 * (dd + 1) + 18119) (xn res.2.1 - xn K0)) (hret : ∀ (b1 : Nat) (H1 : Heap) (locs1 : List Loc) (ls1 : Array Slot) (pc : Nat), cMW s A v a b1 K0 res.2.1 res.2.2 H1 locs1 → decode cX4_doStatement pc = .ok (.return_, 1) → W p l e R s m args below meth c H1 locs1 (xn res.2.1 - xn K0) (2 * (xn res.2.1 - xn K0)) Q (F0 m pc ls1 [])) (F : PF) (G : PG) (hm : cb_X4_doStatement_113 fu rc F G = some res) {b : Nat} {H : Heap} {locs : List Loc} (hw : cMW s A v a b K0 F G H locs) {ls : Array Slot} (hl : lv_has ls 4 [(0, .ref (a 204))]) : W p l e R s m args below meth c H locs (xn F - xn K0) (2 * (xn F - xn K0)) Q (F0 m 113 ls []) := by
  have hx := C.1
  have hb := C.2.1
  unfold cb_X4_doStatement_113 at hm
  refine lv_aload_n hx hb dX4_doStatement_113 rfl (lv_at hl 0 rfl) ?_
  refine cg_X4_9 C hw dX4_doStatement_114 ?_
  obtain ⟨⟨r1, F1, G1⟩, hc, hm⟩ := bind_elim hm
  refine ccallV (n := 0) (As := []) (rest := []) C hw (ck_X2_closes l v a _ _ fu F G r1 F1 G1 hc) (cn_X2_closes fu F G _ hc) (Nat.sub_le_sub_right (cn_X4_doStatement_120 fu rc hrn F1 G1 hm) _) (crecv_X2 C hw) cm_661 cm_380 cm_381 cm_307 cm_382 (by decide +kernel) rfl (by omega) (by omega) hl.1 rfl (Nat.le_of_ble_eq_true rfl) dX4_doStatement_117 (fun b H locs hw => ?_)
  exact cw_X4_doStatement_120 fu rc hr hrn C hret F1 G1 hm hw (lv_sub hl [] rfl)
theorem cn_X4_doStatement_108 (fu : Nat) (rc : RC) (hrn : ∀ (i : Nat) (x y : Int32) (F : PF) (G : PG) (q : Int32 × PF × PG), rc i x y F G = some q → xn F ≤ xn q.2.1) {res : Int32 × PF × PG} (x2 : Int32) (F : PF) (G : PG) (hm : cb_X4_doStatement_108 fu rc x2 F G = some res) : xn F ≤ xn res.2.1 := by
  unfold cb_X4_doStatement_108 at hm
  exact Nat.le_trans (Nat.le_of_eq (xn_fup (by decide)).symm) (cn_X4_doStatement_113 fu rc hrn (fup F 31 x2) G hm)
theorem cw_X4_doStatement_108 (fu : Nat) (rc : RC) {dd : Nat} (hr : cH2 l v a rc dd) (hrn : ∀ (i : Nat) (x y : Int32) (F : PF) (G : PG) (q : Int32 × PF × PG), rc i x y F G = some q → xn F ≤ xn q.2.1) {res : Int32 × PF × PG} (C : cMC p R s m args c A v RX4 cX4_doStatement 4 (dd + 1 + 305) (60 * (dd + 1) + 18119) (xn res.2.1 - xn K0)) (hret : ∀ (b1 : Nat) (H1 : Heap) (locs1 : List Loc) (ls1 : Array Slot) (pc : Nat), cMW s A v a b1 K0 res.2.1 res.2.2 H1 locs1 → decode cX4_doStatement pc = .ok (.return_, 1) → W p l e R s m args below meth c H1 locs1 (xn res.2.1 - xn K0) (2 * (xn res.2.1 - xn K0)) Q (F0 m pc ls1 [])) (x2 : Int32) (F : PF) (G : PG) (hm : cb_X4_doStatement_108 fu rc x2 F G = some res) {b : Nat} {H : Heap} {locs : List Loc} (hw : cMW s A v a b K0 F G H locs) {ls : Array Slot} (hl : lv_has ls 4 [(0, .ref (a 204)), (2, .int x2)]) : W p l e R s m args below meth c H locs (xn F - xn K0) (2 * (xn F - xn K0)) Q (F0 m 108 ls []) := by
  have hx := C.1
  have hb := C.2.1
  unfold cb_X4_doStatement_108 at hm
  refine lv_aload_n hx hb dX4_doStatement_108 rfl (lv_at hl 0 rfl) ?_
  refine lv_iload_n hx hb dX4_doStatement_109 rfl (lv_at hl 1 rfl) ?_
  refine cp_X4_122 C hw dX4_doStatement_110 (fun H locs hw => ?_)
  exact cw_X4_doStatement_113 fu rc hr hrn C hret (fup F 31 x2) G hm hw (lv_sub hl [0] rfl)
theorem cn_X4_doStatement_103 (fu : Nat) (rc : RC) (hrn : ∀ (i : Nat) (x y : Int32) (F : PF) (G : PG) (q : Int32 × PF × PG), rc i x y F G = some q → xn F ≤ xn q.2.1) {res : Int32 × PF × PG} (x1 : Int32) (x2 : Int32) (F : PF) (G : PG) (hm : cb_X4_doStatement_103 fu rc x1 x2 F G = some res) : xn F ≤ xn res.2.1 := by
  unfold cb_X4_doStatement_103 at hm
  exact Nat.le_trans (Nat.le_of_eq (xn_fup (by decide)).symm) (cn_X4_doStatement_108 fu rc hrn x2 (fup F 30 x1) G hm)
theorem cw_X4_doStatement_103 (fu : Nat) (rc : RC) {dd : Nat} (hr : cH2 l v a rc dd) (hrn : ∀ (i : Nat) (x y : Int32) (F : PF) (G : PG) (q : Int32 × PF × PG), rc i x y F G = some q → xn F ≤ xn q.2.1) {res : Int32 × PF × PG} (C : cMC p R s m args c A v RX4 cX4_doStatement 4 (dd + 1 + 305) (60 * (dd + 1) + 18119) (xn res.2.1 - xn K0)) (hret : ∀ (b1 : Nat) (H1 : Heap) (locs1 : List Loc) (ls1 : Array Slot) (pc : Nat), cMW s A v a b1 K0 res.2.1 res.2.2 H1 locs1 → decode cX4_doStatement pc = .ok (.return_, 1) → W p l e R s m args below meth c H1 locs1 (xn res.2.1 - xn K0) (2 * (xn res.2.1 - xn K0)) Q (F0 m pc ls1 [])) (x1 : Int32) (x2 : Int32) (F : PF) (G : PG) (hm : cb_X4_doStatement_103 fu rc x1 x2 F G = some res) {b : Nat} {H : Heap} {locs : List Loc} (hw : cMW s A v a b K0 F G H locs) {ls : Array Slot} (hl : lv_has ls 4 [(0, .ref (a 204)), (1, .int x1), (2, .int x2)]) : W p l e R s m args below meth c H locs (xn F - xn K0) (2 * (xn F - xn K0)) Q (F0 m 103 ls []) := by
  have hx := C.1
  have hb := C.2.1
  unfold cb_X4_doStatement_103 at hm
  refine lv_aload_n hx hb dX4_doStatement_103 rfl (lv_at hl 0 rfl) ?_
  refine lv_iload_n hx hb dX4_doStatement_104 rfl (lv_at hl 1 rfl) ?_
  refine cp_X4_119 C hw dX4_doStatement_105 (fun H locs hw => ?_)
  exact cw_X4_doStatement_108 fu rc hr hrn C hret x2 (fup F 30 x1) G hm hw (lv_sub hl [0, 2] rfl)
theorem cn_X4_doStatement_85 (fu : Nat) (rc : RC) (hrn : ∀ (i : Nat) (x y : Int32) (F : PF) (G : PG) (q : Int32 × PF × PG), rc i x y F G = some q → xn F ≤ xn q.2.1) {res : Int32 × PF × PG} (x1 : Int32) (x2 : Int32) (F : PF) (G : PG) (hm : cb_X4_doStatement_85 fu rc x1 x2 F G = some res) : xn F ≤ xn res.2.1 := by
  unfold cb_X4_doStatement_85 at hm
  obtain ⟨⟨r1, F1, G1⟩, hc, hm⟩ := bind_elim hm
  exact Nat.le_trans (cn_X1_aim fu (F 30) (F 6) F G _ hc) (cn_X4_doStatement_103 fu rc hrn x1 x2 F1 G1 hm)
theorem cw_X4_doStatement_85 (fu : Nat) (rc : RC) {dd : Nat} (hr : cH2 l v a rc dd) (hrn : ∀ (i : Nat) (x y : Int32) (F : PF) (G : PG) (q : Int32 × PF × PG), rc i x y F G = some q → xn F ≤ xn q.2.1) {res : Int32 × PF × PG} (C : cMC p R s m args c A v RX4 cX4_doStatement 4 (dd + 1 + 305) (60 * (dd + 1) + 18119) (xn res.2.1 - xn K0)) (hret : ∀ (b1 : Nat) (H1 : Heap) (locs1 : List Loc) (ls1 : Array Slot) (pc : Nat), cMW s A v a b1 K0 res.2.1 res.2.2 H1 locs1 → decode cX4_doStatement pc = .ok (.return_, 1) → W p l e R s m args below meth c H1 locs1 (xn res.2.1 - xn K0) (2 * (xn res.2.1 - xn K0)) Q (F0 m pc ls1 [])) (x1 : Int32) (x2 : Int32) (F : PF) (G : PG) (hm : cb_X4_doStatement_85 fu rc x1 x2 F G = some res) {b : Nat} {H : Heap} {locs : List Loc} (hw : cMW s A v a b K0 F G H locs) {ls : Array Slot} (hl : lv_has ls 4 [(0, .ref (a 204)), (1, .int x1), (2, .int x2)]) : W p l e R s m args below meth c H locs (xn F - xn K0) (2 * (xn F - xn K0)) Q (F0 m 85 ls []) := by
  have hx := C.1
  have hb := C.2.1
  unfold cb_X4_doStatement_85 at hm
  refine lv_aload_n hx hb dX4_doStatement_85 rfl (lv_at hl 0 rfl) ?_
  refine cg_X4_19 C hw dX4_doStatement_86 ?_
  refine lv_aload_n hx hb dX4_doStatement_89 rfl (lv_at hl 0 rfl) ?_
  refine cg_X4_119 C hw dX4_doStatement_90 ?_
  refine lv_aload_n hx hb dX4_doStatement_93 rfl (lv_at hl 0 rfl) ?_
  refine cg_X4_19 C hw dX4_doStatement_94 ?_
  refine cg_X4_43 C hw dX4_doStatement_97 ?_
  obtain ⟨⟨r1, F1, G1⟩, hc, hm⟩ := bind_elim hm
  refine ccallV (n := 2) (As := [.int (F 30), .int (F 6)]) (rest := []) C hw (ck_X1_aim l v a _ _ fu (F 30) (F 6) F G r1 F1 G1 hc) (cn_X1_aim fu (F 30) (F 6) F G _ hc) (Nat.sub_le_sub_right (cn_X4_doStatement_103 fu rc hrn x1 x2 F1 G1 hm) _) (crecv_X1 C hw) cm_654 cm_376 cm_377 cm_369 cm_378 (by decide +kernel) rfl (by omega) (by omega) hl.1 rfl (Nat.le_of_ble_eq_true rfl) dX4_doStatement_100 (fun b H locs hw => ?_)
  exact cw_X4_doStatement_103 fu rc hr hrn C hret x1 x2 F1 G1 hm hw (lv_sub hl [0, 1, 2] rfl)
theorem cn_X4_doStatement_75 (fu : Nat) (rc : RC) (hrn : ∀ (i : Nat) (x y : Int32) (F : PF) (G : PG) (q : Int32 × PF × PG), rc i x y F G = some q → xn F ≤ xn q.2.1) {res : Int32 × PF × PG} (x1 : Int32) (x2 : Int32) (x3 : Int32) (F : PF) (G : PG) (hm : cb_X4_doStatement_75 fu rc x1 x2 x3 F G = some res) : xn F ≤ xn res.2.1 := by
  unfold cb_X4_doStatement_75 at hm
  obtain ⟨⟨r1, F1, G1⟩, hc, hm⟩ := bind_elim hm
  exact Nat.le_trans (cn_X1_addPair fu 85 x3 F G _ hc) (cn_X4_doStatement_85 fu rc hrn x1 x2 F1 G1 hm)
theorem cw_X4_doStatement_75 (fu : Nat) (rc : RC) {dd : Nat} (hr : cH2 l v a rc dd) (hrn : ∀ (i : Nat) (x y : Int32) (F : PF) (G : PG) (q : Int32 × PF × PG), rc i x y F G = some q → xn F ≤ xn q.2.1) {res : Int32 × PF × PG} (C : cMC p R s m args c A v RX4 cX4_doStatement 4 (dd + 1 + 305) (60 * (dd + 1) + 18119) (xn res.2.1 - xn K0)) (hret : ∀ (b1 : Nat) (H1 : Heap) (locs1 : List Loc) (ls1 : Array Slot) (pc : Nat), cMW s A v a b1 K0 res.2.1 res.2.2 H1 locs1 → decode cX4_doStatement pc = .ok (.return_, 1) → W p l e R s m args below meth c H1 locs1 (xn res.2.1 - xn K0) (2 * (xn res.2.1 - xn K0)) Q (F0 m pc ls1 [])) (x1 : Int32) (x2 : Int32) (x3 : Int32) (F : PF) (G : PG) (hm : cb_X4_doStatement_75 fu rc x1 x2 x3 F G = some res) {b : Nat} {H : Heap} {locs : List Loc} (hw : cMW s A v a b K0 F G H locs) {ls : Array Slot} (hl : lv_has ls 4 [(0, .ref (a 204)), (1, .int x1), (2, .int x2), (3, .int x3)]) : W p l e R s m args below meth c H locs (xn F - xn K0) (2 * (xn F - xn K0)) Q (F0 m 75 ls []) := by
  have hx := C.1
  have hb := C.2.1
  unfold cb_X4_doStatement_75 at hm
  refine lv_aload_n hx hb dX4_doStatement_75 rfl (lv_at hl 0 rfl) ?_
  refine cg_X4_19 C hw dX4_doStatement_76 ?_
  refine lv_bipush (v := 85) hx hb dX4_doStatement_79 (by decide) ?_
  refine lv_iload_n hx hb dX4_doStatement_81 rfl (lv_at hl 3 rfl) ?_
  obtain ⟨⟨r1, F1, G1⟩, hc, hm⟩ := bind_elim hm
  refine ccallV (n := 2) (As := [.int 85, .int x3]) (rest := []) C hw (ck_X1_addPair l v a _ _ fu 85 x3 F G r1 F1 G1 hc) (cn_X1_addPair fu 85 x3 F G _ hc) (Nat.sub_le_sub_right (cn_X4_doStatement_85 fu rc hrn x1 x2 F1 G1 hm) _) (crecv_X1 C hw) cm_660 cm_449 cm_450 cm_369 cm_451 (by decide +kernel) rfl (by omega) (by omega) hl.1 rfl (Nat.le_of_ble_eq_true rfl) dX4_doStatement_82 (fun b H locs hw => ?_)
  exact cw_X4_doStatement_85 fu rc hr hrn C hret x1 x2 F1 G1 hm hw (lv_sub hl [0, 1, 2] rfl)
theorem cn_X4_doStatement_66 (fu : Nat) (rc : RC) (hrn : ∀ (i : Nat) (x y : Int32) (F : PF) (G : PG) (q : Int32 × PF × PG), rc i x y F G = some q → xn F ≤ xn q.2.1) {res : Int32 × PF × PG} (x1 : Int32) (x2 : Int32) (x3 : Int32) (F : PF) (G : PG) (hm : cb_X4_doStatement_66 fu rc x1 x2 x3 F G = some res) : xn F ≤ xn res.2.1 := by
  unfold cb_X4_doStatement_66 at hm
  obtain ⟨⟨r1, F1, G1⟩, hc, hm⟩ := bind_elim hm
  exact Nat.le_trans (cn_X2_expect fu 26 F G _ hc) (cn_X4_doStatement_75 fu rc hrn x1 x2 x3 F1 G1 hm)
theorem cw_X4_doStatement_66 (fu : Nat) (rc : RC) {dd : Nat} (hr : cH2 l v a rc dd) (hrn : ∀ (i : Nat) (x y : Int32) (F : PF) (G : PG) (q : Int32 × PF × PG), rc i x y F G = some q → xn F ≤ xn q.2.1) {res : Int32 × PF × PG} (C : cMC p R s m args c A v RX4 cX4_doStatement 4 (dd + 1 + 305) (60 * (dd + 1) + 18119) (xn res.2.1 - xn K0)) (hret : ∀ (b1 : Nat) (H1 : Heap) (locs1 : List Loc) (ls1 : Array Slot) (pc : Nat), cMW s A v a b1 K0 res.2.1 res.2.2 H1 locs1 → decode cX4_doStatement pc = .ok (.return_, 1) → W p l e R s m args below meth c H1 locs1 (xn res.2.1 - xn K0) (2 * (xn res.2.1 - xn K0)) Q (F0 m pc ls1 [])) (x1 : Int32) (x2 : Int32) (x3 : Int32) (F : PF) (G : PG) (hm : cb_X4_doStatement_66 fu rc x1 x2 x3 F G = some res) {b : Nat} {H : Heap} {locs : List Loc} (hw : cMW s A v a b K0 F G H locs) {ls : Array Slot} (hl : lv_has ls 4 [(0, .ref (a 204)), (1, .int x1), (2, .int x2), (3, .int x3)]) : W p l e R s m args below meth c H locs (xn F - xn K0) (2 * (xn F - xn K0)) Q (F0 m 66 ls []) := by
  have hx := C.1
  have hb := C.2.1
  unfold cb_X4_doStatement_66 at hm
  refine lv_aload_n hx hb dX4_doStatement_66 rfl (lv_at hl 0 rfl) ?_
  refine cg_X4_9 C hw dX4_doStatement_67 ?_
  refine lv_bipush (v := 26) hx hb dX4_doStatement_70 (by decide) ?_
  obtain ⟨⟨r1, F1, G1⟩, hc, hm⟩ := bind_elim hm
  refine ccallV (n := 1) (As := [.int 26]) (rest := []) C hw (ck_X2_expect l v a _ _ fu 26 F G r1 F1 G1 hc) (cn_X2_expect fu 26 F G _ hc) (Nat.sub_le_sub_right (cn_X4_doStatement_75 fu rc hrn x1 x2 x3 F1 G1 hm) _) (crecv_X2 C hw) cm_332 cm_333 cm_334 cm_307 cm_335 (by decide +kernel) rfl (by omega) (by omega) hl.1 rfl (Nat.le_of_ble_eq_true rfl) dX4_doStatement_72 (fun b H locs hw => ?_)
  exact cw_X4_doStatement_75 fu rc hr hrn C hret x1 x2 x3 F1 G1 hm hw (lv_sub hl [0, 1, 2, 3] rfl)
theorem cn_X4_doStatement_62 (fu : Nat) (rc : RC) (hrn : ∀ (i : Nat) (x y : Int32) (F : PF) (G : PG) (q : Int32 × PF × PG), rc i x y F G = some q → xn F ≤ xn q.2.1) {res : Int32 × PF × PG} (x1 : Int32) (x2 : Int32) (x3 : Int32) (F : PF) (G : PG) (hm : cb_X4_doStatement_62 fu rc x1 x2 x3 F G = some res) : xn F ≤ xn res.2.1 := by
  unfold cb_X4_doStatement_62 at hm
  obtain ⟨⟨r1, F1, G1⟩, hc, hm⟩ := bind_elim hm
  exact Nat.le_trans (cn_X4_condition fu F G _ hc) (cn_X4_doStatement_66 fu rc hrn x1 x2 x3 F1 G1 hm)
theorem cw_X4_doStatement_62 (fu : Nat) (rc : RC) {dd : Nat} (hr : cH2 l v a rc dd) (hrn : ∀ (i : Nat) (x y : Int32) (F : PF) (G : PG) (q : Int32 × PF × PG), rc i x y F G = some q → xn F ≤ xn q.2.1) {res : Int32 × PF × PG} (C : cMC p R s m args c A v RX4 cX4_doStatement 4 (dd + 1 + 305) (60 * (dd + 1) + 18119) (xn res.2.1 - xn K0)) (hret : ∀ (b1 : Nat) (H1 : Heap) (locs1 : List Loc) (ls1 : Array Slot) (pc : Nat), cMW s A v a b1 K0 res.2.1 res.2.2 H1 locs1 → decode cX4_doStatement pc = .ok (.return_, 1) → W p l e R s m args below meth c H1 locs1 (xn res.2.1 - xn K0) (2 * (xn res.2.1 - xn K0)) Q (F0 m pc ls1 [])) (x1 : Int32) (x2 : Int32) (x3 : Int32) (F : PF) (G : PG) (hm : cb_X4_doStatement_62 fu rc x1 x2 x3 F G = some res) {b : Nat} {H : Heap} {locs : List Loc} (hw : cMW s A v a b K0 F G H locs) {ls : Array Slot} (hl : lv_has ls 4 [(0, .ref (a 204)), (1, .int x1), (2, .int x2), (3, .int x3)]) : W p l e R s m args below meth c H locs (xn F - xn K0) (2 * (xn F - xn K0)) Q (F0 m 62 ls []) := by
  have hx := C.1
  have hb := C.2.1
  unfold cb_X4_doStatement_62 at hm
  refine lv_aload_n hx hb dX4_doStatement_62 rfl (lv_at hl 0 rfl) ?_
  obtain ⟨⟨r1, F1, G1⟩, hc, hm⟩ := bind_elim hm
  refine ccallV (n := 0) (As := []) (rest := []) C hw (ck_X4_condition l v a _ _ fu F G r1 F1 G1 hc) (cn_X4_condition fu F G _ hc) (Nat.sub_le_sub_right (cn_X4_doStatement_66 fu rc hrn x1 x2 x3 F1 G1 hm) _) (crecv_X4 C hw) cm_655 cm_656 cm_657 cm_244 cm_658 (by decide +kernel) rfl (by omega) (by omega) hl.1 rfl (Nat.le_of_ble_eq_true rfl) dX4_doStatement_63 (fun b H locs hw => ?_)
  exact cw_X4_doStatement_66 fu rc hr hrn C hret x1 x2 x3 F1 G1 hm hw (lv_sub hl [0, 1, 2, 3] rfl)
theorem cn_X4_doStatement_53 (fu : Nat) (rc : RC) (hrn : ∀ (i : Nat) (x y : Int32) (F : PF) (G : PG) (q : Int32 × PF × PG), rc i x y F G = some q → xn F ≤ xn q.2.1) {res : Int32 × PF × PG} (x1 : Int32) (x2 : Int32) (x3 : Int32) (F : PF) (G : PG) (hm : cb_X4_doStatement_53 fu rc x1 x2 x3 F G = some res) : xn F ≤ xn res.2.1 := by
  unfold cb_X4_doStatement_53 at hm
  obtain ⟨⟨r1, F1, G1⟩, hc, hm⟩ := bind_elim hm
  exact Nat.le_trans (cn_X2_expect fu 10 F G _ hc) (cn_X4_doStatement_62 fu rc hrn x1 x2 x3 F1 G1 hm)
theorem cw_X4_doStatement_53 (fu : Nat) (rc : RC) {dd : Nat} (hr : cH2 l v a rc dd) (hrn : ∀ (i : Nat) (x y : Int32) (F : PF) (G : PG) (q : Int32 × PF × PG), rc i x y F G = some q → xn F ≤ xn q.2.1) {res : Int32 × PF × PG} (C : cMC p R s m args c A v RX4 cX4_doStatement 4 (dd + 1 + 305) (60 * (dd + 1) + 18119) (xn res.2.1 - xn K0)) (hret : ∀ (b1 : Nat) (H1 : Heap) (locs1 : List Loc) (ls1 : Array Slot) (pc : Nat), cMW s A v a b1 K0 res.2.1 res.2.2 H1 locs1 → decode cX4_doStatement pc = .ok (.return_, 1) → W p l e R s m args below meth c H1 locs1 (xn res.2.1 - xn K0) (2 * (xn res.2.1 - xn K0)) Q (F0 m pc ls1 [])) (x1 : Int32) (x2 : Int32) (x3 : Int32) (F : PF) (G : PG) (hm : cb_X4_doStatement_53 fu rc x1 x2 x3 F G = some res) {b : Nat} {H : Heap} {locs : List Loc} (hw : cMW s A v a b K0 F G H locs) {ls : Array Slot} (hl : lv_has ls 4 [(0, .ref (a 204)), (1, .int x1), (2, .int x2), (3, .int x3)]) : W p l e R s m args below meth c H locs (xn F - xn K0) (2 * (xn F - xn K0)) Q (F0 m 53 ls []) := by
  have hx := C.1
  have hb := C.2.1
  unfold cb_X4_doStatement_53 at hm
  refine lv_aload_n hx hb dX4_doStatement_53 rfl (lv_at hl 0 rfl) ?_
  refine cg_X4_9 C hw dX4_doStatement_54 ?_
  refine lv_bipush (v := 10) hx hb dX4_doStatement_57 (by decide) ?_
  obtain ⟨⟨r1, F1, G1⟩, hc, hm⟩ := bind_elim hm
  refine ccallV (n := 1) (As := [.int 10]) (rest := []) C hw (ck_X2_expect l v a _ _ fu 10 F G r1 F1 G1 hc) (cn_X2_expect fu 10 F G _ hc) (Nat.sub_le_sub_right (cn_X4_doStatement_62 fu rc hrn x1 x2 x3 F1 G1 hm) _) (crecv_X2 C hw) cm_332 cm_333 cm_334 cm_307 cm_335 (by decide +kernel) rfl (by omega) (by omega) hl.1 rfl (Nat.le_of_ble_eq_true rfl) dX4_doStatement_59 (fun b H locs hw => ?_)
  exact cw_X4_doStatement_62 fu rc hr hrn C hret x1 x2 x3 F1 G1 hm hw (lv_sub hl [0, 1, 2, 3] rfl)
theorem cn_X4_doStatement_35 (fu : Nat) (rc : RC) (hrn : ∀ (i : Nat) (x y : Int32) (F : PF) (G : PG) (q : Int32 × PF × PG), rc i x y F G = some q → xn F ≤ xn q.2.1) {res : Int32 × PF × PG} (x1 : Int32) (x2 : Int32) (x3 : Int32) (F : PF) (G : PG) (hm : cb_X4_doStatement_35 fu rc x1 x2 x3 F G = some res) : xn F ≤ xn res.2.1 := by
  unfold cb_X4_doStatement_35 at hm
  obtain ⟨⟨r1, F1, G1⟩, hc, hm⟩ := bind_elim hm
  exact Nat.le_trans (cn_X1_aim fu (F 31) (F 6) F G _ hc) (cn_X4_doStatement_53 fu rc hrn x1 x2 x3 F1 G1 hm)
theorem cw_X4_doStatement_35 (fu : Nat) (rc : RC) {dd : Nat} (hr : cH2 l v a rc dd) (hrn : ∀ (i : Nat) (x y : Int32) (F : PF) (G : PG) (q : Int32 × PF × PG), rc i x y F G = some q → xn F ≤ xn q.2.1) {res : Int32 × PF × PG} (C : cMC p R s m args c A v RX4 cX4_doStatement 4 (dd + 1 + 305) (60 * (dd + 1) + 18119) (xn res.2.1 - xn K0)) (hret : ∀ (b1 : Nat) (H1 : Heap) (locs1 : List Loc) (ls1 : Array Slot) (pc : Nat), cMW s A v a b1 K0 res.2.1 res.2.2 H1 locs1 → decode cX4_doStatement pc = .ok (.return_, 1) → W p l e R s m args below meth c H1 locs1 (xn res.2.1 - xn K0) (2 * (xn res.2.1 - xn K0)) Q (F0 m pc ls1 [])) (x1 : Int32) (x2 : Int32) (x3 : Int32) (F : PF) (G : PG) (hm : cb_X4_doStatement_35 fu rc x1 x2 x3 F G = some res) {b : Nat} {H : Heap} {locs : List Loc} (hw : cMW s A v a b K0 F G H locs) {ls : Array Slot} (hl : lv_has ls 4 [(0, .ref (a 204)), (1, .int x1), (2, .int x2), (3, .int x3)]) : W p l e R s m args below meth c H locs (xn F - xn K0) (2 * (xn F - xn K0)) Q (F0 m 35 ls []) := by
  have hx := C.1
  have hb := C.2.1
  unfold cb_X4_doStatement_35 at hm
  refine lv_aload_n hx hb dX4_doStatement_35 rfl (lv_at hl 0 rfl) ?_
  refine cg_X4_19 C hw dX4_doStatement_36 ?_
  refine lv_aload_n hx hb dX4_doStatement_39 rfl (lv_at hl 0 rfl) ?_
  refine cg_X4_122 C hw dX4_doStatement_40 ?_
  refine lv_aload_n hx hb dX4_doStatement_43 rfl (lv_at hl 0 rfl) ?_
  refine cg_X4_19 C hw dX4_doStatement_44 ?_
  refine cg_X4_43 C hw dX4_doStatement_47 ?_
  obtain ⟨⟨r1, F1, G1⟩, hc, hm⟩ := bind_elim hm
  refine ccallV (n := 2) (As := [.int (F 31), .int (F 6)]) (rest := []) C hw (ck_X1_aim l v a _ _ fu (F 31) (F 6) F G r1 F1 G1 hc) (cn_X1_aim fu (F 31) (F 6) F G _ hc) (Nat.sub_le_sub_right (cn_X4_doStatement_53 fu rc hrn x1 x2 x3 F1 G1 hm) _) (crecv_X1 C hw) cm_654 cm_376 cm_377 cm_369 cm_378 (by decide +kernel) rfl (by omega) (by omega) hl.1 rfl (Nat.le_of_ble_eq_true rfl) dX4_doStatement_50 (fun b H locs hw => ?_)
  exact cw_X4_doStatement_53 fu rc hr hrn C hret x1 x2 x3 F1 G1 hm hw (lv_sub hl [0, 1, 2, 3] rfl)
theorem cn_X4_doStatement_13 (fu : Nat) (rc : RC) (hrn : ∀ (i : Nat) (x y : Int32) (F : PF) (G : PG) (q : Int32 × PF × PG), rc i x y F G = some q → xn F ≤ xn q.2.1) {res : Int32 × PF × PG} (F : PF) (G : PG) (hm : cb_X4_doStatement_13 fu rc F G = some res) : xn F ≤ xn res.2.1 := by
  unfold cb_X4_doStatement_13 at hm
  obtain ⟨⟨r1, F1, G1⟩, hc, hm⟩ := bind_elim hm
  exact Nat.le_trans (hrn _ _ _ _ _ _ hc) (cn_X4_doStatement_35 fu rc hrn (F 30) (F 31) (F 6) F1 G1 hm)
theorem cw_X4_doStatement_13 (fu : Nat) (rc : RC) {dd : Nat} (hr : cH2 l v a rc dd) (hrn : ∀ (i : Nat) (x y : Int32) (F : PF) (G : PG) (q : Int32 × PF × PG), rc i x y F G = some q → xn F ≤ xn q.2.1) {res : Int32 × PF × PG} (C : cMC p R s m args c A v RX4 cX4_doStatement 4 (dd + 1 + 305) (60 * (dd + 1) + 18119) (xn res.2.1 - xn K0)) (hret : ∀ (b1 : Nat) (H1 : Heap) (locs1 : List Loc) (ls1 : Array Slot) (pc : Nat), cMW s A v a b1 K0 res.2.1 res.2.2 H1 locs1 → decode cX4_doStatement pc = .ok (.return_, 1) → W p l e R s m args below meth c H1 locs1 (xn res.2.1 - xn K0) (2 * (xn res.2.1 - xn K0)) Q (F0 m pc ls1 [])) (F : PF) (G : PG) (hm : cb_X4_doStatement_13 fu rc F G = some res) {b : Nat} {H : Heap} {locs : List Loc} (hw : cMW s A v a b K0 F G H locs) {ls : Array Slot} (hl : lv_has ls 4 [(0, .ref (a 204))]) : W p l e R s m args below meth c H locs (xn F - xn K0) (2 * (xn F - xn K0)) Q (F0 m 13 ls []) := by
  have hx := C.1
  have hb := C.2.1
  unfold cb_X4_doStatement_13 at hm
  refine lv_aload_n hx hb dX4_doStatement_13 rfl (lv_at hl 0 rfl) ?_
  refine cg_X4_119 C hw dX4_doStatement_14 ?_
  refine lv_istore_n (lv' := [(1, .int (F 30)), (0, .ref (a 204))]) hx hb dX4_doStatement_17 rfl hl (by decide) rfl (fun ls hl => ?_)
  refine lv_aload_n hx hb dX4_doStatement_18 rfl (lv_at hl 1 rfl) ?_
  refine cg_X4_122 C hw dX4_doStatement_19 ?_
  refine lv_istore_n (lv' := [(2, .int (F 31)), (1, .int (F 30)), (0, .ref (a 204))]) hx hb dX4_doStatement_22 rfl hl (by decide) rfl (fun ls hl => ?_)
  refine lv_aload_n hx hb dX4_doStatement_23 rfl (lv_at hl 2 rfl) ?_
  refine cg_X4_19 C hw dX4_doStatement_24 ?_
  refine cg_X4_43 C hw dX4_doStatement_27 ?_
  refine lv_istore_n (lv' := [(3, .int (F 6)), (2, .int (F 31)), (1, .int (F 30)), (0, .ref (a 204))]) hx hb dX4_doStatement_30 rfl hl (by decide) rfl (fun ls hl => ?_)
  refine lv_aload_n hx hb dX4_doStatement_31 rfl (lv_at hl 3 rfl) ?_
  obtain ⟨⟨r1, F1, G1⟩, hc, hm⟩ := bind_elim hm
  refine ccallV (n := 0) (As := []) (rest := []) C hw (hr.2.2.2.2.2.1 _ _ F G r1 F1 G1 hc) (hrn _ _ _ _ _ _ hc) (Nat.sub_le_sub_right (cn_X4_doStatement_35 fu rc hrn (F 30) (F 31) (F 6) F1 G1 hm) _) (crecv_X4 C hw) cm_651 cm_652 cm_653 cm_244 cm_728 (by decide +kernel) rfl (by omega) (by omega) hl.1 rfl (Nat.le_of_ble_eq_true rfl) dX4_doStatement_32 (fun b H locs hw => ?_)
  exact cw_X4_doStatement_35 fu rc hr hrn C hret (F 30) (F 31) (F 6) F1 G1 hm hw (lv_sub hl [3, 2, 1, 0] rfl)
theorem cn_X4_doStatement_12 (fu : Nat) (rc : RC) (hrn : ∀ (i : Nat) (x y : Int32) (F : PF) (G : PG) (q : Int32 × PF × PG), rc i x y F G = some q → xn F ≤ xn q.2.1) {res : Int32 × PF × PG} (F : PF) (G : PG) (hm : cb_X4_doStatement_12 fu rc F G = some res) : xn F ≤ xn res.2.1 := by
  unfold cb_X4_doStatement_12 at hm
  obtain rfl := Option.some.inj hm
  exact Nat.le_refl _
theorem cw_X4_doStatement_12 (fu : Nat) (rc : RC) {dd : Nat} (hr : cH2 l v a rc dd) (hrn : ∀ (i : Nat) (x y : Int32) (F : PF) (G : PG) (q : Int32 × PF × PG), rc i x y F G = some q → xn F ≤ xn q.2.1) {res : Int32 × PF × PG} (C : cMC p R s m args c A v RX4 cX4_doStatement 4 (dd + 1 + 305) (60 * (dd + 1) + 18119) (xn res.2.1 - xn K0)) (hret : ∀ (b1 : Nat) (H1 : Heap) (locs1 : List Loc) (ls1 : Array Slot) (pc : Nat), cMW s A v a b1 K0 res.2.1 res.2.2 H1 locs1 → decode cX4_doStatement pc = .ok (.return_, 1) → W p l e R s m args below meth c H1 locs1 (xn res.2.1 - xn K0) (2 * (xn res.2.1 - xn K0)) Q (F0 m pc ls1 [])) (F : PF) (G : PG) (hm : cb_X4_doStatement_12 fu rc F G = some res) {b : Nat} {H : Heap} {locs : List Loc} (hw : cMW s A v a b K0 F G H locs) {ls : Array Slot} (hl : lv_has ls 4 []) : W p l e R s m args below meth c H locs (xn F - xn K0) (2 * (xn F - xn K0)) Q (F0 m 12 ls []) := by
  have hx := C.1
  have hb := C.2.1
  unfold cb_X4_doStatement_12 at hm
  obtain rfl := Option.some.inj hm
  exact hret _ _ _ _ _ hw dX4_doStatement_12
theorem cn_X4_doStatement_9 (fu : Nat) (rc : RC) (hrn : ∀ (i : Nat) (x y : Int32) (F : PF) (G : PG) (q : Int32 × PF × PG), rc i x y F G = some q → xn F ≤ xn q.2.1) {res : Int32 × PF × PG} (z0 : Int32) (F : PF) (G : PG) (hm : cb_X4_doStatement_9 fu rc z0 F G = some res) : xn F ≤ xn res.2.1 := by
  unfold cb_X4_doStatement_9 at hm
  by_cases c_1 : z0 = (0 : Int32)
  · have hm := (if_pos c_1).symm.trans hm
    exact (cn_X4_doStatement_12 fu rc hrn F G hm)
  · have hm := (if_neg c_1).symm.trans hm
    exact (cn_X4_doStatement_13 fu rc hrn F G hm)
theorem cw_X4_doStatement_9 (fu : Nat) (rc : RC) {dd : Nat} (hr : cH2 l v a rc dd) (hrn : ∀ (i : Nat) (x y : Int32) (F : PF) (G : PG) (q : Int32 × PF × PG), rc i x y F G = some q → xn F ≤ xn q.2.1) {res : Int32 × PF × PG} (C : cMC p R s m args c A v RX4 cX4_doStatement 4 (dd + 1 + 305) (60 * (dd + 1) + 18119) (xn res.2.1 - xn K0)) (hret : ∀ (b1 : Nat) (H1 : Heap) (locs1 : List Loc) (ls1 : Array Slot) (pc : Nat), cMW s A v a b1 K0 res.2.1 res.2.2 H1 locs1 → decode cX4_doStatement pc = .ok (.return_, 1) → W p l e R s m args below meth c H1 locs1 (xn res.2.1 - xn K0) (2 * (xn res.2.1 - xn K0)) Q (F0 m pc ls1 [])) (z0 : Int32) (F : PF) (G : PG) (hm : cb_X4_doStatement_9 fu rc z0 F G = some res) {b : Nat} {H : Heap} {locs : List Loc} (hw : cMW s A v a b K0 F G H locs) {ls : Array Slot} (hl : lv_has ls 4 [(0, .ref (a 204))]) : W p l e R s m args below meth c H locs (xn F - xn K0) (2 * (xn F - xn K0)) Q (F0 m 9 ls [.int z0]) := by
  have hx := C.1
  have hb := C.2.1
  unfold cb_X4_doStatement_9 at hm
  refine lv_if_ne (tgt := 13) hx hb dX4_doStatement_9 (by decide) (fun c_1 => ?_) (fun c_1 => ?_)
  · have hm := (if_neg c_1).symm.trans hm
    exact cw_X4_doStatement_13 fu rc hr hrn C hret F G hm hw (lv_sub hl [0] rfl)
  · have hm := (if_pos c_1).symm.trans hm
    exact cw_X4_doStatement_12 fu rc hr hrn C hret F G hm hw (lv_sub hl [] rfl)
theorem cn_X4_doStatement_0 (fu : Nat) (rc : RC) (hrn : ∀ (i : Nat) (x y : Int32) (F : PF) (G : PG) (q : Int32 × PF × PG), rc i x y F G = some q → xn F ≤ xn q.2.1) {res : Int32 × PF × PG} (F : PF) (G : PG) (hm : cb_X4_doStatement_0 fu rc F G = some res) : xn F ≤ xn res.2.1 := by
  unfold cb_X4_doStatement_0 at hm
  obtain ⟨⟨r1, F1, G1⟩, hc, hm⟩ := bind_elim hm
  exact Nat.le_trans (cn_X2_opens fu 11 F G _ hc) (cn_X4_doStatement_9 fu rc hrn r1 F1 G1 hm)
theorem cw_X4_doStatement_0 (fu : Nat) (rc : RC) {dd : Nat} (hr : cH2 l v a rc dd) (hrn : ∀ (i : Nat) (x y : Int32) (F : PF) (G : PG) (q : Int32 × PF × PG), rc i x y F G = some q → xn F ≤ xn q.2.1) {res : Int32 × PF × PG} (C : cMC p R s m args c A v RX4 cX4_doStatement 4 (dd + 1 + 305) (60 * (dd + 1) + 18119) (xn res.2.1 - xn K0)) (hret : ∀ (b1 : Nat) (H1 : Heap) (locs1 : List Loc) (ls1 : Array Slot) (pc : Nat), cMW s A v a b1 K0 res.2.1 res.2.2 H1 locs1 → decode cX4_doStatement pc = .ok (.return_, 1) → W p l e R s m args below meth c H1 locs1 (xn res.2.1 - xn K0) (2 * (xn res.2.1 - xn K0)) Q (F0 m pc ls1 [])) (F : PF) (G : PG) (hm : cb_X4_doStatement_0 fu rc F G = some res) {b : Nat} {H : Heap} {locs : List Loc} (hw : cMW s A v a b K0 F G H locs) {ls : Array Slot} (hl : lv_has ls 4 [(0, .ref (a 204))]) : W p l e R s m args below meth c H locs (xn F - xn K0) (2 * (xn F - xn K0)) Q (F0 m 0 ls []) := by
  have hx := C.1
  have hb := C.2.1
  unfold cb_X4_doStatement_0 at hm
  refine lv_aload_n hx hb dX4_doStatement_0 rfl (lv_at hl 0 rfl) ?_
  refine cg_X4_9 C hw dX4_doStatement_1 ?_
  refine lv_bipush (v := 11) hx hb dX4_doStatement_4 (by decide) ?_
  obtain ⟨⟨r1, F1, G1⟩, hc, hm⟩ := bind_elim hm
  refine ccallI (n := 1) (As := [.int 11]) (rest := []) C hw (ck_X2_opens l v a _ _ fu 11 F G r1 F1 G1 hc) (cn_X2_opens fu 11 F G _ hc) (Nat.sub_le_sub_right (cn_X4_doStatement_9 fu rc hrn r1 F1 G1 hm) _) (crecv_X2 C hw) cm_623 cm_363 cm_364 cm_307 cm_365 (by decide +kernel) rfl (by omega) (by omega) hl.1 rfl (Nat.le_of_ble_eq_true rfl) dX4_doStatement_6 (fun b H locs hw => ?_)
  exact cw_X4_doStatement_9 fu rc hr hrn C hret r1 F1 G1 hm hw (lv_sub hl [0] rfl)
theorem cm_X4_doStatement (fu : Nat) (rc : RC) (hrn : ∀ (i : Nat) (x y : Int32) (F : PF) (G : PG) (q : Int32 × PF × PG), rc i x y F G = some q → xn F ≤ xn q.2.1) (F : PF) (G : PG) (q : Int32 × PF × PG) (hm : ch_X4_doStatement fu rc F G = some q) : xn F ≤ xn q.2.1 := cn_X4_doStatement_0 fu rc hrn F G hm
theorem cq_X4_doStatement (l : Launch) (v : EV) (a : Nat → Nat) (b sz : Nat) (fu : Nat) (rc : RC) {dd : Nat} (hr : cH2 l v a rc dd) (hrn : ∀ (i : Nat) (x y : Int32) (F : PF) (G : PG) (q : Int32 × PF × PG), rc i x y F G = some q → xn F ≤ xn q.2.1) (F : PF) (G : PG) (r : Int32) (F1 : PF) (G1 : PG) (hm : ch_X4_doStatement fu rc F G = some (r, F1, G1)) : cMV l yX4_doStatement cX4_doStatement 4 (dd + 1 + 305) (60 * (dd + 1) + 18119) v a b sz [.ref (a 204)] F G F1 G1 := cMV.of (by decide) (Nat.le_of_ble_eq_true rfl) (fun p e R s m args below meth c Q A H locs ls C hw hl hret => cw_X4_doStatement_0 fu rc hr hrn (res := (r, F1, G1)) C hret F G hm hw hl)
end MB
