section MB
variable {p : Program} {l : Launch} {e : Env} {R : Room} {s : State} {m : MethodId} {args : Array Value} {below : List Frame} {meth : Method} {c : Code} {H : Heap} {locs : List Loc} {Q : State → Prop} {A : Nat → Prop} {v : EV} {a : Nat → Nat} {b ce : Nat} {own : String} {cc : ByteArray} {nL fr lo : Nat} {K0 : PF}
def cb_X5_wantValue_104 (fu : Nat) (F : PF) (G : PG) : PR := some (0, F, G)
def cb_X5_wantValue_98 (fu : Nat) (x2 : Int32) (F : PF) (G : PG) : PR := (cf_X5_note fu 5 x2 F G).bind (fun q => cb_X5_wantValue_104 fu q.2.1 q.2.2)
def cb_X5_wantValue_95 (fu : Nat) (x2 : Int32) (z0 : Int32) (F : PF) (G : PG) : PR := if z0 = (0 : Int32) then cb_X5_wantValue_98 fu x2 F G else cb_X5_wantValue_104 fu F G
def cb_X5_wantValue_82 (fu : Nat) (x1 : Int32) (x2 : Int32) (F : PF) (G : PG) : PR := if ixb x1 700 = true then ((cf_X8_gives fu (G 37 x1.toNatClampNeg) F G).bind (fun q => cb_X5_wantValue_95 fu x2 q.1 q.2.1 q.2.2)) else none
def cb_X5_wantValue_76 (fu : Nat) (x1 : Int32) (x2 : Int32) (x4 : Int32) (F : PF) (G : PG) : PR := if x4 = (4 : Int32) then cb_X5_wantValue_82 fu x1 x2 F G else cb_X5_wantValue_104 fu F G
def cb_X5_wantValue_70 (fu : Nat) (x1 : Int32) (x2 : Int32) (x4 : Int32) (F : PF) (G : PG) : PR := (cf_X5_note fu 4 x2 F G).bind (fun q => cb_X5_wantValue_76 fu x1 x2 x4 q.2.1 q.2.2)
def cb_X5_wantValue_67 (fu : Nat) (x1 : Int32) (x2 : Int32) (x4 : Int32) (z0 : Int32) (F : PF) (G : PG) : PR := if z0 = (0 : Int32) then cb_X5_wantValue_70 fu x1 x2 x4 F G else cb_X5_wantValue_76 fu x1 x2 x4 F G
def cb_X5_wantValue_63 (fu : Nat) (x1 : Int32) (x2 : Int32) (x3 : Int32) (x4 : Int32) (z0 : Int32) (F : PF) (G : PG) : PR := (cf_X5_fits fu z0 x3 F G).bind (fun q => cb_X5_wantValue_67 fu x1 x2 x4 q.1 q.2.1 q.2.2)
def cb_X5_wantValue_61 (fu : Nat) (x1 : Int32) (x2 : Int32) (x3 : Int32) (x4 : Int32) (F : PF) (G : PG) : PR := cb_X5_wantValue_63 fu x1 x2 x3 x4 x4 F G
def cb_X5_wantValue_57 (fu : Nat) (x1 : Int32) (x2 : Int32) (x3 : Int32) (x4 : Int32) (F : PF) (G : PG) : PR := cb_X5_wantValue_63 fu x1 x2 x3 x4 1 F G
def cb_X5_wantValue_52 (fu : Nat) (x1 : Int32) (x2 : Int32) (x3 : Int32) (x4 : Int32) (F : PF) (G : PG) : PR := if x4 = (0 : Int32) then cb_X5_wantValue_57 fu x1 x2 x3 x4 F G else cb_X5_wantValue_61 fu x1 x2 x3 x4 F G
def cb_X5_wantValue_45 (fu : Nat) (x1 : Int32) (x2 : Int32) (x3 : Int32) (x4 : Int32) (F : PF) (G : PG) : PR := if (F 46) = (0 : Int32) then cb_X5_wantValue_52 fu x1 x2 x3 x4 F G else cb_X5_wantValue_76 fu x1 x2 x4 F G
def cb_X5_wantValue_38 (fu : Nat) (x1 : Int32) (x2 : Int32) (x3 : Int32) (x4 : Int32) (F : PF) (G : PG) : PR := (cf_X5_note fu 7 x2 F G).bind (fun q => cb_X5_wantValue_45 fu x1 x2 x3 x4 q.2.1 q.2.2)
def cb_X5_wantValue_32 (fu : Nat) (x1 : Int32) (x2 : Int32) (x3 : Int32) (x4 : Int32) (F : PF) (G : PG) : PR := if x3 = (21 : Int32) then cb_X5_wantValue_38 fu x1 x2 x3 x4 F G else cb_X5_wantValue_45 fu x1 x2 x3 x4 F G
def cb_X5_wantValue_26 (fu : Nat) (x1 : Int32) (x2 : Int32) (x3 : Int32) (x4 : Int32) (F : PF) (G : PG) : PR := if x3 = (19 : Int32) then cb_X5_wantValue_38 fu x1 x2 x3 x4 F G else cb_X5_wantValue_32 fu x1 x2 x3 x4 F G
def cb_X5_wantValue_21 (fu : Nat) (x1 : Int32) (x2 : Int32) (x3 : Int32) (x4 : Int32) (F : PF) (G : PG) : PR := if x4 = (0 : Int32) then cb_X5_wantValue_26 fu x1 x2 x3 x4 F G else cb_X5_wantValue_38 fu x1 x2 x3 x4 F G
def cb_X5_wantValue_14 (fu : Nat) (x1 : Int32) (x2 : Int32) (x3 : Int32) (x4 : Int32) (F : PF) (G : PG) : PR := if (F 46) = (0 : Int32) then cb_X5_wantValue_45 fu x1 x2 x3 x4 F G else cb_X5_wantValue_21 fu x1 x2 x3 x4 F G
def cb_X5_wantValue_13 (fu : Nat) (F : PF) (G : PG) : PR := some (0, F, G)
def cb_X5_wantValue_5 (fu : Nat) (x1 : Int32) (x2 : Int32) (x3 : Int32) (z0 : Int32) (F : PF) (G : PG) : PR := if z0 = (-1 : Int32) then cb_X5_wantValue_13 fu F G else cb_X5_wantValue_14 fu x1 x2 x3 z0 F G
def cb_X5_wantValue_0 (fu : Nat) (x1 : Int32) (x2 : Int32) (x3 : Int32) (F : PF) (G : PG) : PR := (cf_X5_kind fu x1 F G).bind (fun q => cb_X5_wantValue_5 fu x1 x2 x3 q.1 q.2.1 q.2.2)
def cf_X5_wantValue (fu : Nat) (x1 : Int32) (x2 : Int32) (x3 : Int32) (F : PF) (G : PG) : PR := cb_X5_wantValue_0 fu x1 x2 x3 F G
theorem cn_X5_wantValue_104 (fu : Nat) {res : Int32 × PF × PG} (F : PF) (G : PG) (hm : cb_X5_wantValue_104 fu F G = some res) : xn F ≤ xn res.2.1 := by
  unfold cb_X5_wantValue_104 at hm
  obtain rfl := Option.some.inj hm
  exact Nat.le_refl _
theorem cw_X5_wantValue_104 (fu : Nat) {res : Int32 × PF × PG} (C : cMC p R s m args c A v RX5 cX5_wantValue 5 1 22 (xn res.2.1 - xn K0)) (hret : ∀ (b1 : Nat) (H1 : Heap) (locs1 : List Loc) (ls1 : Array Slot) (pc : Nat), cMW s A v a b1 K0 res.2.1 res.2.2 H1 locs1 → decode cX5_wantValue pc = .ok (.return_, 1) → W p l e R s m args below meth c H1 locs1 (xn res.2.1 - xn K0) (2 * (xn res.2.1 - xn K0)) Q (F0 m pc ls1 [])) (F : PF) (G : PG) (hm : cb_X5_wantValue_104 fu F G = some res) {b : Nat} {H : Heap} {locs : List Loc} (hw : cMW s A v a b K0 F G H locs) {ls : Array Slot} (hl : lv_has ls 5 []) : W p l e R s m args below meth c H locs (xn F - xn K0) (2 * (xn F - xn K0)) Q (F0 m 104 ls []) := by
  have hx := C.1
  have hb := C.2.1
  unfold cb_X5_wantValue_104 at hm
  obtain rfl := Option.some.inj hm
  exact hret _ _ _ _ _ hw dX5_wantValue_104
theorem cn_X5_wantValue_98 (fu : Nat) {res : Int32 × PF × PG} (x2 : Int32) (F : PF) (G : PG) (hm : cb_X5_wantValue_98 fu x2 F G = some res) : xn F ≤ xn res.2.1 := by
  unfold cb_X5_wantValue_98 at hm
  obtain ⟨⟨r1, F1, G1⟩, hc, hm⟩ := bind_elim hm
  exact Nat.le_trans (cn_X5_note fu 5 x2 F G _ hc) (cn_X5_wantValue_104 fu F1 G1 hm)
theorem cw_X5_wantValue_98 (fu : Nat) {res : Int32 × PF × PG} (C : cMC p R s m args c A v RX5 cX5_wantValue 5 1 22 (xn res.2.1 - xn K0)) (hret : ∀ (b1 : Nat) (H1 : Heap) (locs1 : List Loc) (ls1 : Array Slot) (pc : Nat), cMW s A v a b1 K0 res.2.1 res.2.2 H1 locs1 → decode cX5_wantValue pc = .ok (.return_, 1) → W p l e R s m args below meth c H1 locs1 (xn res.2.1 - xn K0) (2 * (xn res.2.1 - xn K0)) Q (F0 m pc ls1 [])) (x2 : Int32) (F : PF) (G : PG) (hm : cb_X5_wantValue_98 fu x2 F G = some res) {b : Nat} {H : Heap} {locs : List Loc} (hw : cMW s A v a b K0 F G H locs) {ls : Array Slot} (hl : lv_has ls 5 [(0, .ref (a 205)), (2, .int x2)]) : W p l e R s m args below meth c H locs (xn F - xn K0) (2 * (xn F - xn K0)) Q (F0 m 98 ls []) := by
  have hx := C.1
  have hb := C.2.1
  unfold cb_X5_wantValue_98 at hm
  refine lv_aload_n hx hb dX5_wantValue_98 rfl (lv_at hl 0 rfl) ?_
  refine lv_iconst (v := 5) hx hb dX5_wantValue_99 (by decide) ?_
  refine lv_iload_n hx hb dX5_wantValue_100 rfl (lv_at hl 1 rfl) ?_
  obtain ⟨⟨r1, F1, G1⟩, hc, hm⟩ := bind_elim hm
  refine ccallV (n := 2) (As := [.int 5, .int x2]) (rest := []) C hw (ck_X5_note l v a _ _ fu 5 x2 F G r1 F1 G1 hc) (cn_X5_note fu 5 x2 F G _ hc) (Nat.sub_le_sub_right (cn_X5_wantValue_104 fu F1 G1 hm) _) (crecv_X5 C hw) cm_424 cm_425 cm_426 cm_266 cm_427 (by decide +kernel) rfl (by omega) (by omega) hl.1 rfl (Nat.le_of_ble_eq_true rfl) dX5_wantValue_101 (fun b H locs hw => ?_)
  exact cw_X5_wantValue_104 fu C hret F1 G1 hm hw (lv_sub hl [] rfl)
theorem cn_X5_wantValue_95 (fu : Nat) {res : Int32 × PF × PG} (x2 : Int32) (z0 : Int32) (F : PF) (G : PG) (hm : cb_X5_wantValue_95 fu x2 z0 F G = some res) : xn F ≤ xn res.2.1 := by
  unfold cb_X5_wantValue_95 at hm
  by_cases c_1 : z0 = (0 : Int32)
  · have hm := (if_pos c_1).symm.trans hm
    exact (cn_X5_wantValue_98 fu x2 F G hm)
  · have hm := (if_neg c_1).symm.trans hm
    exact (cn_X5_wantValue_104 fu F G hm)
theorem cw_X5_wantValue_95 (fu : Nat) {res : Int32 × PF × PG} (C : cMC p R s m args c A v RX5 cX5_wantValue 5 1 22 (xn res.2.1 - xn K0)) (hret : ∀ (b1 : Nat) (H1 : Heap) (locs1 : List Loc) (ls1 : Array Slot) (pc : Nat), cMW s A v a b1 K0 res.2.1 res.2.2 H1 locs1 → decode cX5_wantValue pc = .ok (.return_, 1) → W p l e R s m args below meth c H1 locs1 (xn res.2.1 - xn K0) (2 * (xn res.2.1 - xn K0)) Q (F0 m pc ls1 [])) (x2 : Int32) (z0 : Int32) (F : PF) (G : PG) (hm : cb_X5_wantValue_95 fu x2 z0 F G = some res) {b : Nat} {H : Heap} {locs : List Loc} (hw : cMW s A v a b K0 F G H locs) {ls : Array Slot} (hl : lv_has ls 5 [(0, .ref (a 205)), (2, .int x2)]) : W p l e R s m args below meth c H locs (xn F - xn K0) (2 * (xn F - xn K0)) Q (F0 m 95 ls [.int z0]) := by
  have hx := C.1
  have hb := C.2.1
  unfold cb_X5_wantValue_95 at hm
  refine lv_if_ne (tgt := 104) hx hb dX5_wantValue_95 (by decide) (fun c_1 => ?_) (fun c_1 => ?_)
  · have hm := (if_neg c_1).symm.trans hm
    exact cw_X5_wantValue_104 fu C hret F G hm hw (lv_sub hl [] rfl)
  · have hm := (if_pos c_1).symm.trans hm
    exact cw_X5_wantValue_98 fu C hret x2 F G hm hw (lv_sub hl [0, 1] rfl)
theorem cn_X5_wantValue_82 (fu : Nat) {res : Int32 × PF × PG} (x1 : Int32) (x2 : Int32) (F : PF) (G : PG) (hm : cb_X5_wantValue_82 fu x1 x2 F G = some res) : xn F ≤ xn res.2.1 := by
  unfold cb_X5_wantValue_82 at hm
  have hm := (ix_elim hm).2
  obtain ⟨⟨r1, F1, G1⟩, hc, hm⟩ := bind_elim hm
  exact Nat.le_trans (cn_X8_gives fu (G 37 x1.toNatClampNeg) F G _ hc) (cn_X5_wantValue_95 fu x2 r1 F1 G1 hm)
theorem cw_X5_wantValue_82 (fu : Nat) {res : Int32 × PF × PG} (C : cMC p R s m args c A v RX5 cX5_wantValue 5 1 22 (xn res.2.1 - xn K0)) (hret : ∀ (b1 : Nat) (H1 : Heap) (locs1 : List Loc) (ls1 : Array Slot) (pc : Nat), cMW s A v a b1 K0 res.2.1 res.2.2 H1 locs1 → decode cX5_wantValue pc = .ok (.return_, 1) → W p l e R s m args below meth c H1 locs1 (xn res.2.1 - xn K0) (2 * (xn res.2.1 - xn K0)) Q (F0 m pc ls1 [])) (x1 : Int32) (x2 : Int32) (F : PF) (G : PG) (hm : cb_X5_wantValue_82 fu x1 x2 F G = some res) {b : Nat} {H : Heap} {locs : List Loc} (hw : cMW s A v a b K0 F G H locs) {ls : Array Slot} (hl : lv_has ls 5 [(0, .ref (a 205)), (1, .int x1), (2, .int x2)]) : W p l e R s m args below meth c H locs (xn F - xn K0) (2 * (xn F - xn K0)) Q (F0 m 82 ls []) := by
  have hx := C.1
  have hb := C.2.1
  unfold cb_X5_wantValue_82 at hm
  refine lv_aload_n hx hb dX5_wantValue_82 rfl (lv_at hl 0 rfl) ?_
  refine cg_X5_36 C hw dX5_wantValue_83 ?_
  refine lv_aload_n hx hb dX5_wantValue_86 rfl (lv_at hl 0 rfl) ?_
  refine cg_X5_24 C hw dX5_wantValue_87 ?_
  refine lv_iload_n hx hb dX5_wantValue_90 rfl (lv_at hl 1 rfl) ?_
  obtain ⟨hi, hm⟩ := ix_elim hm
  refine cal_37 C hw hi dX5_wantValue_91 ?_
  obtain ⟨⟨r1, F1, G1⟩, hc, hm⟩ := bind_elim hm
  refine ccallI (n := 1) (As := [.int (G 37 x1.toNatClampNeg)]) (rest := []) C hw (ck_X8_gives l v a _ _ fu (G 37 x1.toNatClampNeg) F G r1 F1 G1 hc) (cn_X8_gives fu (G 37 x1.toNatClampNeg) F G _ hc) (Nat.sub_le_sub_right (cn_X5_wantValue_95 fu x2 r1 F1 G1 hm) _) (crecv_X8 C hw) cm_492 cm_493 cm_494 cm_254 cm_495 (by decide +kernel) rfl (by omega) (by omega) hl.1 rfl (Nat.le_of_ble_eq_true rfl) dX5_wantValue_92 (fun b H locs hw => ?_)
  exact cw_X5_wantValue_95 fu C hret x2 r1 F1 G1 hm hw (lv_sub hl [0, 2] rfl)
theorem cn_X5_wantValue_76 (fu : Nat) {res : Int32 × PF × PG} (x1 : Int32) (x2 : Int32) (x4 : Int32) (F : PF) (G : PG) (hm : cb_X5_wantValue_76 fu x1 x2 x4 F G = some res) : xn F ≤ xn res.2.1 := by
  unfold cb_X5_wantValue_76 at hm
  by_cases c_1 : x4 = (4 : Int32)
  · have hm := (if_pos c_1).symm.trans hm
    exact (cn_X5_wantValue_82 fu x1 x2 F G hm)
  · have hm := (if_neg c_1).symm.trans hm
    exact (cn_X5_wantValue_104 fu F G hm)
theorem cw_X5_wantValue_76 (fu : Nat) {res : Int32 × PF × PG} (C : cMC p R s m args c A v RX5 cX5_wantValue 5 1 22 (xn res.2.1 - xn K0)) (hret : ∀ (b1 : Nat) (H1 : Heap) (locs1 : List Loc) (ls1 : Array Slot) (pc : Nat), cMW s A v a b1 K0 res.2.1 res.2.2 H1 locs1 → decode cX5_wantValue pc = .ok (.return_, 1) → W p l e R s m args below meth c H1 locs1 (xn res.2.1 - xn K0) (2 * (xn res.2.1 - xn K0)) Q (F0 m pc ls1 [])) (x1 : Int32) (x2 : Int32) (x4 : Int32) (F : PF) (G : PG) (hm : cb_X5_wantValue_76 fu x1 x2 x4 F G = some res) {b : Nat} {H : Heap} {locs : List Loc} (hw : cMW s A v a b K0 F G H locs) {ls : Array Slot} (hl : lv_has ls 5 [(0, .ref (a 205)), (1, .int x1), (2, .int x2), (4, .int x4)]) : W p l e R s m args below meth c H locs (xn F - xn K0) (2 * (xn F - xn K0)) Q (F0 m 76 ls []) := by
  have hx := C.1
  have hb := C.2.1
  unfold cb_X5_wantValue_76 at hm
  refine lv_iload hx hb dX5_wantValue_76 (lv_at hl 3 rfl) ?_
  refine lv_iconst (v := 4) hx hb dX5_wantValue_78 (by decide) ?_
  refine lv_icmp_ne (tgt := 104) hx hb dX5_wantValue_79 (by decide) (fun c_1 => ?_) (fun c_1 => ?_)
  · have hm := (if_neg c_1).symm.trans hm
    exact cw_X5_wantValue_104 fu C hret F G hm hw (lv_sub hl [] rfl)
  · have hm := (if_pos c_1).symm.trans hm
    exact cw_X5_wantValue_82 fu C hret x1 x2 F G hm hw (lv_sub hl [0, 1, 2] rfl)
theorem cn_X5_wantValue_70 (fu : Nat) {res : Int32 × PF × PG} (x1 : Int32) (x2 : Int32) (x4 : Int32) (F : PF) (G : PG) (hm : cb_X5_wantValue_70 fu x1 x2 x4 F G = some res) : xn F ≤ xn res.2.1 := by
  unfold cb_X5_wantValue_70 at hm
  obtain ⟨⟨r1, F1, G1⟩, hc, hm⟩ := bind_elim hm
  exact Nat.le_trans (cn_X5_note fu 4 x2 F G _ hc) (cn_X5_wantValue_76 fu x1 x2 x4 F1 G1 hm)
theorem cw_X5_wantValue_70 (fu : Nat) {res : Int32 × PF × PG} (C : cMC p R s m args c A v RX5 cX5_wantValue 5 1 22 (xn res.2.1 - xn K0)) (hret : ∀ (b1 : Nat) (H1 : Heap) (locs1 : List Loc) (ls1 : Array Slot) (pc : Nat), cMW s A v a b1 K0 res.2.1 res.2.2 H1 locs1 → decode cX5_wantValue pc = .ok (.return_, 1) → W p l e R s m args below meth c H1 locs1 (xn res.2.1 - xn K0) (2 * (xn res.2.1 - xn K0)) Q (F0 m pc ls1 [])) (x1 : Int32) (x2 : Int32) (x4 : Int32) (F : PF) (G : PG) (hm : cb_X5_wantValue_70 fu x1 x2 x4 F G = some res) {b : Nat} {H : Heap} {locs : List Loc} (hw : cMW s A v a b K0 F G H locs) {ls : Array Slot} (hl : lv_has ls 5 [(0, .ref (a 205)), (1, .int x1), (2, .int x2), (4, .int x4)]) : W p l e R s m args below meth c H locs (xn F - xn K0) (2 * (xn F - xn K0)) Q (F0 m 70 ls []) := by
  have hx := C.1
  have hb := C.2.1
  unfold cb_X5_wantValue_70 at hm
  refine lv_aload_n hx hb dX5_wantValue_70 rfl (lv_at hl 0 rfl) ?_
  refine lv_iconst (v := 4) hx hb dX5_wantValue_71 (by decide) ?_
  refine lv_iload_n hx hb dX5_wantValue_72 rfl (lv_at hl 2 rfl) ?_
  obtain ⟨⟨r1, F1, G1⟩, hc, hm⟩ := bind_elim hm
  refine ccallV (n := 2) (As := [.int 4, .int x2]) (rest := []) C hw (ck_X5_note l v a _ _ fu 4 x2 F G r1 F1 G1 hc) (cn_X5_note fu 4 x2 F G _ hc) (Nat.sub_le_sub_right (cn_X5_wantValue_76 fu x1 x2 x4 F1 G1 hm) _) (crecv_X5 C hw) cm_424 cm_425 cm_426 cm_266 cm_427 (by decide +kernel) rfl (by omega) (by omega) hl.1 rfl (Nat.le_of_ble_eq_true rfl) dX5_wantValue_73 (fun b H locs hw => ?_)
  exact cw_X5_wantValue_76 fu C hret x1 x2 x4 F1 G1 hm hw (lv_sub hl [0, 1, 2, 3] rfl)
theorem cn_X5_wantValue_67 (fu : Nat) {res : Int32 × PF × PG} (x1 : Int32) (x2 : Int32) (x4 : Int32) (z0 : Int32) (F : PF) (G : PG) (hm : cb_X5_wantValue_67 fu x1 x2 x4 z0 F G = some res) : xn F ≤ xn res.2.1 := by
  unfold cb_X5_wantValue_67 at hm
  by_cases c_1 : z0 = (0 : Int32)
  · have hm := (if_pos c_1).symm.trans hm
    exact (cn_X5_wantValue_70 fu x1 x2 x4 F G hm)
  · have hm := (if_neg c_1).symm.trans hm
    exact (cn_X5_wantValue_76 fu x1 x2 x4 F G hm)
theorem cw_X5_wantValue_67 (fu : Nat) {res : Int32 × PF × PG} (C : cMC p R s m args c A v RX5 cX5_wantValue 5 1 22 (xn res.2.1 - xn K0)) (hret : ∀ (b1 : Nat) (H1 : Heap) (locs1 : List Loc) (ls1 : Array Slot) (pc : Nat), cMW s A v a b1 K0 res.2.1 res.2.2 H1 locs1 → decode cX5_wantValue pc = .ok (.return_, 1) → W p l e R s m args below meth c H1 locs1 (xn res.2.1 - xn K0) (2 * (xn res.2.1 - xn K0)) Q (F0 m pc ls1 [])) (x1 : Int32) (x2 : Int32) (x4 : Int32) (z0 : Int32) (F : PF) (G : PG) (hm : cb_X5_wantValue_67 fu x1 x2 x4 z0 F G = some res) {b : Nat} {H : Heap} {locs : List Loc} (hw : cMW s A v a b K0 F G H locs) {ls : Array Slot} (hl : lv_has ls 5 [(0, .ref (a 205)), (1, .int x1), (2, .int x2), (4, .int x4)]) : W p l e R s m args below meth c H locs (xn F - xn K0) (2 * (xn F - xn K0)) Q (F0 m 67 ls [.int z0]) := by
  have hx := C.1
  have hb := C.2.1
  unfold cb_X5_wantValue_67 at hm
  refine lv_if_ne (tgt := 76) hx hb dX5_wantValue_67 (by decide) (fun c_1 => ?_) (fun c_1 => ?_)
  · have hm := (if_neg c_1).symm.trans hm
    exact cw_X5_wantValue_76 fu C hret x1 x2 x4 F G hm hw (lv_sub hl [0, 1, 2, 3] rfl)
  · have hm := (if_pos c_1).symm.trans hm
    exact cw_X5_wantValue_70 fu C hret x1 x2 x4 F G hm hw (lv_sub hl [0, 1, 2, 3] rfl)
theorem cn_X5_wantValue_63 (fu : Nat) {res : Int32 × PF × PG} (x1 : Int32) (x2 : Int32) (x3 : Int32) (x4 : Int32) (z0 : Int32) (F : PF) (G : PG) (hm : cb_X5_wantValue_63 fu x1 x2 x3 x4 z0 F G = some res) : xn F ≤ xn res.2.1 := by
  unfold cb_X5_wantValue_63 at hm
  obtain ⟨⟨r1, F1, G1⟩, hc, hm⟩ := bind_elim hm
  exact Nat.le_trans (cn_X5_fits fu z0 x3 F G _ hc) (cn_X5_wantValue_67 fu x1 x2 x4 r1 F1 G1 hm)
theorem cw_X5_wantValue_63 (fu : Nat) {res : Int32 × PF × PG} (C : cMC p R s m args c A v RX5 cX5_wantValue 5 1 22 (xn res.2.1 - xn K0)) (hret : ∀ (b1 : Nat) (H1 : Heap) (locs1 : List Loc) (ls1 : Array Slot) (pc : Nat), cMW s A v a b1 K0 res.2.1 res.2.2 H1 locs1 → decode cX5_wantValue pc = .ok (.return_, 1) → W p l e R s m args below meth c H1 locs1 (xn res.2.1 - xn K0) (2 * (xn res.2.1 - xn K0)) Q (F0 m pc ls1 [])) (x1 : Int32) (x2 : Int32) (x3 : Int32) (x4 : Int32) (z0 : Int32) (F : PF) (G : PG) (hm : cb_X5_wantValue_63 fu x1 x2 x3 x4 z0 F G = some res) {b : Nat} {H : Heap} {locs : List Loc} (hw : cMW s A v a b K0 F G H locs) {ls : Array Slot} (hl : lv_has ls 5 [(0, .ref (a 205)), (1, .int x1), (2, .int x2), (3, .int x3), (4, .int x4)]) : W p l e R s m args below meth c H locs (xn F - xn K0) (2 * (xn F - xn K0)) Q (F0 m 63 ls [.int z0]) := by
  have hx := C.1
  have hb := C.2.1
  unfold cb_X5_wantValue_63 at hm
  refine lv_iload_n hx hb dX5_wantValue_63 rfl (lv_at hl 3 rfl) ?_
  obtain ⟨⟨r1, F1, G1⟩, hc, hm⟩ := bind_elim hm
  refine ccallIS (n := 2) (As := [.int z0, .int x3]) (rest := []) C hw (ck_X5_fits l v a _ _ fu z0 x3 F G r1 F1 G1 hc) (cn_X5_fits fu z0 x3 F G _ hc) (Nat.sub_le_sub_right (cn_X5_wantValue_67 fu x1 x2 x4 r1 F1 G1 hm) _) cm_489 cm_490 cm_266 cm_491 (by decide +kernel) rfl (by omega) (by omega) hl.1 rfl (Nat.le_of_ble_eq_true rfl) dX5_wantValue_64 (fun b H locs hw => ?_)
  exact cw_X5_wantValue_67 fu C hret x1 x2 x4 r1 F1 G1 hm hw (lv_sub hl [0, 1, 2, 4] rfl)
theorem cn_X5_wantValue_61 (fu : Nat) {res : Int32 × PF × PG} (x1 : Int32) (x2 : Int32) (x3 : Int32) (x4 : Int32) (F : PF) (G : PG) (hm : cb_X5_wantValue_61 fu x1 x2 x3 x4 F G = some res) : xn F ≤ xn res.2.1 := by
  unfold cb_X5_wantValue_61 at hm
  exact (cn_X5_wantValue_63 fu x1 x2 x3 x4 x4 F G hm)
theorem cw_X5_wantValue_61 (fu : Nat) {res : Int32 × PF × PG} (C : cMC p R s m args c A v RX5 cX5_wantValue 5 1 22 (xn res.2.1 - xn K0)) (hret : ∀ (b1 : Nat) (H1 : Heap) (locs1 : List Loc) (ls1 : Array Slot) (pc : Nat), cMW s A v a b1 K0 res.2.1 res.2.2 H1 locs1 → decode cX5_wantValue pc = .ok (.return_, 1) → W p l e R s m args below meth c H1 locs1 (xn res.2.1 - xn K0) (2 * (xn res.2.1 - xn K0)) Q (F0 m pc ls1 [])) (x1 : Int32) (x2 : Int32) (x3 : Int32) (x4 : Int32) (F : PF) (G : PG) (hm : cb_X5_wantValue_61 fu x1 x2 x3 x4 F G = some res) {b : Nat} {H : Heap} {locs : List Loc} (hw : cMW s A v a b K0 F G H locs) {ls : Array Slot} (hl : lv_has ls 5 [(0, .ref (a 205)), (1, .int x1), (2, .int x2), (3, .int x3), (4, .int x4)]) : W p l e R s m args below meth c H locs (xn F - xn K0) (2 * (xn F - xn K0)) Q (F0 m 61 ls []) := by
  have hx := C.1
  have hb := C.2.1
  unfold cb_X5_wantValue_61 at hm
  refine lv_iload hx hb dX5_wantValue_61 (lv_at hl 4 rfl) ?_
  exact cw_X5_wantValue_63 fu C hret x1 x2 x3 x4 x4 F G hm hw (lv_sub hl [0, 1, 2, 3, 4] rfl)
theorem cn_X5_wantValue_57 (fu : Nat) {res : Int32 × PF × PG} (x1 : Int32) (x2 : Int32) (x3 : Int32) (x4 : Int32) (F : PF) (G : PG) (hm : cb_X5_wantValue_57 fu x1 x2 x3 x4 F G = some res) : xn F ≤ xn res.2.1 := by
  unfold cb_X5_wantValue_57 at hm
  exact (cn_X5_wantValue_63 fu x1 x2 x3 x4 1 F G hm)
theorem cw_X5_wantValue_57 (fu : Nat) {res : Int32 × PF × PG} (C : cMC p R s m args c A v RX5 cX5_wantValue 5 1 22 (xn res.2.1 - xn K0)) (hret : ∀ (b1 : Nat) (H1 : Heap) (locs1 : List Loc) (ls1 : Array Slot) (pc : Nat), cMW s A v a b1 K0 res.2.1 res.2.2 H1 locs1 → decode cX5_wantValue pc = .ok (.return_, 1) → W p l e R s m args below meth c H1 locs1 (xn res.2.1 - xn K0) (2 * (xn res.2.1 - xn K0)) Q (F0 m pc ls1 [])) (x1 : Int32) (x2 : Int32) (x3 : Int32) (x4 : Int32) (F : PF) (G : PG) (hm : cb_X5_wantValue_57 fu x1 x2 x3 x4 F G = some res) {b : Nat} {H : Heap} {locs : List Loc} (hw : cMW s A v a b K0 F G H locs) {ls : Array Slot} (hl : lv_has ls 5 [(0, .ref (a 205)), (1, .int x1), (2, .int x2), (3, .int x3), (4, .int x4)]) : W p l e R s m args below meth c H locs (xn F - xn K0) (2 * (xn F - xn K0)) Q (F0 m 57 ls []) := by
  have hx := C.1
  have hb := C.2.1
  unfold cb_X5_wantValue_57 at hm
  refine lv_iconst (v := 1) hx hb dX5_wantValue_57 (by decide) ?_
  refine lv_goto (tgt := 63) hx hb dX5_wantValue_58 (by decide) ?_
  exact cw_X5_wantValue_63 fu C hret x1 x2 x3 x4 1 F G hm hw (lv_sub hl [0, 1, 2, 3, 4] rfl)
theorem cn_X5_wantValue_52 (fu : Nat) {res : Int32 × PF × PG} (x1 : Int32) (x2 : Int32) (x3 : Int32) (x4 : Int32) (F : PF) (G : PG) (hm : cb_X5_wantValue_52 fu x1 x2 x3 x4 F G = some res) : xn F ≤ xn res.2.1 := by
  unfold cb_X5_wantValue_52 at hm
  by_cases c_1 : x4 = (0 : Int32)
  · have hm := (if_pos c_1).symm.trans hm
    exact (cn_X5_wantValue_57 fu x1 x2 x3 x4 F G hm)
  · have hm := (if_neg c_1).symm.trans hm
    exact (cn_X5_wantValue_61 fu x1 x2 x3 x4 F G hm)
theorem cw_X5_wantValue_52 (fu : Nat) {res : Int32 × PF × PG} (C : cMC p R s m args c A v RX5 cX5_wantValue 5 1 22 (xn res.2.1 - xn K0)) (hret : ∀ (b1 : Nat) (H1 : Heap) (locs1 : List Loc) (ls1 : Array Slot) (pc : Nat), cMW s A v a b1 K0 res.2.1 res.2.2 H1 locs1 → decode cX5_wantValue pc = .ok (.return_, 1) → W p l e R s m args below meth c H1 locs1 (xn res.2.1 - xn K0) (2 * (xn res.2.1 - xn K0)) Q (F0 m pc ls1 [])) (x1 : Int32) (x2 : Int32) (x3 : Int32) (x4 : Int32) (F : PF) (G : PG) (hm : cb_X5_wantValue_52 fu x1 x2 x3 x4 F G = some res) {b : Nat} {H : Heap} {locs : List Loc} (hw : cMW s A v a b K0 F G H locs) {ls : Array Slot} (hl : lv_has ls 5 [(0, .ref (a 205)), (1, .int x1), (2, .int x2), (3, .int x3), (4, .int x4)]) : W p l e R s m args below meth c H locs (xn F - xn K0) (2 * (xn F - xn K0)) Q (F0 m 52 ls []) := by
  have hx := C.1
  have hb := C.2.1
  unfold cb_X5_wantValue_52 at hm
  refine lv_iload hx hb dX5_wantValue_52 (lv_at hl 4 rfl) ?_
  refine lv_if_ne (tgt := 61) hx hb dX5_wantValue_54 (by decide) (fun c_1 => ?_) (fun c_1 => ?_)
  · have hm := (if_neg c_1).symm.trans hm
    exact cw_X5_wantValue_61 fu C hret x1 x2 x3 x4 F G hm hw (lv_sub hl [0, 1, 2, 3, 4] rfl)
  · have hm := (if_pos c_1).symm.trans hm
    exact cw_X5_wantValue_57 fu C hret x1 x2 x3 x4 F G hm hw (lv_sub hl [0, 1, 2, 3, 4] rfl)
theorem cn_X5_wantValue_45 (fu : Nat) {res : Int32 × PF × PG} (x1 : Int32) (x2 : Int32) (x3 : Int32) (x4 : Int32) (F : PF) (G : PG) (hm : cb_X5_wantValue_45 fu x1 x2 x3 x4 F G = some res) : xn F ≤ xn res.2.1 := by
  unfold cb_X5_wantValue_45 at hm
  by_cases c_1 : (F 46) = (0 : Int32)
  · have hm := (if_pos c_1).symm.trans hm
    exact (cn_X5_wantValue_52 fu x1 x2 x3 x4 F G hm)
  · have hm := (if_neg c_1).symm.trans hm
    exact (cn_X5_wantValue_76 fu x1 x2 x4 F G hm)
theorem cw_X5_wantValue_45 (fu : Nat) {res : Int32 × PF × PG} (C : cMC p R s m args c A v RX5 cX5_wantValue 5 1 22 (xn res.2.1 - xn K0)) (hret : ∀ (b1 : Nat) (H1 : Heap) (locs1 : List Loc) (ls1 : Array Slot) (pc : Nat), cMW s A v a b1 K0 res.2.1 res.2.2 H1 locs1 → decode cX5_wantValue pc = .ok (.return_, 1) → W p l e R s m args below meth c H1 locs1 (xn res.2.1 - xn K0) (2 * (xn res.2.1 - xn K0)) Q (F0 m pc ls1 [])) (x1 : Int32) (x2 : Int32) (x3 : Int32) (x4 : Int32) (F : PF) (G : PG) (hm : cb_X5_wantValue_45 fu x1 x2 x3 x4 F G = some res) {b : Nat} {H : Heap} {locs : List Loc} (hw : cMW s A v a b K0 F G H locs) {ls : Array Slot} (hl : lv_has ls 5 [(0, .ref (a 205)), (1, .int x1), (2, .int x2), (3, .int x3), (4, .int x4)]) : W p l e R s m args below meth c H locs (xn F - xn K0) (2 * (xn F - xn K0)) Q (F0 m 45 ls []) := by
  have hx := C.1
  have hb := C.2.1
  unfold cb_X5_wantValue_45 at hm
  refine lv_aload_n hx hb dX5_wantValue_45 rfl (lv_at hl 0 rfl) ?_
  refine cg_X5_57 C hw dX5_wantValue_46 ?_
  refine lv_if_ne (tgt := 76) hx hb dX5_wantValue_49 (by decide) (fun c_1 => ?_) (fun c_1 => ?_)
  · have hm := (if_neg c_1).symm.trans hm
    exact cw_X5_wantValue_76 fu C hret x1 x2 x4 F G hm hw (lv_sub hl [0, 1, 2, 4] rfl)
  · have hm := (if_pos c_1).symm.trans hm
    exact cw_X5_wantValue_52 fu C hret x1 x2 x3 x4 F G hm hw (lv_sub hl [0, 1, 2, 3, 4] rfl)
theorem cn_X5_wantValue_38 (fu : Nat) {res : Int32 × PF × PG} (x1 : Int32) (x2 : Int32) (x3 : Int32) (x4 : Int32) (F : PF) (G : PG) (hm : cb_X5_wantValue_38 fu x1 x2 x3 x4 F G = some res) : xn F ≤ xn res.2.1 := by
  unfold cb_X5_wantValue_38 at hm
  obtain ⟨⟨r1, F1, G1⟩, hc, hm⟩ := bind_elim hm
  exact Nat.le_trans (cn_X5_note fu 7 x2 F G _ hc) (cn_X5_wantValue_45 fu x1 x2 x3 x4 F1 G1 hm)
theorem cw_X5_wantValue_38 (fu : Nat) {res : Int32 × PF × PG} (C : cMC p R s m args c A v RX5 cX5_wantValue 5 1 22 (xn res.2.1 - xn K0)) (hret : ∀ (b1 : Nat) (H1 : Heap) (locs1 : List Loc) (ls1 : Array Slot) (pc : Nat), cMW s A v a b1 K0 res.2.1 res.2.2 H1 locs1 → decode cX5_wantValue pc = .ok (.return_, 1) → W p l e R s m args below meth c H1 locs1 (xn res.2.1 - xn K0) (2 * (xn res.2.1 - xn K0)) Q (F0 m pc ls1 [])) (x1 : Int32) (x2 : Int32) (x3 : Int32) (x4 : Int32) (F : PF) (G : PG) (hm : cb_X5_wantValue_38 fu x1 x2 x3 x4 F G = some res) {b : Nat} {H : Heap} {locs : List Loc} (hw : cMW s A v a b K0 F G H locs) {ls : Array Slot} (hl : lv_has ls 5 [(0, .ref (a 205)), (1, .int x1), (2, .int x2), (3, .int x3), (4, .int x4)]) : W p l e R s m args below meth c H locs (xn F - xn K0) (2 * (xn F - xn K0)) Q (F0 m 38 ls []) := by
  have hx := C.1
  have hb := C.2.1
  unfold cb_X5_wantValue_38 at hm
  refine lv_aload_n hx hb dX5_wantValue_38 rfl (lv_at hl 0 rfl) ?_
  refine lv_bipush (v := 7) hx hb dX5_wantValue_39 (by decide) ?_
  refine lv_iload_n hx hb dX5_wantValue_41 rfl (lv_at hl 2 rfl) ?_
  obtain ⟨⟨r1, F1, G1⟩, hc, hm⟩ := bind_elim hm
  refine ccallV (n := 2) (As := [.int 7, .int x2]) (rest := []) C hw (ck_X5_note l v a _ _ fu 7 x2 F G r1 F1 G1 hc) (cn_X5_note fu 7 x2 F G _ hc) (Nat.sub_le_sub_right (cn_X5_wantValue_45 fu x1 x2 x3 x4 F1 G1 hm) _) (crecv_X5 C hw) cm_424 cm_425 cm_426 cm_266 cm_427 (by decide +kernel) rfl (by omega) (by omega) hl.1 rfl (Nat.le_of_ble_eq_true rfl) dX5_wantValue_42 (fun b H locs hw => ?_)
  exact cw_X5_wantValue_45 fu C hret x1 x2 x3 x4 F1 G1 hm hw (lv_sub hl [0, 1, 2, 3, 4] rfl)
theorem cn_X5_wantValue_32 (fu : Nat) {res : Int32 × PF × PG} (x1 : Int32) (x2 : Int32) (x3 : Int32) (x4 : Int32) (F : PF) (G : PG) (hm : cb_X5_wantValue_32 fu x1 x2 x3 x4 F G = some res) : xn F ≤ xn res.2.1 := by
  unfold cb_X5_wantValue_32 at hm
  by_cases c_1 : x3 = (21 : Int32)
  · have hm := (if_pos c_1).symm.trans hm
    exact (cn_X5_wantValue_38 fu x1 x2 x3 x4 F G hm)
  · have hm := (if_neg c_1).symm.trans hm
    exact (cn_X5_wantValue_45 fu x1 x2 x3 x4 F G hm)
theorem cw_X5_wantValue_32 (fu : Nat) {res : Int32 × PF × PG} (C : cMC p R s m args c A v RX5 cX5_wantValue 5 1 22 (xn res.2.1 - xn K0)) (hret : ∀ (b1 : Nat) (H1 : Heap) (locs1 : List Loc) (ls1 : Array Slot) (pc : Nat), cMW s A v a b1 K0 res.2.1 res.2.2 H1 locs1 → decode cX5_wantValue pc = .ok (.return_, 1) → W p l e R s m args below meth c H1 locs1 (xn res.2.1 - xn K0) (2 * (xn res.2.1 - xn K0)) Q (F0 m pc ls1 [])) (x1 : Int32) (x2 : Int32) (x3 : Int32) (x4 : Int32) (F : PF) (G : PG) (hm : cb_X5_wantValue_32 fu x1 x2 x3 x4 F G = some res) {b : Nat} {H : Heap} {locs : List Loc} (hw : cMW s A v a b K0 F G H locs) {ls : Array Slot} (hl : lv_has ls 5 [(0, .ref (a 205)), (1, .int x1), (2, .int x2), (3, .int x3), (4, .int x4)]) : W p l e R s m args below meth c H locs (xn F - xn K0) (2 * (xn F - xn K0)) Q (F0 m 32 ls []) := by
  have hx := C.1
  have hb := C.2.1
  unfold cb_X5_wantValue_32 at hm
  refine lv_iload_n hx hb dX5_wantValue_32 rfl (lv_at hl 3 rfl) ?_
  refine lv_bipush (v := 21) hx hb dX5_wantValue_33 (by decide) ?_
  refine lv_icmp_ne (tgt := 45) hx hb dX5_wantValue_35 (by decide) (fun c_1 => ?_) (fun c_1 => ?_)
  · have hm := (if_neg c_1).symm.trans hm
    exact cw_X5_wantValue_45 fu C hret x1 x2 x3 x4 F G hm hw (lv_sub hl [0, 1, 2, 3, 4] rfl)
  · have hm := (if_pos c_1).symm.trans hm
    exact cw_X5_wantValue_38 fu C hret x1 x2 x3 x4 F G hm hw (lv_sub hl [0, 1, 2, 3, 4] rfl)
theorem cn_X5_wantValue_26 (fu : Nat) {res : Int32 × PF × PG} (x1 : Int32) (x2 : Int32) (x3 : Int32) (x4 : Int32) (F : PF) (G : PG) (hm : cb_X5_wantValue_26 fu x1 x2 x3 x4 F G = some res) : xn F ≤ xn res.2.1 := by
  unfold cb_X5_wantValue_26 at hm
  by_cases c_1 : x3 = (19 : Int32)
  · have hm := (if_pos c_1).symm.trans hm
    exact (cn_X5_wantValue_38 fu x1 x2 x3 x4 F G hm)
  · have hm := (if_neg c_1).symm.trans hm
    exact (cn_X5_wantValue_32 fu x1 x2 x3 x4 F G hm)
theorem cw_X5_wantValue_26 (fu : Nat) {res : Int32 × PF × PG} (C : cMC p R s m args c A v RX5 cX5_wantValue 5 1 22 (xn res.2.1 - xn K0)) (hret : ∀ (b1 : Nat) (H1 : Heap) (locs1 : List Loc) (ls1 : Array Slot) (pc : Nat), cMW s A v a b1 K0 res.2.1 res.2.2 H1 locs1 → decode cX5_wantValue pc = .ok (.return_, 1) → W p l e R s m args below meth c H1 locs1 (xn res.2.1 - xn K0) (2 * (xn res.2.1 - xn K0)) Q (F0 m pc ls1 [])) (x1 : Int32) (x2 : Int32) (x3 : Int32) (x4 : Int32) (F : PF) (G : PG) (hm : cb_X5_wantValue_26 fu x1 x2 x3 x4 F G = some res) {b : Nat} {H : Heap} {locs : List Loc} (hw : cMW s A v a b K0 F G H locs) {ls : Array Slot} (hl : lv_has ls 5 [(0, .ref (a 205)), (1, .int x1), (2, .int x2), (3, .int x3), (4, .int x4)]) : W p l e R s m args below meth c H locs (xn F - xn K0) (2 * (xn F - xn K0)) Q (F0 m 26 ls []) := by
  have hx := C.1
  have hb := C.2.1
  unfold cb_X5_wantValue_26 at hm
  refine lv_iload_n hx hb dX5_wantValue_26 rfl (lv_at hl 3 rfl) ?_
  refine lv_bipush (v := 19) hx hb dX5_wantValue_27 (by decide) ?_
  refine lv_icmp_eq (tgt := 38) hx hb dX5_wantValue_29 (by decide) (fun c_1 => ?_) (fun c_1 => ?_)
  · have hm := (if_pos c_1).symm.trans hm
    exact cw_X5_wantValue_38 fu C hret x1 x2 x3 x4 F G hm hw (lv_sub hl [0, 1, 2, 3, 4] rfl)
  · have hm := (if_neg c_1).symm.trans hm
    exact cw_X5_wantValue_32 fu C hret x1 x2 x3 x4 F G hm hw (lv_sub hl [0, 1, 2, 3, 4] rfl)
theorem cn_X5_wantValue_21 (fu : Nat) {res : Int32 × PF × PG} (x1 : Int32) (x2 : Int32) (x3 : Int32) (x4 : Int32) (F : PF) (G : PG) (hm : cb_X5_wantValue_21 fu x1 x2 x3 x4 F G = some res) : xn F ≤ xn res.2.1 := by
  unfold cb_X5_wantValue_21 at hm
  by_cases c_1 : x4 = (0 : Int32)
  · have hm := (if_pos c_1).symm.trans hm
    exact (cn_X5_wantValue_26 fu x1 x2 x3 x4 F G hm)
  · have hm := (if_neg c_1).symm.trans hm
    exact (cn_X5_wantValue_38 fu x1 x2 x3 x4 F G hm)
theorem cw_X5_wantValue_21 (fu : Nat) {res : Int32 × PF × PG} (C : cMC p R s m args c A v RX5 cX5_wantValue 5 1 22 (xn res.2.1 - xn K0)) (hret : ∀ (b1 : Nat) (H1 : Heap) (locs1 : List Loc) (ls1 : Array Slot) (pc : Nat), cMW s A v a b1 K0 res.2.1 res.2.2 H1 locs1 → decode cX5_wantValue pc = .ok (.return_, 1) → W p l e R s m args below meth c H1 locs1 (xn res.2.1 - xn K0) (2 * (xn res.2.1 - xn K0)) Q (F0 m pc ls1 [])) (x1 : Int32) (x2 : Int32) (x3 : Int32) (x4 : Int32) (F : PF) (G : PG) (hm : cb_X5_wantValue_21 fu x1 x2 x3 x4 F G = some res) {b : Nat} {H : Heap} {locs : List Loc} (hw : cMW s A v a b K0 F G H locs) {ls : Array Slot} (hl : lv_has ls 5 [(0, .ref (a 205)), (1, .int x1), (2, .int x2), (3, .int x3), (4, .int x4)]) : W p l e R s m args below meth c H locs (xn F - xn K0) (2 * (xn F - xn K0)) Q (F0 m 21 ls []) := by
  have hx := C.1
  have hb := C.2.1
  unfold cb_X5_wantValue_21 at hm
  refine lv_iload hx hb dX5_wantValue_21 (lv_at hl 4 rfl) ?_
  refine lv_if_ne (tgt := 38) hx hb dX5_wantValue_23 (by decide) (fun c_1 => ?_) (fun c_1 => ?_)
  · have hm := (if_neg c_1).symm.trans hm
    exact cw_X5_wantValue_38 fu C hret x1 x2 x3 x4 F G hm hw (lv_sub hl [0, 1, 2, 3, 4] rfl)
  · have hm := (if_pos c_1).symm.trans hm
    exact cw_X5_wantValue_26 fu C hret x1 x2 x3 x4 F G hm hw (lv_sub hl [0, 1, 2, 3, 4] rfl)
theorem cn_X5_wantValue_14 (fu : Nat) {res : Int32 × PF × PG} (x1 : Int32) (x2 : Int32) (x3 : Int32) (x4 : Int32) (F : PF) (G : PG) (hm : cb_X5_wantValue_14 fu x1 x2 x3 x4 F G = some res) : xn F ≤ xn res.2.1 := by
  unfold cb_X5_wantValue_14 at hm
  by_cases c_1 : (F 46) = (0 : Int32)
  · have hm := (if_pos c_1).symm.trans hm
    exact (cn_X5_wantValue_45 fu x1 x2 x3 x4 F G hm)
  · have hm := (if_neg c_1).symm.trans hm
    exact (cn_X5_wantValue_21 fu x1 x2 x3 x4 F G hm)
theorem cw_X5_wantValue_14 (fu : Nat) {res : Int32 × PF × PG} (C : cMC p R s m args c A v RX5 cX5_wantValue 5 1 22 (xn res.2.1 - xn K0)) (hret : ∀ (b1 : Nat) (H1 : Heap) (locs1 : List Loc) (ls1 : Array Slot) (pc : Nat), cMW s A v a b1 K0 res.2.1 res.2.2 H1 locs1 → decode cX5_wantValue pc = .ok (.return_, 1) → W p l e R s m args below meth c H1 locs1 (xn res.2.1 - xn K0) (2 * (xn res.2.1 - xn K0)) Q (F0 m pc ls1 [])) (x1 : Int32) (x2 : Int32) (x3 : Int32) (x4 : Int32) (F : PF) (G : PG) (hm : cb_X5_wantValue_14 fu x1 x2 x3 x4 F G = some res) {b : Nat} {H : Heap} {locs : List Loc} (hw : cMW s A v a b K0 F G H locs) {ls : Array Slot} (hl : lv_has ls 5 [(0, .ref (a 205)), (1, .int x1), (2, .int x2), (3, .int x3), (4, .int x4)]) : W p l e R s m args below meth c H locs (xn F - xn K0) (2 * (xn F - xn K0)) Q (F0 m 14 ls []) := by
  have hx := C.1
  have hb := C.2.1
  unfold cb_X5_wantValue_14 at hm
  refine lv_aload_n hx hb dX5_wantValue_14 rfl (lv_at hl 0 rfl) ?_
  refine cg_X5_57 C hw dX5_wantValue_15 ?_
  refine lv_if_eq (tgt := 45) hx hb dX5_wantValue_18 (by decide) (fun c_1 => ?_) (fun c_1 => ?_)
  · have hm := (if_pos c_1).symm.trans hm
    exact cw_X5_wantValue_45 fu C hret x1 x2 x3 x4 F G hm hw (lv_sub hl [0, 1, 2, 3, 4] rfl)
  · have hm := (if_neg c_1).symm.trans hm
    exact cw_X5_wantValue_21 fu C hret x1 x2 x3 x4 F G hm hw (lv_sub hl [0, 1, 2, 3, 4] rfl)
theorem cn_X5_wantValue_13 (fu : Nat) {res : Int32 × PF × PG} (F : PF) (G : PG) (hm : cb_X5_wantValue_13 fu F G = some res) : xn F ≤ xn res.2.1 := by
  unfold cb_X5_wantValue_13 at hm
  obtain rfl := Option.some.inj hm
  exact Nat.le_refl _
theorem cw_X5_wantValue_13 (fu : Nat) {res : Int32 × PF × PG} (C : cMC p R s m args c A v RX5 cX5_wantValue 5 1 22 (xn res.2.1 - xn K0)) (hret : ∀ (b1 : Nat) (H1 : Heap) (locs1 : List Loc) (ls1 : Array Slot) (pc : Nat), cMW s A v a b1 K0 res.2.1 res.2.2 H1 locs1 → decode cX5_wantValue pc = .ok (.return_, 1) → W p l e R s m args below meth c H1 locs1 (xn res.2.1 - xn K0) (2 * (xn res.2.1 - xn K0)) Q (F0 m pc ls1 [])) (F : PF) (G : PG) (hm : cb_X5_wantValue_13 fu F G = some res) {b : Nat} {H : Heap} {locs : List Loc} (hw : cMW s A v a b K0 F G H locs) {ls : Array Slot} (hl : lv_has ls 5 []) : W p l e R s m args below meth c H locs (xn F - xn K0) (2 * (xn F - xn K0)) Q (F0 m 13 ls []) := by
  have hx := C.1
  have hb := C.2.1
  unfold cb_X5_wantValue_13 at hm
  obtain rfl := Option.some.inj hm
  exact hret _ _ _ _ _ hw dX5_wantValue_13
theorem cn_X5_wantValue_5 (fu : Nat) {res : Int32 × PF × PG} (x1 : Int32) (x2 : Int32) (x3 : Int32) (z0 : Int32) (F : PF) (G : PG) (hm : cb_X5_wantValue_5 fu x1 x2 x3 z0 F G = some res) : xn F ≤ xn res.2.1 := by
  unfold cb_X5_wantValue_5 at hm
  by_cases c_1 : z0 = (-1 : Int32)
  · have hm := (if_pos c_1).symm.trans hm
    exact (cn_X5_wantValue_13 fu F G hm)
  · have hm := (if_neg c_1).symm.trans hm
    exact (cn_X5_wantValue_14 fu x1 x2 x3 z0 F G hm)
theorem cw_X5_wantValue_5 (fu : Nat) {res : Int32 × PF × PG} (C : cMC p R s m args c A v RX5 cX5_wantValue 5 1 22 (xn res.2.1 - xn K0)) (hret : ∀ (b1 : Nat) (H1 : Heap) (locs1 : List Loc) (ls1 : Array Slot) (pc : Nat), cMW s A v a b1 K0 res.2.1 res.2.2 H1 locs1 → decode cX5_wantValue pc = .ok (.return_, 1) → W p l e R s m args below meth c H1 locs1 (xn res.2.1 - xn K0) (2 * (xn res.2.1 - xn K0)) Q (F0 m pc ls1 [])) (x1 : Int32) (x2 : Int32) (x3 : Int32) (z0 : Int32) (F : PF) (G : PG) (hm : cb_X5_wantValue_5 fu x1 x2 x3 z0 F G = some res) {b : Nat} {H : Heap} {locs : List Loc} (hw : cMW s A v a b K0 F G H locs) {ls : Array Slot} (hl : lv_has ls 5 [(0, .ref (a 205)), (1, .int x1), (2, .int x2), (3, .int x3)]) : W p l e R s m args below meth c H locs (xn F - xn K0) (2 * (xn F - xn K0)) Q (F0 m 5 ls [.int z0]) := by
  have hx := C.1
  have hb := C.2.1
  unfold cb_X5_wantValue_5 at hm
  refine lv_istore (lv' := [(4, .int z0), (0, .ref (a 205)), (1, .int x1), (2, .int x2), (3, .int x3)]) hx hb dX5_wantValue_5 hl (by decide) rfl (fun ls hl => ?_)
  refine lv_iload hx hb dX5_wantValue_7 (lv_at hl 0 rfl) ?_
  refine lv_iconst (v := (-1)) hx hb dX5_wantValue_9 (by decide) ?_
  refine lv_icmp_ne (tgt := 14) hx hb dX5_wantValue_10 (by decide) (fun c_1 => ?_) (fun c_1 => ?_)
  · have hm := (if_neg c_1).symm.trans hm
    exact cw_X5_wantValue_14 fu C hret x1 x2 x3 z0 F G hm hw (lv_sub hl [1, 2, 3, 4, 0] rfl)
  · have hm := (if_pos c_1).symm.trans hm
    exact cw_X5_wantValue_13 fu C hret F G hm hw (lv_sub hl [] rfl)
theorem cn_X5_wantValue_0 (fu : Nat) {res : Int32 × PF × PG} (x1 : Int32) (x2 : Int32) (x3 : Int32) (F : PF) (G : PG) (hm : cb_X5_wantValue_0 fu x1 x2 x3 F G = some res) : xn F ≤ xn res.2.1 := by
  unfold cb_X5_wantValue_0 at hm
  obtain ⟨⟨r1, F1, G1⟩, hc, hm⟩ := bind_elim hm
  exact Nat.le_trans (cn_X5_kind fu x1 F G _ hc) (cn_X5_wantValue_5 fu x1 x2 x3 r1 F1 G1 hm)
theorem cw_X5_wantValue_0 (fu : Nat) {res : Int32 × PF × PG} (C : cMC p R s m args c A v RX5 cX5_wantValue 5 1 22 (xn res.2.1 - xn K0)) (hret : ∀ (b1 : Nat) (H1 : Heap) (locs1 : List Loc) (ls1 : Array Slot) (pc : Nat), cMW s A v a b1 K0 res.2.1 res.2.2 H1 locs1 → decode cX5_wantValue pc = .ok (.return_, 1) → W p l e R s m args below meth c H1 locs1 (xn res.2.1 - xn K0) (2 * (xn res.2.1 - xn K0)) Q (F0 m pc ls1 [])) (x1 : Int32) (x2 : Int32) (x3 : Int32) (F : PF) (G : PG) (hm : cb_X5_wantValue_0 fu x1 x2 x3 F G = some res) {b : Nat} {H : Heap} {locs : List Loc} (hw : cMW s A v a b K0 F G H locs) {ls : Array Slot} (hl : lv_has ls 5 [(0, .ref (a 205)), (1, .int x1), (2, .int x2), (3, .int x3)]) : W p l e R s m args below meth c H locs (xn F - xn K0) (2 * (xn F - xn K0)) Q (F0 m 0 ls []) := by
  have hx := C.1
  have hb := C.2.1
  unfold cb_X5_wantValue_0 at hm
  refine lv_aload_n hx hb dX5_wantValue_0 rfl (lv_at hl 0 rfl) ?_
  refine lv_iload_n hx hb dX5_wantValue_1 rfl (lv_at hl 1 rfl) ?_
  obtain ⟨⟨r1, F1, G1⟩, hc, hm⟩ := bind_elim hm
  refine ccallI (n := 1) (As := [.int x1]) (rest := []) C hw (ck_X5_kind l v a _ _ fu x1 F G r1 F1 G1 hc) (cn_X5_kind fu x1 F G _ hc) (Nat.sub_le_sub_right (cn_X5_wantValue_5 fu x1 x2 x3 r1 F1 G1 hm) _) (crecv_X5 C hw) cm_433 cm_388 cm_389 cm_266 cm_390 (by decide +kernel) rfl (by omega) (by omega) hl.1 rfl (Nat.le_of_ble_eq_true rfl) dX5_wantValue_2 (fun b H locs hw => ?_)
  exact cw_X5_wantValue_5 fu C hret x1 x2 x3 r1 F1 G1 hm hw (lv_sub hl [0, 1, 2, 3] rfl)
theorem cn_X5_wantValue (fu : Nat) (x1 : Int32) (x2 : Int32) (x3 : Int32) (F : PF) (G : PG) (q : Int32 × PF × PG) (hm : cf_X5_wantValue fu x1 x2 x3 F G = some q) : xn F ≤ xn q.2.1 := cn_X5_wantValue_0 fu x1 x2 x3 F G hm
theorem ck_X5_wantValue (l : Launch) (v : EV) (a : Nat → Nat) (b sz : Nat) (fu : Nat) (x1 : Int32) (x2 : Int32) (x3 : Int32) (F : PF) (G : PG) (r : Int32) (F1 : PF) (G1 : PG) (hm : cf_X5_wantValue fu x1 x2 x3 F G = some (r, F1, G1)) : cMV l yX5_wantValue cX5_wantValue 5 1 22 v a b sz [.ref (a 205), .int x1, .int x2, .int x3] F G F1 G1 := cMV.of (by decide) (Nat.le_of_ble_eq_true rfl) (fun p e R s m args below meth c Q A H locs ls C hw hl hret => cw_X5_wantValue_0 fu (res := (r, F1, G1)) C hret x1 x2 x3 F G hm hw hl)
def cb_X3_fetch_26 (fu : Nat) (F : PF) (G : PG) : PR := some (0, F, G)
def cb_X3_fetch_23 (fu : Nat) (z0 : Int32) (F : PF) (G : PG) : PR := (cf_X1_add fu z0 F G).bind (fun q => cb_X3_fetch_26 fu q.2.1 q.2.2)
def cb_X3_fetch_21 (fu : Nat) (F : PF) (G : PG) : PR := cb_X3_fetch_23 fu 77 F G
def cb_X3_fetch_16 (fu : Nat) (F : PF) (G : PG) : PR := cb_X3_fetch_23 fu 78 F G
def cb_X3_fetch_12 (fu : Nat) (z0 : Int32) (F : PF) (G : PG) : PR := if z0 = (3 : Int32) then cb_X3_fetch_16 fu F G else cb_X3_fetch_21 fu F G
def cb_X3_fetch_0 (fu : Nat) (x1 : Int32) (F : PF) (G : PG) : PR := (cf_X5_kind fu x1 F G).bind (fun q => cb_X3_fetch_12 fu q.1 q.2.1 q.2.2)
def cf_X3_fetch (fu : Nat) (x1 : Int32) (F : PF) (G : PG) : PR := cb_X3_fetch_0 fu x1 F G
theorem cn_X3_fetch_26 (fu : Nat) {res : Int32 × PF × PG} (F : PF) (G : PG) (hm : cb_X3_fetch_26 fu F G = some res) : xn F ≤ xn res.2.1 := by
  unfold cb_X3_fetch_26 at hm
  obtain rfl := Option.some.inj hm
  exact Nat.le_refl _
theorem cw_X3_fetch_26 (fu : Nat) {res : Int32 × PF × PG} (C : cMC p R s m args c A v RX3 cX3_fetch 2 1 21 (xn res.2.1 - xn K0)) (hret : ∀ (b1 : Nat) (H1 : Heap) (locs1 : List Loc) (ls1 : Array Slot) (pc : Nat), cMW s A v a b1 K0 res.2.1 res.2.2 H1 locs1 → decode cX3_fetch pc = .ok (.return_, 1) → W p l e R s m args below meth c H1 locs1 (xn res.2.1 - xn K0) (2 * (xn res.2.1 - xn K0)) Q (F0 m pc ls1 [])) (F : PF) (G : PG) (hm : cb_X3_fetch_26 fu F G = some res) {b : Nat} {H : Heap} {locs : List Loc} (hw : cMW s A v a b K0 F G H locs) {ls : Array Slot} (hl : lv_has ls 2 []) : W p l e R s m args below meth c H locs (xn F - xn K0) (2 * (xn F - xn K0)) Q (F0 m 26 ls []) := by
  have hx := C.1
  have hb := C.2.1
  unfold cb_X3_fetch_26 at hm
  obtain rfl := Option.some.inj hm
  exact hret _ _ _ _ _ hw dX3_fetch_26
theorem cn_X3_fetch_23 (fu : Nat) {res : Int32 × PF × PG} (z0 : Int32) (F : PF) (G : PG) (hm : cb_X3_fetch_23 fu z0 F G = some res) : xn F ≤ xn res.2.1 := by
  unfold cb_X3_fetch_23 at hm
  obtain ⟨⟨r1, F1, G1⟩, hc, hm⟩ := bind_elim hm
  exact Nat.le_trans (cn_X1_add fu z0 F G _ hc) (cn_X3_fetch_26 fu F1 G1 hm)
theorem cw_X3_fetch_23 (fu : Nat) {res : Int32 × PF × PG} (C : cMC p R s m args c A v RX3 cX3_fetch 2 1 21 (xn res.2.1 - xn K0)) (hret : ∀ (b1 : Nat) (H1 : Heap) (locs1 : List Loc) (ls1 : Array Slot) (pc : Nat), cMW s A v a b1 K0 res.2.1 res.2.2 H1 locs1 → decode cX3_fetch pc = .ok (.return_, 1) → W p l e R s m args below meth c H1 locs1 (xn res.2.1 - xn K0) (2 * (xn res.2.1 - xn K0)) Q (F0 m pc ls1 [])) (z0 : Int32) (F : PF) (G : PG) (hm : cb_X3_fetch_23 fu z0 F G = some res) {b : Nat} {H : Heap} {locs : List Loc} (hw : cMW s A v a b K0 F G H locs) {ls : Array Slot} (hl : lv_has ls 2 []) : W p l e R s m args below meth c H locs (xn F - xn K0) (2 * (xn F - xn K0)) Q (F0 m 23 ls [.int z0, .ref (a 201)]) := by
  have hx := C.1
  have hb := C.2.1
  unfold cb_X3_fetch_23 at hm
  obtain ⟨⟨r1, F1, G1⟩, hc, hm⟩ := bind_elim hm
  refine ccallV (n := 1) (As := [.int z0]) (rest := []) C hw (ck_X1_add l v a _ _ fu z0 F G r1 F1 G1 hc) (cn_X1_add fu z0 F G _ hc) (Nat.sub_le_sub_right (cn_X3_fetch_26 fu F1 G1 hm) _) (crecv_X1 C hw) cm_452 cm_453 cm_454 cm_369 cm_455 (by decide +kernel) rfl (by omega) (by omega) hl.1 rfl (Nat.le_of_ble_eq_true rfl) dX3_fetch_23 (fun b H locs hw => ?_)
  exact cw_X3_fetch_26 fu C hret F1 G1 hm hw (lv_sub hl [] rfl)
theorem cn_X3_fetch_21 (fu : Nat) {res : Int32 × PF × PG} (F : PF) (G : PG) (hm : cb_X3_fetch_21 fu F G = some res) : xn F ≤ xn res.2.1 := by
  unfold cb_X3_fetch_21 at hm
  exact (cn_X3_fetch_23 fu 77 F G hm)
theorem cw_X3_fetch_21 (fu : Nat) {res : Int32 × PF × PG} (C : cMC p R s m args c A v RX3 cX3_fetch 2 1 21 (xn res.2.1 - xn K0)) (hret : ∀ (b1 : Nat) (H1 : Heap) (locs1 : List Loc) (ls1 : Array Slot) (pc : Nat), cMW s A v a b1 K0 res.2.1 res.2.2 H1 locs1 → decode cX3_fetch pc = .ok (.return_, 1) → W p l e R s m args below meth c H1 locs1 (xn res.2.1 - xn K0) (2 * (xn res.2.1 - xn K0)) Q (F0 m pc ls1 [])) (F : PF) (G : PG) (hm : cb_X3_fetch_21 fu F G = some res) {b : Nat} {H : Heap} {locs : List Loc} (hw : cMW s A v a b K0 F G H locs) {ls : Array Slot} (hl : lv_has ls 2 []) : W p l e R s m args below meth c H locs (xn F - xn K0) (2 * (xn F - xn K0)) Q (F0 m 21 ls [.ref (a 201)]) := by
  have hx := C.1
  have hb := C.2.1
  unfold cb_X3_fetch_21 at hm
  refine lv_bipush (v := 77) hx hb dX3_fetch_21 (by decide) ?_
  exact cw_X3_fetch_23 fu C hret 77 F G hm hw (lv_sub hl [] rfl)
theorem cn_X3_fetch_16 (fu : Nat) {res : Int32 × PF × PG} (F : PF) (G : PG) (hm : cb_X3_fetch_16 fu F G = some res) : xn F ≤ xn res.2.1 := by
  unfold cb_X3_fetch_16 at hm
  exact (cn_X3_fetch_23 fu 78 F G hm)
theorem cw_X3_fetch_16 (fu : Nat) {res : Int32 × PF × PG} (C : cMC p R s m args c A v RX3 cX3_fetch 2 1 21 (xn res.2.1 - xn K0)) (hret : ∀ (b1 : Nat) (H1 : Heap) (locs1 : List Loc) (ls1 : Array Slot) (pc : Nat), cMW s A v a b1 K0 res.2.1 res.2.2 H1 locs1 → decode cX3_fetch pc = .ok (.return_, 1) → W p l e R s m args below meth c H1 locs1 (xn res.2.1 - xn K0) (2 * (xn res.2.1 - xn K0)) Q (F0 m pc ls1 [])) (F : PF) (G : PG) (hm : cb_X3_fetch_16 fu F G = some res) {b : Nat} {H : Heap} {locs : List Loc} (hw : cMW s A v a b K0 F G H locs) {ls : Array Slot} (hl : lv_has ls 2 []) : W p l e R s m args below meth c H locs (xn F - xn K0) (2 * (xn F - xn K0)) Q (F0 m 16 ls [.ref (a 201)]) := by
  have hx := C.1
  have hb := C.2.1
  unfold cb_X3_fetch_16 at hm
  refine lv_bipush (v := 78) hx hb dX3_fetch_16 (by decide) ?_
  refine lv_goto (tgt := 23) hx hb dX3_fetch_18 (by decide) ?_
  exact cw_X3_fetch_23 fu C hret 78 F G hm hw (lv_sub hl [] rfl)
theorem cn_X3_fetch_12 (fu : Nat) {res : Int32 × PF × PG} (z0 : Int32) (F : PF) (G : PG) (hm : cb_X3_fetch_12 fu z0 F G = some res) : xn F ≤ xn res.2.1 := by
  unfold cb_X3_fetch_12 at hm
  by_cases c_1 : z0 = (3 : Int32)
  · have hm := (if_pos c_1).symm.trans hm
    exact (cn_X3_fetch_16 fu F G hm)
  · have hm := (if_neg c_1).symm.trans hm
    exact (cn_X3_fetch_21 fu F G hm)
theorem cw_X3_fetch_12 (fu : Nat) {res : Int32 × PF × PG} (C : cMC p R s m args c A v RX3 cX3_fetch 2 1 21 (xn res.2.1 - xn K0)) (hret : ∀ (b1 : Nat) (H1 : Heap) (locs1 : List Loc) (ls1 : Array Slot) (pc : Nat), cMW s A v a b1 K0 res.2.1 res.2.2 H1 locs1 → decode cX3_fetch pc = .ok (.return_, 1) → W p l e R s m args below meth c H1 locs1 (xn res.2.1 - xn K0) (2 * (xn res.2.1 - xn K0)) Q (F0 m pc ls1 [])) (z0 : Int32) (F : PF) (G : PG) (hm : cb_X3_fetch_12 fu z0 F G = some res) {b : Nat} {H : Heap} {locs : List Loc} (hw : cMW s A v a b K0 F G H locs) {ls : Array Slot} (hl : lv_has ls 2 []) : W p l e R s m args below meth c H locs (xn F - xn K0) (2 * (xn F - xn K0)) Q (F0 m 12 ls [.int z0, .ref (a 201)]) := by
  have hx := C.1
  have hb := C.2.1
  unfold cb_X3_fetch_12 at hm
  refine lv_iconst (v := 3) hx hb dX3_fetch_12 (by decide) ?_
  refine lv_icmp_ne (tgt := 21) hx hb dX3_fetch_13 (by decide) (fun c_1 => ?_) (fun c_1 => ?_)
  · have hm := (if_neg c_1).symm.trans hm
    exact cw_X3_fetch_21 fu C hret F G hm hw (lv_sub hl [] rfl)
  · have hm := (if_pos c_1).symm.trans hm
    exact cw_X3_fetch_16 fu C hret F G hm hw (lv_sub hl [] rfl)
theorem cn_X3_fetch_0 (fu : Nat) {res : Int32 × PF × PG} (x1 : Int32) (F : PF) (G : PG) (hm : cb_X3_fetch_0 fu x1 F G = some res) : xn F ≤ xn res.2.1 := by
  unfold cb_X3_fetch_0 at hm
  obtain ⟨⟨r1, F1, G1⟩, hc, hm⟩ := bind_elim hm
  exact Nat.le_trans (cn_X5_kind fu x1 F G _ hc) (cn_X3_fetch_12 fu r1 F1 G1 hm)
theorem cw_X3_fetch_0 (fu : Nat) {res : Int32 × PF × PG} (C : cMC p R s m args c A v RX3 cX3_fetch 2 1 21 (xn res.2.1 - xn K0)) (hret : ∀ (b1 : Nat) (H1 : Heap) (locs1 : List Loc) (ls1 : Array Slot) (pc : Nat), cMW s A v a b1 K0 res.2.1 res.2.2 H1 locs1 → decode cX3_fetch pc = .ok (.return_, 1) → W p l e R s m args below meth c H1 locs1 (xn res.2.1 - xn K0) (2 * (xn res.2.1 - xn K0)) Q (F0 m pc ls1 [])) (x1 : Int32) (F : PF) (G : PG) (hm : cb_X3_fetch_0 fu x1 F G = some res) {b : Nat} {H : Heap} {locs : List Loc} (hw : cMW s A v a b K0 F G H locs) {ls : Array Slot} (hl : lv_has ls 2 [(0, .ref (a 203)), (1, .int x1)]) : W p l e R s m args below meth c H locs (xn F - xn K0) (2 * (xn F - xn K0)) Q (F0 m 0 ls []) := by
  have hx := C.1
  have hb := C.2.1
  unfold cb_X3_fetch_0 at hm
  refine lv_aload_n hx hb dX3_fetch_0 rfl (lv_at hl 0 rfl) ?_
  refine cg_X3_23 C hw dX3_fetch_1 ?_
  refine lv_aload_n hx hb dX3_fetch_4 rfl (lv_at hl 0 rfl) ?_
  refine cg_X3_19 C hw dX3_fetch_5 ?_
  refine lv_iload_n hx hb dX3_fetch_8 rfl (lv_at hl 1 rfl) ?_
  obtain ⟨⟨r1, F1, G1⟩, hc, hm⟩ := bind_elim hm
  refine ccallI (n := 1) (As := [.int x1]) (rest := [.ref (a 201)]) C hw (ck_X5_kind l v a _ _ fu x1 F G r1 F1 G1 hc) (cn_X5_kind fu x1 F G _ hc) (Nat.sub_le_sub_right (cn_X3_fetch_12 fu r1 F1 G1 hm) _) (crecv_X5 C hw) cm_387 cm_388 cm_389 cm_266 cm_390 (by decide +kernel) rfl (by omega) (by omega) hl.1 rfl (Nat.le_of_ble_eq_true rfl) dX3_fetch_9 (fun b H locs hw => ?_)
  exact cw_X3_fetch_12 fu C hret r1 F1 G1 hm hw (lv_sub hl [] rfl)
theorem cn_X3_fetch (fu : Nat) (x1 : Int32) (F : PF) (G : PG) (q : Int32 × PF × PG) (hm : cf_X3_fetch fu x1 F G = some q) : xn F ≤ xn q.2.1 := cn_X3_fetch_0 fu x1 F G hm
theorem ck_X3_fetch (l : Launch) (v : EV) (a : Nat → Nat) (b sz : Nat) (fu : Nat) (x1 : Int32) (F : PF) (G : PG) (r : Int32) (F1 : PF) (G1 : PG) (hm : cf_X3_fetch fu x1 F G = some (r, F1, G1)) : cMV l yX3_fetch cX3_fetch 2 1 21 v a b sz [.ref (a 203), .int x1] F G F1 G1 := cMV.of (by decide) (Nat.le_of_ble_eq_true rfl) (fun p e R s m args below meth c Q A H locs ls C hw hl hret => cw_X3_fetch_0 fu (res := (r, F1, G1)) C hret x1 F G hm hw hl)
def cb_X3_load_65 (fu : Nat) (F : PF) (G : PG) : PR := some (0, F, G)
def cb_X3_load_62 (fu : Nat) (z0 : Int32) (z1 : Int32) (F : PF) (G : PG) : PR := (cf_X1_addPair fu z1 z0 F G).bind (fun q => cb_X3_load_65 fu q.2.1 q.2.2)
def cb_X3_load_48 (fu : Nat) (x1 : Int32) (F : PF) (G : PG) : PR := (cf_X5_value fu x1 F G).bind (fun q => cb_X3_load_62 fu q.1 66 q.2.1 q.2.2)
def cb_X3_load_45 (fu : Nat) (F : PF) (G : PG) : PR := cb_X3_load_65 fu F G
def cb_X3_load_42 (fu : Nat) (z0 : Int32) (z1 : Int32) (F : PF) (G : PG) : PR := (cf_X1_addPair fu z1 z0 F G).bind (fun q => cb_X3_load_45 fu q.2.1 q.2.2)
def cb_X3_load_34 (fu : Nat) (x1 : Int32) (z0 : Int32) (F : PF) (G : PG) : PR := (cf_X5_value fu x1 F G).bind (fun q => cb_X3_load_42 fu q.1 z0 q.2.1 q.2.2)
def cb_X3_load_32 (fu : Nat) (x1 : Int32) (F : PF) (G : PG) : PR := cb_X3_load_34 fu x1 70 F G
def cb_X3_load_27 (fu : Nat) (x1 : Int32) (F : PF) (G : PG) : PR := cb_X3_load_34 fu x1 69 F G
def cb_X3_load_24 (fu : Nat) (x1 : Int32) (z0 : Int32) (F : PF) (G : PG) : PR := if z0 = (0 : Int32) then cb_X3_load_32 fu x1 F G else cb_X3_load_27 fu x1 F G
def cb_X3_load_12 (fu : Nat) (x1 : Int32) (F : PF) (G : PG) : PR := (cf_X5_isGlobal fu x1 F G).bind (fun q => cb_X3_load_24 fu x1 q.1 q.2.1 q.2.2)
def cb_X3_load_8 (fu : Nat) (x1 : Int32) (z0 : Int32) (F : PF) (G : PG) : PR := if z0 = (1 : Int32) then cb_X3_load_12 fu x1 F G else cb_X3_load_48 fu x1 F G
def cb_X3_load_0 (fu : Nat) (x1 : Int32) (F : PF) (G : PG) : PR := (cf_X5_kind fu x1 F G).bind (fun q => cb_X3_load_8 fu x1 q.1 q.2.1 q.2.2)
def cf_X3_load (fu : Nat) (x1 : Int32) (F : PF) (G : PG) : PR := cb_X3_load_0 fu x1 F G
theorem cn_X3_load_65 (fu : Nat) {res : Int32 × PF × PG} (F : PF) (G : PG) (hm : cb_X3_load_65 fu F G = some res) : xn F ≤ xn res.2.1 := by
  unfold cb_X3_load_65 at hm
  obtain rfl := Option.some.inj hm
  exact Nat.le_refl _
theorem cw_X3_load_65 (fu : Nat) {res : Int32 × PF × PG} (C : cMC p R s m args c A v RX3 cX3_load 2 1 22 (xn res.2.1 - xn K0)) (hret : ∀ (b1 : Nat) (H1 : Heap) (locs1 : List Loc) (ls1 : Array Slot) (pc : Nat), cMW s A v a b1 K0 res.2.1 res.2.2 H1 locs1 → decode cX3_load pc = .ok (.return_, 1) → W p l e R s m args below meth c H1 locs1 (xn res.2.1 - xn K0) (2 * (xn res.2.1 - xn K0)) Q (F0 m pc ls1 [])) (F : PF) (G : PG) (hm : cb_X3_load_65 fu F G = some res) {b : Nat} {H : Heap} {locs : List Loc} (hw : cMW s A v a b K0 F G H locs) {ls : Array Slot} (hl : lv_has ls 2 []) : W p l e R s m args below meth c H locs (xn F - xn K0) (2 * (xn F - xn K0)) Q (F0 m 65 ls []) := by
  have hx := C.1
  have hb := C.2.1
  unfold cb_X3_load_65 at hm
  obtain rfl := Option.some.inj hm
  exact hret _ _ _ _ _ hw dX3_load_65
theorem cn_X3_load_62 (fu : Nat) {res : Int32 × PF × PG} (z0 : Int32) (z1 : Int32) (F : PF) (G : PG) (hm : cb_X3_load_62 fu z0 z1 F G = some res) : xn F ≤ xn res.2.1 := by
  unfold cb_X3_load_62 at hm
  obtain ⟨⟨r1, F1, G1⟩, hc, hm⟩ := bind_elim hm
  exact Nat.le_trans (cn_X1_addPair fu z1 z0 F G _ hc) (cn_X3_load_65 fu F1 G1 hm)
theorem cw_X3_load_62 (fu : Nat) {res : Int32 × PF × PG} (C : cMC p R s m args c A v RX3 cX3_load 2 1 22 (xn res.2.1 - xn K0)) (hret : ∀ (b1 : Nat) (H1 : Heap) (locs1 : List Loc) (ls1 : Array Slot) (pc : Nat), cMW s A v a b1 K0 res.2.1 res.2.2 H1 locs1 → decode cX3_load pc = .ok (.return_, 1) → W p l e R s m args below meth c H1 locs1 (xn res.2.1 - xn K0) (2 * (xn res.2.1 - xn K0)) Q (F0 m pc ls1 [])) (z0 : Int32) (z1 : Int32) (F : PF) (G : PG) (hm : cb_X3_load_62 fu z0 z1 F G = some res) {b : Nat} {H : Heap} {locs : List Loc} (hw : cMW s A v a b K0 F G H locs) {ls : Array Slot} (hl : lv_has ls 2 []) : W p l e R s m args below meth c H locs (xn F - xn K0) (2 * (xn F - xn K0)) Q (F0 m 62 ls [.int z0, .int z1, .ref (a 201)]) := by
  have hx := C.1
  have hb := C.2.1
  unfold cb_X3_load_62 at hm
  obtain ⟨⟨r1, F1, G1⟩, hc, hm⟩ := bind_elim hm
  refine ccallV (n := 2) (As := [.int z1, .int z0]) (rest := []) C hw (ck_X1_addPair l v a _ _ fu z1 z0 F G r1 F1 G1 hc) (cn_X1_addPair fu z1 z0 F G _ hc) (Nat.sub_le_sub_right (cn_X3_load_65 fu F1 G1 hm) _) (crecv_X1 C hw) cm_448 cm_449 cm_450 cm_369 cm_451 (by decide +kernel) rfl (by omega) (by omega) hl.1 rfl (Nat.le_of_ble_eq_true rfl) dX3_load_62 (fun b H locs hw => ?_)
  exact cw_X3_load_65 fu C hret F1 G1 hm hw (lv_sub hl [] rfl)
theorem cn_X3_load_48 (fu : Nat) {res : Int32 × PF × PG} (x1 : Int32) (F : PF) (G : PG) (hm : cb_X3_load_48 fu x1 F G = some res) : xn F ≤ xn res.2.1 := by
  unfold cb_X3_load_48 at hm
  obtain ⟨⟨r1, F1, G1⟩, hc, hm⟩ := bind_elim hm
  exact Nat.le_trans (cn_X5_value fu x1 F G _ hc) (cn_X3_load_62 fu r1 66 F1 G1 hm)
theorem cw_X3_load_48 (fu : Nat) {res : Int32 × PF × PG} (C : cMC p R s m args c A v RX3 cX3_load 2 1 22 (xn res.2.1 - xn K0)) (hret : ∀ (b1 : Nat) (H1 : Heap) (locs1 : List Loc) (ls1 : Array Slot) (pc : Nat), cMW s A v a b1 K0 res.2.1 res.2.2 H1 locs1 → decode cX3_load pc = .ok (.return_, 1) → W p l e R s m args below meth c H1 locs1 (xn res.2.1 - xn K0) (2 * (xn res.2.1 - xn K0)) Q (F0 m pc ls1 [])) (x1 : Int32) (F : PF) (G : PG) (hm : cb_X3_load_48 fu x1 F G = some res) {b : Nat} {H : Heap} {locs : List Loc} (hw : cMW s A v a b K0 F G H locs) {ls : Array Slot} (hl : lv_has ls 2 [(0, .ref (a 203)), (1, .int x1)]) : W p l e R s m args below meth c H locs (xn F - xn K0) (2 * (xn F - xn K0)) Q (F0 m 48 ls []) := by
  have hx := C.1
  have hb := C.2.1
  unfold cb_X3_load_48 at hm
  refine lv_aload_n hx hb dX3_load_48 rfl (lv_at hl 0 rfl) ?_
  refine cg_X3_23 C hw dX3_load_49 ?_
  refine lv_bipush (v := 66) hx hb dX3_load_52 (by decide) ?_
  refine lv_aload_n hx hb dX3_load_54 rfl (lv_at hl 0 rfl) ?_
  refine cg_X3_19 C hw dX3_load_55 ?_
  refine lv_iload_n hx hb dX3_load_58 rfl (lv_at hl 1 rfl) ?_
  obtain ⟨⟨r1, F1, G1⟩, hc, hm⟩ := bind_elim hm
  refine ccallI (n := 1) (As := [.int x1]) (rest := [.int 66, .ref (a 201)]) C hw (ck_X5_value l v a _ _ fu x1 F G r1 F1 G1 hc) (cn_X5_value fu x1 F G _ hc) (Nat.sub_le_sub_right (cn_X3_load_62 fu r1 66 F1 G1 hm) _) (crecv_X5 C hw) cm_392 cm_393 cm_394 cm_266 cm_395 (by decide +kernel) rfl (by omega) (by omega) hl.1 rfl (Nat.le_of_ble_eq_true rfl) dX3_load_59 (fun b H locs hw => ?_)
  exact cw_X3_load_62 fu C hret r1 66 F1 G1 hm hw (lv_sub hl [] rfl)
theorem cn_X3_load_45 (fu : Nat) {res : Int32 × PF × PG} (F : PF) (G : PG) (hm : cb_X3_load_45 fu F G = some res) : xn F ≤ xn res.2.1 := by
  unfold cb_X3_load_45 at hm
  exact (cn_X3_load_65 fu F G hm)
theorem cw_X3_load_45 (fu : Nat) {res : Int32 × PF × PG} (C : cMC p R s m args c A v RX3 cX3_load 2 1 22 (xn res.2.1 - xn K0)) (hret : ∀ (b1 : Nat) (H1 : Heap) (locs1 : List Loc) (ls1 : Array Slot) (pc : Nat), cMW s A v a b1 K0 res.2.1 res.2.2 H1 locs1 → decode cX3_load pc = .ok (.return_, 1) → W p l e R s m args below meth c H1 locs1 (xn res.2.1 - xn K0) (2 * (xn res.2.1 - xn K0)) Q (F0 m pc ls1 [])) (F : PF) (G : PG) (hm : cb_X3_load_45 fu F G = some res) {b : Nat} {H : Heap} {locs : List Loc} (hw : cMW s A v a b K0 F G H locs) {ls : Array Slot} (hl : lv_has ls 2 []) : W p l e R s m args below meth c H locs (xn F - xn K0) (2 * (xn F - xn K0)) Q (F0 m 45 ls []) := by
  have hx := C.1
  have hb := C.2.1
  unfold cb_X3_load_45 at hm
  refine lv_goto (tgt := 65) hx hb dX3_load_45 (by decide) ?_
  exact cw_X3_load_65 fu C hret F G hm hw (lv_sub hl [] rfl)
theorem cn_X3_load_42 (fu : Nat) {res : Int32 × PF × PG} (z0 : Int32) (z1 : Int32) (F : PF) (G : PG) (hm : cb_X3_load_42 fu z0 z1 F G = some res) : xn F ≤ xn res.2.1 := by
  unfold cb_X3_load_42 at hm
  obtain ⟨⟨r1, F1, G1⟩, hc, hm⟩ := bind_elim hm
  exact Nat.le_trans (cn_X1_addPair fu z1 z0 F G _ hc) (cn_X3_load_45 fu F1 G1 hm)
theorem cw_X3_load_42 (fu : Nat) {res : Int32 × PF × PG} (C : cMC p R s m args c A v RX3 cX3_load 2 1 22 (xn res.2.1 - xn K0)) (hret : ∀ (b1 : Nat) (H1 : Heap) (locs1 : List Loc) (ls1 : Array Slot) (pc : Nat), cMW s A v a b1 K0 res.2.1 res.2.2 H1 locs1 → decode cX3_load pc = .ok (.return_, 1) → W p l e R s m args below meth c H1 locs1 (xn res.2.1 - xn K0) (2 * (xn res.2.1 - xn K0)) Q (F0 m pc ls1 [])) (z0 : Int32) (z1 : Int32) (F : PF) (G : PG) (hm : cb_X3_load_42 fu z0 z1 F G = some res) {b : Nat} {H : Heap} {locs : List Loc} (hw : cMW s A v a b K0 F G H locs) {ls : Array Slot} (hl : lv_has ls 2 []) : W p l e R s m args below meth c H locs (xn F - xn K0) (2 * (xn F - xn K0)) Q (F0 m 42 ls [.int z0, .int z1, .ref (a 201)]) := by
  have hx := C.1
  have hb := C.2.1
  unfold cb_X3_load_42 at hm
  obtain ⟨⟨r1, F1, G1⟩, hc, hm⟩ := bind_elim hm
  refine ccallV (n := 2) (As := [.int z1, .int z0]) (rest := []) C hw (ck_X1_addPair l v a _ _ fu z1 z0 F G r1 F1 G1 hc) (cn_X1_addPair fu z1 z0 F G _ hc) (Nat.sub_le_sub_right (cn_X3_load_45 fu F1 G1 hm) _) (crecv_X1 C hw) cm_448 cm_449 cm_450 cm_369 cm_451 (by decide +kernel) rfl (by omega) (by omega) hl.1 rfl (Nat.le_of_ble_eq_true rfl) dX3_load_42 (fun b H locs hw => ?_)
  exact cw_X3_load_45 fu C hret F1 G1 hm hw (lv_sub hl [] rfl)
theorem cn_X3_load_34 (fu : Nat) {res : Int32 × PF × PG} (x1 : Int32) (z0 : Int32) (F : PF) (G : PG) (hm : cb_X3_load_34 fu x1 z0 F G = some res) : xn F ≤ xn res.2.1 := by
  unfold cb_X3_load_34 at hm
  obtain ⟨⟨r1, F1, G1⟩, hc, hm⟩ := bind_elim hm
  exact Nat.le_trans (cn_X5_value fu x1 F G _ hc) (cn_X3_load_42 fu r1 z0 F1 G1 hm)
theorem cw_X3_load_34 (fu : Nat) {res : Int32 × PF × PG} (C : cMC p R s m args c A v RX3 cX3_load 2 1 22 (xn res.2.1 - xn K0)) (hret : ∀ (b1 : Nat) (H1 : Heap) (locs1 : List Loc) (ls1 : Array Slot) (pc : Nat), cMW s A v a b1 K0 res.2.1 res.2.2 H1 locs1 → decode cX3_load pc = .ok (.return_, 1) → W p l e R s m args below meth c H1 locs1 (xn res.2.1 - xn K0) (2 * (xn res.2.1 - xn K0)) Q (F0 m pc ls1 [])) (x1 : Int32) (z0 : Int32) (F : PF) (G : PG) (hm : cb_X3_load_34 fu x1 z0 F G = some res) {b : Nat} {H : Heap} {locs : List Loc} (hw : cMW s A v a b K0 F G H locs) {ls : Array Slot} (hl : lv_has ls 2 [(0, .ref (a 203)), (1, .int x1)]) : W p l e R s m args below meth c H locs (xn F - xn K0) (2 * (xn F - xn K0)) Q (F0 m 34 ls [.int z0, .ref (a 201)]) := by
  have hx := C.1
  have hb := C.2.1
  unfold cb_X3_load_34 at hm
  refine lv_aload_n hx hb dX3_load_34 rfl (lv_at hl 0 rfl) ?_
  refine cg_X3_19 C hw dX3_load_35 ?_
  refine lv_iload_n hx hb dX3_load_38 rfl (lv_at hl 1 rfl) ?_
  obtain ⟨⟨r1, F1, G1⟩, hc, hm⟩ := bind_elim hm
  refine ccallI (n := 1) (As := [.int x1]) (rest := [.int z0, .ref (a 201)]) C hw (ck_X5_value l v a _ _ fu x1 F G r1 F1 G1 hc) (cn_X5_value fu x1 F G _ hc) (Nat.sub_le_sub_right (cn_X3_load_42 fu r1 z0 F1 G1 hm) _) (crecv_X5 C hw) cm_392 cm_393 cm_394 cm_266 cm_395 (by decide +kernel) rfl (by omega) (by omega) hl.1 rfl (Nat.le_of_ble_eq_true rfl) dX3_load_39 (fun b H locs hw => ?_)
  exact cw_X3_load_42 fu C hret r1 z0 F1 G1 hm hw (lv_sub hl [] rfl)
theorem cn_X3_load_32 (fu : Nat) {res : Int32 × PF × PG} (x1 : Int32) (F : PF) (G : PG) (hm : cb_X3_load_32 fu x1 F G = some res) : xn F ≤ xn res.2.1 := by
  unfold cb_X3_load_32 at hm
  exact (cn_X3_load_34 fu x1 70 F G hm)
theorem cw_X3_load_32 (fu : Nat) {res : Int32 × PF × PG} (C : cMC p R s m args c A v RX3 cX3_load 2 1 22 (xn res.2.1 - xn K0)) (hret : ∀ (b1 : Nat) (H1 : Heap) (locs1 : List Loc) (ls1 : Array Slot) (pc : Nat), cMW s A v a b1 K0 res.2.1 res.2.2 H1 locs1 → decode cX3_load pc = .ok (.return_, 1) → W p l e R s m args below meth c H1 locs1 (xn res.2.1 - xn K0) (2 * (xn res.2.1 - xn K0)) Q (F0 m pc ls1 [])) (x1 : Int32) (F : PF) (G : PG) (hm : cb_X3_load_32 fu x1 F G = some res) {b : Nat} {H : Heap} {locs : List Loc} (hw : cMW s A v a b K0 F G H locs) {ls : Array Slot} (hl : lv_has ls 2 [(0, .ref (a 203)), (1, .int x1)]) : W p l e R s m args below meth c H locs (xn F - xn K0) (2 * (xn F - xn K0)) Q (F0 m 32 ls [.ref (a 201)]) := by
  have hx := C.1
  have hb := C.2.1
  unfold cb_X3_load_32 at hm
  refine lv_bipush (v := 70) hx hb dX3_load_32 (by decide) ?_
  exact cw_X3_load_34 fu C hret x1 70 F G hm hw (lv_sub hl [0, 1] rfl)
theorem cn_X3_load_27 (fu : Nat) {res : Int32 × PF × PG} (x1 : Int32) (F : PF) (G : PG) (hm : cb_X3_load_27 fu x1 F G = some res) : xn F ≤ xn res.2.1 := by
  unfold cb_X3_load_27 at hm
  exact (cn_X3_load_34 fu x1 69 F G hm)
theorem cw_X3_load_27 (fu : Nat) {res : Int32 × PF × PG} (C : cMC p R s m args c A v RX3 cX3_load 2 1 22 (xn res.2.1 - xn K0)) (hret : ∀ (b1 : Nat) (H1 : Heap) (locs1 : List Loc) (ls1 : Array Slot) (pc : Nat), cMW s A v a b1 K0 res.2.1 res.2.2 H1 locs1 → decode cX3_load pc = .ok (.return_, 1) → W p l e R s m args below meth c H1 locs1 (xn res.2.1 - xn K0) (2 * (xn res.2.1 - xn K0)) Q (F0 m pc ls1 [])) (x1 : Int32) (F : PF) (G : PG) (hm : cb_X3_load_27 fu x1 F G = some res) {b : Nat} {H : Heap} {locs : List Loc} (hw : cMW s A v a b K0 F G H locs) {ls : Array Slot} (hl : lv_has ls 2 [(0, .ref (a 203)), (1, .int x1)]) : W p l e R s m args below meth c H locs (xn F - xn K0) (2 * (xn F - xn K0)) Q (F0 m 27 ls [.ref (a 201)]) := by
  have hx := C.1
  have hb := C.2.1
  unfold cb_X3_load_27 at hm
  refine lv_bipush (v := 69) hx hb dX3_load_27 (by decide) ?_
  refine lv_goto (tgt := 34) hx hb dX3_load_29 (by decide) ?_
  exact cw_X3_load_34 fu C hret x1 69 F G hm hw (lv_sub hl [0, 1] rfl)
theorem cn_X3_load_24 (fu : Nat) {res : Int32 × PF × PG} (x1 : Int32) (z0 : Int32) (F : PF) (G : PG) (hm : cb_X3_load_24 fu x1 z0 F G = some res) : xn F ≤ xn res.2.1 := by
  unfold cb_X3_load_24 at hm
  by_cases c_1 : z0 = (0 : Int32)
  · have hm := (if_pos c_1).symm.trans hm
    exact (cn_X3_load_32 fu x1 F G hm)
  · have hm := (if_neg c_1).symm.trans hm
    exact (cn_X3_load_27 fu x1 F G hm)
theorem cw_X3_load_24 (fu : Nat) {res : Int32 × PF × PG} (C : cMC p R s m args c A v RX3 cX3_load 2 1 22 (xn res.2.1 - xn K0)) (hret : ∀ (b1 : Nat) (H1 : Heap) (locs1 : List Loc) (ls1 : Array Slot) (pc : Nat), cMW s A v a b1 K0 res.2.1 res.2.2 H1 locs1 → decode cX3_load pc = .ok (.return_, 1) → W p l e R s m args below meth c H1 locs1 (xn res.2.1 - xn K0) (2 * (xn res.2.1 - xn K0)) Q (F0 m pc ls1 [])) (x1 : Int32) (z0 : Int32) (F : PF) (G : PG) (hm : cb_X3_load_24 fu x1 z0 F G = some res) {b : Nat} {H : Heap} {locs : List Loc} (hw : cMW s A v a b K0 F G H locs) {ls : Array Slot} (hl : lv_has ls 2 [(0, .ref (a 203)), (1, .int x1)]) : W p l e R s m args below meth c H locs (xn F - xn K0) (2 * (xn F - xn K0)) Q (F0 m 24 ls [.int z0, .ref (a 201)]) := by
  have hx := C.1
  have hb := C.2.1
  unfold cb_X3_load_24 at hm
  refine lv_if_eq (tgt := 32) hx hb dX3_load_24 (by decide) (fun c_1 => ?_) (fun c_1 => ?_)
  · have hm := (if_pos c_1).symm.trans hm
    exact cw_X3_load_32 fu C hret x1 F G hm hw (lv_sub hl [0, 1] rfl)
  · have hm := (if_neg c_1).symm.trans hm
    exact cw_X3_load_27 fu C hret x1 F G hm hw (lv_sub hl [0, 1] rfl)
theorem cn_X3_load_12 (fu : Nat) {res : Int32 × PF × PG} (x1 : Int32) (F : PF) (G : PG) (hm : cb_X3_load_12 fu x1 F G = some res) : xn F ≤ xn res.2.1 := by
  unfold cb_X3_load_12 at hm
  obtain ⟨⟨r1, F1, G1⟩, hc, hm⟩ := bind_elim hm
  exact Nat.le_trans (cn_X5_isGlobal fu x1 F G _ hc) (cn_X3_load_24 fu x1 r1 F1 G1 hm)
theorem cw_X3_load_12 (fu : Nat) {res : Int32 × PF × PG} (C : cMC p R s m args c A v RX3 cX3_load 2 1 22 (xn res.2.1 - xn K0)) (hret : ∀ (b1 : Nat) (H1 : Heap) (locs1 : List Loc) (ls1 : Array Slot) (pc : Nat), cMW s A v a b1 K0 res.2.1 res.2.2 H1 locs1 → decode cX3_load pc = .ok (.return_, 1) → W p l e R s m args below meth c H1 locs1 (xn res.2.1 - xn K0) (2 * (xn res.2.1 - xn K0)) Q (F0 m pc ls1 [])) (x1 : Int32) (F : PF) (G : PG) (hm : cb_X3_load_12 fu x1 F G = some res) {b : Nat} {H : Heap} {locs : List Loc} (hw : cMW s A v a b K0 F G H locs) {ls : Array Slot} (hl : lv_has ls 2 [(0, .ref (a 203)), (1, .int x1)]) : W p l e R s m args below meth c H locs (xn F - xn K0) (2 * (xn F - xn K0)) Q (F0 m 12 ls []) := by
  have hx := C.1
  have hb := C.2.1
  unfold cb_X3_load_12 at hm
  refine lv_aload_n hx hb dX3_load_12 rfl (lv_at hl 0 rfl) ?_
  refine cg_X3_23 C hw dX3_load_13 ?_
  refine lv_aload_n hx hb dX3_load_16 rfl (lv_at hl 0 rfl) ?_
  refine cg_X3_19 C hw dX3_load_17 ?_
  refine lv_iload_n hx hb dX3_load_20 rfl (lv_at hl 1 rfl) ?_
  obtain ⟨⟨r1, F1, G1⟩, hc, hm⟩ := bind_elim hm
  refine ccallI (n := 1) (As := [.int x1]) (rest := [.ref (a 201)]) C hw (ck_X5_isGlobal l v a _ _ fu x1 F G r1 F1 G1 hc) (cn_X5_isGlobal fu x1 F G _ hc) (Nat.sub_le_sub_right (cn_X3_load_24 fu x1 r1 F1 G1 hm) _) (crecv_X5 C hw) cm_443 cm_444 cm_445 cm_266 cm_446 (by decide +kernel) rfl (by omega) (by omega) hl.1 rfl (Nat.le_of_ble_eq_true rfl) dX3_load_21 (fun b H locs hw => ?_)
  exact cw_X3_load_24 fu C hret x1 r1 F1 G1 hm hw (lv_sub hl [0, 1] rfl)
theorem cn_X3_load_8 (fu : Nat) {res : Int32 × PF × PG} (x1 : Int32) (z0 : Int32) (F : PF) (G : PG) (hm : cb_X3_load_8 fu x1 z0 F G = some res) : xn F ≤ xn res.2.1 := by
  unfold cb_X3_load_8 at hm
  by_cases c_1 : z0 = (1 : Int32)
  · have hm := (if_pos c_1).symm.trans hm
    exact (cn_X3_load_12 fu x1 F G hm)
  · have hm := (if_neg c_1).symm.trans hm
    exact (cn_X3_load_48 fu x1 F G hm)
theorem cw_X3_load_8 (fu : Nat) {res : Int32 × PF × PG} (C : cMC p R s m args c A v RX3 cX3_load 2 1 22 (xn res.2.1 - xn K0)) (hret : ∀ (b1 : Nat) (H1 : Heap) (locs1 : List Loc) (ls1 : Array Slot) (pc : Nat), cMW s A v a b1 K0 res.2.1 res.2.2 H1 locs1 → decode cX3_load pc = .ok (.return_, 1) → W p l e R s m args below meth c H1 locs1 (xn res.2.1 - xn K0) (2 * (xn res.2.1 - xn K0)) Q (F0 m pc ls1 [])) (x1 : Int32) (z0 : Int32) (F : PF) (G : PG) (hm : cb_X3_load_8 fu x1 z0 F G = some res) {b : Nat} {H : Heap} {locs : List Loc} (hw : cMW s A v a b K0 F G H locs) {ls : Array Slot} (hl : lv_has ls 2 [(0, .ref (a 203)), (1, .int x1)]) : W p l e R s m args below meth c H locs (xn F - xn K0) (2 * (xn F - xn K0)) Q (F0 m 8 ls [.int z0]) := by
  have hx := C.1
  have hb := C.2.1
  unfold cb_X3_load_8 at hm
  refine lv_iconst (v := 1) hx hb dX3_load_8 (by decide) ?_
  refine lv_icmp_ne (tgt := 48) hx hb dX3_load_9 (by decide) (fun c_1 => ?_) (fun c_1 => ?_)
  · have hm := (if_neg c_1).symm.trans hm
    exact cw_X3_load_48 fu C hret x1 F G hm hw (lv_sub hl [0, 1] rfl)
  · have hm := (if_pos c_1).symm.trans hm
    exact cw_X3_load_12 fu C hret x1 F G hm hw (lv_sub hl [0, 1] rfl)
theorem cn_X3_load_0 (fu : Nat) {res : Int32 × PF × PG} (x1 : Int32) (F : PF) (G : PG) (hm : cb_X3_load_0 fu x1 F G = some res) : xn F ≤ xn res.2.1 := by
  unfold cb_X3_load_0 at hm
  obtain ⟨⟨r1, F1, G1⟩, hc, hm⟩ := bind_elim hm
  exact Nat.le_trans (cn_X5_kind fu x1 F G _ hc) (cn_X3_load_8 fu x1 r1 F1 G1 hm)
theorem cw_X3_load_0 (fu : Nat) {res : Int32 × PF × PG} (C : cMC p R s m args c A v RX3 cX3_load 2 1 22 (xn res.2.1 - xn K0)) (hret : ∀ (b1 : Nat) (H1 : Heap) (locs1 : List Loc) (ls1 : Array Slot) (pc : Nat), cMW s A v a b1 K0 res.2.1 res.2.2 H1 locs1 → decode cX3_load pc = .ok (.return_, 1) → W p l e R s m args below meth c H1 locs1 (xn res.2.1 - xn K0) (2 * (xn res.2.1 - xn K0)) Q (F0 m pc ls1 [])) (x1 : Int32) (F : PF) (G : PG) (hm : cb_X3_load_0 fu x1 F G = some res) {b : Nat} {H : Heap} {locs : List Loc} (hw : cMW s A v a b K0 F G H locs) {ls : Array Slot} (hl : lv_has ls 2 [(0, .ref (a 203)), (1, .int x1)]) : W p l e R s m args below meth c H locs (xn F - xn K0) (2 * (xn F - xn K0)) Q (F0 m 0 ls []) := by
  have hx := C.1
  have hb := C.2.1
  unfold cb_X3_load_0 at hm
  refine lv_aload_n hx hb dX3_load_0 rfl (lv_at hl 0 rfl) ?_
  refine cg_X3_19 C hw dX3_load_1 ?_
  refine lv_iload_n hx hb dX3_load_4 rfl (lv_at hl 1 rfl) ?_
  obtain ⟨⟨r1, F1, G1⟩, hc, hm⟩ := bind_elim hm
  refine ccallI (n := 1) (As := [.int x1]) (rest := []) C hw (ck_X5_kind l v a _ _ fu x1 F G r1 F1 G1 hc) (cn_X5_kind fu x1 F G _ hc) (Nat.sub_le_sub_right (cn_X3_load_8 fu x1 r1 F1 G1 hm) _) (crecv_X5 C hw) cm_387 cm_388 cm_389 cm_266 cm_390 (by decide +kernel) rfl (by omega) (by omega) hl.1 rfl (Nat.le_of_ble_eq_true rfl) dX3_load_5 (fun b H locs hw => ?_)
  exact cw_X3_load_8 fu C hret x1 r1 F1 G1 hm hw (lv_sub hl [0, 1] rfl)
theorem cn_X3_load (fu : Nat) (x1 : Int32) (F : PF) (G : PG) (q : Int32 × PF × PG) (hm : cf_X3_load fu x1 F G = some q) : xn F ≤ xn q.2.1 := cn_X3_load_0 fu x1 F G hm
theorem ck_X3_load (l : Launch) (v : EV) (a : Nat → Nat) (b sz : Nat) (fu : Nat) (x1 : Int32) (F : PF) (G : PG) (r : Int32) (F1 : PF) (G1 : PG) (hm : cf_X3_load fu x1 F G = some (r, F1, G1)) : cMV l yX3_load cX3_load 2 1 22 v a b sz [.ref (a 203), .int x1] F G F1 G1 := cMV.of (by decide) (Nat.le_of_ble_eq_true rfl) (fun p e R s m args below meth c Q A H locs ls C hw hl hret => cw_X3_load_0 fu (res := (r, F1, G1)) C hret x1 F G hm hw hl)
def cH1 (l : Launch) (v : EV) (a : Nat → Nat) (rc : RC) (dd : Nat) : Prop := (∀ (b sz : Nat) (x : Int32) (y : Int32) (F : PF) (G : PG) (r : Int32) (F1 : PF) (G1 : PG), rc 0 x y F G = some (r, F1, G1) → cMV l yX3_call cX3_call 10 (dd + 2) (60 * dd + 49) v a b sz [.ref (a 203), .int x, .int y] F G F1 G1) ∧ (∀ (b sz : Nat) (F : PF) (G : PG) (r : Int32) (F1 : PF) (G1 : PG), rc 1 0 0 F G = some (r, F1, G1) → cMV l yX3_expression cX3_expression 3 (dd + 2) (60 * dd + 49) v a b sz [.ref (a 203)] F G F1 G1) ∧ (∀ (b sz : Nat) (x : Int32) (F : PF) (G : PG) (r : Int32) (F1 : PF) (G1 : PG), rc 2 x 0 F G = some (r, F1, G1) → cMV l yX3_index cX3_index 4 (dd + 2) (60 * dd + 49) v a b sz [.ref (a 203), .int x] F G F1 G1) ∧ (∀ (b sz : Nat) (F : PF) (G : PG) (r : Int32) (F1 : PF) (G1 : PG), rc 3 0 0 F G = some (r, F1, G1) → cMV l yX3_joinedOperands cX3_joinedOperands 5 (dd + 2) (60 * dd + 49) v a b sz [.ref (a 203)] F G F1 G1) ∧ (∀ (b sz : Nat) (F : PF) (G : PG) (r : Int32) (F1 : PF) (G1 : PG), rc 4 0 0 F G = some (r, F1, G1) → cMV l yX3_named cX3_named 3 (dd + 2) (60 * dd + 49) v a b sz [.ref (a 203)] F G F1 G1) ∧ (∀ (b sz : Nat) (F : PF) (G : PG) (r : Int32) (F1 : PF) (G1 : PG), rc 5 0 0 F G = some (r, F1, G1) → cMV l yX3_operand cX3_operand 1 (dd + 2) (60 * dd + 49) v a b sz [.ref (a 203)] F G F1 G1)
def cb_X3_call_308 (fu : Nat) (rc : RC) (F : PF) (G : PG) : PR := some (0, F, G)
def cb_X3_call_300 (fu : Nat) (rc : RC) (x2 : Int32) (F : PF) (G : PG) : PR := (cf_X1_add fu x2 F G).bind (fun q => cb_X3_call_308 fu rc q.2.1 q.2.2)
def cb_X3_call_289 (fu : Nat) (rc : RC) (x2 : Int32) (x4 : Int32) (F : PF) (G : PG) : PR := (cf_X1_addPair fu 90 x4 F G).bind (fun q => cb_X3_call_300 fu rc x2 q.2.1 q.2.2)
def cb_X3_call_280 (fu : Nat) (rc : RC) (x2 : Int32) (x4 : Int32) (F : PF) (G : PG) : PR := (cf_X2_closesWith fu 20 F G).bind (fun q => cb_X3_call_289 fu rc x2 x4 q.2.1 q.2.2)
def cb_X3_call_265 (fu : Nat) (rc : RC) (x2 : Int32) (x4 : Int32) (F : PF) (G : PG) : PR := (cf_X5_note fu 2 (F 13) F G).bind (fun q => cb_X3_call_280 fu rc x2 x4 q.2.1 q.2.2)
def cb_X3_call_261 (fu : Nat) (rc : RC) (x2 : Int32) (x4 : Int32) (z0 : Int32) (F : PF) (G : PG) : PR := if z0 = (-1 : Int32) then cb_X3_call_280 fu rc x2 x4 F G else cb_X3_call_265 fu rc x2 x4 F G
def cb_X3_call_250 (fu : Nat) (rc : RC) (x2 : Int32) (x4 : Int32) (x5 : Int32) (F : PF) (G : PG) : PR := (cf_X8_formalKind fu x4 x5 F G).bind (fun q => cb_X3_call_261 fu rc x2 x4 q.1 q.2.1 q.2.2)
def cb_X3_call_246 (fu : Nat) (rc : RC) (x2 : Int32) (x3 : Int32) (x4 : Int32) (x5 : Int32) (F : PF) (G : PG) : PR := if x3 = (0 : Int32) then cb_X3_call_280 fu rc x2 x4 F G else cb_X3_call_250 fu rc x2 x4 x5 F G
def cb_X3_call_240 (fu : Nat) (rc : RC) (ag_74 : Int32 → Int32 → Int32 → Int32 → Int32 → Int32 → PF → PG → PR) (x2 : Int32) (x3 : Int32) (x4 : Int32) (x5 : Int32) (x6 : Int32) (x7 : Int32) (F : PF) (G : PG) : PR := ag_74 x2 x3 x4 x5 x6 (x7 + 1) F G
def cb_X3_call_233 (fu : Nat) (rc : RC) (ag_74 : Int32 → Int32 → Int32 → Int32 → Int32 → Int32 → PF → PG → PR) (x2 : Int32) (x3 : Int32) (x4 : Int32) (x5 : Int32) (x6 : Int32) (x7 : Int32) (F : PF) (G : PG) : PR := (cf_X2_next fu F G).bind (fun q => cb_X3_call_240 fu rc ag_74 x2 x3 x4 x5 x6 x7 q.2.1 q.2.2)
def cb_X3_call_226 (fu : Nat) (rc : RC) (ag_74 : Int32 → Int32 → Int32 → Int32 → Int32 → Int32 → PF → PG → PR) (x2 : Int32) (x3 : Int32) (x4 : Int32) (x5 : Int32) (x7 : Int32) (z0 : Int32) (F : PF) (G : PG) : PR := if z0 = (0 : Int32) then cb_X3_call_240 fu rc ag_74 x2 x3 x4 x5 z0 x7 F G else cb_X3_call_233 fu rc ag_74 x2 x3 x4 x5 z0 x7 F G
def cb_X3_call_225 (fu : Nat) (rc : RC) (ag_74 : Int32 → Int32 → Int32 → Int32 → Int32 → Int32 → PF → PG → PR) (x2 : Int32) (x3 : Int32) (x4 : Int32) (x5 : Int32) (x7 : Int32) (F : PF) (G : PG) : PR := cb_X3_call_226 fu rc ag_74 x2 x3 x4 x5 x7 0 F G
def cb_X3_call_221 (fu : Nat) (rc : RC) (ag_74 : Int32 → Int32 → Int32 → Int32 → Int32 → Int32 → PF → PG → PR) (x2 : Int32) (x3 : Int32) (x4 : Int32) (x5 : Int32) (x7 : Int32) (F : PF) (G : PG) : PR := cb_X3_call_226 fu rc ag_74 x2 x3 x4 x5 x7 1 F G
def cb_X3_call_206 (fu : Nat) (rc : RC) (ag_74 : Int32 → Int32 → Int32 → Int32 → Int32 → Int32 → PF → PG → PR) (x2 : Int32) (x3 : Int32) (x4 : Int32) (x5 : Int32) (x7 : Int32) (F : PF) (G : PG) : PR := if (F 11) = (25 : Int32) then cb_X3_call_221 fu rc ag_74 x2 x3 x4 (x5 + 1) x7 F G else cb_X3_call_225 fu rc ag_74 x2 x3 x4 (x5 + 1) x7 F G
def cb_X3_call_202 (fu : Nat) (rc : RC) (ag_74 : Int32 → Int32 → Int32 → Int32 → Int32 → Int32 → PF → PG → PR) (x2 : Int32) (x3 : Int32) (x4 : Int32) (x5 : Int32) (x7 : Int32) (F : PF) (G : PG) : PR := (rc 1 0 0 F G).bind (fun q => cb_X3_call_206 fu rc ag_74 x2 x3 x4 x5 x7 q.2.1 q.2.2)
def cb_X3_call_187 (fu : Nat) (rc : RC) (ag_74 : Int32 → Int32 → Int32 → Int32 → Int32 → Int32 → PF → PG → PR) (x2 : Int32) (x3 : Int32) (x4 : Int32) (x5 : Int32) (x7 : Int32) (F : PF) (G : PG) : PR := (cf_X5_note fu 2 (F 13) F G).bind (fun q => cb_X3_call_202 fu rc ag_74 x2 x3 x4 x5 x7 q.2.1 q.2.2)
def cb_X3_call_181 (fu : Nat) (rc : RC) (ag_74 : Int32 → Int32 → Int32 → Int32 → Int32 → Int32 → PF → PG → PR) (x2 : Int32) (x3 : Int32) (x4 : Int32) (x5 : Int32) (x7 : Int32) (x8 : Int32) (F : PF) (G : PG) : PR := if x8 = (1 : Int32) then cb_X3_call_202 fu rc ag_74 x2 x3 x4 x5 x7 F G else cb_X3_call_187 fu rc ag_74 x2 x3 x4 x5 x7 F G
def cb_X3_call_178 (fu : Nat) (rc : RC) (ag_74 : Int32 → Int32 → Int32 → Int32 → Int32 → Int32 → PF → PG → PR) (x2 : Int32) (x3 : Int32) (x4 : Int32) (x5 : Int32) (x7 : Int32) (F : PF) (G : PG) : PR := cb_X3_call_206 fu rc ag_74 x2 x3 x4 x5 x7 F G
def cb_X3_call_171 (fu : Nat) (rc : RC) (ag_74 : Int32 → Int32 → Int32 → Int32 → Int32 → Int32 → PF → PG → PR) (x2 : Int32) (x3 : Int32) (x4 : Int32) (x5 : Int32) (x7 : Int32) (F : PF) (G : PG) : PR := (cf_X2_next fu F G).bind (fun q => cb_X3_call_178 fu rc ag_74 x2 x3 x4 x5 x7 q.2.1 q.2.2)
def cb_X3_call_165 (fu : Nat) (rc : RC) (ag_74 : Int32 → Int32 → Int32 → Int32 → Int32 → Int32 → PF → PG → PR) (x2 : Int32) (x3 : Int32) (x4 : Int32) (x5 : Int32) (x7 : Int32) (x9 : Int32) (F : PF) (G : PG) : PR := (cf_X3_pass fu x9 F G).bind (fun q => cb_X3_call_171 fu rc ag_74 x2 x3 x4 x5 x7 q.2.1 q.2.2)
def cb_X3_call_145 (fu : Nat) (rc : RC) (ag_74 : Int32 → Int32 → Int32 → Int32 → Int32 → Int32 → PF → PG → PR) (x2 : Int32) (x3 : Int32) (x4 : Int32) (x5 : Int32) (x7 : Int32) (x8 : Int32) (z0 : Int32) (F : PF) (G : PG) : PR := (cf_X5_wantArray fu z0 (F 13) x8 F G).bind (fun q => cb_X3_call_165 fu rc ag_74 x2 x3 x4 x5 x7 z0 q.2.1 q.2.2)
def cb_X3_call_124 (fu : Nat) (rc : RC) (ag_74 : Int32 → Int32 → Int32 → Int32 → Int32 → Int32 → PF → PG → PR) (x2 : Int32) (x3 : Int32) (x4 : Int32) (x5 : Int32) (x7 : Int32) (x8 : Int32) (F : PF) (G : PG) : PR := (cf_X5_meant fu (F 12) (F 13) F G).bind (fun q => cb_X3_call_145 fu rc ag_74 x2 x3 x4 x5 x7 x8 q.1 q.2.1 q.2.2)
def cb_X3_call_121 (fu : Nat) (rc : RC) (ag_74 : Int32 → Int32 → Int32 → Int32 → Int32 → Int32 → PF → PG → PR) (x2 : Int32) (x3 : Int32) (x4 : Int32) (x5 : Int32) (x7 : Int32) (x8 : Int32) (z0 : Int32) (F : PF) (G : PG) : PR := if z0 = (0 : Int32) then cb_X3_call_181 fu rc ag_74 x2 x3 x4 x5 x7 x8 F G else cb_X3_call_124 fu rc ag_74 x2 x3 x4 x5 x7 x8 F G
def cb_X3_call_114 (fu : Nat) (rc : RC) (ag_74 : Int32 → Int32 → Int32 → Int32 → Int32 → Int32 → PF → PG → PR) (x2 : Int32) (x3 : Int32) (x4 : Int32) (x5 : Int32) (x7 : Int32) (x8 : Int32) (F : PF) (G : PG) : PR := (cf_X2_isNameAlone fu F G).bind (fun q => cb_X3_call_121 fu rc ag_74 x2 x3 x4 x5 x7 x8 q.1 q.2.1 q.2.2)
def cb_X3_call_106 (fu : Nat) (rc : RC) (ag_74 : Int32 → Int32 → Int32 → Int32 → Int32 → Int32 → PF → PG → PR) (x2 : Int32) (x3 : Int32) (x4 : Int32) (x5 : Int32) (x7 : Int32) (z0 : Int32) (F : PF) (G : PG) : PR := if z0 ≤ (1 : Int32) then cb_X3_call_181 fu rc ag_74 x2 x3 x4 x5 x7 z0 F G else cb_X3_call_114 fu rc ag_74 x2 x3 x4 x5 x7 z0 F G
def cb_X3_call_105 (fu : Nat) (rc : RC) (ag_74 : Int32 → Int32 → Int32 → Int32 → Int32 → Int32 → PF → PG → PR) (x2 : Int32) (x3 : Int32) (x4 : Int32) (x5 : Int32) (x7 : Int32) (F : PF) (G : PG) : PR := cb_X3_call_106 fu rc ag_74 x2 x3 x4 x5 x7 1 F G
def cb_X3_call_102 (fu : Nat) (rc : RC) (ag_74 : Int32 → Int32 → Int32 → Int32 → Int32 → Int32 → PF → PG → PR) (x2 : Int32) (x3 : Int32) (x4 : Int32) (x5 : Int32) (x7 : Int32) (z0 : Int32) (F : PF) (G : PG) : PR := cb_X3_call_106 fu rc ag_74 x2 x3 x4 x5 x7 z0 F G
def cb_X3_call_91 (fu : Nat) (rc : RC) (ag_74 : Int32 → Int32 → Int32 → Int32 → Int32 → Int32 → PF → PG → PR) (x2 : Int32) (x3 : Int32) (x4 : Int32) (x5 : Int32) (x7 : Int32) (F : PF) (G : PG) : PR := (cf_X8_formalKind fu x4 x7 F G).bind (fun q => cb_X3_call_102 fu rc ag_74 x2 x3 x4 x5 x7 q.1 q.2.1 q.2.2)
def cb_X3_call_87 (fu : Nat) (rc : RC) (ag_74 : Int32 → Int32 → Int32 → Int32 → Int32 → Int32 → PF → PG → PR) (x2 : Int32) (x3 : Int32) (x4 : Int32) (x5 : Int32) (x7 : Int32) (F : PF) (G : PG) : PR := if x3 = (0 : Int32) then cb_X3_call_105 fu rc ag_74 x2 x3 x4 x5 x7 F G else cb_X3_call_91 fu rc ag_74 x2 x3 x4 x5 x7 F G
def cb_X3_call_82 (fu : Nat) (rc : RC) (ag_74 : Int32 → Int32 → Int32 → Int32 → Int32 → Int32 → PF → PG → PR) (x2 : Int32) (x3 : Int32) (x4 : Int32) (x5 : Int32) (x6 : Int32) (x7 : Int32) (F : PF) (G : PG) : PR := if x6 = (0 : Int32) then cb_X3_call_246 fu rc x2 x3 x4 x5 F G else cb_X3_call_87 fu rc ag_74 x2 x3 x4 x5 x7 F G
def cb_X3_call_74 (fu : Nat) (rc : RC) (ag_74 : Int32 → Int32 → Int32 → Int32 → Int32 → Int32 → PF → PG → PR) (x2 : Int32) (x3 : Int32) (x4 : Int32) (x5 : Int32) (x6 : Int32) (x7 : Int32) (F : PF) (G : PG) : PR := if (4001 : Int32) ≤ x7 then cb_X3_call_246 fu rc x2 x3 x4 x5 F G else cb_X3_call_82 fu rc ag_74 x2 x3 x4 x5 x6 x7 F G
def cl_X3_call_74 (fu : Nat) (rc : RC) : Nat → Int32 → Int32 → Int32 → Int32 → Int32 → Int32 → PF → PG → PR
  | 0 => fun _ _ _ _ _ _ _ _ => none
  | n + 1 => fun x2 x3 x4 x5 x6 x7 F G => cb_X3_call_74 fu rc (cl_X3_call_74 fu rc n) x2 x3 x4 x5 x6 x7 F G
def cb_X3_call_69 (fu : Nat) (rc : RC) (x2 : Int32) (x3 : Int32) (x4 : Int32) (x5 : Int32) (z0 : Int32) (F : PF) (G : PG) : PR := cl_X3_call_74 fu rc fu x2 x3 x4 x5 z0 0 F G
def cb_X3_call_68 (fu : Nat) (rc : RC) (x2 : Int32) (x3 : Int32) (x4 : Int32) (x5 : Int32) (F : PF) (G : PG) : PR := cb_X3_call_69 fu rc x2 x3 x4 x5 0 F G
def cb_X3_call_64 (fu : Nat) (rc : RC) (x2 : Int32) (x3 : Int32) (x4 : Int32) (x5 : Int32) (F : PF) (G : PG) : PR := cb_X3_call_69 fu rc x2 x3 x4 x5 1 F G
def cb_X3_call_49 (fu : Nat) (rc : RC) (x2 : Int32) (x3 : Int32) (x4 : Int32) (F : PF) (G : PG) : PR := if (F 11) = (20 : Int32) then cb_X3_call_68 fu rc x2 x3 x4 0 F G else cb_X3_call_64 fu rc x2 x3 x4 0 F G
def cb_X3_call_48 (fu : Nat) (rc : RC) (F : PF) (G : PG) : PR := some (0, F, G)
def cb_X3_call_45 (fu : Nat) (rc : RC) (x2 : Int32) (x3 : Int32) (x4 : Int32) (z0 : Int32) (F : PF) (G : PG) : PR := if z0 = (0 : Int32) then cb_X3_call_48 fu rc F G else cb_X3_call_49 fu rc x2 x3 x4 F G
def cb_X3_call_34 (fu : Nat) (rc : RC) (x2 : Int32) (x3 : Int32) (z0 : Int32) (F : PF) (G : PG) : PR := (cf_X2_opens fu 19 F G).bind (fun q => cb_X3_call_45 fu rc x2 x3 z0 q.1 q.2.1 q.2.2)
def cb_X3_call_33 (fu : Nat) (rc : RC) (x2 : Int32) (x3 : Int32) (F : PF) (G : PG) : PR := cb_X3_call_34 fu rc x2 x3 (-1) F G
def cb_X3_call_30 (fu : Nat) (rc : RC) (x2 : Int32) (x3 : Int32) (z0 : Int32) (F : PF) (G : PG) : PR := cb_X3_call_34 fu rc x2 x3 z0 F G
def cb_X3_call_22 (fu : Nat) (rc : RC) (x1 : Int32) (x2 : Int32) (x3 : Int32) (F : PF) (G : PG) : PR := (cf_X5_value fu x1 F G).bind (fun q => cb_X3_call_30 fu rc x2 x3 q.1 q.2.1 q.2.2)
def cb_X3_call_17 (fu : Nat) (rc : RC) (x1 : Int32) (x2 : Int32) (z0 : Int32) (F : PF) (G : PG) : PR := if z0 = (0 : Int32) then cb_X3_call_33 fu rc x2 z0 F G else cb_X3_call_22 fu rc x1 x2 z0 F G
def cb_X3_call_16 (fu : Nat) (rc : RC) (x1 : Int32) (x2 : Int32) (F : PF) (G : PG) : PR := cb_X3_call_17 fu rc x1 x2 0 F G
def cb_X3_call_12 (fu : Nat) (rc : RC) (x1 : Int32) (x2 : Int32) (F : PF) (G : PG) : PR := cb_X3_call_17 fu rc x1 x2 1 F G
def cb_X3_call_8 (fu : Nat) (rc : RC) (x1 : Int32) (x2 : Int32) (z0 : Int32) (F : PF) (G : PG) : PR := if z0 = (4 : Int32) then cb_X3_call_12 fu rc x1 x2 F G else cb_X3_call_16 fu rc x1 x2 F G
def cb_X3_call_0 (fu : Nat) (rc : RC) (x1 : Int32) (x2 : Int32) (F : PF) (G : PG) : PR := (cf_X5_kind fu x1 F G).bind (fun q => cb_X3_call_8 fu rc x1 x2 q.1 q.2.1 q.2.2)
def ch_X3_call (fu : Nat) (rc : RC) (x1 : Int32) (x2 : Int32) (F : PF) (G : PG) : PR := cb_X3_call_0 fu rc x1 x2 F G
theorem cn_X3_call_308 (fu : Nat) (rc : RC) (hrn : ∀ (i : Nat) (x y : Int32) (F : PF) (G : PG) (q : Int32 × PF × PG), rc i x y F G = some q → xn F ≤ xn q.2.1) {res : Int32 × PF × PG} (F : PF) (G : PG) (hm : cb_X3_call_308 fu rc F G = some res) : xn F ≤ xn res.2.1 := by
  unfold cb_X3_call_308 at hm
  obtain rfl := Option.some.inj hm
  exact Nat.le_refl _
theorem cw_X3_call_308 (fu : Nat) (rc : RC) {dd : Nat} (hr : cH1 l v a rc dd) (hrn : ∀ (i : Nat) (x y : Int32) (F : PF) (G : PG) (q : Int32 × PF × PG), rc i x y F G = some q → xn F ≤ xn q.2.1) {res : Int32 × PF × PG} (C : cMC p R s m args c A v RX3 cX3_call 10 (dd + 1 + 2) (60 * (dd + 1) + 49) (xn res.2.1 - xn K0)) (hret : ∀ (b1 : Nat) (H1 : Heap) (locs1 : List Loc) (ls1 : Array Slot) (pc : Nat), cMW s A v a b1 K0 res.2.1 res.2.2 H1 locs1 → decode cX3_call pc = .ok (.return_, 1) → W p l e R s m args below meth c H1 locs1 (xn res.2.1 - xn K0) (2 * (xn res.2.1 - xn K0)) Q (F0 m pc ls1 [])) (F : PF) (G : PG) (hm : cb_X3_call_308 fu rc F G = some res) {b : Nat} {H : Heap} {locs : List Loc} (hw : cMW s A v a b K0 F G H locs) {ls : Array Slot} (hl : lv_has ls 10 []) : W p l e R s m args below meth c H locs (xn F - xn K0) (2 * (xn F - xn K0)) Q (F0 m 308 ls []) := by
  have hx := C.1
  have hb := C.2.1
  unfold cb_X3_call_308 at hm
  obtain rfl := Option.some.inj hm
  exact hret _ _ _ _ _ hw dX3_call_308
theorem cn_X3_call_300 (fu : Nat) (rc : RC) (hrn : ∀ (i : Nat) (x y : Int32) (F : PF) (G : PG) (q : Int32 × PF × PG), rc i x y F G = some q → xn F ≤ xn q.2.1) {res : Int32 × PF × PG} (x2 : Int32) (F : PF) (G : PG) (hm : cb_X3_call_300 fu rc x2 F G = some res) : xn F ≤ xn res.2.1 := by
  unfold cb_X3_call_300 at hm
  obtain ⟨⟨r1, F1, G1⟩, hc, hm⟩ := bind_elim hm
  exact Nat.le_trans (cn_X1_add fu x2 F G _ hc) (cn_X3_call_308 fu rc hrn F1 G1 hm)
theorem cw_X3_call_300 (fu : Nat) (rc : RC) {dd : Nat} (hr : cH1 l v a rc dd) (hrn : ∀ (i : Nat) (x y : Int32) (F : PF) (G : PG) (q : Int32 × PF × PG), rc i x y F G = some q → xn F ≤ xn q.2.1) {res : Int32 × PF × PG} (C : cMC p R s m args c A v RX3 cX3_call 10 (dd + 1 + 2) (60 * (dd + 1) + 49) (xn res.2.1 - xn K0)) (hret : ∀ (b1 : Nat) (H1 : Heap) (locs1 : List Loc) (ls1 : Array Slot) (pc : Nat), cMW s A v a b1 K0 res.2.1 res.2.2 H1 locs1 → decode cX3_call pc = .ok (.return_, 1) → W p l e R s m args below meth c H1 locs1 (xn res.2.1 - xn K0) (2 * (xn res.2.1 - xn K0)) Q (F0 m pc ls1 [])) (x2 : Int32) (F : PF) (G : PG) (hm : cb_X3_call_300 fu rc x2 F G = some res) {b : Nat} {H : Heap} {locs : List Loc} (hw : cMW s A v a b K0 F G H locs) {ls : Array Slot} (hl : lv_has ls 10 [(0, .ref (a 203)), (2, .int x2)]) : W p l e R s m args below meth c H locs (xn F - xn K0) (2 * (xn F - xn K0)) Q (F0 m 300 ls []) := by
  have hx := C.1
  have hb := C.2.1
  unfold cb_X3_call_300 at hm
  refine lv_aload_n hx hb dX3_call_300 rfl (lv_at hl 0 rfl) ?_
  refine cg_X3_23 C hw dX3_call_301 ?_
  refine lv_iload_n hx hb dX3_call_304 rfl (lv_at hl 1 rfl) ?_
  obtain ⟨⟨r1, F1, G1⟩, hc, hm⟩ := bind_elim hm
  refine ccallV (n := 1) (As := [.int x2]) (rest := []) C hw (ck_X1_add l v a _ _ fu x2 F G r1 F1 G1 hc) (cn_X1_add fu x2 F G _ hc) (Nat.sub_le_sub_right (cn_X3_call_308 fu rc hrn F1 G1 hm) _) (crecv_X1 C hw) cm_452 cm_453 cm_454 cm_369 cm_455 (by decide +kernel) rfl (by omega) (by omega) hl.1 rfl (Nat.le_of_ble_eq_true rfl) dX3_call_305 (fun b H locs hw => ?_)
  exact cw_X3_call_308 fu rc hr hrn C hret F1 G1 hm hw (lv_sub hl [] rfl)
theorem cn_X3_call_289 (fu : Nat) (rc : RC) (hrn : ∀ (i : Nat) (x y : Int32) (F : PF) (G : PG) (q : Int32 × PF × PG), rc i x y F G = some q → xn F ≤ xn q.2.1) {res : Int32 × PF × PG} (x2 : Int32) (x4 : Int32) (F : PF) (G : PG) (hm : cb_X3_call_289 fu rc x2 x4 F G = some res) : xn F ≤ xn res.2.1 := by
  unfold cb_X3_call_289 at hm
  obtain ⟨⟨r1, F1, G1⟩, hc, hm⟩ := bind_elim hm
  exact Nat.le_trans (cn_X1_addPair fu 90 x4 F G _ hc) (cn_X3_call_300 fu rc hrn x2 F1 G1 hm)
theorem cw_X3_call_289 (fu : Nat) (rc : RC) {dd : Nat} (hr : cH1 l v a rc dd) (hrn : ∀ (i : Nat) (x y : Int32) (F : PF) (G : PG) (q : Int32 × PF × PG), rc i x y F G = some q → xn F ≤ xn q.2.1) {res : Int32 × PF × PG} (C : cMC p R s m args c A v RX3 cX3_call 10 (dd + 1 + 2) (60 * (dd + 1) + 49) (xn res.2.1 - xn K0)) (hret : ∀ (b1 : Nat) (H1 : Heap) (locs1 : List Loc) (ls1 : Array Slot) (pc : Nat), cMW s A v a b1 K0 res.2.1 res.2.2 H1 locs1 → decode cX3_call pc = .ok (.return_, 1) → W p l e R s m args below meth c H1 locs1 (xn res.2.1 - xn K0) (2 * (xn res.2.1 - xn K0)) Q (F0 m pc ls1 [])) (x2 : Int32) (x4 : Int32) (F : PF) (G : PG) (hm : cb_X3_call_289 fu rc x2 x4 F G = some res) {b : Nat} {H : Heap} {locs : List Loc} (hw : cMW s A v a b K0 F G H locs) {ls : Array Slot} (hl : lv_has ls 10 [(0, .ref (a 203)), (2, .int x2), (4, .int x4)]) : W p l e R s m args below meth c H locs (xn F - xn K0) (2 * (xn F - xn K0)) Q (F0 m 289 ls []) := by
  have hx := C.1
  have hb := C.2.1
  unfold cb_X3_call_289 at hm
  refine lv_aload_n hx hb dX3_call_289 rfl (lv_at hl 0 rfl) ?_
  refine cg_X3_23 C hw dX3_call_290 ?_
  refine lv_bipush (v := 90) hx hb dX3_call_293 (by decide) ?_
  refine lv_iload hx hb dX3_call_295 (lv_at hl 2 rfl) ?_
  obtain ⟨⟨r1, F1, G1⟩, hc, hm⟩ := bind_elim hm
  refine ccallV (n := 2) (As := [.int 90, .int x4]) (rest := []) C hw (ck_X1_addPair l v a _ _ fu 90 x4 F G r1 F1 G1 hc) (cn_X1_addPair fu 90 x4 F G _ hc) (Nat.sub_le_sub_right (cn_X3_call_300 fu rc hrn x2 F1 G1 hm) _) (crecv_X1 C hw) cm_448 cm_449 cm_450 cm_369 cm_451 (by decide +kernel) rfl (by omega) (by omega) hl.1 rfl (Nat.le_of_ble_eq_true rfl) dX3_call_297 (fun b H locs hw => ?_)
  exact cw_X3_call_300 fu rc hr hrn C hret x2 F1 G1 hm hw (lv_sub hl [0, 1] rfl)
theorem cn_X3_call_280 (fu : Nat) (rc : RC) (hrn : ∀ (i : Nat) (x y : Int32) (F : PF) (G : PG) (q : Int32 × PF × PG), rc i x y F G = some q → xn F ≤ xn q.2.1) {res : Int32 × PF × PG} (x2 : Int32) (x4 : Int32) (F : PF) (G : PG) (hm : cb_X3_call_280 fu rc x2 x4 F G = some res) : xn F ≤ xn res.2.1 := by
  unfold cb_X3_call_280 at hm
  obtain ⟨⟨r1, F1, G1⟩, hc, hm⟩ := bind_elim hm
  exact Nat.le_trans (cn_X2_closesWith fu 20 F G _ hc) (cn_X3_call_289 fu rc hrn x2 x4 F1 G1 hm)
theorem cw_X3_call_280 (fu : Nat) (rc : RC) {dd : Nat} (hr : cH1 l v a rc dd) (hrn : ∀ (i : Nat) (x y : Int32) (F : PF) (G : PG) (q : Int32 × PF × PG), rc i x y F G = some q → xn F ≤ xn q.2.1) {res : Int32 × PF × PG} (C : cMC p R s m args c A v RX3 cX3_call 10 (dd + 1 + 2) (60 * (dd + 1) + 49) (xn res.2.1 - xn K0)) (hret : ∀ (b1 : Nat) (H1 : Heap) (locs1 : List Loc) (ls1 : Array Slot) (pc : Nat), cMW s A v a b1 K0 res.2.1 res.2.2 H1 locs1 → decode cX3_call pc = .ok (.return_, 1) → W p l e R s m args below meth c H1 locs1 (xn res.2.1 - xn K0) (2 * (xn res.2.1 - xn K0)) Q (F0 m pc ls1 [])) (x2 : Int32) (x4 : Int32) (F : PF) (G : PG) (hm : cb_X3_call_280 fu rc x2 x4 F G = some res) {b : Nat} {H : Heap} {locs : List Loc} (hw : cMW s A v a b K0 F G H locs) {ls : Array Slot} (hl : lv_has ls 10 [(0, .ref (a 203)), (2, .int x2), (4, .int x4)]) : W p l e R s m args below meth c H locs (xn F - xn K0) (2 * (xn F - xn K0)) Q (F0 m 280 ls []) := by
  have hx := C.1
  have hb := C.2.1
  unfold cb_X3_call_280 at hm
  refine lv_aload_n hx hb dX3_call_280 rfl (lv_at hl 0 rfl) ?_
  refine cg_X3_15 C hw dX3_call_281 ?_
  refine lv_bipush (v := 20) hx hb dX3_call_284 (by decide) ?_
  obtain ⟨⟨r1, F1, G1⟩, hc, hm⟩ := bind_elim hm
  refine ccallV (n := 1) (As := [.int 20]) (rest := []) C hw (ck_X2_closesWith l v a _ _ fu 20 F G r1 F1 G1 hc) (cn_X2_closesWith fu 20 F G _ hc) (Nat.sub_le_sub_right (cn_X3_call_289 fu rc hrn x2 x4 F1 G1 hm) _) (crecv_X2 C hw) cm_458 cm_459 cm_460 cm_307 cm_461 (by decide +kernel) rfl (by omega) (by omega) hl.1 rfl (Nat.le_of_ble_eq_true rfl) dX3_call_286 (fun b H locs hw => ?_)
  exact cw_X3_call_289 fu rc hr hrn C hret x2 x4 F1 G1 hm hw (lv_sub hl [0, 1, 2] rfl)
theorem cn_X3_call_265 (fu : Nat) (rc : RC) (hrn : ∀ (i : Nat) (x y : Int32) (F : PF) (G : PG) (q : Int32 × PF × PG), rc i x y F G = some q → xn F ≤ xn q.2.1) {res : Int32 × PF × PG} (x2 : Int32) (x4 : Int32) (F : PF) (G : PG) (hm : cb_X3_call_265 fu rc x2 x4 F G = some res) : xn F ≤ xn res.2.1 := by
  unfold cb_X3_call_265 at hm
  obtain ⟨⟨r1, F1, G1⟩, hc, hm⟩ := bind_elim hm
  exact Nat.le_trans (cn_X5_note fu 2 (F 13) F G _ hc) (cn_X3_call_280 fu rc hrn x2 x4 F1 G1 hm)
theorem cw_X3_call_265 (fu : Nat) (rc : RC) {dd : Nat} (hr : cH1 l v a rc dd) (hrn : ∀ (i : Nat) (x y : Int32) (F : PF) (G : PG) (q : Int32 × PF × PG), rc i x y F G = some q → xn F ≤ xn q.2.1) {res : Int32 × PF × PG} (C : cMC p R s m args c A v RX3 cX3_call 10 (dd + 1 + 2) (60 * (dd + 1) + 49) (xn res.2.1 - xn K0)) (hret : ∀ (b1 : Nat) (H1 : Heap) (locs1 : List Loc) (ls1 : Array Slot) (pc : Nat), cMW s A v a b1 K0 res.2.1 res.2.2 H1 locs1 → decode cX3_call pc = .ok (.return_, 1) → W p l e R s m args below meth c H1 locs1 (xn res.2.1 - xn K0) (2 * (xn res.2.1 - xn K0)) Q (F0 m pc ls1 [])) (x2 : Int32) (x4 : Int32) (F : PF) (G : PG) (hm : cb_X3_call_265 fu rc x2 x4 F G = some res) {b : Nat} {H : Heap} {locs : List Loc} (hw : cMW s A v a b K0 F G H locs) {ls : Array Slot} (hl : lv_has ls 10 [(0, .ref (a 203)), (2, .int x2), (4, .int x4)]) : W p l e R s m args below meth c H locs (xn F - xn K0) (2 * (xn F - xn K0)) Q (F0 m 265 ls []) := by
  have hx := C.1
  have hb := C.2.1
  unfold cb_X3_call_265 at hm
  refine lv_aload_n hx hb dX3_call_265 rfl (lv_at hl 0 rfl) ?_
  refine cg_X3_19 C hw dX3_call_266 ?_
  refine lv_iconst (v := 2) hx hb dX3_call_269 (by decide) ?_
  refine lv_aload_n hx hb dX3_call_270 rfl (lv_at hl 0 rfl) ?_
  refine cg_X3_15 C hw dX3_call_271 ?_
  refine cg_X3_72 C hw dX3_call_274 ?_
  obtain ⟨⟨r1, F1, G1⟩, hc, hm⟩ := bind_elim hm
  refine ccallV (n := 2) (As := [.int 2, .int (F 13)]) (rest := []) C hw (ck_X5_note l v a _ _ fu 2 (F 13) F G r1 F1 G1 hc) (cn_X5_note fu 2 (F 13) F G _ hc) (Nat.sub_le_sub_right (cn_X3_call_280 fu rc hrn x2 x4 F1 G1 hm) _) (crecv_X5 C hw) cm_457 cm_425 cm_426 cm_266 cm_427 (by decide +kernel) rfl (by omega) (by omega) hl.1 rfl (Nat.le_of_ble_eq_true rfl) dX3_call_277 (fun b H locs hw => ?_)
  exact cw_X3_call_280 fu rc hr hrn C hret x2 x4 F1 G1 hm hw (lv_sub hl [0, 1, 2] rfl)
theorem cn_X3_call_261 (fu : Nat) (rc : RC) (hrn : ∀ (i : Nat) (x y : Int32) (F : PF) (G : PG) (q : Int32 × PF × PG), rc i x y F G = some q → xn F ≤ xn q.2.1) {res : Int32 × PF × PG} (x2 : Int32) (x4 : Int32) (z0 : Int32) (F : PF) (G : PG) (hm : cb_X3_call_261 fu rc x2 x4 z0 F G = some res) : xn F ≤ xn res.2.1 := by
  unfold cb_X3_call_261 at hm
  by_cases c_1 : z0 = (-1 : Int32)
  · have hm := (if_pos c_1).symm.trans hm
    exact (cn_X3_call_280 fu rc hrn x2 x4 F G hm)
  · have hm := (if_neg c_1).symm.trans hm
    exact (cn_X3_call_265 fu rc hrn x2 x4 F G hm)
theorem cw_X3_call_261 (fu : Nat) (rc : RC) {dd : Nat} (hr : cH1 l v a rc dd) (hrn : ∀ (i : Nat) (x y : Int32) (F : PF) (G : PG) (q : Int32 × PF × PG), rc i x y F G = some q → xn F ≤ xn q.2.1) {res : Int32 × PF × PG} (C : cMC p R s m args c A v RX3 cX3_call 10 (dd + 1 + 2) (60 * (dd + 1) + 49) (xn res.2.1 - xn K0)) (hret : ∀ (b1 : Nat) (H1 : Heap) (locs1 : List Loc) (ls1 : Array Slot) (pc : Nat), cMW s A v a b1 K0 res.2.1 res.2.2 H1 locs1 → decode cX3_call pc = .ok (.return_, 1) → W p l e R s m args below meth c H1 locs1 (xn res.2.1 - xn K0) (2 * (xn res.2.1 - xn K0)) Q (F0 m pc ls1 [])) (x2 : Int32) (x4 : Int32) (z0 : Int32) (F : PF) (G : PG) (hm : cb_X3_call_261 fu rc x2 x4 z0 F G = some res) {b : Nat} {H : Heap} {locs : List Loc} (hw : cMW s A v a b K0 F G H locs) {ls : Array Slot} (hl : lv_has ls 10 [(0, .ref (a 203)), (2, .int x2), (4, .int x4)]) : W p l e R s m args below meth c H locs (xn F - xn K0) (2 * (xn F - xn K0)) Q (F0 m 261 ls [.int z0]) := by
  have hx := C.1
  have hb := C.2.1
  unfold cb_X3_call_261 at hm
  refine lv_iconst (v := (-1)) hx hb dX3_call_261 (by decide) ?_
  refine lv_icmp_eq (tgt := 280) hx hb dX3_call_262 (by decide) (fun c_1 => ?_) (fun c_1 => ?_)
  · have hm := (if_pos c_1).symm.trans hm
    exact cw_X3_call_280 fu rc hr hrn C hret x2 x4 F G hm hw (lv_sub hl [0, 1, 2] rfl)
  · have hm := (if_neg c_1).symm.trans hm
    exact cw_X3_call_265 fu rc hr hrn C hret x2 x4 F G hm hw (lv_sub hl [0, 1, 2] rfl)
theorem cn_X3_call_250 (fu : Nat) (rc : RC) (hrn : ∀ (i : Nat) (x y : Int32) (F : PF) (G : PG) (q : Int32 × PF × PG), rc i x y F G = some q → xn F ≤ xn q.2.1) {res : Int32 × PF × PG} (x2 : Int32) (x4 : Int32) (x5 : Int32) (F : PF) (G : PG) (hm : cb_X3_call_250 fu rc x2 x4 x5 F G = some res) : xn F ≤ xn res.2.1 := by
  unfold cb_X3_call_250 at hm
  obtain ⟨⟨r1, F1, G1⟩, hc, hm⟩ := bind_elim hm
  exact Nat.le_trans (cn_X8_formalKind fu x4 x5 F G _ hc) (cn_X3_call_261 fu rc hrn x2 x4 r1 F1 G1 hm)
theorem cw_X3_call_250 (fu : Nat) (rc : RC) {dd : Nat} (hr : cH1 l v a rc dd) (hrn : ∀ (i : Nat) (x y : Int32) (F : PF) (G : PG) (q : Int32 × PF × PG), rc i x y F G = some q → xn F ≤ xn q.2.1) {res : Int32 × PF × PG} (C : cMC p R s m args c A v RX3 cX3_call 10 (dd + 1 + 2) (60 * (dd + 1) + 49) (xn res.2.1 - xn K0)) (hret : ∀ (b1 : Nat) (H1 : Heap) (locs1 : List Loc) (ls1 : Array Slot) (pc : Nat), cMW s A v a b1 K0 res.2.1 res.2.2 H1 locs1 → decode cX3_call pc = .ok (.return_, 1) → W p l e R s m args below meth c H1 locs1 (xn res.2.1 - xn K0) (2 * (xn res.2.1 - xn K0)) Q (F0 m pc ls1 [])) (x2 : Int32) (x4 : Int32) (x5 : Int32) (F : PF) (G : PG) (hm : cb_X3_call_250 fu rc x2 x4 x5 F G = some res) {b : Nat} {H : Heap} {locs : List Loc} (hw : cMW s A v a b K0 F G H locs) {ls : Array Slot} (hl : lv_has ls 10 [(0, .ref (a 203)), (2, .int x2), (4, .int x4), (5, .int x5)]) : W p l e R s m args below meth c H locs (xn F - xn K0) (2 * (xn F - xn K0)) Q (F0 m 250 ls []) := by
  have hx := C.1
  have hb := C.2.1
  unfold cb_X3_call_250 at hm
  refine lv_aload_n hx hb dX3_call_250 rfl (lv_at hl 0 rfl) ?_
  refine cg_X3_27 C hw dX3_call_251 ?_
  refine lv_iload hx hb dX3_call_254 (lv_at hl 2 rfl) ?_
  refine lv_iload hx hb dX3_call_256 (lv_at hl 3 rfl) ?_
  obtain ⟨⟨r1, F1, G1⟩, hc, hm⟩ := bind_elim hm
  refine ccallI (n := 2) (As := [.int x4, .int x5]) (rest := []) C hw (ck_X8_formalKind l v a _ _ fu x4 x5 F G r1 F1 G1 hc) (cn_X8_formalKind fu x4 x5 F G _ hc) (Nat.sub_le_sub_right (cn_X3_call_261 fu rc hrn x2 x4 r1 F1 G1 hm) _) (crecv_X8 C hw) cm_397 cm_398 cm_399 cm_254 cm_400 (by decide +kernel) rfl (by omega) (by omega) hl.1 rfl (Nat.le_of_ble_eq_true rfl) dX3_call_258 (fun b H locs hw => ?_)
  exact cw_X3_call_261 fu rc hr hrn C hret x2 x4 r1 F1 G1 hm hw (lv_sub hl [0, 1, 2] rfl)
theorem cn_X3_call_246 (fu : Nat) (rc : RC) (hrn : ∀ (i : Nat) (x y : Int32) (F : PF) (G : PG) (q : Int32 × PF × PG), rc i x y F G = some q → xn F ≤ xn q.2.1) {res : Int32 × PF × PG} (x2 : Int32) (x3 : Int32) (x4 : Int32) (x5 : Int32) (F : PF) (G : PG) (hm : cb_X3_call_246 fu rc x2 x3 x4 x5 F G = some res) : xn F ≤ xn res.2.1 := by
  unfold cb_X3_call_246 at hm
  by_cases c_1 : x3 = (0 : Int32)
  · have hm := (if_pos c_1).symm.trans hm
    exact (cn_X3_call_280 fu rc hrn x2 x4 F G hm)
  · have hm := (if_neg c_1).symm.trans hm
    exact (cn_X3_call_250 fu rc hrn x2 x4 x5 F G hm)
theorem cw_X3_call_246 (fu : Nat) (rc : RC) {dd : Nat} (hr : cH1 l v a rc dd) (hrn : ∀ (i : Nat) (x y : Int32) (F : PF) (G : PG) (q : Int32 × PF × PG), rc i x y F G = some q → xn F ≤ xn q.2.1) {res : Int32 × PF × PG} (C : cMC p R s m args c A v RX3 cX3_call 10 (dd + 1 + 2) (60 * (dd + 1) + 49) (xn res.2.1 - xn K0)) (hret : ∀ (b1 : Nat) (H1 : Heap) (locs1 : List Loc) (ls1 : Array Slot) (pc : Nat), cMW s A v a b1 K0 res.2.1 res.2.2 H1 locs1 → decode cX3_call pc = .ok (.return_, 1) → W p l e R s m args below meth c H1 locs1 (xn res.2.1 - xn K0) (2 * (xn res.2.1 - xn K0)) Q (F0 m pc ls1 [])) (x2 : Int32) (x3 : Int32) (x4 : Int32) (x5 : Int32) (F : PF) (G : PG) (hm : cb_X3_call_246 fu rc x2 x3 x4 x5 F G = some res) {b : Nat} {H : Heap} {locs : List Loc} (hw : cMW s A v a b K0 F G H locs) {ls : Array Slot} (hl : lv_has ls 10 [(0, .ref (a 203)), (2, .int x2), (3, .int x3), (4, .int x4), (5, .int x5)]) : W p l e R s m args below meth c H locs (xn F - xn K0) (2 * (xn F - xn K0)) Q (F0 m 246 ls []) := by
  have hx := C.1
  have hb := C.2.1
  unfold cb_X3_call_246 at hm
  refine lv_iload_n hx hb dX3_call_246 rfl (lv_at hl 2 rfl) ?_
  refine lv_if_eq (tgt := 280) hx hb dX3_call_247 (by decide) (fun c_1 => ?_) (fun c_1 => ?_)
  · have hm := (if_pos c_1).symm.trans hm
    exact cw_X3_call_280 fu rc hr hrn C hret x2 x4 F G hm hw (lv_sub hl [0, 1, 3] rfl)
  · have hm := (if_neg c_1).symm.trans hm
    exact cw_X3_call_250 fu rc hr hrn C hret x2 x4 x5 F G hm hw (lv_sub hl [0, 1, 3, 4] rfl)
theorem cn_X3_call_240 (fu : Nat) (rc : RC) (hrn : ∀ (i : Nat) (x y : Int32) (F : PF) (G : PG) (q : Int32 × PF × PG), rc i x y F G = some q → xn F ≤ xn q.2.1) {res : Int32 × PF × PG} (ag_74 : Int32 → Int32 → Int32 → Int32 → Int32 → Int32 → PF → PG → PR) (hagn_74 : ∀ (x2 : Int32) (x3 : Int32) (x4 : Int32) (x5 : Int32) (x6 : Int32) (x7 : Int32) (F : PF) (G : PG), ag_74 x2 x3 x4 x5 x6 x7 F G = some res → xn F ≤ xn res.2.1) (x2 : Int32) (x3 : Int32) (x4 : Int32) (x5 : Int32) (x6 : Int32) (x7 : Int32) (F : PF) (G : PG) (hm : cb_X3_call_240 fu rc ag_74 x2 x3 x4 x5 x6 x7 F G = some res) : xn F ≤ xn res.2.1 := by
  unfold cb_X3_call_240 at hm
  exact (hagn_74 x2 x3 x4 x5 x6 (x7 + 1) F G hm)
theorem cw_X3_call_240 (fu : Nat) (rc : RC) {dd : Nat} (hr : cH1 l v a rc dd) (hrn : ∀ (i : Nat) (x y : Int32) (F : PF) (G : PG) (q : Int32 × PF × PG), rc i x y F G = some q → xn F ≤ xn q.2.1) {res : Int32 × PF × PG} (C : cMC p R s m args c A v RX3 cX3_call 10 (dd + 1 + 2) (60 * (dd + 1) + 49) (xn res.2.1 - xn K0)) (hret : ∀ (b1 : Nat) (H1 : Heap) (locs1 : List Loc) (ls1 : Array Slot) (pc : Nat), cMW s A v a b1 K0 res.2.1 res.2.2 H1 locs1 → decode cX3_call pc = .ok (.return_, 1) → W p l e R s m args below meth c H1 locs1 (xn res.2.1 - xn K0) (2 * (xn res.2.1 - xn K0)) Q (F0 m pc ls1 [])) (ag_74 : Int32 → Int32 → Int32 → Int32 → Int32 → Int32 → PF → PG → PR) (hag_74 : ∀ (x2 : Int32) (x3 : Int32) (x4 : Int32) (x5 : Int32) (x6 : Int32) (x7 : Int32) (F : PF) (G : PG), ag_74 x2 x3 x4 x5 x6 x7 F G = some res → ∀ (b : Nat) (H : Heap) (locs : List Loc) (ls : Array Slot), cMW s A v a b K0 F G H locs → lv_has ls 10 [(0, .ref (a 203)), (2, .int x2), (3, .int x3), (4, .int x4), (5, .int x5), (6, .int x6), (7, .int x7)] → W p l e R s m args below meth c H locs (xn F - xn K0) (2 * (xn F - xn K0)) Q (F0 m 74 ls [])) (hagn_74 : ∀ (x2 : Int32) (x3 : Int32) (x4 : Int32) (x5 : Int32) (x6 : Int32) (x7 : Int32) (F : PF) (G : PG), ag_74 x2 x3 x4 x5 x6 x7 F G = some res → xn F ≤ xn res.2.1) (x2 : Int32) (x3 : Int32) (x4 : Int32) (x5 : Int32) (x6 : Int32) (x7 : Int32) (F : PF) (G : PG) (hm : cb_X3_call_240 fu rc ag_74 x2 x3 x4 x5 x6 x7 F G = some res) {b : Nat} {H : Heap} {locs : List Loc} (hw : cMW s A v a b K0 F G H locs) {ls : Array Slot} (hl : lv_has ls 10 [(0, .ref (a 203)), (2, .int x2), (3, .int x3), (4, .int x4), (5, .int x5), (6, .int x6), (7, .int x7)]) : W p l e R s m args below meth c H locs (xn F - xn K0) (2 * (xn F - xn K0)) Q (F0 m 240 ls []) := by
  have hx := C.1
  have hb := C.2.1
  unfold cb_X3_call_240 at hm
  refine lv_iinc (v := (x7 + 1)) (lv' := [(7, .int (x7 + 1)), (0, .ref (a 203)), (2, .int x2), (3, .int x3), (4, .int x4), (5, .int x5), (6, .int x6)]) hx hb dX3_call_240 hl (k := 6) rfl (by rfl) (by decide) rfl (fun ls hl => ?_)
  refine lv_goto (tgt := 74) hx hb dX3_call_243 (by decide) ?_
  exact hag_74 x2 x3 x4 x5 x6 (x7 + 1) F G hm _ _ _ _ hw (lv_sub hl [1, 2, 3, 4, 5, 6, 0] rfl)
theorem cn_X3_call_233 (fu : Nat) (rc : RC) (hrn : ∀ (i : Nat) (x y : Int32) (F : PF) (G : PG) (q : Int32 × PF × PG), rc i x y F G = some q → xn F ≤ xn q.2.1) {res : Int32 × PF × PG} (ag_74 : Int32 → Int32 → Int32 → Int32 → Int32 → Int32 → PF → PG → PR) (hagn_74 : ∀ (x2 : Int32) (x3 : Int32) (x4 : Int32) (x5 : Int32) (x6 : Int32) (x7 : Int32) (F : PF) (G : PG), ag_74 x2 x3 x4 x5 x6 x7 F G = some res → xn F ≤ xn res.2.1) (x2 : Int32) (x3 : Int32) (x4 : Int32) (x5 : Int32) (x6 : Int32) (x7 : Int32) (F : PF) (G : PG) (hm : cb_X3_call_233 fu rc ag_74 x2 x3 x4 x5 x6 x7 F G = some res) : xn F ≤ xn res.2.1 := by
  unfold cb_X3_call_233 at hm
  obtain ⟨⟨r1, F1, G1⟩, hc, hm⟩ := bind_elim hm
  exact Nat.le_trans (cn_X2_next fu F G _ hc) (cn_X3_call_240 fu rc hrn ag_74 hagn_74 x2 x3 x4 x5 x6 x7 F1 G1 hm)
theorem cw_X3_call_233 (fu : Nat) (rc : RC) {dd : Nat} (hr : cH1 l v a rc dd) (hrn : ∀ (i : Nat) (x y : Int32) (F : PF) (G : PG) (q : Int32 × PF × PG), rc i x y F G = some q → xn F ≤ xn q.2.1) {res : Int32 × PF × PG} (C : cMC p R s m args c A v RX3 cX3_call 10 (dd + 1 + 2) (60 * (dd + 1) + 49) (xn res.2.1 - xn K0)) (hret : ∀ (b1 : Nat) (H1 : Heap) (locs1 : List Loc) (ls1 : Array Slot) (pc : Nat), cMW s A v a b1 K0 res.2.1 res.2.2 H1 locs1 → decode cX3_call pc = .ok (.return_, 1) → W p l e R s m args below meth c H1 locs1 (xn res.2.1 - xn K0) (2 * (xn res.2.1 - xn K0)) Q (F0 m pc ls1 [])) (ag_74 : Int32 → Int32 → Int32 → Int32 → Int32 → Int32 → PF → PG → PR) (hag_74 : ∀ (x2 : Int32) (x3 : Int32) (x4 : Int32) (x5 : Int32) (x6 : Int32) (x7 : Int32) (F : PF) (G : PG), ag_74 x2 x3 x4 x5 x6 x7 F G = some res → ∀ (b : Nat) (H : Heap) (locs : List Loc) (ls : Array Slot), cMW s A v a b K0 F G H locs → lv_has ls 10 [(0, .ref (a 203)), (2, .int x2), (3, .int x3), (4, .int x4), (5, .int x5), (6, .int x6), (7, .int x7)] → W p l e R s m args below meth c H locs (xn F - xn K0) (2 * (xn F - xn K0)) Q (F0 m 74 ls [])) (hagn_74 : ∀ (x2 : Int32) (x3 : Int32) (x4 : Int32) (x5 : Int32) (x6 : Int32) (x7 : Int32) (F : PF) (G : PG), ag_74 x2 x3 x4 x5 x6 x7 F G = some res → xn F ≤ xn res.2.1) (x2 : Int32) (x3 : Int32) (x4 : Int32) (x5 : Int32) (x6 : Int32) (x7 : Int32) (F : PF) (G : PG) (hm : cb_X3_call_233 fu rc ag_74 x2 x3 x4 x5 x6 x7 F G = some res) {b : Nat} {H : Heap} {locs : List Loc} (hw : cMW s A v a b K0 F G H locs) {ls : Array Slot} (hl : lv_has ls 10 [(0, .ref (a 203)), (2, .int x2), (3, .int x3), (4, .int x4), (5, .int x5), (6, .int x6), (7, .int x7)]) : W p l e R s m args below meth c H locs (xn F - xn K0) (2 * (xn F - xn K0)) Q (F0 m 233 ls []) := by
  have hx := C.1
  have hb := C.2.1
  unfold cb_X3_call_233 at hm
  refine lv_aload_n hx hb dX3_call_233 rfl (lv_at hl 0 rfl) ?_
  refine cg_X3_15 C hw dX3_call_234 ?_
  obtain ⟨⟨r1, F1, G1⟩, hc, hm⟩ := bind_elim hm
  refine ccallV (n := 0) (As := []) (rest := []) C hw (ck_X2_next l v a _ _ fu F G r1 F1 G1 hc) (cn_X2_next fu F G _ hc) (Nat.sub_le_sub_right (cn_X3_call_240 fu rc hrn ag_74 hagn_74 x2 x3 x4 x5 x6 x7 F1 G1 hm) _) (crecv_X2 C hw) cm_456 cm_321 cm_322 cm_307 cm_323 (by decide +kernel) rfl (by omega) (by omega) hl.1 rfl (Nat.le_of_ble_eq_true rfl) dX3_call_237 (fun b H locs hw => ?_)
  exact cw_X3_call_240 fu rc hr hrn C hret ag_74 hag_74 hagn_74 x2 x3 x4 x5 x6 x7 F1 G1 hm hw (lv_sub hl [0, 1, 2, 3, 4, 5, 6] rfl)
theorem cn_X3_call_226 (fu : Nat) (rc : RC) (hrn : ∀ (i : Nat) (x y : Int32) (F : PF) (G : PG) (q : Int32 × PF × PG), rc i x y F G = some q → xn F ≤ xn q.2.1) {res : Int32 × PF × PG} (ag_74 : Int32 → Int32 → Int32 → Int32 → Int32 → Int32 → PF → PG → PR) (hagn_74 : ∀ (x2 : Int32) (x3 : Int32) (x4 : Int32) (x5 : Int32) (x6 : Int32) (x7 : Int32) (F : PF) (G : PG), ag_74 x2 x3 x4 x5 x6 x7 F G = some res → xn F ≤ xn res.2.1) (x2 : Int32) (x3 : Int32) (x4 : Int32) (x5 : Int32) (x7 : Int32) (z0 : Int32) (F : PF) (G : PG) (hm : cb_X3_call_226 fu rc ag_74 x2 x3 x4 x5 x7 z0 F G = some res) : xn F ≤ xn res.2.1 := by
  unfold cb_X3_call_226 at hm
  by_cases c_1 : z0 = (0 : Int32)
  · have hm := (if_pos c_1).symm.trans hm
    exact (cn_X3_call_240 fu rc hrn ag_74 hagn_74 x2 x3 x4 x5 z0 x7 F G hm)
  · have hm := (if_neg c_1).symm.trans hm
    exact (cn_X3_call_233 fu rc hrn ag_74 hagn_74 x2 x3 x4 x5 z0 x7 F G hm)
theorem cw_X3_call_226 (fu : Nat) (rc : RC) {dd : Nat} (hr : cH1 l v a rc dd) (hrn : ∀ (i : Nat) (x y : Int32) (F : PF) (G : PG) (q : Int32 × PF × PG), rc i x y F G = some q → xn F ≤ xn q.2.1) {res : Int32 × PF × PG} (C : cMC p R s m args c A v RX3 cX3_call 10 (dd + 1 + 2) (60 * (dd + 1) + 49) (xn res.2.1 - xn K0)) (hret : ∀ (b1 : Nat) (H1 : Heap) (locs1 : List Loc) (ls1 : Array Slot) (pc : Nat), cMW s A v a b1 K0 res.2.1 res.2.2 H1 locs1 → decode cX3_call pc = .ok (.return_, 1) → W p l e R s m args below meth c H1 locs1 (xn res.2.1 - xn K0) (2 * (xn res.2.1 - xn K0)) Q (F0 m pc ls1 [])) (ag_74 : Int32 → Int32 → Int32 → Int32 → Int32 → Int32 → PF → PG → PR) (hag_74 : ∀ (x2 : Int32) (x3 : Int32) (x4 : Int32) (x5 : Int32) (x6 : Int32) (x7 : Int32) (F : PF) (G : PG), ag_74 x2 x3 x4 x5 x6 x7 F G = some res → ∀ (b : Nat) (H : Heap) (locs : List Loc) (ls : Array Slot), cMW s A v a b K0 F G H locs → lv_has ls 10 [(0, .ref (a 203)), (2, .int x2), (3, .int x3), (4, .int x4), (5, .int x5), (6, .int x6), (7, .int x7)] → W p l e R s m args below meth c H locs (xn F - xn K0) (2 * (xn F - xn K0)) Q (F0 m 74 ls [])) (hagn_74 : ∀ (x2 : Int32) (x3 : Int32) (x4 : Int32) (x5 : Int32) (x6 : Int32) (x7 : Int32) (F : PF) (G : PG), ag_74 x2 x3 x4 x5 x6 x7 F G = some res → xn F ≤ xn res.2.1) (x2 : Int32) (x3 : Int32) (x4 : Int32) (x5 : Int32) (x7 : Int32) (z0 : Int32) (F : PF) (G : PG) (hm : cb_X3_call_226 fu rc ag_74 x2 x3 x4 x5 x7 z0 F G = some res) {b : Nat} {H : Heap} {locs : List Loc} (hw : cMW s A v a b K0 F G H locs) {ls : Array Slot} (hl : lv_has ls 10 [(0, .ref (a 203)), (2, .int x2), (3, .int x3), (4, .int x4), (5, .int x5), (7, .int x7)]) : W p l e R s m args below meth c H locs (xn F - xn K0) (2 * (xn F - xn K0)) Q (F0 m 226 ls [.int z0]) := by
  have hx := C.1
  have hb := C.2.1
  unfold cb_X3_call_226 at hm
  refine lv_istore (lv' := [(6, .int z0), (0, .ref (a 203)), (2, .int x2), (3, .int x3), (4, .int x4), (5, .int x5), (7, .int x7)]) hx hb dX3_call_226 hl (by decide) rfl (fun ls hl => ?_)
  refine lv_iload hx hb dX3_call_228 (lv_at hl 0 rfl) ?_
  refine lv_if_eq (tgt := 240) hx hb dX3_call_230 (by decide) (fun c_1 => ?_) (fun c_1 => ?_)
  · have hm := (if_pos c_1).symm.trans hm
    exact cw_X3_call_240 fu rc hr hrn C hret ag_74 hag_74 hagn_74 x2 x3 x4 x5 z0 x7 F G hm hw (lv_sub hl [1, 2, 3, 4, 5, 0, 6] rfl)
  · have hm := (if_neg c_1).symm.trans hm
    exact cw_X3_call_233 fu rc hr hrn C hret ag_74 hag_74 hagn_74 x2 x3 x4 x5 z0 x7 F G hm hw (lv_sub hl [1, 2, 3, 4, 5, 0, 6] rfl)
theorem cn_X3_call_225 (fu : Nat) (rc : RC) (hrn : ∀ (i : Nat) (x y : Int32) (F : PF) (G : PG) (q : Int32 × PF × PG), rc i x y F G = some q → xn F ≤ xn q.2.1) {res : Int32 × PF × PG} (ag_74 : Int32 → Int32 → Int32 → Int32 → Int32 → Int32 → PF → PG → PR) (hagn_74 : ∀ (x2 : Int32) (x3 : Int32) (x4 : Int32) (x5 : Int32) (x6 : Int32) (x7 : Int32) (F : PF) (G : PG), ag_74 x2 x3 x4 x5 x6 x7 F G = some res → xn F ≤ xn res.2.1) (x2 : Int32) (x3 : Int32) (x4 : Int32) (x5 : Int32) (x7 : Int32) (F : PF) (G : PG) (hm : cb_X3_call_225 fu rc ag_74 x2 x3 x4 x5 x7 F G = some res) : xn F ≤ xn res.2.1 := by
  unfold cb_X3_call_225 at hm
  exact (cn_X3_call_226 fu rc hrn ag_74 hagn_74 x2 x3 x4 x5 x7 0 F G hm)
theorem cw_X3_call_225 (fu : Nat) (rc : RC) {dd : Nat} (hr : cH1 l v a rc dd) (hrn : ∀ (i : Nat) (x y : Int32) (F : PF) (G : PG) (q : Int32 × PF × PG), rc i x y F G = some q → xn F ≤ xn q.2.1) {res : Int32 × PF × PG} (C : cMC p R s m args c A v RX3 cX3_call 10 (dd + 1 + 2) (60 * (dd + 1) + 49) (xn res.2.1 - xn K0)) (hret : ∀ (b1 : Nat) (H1 : Heap) (locs1 : List Loc) (ls1 : Array Slot) (pc : Nat), cMW s A v a b1 K0 res.2.1 res.2.2 H1 locs1 → decode cX3_call pc = .ok (.return_, 1) → W p l e R s m args below meth c H1 locs1 (xn res.2.1 - xn K0) (2 * (xn res.2.1 - xn K0)) Q (F0 m pc ls1 [])) (ag_74 : Int32 → Int32 → Int32 → Int32 → Int32 → Int32 → PF → PG → PR) (hag_74 : ∀ (x2 : Int32) (x3 : Int32) (x4 : Int32) (x5 : Int32) (x6 : Int32) (x7 : Int32) (F : PF) (G : PG), ag_74 x2 x3 x4 x5 x6 x7 F G = some res → ∀ (b : Nat) (H : Heap) (locs : List Loc) (ls : Array Slot), cMW s A v a b K0 F G H locs → lv_has ls 10 [(0, .ref (a 203)), (2, .int x2), (3, .int x3), (4, .int x4), (5, .int x5), (6, .int x6), (7, .int x7)] → W p l e R s m args below meth c H locs (xn F - xn K0) (2 * (xn F - xn K0)) Q (F0 m 74 ls [])) (hagn_74 : ∀ (x2 : Int32) (x3 : Int32) (x4 : Int32) (x5 : Int32) (x6 : Int32) (x7 : Int32) (F : PF) (G : PG), ag_74 x2 x3 x4 x5 x6 x7 F G = some res → xn F ≤ xn res.2.1) (x2 : Int32) (x3 : Int32) (x4 : Int32) (x5 : Int32) (x7 : Int32) (F : PF) (G : PG) (hm : cb_X3_call_225 fu rc ag_74 x2 x3 x4 x5 x7 F G = some res) {b : Nat} {H : Heap} {locs : List Loc} (hw : cMW s A v a b K0 F G H locs) {ls : Array Slot} (hl : lv_has ls 10 [(0, .ref (a 203)), (2, .int x2), (3, .int x3), (4, .int x4), (5, .int x5), (7, .int x7)]) : W p l e R s m args below meth c H locs (xn F - xn K0) (2 * (xn F - xn K0)) Q (F0 m 225 ls []) := by
  have hx := C.1
  have hb := C.2.1
  unfold cb_X3_call_225 at hm
  refine lv_iconst (v := 0) hx hb dX3_call_225 (by decide) ?_
  exact cw_X3_call_226 fu rc hr hrn C hret ag_74 hag_74 hagn_74 x2 x3 x4 x5 x7 0 F G hm hw (lv_sub hl [0, 1, 2, 3, 4, 5] rfl)
theorem cn_X3_call_221 (fu : Nat) (rc : RC) (hrn : ∀ (i : Nat) (x y : Int32) (F : PF) (G : PG) (q : Int32 × PF × PG), rc i x y F G = some q → xn F ≤ xn q.2.1) {res : Int32 × PF × PG} (ag_74 : Int32 → Int32 → Int32 → Int32 → Int32 → Int32 → PF → PG → PR) (hagn_74 : ∀ (x2 : Int32) (x3 : Int32) (x4 : Int32) (x5 : Int32) (x6 : Int32) (x7 : Int32) (F : PF) (G : PG), ag_74 x2 x3 x4 x5 x6 x7 F G = some res → xn F ≤ xn res.2.1) (x2 : Int32) (x3 : Int32) (x4 : Int32) (x5 : Int32) (x7 : Int32) (F : PF) (G : PG) (hm : cb_X3_call_221 fu rc ag_74 x2 x3 x4 x5 x7 F G = some res) : xn F ≤ xn res.2.1 := by
  unfold cb_X3_call_221 at hm
  exact (cn_X3_call_226 fu rc hrn ag_74 hagn_74 x2 x3 x4 x5 x7 1 F G hm)
theorem cw_X3_call_221 (fu : Nat) (rc : RC) {dd : Nat} (hr : cH1 l v a rc dd) (hrn : ∀ (i : Nat) (x y : Int32) (F : PF) (G : PG) (q : Int32 × PF × PG), rc i x y F G = some q → xn F ≤ xn q.2.1) {res : Int32 × PF × PG} (C : cMC p R s m args c A v RX3 cX3_call 10 (dd + 1 + 2) (60 * (dd + 1) + 49) (xn res.2.1 - xn K0)) (hret : ∀ (b1 : Nat) (H1 : Heap) (locs1 : List Loc) (ls1 : Array Slot) (pc : Nat), cMW s A v a b1 K0 res.2.1 res.2.2 H1 locs1 → decode cX3_call pc = .ok (.return_, 1) → W p l e R s m args below meth c H1 locs1 (xn res.2.1 - xn K0) (2 * (xn res.2.1 - xn K0)) Q (F0 m pc ls1 [])) (ag_74 : Int32 → Int32 → Int32 → Int32 → Int32 → Int32 → PF → PG → PR) (hag_74 : ∀ (x2 : Int32) (x3 : Int32) (x4 : Int32) (x5 : Int32) (x6 : Int32) (x7 : Int32) (F : PF) (G : PG), ag_74 x2 x3 x4 x5 x6 x7 F G = some res → ∀ (b : Nat) (H : Heap) (locs : List Loc) (ls : Array Slot), cMW s A v a b K0 F G H locs → lv_has ls 10 [(0, .ref (a 203)), (2, .int x2), (3, .int x3), (4, .int x4), (5, .int x5), (6, .int x6), (7, .int x7)] → W p l e R s m args below meth c H locs (xn F - xn K0) (2 * (xn F - xn K0)) Q (F0 m 74 ls [])) (hagn_74 : ∀ (x2 : Int32) (x3 : Int32) (x4 : Int32) (x5 : Int32) (x6 : Int32) (x7 : Int32) (F : PF) (G : PG), ag_74 x2 x3 x4 x5 x6 x7 F G = some res → xn F ≤ xn res.2.1) (x2 : Int32) (x3 : Int32) (x4 : Int32) (x5 : Int32) (x7 : Int32) (F : PF) (G : PG) (hm : cb_X3_call_221 fu rc ag_74 x2 x3 x4 x5 x7 F G = some res) {b : Nat} {H : Heap} {locs : List Loc} (hw : cMW s A v a b K0 F G H locs) {ls : Array Slot} (hl : lv_has ls 10 [(0, .ref (a 203)), (2, .int x2), (3, .int x3), (4, .int x4), (5, .int x5), (7, .int x7)]) : W p l e R s m args below meth c H locs (xn F - xn K0) (2 * (xn F - xn K0)) Q (F0 m 221 ls []) := by
  have hx := C.1
  have hb := C.2.1
  unfold cb_X3_call_221 at hm
  refine lv_iconst (v := 1) hx hb dX3_call_221 (by decide) ?_
  refine lv_goto (tgt := 226) hx hb dX3_call_222 (by decide) ?_
  exact cw_X3_call_226 fu rc hr hrn C hret ag_74 hag_74 hagn_74 x2 x3 x4 x5 x7 1 F G hm hw (lv_sub hl [0, 1, 2, 3, 4, 5] rfl)
theorem cn_X3_call_206 (fu : Nat) (rc : RC) (hrn : ∀ (i : Nat) (x y : Int32) (F : PF) (G : PG) (q : Int32 × PF × PG), rc i x y F G = some q → xn F ≤ xn q.2.1) {res : Int32 × PF × PG} (ag_74 : Int32 → Int32 → Int32 → Int32 → Int32 → Int32 → PF → PG → PR) (hagn_74 : ∀ (x2 : Int32) (x3 : Int32) (x4 : Int32) (x5 : Int32) (x6 : Int32) (x7 : Int32) (F : PF) (G : PG), ag_74 x2 x3 x4 x5 x6 x7 F G = some res → xn F ≤ xn res.2.1) (x2 : Int32) (x3 : Int32) (x4 : Int32) (x5 : Int32) (x7 : Int32) (F : PF) (G : PG) (hm : cb_X3_call_206 fu rc ag_74 x2 x3 x4 x5 x7 F G = some res) : xn F ≤ xn res.2.1 := by
  unfold cb_X3_call_206 at hm
  by_cases c_1 : (F 11) = (25 : Int32)
  · have hm := (if_pos c_1).symm.trans hm
    exact (cn_X3_call_221 fu rc hrn ag_74 hagn_74 x2 x3 x4 (x5 + 1) x7 F G hm)
  · have hm := (if_neg c_1).symm.trans hm
    exact (cn_X3_call_225 fu rc hrn ag_74 hagn_74 x2 x3 x4 (x5 + 1) x7 F G hm)
theorem cw_X3_call_206 (fu : Nat) (rc : RC) {dd : Nat} (hr : cH1 l v a rc dd) (hrn : ∀ (i : Nat) (x y : Int32) (F : PF) (G : PG) (q : Int32 × PF × PG), rc i x y F G = some q → xn F ≤ xn q.2.1) {res : Int32 × PF × PG} (C : cMC p R s m args c A v RX3 cX3_call 10 (dd + 1 + 2) (60 * (dd + 1) + 49) (xn res.2.1 - xn K0)) (hret : ∀ (b1 : Nat) (H1 : Heap) (locs1 : List Loc) (ls1 : Array Slot) (pc : Nat), cMW s A v a b1 K0 res.2.1 res.2.2 H1 locs1 → decode cX3_call pc = .ok (.return_, 1) → W p l e R s m args below meth c H1 locs1 (xn res.2.1 - xn K0) (2 * (xn res.2.1 - xn K0)) Q (F0 m pc ls1 [])) (ag_74 : Int32 → Int32 → Int32 → Int32 → Int32 → Int32 → PF → PG → PR) (hag_74 : ∀ (x2 : Int32) (x3 : Int32) (x4 : Int32) (x5 : Int32) (x6 : Int32) (x7 : Int32) (F : PF) (G : PG), ag_74 x2 x3 x4 x5 x6 x7 F G = some res → ∀ (b : Nat) (H : Heap) (locs : List Loc) (ls : Array Slot), cMW s A v a b K0 F G H locs → lv_has ls 10 [(0, .ref (a 203)), (2, .int x2), (3, .int x3), (4, .int x4), (5, .int x5), (6, .int x6), (7, .int x7)] → W p l e R s m args below meth c H locs (xn F - xn K0) (2 * (xn F - xn K0)) Q (F0 m 74 ls [])) (hagn_74 : ∀ (x2 : Int32) (x3 : Int32) (x4 : Int32) (x5 : Int32) (x6 : Int32) (x7 : Int32) (F : PF) (G : PG), ag_74 x2 x3 x4 x5 x6 x7 F G = some res → xn F ≤ xn res.2.1) (x2 : Int32) (x3 : Int32) (x4 : Int32) (x5 : Int32) (x7 : Int32) (F : PF) (G : PG) (hm : cb_X3_call_206 fu rc ag_74 x2 x3 x4 x5 x7 F G = some res) {b : Nat} {H : Heap} {locs : List Loc} (hw : cMW s A v a b K0 F G H locs) {ls : Array Slot} (hl : lv_has ls 10 [(0, .ref (a 203)), (2, .int x2), (3, .int x3), (4, .int x4), (5, .int x5), (7, .int x7)]) : W p l e R s m args below meth c H locs (xn F - xn K0) (2 * (xn F - xn K0)) Q (F0 m 206 ls []) := by
  have hx := C.1
  have hb := C.2.1
  unfold cb_X3_call_206 at hm
  refine lv_iinc (v := (x5 + 1)) (lv' := [(5, .int (x5 + 1)), (0, .ref (a 203)), (2, .int x2), (3, .int x3), (4, .int x4), (7, .int x7)]) hx hb dX3_call_206 hl (k := 4) rfl (by rfl) (by decide) rfl (fun ls hl => ?_)
  refine lv_aload_n hx hb dX3_call_209 rfl (lv_at hl 1 rfl) ?_
  refine cg_X3_15 C hw dX3_call_210 ?_
  refine cg_X3_85 C hw dX3_call_213 ?_
  refine lv_bipush (v := 25) hx hb dX3_call_216 (by decide) ?_
  refine lv_icmp_ne (tgt := 225) hx hb dX3_call_218 (by decide) (fun c_1 => ?_) (fun c_1 => ?_)
  · have hm := (if_neg c_1).symm.trans hm
    exact cw_X3_call_225 fu rc hr hrn C hret ag_74 hag_74 hagn_74 x2 x3 x4 (x5 + 1) x7 F G hm hw (lv_sub hl [1, 2, 3, 4, 0, 5] rfl)
  · have hm := (if_pos c_1).symm.trans hm
    exact cw_X3_call_221 fu rc hr hrn C hret ag_74 hag_74 hagn_74 x2 x3 x4 (x5 + 1) x7 F G hm hw (lv_sub hl [1, 2, 3, 4, 0, 5] rfl)
theorem cn_X3_call_202 (fu : Nat) (rc : RC) (hrn : ∀ (i : Nat) (x y : Int32) (F : PF) (G : PG) (q : Int32 × PF × PG), rc i x y F G = some q → xn F ≤ xn q.2.1) {res : Int32 × PF × PG} (ag_74 : Int32 → Int32 → Int32 → Int32 → Int32 → Int32 → PF → PG → PR) (hagn_74 : ∀ (x2 : Int32) (x3 : Int32) (x4 : Int32) (x5 : Int32) (x6 : Int32) (x7 : Int32) (F : PF) (G : PG), ag_74 x2 x3 x4 x5 x6 x7 F G = some res → xn F ≤ xn res.2.1) (x2 : Int32) (x3 : Int32) (x4 : Int32) (x5 : Int32) (x7 : Int32) (F : PF) (G : PG) (hm : cb_X3_call_202 fu rc ag_74 x2 x3 x4 x5 x7 F G = some res) : xn F ≤ xn res.2.1 := by
  unfold cb_X3_call_202 at hm
  obtain ⟨⟨r1, F1, G1⟩, hc, hm⟩ := bind_elim hm
  exact Nat.le_trans (hrn _ _ _ _ _ _ hc) (cn_X3_call_206 fu rc hrn ag_74 hagn_74 x2 x3 x4 x5 x7 F1 G1 hm)
theorem cw_X3_call_202 (fu : Nat) (rc : RC) {dd : Nat} (hr : cH1 l v a rc dd) (hrn : ∀ (i : Nat) (x y : Int32) (F : PF) (G : PG) (q : Int32 × PF × PG), rc i x y F G = some q → xn F ≤ xn q.2.1) {res : Int32 × PF × PG} (C : cMC p R s m args c A v RX3 cX3_call 10 (dd + 1 + 2) (60 * (dd + 1) + 49) (xn res.2.1 - xn K0)) (hret : ∀ (b1 : Nat) (H1 : Heap) (locs1 : List Loc) (ls1 : Array Slot) (pc : Nat), cMW s A v a b1 K0 res.2.1 res.2.2 H1 locs1 → decode cX3_call pc = .ok (.return_, 1) → W p l e R s m args below meth c H1 locs1 (xn res.2.1 - xn K0) (2 * (xn res.2.1 - xn K0)) Q (F0 m pc ls1 [])) (ag_74 : Int32 → Int32 → Int32 → Int32 → Int32 → Int32 → PF → PG → PR) (hag_74 : ∀ (x2 : Int32) (x3 : Int32) (x4 : Int32) (x5 : Int32) (x6 : Int32) (x7 : Int32) (F : PF) (G : PG), ag_74 x2 x3 x4 x5 x6 x7 F G = some res → ∀ (b : Nat) (H : Heap) (locs : List Loc) (ls : Array Slot), cMW s A v a b K0 F G H locs → lv_has ls 10 [(0, .ref (a 203)), (2, .int x2), (3, .int x3), (4, .int x4), (5, .int x5), (6, .int x6), (7, .int x7)] → W p l e R s m args below meth c H locs (xn F - xn K0) (2 * (xn F - xn K0)) Q (F0 m 74 ls [])) (hagn_74 : ∀ (x2 : Int32) (x3 : Int32) (x4 : Int32) (x5 : Int32) (x6 : Int32) (x7 : Int32) (F : PF) (G : PG), ag_74 x2 x3 x4 x5 x6 x7 F G = some res → xn F ≤ xn res.2.1) (x2 : Int32) (x3 : Int32) (x4 : Int32) (x5 : Int32) (x7 : Int32) (F : PF) (G : PG) (hm : cb_X3_call_202 fu rc ag_74 x2 x3 x4 x5 x7 F G = some res) {b : Nat} {H : Heap} {locs : List Loc} (hw : cMW s A v a b K0 F G H locs) {ls : Array Slot} (hl : lv_has ls 10 [(0, .ref (a 203)), (2, .int x2), (3, .int x3), (4, .int x4), (5, .int x5), (7, .int x7)]) : W p l e R s m args below meth c H locs (xn F - xn K0) (2 * (xn F - xn K0)) Q (F0 m 202 ls []) := by
  have hx := C.1
  have hb := C.2.1
  unfold cb_X3_call_202 at hm
  refine lv_aload_n hx hb dX3_call_202 rfl (lv_at hl 0 rfl) ?_
  obtain ⟨⟨r1, F1, G1⟩, hc, hm⟩ := bind_elim hm
  refine ccallV (n := 0) (As := []) (rest := []) C hw (hr.2.1 _ _ F G r1 F1 G1 hc) (hrn _ _ _ _ _ _ hc) (Nat.sub_le_sub_right (cn_X3_call_206 fu rc hrn ag_74 hagn_74 x2 x3 x4 x5 x7 F1 G1 hm) _) (crecv_X3 C hw) cm_353 cm_354 cm_355 cm_301 cm_356 (by decide +kernel) rfl (by omega) (by omega) hl.1 rfl (Nat.le_of_ble_eq_true rfl) dX3_call_203 (fun b H locs hw => ?_)
  exact cw_X3_call_206 fu rc hr hrn C hret ag_74 hag_74 hagn_74 x2 x3 x4 x5 x7 F1 G1 hm hw (lv_sub hl [0, 1, 2, 3, 4, 5] rfl)
theorem cn_X3_call_187 (fu : Nat) (rc : RC) (hrn : ∀ (i : Nat) (x y : Int32) (F : PF) (G : PG) (q : Int32 × PF × PG), rc i x y F G = some q → xn F ≤ xn q.2.1) {res : Int32 × PF × PG} (ag_74 : Int32 → Int32 → Int32 → Int32 → Int32 → Int32 → PF → PG → PR) (hagn_74 : ∀ (x2 : Int32) (x3 : Int32) (x4 : Int32) (x5 : Int32) (x6 : Int32) (x7 : Int32) (F : PF) (G : PG), ag_74 x2 x3 x4 x5 x6 x7 F G = some res → xn F ≤ xn res.2.1) (x2 : Int32) (x3 : Int32) (x4 : Int32) (x5 : Int32) (x7 : Int32) (F : PF) (G : PG) (hm : cb_X3_call_187 fu rc ag_74 x2 x3 x4 x5 x7 F G = some res) : xn F ≤ xn res.2.1 := by
  unfold cb_X3_call_187 at hm
  obtain ⟨⟨r1, F1, G1⟩, hc, hm⟩ := bind_elim hm
  exact Nat.le_trans (cn_X5_note fu 2 (F 13) F G _ hc) (cn_X3_call_202 fu rc hrn ag_74 hagn_74 x2 x3 x4 x5 x7 F1 G1 hm)
theorem cw_X3_call_187 (fu : Nat) (rc : RC) {dd : Nat} (hr : cH1 l v a rc dd) (hrn : ∀ (i : Nat) (x y : Int32) (F : PF) (G : PG) (q : Int32 × PF × PG), rc i x y F G = some q → xn F ≤ xn q.2.1) {res : Int32 × PF × PG} (C : cMC p R s m args c A v RX3 cX3_call 10 (dd + 1 + 2) (60 * (dd + 1) + 49) (xn res.2.1 - xn K0)) (hret : ∀ (b1 : Nat) (H1 : Heap) (locs1 : List Loc) (ls1 : Array Slot) (pc : Nat), cMW s A v a b1 K0 res.2.1 res.2.2 H1 locs1 → decode cX3_call pc = .ok (.return_, 1) → W p l e R s m args below meth c H1 locs1 (xn res.2.1 - xn K0) (2 * (xn res.2.1 - xn K0)) Q (F0 m pc ls1 [])) (ag_74 : Int32 → Int32 → Int32 → Int32 → Int32 → Int32 → PF → PG → PR) (hag_74 : ∀ (x2 : Int32) (x3 : Int32) (x4 : Int32) (x5 : Int32) (x6 : Int32) (x7 : Int32) (F : PF) (G : PG), ag_74 x2 x3 x4 x5 x6 x7 F G = some res → ∀ (b : Nat) (H : Heap) (locs : List Loc) (ls : Array Slot), cMW s A v a b K0 F G H locs → lv_has ls 10 [(0, .ref (a 203)), (2, .int x2), (3, .int x3), (4, .int x4), (5, .int x5), (6, .int x6), (7, .int x7)] → W p l e R s m args below meth c H locs (xn F - xn K0) (2 * (xn F - xn K0)) Q (F0 m 74 ls [])) (hagn_74 : ∀ (x2 : Int32) (x3 : Int32) (x4 : Int32) (x5 : Int32) (x6 : Int32) (x7 : Int32) (F : PF) (G : PG), ag_74 x2 x3 x4 x5 x6 x7 F G = some res → xn F ≤ xn res.2.1) (x2 : Int32) (x3 : Int32) (x4 : Int32) (x5 : Int32) (x7 : Int32) (F : PF) (G : PG) (hm : cb_X3_call_187 fu rc ag_74 x2 x3 x4 x5 x7 F G = some res) {b : Nat} {H : Heap} {locs : List Loc} (hw : cMW s A v a b K0 F G H locs) {ls : Array Slot} (hl : lv_has ls 10 [(0, .ref (a 203)), (2, .int x2), (3, .int x3), (4, .int x4), (5, .int x5), (7, .int x7)]) : W p l e R s m args below meth c H locs (xn F - xn K0) (2 * (xn F - xn K0)) Q (F0 m 187 ls []) := by
  have hx := C.1
  have hb := C.2.1
  unfold cb_X3_call_187 at hm
  refine lv_aload_n hx hb dX3_call_187 rfl (lv_at hl 0 rfl) ?_
  refine cg_X3_19 C hw dX3_call_188 ?_
  refine lv_iconst (v := 2) hx hb dX3_call_191 (by decide) ?_
  refine lv_aload_n hx hb dX3_call_192 rfl (lv_at hl 0 rfl) ?_
  refine cg_X3_15 C hw dX3_call_193 ?_
  refine cg_X3_72 C hw dX3_call_196 ?_
  obtain ⟨⟨r1, F1, G1⟩, hc, hm⟩ := bind_elim hm
  refine ccallV (n := 2) (As := [.int 2, .int (F 13)]) (rest := []) C hw (ck_X5_note l v a _ _ fu 2 (F 13) F G r1 F1 G1 hc) (cn_X5_note fu 2 (F 13) F G _ hc) (Nat.sub_le_sub_right (cn_X3_call_202 fu rc hrn ag_74 hagn_74 x2 x3 x4 x5 x7 F1 G1 hm) _) (crecv_X5 C hw) cm_457 cm_425 cm_426 cm_266 cm_427 (by decide +kernel) rfl (by omega) (by omega) hl.1 rfl (Nat.le_of_ble_eq_true rfl) dX3_call_199 (fun b H locs hw => ?_)
  exact cw_X3_call_202 fu rc hr hrn C hret ag_74 hag_74 hagn_74 x2 x3 x4 x5 x7 F1 G1 hm hw (lv_sub hl [0, 1, 2, 3, 4, 5] rfl)
theorem cn_X3_call_181 (fu : Nat) (rc : RC) (hrn : ∀ (i : Nat) (x y : Int32) (F : PF) (G : PG) (q : Int32 × PF × PG), rc i x y F G = some q → xn F ≤ xn q.2.1) {res : Int32 × PF × PG} (ag_74 : Int32 → Int32 → Int32 → Int32 → Int32 → Int32 → PF → PG → PR) (hagn_74 : ∀ (x2 : Int32) (x3 : Int32) (x4 : Int32) (x5 : Int32) (x6 : Int32) (x7 : Int32) (F : PF) (G : PG), ag_74 x2 x3 x4 x5 x6 x7 F G = some res → xn F ≤ xn res.2.1) (x2 : Int32) (x3 : Int32) (x4 : Int32) (x5 : Int32) (x7 : Int32) (x8 : Int32) (F : PF) (G : PG) (hm : cb_X3_call_181 fu rc ag_74 x2 x3 x4 x5 x7 x8 F G = some res) : xn F ≤ xn res.2.1 := by
  unfold cb_X3_call_181 at hm
  by_cases c_1 : x8 = (1 : Int32)
  · have hm := (if_pos c_1).symm.trans hm
    exact (cn_X3_call_202 fu rc hrn ag_74 hagn_74 x2 x3 x4 x5 x7 F G hm)
  · have hm := (if_neg c_1).symm.trans hm
    exact (cn_X3_call_187 fu rc hrn ag_74 hagn_74 x2 x3 x4 x5 x7 F G hm)
theorem cw_X3_call_181 (fu : Nat) (rc : RC) {dd : Nat} (hr : cH1 l v a rc dd) (hrn : ∀ (i : Nat) (x y : Int32) (F : PF) (G : PG) (q : Int32 × PF × PG), rc i x y F G = some q → xn F ≤ xn q.2.1) {res : Int32 × PF × PG} (C : cMC p R s m args c A v RX3 cX3_call 10 (dd + 1 + 2) (60 * (dd + 1) + 49) (xn res.2.1 - xn K0)) (hret : ∀ (b1 : Nat) (H1 : Heap) (locs1 : List Loc) (ls1 : Array Slot) (pc : Nat), cMW s A v a b1 K0 res.2.1 res.2.2 H1 locs1 → decode cX3_call pc = .ok (.return_, 1) → W p l e R s m args below meth c H1 locs1 (xn res.2.1 - xn K0) (2 * (xn res.2.1 - xn K0)) Q (F0 m pc ls1 [])) (ag_74 : Int32 → Int32 → Int32 → Int32 → Int32 → Int32 → PF → PG → PR) (hag_74 : ∀ (x2 : Int32) (x3 : Int32) (x4 : Int32) (x5 : Int32) (x6 : Int32) (x7 : Int32) (F : PF) (G : PG), ag_74 x2 x3 x4 x5 x6 x7 F G = some res → ∀ (b : Nat) (H : Heap) (locs : List Loc) (ls : Array Slot), cMW s A v a b K0 F G H locs → lv_has ls 10 [(0, .ref (a 203)), (2, .int x2), (3, .int x3), (4, .int x4), (5, .int x5), (6, .int x6), (7, .int x7)] → W p l e R s m args below meth c H locs (xn F - xn K0) (2 * (xn F - xn K0)) Q (F0 m 74 ls [])) (hagn_74 : ∀ (x2 : Int32) (x3 : Int32) (x4 : Int32) (x5 : Int32) (x6 : Int32) (x7 : Int32) (F : PF) (G : PG), ag_74 x2 x3 x4 x5 x6 x7 F G = some res → xn F ≤ xn res.2.1) (x2 : Int32) (x3 : Int32) (x4 : Int32) (x5 : Int32) (x7 : Int32) (x8 : Int32) (F : PF) (G : PG) (hm : cb_X3_call_181 fu rc ag_74 x2 x3 x4 x5 x7 x8 F G = some res) {b : Nat} {H : Heap} {locs : List Loc} (hw : cMW s A v a b K0 F G H locs) {ls : Array Slot} (hl : lv_has ls 10 [(0, .ref (a 203)), (2, .int x2), (3, .int x3), (4, .int x4), (5, .int x5), (7, .int x7), (8, .int x8)]) : W p l e R s m args below meth c H locs (xn F - xn K0) (2 * (xn F - xn K0)) Q (F0 m 181 ls []) := by
  have hx := C.1
  have hb := C.2.1
  unfold cb_X3_call_181 at hm
  refine lv_iload hx hb dX3_call_181 (lv_at hl 6 rfl) ?_
  refine lv_iconst (v := 1) hx hb dX3_call_183 (by decide) ?_
  refine lv_icmp_eq (tgt := 202) hx hb dX3_call_184 (by decide) (fun c_1 => ?_) (fun c_1 => ?_)
  · have hm := (if_pos c_1).symm.trans hm
    exact cw_X3_call_202 fu rc hr hrn C hret ag_74 hag_74 hagn_74 x2 x3 x4 x5 x7 F G hm hw (lv_sub hl [0, 1, 2, 3, 4, 5] rfl)
  · have hm := (if_neg c_1).symm.trans hm
    exact cw_X3_call_187 fu rc hr hrn C hret ag_74 hag_74 hagn_74 x2 x3 x4 x5 x7 F G hm hw (lv_sub hl [0, 1, 2, 3, 4, 5] rfl)
theorem cn_X3_call_178 (fu : Nat) (rc : RC) (hrn : ∀ (i : Nat) (x y : Int32) (F : PF) (G : PG) (q : Int32 × PF × PG), rc i x y F G = some q → xn F ≤ xn q.2.1) {res : Int32 × PF × PG} (ag_74 : Int32 → Int32 → Int32 → Int32 → Int32 → Int32 → PF → PG → PR) (hagn_74 : ∀ (x2 : Int32) (x3 : Int32) (x4 : Int32) (x5 : Int32) (x6 : Int32) (x7 : Int32) (F : PF) (G : PG), ag_74 x2 x3 x4 x5 x6 x7 F G = some res → xn F ≤ xn res.2.1) (x2 : Int32) (x3 : Int32) (x4 : Int32) (x5 : Int32) (x7 : Int32) (F : PF) (G : PG) (hm : cb_X3_call_178 fu rc ag_74 x2 x3 x4 x5 x7 F G = some res) : xn F ≤ xn res.2.1 := by
  unfold cb_X3_call_178 at hm
  exact (cn_X3_call_206 fu rc hrn ag_74 hagn_74 x2 x3 x4 x5 x7 F G hm)
theorem cw_X3_call_178 (fu : Nat) (rc : RC) {dd : Nat} (hr : cH1 l v a rc dd) (hrn : ∀ (i : Nat) (x y : Int32) (F : PF) (G : PG) (q : Int32 × PF × PG), rc i x y F G = some q → xn F ≤ xn q.2.1) {res : Int32 × PF × PG} (C : cMC p R s m args c A v RX3 cX3_call 10 (dd + 1 + 2) (60 * (dd + 1) + 49) (xn res.2.1 - xn K0)) (hret : ∀ (b1 : Nat) (H1 : Heap) (locs1 : List Loc) (ls1 : Array Slot) (pc : Nat), cMW s A v a b1 K0 res.2.1 res.2.2 H1 locs1 → decode cX3_call pc = .ok (.return_, 1) → W p l e R s m args below meth c H1 locs1 (xn res.2.1 - xn K0) (2 * (xn res.2.1 - xn K0)) Q (F0 m pc ls1 [])) (ag_74 : Int32 → Int32 → Int32 → Int32 → Int32 → Int32 → PF → PG → PR) (hag_74 : ∀ (x2 : Int32) (x3 : Int32) (x4 : Int32) (x5 : Int32) (x6 : Int32) (x7 : Int32) (F : PF) (G : PG), ag_74 x2 x3 x4 x5 x6 x7 F G = some res → ∀ (b : Nat) (H : Heap) (locs : List Loc) (ls : Array Slot), cMW s A v a b K0 F G H locs → lv_has ls 10 [(0, .ref (a 203)), (2, .int x2), (3, .int x3), (4, .int x4), (5, .int x5), (6, .int x6), (7, .int x7)] → W p l e R s m args below meth c H locs (xn F - xn K0) (2 * (xn F - xn K0)) Q (F0 m 74 ls [])) (hagn_74 : ∀ (x2 : Int32) (x3 : Int32) (x4 : Int32) (x5 : Int32) (x6 : Int32) (x7 : Int32) (F : PF) (G : PG), ag_74 x2 x3 x4 x5 x6 x7 F G = some res → xn F ≤ xn res.2.1) (x2 : Int32) (x3 : Int32) (x4 : Int32) (x5 : Int32) (x7 : Int32) (F : PF) (G : PG) (hm : cb_X3_call_178 fu rc ag_74 x2 x3 x4 x5 x7 F G = some res) {b : Nat} {H : Heap} {locs : List Loc} (hw : cMW s A v a b K0 F G H locs) {ls : Array Slot} (hl : lv_has ls 10 [(0, .ref (a 203)), (2, .int x2), (3, .int x3), (4, .int x4), (5, .int x5), (7, .int x7)]) : W p l e R s m args below meth c H locs (xn F - xn K0) (2 * (xn F - xn K0)) Q (F0 m 178 ls []) := by
  have hx := C.1
  have hb := C.2.1
  unfold cb_X3_call_178 at hm
  refine lv_goto (tgt := 206) hx hb dX3_call_178 (by decide) ?_
  exact cw_X3_call_206 fu rc hr hrn C hret ag_74 hag_74 hagn_74 x2 x3 x4 x5 x7 F G hm hw (lv_sub hl [0, 1, 2, 3, 4, 5] rfl)
theorem cn_X3_call_171 (fu : Nat) (rc : RC) (hrn : ∀ (i : Nat) (x y : Int32) (F : PF) (G : PG) (q : Int32 × PF × PG), rc i x y F G = some q → xn F ≤ xn q.2.1) {res : Int32 × PF × PG} (ag_74 : Int32 → Int32 → Int32 → Int32 → Int32 → Int32 → PF → PG → PR) (hagn_74 : ∀ (x2 : Int32) (x3 : Int32) (x4 : Int32) (x5 : Int32) (x6 : Int32) (x7 : Int32) (F : PF) (G : PG), ag_74 x2 x3 x4 x5 x6 x7 F G = some res → xn F ≤ xn res.2.1) (x2 : Int32) (x3 : Int32) (x4 : Int32) (x5 : Int32) (x7 : Int32) (F : PF) (G : PG) (hm : cb_X3_call_171 fu rc ag_74 x2 x3 x4 x5 x7 F G = some res) : xn F ≤ xn res.2.1 := by
  unfold cb_X3_call_171 at hm
  obtain ⟨⟨r1, F1, G1⟩, hc, hm⟩ := bind_elim hm
  exact Nat.le_trans (cn_X2_next fu F G _ hc) (cn_X3_call_178 fu rc hrn ag_74 hagn_74 x2 x3 x4 x5 x7 F1 G1 hm)
theorem cw_X3_call_171 (fu : Nat) (rc : RC) {dd : Nat} (hr : cH1 l v a rc dd) (hrn : ∀ (i : Nat) (x y : Int32) (F : PF) (G : PG) (q : Int32 × PF × PG), rc i x y F G = some q → xn F ≤ xn q.2.1) {res : Int32 × PF × PG} (C : cMC p R s m args c A v RX3 cX3_call 10 (dd + 1 + 2) (60 * (dd + 1) + 49) (xn res.2.1 - xn K0)) (hret : ∀ (b1 : Nat) (H1 : Heap) (locs1 : List Loc) (ls1 : Array Slot) (pc : Nat), cMW s A v a b1 K0 res.2.1 res.2.2 H1 locs1 → decode cX3_call pc = .ok (.return_, 1) → W p l e R s m args below meth c H1 locs1 (xn res.2.1 - xn K0) (2 * (xn res.2.1 - xn K0)) Q (F0 m pc ls1 [])) (ag_74 : Int32 → Int32 → Int32 → Int32 → Int32 → Int32 → PF → PG → PR) (hag_74 : ∀ (x2 : Int32) (x3 : Int32) (x4 : Int32) (x5 : Int32) (x6 : Int32) (x7 : Int32) (F : PF) (G : PG), ag_74 x2 x3 x4 x5 x6 x7 F G = some res → ∀ (b : Nat) (H : Heap) (locs : List Loc) (ls : Array Slot), cMW s A v a b K0 F G H locs → lv_has ls 10 [(0, .ref (a 203)), (2, .int x2), (3, .int x3), (4, .int x4), (5, .int x5), (6, .int x6), (7, .int x7)] → W p l e R s m args below meth c H locs (xn F - xn K0) (2 * (xn F - xn K0)) Q (F0 m 74 ls [])) (hagn_74 : ∀ (x2 : Int32) (x3 : Int32) (x4 : Int32) (x5 : Int32) (x6 : Int32) (x7 : Int32) (F : PF) (G : PG), ag_74 x2 x3 x4 x5 x6 x7 F G = some res → xn F ≤ xn res.2.1) (x2 : Int32) (x3 : Int32) (x4 : Int32) (x5 : Int32) (x7 : Int32) (F : PF) (G : PG) (hm : cb_X3_call_171 fu rc ag_74 x2 x3 x4 x5 x7 F G = some res) {b : Nat} {H : Heap} {locs : List Loc} (hw : cMW s A v a b K0 F G H locs) {ls : Array Slot} (hl : lv_has ls 10 [(0, .ref (a 203)), (2, .int x2), (3, .int x3), (4, .int x4), (5, .int x5), (7, .int x7)]) : W p l e R s m args below meth c H locs (xn F - xn K0) (2 * (xn F - xn K0)) Q (F0 m 171 ls []) := by
  have hx := C.1
  have hb := C.2.1
  unfold cb_X3_call_171 at hm
  refine lv_aload_n hx hb dX3_call_171 rfl (lv_at hl 0 rfl) ?_
  refine cg_X3_15 C hw dX3_call_172 ?_
  obtain ⟨⟨r1, F1, G1⟩, hc, hm⟩ := bind_elim hm
  refine ccallV (n := 0) (As := []) (rest := []) C hw (ck_X2_next l v a _ _ fu F G r1 F1 G1 hc) (cn_X2_next fu F G _ hc) (Nat.sub_le_sub_right (cn_X3_call_178 fu rc hrn ag_74 hagn_74 x2 x3 x4 x5 x7 F1 G1 hm) _) (crecv_X2 C hw) cm_456 cm_321 cm_322 cm_307 cm_323 (by decide +kernel) rfl (by omega) (by omega) hl.1 rfl (Nat.le_of_ble_eq_true rfl) dX3_call_175 (fun b H locs hw => ?_)
  exact cw_X3_call_178 fu rc hr hrn C hret ag_74 hag_74 hagn_74 x2 x3 x4 x5 x7 F1 G1 hm hw (lv_sub hl [0, 1, 2, 3, 4, 5] rfl)
theorem cn_X3_call_165 (fu : Nat) (rc : RC) (hrn : ∀ (i : Nat) (x y : Int32) (F : PF) (G : PG) (q : Int32 × PF × PG), rc i x y F G = some q → xn F ≤ xn q.2.1) {res : Int32 × PF × PG} (ag_74 : Int32 → Int32 → Int32 → Int32 → Int32 → Int32 → PF → PG → PR) (hagn_74 : ∀ (x2 : Int32) (x3 : Int32) (x4 : Int32) (x5 : Int32) (x6 : Int32) (x7 : Int32) (F : PF) (G : PG), ag_74 x2 x3 x4 x5 x6 x7 F G = some res → xn F ≤ xn res.2.1) (x2 : Int32) (x3 : Int32) (x4 : Int32) (x5 : Int32) (x7 : Int32) (x9 : Int32) (F : PF) (G : PG) (hm : cb_X3_call_165 fu rc ag_74 x2 x3 x4 x5 x7 x9 F G = some res) : xn F ≤ xn res.2.1 := by
  unfold cb_X3_call_165 at hm
  obtain ⟨⟨r1, F1, G1⟩, hc, hm⟩ := bind_elim hm
  exact Nat.le_trans (cn_X3_pass fu x9 F G _ hc) (cn_X3_call_171 fu rc hrn ag_74 hagn_74 x2 x3 x4 x5 x7 F1 G1 hm)
theorem cw_X3_call_165 (fu : Nat) (rc : RC) {dd : Nat} (hr : cH1 l v a rc dd) (hrn : ∀ (i : Nat) (x y : Int32) (F : PF) (G : PG) (q : Int32 × PF × PG), rc i x y F G = some q → xn F ≤ xn q.2.1) {res : Int32 × PF × PG} (C : cMC p R s m args c A v RX3 cX3_call 10 (dd + 1 + 2) (60 * (dd + 1) + 49) (xn res.2.1 - xn K0)) (hret : ∀ (b1 : Nat) (H1 : Heap) (locs1 : List Loc) (ls1 : Array Slot) (pc : Nat), cMW s A v a b1 K0 res.2.1 res.2.2 H1 locs1 → decode cX3_call pc = .ok (.return_, 1) → W p l e R s m args below meth c H1 locs1 (xn res.2.1 - xn K0) (2 * (xn res.2.1 - xn K0)) Q (F0 m pc ls1 [])) (ag_74 : Int32 → Int32 → Int32 → Int32 → Int32 → Int32 → PF → PG → PR) (hag_74 : ∀ (x2 : Int32) (x3 : Int32) (x4 : Int32) (x5 : Int32) (x6 : Int32) (x7 : Int32) (F : PF) (G : PG), ag_74 x2 x3 x4 x5 x6 x7 F G = some res → ∀ (b : Nat) (H : Heap) (locs : List Loc) (ls : Array Slot), cMW s A v a b K0 F G H locs → lv_has ls 10 [(0, .ref (a 203)), (2, .int x2), (3, .int x3), (4, .int x4), (5, .int x5), (6, .int x6), (7, .int x7)] → W p l e R s m args below meth c H locs (xn F - xn K0) (2 * (xn F - xn K0)) Q (F0 m 74 ls [])) (hagn_74 : ∀ (x2 : Int32) (x3 : Int32) (x4 : Int32) (x5 : Int32) (x6 : Int32) (x7 : Int32) (F : PF) (G : PG), ag_74 x2 x3 x4 x5 x6 x7 F G = some res → xn F ≤ xn res.2.1) (x2 : Int32) (x3 : Int32) (x4 : Int32) (x5 : Int32) (x7 : Int32) (x9 : Int32) (F : PF) (G : PG) (hm : cb_X3_call_165 fu rc ag_74 x2 x3 x4 x5 x7 x9 F G = some res) {b : Nat} {H : Heap} {locs : List Loc} (hw : cMW s A v a b K0 F G H locs) {ls : Array Slot} (hl : lv_has ls 10 [(0, .ref (a 203)), (2, .int x2), (3, .int x3), (4, .int x4), (5, .int x5), (7, .int x7), (9, .int x9)]) : W p l e R s m args below meth c H locs (xn F - xn K0) (2 * (xn F - xn K0)) Q (F0 m 165 ls []) := by
  have hx := C.1
  have hb := C.2.1
  unfold cb_X3_call_165 at hm
  refine lv_aload_n hx hb dX3_call_165 rfl (lv_at hl 0 rfl) ?_
  refine lv_iload hx hb dX3_call_166 (lv_at hl 6 rfl) ?_
  obtain ⟨⟨r1, F1, G1⟩, hc, hm⟩ := bind_elim hm
  refine ccallV (n := 1) (As := [.int x9]) (rest := []) C hw (ck_X3_pass l v a _ _ fu x9 F G r1 F1 G1 hc) (cn_X3_pass fu x9 F G _ hc) (Nat.sub_le_sub_right (cn_X3_call_171 fu rc hrn ag_74 hagn_74 x2 x3 x4 x5 x7 F1 G1 hm) _) (crecv_X3 C hw) cm_434 cm_435 cm_436 cm_301 cm_437 (by decide +kernel) rfl (by omega) (by omega) hl.1 rfl (Nat.le_of_ble_eq_true rfl) dX3_call_168 (fun b H locs hw => ?_)
  exact cw_X3_call_171 fu rc hr hrn C hret ag_74 hag_74 hagn_74 x2 x3 x4 x5 x7 F1 G1 hm hw (lv_sub hl [0, 1, 2, 3, 4, 5] rfl)
theorem cn_X3_call_145 (fu : Nat) (rc : RC) (hrn : ∀ (i : Nat) (x y : Int32) (F : PF) (G : PG) (q : Int32 × PF × PG), rc i x y F G = some q → xn F ≤ xn q.2.1) {res : Int32 × PF × PG} (ag_74 : Int32 → Int32 → Int32 → Int32 → Int32 → Int32 → PF → PG → PR) (hagn_74 : ∀ (x2 : Int32) (x3 : Int32) (x4 : Int32) (x5 : Int32) (x6 : Int32) (x7 : Int32) (F : PF) (G : PG), ag_74 x2 x3 x4 x5 x6 x7 F G = some res → xn F ≤ xn res.2.1) (x2 : Int32) (x3 : Int32) (x4 : Int32) (x5 : Int32) (x7 : Int32) (x8 : Int32) (z0 : Int32) (F : PF) (G : PG) (hm : cb_X3_call_145 fu rc ag_74 x2 x3 x4 x5 x7 x8 z0 F G = some res) : xn F ≤ xn res.2.1 := by
  unfold cb_X3_call_145 at hm
  obtain ⟨⟨r1, F1, G1⟩, hc, hm⟩ := bind_elim hm
  exact Nat.le_trans (cn_X5_wantArray fu z0 (F 13) x8 F G _ hc) (cn_X3_call_165 fu rc hrn ag_74 hagn_74 x2 x3 x4 x5 x7 z0 F1 G1 hm)
theorem cw_X3_call_145 (fu : Nat) (rc : RC) {dd : Nat} (hr : cH1 l v a rc dd) (hrn : ∀ (i : Nat) (x y : Int32) (F : PF) (G : PG) (q : Int32 × PF × PG), rc i x y F G = some q → xn F ≤ xn q.2.1) {res : Int32 × PF × PG} (C : cMC p R s m args c A v RX3 cX3_call 10 (dd + 1 + 2) (60 * (dd + 1) + 49) (xn res.2.1 - xn K0)) (hret : ∀ (b1 : Nat) (H1 : Heap) (locs1 : List Loc) (ls1 : Array Slot) (pc : Nat), cMW s A v a b1 K0 res.2.1 res.2.2 H1 locs1 → decode cX3_call pc = .ok (.return_, 1) → W p l e R s m args below meth c H1 locs1 (xn res.2.1 - xn K0) (2 * (xn res.2.1 - xn K0)) Q (F0 m pc ls1 [])) (ag_74 : Int32 → Int32 → Int32 → Int32 → Int32 → Int32 → PF → PG → PR) (hag_74 : ∀ (x2 : Int32) (x3 : Int32) (x4 : Int32) (x5 : Int32) (x6 : Int32) (x7 : Int32) (F : PF) (G : PG), ag_74 x2 x3 x4 x5 x6 x7 F G = some res → ∀ (b : Nat) (H : Heap) (locs : List Loc) (ls : Array Slot), cMW s A v a b K0 F G H locs → lv_has ls 10 [(0, .ref (a 203)), (2, .int x2), (3, .int x3), (4, .int x4), (5, .int x5), (6, .int x6), (7, .int x7)] → W p l e R s m args below meth c H locs (xn F - xn K0) (2 * (xn F - xn K0)) Q (F0 m 74 ls [])) (hagn_74 : ∀ (x2 : Int32) (x3 : Int32) (x4 : Int32) (x5 : Int32) (x6 : Int32) (x7 : Int32) (F : PF) (G : PG), ag_74 x2 x3 x4 x5 x6 x7 F G = some res → xn F ≤ xn res.2.1) (x2 : Int32) (x3 : Int32) (x4 : Int32) (x5 : Int32) (x7 : Int32) (x8 : Int32) (z0 : Int32) (F : PF) (G : PG) (hm : cb_X3_call_145 fu rc ag_74 x2 x3 x4 x5 x7 x8 z0 F G = some res) {b : Nat} {H : Heap} {locs : List Loc} (hw : cMW s A v a b K0 F G H locs) {ls : Array Slot} (hl : lv_has ls 10 [(0, .ref (a 203)), (2, .int x2), (3, .int x3), (4, .int x4), (5, .int x5), (7, .int x7), (8, .int x8)]) : W p l e R s m args below meth c H locs (xn F - xn K0) (2 * (xn F - xn K0)) Q (F0 m 145 ls [.int z0]) := by
  have hx := C.1
  have hb := C.2.1
  unfold cb_X3_call_145 at hm
  refine lv_istore (lv' := [(9, .int z0), (0, .ref (a 203)), (2, .int x2), (3, .int x3), (4, .int x4), (5, .int x5), (7, .int x7), (8, .int x8)]) hx hb dX3_call_145 hl (by decide) rfl (fun ls hl => ?_)
  refine lv_aload_n hx hb dX3_call_147 rfl (lv_at hl 1 rfl) ?_
  refine cg_X3_19 C hw dX3_call_148 ?_
  refine lv_iload hx hb dX3_call_151 (lv_at hl 0 rfl) ?_
  refine lv_aload_n hx hb dX3_call_153 rfl (lv_at hl 1 rfl) ?_
  refine cg_X3_15 C hw dX3_call_154 ?_
  refine cg_X3_72 C hw dX3_call_157 ?_
  refine lv_iload hx hb dX3_call_160 (lv_at hl 7 rfl) ?_
  obtain ⟨⟨r1, F1, G1⟩, hc, hm⟩ := bind_elim hm
  refine ccallV (n := 3) (As := [.int z0, .int (F 13), .int x8]) (rest := []) C hw (ck_X5_wantArray l v a _ _ fu z0 (F 13) x8 F G r1 F1 G1 hc) (cn_X5_wantArray fu z0 (F 13) x8 F G _ hc) (Nat.sub_le_sub_right (cn_X3_call_165 fu rc hrn ag_74 hagn_74 x2 x3 x4 x5 x7 z0 F1 G1 hm) _) (crecv_X5 C hw) cm_429 cm_430 cm_431 cm_266 cm_432 (by decide +kernel) rfl (by omega) (by omega) hl.1 rfl (Nat.le_of_ble_eq_true rfl) dX3_call_162 (fun b H locs hw => ?_)
  exact cw_X3_call_165 fu rc hr hrn C hret ag_74 hag_74 hagn_74 x2 x3 x4 x5 x7 z0 F1 G1 hm hw (lv_sub hl [1, 2, 3, 4, 5, 6, 0] rfl)
theorem cn_X3_call_124 (fu : Nat) (rc : RC) (hrn : ∀ (i : Nat) (x y : Int32) (F : PF) (G : PG) (q : Int32 × PF × PG), rc i x y F G = some q → xn F ≤ xn q.2.1) {res : Int32 × PF × PG} (ag_74 : Int32 → Int32 → Int32 → Int32 → Int32 → Int32 → PF → PG → PR) (hagn_74 : ∀ (x2 : Int32) (x3 : Int32) (x4 : Int32) (x5 : Int32) (x6 : Int32) (x7 : Int32) (F : PF) (G : PG), ag_74 x2 x3 x4 x5 x6 x7 F G = some res → xn F ≤ xn res.2.1) (x2 : Int32) (x3 : Int32) (x4 : Int32) (x5 : Int32) (x7 : Int32) (x8 : Int32) (F : PF) (G : PG) (hm : cb_X3_call_124 fu rc ag_74 x2 x3 x4 x5 x7 x8 F G = some res) : xn F ≤ xn res.2.1 := by
  unfold cb_X3_call_124 at hm
  obtain ⟨⟨r1, F1, G1⟩, hc, hm⟩ := bind_elim hm
  exact Nat.le_trans (cn_X5_meant fu (F 12) (F 13) F G _ hc) (cn_X3_call_145 fu rc hrn ag_74 hagn_74 x2 x3 x4 x5 x7 x8 r1 F1 G1 hm)
theorem cw_X3_call_124 (fu : Nat) (rc : RC) {dd : Nat} (hr : cH1 l v a rc dd) (hrn : ∀ (i : Nat) (x y : Int32) (F : PF) (G : PG) (q : Int32 × PF × PG), rc i x y F G = some q → xn F ≤ xn q.2.1) {res : Int32 × PF × PG} (C : cMC p R s m args c A v RX3 cX3_call 10 (dd + 1 + 2) (60 * (dd + 1) + 49) (xn res.2.1 - xn K0)) (hret : ∀ (b1 : Nat) (H1 : Heap) (locs1 : List Loc) (ls1 : Array Slot) (pc : Nat), cMW s A v a b1 K0 res.2.1 res.2.2 H1 locs1 → decode cX3_call pc = .ok (.return_, 1) → W p l e R s m args below meth c H1 locs1 (xn res.2.1 - xn K0) (2 * (xn res.2.1 - xn K0)) Q (F0 m pc ls1 [])) (ag_74 : Int32 → Int32 → Int32 → Int32 → Int32 → Int32 → PF → PG → PR) (hag_74 : ∀ (x2 : Int32) (x3 : Int32) (x4 : Int32) (x5 : Int32) (x6 : Int32) (x7 : Int32) (F : PF) (G : PG), ag_74 x2 x3 x4 x5 x6 x7 F G = some res → ∀ (b : Nat) (H : Heap) (locs : List Loc) (ls : Array Slot), cMW s A v a b K0 F G H locs → lv_has ls 10 [(0, .ref (a 203)), (2, .int x2), (3, .int x3), (4, .int x4), (5, .int x5), (6, .int x6), (7, .int x7)] → W p l e R s m args below meth c H locs (xn F - xn K0) (2 * (xn F - xn K0)) Q (F0 m 74 ls [])) (hagn_74 : ∀ (x2 : Int32) (x3 : Int32) (x4 : Int32) (x5 : Int32) (x6 : Int32) (x7 : Int32) (F : PF) (G : PG), ag_74 x2 x3 x4 x5 x6 x7 F G = some res → xn F ≤ xn res.2.1) (x2 : Int32) (x3 : Int32) (x4 : Int32) (x5 : Int32) (x7 : Int32) (x8 : Int32) (F : PF) (G : PG) (hm : cb_X3_call_124 fu rc ag_74 x2 x3 x4 x5 x7 x8 F G = some res) {b : Nat} {H : Heap} {locs : List Loc} (hw : cMW s A v a b K0 F G H locs) {ls : Array Slot} (hl : lv_has ls 10 [(0, .ref (a 203)), (2, .int x2), (3, .int x3), (4, .int x4), (5, .int x5), (7, .int x7), (8, .int x8)]) : W p l e R s m args below meth c H locs (xn F - xn K0) (2 * (xn F - xn K0)) Q (F0 m 124 ls []) := by
  have hx := C.1
  have hb := C.2.1
  unfold cb_X3_call_124 at hm
  refine lv_aload_n hx hb dX3_call_124 rfl (lv_at hl 0 rfl) ?_
  refine cg_X3_19 C hw dX3_call_125 ?_
  refine lv_aload_n hx hb dX3_call_128 rfl (lv_at hl 0 rfl) ?_
  refine cg_X3_15 C hw dX3_call_129 ?_
  refine cg_X3_125 C hw dX3_call_132 ?_
  refine lv_aload_n hx hb dX3_call_135 rfl (lv_at hl 0 rfl) ?_
  refine cg_X3_15 C hw dX3_call_136 ?_
  refine cg_X3_72 C hw dX3_call_139 ?_
  obtain ⟨⟨r1, F1, G1⟩, hc, hm⟩ := bind_elim hm
  refine ccallI (n := 2) (As := [.int (F 12), .int (F 13)]) (rest := []) C hw (ck_X5_meant l v a _ _ fu (F 12) (F 13) F G r1 F1 G1 hc) (cn_X5_meant fu (F 12) (F 13) F G _ hc) (Nat.sub_le_sub_right (cn_X3_call_145 fu rc hrn ag_74 hagn_74 x2 x3 x4 x5 x7 x8 r1 F1 G1 hm) _) (crecv_X5 C hw) cm_416 cm_417 cm_418 cm_266 cm_419 (by decide +kernel) rfl (by omega) (by omega) hl.1 rfl (Nat.le_of_ble_eq_true rfl) dX3_call_142 (fun b H locs hw => ?_)
  exact cw_X3_call_145 fu rc hr hrn C hret ag_74 hag_74 hagn_74 x2 x3 x4 x5 x7 x8 r1 F1 G1 hm hw (lv_sub hl [0, 1, 2, 3, 4, 5, 6] rfl)
theorem cn_X3_call_121 (fu : Nat) (rc : RC) (hrn : ∀ (i : Nat) (x y : Int32) (F : PF) (G : PG) (q : Int32 × PF × PG), rc i x y F G = some q → xn F ≤ xn q.2.1) {res : Int32 × PF × PG} (ag_74 : Int32 → Int32 → Int32 → Int32 → Int32 → Int32 → PF → PG → PR) (hagn_74 : ∀ (x2 : Int32) (x3 : Int32) (x4 : Int32) (x5 : Int32) (x6 : Int32) (x7 : Int32) (F : PF) (G : PG), ag_74 x2 x3 x4 x5 x6 x7 F G = some res → xn F ≤ xn res.2.1) (x2 : Int32) (x3 : Int32) (x4 : Int32) (x5 : Int32) (x7 : Int32) (x8 : Int32) (z0 : Int32) (F : PF) (G : PG) (hm : cb_X3_call_121 fu rc ag_74 x2 x3 x4 x5 x7 x8 z0 F G = some res) : xn F ≤ xn res.2.1 := by
  unfold cb_X3_call_121 at hm
  by_cases c_1 : z0 = (0 : Int32)
  · have hm := (if_pos c_1).symm.trans hm
    exact (cn_X3_call_181 fu rc hrn ag_74 hagn_74 x2 x3 x4 x5 x7 x8 F G hm)
  · have hm := (if_neg c_1).symm.trans hm
    exact (cn_X3_call_124 fu rc hrn ag_74 hagn_74 x2 x3 x4 x5 x7 x8 F G hm)
theorem cw_X3_call_121 (fu : Nat) (rc : RC) {dd : Nat} (hr : cH1 l v a rc dd) (hrn : ∀ (i : Nat) (x y : Int32) (F : PF) (G : PG) (q : Int32 × PF × PG), rc i x y F G = some q → xn F ≤ xn q.2.1) {res : Int32 × PF × PG} (C : cMC p R s m args c A v RX3 cX3_call 10 (dd + 1 + 2) (60 * (dd + 1) + 49) (xn res.2.1 - xn K0)) (hret : ∀ (b1 : Nat) (H1 : Heap) (locs1 : List Loc) (ls1 : Array Slot) (pc : Nat), cMW s A v a b1 K0 res.2.1 res.2.2 H1 locs1 → decode cX3_call pc = .ok (.return_, 1) → W p l e R s m args below meth c H1 locs1 (xn res.2.1 - xn K0) (2 * (xn res.2.1 - xn K0)) Q (F0 m pc ls1 [])) (ag_74 : Int32 → Int32 → Int32 → Int32 → Int32 → Int32 → PF → PG → PR) (hag_74 : ∀ (x2 : Int32) (x3 : Int32) (x4 : Int32) (x5 : Int32) (x6 : Int32) (x7 : Int32) (F : PF) (G : PG), ag_74 x2 x3 x4 x5 x6 x7 F G = some res → ∀ (b : Nat) (H : Heap) (locs : List Loc) (ls : Array Slot), cMW s A v a b K0 F G H locs → lv_has ls 10 [(0, .ref (a 203)), (2, .int x2), (3, .int x3), (4, .int x4), (5, .int x5), (6, .int x6), (7, .int x7)] → W p l e R s m args below meth c H locs (xn F - xn K0) (2 * (xn F - xn K0)) Q (F0 m 74 ls [])) (hagn_74 : ∀ (x2 : Int32) (x3 : Int32) (x4 : Int32) (x5 : Int32) (x6 : Int32) (x7 : Int32) (F : PF) (G : PG), ag_74 x2 x3 x4 x5 x6 x7 F G = some res → xn F ≤ xn res.2.1) (x2 : Int32) (x3 : Int32) (x4 : Int32) (x5 : Int32) (x7 : Int32) (x8 : Int32) (z0 : Int32) (F : PF) (G : PG) (hm : cb_X3_call_121 fu rc ag_74 x2 x3 x4 x5 x7 x8 z0 F G = some res) {b : Nat} {H : Heap} {locs : List Loc} (hw : cMW s A v a b K0 F G H locs) {ls : Array Slot} (hl : lv_has ls 10 [(0, .ref (a 203)), (2, .int x2), (3, .int x3), (4, .int x4), (5, .int x5), (7, .int x7), (8, .int x8)]) : W p l e R s m args below meth c H locs (xn F - xn K0) (2 * (xn F - xn K0)) Q (F0 m 121 ls [.int z0]) := by
  have hx := C.1
  have hb := C.2.1
  unfold cb_X3_call_121 at hm
  refine lv_if_eq (tgt := 181) hx hb dX3_call_121 (by decide) (fun c_1 => ?_) (fun c_1 => ?_)
  · have hm := (if_pos c_1).symm.trans hm
    exact cw_X3_call_181 fu rc hr hrn C hret ag_74 hag_74 hagn_74 x2 x3 x4 x5 x7 x8 F G hm hw (lv_sub hl [0, 1, 2, 3, 4, 5, 6] rfl)
  · have hm := (if_neg c_1).symm.trans hm
    exact cw_X3_call_124 fu rc hr hrn C hret ag_74 hag_74 hagn_74 x2 x3 x4 x5 x7 x8 F G hm hw (lv_sub hl [0, 1, 2, 3, 4, 5, 6] rfl)
theorem cn_X3_call_114 (fu : Nat) (rc : RC) (hrn : ∀ (i : Nat) (x y : Int32) (F : PF) (G : PG) (q : Int32 × PF × PG), rc i x y F G = some q → xn F ≤ xn q.2.1) {res : Int32 × PF × PG} (ag_74 : Int32 → Int32 → Int32 → Int32 → Int32 → Int32 → PF → PG → PR) (hagn_74 : ∀ (x2 : Int32) (x3 : Int32) (x4 : Int32) (x5 : Int32) (x6 : Int32) (x7 : Int32) (F : PF) (G : PG), ag_74 x2 x3 x4 x5 x6 x7 F G = some res → xn F ≤ xn res.2.1) (x2 : Int32) (x3 : Int32) (x4 : Int32) (x5 : Int32) (x7 : Int32) (x8 : Int32) (F : PF) (G : PG) (hm : cb_X3_call_114 fu rc ag_74 x2 x3 x4 x5 x7 x8 F G = some res) : xn F ≤ xn res.2.1 := by
  unfold cb_X3_call_114 at hm
  obtain ⟨⟨r1, F1, G1⟩, hc, hm⟩ := bind_elim hm
  exact Nat.le_trans (cn_X2_isNameAlone fu F G _ hc) (cn_X3_call_121 fu rc hrn ag_74 hagn_74 x2 x3 x4 x5 x7 x8 r1 F1 G1 hm)
theorem cw_X3_call_114 (fu : Nat) (rc : RC) {dd : Nat} (hr : cH1 l v a rc dd) (hrn : ∀ (i : Nat) (x y : Int32) (F : PF) (G : PG) (q : Int32 × PF × PG), rc i x y F G = some q → xn F ≤ xn q.2.1) {res : Int32 × PF × PG} (C : cMC p R s m args c A v RX3 cX3_call 10 (dd + 1 + 2) (60 * (dd + 1) + 49) (xn res.2.1 - xn K0)) (hret : ∀ (b1 : Nat) (H1 : Heap) (locs1 : List Loc) (ls1 : Array Slot) (pc : Nat), cMW s A v a b1 K0 res.2.1 res.2.2 H1 locs1 → decode cX3_call pc = .ok (.return_, 1) → W p l e R s m args below meth c H1 locs1 (xn res.2.1 - xn K0) (2 * (xn res.2.1 - xn K0)) Q (F0 m pc ls1 [])) (ag_74 : Int32 → Int32 → Int32 → Int32 → Int32 → Int32 → PF → PG → PR) (hag_74 : ∀ (x2 : Int32) (x3 : Int32) (x4 : Int32) (x5 : Int32) (x6 : Int32) (x7 : Int32) (F : PF) (G : PG), ag_74 x2 x3 x4 x5 x6 x7 F G = some res → ∀ (b : Nat) (H : Heap) (locs : List Loc) (ls : Array Slot), cMW s A v a b K0 F G H locs → lv_has ls 10 [(0, .ref (a 203)), (2, .int x2), (3, .int x3), (4, .int x4), (5, .int x5), (6, .int x6), (7, .int x7)] → W p l e R s m args below meth c H locs (xn F - xn K0) (2 * (xn F - xn K0)) Q (F0 m 74 ls [])) (hagn_74 : ∀ (x2 : Int32) (x3 : Int32) (x4 : Int32) (x5 : Int32) (x6 : Int32) (x7 : Int32) (F : PF) (G : PG), ag_74 x2 x3 x4 x5 x6 x7 F G = some res → xn F ≤ xn res.2.1) (x2 : Int32) (x3 : Int32) (x4 : Int32) (x5 : Int32) (x7 : Int32) (x8 : Int32) (F : PF) (G : PG) (hm : cb_X3_call_114 fu rc ag_74 x2 x3 x4 x5 x7 x8 F G = some res) {b : Nat} {H : Heap} {locs : List Loc} (hw : cMW s A v a b K0 F G H locs) {ls : Array Slot} (hl : lv_has ls 10 [(0, .ref (a 203)), (2, .int x2), (3, .int x3), (4, .int x4), (5, .int x5), (7, .int x7), (8, .int x8)]) : W p l e R s m args below meth c H locs (xn F - xn K0) (2 * (xn F - xn K0)) Q (F0 m 114 ls []) := by
  have hx := C.1
  have hb := C.2.1
  unfold cb_X3_call_114 at hm
  refine lv_aload_n hx hb dX3_call_114 rfl (lv_at hl 0 rfl) ?_
  refine cg_X3_15 C hw dX3_call_115 ?_
  obtain ⟨⟨r1, F1, G1⟩, hc, hm⟩ := bind_elim hm
  refine ccallI (n := 0) (As := []) (rest := []) C hw (ck_X2_isNameAlone l v a _ _ fu F G r1 F1 G1 hc) (cn_X2_isNameAlone fu F G _ hc) (Nat.sub_le_sub_right (cn_X3_call_121 fu rc hrn ag_74 hagn_74 x2 x3 x4 x5 x7 x8 r1 F1 G1 hm) _) (crecv_X2 C hw) cm_408 cm_409 cm_410 cm_307 cm_411 (by decide +kernel) rfl (by omega) (by omega) hl.1 rfl (Nat.le_of_ble_eq_true rfl) dX3_call_118 (fun b H locs hw => ?_)
  exact cw_X3_call_121 fu rc hr hrn C hret ag_74 hag_74 hagn_74 x2 x3 x4 x5 x7 x8 r1 F1 G1 hm hw (lv_sub hl [0, 1, 2, 3, 4, 5, 6] rfl)
theorem cn_X3_call_106 (fu : Nat) (rc : RC) (hrn : ∀ (i : Nat) (x y : Int32) (F : PF) (G : PG) (q : Int32 × PF × PG), rc i x y F G = some q → xn F ≤ xn q.2.1) {res : Int32 × PF × PG} (ag_74 : Int32 → Int32 → Int32 → Int32 → Int32 → Int32 → PF → PG → PR) (hagn_74 : ∀ (x2 : Int32) (x3 : Int32) (x4 : Int32) (x5 : Int32) (x6 : Int32) (x7 : Int32) (F : PF) (G : PG), ag_74 x2 x3 x4 x5 x6 x7 F G = some res → xn F ≤ xn res.2.1) (x2 : Int32) (x3 : Int32) (x4 : Int32) (x5 : Int32) (x7 : Int32) (z0 : Int32) (F : PF) (G : PG) (hm : cb_X3_call_106 fu rc ag_74 x2 x3 x4 x5 x7 z0 F G = some res) : xn F ≤ xn res.2.1 := by
  unfold cb_X3_call_106 at hm
  by_cases c_1 : z0 ≤ (1 : Int32)
  · have hm := (if_pos c_1).symm.trans hm
    exact (cn_X3_call_181 fu rc hrn ag_74 hagn_74 x2 x3 x4 x5 x7 z0 F G hm)
  · have hm := (if_neg c_1).symm.trans hm
    exact (cn_X3_call_114 fu rc hrn ag_74 hagn_74 x2 x3 x4 x5 x7 z0 F G hm)
theorem cw_X3_call_106 (fu : Nat) (rc : RC) {dd : Nat} (hr : cH1 l v a rc dd) (hrn : ∀ (i : Nat) (x y : Int32) (F : PF) (G : PG) (q : Int32 × PF × PG), rc i x y F G = some q → xn F ≤ xn q.2.1) {res : Int32 × PF × PG} (C : cMC p R s m args c A v RX3 cX3_call 10 (dd + 1 + 2) (60 * (dd + 1) + 49) (xn res.2.1 - xn K0)) (hret : ∀ (b1 : Nat) (H1 : Heap) (locs1 : List Loc) (ls1 : Array Slot) (pc : Nat), cMW s A v a b1 K0 res.2.1 res.2.2 H1 locs1 → decode cX3_call pc = .ok (.return_, 1) → W p l e R s m args below meth c H1 locs1 (xn res.2.1 - xn K0) (2 * (xn res.2.1 - xn K0)) Q (F0 m pc ls1 [])) (ag_74 : Int32 → Int32 → Int32 → Int32 → Int32 → Int32 → PF → PG → PR) (hag_74 : ∀ (x2 : Int32) (x3 : Int32) (x4 : Int32) (x5 : Int32) (x6 : Int32) (x7 : Int32) (F : PF) (G : PG), ag_74 x2 x3 x4 x5 x6 x7 F G = some res → ∀ (b : Nat) (H : Heap) (locs : List Loc) (ls : Array Slot), cMW s A v a b K0 F G H locs → lv_has ls 10 [(0, .ref (a 203)), (2, .int x2), (3, .int x3), (4, .int x4), (5, .int x5), (6, .int x6), (7, .int x7)] → W p l e R s m args below meth c H locs (xn F - xn K0) (2 * (xn F - xn K0)) Q (F0 m 74 ls [])) (hagn_74 : ∀ (x2 : Int32) (x3 : Int32) (x4 : Int32) (x5 : Int32) (x6 : Int32) (x7 : Int32) (F : PF) (G : PG), ag_74 x2 x3 x4 x5 x6 x7 F G = some res → xn F ≤ xn res.2.1) (x2 : Int32) (x3 : Int32) (x4 : Int32) (x5 : Int32) (x7 : Int32) (z0 : Int32) (F : PF) (G : PG) (hm : cb_X3_call_106 fu rc ag_74 x2 x3 x4 x5 x7 z0 F G = some res) {b : Nat} {H : Heap} {locs : List Loc} (hw : cMW s A v a b K0 F G H locs) {ls : Array Slot} (hl : lv_has ls 10 [(0, .ref (a 203)), (2, .int x2), (3, .int x3), (4, .int x4), (5, .int x5), (7, .int x7)]) : W p l e R s m args below meth c H locs (xn F - xn K0) (2 * (xn F - xn K0)) Q (F0 m 106 ls [.int z0]) := by
  have hx := C.1
  have hb := C.2.1
  unfold cb_X3_call_106 at hm
  refine lv_istore (lv' := [(8, .int z0), (0, .ref (a 203)), (2, .int x2), (3, .int x3), (4, .int x4), (5, .int x5), (7, .int x7)]) hx hb dX3_call_106 hl (by decide) rfl (fun ls hl => ?_)
  refine lv_iload hx hb dX3_call_108 (lv_at hl 0 rfl) ?_
  refine lv_iconst (v := 1) hx hb dX3_call_110 (by decide) ?_
  refine lv_icmp_le (tgt := 181) hx hb dX3_call_111 (by decide) (fun c_1 => ?_) (fun c_1 => ?_)
  · have hm := (if_pos c_1).symm.trans hm
    exact cw_X3_call_181 fu rc hr hrn C hret ag_74 hag_74 hagn_74 x2 x3 x4 x5 x7 z0 F G hm hw (lv_sub hl [1, 2, 3, 4, 5, 6, 0] rfl)
  · have hm := (if_neg c_1).symm.trans hm
    exact cw_X3_call_114 fu rc hr hrn C hret ag_74 hag_74 hagn_74 x2 x3 x4 x5 x7 z0 F G hm hw (lv_sub hl [1, 2, 3, 4, 5, 6, 0] rfl)
theorem cn_X3_call_105 (fu : Nat) (rc : RC) (hrn : ∀ (i : Nat) (x y : Int32) (F : PF) (G : PG) (q : Int32 × PF × PG), rc i x y F G = some q → xn F ≤ xn q.2.1) {res : Int32 × PF × PG} (ag_74 : Int32 → Int32 → Int32 → Int32 → Int32 → Int32 → PF → PG → PR) (hagn_74 : ∀ (x2 : Int32) (x3 : Int32) (x4 : Int32) (x5 : Int32) (x6 : Int32) (x7 : Int32) (F : PF) (G : PG), ag_74 x2 x3 x4 x5 x6 x7 F G = some res → xn F ≤ xn res.2.1) (x2 : Int32) (x3 : Int32) (x4 : Int32) (x5 : Int32) (x7 : Int32) (F : PF) (G : PG) (hm : cb_X3_call_105 fu rc ag_74 x2 x3 x4 x5 x7 F G = some res) : xn F ≤ xn res.2.1 := by
  unfold cb_X3_call_105 at hm
  exact (cn_X3_call_106 fu rc hrn ag_74 hagn_74 x2 x3 x4 x5 x7 1 F G hm)
theorem cw_X3_call_105 (fu : Nat) (rc : RC) {dd : Nat} (hr : cH1 l v a rc dd) (hrn : ∀ (i : Nat) (x y : Int32) (F : PF) (G : PG) (q : Int32 × PF × PG), rc i x y F G = some q → xn F ≤ xn q.2.1) {res : Int32 × PF × PG} (C : cMC p R s m args c A v RX3 cX3_call 10 (dd + 1 + 2) (60 * (dd + 1) + 49) (xn res.2.1 - xn K0)) (hret : ∀ (b1 : Nat) (H1 : Heap) (locs1 : List Loc) (ls1 : Array Slot) (pc : Nat), cMW s A v a b1 K0 res.2.1 res.2.2 H1 locs1 → decode cX3_call pc = .ok (.return_, 1) → W p l e R s m args below meth c H1 locs1 (xn res.2.1 - xn K0) (2 * (xn res.2.1 - xn K0)) Q (F0 m pc ls1 [])) (ag_74 : Int32 → Int32 → Int32 → Int32 → Int32 → Int32 → PF → PG → PR) (hag_74 : ∀ (x2 : Int32) (x3 : Int32) (x4 : Int32) (x5 : Int32) (x6 : Int32) (x7 : Int32) (F : PF) (G : PG), ag_74 x2 x3 x4 x5 x6 x7 F G = some res → ∀ (b : Nat) (H : Heap) (locs : List Loc) (ls : Array Slot), cMW s A v a b K0 F G H locs → lv_has ls 10 [(0, .ref (a 203)), (2, .int x2), (3, .int x3), (4, .int x4), (5, .int x5), (6, .int x6), (7, .int x7)] → W p l e R s m args below meth c H locs (xn F - xn K0) (2 * (xn F - xn K0)) Q (F0 m 74 ls [])) (hagn_74 : ∀ (x2 : Int32) (x3 : Int32) (x4 : Int32) (x5 : Int32) (x6 : Int32) (x7 : Int32) (F : PF) (G : PG), ag_74 x2 x3 x4 x5 x6 x7 F G = some res → xn F ≤ xn res.2.1) (x2 : Int32) (x3 : Int32) (x4 : Int32) (x5 : Int32) (x7 : Int32) (F : PF) (G : PG) (hm : cb_X3_call_105 fu rc ag_74 x2 x3 x4 x5 x7 F G = some res) {b : Nat} {H : Heap} {locs : List Loc} (hw : cMW s A v a b K0 F G H locs) {ls : Array Slot} (hl : lv_has ls 10 [(0, .ref (a 203)), (2, .int x2), (3, .int x3), (4, .int x4), (5, .int x5), (7, .int x7)]) : W p l e R s m args below meth c H locs (xn F - xn K0) (2 * (xn F - xn K0)) Q (F0 m 105 ls []) := by
  have hx := C.1
  have hb := C.2.1
  unfold cb_X3_call_105 at hm
  refine lv_iconst (v := 1) hx hb dX3_call_105 (by decide) ?_
  exact cw_X3_call_106 fu rc hr hrn C hret ag_74 hag_74 hagn_74 x2 x3 x4 x5 x7 1 F G hm hw (lv_sub hl [0, 1, 2, 3, 4, 5] rfl)
theorem cn_X3_call_102 (fu : Nat) (rc : RC) (hrn : ∀ (i : Nat) (x y : Int32) (F : PF) (G : PG) (q : Int32 × PF × PG), rc i x y F G = some q → xn F ≤ xn q.2.1) {res : Int32 × PF × PG} (ag_74 : Int32 → Int32 → Int32 → Int32 → Int32 → Int32 → PF → PG → PR) (hagn_74 : ∀ (x2 : Int32) (x3 : Int32) (x4 : Int32) (x5 : Int32) (x6 : Int32) (x7 : Int32) (F : PF) (G : PG), ag_74 x2 x3 x4 x5 x6 x7 F G = some res → xn F ≤ xn res.2.1) (x2 : Int32) (x3 : Int32) (x4 : Int32) (x5 : Int32) (x7 : Int32) (z0 : Int32) (F : PF) (G : PG) (hm : cb_X3_call_102 fu rc ag_74 x2 x3 x4 x5 x7 z0 F G = some res) : xn F ≤ xn res.2.1 := by
  unfold cb_X3_call_102 at hm
  exact (cn_X3_call_106 fu rc hrn ag_74 hagn_74 x2 x3 x4 x5 x7 z0 F G hm)
theorem cw_X3_call_102 (fu : Nat) (rc : RC) {dd : Nat} (hr : cH1 l v a rc dd) (hrn : ∀ (i : Nat) (x y : Int32) (F : PF) (G : PG) (q : Int32 × PF × PG), rc i x y F G = some q → xn F ≤ xn q.2.1) {res : Int32 × PF × PG} (C : cMC p R s m args c A v RX3 cX3_call 10 (dd + 1 + 2) (60 * (dd + 1) + 49) (xn res.2.1 - xn K0)) (hret : ∀ (b1 : Nat) (H1 : Heap) (locs1 : List Loc) (ls1 : Array Slot) (pc : Nat), cMW s A v a b1 K0 res.2.1 res.2.2 H1 locs1 → decode cX3_call pc = .ok (.return_, 1) → W p l e R s m args below meth c H1 locs1 (xn res.2.1 - xn K0) (2 * (xn res.2.1 - xn K0)) Q (F0 m pc ls1 [])) (ag_74 : Int32 → Int32 → Int32 → Int32 → Int32 → Int32 → PF → PG → PR) (hag_74 : ∀ (x2 : Int32) (x3 : Int32) (x4 : Int32) (x5 : Int32) (x6 : Int32) (x7 : Int32) (F : PF) (G : PG), ag_74 x2 x3 x4 x5 x6 x7 F G = some res → ∀ (b : Nat) (H : Heap) (locs : List Loc) (ls : Array Slot), cMW s A v a b K0 F G H locs → lv_has ls 10 [(0, .ref (a 203)), (2, .int x2), (3, .int x3), (4, .int x4), (5, .int x5), (6, .int x6), (7, .int x7)] → W p l e R s m args below meth c H locs (xn F - xn K0) (2 * (xn F - xn K0)) Q (F0 m 74 ls [])) (hagn_74 : ∀ (x2 : Int32) (x3 : Int32) (x4 : Int32) (x5 : Int32) (x6 : Int32) (x7 : Int32) (F : PF) (G : PG), ag_74 x2 x3 x4 x5 x6 x7 F G = some res → xn F ≤ xn res.2.1) (x2 : Int32) (x3 : Int32) (x4 : Int32) (x5 : Int32) (x7 : Int32) (z0 : Int32) (F : PF) (G : PG) (hm : cb_X3_call_102 fu rc ag_74 x2 x3 x4 x5 x7 z0 F G = some res) {b : Nat} {H : Heap} {locs : List Loc} (hw : cMW s A v a b K0 F G H locs) {ls : Array Slot} (hl : lv_has ls 10 [(0, .ref (a 203)), (2, .int x2), (3, .int x3), (4, .int x4), (5, .int x5), (7, .int x7)]) : W p l e R s m args below meth c H locs (xn F - xn K0) (2 * (xn F - xn K0)) Q (F0 m 102 ls [.int z0]) := by
  have hx := C.1
  have hb := C.2.1
  unfold cb_X3_call_102 at hm
  refine lv_goto (tgt := 106) hx hb dX3_call_102 (by decide) ?_
  exact cw_X3_call_106 fu rc hr hrn C hret ag_74 hag_74 hagn_74 x2 x3 x4 x5 x7 z0 F G hm hw (lv_sub hl [0, 1, 2, 3, 4, 5] rfl)
theorem cn_X3_call_91 (fu : Nat) (rc : RC) (hrn : ∀ (i : Nat) (x y : Int32) (F : PF) (G : PG) (q : Int32 × PF × PG), rc i x y F G = some q → xn F ≤ xn q.2.1) {res : Int32 × PF × PG} (ag_74 : Int32 → Int32 → Int32 → Int32 → Int32 → Int32 → PF → PG → PR) (hagn_74 : ∀ (x2 : Int32) (x3 : Int32) (x4 : Int32) (x5 : Int32) (x6 : Int32) (x7 : Int32) (F : PF) (G : PG), ag_74 x2 x3 x4 x5 x6 x7 F G = some res → xn F ≤ xn res.2.1) (x2 : Int32) (x3 : Int32) (x4 : Int32) (x5 : Int32) (x7 : Int32) (F : PF) (G : PG) (hm : cb_X3_call_91 fu rc ag_74 x2 x3 x4 x5 x7 F G = some res) : xn F ≤ xn res.2.1 := by
  unfold cb_X3_call_91 at hm
  obtain ⟨⟨r1, F1, G1⟩, hc, hm⟩ := bind_elim hm
  exact Nat.le_trans (cn_X8_formalKind fu x4 x7 F G _ hc) (cn_X3_call_102 fu rc hrn ag_74 hagn_74 x2 x3 x4 x5 x7 r1 F1 G1 hm)
theorem cw_X3_call_91 (fu : Nat) (rc : RC) {dd : Nat} (hr : cH1 l v a rc dd) (hrn : ∀ (i : Nat) (x y : Int32) (F : PF) (G : PG) (q : Int32 × PF × PG), rc i x y F G = some q → xn F ≤ xn q.2.1) {res : Int32 × PF × PG} (C : cMC p R s m args c A v RX3 cX3_call 10 (dd + 1 + 2) (60 * (dd + 1) + 49) (xn res.2.1 - xn K0)) (hret : ∀ (b1 : Nat) (H1 : Heap) (locs1 : List Loc) (ls1 : Array Slot) (pc : Nat), cMW s A v a b1 K0 res.2.1 res.2.2 H1 locs1 → decode cX3_call pc = .ok (.return_, 1) → W p l e R s m args below meth c H1 locs1 (xn res.2.1 - xn K0) (2 * (xn res.2.1 - xn K0)) Q (F0 m pc ls1 [])) (ag_74 : Int32 → Int32 → Int32 → Int32 → Int32 → Int32 → PF → PG → PR) (hag_74 : ∀ (x2 : Int32) (x3 : Int32) (x4 : Int32) (x5 : Int32) (x6 : Int32) (x7 : Int32) (F : PF) (G : PG), ag_74 x2 x3 x4 x5 x6 x7 F G = some res → ∀ (b : Nat) (H : Heap) (locs : List Loc) (ls : Array Slot), cMW s A v a b K0 F G H locs → lv_has ls 10 [(0, .ref (a 203)), (2, .int x2), (3, .int x3), (4, .int x4), (5, .int x5), (6, .int x6), (7, .int x7)] → W p l e R s m args below meth c H locs (xn F - xn K0) (2 * (xn F - xn K0)) Q (F0 m 74 ls [])) (hagn_74 : ∀ (x2 : Int32) (x3 : Int32) (x4 : Int32) (x5 : Int32) (x6 : Int32) (x7 : Int32) (F : PF) (G : PG), ag_74 x2 x3 x4 x5 x6 x7 F G = some res → xn F ≤ xn res.2.1) (x2 : Int32) (x3 : Int32) (x4 : Int32) (x5 : Int32) (x7 : Int32) (F : PF) (G : PG) (hm : cb_X3_call_91 fu rc ag_74 x2 x3 x4 x5 x7 F G = some res) {b : Nat} {H : Heap} {locs : List Loc} (hw : cMW s A v a b K0 F G H locs) {ls : Array Slot} (hl : lv_has ls 10 [(0, .ref (a 203)), (2, .int x2), (3, .int x3), (4, .int x4), (5, .int x5), (7, .int x7)]) : W p l e R s m args below meth c H locs (xn F - xn K0) (2 * (xn F - xn K0)) Q (F0 m 91 ls []) := by
  have hx := C.1
  have hb := C.2.1
  unfold cb_X3_call_91 at hm
  refine lv_aload_n hx hb dX3_call_91 rfl (lv_at hl 0 rfl) ?_
  refine cg_X3_27 C hw dX3_call_92 ?_
  refine lv_iload hx hb dX3_call_95 (lv_at hl 3 rfl) ?_
  refine lv_iload hx hb dX3_call_97 (lv_at hl 5 rfl) ?_
  obtain ⟨⟨r1, F1, G1⟩, hc, hm⟩ := bind_elim hm
  refine ccallI (n := 2) (As := [.int x4, .int x7]) (rest := []) C hw (ck_X8_formalKind l v a _ _ fu x4 x7 F G r1 F1 G1 hc) (cn_X8_formalKind fu x4 x7 F G _ hc) (Nat.sub_le_sub_right (cn_X3_call_102 fu rc hrn ag_74 hagn_74 x2 x3 x4 x5 x7 r1 F1 G1 hm) _) (crecv_X8 C hw) cm_397 cm_398 cm_399 cm_254 cm_400 (by decide +kernel) rfl (by omega) (by omega) hl.1 rfl (Nat.le_of_ble_eq_true rfl) dX3_call_99 (fun b H locs hw => ?_)
  exact cw_X3_call_102 fu rc hr hrn C hret ag_74 hag_74 hagn_74 x2 x3 x4 x5 x7 r1 F1 G1 hm hw (lv_sub hl [0, 1, 2, 3, 4, 5] rfl)
theorem cn_X3_call_87 (fu : Nat) (rc : RC) (hrn : ∀ (i : Nat) (x y : Int32) (F : PF) (G : PG) (q : Int32 × PF × PG), rc i x y F G = some q → xn F ≤ xn q.2.1) {res : Int32 × PF × PG} (ag_74 : Int32 → Int32 → Int32 → Int32 → Int32 → Int32 → PF → PG → PR) (hagn_74 : ∀ (x2 : Int32) (x3 : Int32) (x4 : Int32) (x5 : Int32) (x6 : Int32) (x7 : Int32) (F : PF) (G : PG), ag_74 x2 x3 x4 x5 x6 x7 F G = some res → xn F ≤ xn res.2.1) (x2 : Int32) (x3 : Int32) (x4 : Int32) (x5 : Int32) (x7 : Int32) (F : PF) (G : PG) (hm : cb_X3_call_87 fu rc ag_74 x2 x3 x4 x5 x7 F G = some res) : xn F ≤ xn res.2.1 := by
  unfold cb_X3_call_87 at hm
  by_cases c_1 : x3 = (0 : Int32)
  · have hm := (if_pos c_1).symm.trans hm
    exact (cn_X3_call_105 fu rc hrn ag_74 hagn_74 x2 x3 x4 x5 x7 F G hm)
  · have hm := (if_neg c_1).symm.trans hm
    exact (cn_X3_call_91 fu rc hrn ag_74 hagn_74 x2 x3 x4 x5 x7 F G hm)
theorem cw_X3_call_87 (fu : Nat) (rc : RC) {dd : Nat} (hr : cH1 l v a rc dd) (hrn : ∀ (i : Nat) (x y : Int32) (F : PF) (G : PG) (q : Int32 × PF × PG), rc i x y F G = some q → xn F ≤ xn q.2.1) {res : Int32 × PF × PG} (C : cMC p R s m args c A v RX3 cX3_call 10 (dd + 1 + 2) (60 * (dd + 1) + 49) (xn res.2.1 - xn K0)) (hret : ∀ (b1 : Nat) (H1 : Heap) (locs1 : List Loc) (ls1 : Array Slot) (pc : Nat), cMW s A v a b1 K0 res.2.1 res.2.2 H1 locs1 → decode cX3_call pc = .ok (.return_, 1) → W p l e R s m args below meth c H1 locs1 (xn res.2.1 - xn K0) (2 * (xn res.2.1 - xn K0)) Q (F0 m pc ls1 [])) (ag_74 : Int32 → Int32 → Int32 → Int32 → Int32 → Int32 → PF → PG → PR) (hag_74 : ∀ (x2 : Int32) (x3 : Int32) (x4 : Int32) (x5 : Int32) (x6 : Int32) (x7 : Int32) (F : PF) (G : PG), ag_74 x2 x3 x4 x5 x6 x7 F G = some res → ∀ (b : Nat) (H : Heap) (locs : List Loc) (ls : Array Slot), cMW s A v a b K0 F G H locs → lv_has ls 10 [(0, .ref (a 203)), (2, .int x2), (3, .int x3), (4, .int x4), (5, .int x5), (6, .int x6), (7, .int x7)] → W p l e R s m args below meth c H locs (xn F - xn K0) (2 * (xn F - xn K0)) Q (F0 m 74 ls [])) (hagn_74 : ∀ (x2 : Int32) (x3 : Int32) (x4 : Int32) (x5 : Int32) (x6 : Int32) (x7 : Int32) (F : PF) (G : PG), ag_74 x2 x3 x4 x5 x6 x7 F G = some res → xn F ≤ xn res.2.1) (x2 : Int32) (x3 : Int32) (x4 : Int32) (x5 : Int32) (x7 : Int32) (F : PF) (G : PG) (hm : cb_X3_call_87 fu rc ag_74 x2 x3 x4 x5 x7 F G = some res) {b : Nat} {H : Heap} {locs : List Loc} (hw : cMW s A v a b K0 F G H locs) {ls : Array Slot} (hl : lv_has ls 10 [(0, .ref (a 203)), (2, .int x2), (3, .int x3), (4, .int x4), (5, .int x5), (7, .int x7)]) : W p l e R s m args below meth c H locs (xn F - xn K0) (2 * (xn F - xn K0)) Q (F0 m 87 ls []) := by
  have hx := C.1
  have hb := C.2.1
  unfold cb_X3_call_87 at hm
  refine lv_iload_n hx hb dX3_call_87 rfl (lv_at hl 2 rfl) ?_
  refine lv_if_eq (tgt := 105) hx hb dX3_call_88 (by decide) (fun c_1 => ?_) (fun c_1 => ?_)
  · have hm := (if_pos c_1).symm.trans hm
    exact cw_X3_call_105 fu rc hr hrn C hret ag_74 hag_74 hagn_74 x2 x3 x4 x5 x7 F G hm hw (lv_sub hl [0, 1, 2, 3, 4, 5] rfl)
  · have hm := (if_neg c_1).symm.trans hm
    exact cw_X3_call_91 fu rc hr hrn C hret ag_74 hag_74 hagn_74 x2 x3 x4 x5 x7 F G hm hw (lv_sub hl [0, 1, 2, 3, 4, 5] rfl)
theorem cn_X3_call_82 (fu : Nat) (rc : RC) (hrn : ∀ (i : Nat) (x y : Int32) (F : PF) (G : PG) (q : Int32 × PF × PG), rc i x y F G = some q → xn F ≤ xn q.2.1) {res : Int32 × PF × PG} (ag_74 : Int32 → Int32 → Int32 → Int32 → Int32 → Int32 → PF → PG → PR) (hagn_74 : ∀ (x2 : Int32) (x3 : Int32) (x4 : Int32) (x5 : Int32) (x6 : Int32) (x7 : Int32) (F : PF) (G : PG), ag_74 x2 x3 x4 x5 x6 x7 F G = some res → xn F ≤ xn res.2.1) (x2 : Int32) (x3 : Int32) (x4 : Int32) (x5 : Int32) (x6 : Int32) (x7 : Int32) (F : PF) (G : PG) (hm : cb_X3_call_82 fu rc ag_74 x2 x3 x4 x5 x6 x7 F G = some res) : xn F ≤ xn res.2.1 := by
  unfold cb_X3_call_82 at hm
  by_cases c_1 : x6 = (0 : Int32)
  · have hm := (if_pos c_1).symm.trans hm
    exact (cn_X3_call_246 fu rc hrn x2 x3 x4 x5 F G hm)
  · have hm := (if_neg c_1).symm.trans hm
    exact (cn_X3_call_87 fu rc hrn ag_74 hagn_74 x2 x3 x4 x5 x7 F G hm)
theorem cw_X3_call_82 (fu : Nat) (rc : RC) {dd : Nat} (hr : cH1 l v a rc dd) (hrn : ∀ (i : Nat) (x y : Int32) (F : PF) (G : PG) (q : Int32 × PF × PG), rc i x y F G = some q → xn F ≤ xn q.2.1) {res : Int32 × PF × PG} (C : cMC p R s m args c A v RX3 cX3_call 10 (dd + 1 + 2) (60 * (dd + 1) + 49) (xn res.2.1 - xn K0)) (hret : ∀ (b1 : Nat) (H1 : Heap) (locs1 : List Loc) (ls1 : Array Slot) (pc : Nat), cMW s A v a b1 K0 res.2.1 res.2.2 H1 locs1 → decode cX3_call pc = .ok (.return_, 1) → W p l e R s m args below meth c H1 locs1 (xn res.2.1 - xn K0) (2 * (xn res.2.1 - xn K0)) Q (F0 m pc ls1 [])) (ag_74 : Int32 → Int32 → Int32 → Int32 → Int32 → Int32 → PF → PG → PR) (hag_74 : ∀ (x2 : Int32) (x3 : Int32) (x4 : Int32) (x5 : Int32) (x6 : Int32) (x7 : Int32) (F : PF) (G : PG), ag_74 x2 x3 x4 x5 x6 x7 F G = some res → ∀ (b : Nat) (H : Heap) (locs : List Loc) (ls : Array Slot), cMW s A v a b K0 F G H locs → lv_has ls 10 [(0, .ref (a 203)), (2, .int x2), (3, .int x3), (4, .int x4), (5, .int x5), (6, .int x6), (7, .int x7)] → W p l e R s m args below meth c H locs (xn F - xn K0) (2 * (xn F - xn K0)) Q (F0 m 74 ls [])) (hagn_74 : ∀ (x2 : Int32) (x3 : Int32) (x4 : Int32) (x5 : Int32) (x6 : Int32) (x7 : Int32) (F : PF) (G : PG), ag_74 x2 x3 x4 x5 x6 x7 F G = some res → xn F ≤ xn res.2.1) (x2 : Int32) (x3 : Int32) (x4 : Int32) (x5 : Int32) (x6 : Int32) (x7 : Int32) (F : PF) (G : PG) (hm : cb_X3_call_82 fu rc ag_74 x2 x3 x4 x5 x6 x7 F G = some res) {b : Nat} {H : Heap} {locs : List Loc} (hw : cMW s A v a b K0 F G H locs) {ls : Array Slot} (hl : lv_has ls 10 [(0, .ref (a 203)), (2, .int x2), (3, .int x3), (4, .int x4), (5, .int x5), (6, .int x6), (7, .int x7)]) : W p l e R s m args below meth c H locs (xn F - xn K0) (2 * (xn F - xn K0)) Q (F0 m 82 ls []) := by
  have hx := C.1
  have hb := C.2.1
  unfold cb_X3_call_82 at hm
  refine lv_iload hx hb dX3_call_82 (lv_at hl 5 rfl) ?_
  refine lv_if_eq (tgt := 246) hx hb dX3_call_84 (by decide) (fun c_1 => ?_) (fun c_1 => ?_)
  · have hm := (if_pos c_1).symm.trans hm
    exact cw_X3_call_246 fu rc hr hrn C hret x2 x3 x4 x5 F G hm hw (lv_sub hl [0, 1, 2, 3, 4] rfl)
  · have hm := (if_neg c_1).symm.trans hm
    exact cw_X3_call_87 fu rc hr hrn C hret ag_74 hag_74 hagn_74 x2 x3 x4 x5 x7 F G hm hw (lv_sub hl [0, 1, 2, 3, 4, 6] rfl)
theorem cn_X3_call_74 (fu : Nat) (rc : RC) (hrn : ∀ (i : Nat) (x y : Int32) (F : PF) (G : PG) (q : Int32 × PF × PG), rc i x y F G = some q → xn F ≤ xn q.2.1) {res : Int32 × PF × PG} (ag_74 : Int32 → Int32 → Int32 → Int32 → Int32 → Int32 → PF → PG → PR) (hagn_74 : ∀ (x2 : Int32) (x3 : Int32) (x4 : Int32) (x5 : Int32) (x6 : Int32) (x7 : Int32) (F : PF) (G : PG), ag_74 x2 x3 x4 x5 x6 x7 F G = some res → xn F ≤ xn res.2.1) (x2 : Int32) (x3 : Int32) (x4 : Int32) (x5 : Int32) (x6 : Int32) (x7 : Int32) (F : PF) (G : PG) (hm : cb_X3_call_74 fu rc ag_74 x2 x3 x4 x5 x6 x7 F G = some res) : xn F ≤ xn res.2.1 := by
  unfold cb_X3_call_74 at hm
  by_cases c_1 : (4001 : Int32) ≤ x7
  · have hm := (if_pos c_1).symm.trans hm
    exact (cn_X3_call_246 fu rc hrn x2 x3 x4 x5 F G hm)
  · have hm := (if_neg c_1).symm.trans hm
    exact (cn_X3_call_82 fu rc hrn ag_74 hagn_74 x2 x3 x4 x5 x6 x7 F G hm)
theorem cw_X3_call_74 (fu : Nat) (rc : RC) {dd : Nat} (hr : cH1 l v a rc dd) (hrn : ∀ (i : Nat) (x y : Int32) (F : PF) (G : PG) (q : Int32 × PF × PG), rc i x y F G = some q → xn F ≤ xn q.2.1) {res : Int32 × PF × PG} (C : cMC p R s m args c A v RX3 cX3_call 10 (dd + 1 + 2) (60 * (dd + 1) + 49) (xn res.2.1 - xn K0)) (hret : ∀ (b1 : Nat) (H1 : Heap) (locs1 : List Loc) (ls1 : Array Slot) (pc : Nat), cMW s A v a b1 K0 res.2.1 res.2.2 H1 locs1 → decode cX3_call pc = .ok (.return_, 1) → W p l e R s m args below meth c H1 locs1 (xn res.2.1 - xn K0) (2 * (xn res.2.1 - xn K0)) Q (F0 m pc ls1 [])) (ag_74 : Int32 → Int32 → Int32 → Int32 → Int32 → Int32 → PF → PG → PR) (hag_74 : ∀ (x2 : Int32) (x3 : Int32) (x4 : Int32) (x5 : Int32) (x6 : Int32) (x7 : Int32) (F : PF) (G : PG), ag_74 x2 x3 x4 x5 x6 x7 F G = some res → ∀ (b : Nat) (H : Heap) (locs : List Loc) (ls : Array Slot), cMW s A v a b K0 F G H locs → lv_has ls 10 [(0, .ref (a 203)), (2, .int x2), (3, .int x3), (4, .int x4), (5, .int x5), (6, .int x6), (7, .int x7)] → W p l e R s m args below meth c H locs (xn F - xn K0) (2 * (xn F - xn K0)) Q (F0 m 74 ls [])) (hagn_74 : ∀ (x2 : Int32) (x3 : Int32) (x4 : Int32) (x5 : Int32) (x6 : Int32) (x7 : Int32) (F : PF) (G : PG), ag_74 x2 x3 x4 x5 x6 x7 F G = some res → xn F ≤ xn res.2.1) (x2 : Int32) (x3 : Int32) (x4 : Int32) (x5 : Int32) (x6 : Int32) (x7 : Int32) (F : PF) (G : PG) (hm : cb_X3_call_74 fu rc ag_74 x2 x3 x4 x5 x6 x7 F G = some res) {b : Nat} {H : Heap} {locs : List Loc} (hw : cMW s A v a b K0 F G H locs) {ls : Array Slot} (hl : lv_has ls 10 [(0, .ref (a 203)), (2, .int x2), (3, .int x3), (4, .int x4), (5, .int x5), (6, .int x6), (7, .int x7)]) : W p l e R s m args below meth c H locs (xn F - xn K0) (2 * (xn F - xn K0)) Q (F0 m 74 ls []) := by
  have hx := C.1
  have hb := C.2.1
  unfold cb_X3_call_74 at hm
  refine lv_iload hx hb dX3_call_74 (lv_at hl 6 rfl) ?_
  refine lv_sipush (v := 4001) hx hb dX3_call_76 (by decide) ?_
  refine lv_icmp_ge (tgt := 246) hx hb dX3_call_79 (by decide) (fun c_1 => ?_) (fun c_1 => ?_)
  · have hm := (if_pos c_1).symm.trans hm
    exact cw_X3_call_246 fu rc hr hrn C hret x2 x3 x4 x5 F G hm hw (lv_sub hl [0, 1, 2, 3, 4] rfl)
  · have hm := (if_neg c_1).symm.trans hm
    exact cw_X3_call_82 fu rc hr hrn C hret ag_74 hag_74 hagn_74 x2 x3 x4 x5 x6 x7 F G hm hw (lv_sub hl [0, 1, 2, 3, 4, 5, 6] rfl)
theorem cnl_X3_call_74 (fu : Nat) (rc : RC) (hrn : ∀ (i : Nat) (x y : Int32) (F : PF) (G : PG) (q : Int32 × PF × PG), rc i x y F G = some q → xn F ≤ xn q.2.1) {res : Int32 × PF × PG} : ∀ (n : Nat) (x2 : Int32) (x3 : Int32) (x4 : Int32) (x5 : Int32) (x6 : Int32) (x7 : Int32) (F : PF) (G : PG) (hm : cl_X3_call_74 fu rc n x2 x3 x4 x5 x6 x7 F G = some res), xn F ≤ xn res.2.1 := by
  intro n
  induction n with
  | zero =>
    intro x2 x3 x4 x5 x6 x7 F G hm
    exact no_elim (show (none : PR) = some res from hm)
  | succ n ih =>
    intro x2 x3 x4 x5 x6 x7 F G hm
    exact cn_X3_call_74 fu rc hrn (cl_X3_call_74 fu rc n) (fun x2 x3 x4 x5 x6 x7 F G hm => ih x2 x3 x4 x5 x6 x7 F G hm) x2 x3 x4 x5 x6 x7 F G hm
theorem cwl_X3_call_74 (fu : Nat) (rc : RC) {dd : Nat} (hr : cH1 l v a rc dd) (hrn : ∀ (i : Nat) (x y : Int32) (F : PF) (G : PG) (q : Int32 × PF × PG), rc i x y F G = some q → xn F ≤ xn q.2.1) {res : Int32 × PF × PG} (C : cMC p R s m args c A v RX3 cX3_call 10 (dd + 1 + 2) (60 * (dd + 1) + 49) (xn res.2.1 - xn K0)) (hret : ∀ (b1 : Nat) (H1 : Heap) (locs1 : List Loc) (ls1 : Array Slot) (pc : Nat), cMW s A v a b1 K0 res.2.1 res.2.2 H1 locs1 → decode cX3_call pc = .ok (.return_, 1) → W p l e R s m args below meth c H1 locs1 (xn res.2.1 - xn K0) (2 * (xn res.2.1 - xn K0)) Q (F0 m pc ls1 [])) : ∀ (n : Nat) (x2 : Int32) (x3 : Int32) (x4 : Int32) (x5 : Int32) (x6 : Int32) (x7 : Int32) (F : PF) (G : PG) (hm : cl_X3_call_74 fu rc n x2 x3 x4 x5 x6 x7 F G = some res) {b : Nat} {H : Heap} {locs : List Loc} (hw : cMW s A v a b K0 F G H locs) {ls : Array Slot} (hl : lv_has ls 10 [(0, .ref (a 203)), (2, .int x2), (3, .int x3), (4, .int x4), (5, .int x5), (6, .int x6), (7, .int x7)]), W p l e R s m args below meth c H locs (xn F - xn K0) (2 * (xn F - xn K0)) Q (F0 m 74 ls []) := by
  intro n
  induction n with
  | zero =>
    intro x2 x3 x4 x5 x6 x7 F G hm
    exact no_elim (show (none : PR) = some res from hm)
  | succ n ih =>
    intro x2 x3 x4 x5 x6 x7 F G hm b H locs hw ls hl
    exact cw_X3_call_74 fu rc hr hrn C hret (cl_X3_call_74 fu rc n) (fun x2 x3 x4 x5 x6 x7 F G hm b H locs ls hw hl => ih x2 x3 x4 x5 x6 x7 F G hm hw hl) (fun x2 x3 x4 x5 x6 x7 F G hm => cnl_X3_call_74 fu rc hrn n x2 x3 x4 x5 x6 x7 F G hm) x2 x3 x4 x5 x6 x7 F G hm hw hl
theorem cn_X3_call_69 (fu : Nat) (rc : RC) (hrn : ∀ (i : Nat) (x y : Int32) (F : PF) (G : PG) (q : Int32 × PF × PG), rc i x y F G = some q → xn F ≤ xn q.2.1) {res : Int32 × PF × PG} (x2 : Int32) (x3 : Int32) (x4 : Int32) (x5 : Int32) (z0 : Int32) (F : PF) (G : PG) (hm : cb_X3_call_69 fu rc x2 x3 x4 x5 z0 F G = some res) : xn F ≤ xn res.2.1 := by
  unfold cb_X3_call_69 at hm
  exact (cnl_X3_call_74 fu rc hrn fu x2 x3 x4 x5 z0 0 F G hm)
theorem cw_X3_call_69 (fu : Nat) (rc : RC) {dd : Nat} (hr : cH1 l v a rc dd) (hrn : ∀ (i : Nat) (x y : Int32) (F : PF) (G : PG) (q : Int32 × PF × PG), rc i x y F G = some q → xn F ≤ xn q.2.1) {res : Int32 × PF × PG} (C : cMC p R s m args c A v RX3 cX3_call 10 (dd + 1 + 2) (60 * (dd + 1) + 49) (xn res.2.1 - xn K0)) (hret : ∀ (b1 : Nat) (H1 : Heap) (locs1 : List Loc) (ls1 : Array Slot) (pc : Nat), cMW s A v a b1 K0 res.2.1 res.2.2 H1 locs1 → decode cX3_call pc = .ok (.return_, 1) → W p l e R s m args below meth c H1 locs1 (xn res.2.1 - xn K0) (2 * (xn res.2.1 - xn K0)) Q (F0 m pc ls1 [])) (x2 : Int32) (x3 : Int32) (x4 : Int32) (x5 : Int32) (z0 : Int32) (F : PF) (G : PG) (hm : cb_X3_call_69 fu rc x2 x3 x4 x5 z0 F G = some res) {b : Nat} {H : Heap} {locs : List Loc} (hw : cMW s A v a b K0 F G H locs) {ls : Array Slot} (hl : lv_has ls 10 [(0, .ref (a 203)), (2, .int x2), (3, .int x3), (4, .int x4), (5, .int x5)]) : W p l e R s m args below meth c H locs (xn F - xn K0) (2 * (xn F - xn K0)) Q (F0 m 69 ls [.int z0]) := by
  have hx := C.1
  have hb := C.2.1
  unfold cb_X3_call_69 at hm
  refine lv_istore (lv' := [(6, .int z0), (0, .ref (a 203)), (2, .int x2), (3, .int x3), (4, .int x4), (5, .int x5)]) hx hb dX3_call_69 hl (by decide) rfl (fun ls hl => ?_)
  refine lv_iconst (v := 0) hx hb dX3_call_71 (by decide) ?_
  refine lv_istore (lv' := [(7, .int 0), (6, .int z0), (0, .ref (a 203)), (2, .int x2), (3, .int x3), (4, .int x4), (5, .int x5)]) hx hb dX3_call_72 hl (by decide) rfl (fun ls hl => ?_)
  exact cwl_X3_call_74 fu rc hr hrn C hret fu x2 x3 x4 x5 z0 0 F G hm hw (lv_sub hl [2, 3, 4, 5, 6, 1, 0] rfl)
theorem cn_X3_call_68 (fu : Nat) (rc : RC) (hrn : ∀ (i : Nat) (x y : Int32) (F : PF) (G : PG) (q : Int32 × PF × PG), rc i x y F G = some q → xn F ≤ xn q.2.1) {res : Int32 × PF × PG} (x2 : Int32) (x3 : Int32) (x4 : Int32) (x5 : Int32) (F : PF) (G : PG) (hm : cb_X3_call_68 fu rc x2 x3 x4 x5 F G = some res) : xn F ≤ xn res.2.1 := by
  unfold cb_X3_call_68 at hm
  exact (cn_X3_call_69 fu rc hrn x2 x3 x4 x5 0 F G hm)
theorem cw_X3_call_68 (fu : Nat) (rc : RC) {dd : Nat} (hr : cH1 l v a rc dd) (hrn : ∀ (i : Nat) (x y : Int32) (F : PF) (G : PG) (q : Int32 × PF × PG), rc i x y F G = some q → xn F ≤ xn q.2.1) {res : Int32 × PF × PG} (C : cMC p R s m args c A v RX3 cX3_call 10 (dd + 1 + 2) (60 * (dd + 1) + 49) (xn res.2.1 - xn K0)) (hret : ∀ (b1 : Nat) (H1 : Heap) (locs1 : List Loc) (ls1 : Array Slot) (pc : Nat), cMW s A v a b1 K0 res.2.1 res.2.2 H1 locs1 → decode cX3_call pc = .ok (.return_, 1) → W p l e R s m args below meth c H1 locs1 (xn res.2.1 - xn K0) (2 * (xn res.2.1 - xn K0)) Q (F0 m pc ls1 [])) (x2 : Int32) (x3 : Int32) (x4 : Int32) (x5 : Int32) (F : PF) (G : PG) (hm : cb_X3_call_68 fu rc x2 x3 x4 x5 F G = some res) {b : Nat} {H : Heap} {locs : List Loc} (hw : cMW s A v a b K0 F G H locs) {ls : Array Slot} (hl : lv_has ls 10 [(0, .ref (a 203)), (2, .int x2), (3, .int x3), (4, .int x4), (5, .int x5)]) : W p l e R s m args below meth c H locs (xn F - xn K0) (2 * (xn F - xn K0)) Q (F0 m 68 ls []) := by
  have hx := C.1
  have hb := C.2.1
  unfold cb_X3_call_68 at hm
  refine lv_iconst (v := 0) hx hb dX3_call_68 (by decide) ?_
  exact cw_X3_call_69 fu rc hr hrn C hret x2 x3 x4 x5 0 F G hm hw (lv_sub hl [0, 1, 2, 3, 4] rfl)
theorem cn_X3_call_64 (fu : Nat) (rc : RC) (hrn : ∀ (i : Nat) (x y : Int32) (F : PF) (G : PG) (q : Int32 × PF × PG), rc i x y F G = some q → xn F ≤ xn q.2.1) {res : Int32 × PF × PG} (x2 : Int32) (x3 : Int32) (x4 : Int32) (x5 : Int32) (F : PF) (G : PG) (hm : cb_X3_call_64 fu rc x2 x3 x4 x5 F G = some res) : xn F ≤ xn res.2.1 := by
  unfold cb_X3_call_64 at hm
  exact (cn_X3_call_69 fu rc hrn x2 x3 x4 x5 1 F G hm)
theorem cw_X3_call_64 (fu : Nat) (rc : RC) {dd : Nat} (hr : cH1 l v a rc dd) (hrn : ∀ (i : Nat) (x y : Int32) (F : PF) (G : PG) (q : Int32 × PF × PG), rc i x y F G = some q → xn F ≤ xn q.2.1) {res : Int32 × PF × PG} (C : cMC p R s m args c A v RX3 cX3_call 10 (dd + 1 + 2) (60 * (dd + 1) + 49) (xn res.2.1 - xn K0)) (hret : ∀ (b1 : Nat) (H1 : Heap) (locs1 : List Loc) (ls1 : Array Slot) (pc : Nat), cMW s A v a b1 K0 res.2.1 res.2.2 H1 locs1 → decode cX3_call pc = .ok (.return_, 1) → W p l e R s m args below meth c H1 locs1 (xn res.2.1 - xn K0) (2 * (xn res.2.1 - xn K0)) Q (F0 m pc ls1 [])) (x2 : Int32) (x3 : Int32) (x4 : Int32) (x5 : Int32) (F : PF) (G : PG) (hm : cb_X3_call_64 fu rc x2 x3 x4 x5 F G = some res) {b : Nat} {H : Heap} {locs : List Loc} (hw : cMW s A v a b K0 F G H locs) {ls : Array Slot} (hl : lv_has ls 10 [(0, .ref (a 203)), (2, .int x2), (3, .int x3), (4, .int x4), (5, .int x5)]) : W p l e R s m args below meth c H locs (xn F - xn K0) (2 * (xn F - xn K0)) Q (F0 m 64 ls []) := by
  have hx := C.1
  have hb := C.2.1
  unfold cb_X3_call_64 at hm
  refine lv_iconst (v := 1) hx hb dX3_call_64 (by decide) ?_
  refine lv_goto (tgt := 69) hx hb dX3_call_65 (by decide) ?_
  exact cw_X3_call_69 fu rc hr hrn C hret x2 x3 x4 x5 1 F G hm hw (lv_sub hl [0, 1, 2, 3, 4] rfl)
theorem cn_X3_call_49 (fu : Nat) (rc : RC) (hrn : ∀ (i : Nat) (x y : Int32) (F : PF) (G : PG) (q : Int32 × PF × PG), rc i x y F G = some q → xn F ≤ xn q.2.1) {res : Int32 × PF × PG} (x2 : Int32) (x3 : Int32) (x4 : Int32) (F : PF) (G : PG) (hm : cb_X3_call_49 fu rc x2 x3 x4 F G = some res) : xn F ≤ xn res.2.1 := by
  unfold cb_X3_call_49 at hm
  by_cases c_1 : (F 11) = (20 : Int32)
  · have hm := (if_pos c_1).symm.trans hm
    exact (cn_X3_call_68 fu rc hrn x2 x3 x4 0 F G hm)
  · have hm := (if_neg c_1).symm.trans hm
    exact (cn_X3_call_64 fu rc hrn x2 x3 x4 0 F G hm)
theorem cw_X3_call_49 (fu : Nat) (rc : RC) {dd : Nat} (hr : cH1 l v a rc dd) (hrn : ∀ (i : Nat) (x y : Int32) (F : PF) (G : PG) (q : Int32 × PF × PG), rc i x y F G = some q → xn F ≤ xn q.2.1) {res : Int32 × PF × PG} (C : cMC p R s m args c A v RX3 cX3_call 10 (dd + 1 + 2) (60 * (dd + 1) + 49) (xn res.2.1 - xn K0)) (hret : ∀ (b1 : Nat) (H1 : Heap) (locs1 : List Loc) (ls1 : Array Slot) (pc : Nat), cMW s A v a b1 K0 res.2.1 res.2.2 H1 locs1 → decode cX3_call pc = .ok (.return_, 1) → W p l e R s m args below meth c H1 locs1 (xn res.2.1 - xn K0) (2 * (xn res.2.1 - xn K0)) Q (F0 m pc ls1 [])) (x2 : Int32) (x3 : Int32) (x4 : Int32) (F : PF) (G : PG) (hm : cb_X3_call_49 fu rc x2 x3 x4 F G = some res) {b : Nat} {H : Heap} {locs : List Loc} (hw : cMW s A v a b K0 F G H locs) {ls : Array Slot} (hl : lv_has ls 10 [(0, .ref (a 203)), (2, .int x2), (3, .int x3), (4, .int x4)]) : W p l e R s m args below meth c H locs (xn F - xn K0) (2 * (xn F - xn K0)) Q (F0 m 49 ls []) := by
  have hx := C.1
  have hb := C.2.1
  unfold cb_X3_call_49 at hm
  refine lv_iconst (v := 0) hx hb dX3_call_49 (by decide) ?_
  refine lv_istore (lv' := [(5, .int 0), (0, .ref (a 203)), (2, .int x2), (3, .int x3), (4, .int x4)]) hx hb dX3_call_50 hl (by decide) rfl (fun ls hl => ?_)
  refine lv_aload_n hx hb dX3_call_52 rfl (lv_at hl 1 rfl) ?_
  refine cg_X3_15 C hw dX3_call_53 ?_
  refine cg_X3_85 C hw dX3_call_56 ?_
  refine lv_bipush (v := 20) hx hb dX3_call_59 (by decide) ?_
  refine lv_icmp_eq (tgt := 68) hx hb dX3_call_61 (by decide) (fun c_1 => ?_) (fun c_1 => ?_)
  · have hm := (if_pos c_1).symm.trans hm
    exact cw_X3_call_68 fu rc hr hrn C hret x2 x3 x4 0 F G hm hw (lv_sub hl [1, 2, 3, 4, 0] rfl)
  · have hm := (if_neg c_1).symm.trans hm
    exact cw_X3_call_64 fu rc hr hrn C hret x2 x3 x4 0 F G hm hw (lv_sub hl [1, 2, 3, 4, 0] rfl)
theorem cn_X3_call_48 (fu : Nat) (rc : RC) (hrn : ∀ (i : Nat) (x y : Int32) (F : PF) (G : PG) (q : Int32 × PF × PG), rc i x y F G = some q → xn F ≤ xn q.2.1) {res : Int32 × PF × PG} (F : PF) (G : PG) (hm : cb_X3_call_48 fu rc F G = some res) : xn F ≤ xn res.2.1 := by
  unfold cb_X3_call_48 at hm
  obtain rfl := Option.some.inj hm
  exact Nat.le_refl _
theorem cw_X3_call_48 (fu : Nat) (rc : RC) {dd : Nat} (hr : cH1 l v a rc dd) (hrn : ∀ (i : Nat) (x y : Int32) (F : PF) (G : PG) (q : Int32 × PF × PG), rc i x y F G = some q → xn F ≤ xn q.2.1) {res : Int32 × PF × PG} (C : cMC p R s m args c A v RX3 cX3_call 10 (dd + 1 + 2) (60 * (dd + 1) + 49) (xn res.2.1 - xn K0)) (hret : ∀ (b1 : Nat) (H1 : Heap) (locs1 : List Loc) (ls1 : Array Slot) (pc : Nat), cMW s A v a b1 K0 res.2.1 res.2.2 H1 locs1 → decode cX3_call pc = .ok (.return_, 1) → W p l e R s m args below meth c H1 locs1 (xn res.2.1 - xn K0) (2 * (xn res.2.1 - xn K0)) Q (F0 m pc ls1 [])) (F : PF) (G : PG) (hm : cb_X3_call_48 fu rc F G = some res) {b : Nat} {H : Heap} {locs : List Loc} (hw : cMW s A v a b K0 F G H locs) {ls : Array Slot} (hl : lv_has ls 10 []) : W p l e R s m args below meth c H locs (xn F - xn K0) (2 * (xn F - xn K0)) Q (F0 m 48 ls []) := by
  have hx := C.1
  have hb := C.2.1
  unfold cb_X3_call_48 at hm
  obtain rfl := Option.some.inj hm
  exact hret _ _ _ _ _ hw dX3_call_48
theorem cn_X3_call_45 (fu : Nat) (rc : RC) (hrn : ∀ (i : Nat) (x y : Int32) (F : PF) (G : PG) (q : Int32 × PF × PG), rc i x y F G = some q → xn F ≤ xn q.2.1) {res : Int32 × PF × PG} (x2 : Int32) (x3 : Int32) (x4 : Int32) (z0 : Int32) (F : PF) (G : PG) (hm : cb_X3_call_45 fu rc x2 x3 x4 z0 F G = some res) : xn F ≤ xn res.2.1 := by
  unfold cb_X3_call_45 at hm
  by_cases c_1 : z0 = (0 : Int32)
  · have hm := (if_pos c_1).symm.trans hm
    exact (cn_X3_call_48 fu rc hrn F G hm)
  · have hm := (if_neg c_1).symm.trans hm
    exact (cn_X3_call_49 fu rc hrn x2 x3 x4 F G hm)
theorem cw_X3_call_45 (fu : Nat) (rc : RC) {dd : Nat} (hr : cH1 l v a rc dd) (hrn : ∀ (i : Nat) (x y : Int32) (F : PF) (G : PG) (q : Int32 × PF × PG), rc i x y F G = some q → xn F ≤ xn q.2.1) {res : Int32 × PF × PG} (C : cMC p R s m args c A v RX3 cX3_call 10 (dd + 1 + 2) (60 * (dd + 1) + 49) (xn res.2.1 - xn K0)) (hret : ∀ (b1 : Nat) (H1 : Heap) (locs1 : List Loc) (ls1 : Array Slot) (pc : Nat), cMW s A v a b1 K0 res.2.1 res.2.2 H1 locs1 → decode cX3_call pc = .ok (.return_, 1) → W p l e R s m args below meth c H1 locs1 (xn res.2.1 - xn K0) (2 * (xn res.2.1 - xn K0)) Q (F0 m pc ls1 [])) (x2 : Int32) (x3 : Int32) (x4 : Int32) (z0 : Int32) (F : PF) (G : PG) (hm : cb_X3_call_45 fu rc x2 x3 x4 z0 F G = some res) {b : Nat} {H : Heap} {locs : List Loc} (hw : cMW s A v a b K0 F G H locs) {ls : Array Slot} (hl : lv_has ls 10 [(0, .ref (a 203)), (2, .int x2), (3, .int x3), (4, .int x4)]) : W p l e R s m args below meth c H locs (xn F - xn K0) (2 * (xn F - xn K0)) Q (F0 m 45 ls [.int z0]) := by
  have hx := C.1
  have hb := C.2.1
  unfold cb_X3_call_45 at hm
  refine lv_if_ne (tgt := 49) hx hb dX3_call_45 (by decide) (fun c_1 => ?_) (fun c_1 => ?_)
  · have hm := (if_neg c_1).symm.trans hm
    exact cw_X3_call_49 fu rc hr hrn C hret x2 x3 x4 F G hm hw (lv_sub hl [0, 1, 2, 3] rfl)
  · have hm := (if_pos c_1).symm.trans hm
    exact cw_X3_call_48 fu rc hr hrn C hret F G hm hw (lv_sub hl [] rfl)
theorem cn_X3_call_34 (fu : Nat) (rc : RC) (hrn : ∀ (i : Nat) (x y : Int32) (F : PF) (G : PG) (q : Int32 × PF × PG), rc i x y F G = some q → xn F ≤ xn q.2.1) {res : Int32 × PF × PG} (x2 : Int32) (x3 : Int32) (z0 : Int32) (F : PF) (G : PG) (hm : cb_X3_call_34 fu rc x2 x3 z0 F G = some res) : xn F ≤ xn res.2.1 := by
  unfold cb_X3_call_34 at hm
  obtain ⟨⟨r1, F1, G1⟩, hc, hm⟩ := bind_elim hm
  exact Nat.le_trans (cn_X2_opens fu 19 F G _ hc) (cn_X3_call_45 fu rc hrn x2 x3 z0 r1 F1 G1 hm)
theorem cw_X3_call_34 (fu : Nat) (rc : RC) {dd : Nat} (hr : cH1 l v a rc dd) (hrn : ∀ (i : Nat) (x y : Int32) (F : PF) (G : PG) (q : Int32 × PF × PG), rc i x y F G = some q → xn F ≤ xn q.2.1) {res : Int32 × PF × PG} (C : cMC p R s m args c A v RX3 cX3_call 10 (dd + 1 + 2) (60 * (dd + 1) + 49) (xn res.2.1 - xn K0)) (hret : ∀ (b1 : Nat) (H1 : Heap) (locs1 : List Loc) (ls1 : Array Slot) (pc : Nat), cMW s A v a b1 K0 res.2.1 res.2.2 H1 locs1 → decode cX3_call pc = .ok (.return_, 1) → W p l e R s m args below meth c H1 locs1 (xn res.2.1 - xn K0) (2 * (xn res.2.1 - xn K0)) Q (F0 m pc ls1 [])) (x2 : Int32) (x3 : Int32) (z0 : Int32) (F : PF) (G : PG) (hm : cb_X3_call_34 fu rc x2 x3 z0 F G = some res) {b : Nat} {H : Heap} {locs : List Loc} (hw : cMW s A v a b K0 F G H locs) {ls : Array Slot} (hl : lv_has ls 10 [(0, .ref (a 203)), (2, .int x2), (3, .int x3)]) : W p l e R s m args below meth c H locs (xn F - xn K0) (2 * (xn F - xn K0)) Q (F0 m 34 ls [.int z0]) := by
  have hx := C.1
  have hb := C.2.1
  unfold cb_X3_call_34 at hm
  refine lv_istore (lv' := [(4, .int z0), (0, .ref (a 203)), (2, .int x2), (3, .int x3)]) hx hb dX3_call_34 hl (by decide) rfl (fun ls hl => ?_)
  refine lv_aload_n hx hb dX3_call_36 rfl (lv_at hl 1 rfl) ?_
  refine cg_X3_15 C hw dX3_call_37 ?_
  refine lv_bipush (v := 19) hx hb dX3_call_40 (by decide) ?_
  obtain ⟨⟨r1, F1, G1⟩, hc, hm⟩ := bind_elim hm
  refine ccallI (n := 1) (As := [.int 19]) (rest := []) C hw (ck_X2_opens l v a _ _ fu 19 F G r1 F1 G1 hc) (cn_X2_opens fu 19 F G _ hc) (Nat.sub_le_sub_right (cn_X3_call_45 fu rc hrn x2 x3 z0 r1 F1 G1 hm) _) (crecv_X2 C hw) cm_362 cm_363 cm_364 cm_307 cm_365 (by decide +kernel) rfl (by omega) (by omega) hl.1 rfl (Nat.le_of_ble_eq_true rfl) dX3_call_42 (fun b H locs hw => ?_)
  exact cw_X3_call_45 fu rc hr hrn C hret x2 x3 z0 r1 F1 G1 hm hw (lv_sub hl [1, 2, 3, 0] rfl)
theorem cn_X3_call_33 (fu : Nat) (rc : RC) (hrn : ∀ (i : Nat) (x y : Int32) (F : PF) (G : PG) (q : Int32 × PF × PG), rc i x y F G = some q → xn F ≤ xn q.2.1) {res : Int32 × PF × PG} (x2 : Int32) (x3 : Int32) (F : PF) (G : PG) (hm : cb_X3_call_33 fu rc x2 x3 F G = some res) : xn F ≤ xn res.2.1 := by
  unfold cb_X3_call_33 at hm
  exact (cn_X3_call_34 fu rc hrn x2 x3 (-1) F G hm)
theorem cw_X3_call_33 (fu : Nat) (rc : RC) {dd : Nat} (hr : cH1 l v a rc dd) (hrn : ∀ (i : Nat) (x y : Int32) (F : PF) (G : PG) (q : Int32 × PF × PG), rc i x y F G = some q → xn F ≤ xn q.2.1) {res : Int32 × PF × PG} (C : cMC p R s m args c A v RX3 cX3_call 10 (dd + 1 + 2) (60 * (dd + 1) + 49) (xn res.2.1 - xn K0)) (hret : ∀ (b1 : Nat) (H1 : Heap) (locs1 : List Loc) (ls1 : Array Slot) (pc : Nat), cMW s A v a b1 K0 res.2.1 res.2.2 H1 locs1 → decode cX3_call pc = .ok (.return_, 1) → W p l e R s m args below meth c H1 locs1 (xn res.2.1 - xn K0) (2 * (xn res.2.1 - xn K0)) Q (F0 m pc ls1 [])) (x2 : Int32) (x3 : Int32) (F : PF) (G : PG) (hm : cb_X3_call_33 fu rc x2 x3 F G = some res) {b : Nat} {H : Heap} {locs : List Loc} (hw : cMW s A v a b K0 F G H locs) {ls : Array Slot} (hl : lv_has ls 10 [(0, .ref (a 203)), (2, .int x2), (3, .int x3)]) : W p l e R s m args below meth c H locs (xn F - xn K0) (2 * (xn F - xn K0)) Q (F0 m 33 ls []) := by
  have hx := C.1
  have hb := C.2.1
  unfold cb_X3_call_33 at hm
  refine lv_iconst (v := (-1)) hx hb dX3_call_33 (by decide) ?_
  exact cw_X3_call_34 fu rc hr hrn C hret x2 x3 (-1) F G hm hw (lv_sub hl [0, 1, 2] rfl)
theorem cn_X3_call_30 (fu : Nat) (rc : RC) (hrn : ∀ (i : Nat) (x y : Int32) (F : PF) (G : PG) (q : Int32 × PF × PG), rc i x y F G = some q → xn F ≤ xn q.2.1) {res : Int32 × PF × PG} (x2 : Int32) (x3 : Int32) (z0 : Int32) (F : PF) (G : PG) (hm : cb_X3_call_30 fu rc x2 x3 z0 F G = some res) : xn F ≤ xn res.2.1 := by
  unfold cb_X3_call_30 at hm
  exact (cn_X3_call_34 fu rc hrn x2 x3 z0 F G hm)
theorem cw_X3_call_30 (fu : Nat) (rc : RC) {dd : Nat} (hr : cH1 l v a rc dd) (hrn : ∀ (i : Nat) (x y : Int32) (F : PF) (G : PG) (q : Int32 × PF × PG), rc i x y F G = some q → xn F ≤ xn q.2.1) {res : Int32 × PF × PG} (C : cMC p R s m args c A v RX3 cX3_call 10 (dd + 1 + 2) (60 * (dd + 1) + 49) (xn res.2.1 - xn K0)) (hret : ∀ (b1 : Nat) (H1 : Heap) (locs1 : List Loc) (ls1 : Array Slot) (pc : Nat), cMW s A v a b1 K0 res.2.1 res.2.2 H1 locs1 → decode cX3_call pc = .ok (.return_, 1) → W p l e R s m args below meth c H1 locs1 (xn res.2.1 - xn K0) (2 * (xn res.2.1 - xn K0)) Q (F0 m pc ls1 [])) (x2 : Int32) (x3 : Int32) (z0 : Int32) (F : PF) (G : PG) (hm : cb_X3_call_30 fu rc x2 x3 z0 F G = some res) {b : Nat} {H : Heap} {locs : List Loc} (hw : cMW s A v a b K0 F G H locs) {ls : Array Slot} (hl : lv_has ls 10 [(0, .ref (a 203)), (2, .int x2), (3, .int x3)]) : W p l e R s m args below meth c H locs (xn F - xn K0) (2 * (xn F - xn K0)) Q (F0 m 30 ls [.int z0]) := by
  have hx := C.1
  have hb := C.2.1
  unfold cb_X3_call_30 at hm
  refine lv_goto (tgt := 34) hx hb dX3_call_30 (by decide) ?_
  exact cw_X3_call_34 fu rc hr hrn C hret x2 x3 z0 F G hm hw (lv_sub hl [0, 1, 2] rfl)
theorem cn_X3_call_22 (fu : Nat) (rc : RC) (hrn : ∀ (i : Nat) (x y : Int32) (F : PF) (G : PG) (q : Int32 × PF × PG), rc i x y F G = some q → xn F ≤ xn q.2.1) {res : Int32 × PF × PG} (x1 : Int32) (x2 : Int32) (x3 : Int32) (F : PF) (G : PG) (hm : cb_X3_call_22 fu rc x1 x2 x3 F G = some res) : xn F ≤ xn res.2.1 := by
  unfold cb_X3_call_22 at hm
  obtain ⟨⟨r1, F1, G1⟩, hc, hm⟩ := bind_elim hm
  exact Nat.le_trans (cn_X5_value fu x1 F G _ hc) (cn_X3_call_30 fu rc hrn x2 x3 r1 F1 G1 hm)
theorem cw_X3_call_22 (fu : Nat) (rc : RC) {dd : Nat} (hr : cH1 l v a rc dd) (hrn : ∀ (i : Nat) (x y : Int32) (F : PF) (G : PG) (q : Int32 × PF × PG), rc i x y F G = some q → xn F ≤ xn q.2.1) {res : Int32 × PF × PG} (C : cMC p R s m args c A v RX3 cX3_call 10 (dd + 1 + 2) (60 * (dd + 1) + 49) (xn res.2.1 - xn K0)) (hret : ∀ (b1 : Nat) (H1 : Heap) (locs1 : List Loc) (ls1 : Array Slot) (pc : Nat), cMW s A v a b1 K0 res.2.1 res.2.2 H1 locs1 → decode cX3_call pc = .ok (.return_, 1) → W p l e R s m args below meth c H1 locs1 (xn res.2.1 - xn K0) (2 * (xn res.2.1 - xn K0)) Q (F0 m pc ls1 [])) (x1 : Int32) (x2 : Int32) (x3 : Int32) (F : PF) (G : PG) (hm : cb_X3_call_22 fu rc x1 x2 x3 F G = some res) {b : Nat} {H : Heap} {locs : List Loc} (hw : cMW s A v a b K0 F G H locs) {ls : Array Slot} (hl : lv_has ls 10 [(0, .ref (a 203)), (1, .int x1), (2, .int x2), (3, .int x3)]) : W p l e R s m args below meth c H locs (xn F - xn K0) (2 * (xn F - xn K0)) Q (F0 m 22 ls []) := by
  have hx := C.1
  have hb := C.2.1
  unfold cb_X3_call_22 at hm
  refine lv_aload_n hx hb dX3_call_22 rfl (lv_at hl 0 rfl) ?_
  refine cg_X3_19 C hw dX3_call_23 ?_
  refine lv_iload_n hx hb dX3_call_26 rfl (lv_at hl 1 rfl) ?_
  obtain ⟨⟨r1, F1, G1⟩, hc, hm⟩ := bind_elim hm
  refine ccallI (n := 1) (As := [.int x1]) (rest := []) C hw (ck_X5_value l v a _ _ fu x1 F G r1 F1 G1 hc) (cn_X5_value fu x1 F G _ hc) (Nat.sub_le_sub_right (cn_X3_call_30 fu rc hrn x2 x3 r1 F1 G1 hm) _) (crecv_X5 C hw) cm_392 cm_393 cm_394 cm_266 cm_395 (by decide +kernel) rfl (by omega) (by omega) hl.1 rfl (Nat.le_of_ble_eq_true rfl) dX3_call_27 (fun b H locs hw => ?_)
  exact cw_X3_call_30 fu rc hr hrn C hret x2 x3 r1 F1 G1 hm hw (lv_sub hl [0, 2, 3] rfl)
theorem cn_X3_call_17 (fu : Nat) (rc : RC) (hrn : ∀ (i : Nat) (x y : Int32) (F : PF) (G : PG) (q : Int32 × PF × PG), rc i x y F G = some q → xn F ≤ xn q.2.1) {res : Int32 × PF × PG} (x1 : Int32) (x2 : Int32) (z0 : Int32) (F : PF) (G : PG) (hm : cb_X3_call_17 fu rc x1 x2 z0 F G = some res) : xn F ≤ xn res.2.1 := by
  unfold cb_X3_call_17 at hm
  by_cases c_1 : z0 = (0 : Int32)
  · have hm := (if_pos c_1).symm.trans hm
    exact (cn_X3_call_33 fu rc hrn x2 z0 F G hm)
  · have hm := (if_neg c_1).symm.trans hm
    exact (cn_X3_call_22 fu rc hrn x1 x2 z0 F G hm)
theorem cw_X3_call_17 (fu : Nat) (rc : RC) {dd : Nat} (hr : cH1 l v a rc dd) (hrn : ∀ (i : Nat) (x y : Int32) (F : PF) (G : PG) (q : Int32 × PF × PG), rc i x y F G = some q → xn F ≤ xn q.2.1) {res : Int32 × PF × PG} (C : cMC p R s m args c A v RX3 cX3_call 10 (dd + 1 + 2) (60 * (dd + 1) + 49) (xn res.2.1 - xn K0)) (hret : ∀ (b1 : Nat) (H1 : Heap) (locs1 : List Loc) (ls1 : Array Slot) (pc : Nat), cMW s A v a b1 K0 res.2.1 res.2.2 H1 locs1 → decode cX3_call pc = .ok (.return_, 1) → W p l e R s m args below meth c H1 locs1 (xn res.2.1 - xn K0) (2 * (xn res.2.1 - xn K0)) Q (F0 m pc ls1 [])) (x1 : Int32) (x2 : Int32) (z0 : Int32) (F : PF) (G : PG) (hm : cb_X3_call_17 fu rc x1 x2 z0 F G = some res) {b : Nat} {H : Heap} {locs : List Loc} (hw : cMW s A v a b K0 F G H locs) {ls : Array Slot} (hl : lv_has ls 10 [(0, .ref (a 203)), (1, .int x1), (2, .int x2)]) : W p l e R s m args below meth c H locs (xn F - xn K0) (2 * (xn F - xn K0)) Q (F0 m 17 ls [.int z0]) := by
  have hx := C.1
  have hb := C.2.1
  unfold cb_X3_call_17 at hm
  refine lv_istore_n (lv' := [(3, .int z0), (0, .ref (a 203)), (1, .int x1), (2, .int x2)]) hx hb dX3_call_17 rfl hl (by decide) rfl (fun ls hl => ?_)
  refine lv_iload_n hx hb dX3_call_18 rfl (lv_at hl 0 rfl) ?_
  refine lv_if_eq (tgt := 33) hx hb dX3_call_19 (by decide) (fun c_1 => ?_) (fun c_1 => ?_)
  · have hm := (if_pos c_1).symm.trans hm
    exact cw_X3_call_33 fu rc hr hrn C hret x2 z0 F G hm hw (lv_sub hl [1, 3, 0] rfl)
  · have hm := (if_neg c_1).symm.trans hm
    exact cw_X3_call_22 fu rc hr hrn C hret x1 x2 z0 F G hm hw (lv_sub hl [1, 2, 3, 0] rfl)
theorem cn_X3_call_16 (fu : Nat) (rc : RC) (hrn : ∀ (i : Nat) (x y : Int32) (F : PF) (G : PG) (q : Int32 × PF × PG), rc i x y F G = some q → xn F ≤ xn q.2.1) {res : Int32 × PF × PG} (x1 : Int32) (x2 : Int32) (F : PF) (G : PG) (hm : cb_X3_call_16 fu rc x1 x2 F G = some res) : xn F ≤ xn res.2.1 := by
  unfold cb_X3_call_16 at hm
  exact (cn_X3_call_17 fu rc hrn x1 x2 0 F G hm)
theorem cw_X3_call_16 (fu : Nat) (rc : RC) {dd : Nat} (hr : cH1 l v a rc dd) (hrn : ∀ (i : Nat) (x y : Int32) (F : PF) (G : PG) (q : Int32 × PF × PG), rc i x y F G = some q → xn F ≤ xn q.2.1) {res : Int32 × PF × PG} (C : cMC p R s m args c A v RX3 cX3_call 10 (dd + 1 + 2) (60 * (dd + 1) + 49) (xn res.2.1 - xn K0)) (hret : ∀ (b1 : Nat) (H1 : Heap) (locs1 : List Loc) (ls1 : Array Slot) (pc : Nat), cMW s A v a b1 K0 res.2.1 res.2.2 H1 locs1 → decode cX3_call pc = .ok (.return_, 1) → W p l e R s m args below meth c H1 locs1 (xn res.2.1 - xn K0) (2 * (xn res.2.1 - xn K0)) Q (F0 m pc ls1 [])) (x1 : Int32) (x2 : Int32) (F : PF) (G : PG) (hm : cb_X3_call_16 fu rc x1 x2 F G = some res) {b : Nat} {H : Heap} {locs : List Loc} (hw : cMW s A v a b K0 F G H locs) {ls : Array Slot} (hl : lv_has ls 10 [(0, .ref (a 203)), (1, .int x1), (2, .int x2)]) : W p l e R s m args below meth c H locs (xn F - xn K0) (2 * (xn F - xn K0)) Q (F0 m 16 ls []) := by
  have hx := C.1
  have hb := C.2.1
  unfold cb_X3_call_16 at hm
  refine lv_iconst (v := 0) hx hb dX3_call_16 (by decide) ?_
  exact cw_X3_call_17 fu rc hr hrn C hret x1 x2 0 F G hm hw (lv_sub hl [0, 1, 2] rfl)
theorem cn_X3_call_12 (fu : Nat) (rc : RC) (hrn : ∀ (i : Nat) (x y : Int32) (F : PF) (G : PG) (q : Int32 × PF × PG), rc i x y F G = some q → xn F ≤ xn q.2.1) {res : Int32 × PF × PG} (x1 : Int32) (x2 : Int32) (F : PF) (G : PG) (hm : cb_X3_call_12 fu rc x1 x2 F G = some res) : xn F ≤ xn res.2.1 := by
  unfold cb_X3_call_12 at hm
  exact (cn_X3_call_17 fu rc hrn x1 x2 1 F G hm)
theorem cw_X3_call_12 (fu : Nat) (rc : RC) {dd : Nat} (hr : cH1 l v a rc dd) (hrn : ∀ (i : Nat) (x y : Int32) (F : PF) (G : PG) (q : Int32 × PF × PG), rc i x y F G = some q → xn F ≤ xn q.2.1) {res : Int32 × PF × PG} (C : cMC p R s m args c A v RX3 cX3_call 10 (dd + 1 + 2) (60 * (dd + 1) + 49) (xn res.2.1 - xn K0)) (hret : ∀ (b1 : Nat) (H1 : Heap) (locs1 : List Loc) (ls1 : Array Slot) (pc : Nat), cMW s A v a b1 K0 res.2.1 res.2.2 H1 locs1 → decode cX3_call pc = .ok (.return_, 1) → W p l e R s m args below meth c H1 locs1 (xn res.2.1 - xn K0) (2 * (xn res.2.1 - xn K0)) Q (F0 m pc ls1 [])) (x1 : Int32) (x2 : Int32) (F : PF) (G : PG) (hm : cb_X3_call_12 fu rc x1 x2 F G = some res) {b : Nat} {H : Heap} {locs : List Loc} (hw : cMW s A v a b K0 F G H locs) {ls : Array Slot} (hl : lv_has ls 10 [(0, .ref (a 203)), (1, .int x1), (2, .int x2)]) : W p l e R s m args below meth c H locs (xn F - xn K0) (2 * (xn F - xn K0)) Q (F0 m 12 ls []) := by
  have hx := C.1
  have hb := C.2.1
  unfold cb_X3_call_12 at hm
  refine lv_iconst (v := 1) hx hb dX3_call_12 (by decide) ?_
  refine lv_goto (tgt := 17) hx hb dX3_call_13 (by decide) ?_
  exact cw_X3_call_17 fu rc hr hrn C hret x1 x2 1 F G hm hw (lv_sub hl [0, 1, 2] rfl)
theorem cn_X3_call_8 (fu : Nat) (rc : RC) (hrn : ∀ (i : Nat) (x y : Int32) (F : PF) (G : PG) (q : Int32 × PF × PG), rc i x y F G = some q → xn F ≤ xn q.2.1) {res : Int32 × PF × PG} (x1 : Int32) (x2 : Int32) (z0 : Int32) (F : PF) (G : PG) (hm : cb_X3_call_8 fu rc x1 x2 z0 F G = some res) : xn F ≤ xn res.2.1 := by
  unfold cb_X3_call_8 at hm
  by_cases c_1 : z0 = (4 : Int32)
  · have hm := (if_pos c_1).symm.trans hm
    exact (cn_X3_call_12 fu rc hrn x1 x2 F G hm)
  · have hm := (if_neg c_1).symm.trans hm
    exact (cn_X3_call_16 fu rc hrn x1 x2 F G hm)
theorem cw_X3_call_8 (fu : Nat) (rc : RC) {dd : Nat} (hr : cH1 l v a rc dd) (hrn : ∀ (i : Nat) (x y : Int32) (F : PF) (G : PG) (q : Int32 × PF × PG), rc i x y F G = some q → xn F ≤ xn q.2.1) {res : Int32 × PF × PG} (C : cMC p R s m args c A v RX3 cX3_call 10 (dd + 1 + 2) (60 * (dd + 1) + 49) (xn res.2.1 - xn K0)) (hret : ∀ (b1 : Nat) (H1 : Heap) (locs1 : List Loc) (ls1 : Array Slot) (pc : Nat), cMW s A v a b1 K0 res.2.1 res.2.2 H1 locs1 → decode cX3_call pc = .ok (.return_, 1) → W p l e R s m args below meth c H1 locs1 (xn res.2.1 - xn K0) (2 * (xn res.2.1 - xn K0)) Q (F0 m pc ls1 [])) (x1 : Int32) (x2 : Int32) (z0 : Int32) (F : PF) (G : PG) (hm : cb_X3_call_8 fu rc x1 x2 z0 F G = some res) {b : Nat} {H : Heap} {locs : List Loc} (hw : cMW s A v a b K0 F G H locs) {ls : Array Slot} (hl : lv_has ls 10 [(0, .ref (a 203)), (1, .int x1), (2, .int x2)]) : W p l e R s m args below meth c H locs (xn F - xn K0) (2 * (xn F - xn K0)) Q (F0 m 8 ls [.int z0]) := by
  have hx := C.1
  have hb := C.2.1
  unfold cb_X3_call_8 at hm
  refine lv_iconst (v := 4) hx hb dX3_call_8 (by decide) ?_
  refine lv_icmp_ne (tgt := 16) hx hb dX3_call_9 (by decide) (fun c_1 => ?_) (fun c_1 => ?_)
  · have hm := (if_neg c_1).symm.trans hm
    exact cw_X3_call_16 fu rc hr hrn C hret x1 x2 F G hm hw (lv_sub hl [0, 1, 2] rfl)
  · have hm := (if_pos c_1).symm.trans hm
    exact cw_X3_call_12 fu rc hr hrn C hret x1 x2 F G hm hw (lv_sub hl [0, 1, 2] rfl)
theorem cn_X3_call_0 (fu : Nat) (rc : RC) (hrn : ∀ (i : Nat) (x y : Int32) (F : PF) (G : PG) (q : Int32 × PF × PG), rc i x y F G = some q → xn F ≤ xn q.2.1) {res : Int32 × PF × PG} (x1 : Int32) (x2 : Int32) (F : PF) (G : PG) (hm : cb_X3_call_0 fu rc x1 x2 F G = some res) : xn F ≤ xn res.2.1 := by
  unfold cb_X3_call_0 at hm
  obtain ⟨⟨r1, F1, G1⟩, hc, hm⟩ := bind_elim hm
  exact Nat.le_trans (cn_X5_kind fu x1 F G _ hc) (cn_X3_call_8 fu rc hrn x1 x2 r1 F1 G1 hm)
theorem cw_X3_call_0 (fu : Nat) (rc : RC) {dd : Nat} (hr : cH1 l v a rc dd) (hrn : ∀ (i : Nat) (x y : Int32) (F : PF) (G : PG) (q : Int32 × PF × PG), rc i x y F G = some q → xn F ≤ xn q.2.1) {res : Int32 × PF × PG} (C : cMC p R s m args c A v RX3 cX3_call 10 (dd + 1 + 2) (60 * (dd + 1) + 49) (xn res.2.1 - xn K0)) (hret : ∀ (b1 : Nat) (H1 : Heap) (locs1 : List Loc) (ls1 : Array Slot) (pc : Nat), cMW s A v a b1 K0 res.2.1 res.2.2 H1 locs1 → decode cX3_call pc = .ok (.return_, 1) → W p l e R s m args below meth c H1 locs1 (xn res.2.1 - xn K0) (2 * (xn res.2.1 - xn K0)) Q (F0 m pc ls1 [])) (x1 : Int32) (x2 : Int32) (F : PF) (G : PG) (hm : cb_X3_call_0 fu rc x1 x2 F G = some res) {b : Nat} {H : Heap} {locs : List Loc} (hw : cMW s A v a b K0 F G H locs) {ls : Array Slot} (hl : lv_has ls 10 [(0, .ref (a 203)), (1, .int x1), (2, .int x2)]) : W p l e R s m args below meth c H locs (xn F - xn K0) (2 * (xn F - xn K0)) Q (F0 m 0 ls []) := by
  have hx := C.1
  have hb := C.2.1
  unfold cb_X3_call_0 at hm
  refine lv_aload_n hx hb dX3_call_0 rfl (lv_at hl 0 rfl) ?_
  refine cg_X3_19 C hw dX3_call_1 ?_
  refine lv_iload_n hx hb dX3_call_4 rfl (lv_at hl 1 rfl) ?_
  obtain ⟨⟨r1, F1, G1⟩, hc, hm⟩ := bind_elim hm
  refine ccallI (n := 1) (As := [.int x1]) (rest := []) C hw (ck_X5_kind l v a _ _ fu x1 F G r1 F1 G1 hc) (cn_X5_kind fu x1 F G _ hc) (Nat.sub_le_sub_right (cn_X3_call_8 fu rc hrn x1 x2 r1 F1 G1 hm) _) (crecv_X5 C hw) cm_387 cm_388 cm_389 cm_266 cm_390 (by decide +kernel) rfl (by omega) (by omega) hl.1 rfl (Nat.le_of_ble_eq_true rfl) dX3_call_5 (fun b H locs hw => ?_)
  exact cw_X3_call_8 fu rc hr hrn C hret x1 x2 r1 F1 G1 hm hw (lv_sub hl [0, 1, 2] rfl)
theorem cm_X3_call (fu : Nat) (rc : RC) (hrn : ∀ (i : Nat) (x y : Int32) (F : PF) (G : PG) (q : Int32 × PF × PG), rc i x y F G = some q → xn F ≤ xn q.2.1) (x1 : Int32) (x2 : Int32) (F : PF) (G : PG) (q : Int32 × PF × PG) (hm : ch_X3_call fu rc x1 x2 F G = some q) : xn F ≤ xn q.2.1 := cn_X3_call_0 fu rc hrn x1 x2 F G hm
theorem cq_X3_call (l : Launch) (v : EV) (a : Nat → Nat) (b sz : Nat) (fu : Nat) (rc : RC) {dd : Nat} (hr : cH1 l v a rc dd) (hrn : ∀ (i : Nat) (x y : Int32) (F : PF) (G : PG) (q : Int32 × PF × PG), rc i x y F G = some q → xn F ≤ xn q.2.1) (x1 : Int32) (x2 : Int32) (F : PF) (G : PG) (r : Int32) (F1 : PF) (G1 : PG) (hm : ch_X3_call fu rc x1 x2 F G = some (r, F1, G1)) : cMV l yX3_call cX3_call 10 (dd + 1 + 2) (60 * (dd + 1) + 49) v a b sz [.ref (a 203), .int x1, .int x2] F G F1 G1 := cMV.of (by decide) (Nat.le_of_ble_eq_true rfl) (fun p e R s m args below meth c Q A H locs ls C hw hl hret => cw_X3_call_0 fu rc hr hrn (res := (r, F1, G1)) C hret x1 x2 F G hm hw hl)
def cb_X3_expression_28 (fu : Nat) (rc : RC) (F : PF) (G : PG) : PR := some (0, F, G)
def cb_X3_expression_105 (fu : Nat) (rc : RC) (F : PF) (G : PG) : PR := some (0, F, G)
def cb_X3_expression_98 (fu : Nat) (rc : RC) (F : PF) (G : PG) : PR := (cf_X2_closes fu F G).bind (fun q => cb_X3_expression_105 fu rc q.2.1 q.2.2)
def cb_X3_expression_83 (fu : Nat) (rc : RC) (x2 : Int32) (F : PF) (G : PG) : PR := (cf_X1_aim fu x2 (F 6) F G).bind (fun q => cb_X3_expression_98 fu rc q.2.1 q.2.2)
def cb_X3_expression_79 (fu : Nat) (rc : RC) (x2 : Int32) (F : PF) (G : PG) : PR := (rc 1 0 0 F G).bind (fun q => cb_X3_expression_83 fu rc x2 q.2.1 q.2.2)
def cb_X3_expression_63 (fu : Nat) (rc : RC) (x1 : Int32) (z0 : Int32) (F : PF) (G : PG) : PR := (cf_X1_aim fu x1 (F 6) F G).bind (fun q => cb_X3_expression_79 fu rc z0 q.2.1 q.2.2)
def cb_X3_expression_53 (fu : Nat) (rc : RC) (x1 : Int32) (F : PF) (G : PG) : PR := (cf_X1_addJump fu 84 (-1) F G).bind (fun q => cb_X3_expression_63 fu rc x1 q.1 q.2.1 q.2.2)
def cb_X3_expression_44 (fu : Nat) (rc : RC) (x1 : Int32) (F : PF) (G : PG) : PR := (cf_X2_expect fu 28 F G).bind (fun q => cb_X3_expression_53 fu rc x1 q.2.1 q.2.2)
def cb_X3_expression_39 (fu : Nat) (rc : RC) (z0 : Int32) (F : PF) (G : PG) : PR := (rc 1 0 0 F G).bind (fun q => cb_X3_expression_44 fu rc z0 q.2.1 q.2.2)
def cb_X3_expression_29 (fu : Nat) (rc : RC) (F : PF) (G : PG) : PR := (cf_X1_addJump fu 86 (-1) F G).bind (fun q => cb_X3_expression_39 fu rc q.1 q.2.1 q.2.2)
def cb_X3_expression_25 (fu : Nat) (rc : RC) (z0 : Int32) (F : PF) (G : PG) : PR := if z0 = (0 : Int32) then cb_X3_expression_28 fu rc F G else cb_X3_expression_29 fu rc F G
def cb_X3_expression_16 (fu : Nat) (rc : RC) (F : PF) (G : PG) : PR := (cf_X2_opens fu 27 F G).bind (fun q => cb_X3_expression_25 fu rc q.1 q.2.1 q.2.2)
def cb_X3_expression_4 (fu : Nat) (rc : RC) (F : PF) (G : PG) : PR := if (F 11) = (27 : Int32) then cb_X3_expression_16 fu rc F G else cb_X3_expression_28 fu rc F G
def cb_X3_expression_0 (fu : Nat) (rc : RC) (F : PF) (G : PG) : PR := (rc 3 0 0 F G).bind (fun q => cb_X3_expression_4 fu rc q.2.1 q.2.2)
def ch_X3_expression (fu : Nat) (rc : RC) (F : PF) (G : PG) : PR := cb_X3_expression_0 fu rc F G
theorem cn_X3_expression_28 (fu : Nat) (rc : RC) (hrn : ∀ (i : Nat) (x y : Int32) (F : PF) (G : PG) (q : Int32 × PF × PG), rc i x y F G = some q → xn F ≤ xn q.2.1) {res : Int32 × PF × PG} (F : PF) (G : PG) (hm : cb_X3_expression_28 fu rc F G = some res) : xn F ≤ xn res.2.1 := by
  unfold cb_X3_expression_28 at hm
  obtain rfl := Option.some.inj hm
  exact Nat.le_refl _
theorem cw_X3_expression_28 (fu : Nat) (rc : RC) {dd : Nat} (hr : cH1 l v a rc dd) (hrn : ∀ (i : Nat) (x y : Int32) (F : PF) (G : PG) (q : Int32 × PF × PG), rc i x y F G = some q → xn F ≤ xn q.2.1) {res : Int32 × PF × PG} (C : cMC p R s m args c A v RX3 cX3_expression 3 (dd + 1 + 2) (60 * (dd + 1) + 49) (xn res.2.1 - xn K0)) (hret : ∀ (b1 : Nat) (H1 : Heap) (locs1 : List Loc) (ls1 : Array Slot) (pc : Nat), cMW s A v a b1 K0 res.2.1 res.2.2 H1 locs1 → decode cX3_expression pc = .ok (.return_, 1) → W p l e R s m args below meth c H1 locs1 (xn res.2.1 - xn K0) (2 * (xn res.2.1 - xn K0)) Q (F0 m pc ls1 [])) (F : PF) (G : PG) (hm : cb_X3_expression_28 fu rc F G = some res) {b : Nat} {H : Heap} {locs : List Loc} (hw : cMW s A v a b K0 F G H locs) {ls : Array Slot} (hl : lv_has ls 3 []) : W p l e R s m args below meth c H locs (xn F - xn K0) (2 * (xn F - xn K0)) Q (F0 m 28 ls []) := by
  have hx := C.1
  have hb := C.2.1
  unfold cb_X3_expression_28 at hm
  obtain rfl := Option.some.inj hm
  exact hret _ _ _ _ _ hw dX3_expression_28
theorem cn_X3_expression_105 (fu : Nat) (rc : RC) (hrn : ∀ (i : Nat) (x y : Int32) (F : PF) (G : PG) (q : Int32 × PF × PG), rc i x y F G = some q → xn F ≤ xn q.2.1) {res : Int32 × PF × PG} (F : PF) (G : PG) (hm : cb_X3_expression_105 fu rc F G = some res) : xn F ≤ xn res.2.1 := by
  unfold cb_X3_expression_105 at hm
  obtain rfl := Option.some.inj hm
  exact Nat.le_refl _
theorem cw_X3_expression_105 (fu : Nat) (rc : RC) {dd : Nat} (hr : cH1 l v a rc dd) (hrn : ∀ (i : Nat) (x y : Int32) (F : PF) (G : PG) (q : Int32 × PF × PG), rc i x y F G = some q → xn F ≤ xn q.2.1) {res : Int32 × PF × PG} (C : cMC p R s m args c A v RX3 cX3_expression 3 (dd + 1 + 2) (60 * (dd + 1) + 49) (xn res.2.1 - xn K0)) (hret : ∀ (b1 : Nat) (H1 : Heap) (locs1 : List Loc) (ls1 : Array Slot) (pc : Nat), cMW s A v a b1 K0 res.2.1 res.2.2 H1 locs1 → decode cX3_expression pc = .ok (.return_, 1) → W p l e R s m args below meth c H1 locs1 (xn res.2.1 - xn K0) (2 * (xn res.2.1 - xn K0)) Q (F0 m pc ls1 [])) (F : PF) (G : PG) (hm : cb_X3_expression_105 fu rc F G = some res) {b : Nat} {H : Heap} {locs : List Loc} (hw : cMW s A v a b K0 F G H locs) {ls : Array Slot} (hl : lv_has ls 3 []) : W p l e R s m args below meth c H locs (xn F - xn K0) (2 * (xn F - xn K0)) Q (F0 m 105 ls []) := by
  have hx := C.1
  have hb := C.2.1
  unfold cb_X3_expression_105 at hm
  obtain rfl := Option.some.inj hm
  exact hret _ _ _ _ _ hw dX3_expression_105
theorem cn_X3_expression_98 (fu : Nat) (rc : RC) (hrn : ∀ (i : Nat) (x y : Int32) (F : PF) (G : PG) (q : Int32 × PF × PG), rc i x y F G = some q → xn F ≤ xn q.2.1) {res : Int32 × PF × PG} (F : PF) (G : PG) (hm : cb_X3_expression_98 fu rc F G = some res) : xn F ≤ xn res.2.1 := by
  unfold cb_X3_expression_98 at hm
  obtain ⟨⟨r1, F1, G1⟩, hc, hm⟩ := bind_elim hm
  exact Nat.le_trans (cn_X2_closes fu F G _ hc) (cn_X3_expression_105 fu rc hrn F1 G1 hm)
theorem cw_X3_expression_98 (fu : Nat) (rc : RC) {dd : Nat} (hr : cH1 l v a rc dd) (hrn : ∀ (i : Nat) (x y : Int32) (F : PF) (G : PG) (q : Int32 × PF × PG), rc i x y F G = some q → xn F ≤ xn q.2.1) {res : Int32 × PF × PG} (C : cMC p R s m args c A v RX3 cX3_expression 3 (dd + 1 + 2) (60 * (dd + 1) + 49) (xn res.2.1 - xn K0)) (hret : ∀ (b1 : Nat) (H1 : Heap) (locs1 : List Loc) (ls1 : Array Slot) (pc : Nat), cMW s A v a b1 K0 res.2.1 res.2.2 H1 locs1 → decode cX3_expression pc = .ok (.return_, 1) → W p l e R s m args below meth c H1 locs1 (xn res.2.1 - xn K0) (2 * (xn res.2.1 - xn K0)) Q (F0 m pc ls1 [])) (F : PF) (G : PG) (hm : cb_X3_expression_98 fu rc F G = some res) {b : Nat} {H : Heap} {locs : List Loc} (hw : cMW s A v a b K0 F G H locs) {ls : Array Slot} (hl : lv_has ls 3 [(0, .ref (a 203))]) : W p l e R s m args below meth c H locs (xn F - xn K0) (2 * (xn F - xn K0)) Q (F0 m 98 ls []) := by
  have hx := C.1
  have hb := C.2.1
  unfold cb_X3_expression_98 at hm
  refine lv_aload_n hx hb dX3_expression_98 rfl (lv_at hl 0 rfl) ?_
  refine cg_X3_15 C hw dX3_expression_99 ?_
  obtain ⟨⟨r1, F1, G1⟩, hc, hm⟩ := bind_elim hm
  refine ccallV (n := 0) (As := []) (rest := []) C hw (ck_X2_closes l v a _ _ fu F G r1 F1 G1 hc) (cn_X2_closes fu F G _ hc) (Nat.sub_le_sub_right (cn_X3_expression_105 fu rc hrn F1 G1 hm) _) (crecv_X2 C hw) cm_379 cm_380 cm_381 cm_307 cm_382 (by decide +kernel) rfl (by omega) (by omega) hl.1 rfl (Nat.le_of_ble_eq_true rfl) dX3_expression_102 (fun b H locs hw => ?_)
  exact cw_X3_expression_105 fu rc hr hrn C hret F1 G1 hm hw (lv_sub hl [] rfl)
theorem cn_X3_expression_83 (fu : Nat) (rc : RC) (hrn : ∀ (i : Nat) (x y : Int32) (F : PF) (G : PG) (q : Int32 × PF × PG), rc i x y F G = some q → xn F ≤ xn q.2.1) {res : Int32 × PF × PG} (x2 : Int32) (F : PF) (G : PG) (hm : cb_X3_expression_83 fu rc x2 F G = some res) : xn F ≤ xn res.2.1 := by
  unfold cb_X3_expression_83 at hm
  obtain ⟨⟨r1, F1, G1⟩, hc, hm⟩ := bind_elim hm
  exact Nat.le_trans (cn_X1_aim fu x2 (F 6) F G _ hc) (cn_X3_expression_98 fu rc hrn F1 G1 hm)
theorem cw_X3_expression_83 (fu : Nat) (rc : RC) {dd : Nat} (hr : cH1 l v a rc dd) (hrn : ∀ (i : Nat) (x y : Int32) (F : PF) (G : PG) (q : Int32 × PF × PG), rc i x y F G = some q → xn F ≤ xn q.2.1) {res : Int32 × PF × PG} (C : cMC p R s m args c A v RX3 cX3_expression 3 (dd + 1 + 2) (60 * (dd + 1) + 49) (xn res.2.1 - xn K0)) (hret : ∀ (b1 : Nat) (H1 : Heap) (locs1 : List Loc) (ls1 : Array Slot) (pc : Nat), cMW s A v a b1 K0 res.2.1 res.2.2 H1 locs1 → decode cX3_expression pc = .ok (.return_, 1) → W p l e R s m args below meth c H1 locs1 (xn res.2.1 - xn K0) (2 * (xn res.2.1 - xn K0)) Q (F0 m pc ls1 [])) (x2 : Int32) (F : PF) (G : PG) (hm : cb_X3_expression_83 fu rc x2 F G = some res) {b : Nat} {H : Heap} {locs : List Loc} (hw : cMW s A v a b K0 F G H locs) {ls : Array Slot} (hl : lv_has ls 3 [(0, .ref (a 203)), (2, .int x2)]) : W p l e R s m args below meth c H locs (xn F - xn K0) (2 * (xn F - xn K0)) Q (F0 m 83 ls []) := by
  have hx := C.1
  have hb := C.2.1
  unfold cb_X3_expression_83 at hm
  refine lv_aload_n hx hb dX3_expression_83 rfl (lv_at hl 0 rfl) ?_
  refine cg_X3_23 C hw dX3_expression_84 ?_
  refine lv_iload_n hx hb dX3_expression_87 rfl (lv_at hl 1 rfl) ?_
  refine lv_aload_n hx hb dX3_expression_88 rfl (lv_at hl 0 rfl) ?_
  refine cg_X3_23 C hw dX3_expression_89 ?_
  refine cg_X3_39 C hw dX3_expression_92 ?_
  obtain ⟨⟨r1, F1, G1⟩, hc, hm⟩ := bind_elim hm
  refine ccallV (n := 2) (As := [.int x2, .int (F 6)]) (rest := []) C hw (ck_X1_aim l v a _ _ fu x2 (F 6) F G r1 F1 G1 hc) (cn_X1_aim fu x2 (F 6) F G _ hc) (Nat.sub_le_sub_right (cn_X3_expression_98 fu rc hrn F1 G1 hm) _) (crecv_X1 C hw) cm_375 cm_376 cm_377 cm_369 cm_378 (by decide +kernel) rfl (by omega) (by omega) hl.1 rfl (Nat.le_of_ble_eq_true rfl) dX3_expression_95 (fun b H locs hw => ?_)
  exact cw_X3_expression_98 fu rc hr hrn C hret F1 G1 hm hw (lv_sub hl [0] rfl)
theorem cn_X3_expression_79 (fu : Nat) (rc : RC) (hrn : ∀ (i : Nat) (x y : Int32) (F : PF) (G : PG) (q : Int32 × PF × PG), rc i x y F G = some q → xn F ≤ xn q.2.1) {res : Int32 × PF × PG} (x2 : Int32) (F : PF) (G : PG) (hm : cb_X3_expression_79 fu rc x2 F G = some res) : xn F ≤ xn res.2.1 := by
  unfold cb_X3_expression_79 at hm
  obtain ⟨⟨r1, F1, G1⟩, hc, hm⟩ := bind_elim hm
  exact Nat.le_trans (hrn _ _ _ _ _ _ hc) (cn_X3_expression_83 fu rc hrn x2 F1 G1 hm)
theorem cw_X3_expression_79 (fu : Nat) (rc : RC) {dd : Nat} (hr : cH1 l v a rc dd) (hrn : ∀ (i : Nat) (x y : Int32) (F : PF) (G : PG) (q : Int32 × PF × PG), rc i x y F G = some q → xn F ≤ xn q.2.1) {res : Int32 × PF × PG} (C : cMC p R s m args c A v RX3 cX3_expression 3 (dd + 1 + 2) (60 * (dd + 1) + 49) (xn res.2.1 - xn K0)) (hret : ∀ (b1 : Nat) (H1 : Heap) (locs1 : List Loc) (ls1 : Array Slot) (pc : Nat), cMW s A v a b1 K0 res.2.1 res.2.2 H1 locs1 → decode cX3_expression pc = .ok (.return_, 1) → W p l e R s m args below meth c H1 locs1 (xn res.2.1 - xn K0) (2 * (xn res.2.1 - xn K0)) Q (F0 m pc ls1 [])) (x2 : Int32) (F : PF) (G : PG) (hm : cb_X3_expression_79 fu rc x2 F G = some res) {b : Nat} {H : Heap} {locs : List Loc} (hw : cMW s A v a b K0 F G H locs) {ls : Array Slot} (hl : lv_has ls 3 [(0, .ref (a 203)), (2, .int x2)]) : W p l e R s m args below meth c H locs (xn F - xn K0) (2 * (xn F - xn K0)) Q (F0 m 79 ls []) := by
  have hx := C.1
  have hb := C.2.1
  unfold cb_X3_expression_79 at hm
  refine lv_aload_n hx hb dX3_expression_79 rfl (lv_at hl 0 rfl) ?_
  obtain ⟨⟨r1, F1, G1⟩, hc, hm⟩ := bind_elim hm
  refine ccallV (n := 0) (As := []) (rest := []) C hw (hr.2.1 _ _ F G r1 F1 G1 hc) (hrn _ _ _ _ _ _ hc) (Nat.sub_le_sub_right (cn_X3_expression_83 fu rc hrn x2 F1 G1 hm) _) (crecv_X3 C hw) cm_353 cm_354 cm_355 cm_301 cm_356 (by decide +kernel) rfl (by omega) (by omega) hl.1 rfl (Nat.le_of_ble_eq_true rfl) dX3_expression_80 (fun b H locs hw => ?_)
  exact cw_X3_expression_83 fu rc hr hrn C hret x2 F1 G1 hm hw (lv_sub hl [0, 1] rfl)
theorem cn_X3_expression_63 (fu : Nat) (rc : RC) (hrn : ∀ (i : Nat) (x y : Int32) (F : PF) (G : PG) (q : Int32 × PF × PG), rc i x y F G = some q → xn F ≤ xn q.2.1) {res : Int32 × PF × PG} (x1 : Int32) (z0 : Int32) (F : PF) (G : PG) (hm : cb_X3_expression_63 fu rc x1 z0 F G = some res) : xn F ≤ xn res.2.1 := by
  unfold cb_X3_expression_63 at hm
  obtain ⟨⟨r1, F1, G1⟩, hc, hm⟩ := bind_elim hm
  exact Nat.le_trans (cn_X1_aim fu x1 (F 6) F G _ hc) (cn_X3_expression_79 fu rc hrn z0 F1 G1 hm)
theorem cw_X3_expression_63 (fu : Nat) (rc : RC) {dd : Nat} (hr : cH1 l v a rc dd) (hrn : ∀ (i : Nat) (x y : Int32) (F : PF) (G : PG) (q : Int32 × PF × PG), rc i x y F G = some q → xn F ≤ xn q.2.1) {res : Int32 × PF × PG} (C : cMC p R s m args c A v RX3 cX3_expression 3 (dd + 1 + 2) (60 * (dd + 1) + 49) (xn res.2.1 - xn K0)) (hret : ∀ (b1 : Nat) (H1 : Heap) (locs1 : List Loc) (ls1 : Array Slot) (pc : Nat), cMW s A v a b1 K0 res.2.1 res.2.2 H1 locs1 → decode cX3_expression pc = .ok (.return_, 1) → W p l e R s m args below meth c H1 locs1 (xn res.2.1 - xn K0) (2 * (xn res.2.1 - xn K0)) Q (F0 m pc ls1 [])) (x1 : Int32) (z0 : Int32) (F : PF) (G : PG) (hm : cb_X3_expression_63 fu rc x1 z0 F G = some res) {b : Nat} {H : Heap} {locs : List Loc} (hw : cMW s A v a b K0 F G H locs) {ls : Array Slot} (hl : lv_has ls 3 [(0, .ref (a 203)), (1, .int x1)]) : W p l e R s m args below meth c H locs (xn F - xn K0) (2 * (xn F - xn K0)) Q (F0 m 63 ls [.int z0]) := by
  have hx := C.1
  have hb := C.2.1
  unfold cb_X3_expression_63 at hm
  refine lv_istore_n (lv' := [(2, .int z0), (0, .ref (a 203)), (1, .int x1)]) hx hb dX3_expression_63 rfl hl (by decide) rfl (fun ls hl => ?_)
  refine lv_aload_n hx hb dX3_expression_64 rfl (lv_at hl 1 rfl) ?_
  refine cg_X3_23 C hw dX3_expression_65 ?_
  refine lv_iload_n hx hb dX3_expression_68 rfl (lv_at hl 2 rfl) ?_
  refine lv_aload_n hx hb dX3_expression_69 rfl (lv_at hl 1 rfl) ?_
  refine cg_X3_23 C hw dX3_expression_70 ?_
  refine cg_X3_39 C hw dX3_expression_73 ?_
  obtain ⟨⟨r1, F1, G1⟩, hc, hm⟩ := bind_elim hm
  refine ccallV (n := 2) (As := [.int x1, .int (F 6)]) (rest := []) C hw (ck_X1_aim l v a _ _ fu x1 (F 6) F G r1 F1 G1 hc) (cn_X1_aim fu x1 (F 6) F G _ hc) (Nat.sub_le_sub_right (cn_X3_expression_79 fu rc hrn z0 F1 G1 hm) _) (crecv_X1 C hw) cm_375 cm_376 cm_377 cm_369 cm_378 (by decide +kernel) rfl (by omega) (by omega) hl.1 rfl (Nat.le_of_ble_eq_true rfl) dX3_expression_76 (fun b H locs hw => ?_)
  exact cw_X3_expression_79 fu rc hr hrn C hret z0 F1 G1 hm hw (lv_sub hl [1, 0] rfl)
theorem cn_X3_expression_53 (fu : Nat) (rc : RC) (hrn : ∀ (i : Nat) (x y : Int32) (F : PF) (G : PG) (q : Int32 × PF × PG), rc i x y F G = some q → xn F ≤ xn q.2.1) {res : Int32 × PF × PG} (x1 : Int32) (F : PF) (G : PG) (hm : cb_X3_expression_53 fu rc x1 F G = some res) : xn F ≤ xn res.2.1 := by
  unfold cb_X3_expression_53 at hm
  obtain ⟨⟨r1, F1, G1⟩, hc, hm⟩ := bind_elim hm
  exact Nat.le_trans (cn_X1_addJump fu 84 (-1) F G _ hc) (cn_X3_expression_63 fu rc hrn x1 r1 F1 G1 hm)
theorem cw_X3_expression_53 (fu : Nat) (rc : RC) {dd : Nat} (hr : cH1 l v a rc dd) (hrn : ∀ (i : Nat) (x y : Int32) (F : PF) (G : PG) (q : Int32 × PF × PG), rc i x y F G = some q → xn F ≤ xn q.2.1) {res : Int32 × PF × PG} (C : cMC p R s m args c A v RX3 cX3_expression 3 (dd + 1 + 2) (60 * (dd + 1) + 49) (xn res.2.1 - xn K0)) (hret : ∀ (b1 : Nat) (H1 : Heap) (locs1 : List Loc) (ls1 : Array Slot) (pc : Nat), cMW s A v a b1 K0 res.2.1 res.2.2 H1 locs1 → decode cX3_expression pc = .ok (.return_, 1) → W p l e R s m args below meth c H1 locs1 (xn res.2.1 - xn K0) (2 * (xn res.2.1 - xn K0)) Q (F0 m pc ls1 [])) (x1 : Int32) (F : PF) (G : PG) (hm : cb_X3_expression_53 fu rc x1 F G = some res) {b : Nat} {H : Heap} {locs : List Loc} (hw : cMW s A v a b K0 F G H locs) {ls : Array Slot} (hl : lv_has ls 3 [(0, .ref (a 203)), (1, .int x1)]) : W p l e R s m args below meth c H locs (xn F - xn K0) (2 * (xn F - xn K0)) Q (F0 m 53 ls []) := by
  have hx := C.1
  have hb := C.2.1
  unfold cb_X3_expression_53 at hm
  refine lv_aload_n hx hb dX3_expression_53 rfl (lv_at hl 0 rfl) ?_
  refine cg_X3_23 C hw dX3_expression_54 ?_
  refine lv_bipush (v := 84) hx hb dX3_expression_57 (by decide) ?_
  refine lv_iconst (v := (-1)) hx hb dX3_expression_59 (by decide) ?_
  obtain ⟨⟨r1, F1, G1⟩, hc, hm⟩ := bind_elim hm
  refine ccallI (n := 2) (As := [.int 84, .int (-1)]) (rest := []) C hw (ck_X1_addJump l v a _ _ fu 84 (-1) F G r1 F1 G1 hc) (cn_X1_addJump fu 84 (-1) F G _ hc) (Nat.sub_le_sub_right (cn_X3_expression_63 fu rc hrn x1 r1 F1 G1 hm) _) (crecv_X1 C hw) cm_366 cm_367 cm_368 cm_369 cm_370 (by decide +kernel) rfl (by omega) (by omega) hl.1 rfl (Nat.le_of_ble_eq_true rfl) dX3_expression_60 (fun b H locs hw => ?_)
  exact cw_X3_expression_63 fu rc hr hrn C hret x1 r1 F1 G1 hm hw (lv_sub hl [0, 1] rfl)
theorem cn_X3_expression_44 (fu : Nat) (rc : RC) (hrn : ∀ (i : Nat) (x y : Int32) (F : PF) (G : PG) (q : Int32 × PF × PG), rc i x y F G = some q → xn F ≤ xn q.2.1) {res : Int32 × PF × PG} (x1 : Int32) (F : PF) (G : PG) (hm : cb_X3_expression_44 fu rc x1 F G = some res) : xn F ≤ xn res.2.1 := by
  unfold cb_X3_expression_44 at hm
  obtain ⟨⟨r1, F1, G1⟩, hc, hm⟩ := bind_elim hm
  exact Nat.le_trans (cn_X2_expect fu 28 F G _ hc) (cn_X3_expression_53 fu rc hrn x1 F1 G1 hm)
theorem cw_X3_expression_44 (fu : Nat) (rc : RC) {dd : Nat} (hr : cH1 l v a rc dd) (hrn : ∀ (i : Nat) (x y : Int32) (F : PF) (G : PG) (q : Int32 × PF × PG), rc i x y F G = some q → xn F ≤ xn q.2.1) {res : Int32 × PF × PG} (C : cMC p R s m args c A v RX3 cX3_expression 3 (dd + 1 + 2) (60 * (dd + 1) + 49) (xn res.2.1 - xn K0)) (hret : ∀ (b1 : Nat) (H1 : Heap) (locs1 : List Loc) (ls1 : Array Slot) (pc : Nat), cMW s A v a b1 K0 res.2.1 res.2.2 H1 locs1 → decode cX3_expression pc = .ok (.return_, 1) → W p l e R s m args below meth c H1 locs1 (xn res.2.1 - xn K0) (2 * (xn res.2.1 - xn K0)) Q (F0 m pc ls1 [])) (x1 : Int32) (F : PF) (G : PG) (hm : cb_X3_expression_44 fu rc x1 F G = some res) {b : Nat} {H : Heap} {locs : List Loc} (hw : cMW s A v a b K0 F G H locs) {ls : Array Slot} (hl : lv_has ls 3 [(0, .ref (a 203)), (1, .int x1)]) : W p l e R s m args below meth c H locs (xn F - xn K0) (2 * (xn F - xn K0)) Q (F0 m 44 ls []) := by
  have hx := C.1
  have hb := C.2.1
  unfold cb_X3_expression_44 at hm
  refine lv_aload_n hx hb dX3_expression_44 rfl (lv_at hl 0 rfl) ?_
  refine cg_X3_15 C hw dX3_expression_45 ?_
  refine lv_bipush (v := 28) hx hb dX3_expression_48 (by decide) ?_
  obtain ⟨⟨r1, F1, G1⟩, hc, hm⟩ := bind_elim hm
  refine ccallV (n := 1) (As := [.int 28]) (rest := []) C hw (ck_X2_expect l v a _ _ fu 28 F G r1 F1 G1 hc) (cn_X2_expect fu 28 F G _ hc) (Nat.sub_le_sub_right (cn_X3_expression_53 fu rc hrn x1 F1 G1 hm) _) (crecv_X2 C hw) cm_374 cm_333 cm_334 cm_307 cm_335 (by decide +kernel) rfl (by omega) (by omega) hl.1 rfl (Nat.le_of_ble_eq_true rfl) dX3_expression_50 (fun b H locs hw => ?_)
  exact cw_X3_expression_53 fu rc hr hrn C hret x1 F1 G1 hm hw (lv_sub hl [0, 1] rfl)
theorem cn_X3_expression_39 (fu : Nat) (rc : RC) (hrn : ∀ (i : Nat) (x y : Int32) (F : PF) (G : PG) (q : Int32 × PF × PG), rc i x y F G = some q → xn F ≤ xn q.2.1) {res : Int32 × PF × PG} (z0 : Int32) (F : PF) (G : PG) (hm : cb_X3_expression_39 fu rc z0 F G = some res) : xn F ≤ xn res.2.1 := by
  unfold cb_X3_expression_39 at hm
  obtain ⟨⟨r1, F1, G1⟩, hc, hm⟩ := bind_elim hm
  exact Nat.le_trans (hrn _ _ _ _ _ _ hc) (cn_X3_expression_44 fu rc hrn z0 F1 G1 hm)
theorem cw_X3_expression_39 (fu : Nat) (rc : RC) {dd : Nat} (hr : cH1 l v a rc dd) (hrn : ∀ (i : Nat) (x y : Int32) (F : PF) (G : PG) (q : Int32 × PF × PG), rc i x y F G = some q → xn F ≤ xn q.2.1) {res : Int32 × PF × PG} (C : cMC p R s m args c A v RX3 cX3_expression 3 (dd + 1 + 2) (60 * (dd + 1) + 49) (xn res.2.1 - xn K0)) (hret : ∀ (b1 : Nat) (H1 : Heap) (locs1 : List Loc) (ls1 : Array Slot) (pc : Nat), cMW s A v a b1 K0 res.2.1 res.2.2 H1 locs1 → decode cX3_expression pc = .ok (.return_, 1) → W p l e R s m args below meth c H1 locs1 (xn res.2.1 - xn K0) (2 * (xn res.2.1 - xn K0)) Q (F0 m pc ls1 [])) (z0 : Int32) (F : PF) (G : PG) (hm : cb_X3_expression_39 fu rc z0 F G = some res) {b : Nat} {H : Heap} {locs : List Loc} (hw : cMW s A v a b K0 F G H locs) {ls : Array Slot} (hl : lv_has ls 3 [(0, .ref (a 203))]) : W p l e R s m args below meth c H locs (xn F - xn K0) (2 * (xn F - xn K0)) Q (F0 m 39 ls [.int z0]) := by
  have hx := C.1
  have hb := C.2.1
  unfold cb_X3_expression_39 at hm
  refine lv_istore_n (lv' := [(1, .int z0), (0, .ref (a 203))]) hx hb dX3_expression_39 rfl hl (by decide) rfl (fun ls hl => ?_)
  refine lv_aload_n hx hb dX3_expression_40 rfl (lv_at hl 1 rfl) ?_
  obtain ⟨⟨r1, F1, G1⟩, hc, hm⟩ := bind_elim hm
  refine ccallV (n := 0) (As := []) (rest := []) C hw (hr.2.1 _ _ F G r1 F1 G1 hc) (hrn _ _ _ _ _ _ hc) (Nat.sub_le_sub_right (cn_X3_expression_44 fu rc hrn z0 F1 G1 hm) _) (crecv_X3 C hw) cm_353 cm_354 cm_355 cm_301 cm_356 (by decide +kernel) rfl (by omega) (by omega) hl.1 rfl (Nat.le_of_ble_eq_true rfl) dX3_expression_41 (fun b H locs hw => ?_)
  exact cw_X3_expression_44 fu rc hr hrn C hret z0 F1 G1 hm hw (lv_sub hl [1, 0] rfl)
theorem cn_X3_expression_29 (fu : Nat) (rc : RC) (hrn : ∀ (i : Nat) (x y : Int32) (F : PF) (G : PG) (q : Int32 × PF × PG), rc i x y F G = some q → xn F ≤ xn q.2.1) {res : Int32 × PF × PG} (F : PF) (G : PG) (hm : cb_X3_expression_29 fu rc F G = some res) : xn F ≤ xn res.2.1 := by
  unfold cb_X3_expression_29 at hm
  obtain ⟨⟨r1, F1, G1⟩, hc, hm⟩ := bind_elim hm
  exact Nat.le_trans (cn_X1_addJump fu 86 (-1) F G _ hc) (cn_X3_expression_39 fu rc hrn r1 F1 G1 hm)
theorem cw_X3_expression_29 (fu : Nat) (rc : RC) {dd : Nat} (hr : cH1 l v a rc dd) (hrn : ∀ (i : Nat) (x y : Int32) (F : PF) (G : PG) (q : Int32 × PF × PG), rc i x y F G = some q → xn F ≤ xn q.2.1) {res : Int32 × PF × PG} (C : cMC p R s m args c A v RX3 cX3_expression 3 (dd + 1 + 2) (60 * (dd + 1) + 49) (xn res.2.1 - xn K0)) (hret : ∀ (b1 : Nat) (H1 : Heap) (locs1 : List Loc) (ls1 : Array Slot) (pc : Nat), cMW s A v a b1 K0 res.2.1 res.2.2 H1 locs1 → decode cX3_expression pc = .ok (.return_, 1) → W p l e R s m args below meth c H1 locs1 (xn res.2.1 - xn K0) (2 * (xn res.2.1 - xn K0)) Q (F0 m pc ls1 [])) (F : PF) (G : PG) (hm : cb_X3_expression_29 fu rc F G = some res) {b : Nat} {H : Heap} {locs : List Loc} (hw : cMW s A v a b K0 F G H locs) {ls : Array Slot} (hl : lv_has ls 3 [(0, .ref (a 203))]) : W p l e R s m args below meth c H locs (xn F - xn K0) (2 * (xn F - xn K0)) Q (F0 m 29 ls []) := by
  have hx := C.1
  have hb := C.2.1
  unfold cb_X3_expression_29 at hm
  refine lv_aload_n hx hb dX3_expression_29 rfl (lv_at hl 0 rfl) ?_
  refine cg_X3_23 C hw dX3_expression_30 ?_
  refine lv_bipush (v := 86) hx hb dX3_expression_33 (by decide) ?_
  refine lv_iconst (v := (-1)) hx hb dX3_expression_35 (by decide) ?_
  obtain ⟨⟨r1, F1, G1⟩, hc, hm⟩ := bind_elim hm
  refine ccallI (n := 2) (As := [.int 86, .int (-1)]) (rest := []) C hw (ck_X1_addJump l v a _ _ fu 86 (-1) F G r1 F1 G1 hc) (cn_X1_addJump fu 86 (-1) F G _ hc) (Nat.sub_le_sub_right (cn_X3_expression_39 fu rc hrn r1 F1 G1 hm) _) (crecv_X1 C hw) cm_366 cm_367 cm_368 cm_369 cm_370 (by decide +kernel) rfl (by omega) (by omega) hl.1 rfl (Nat.le_of_ble_eq_true rfl) dX3_expression_36 (fun b H locs hw => ?_)
  exact cw_X3_expression_39 fu rc hr hrn C hret r1 F1 G1 hm hw (lv_sub hl [0] rfl)
theorem cn_X3_expression_25 (fu : Nat) (rc : RC) (hrn : ∀ (i : Nat) (x y : Int32) (F : PF) (G : PG) (q : Int32 × PF × PG), rc i x y F G = some q → xn F ≤ xn q.2.1) {res : Int32 × PF × PG} (z0 : Int32) (F : PF) (G : PG) (hm : cb_X3_expression_25 fu rc z0 F G = some res) : xn F ≤ xn res.2.1 := by
  unfold cb_X3_expression_25 at hm
  by_cases c_1 : z0 = (0 : Int32)
  · have hm := (if_pos c_1).symm.trans hm
    exact (cn_X3_expression_28 fu rc hrn F G hm)
  · have hm := (if_neg c_1).symm.trans hm
    exact (cn_X3_expression_29 fu rc hrn F G hm)
theorem cw_X3_expression_25 (fu : Nat) (rc : RC) {dd : Nat} (hr : cH1 l v a rc dd) (hrn : ∀ (i : Nat) (x y : Int32) (F : PF) (G : PG) (q : Int32 × PF × PG), rc i x y F G = some q → xn F ≤ xn q.2.1) {res : Int32 × PF × PG} (C : cMC p R s m args c A v RX3 cX3_expression 3 (dd + 1 + 2) (60 * (dd + 1) + 49) (xn res.2.1 - xn K0)) (hret : ∀ (b1 : Nat) (H1 : Heap) (locs1 : List Loc) (ls1 : Array Slot) (pc : Nat), cMW s A v a b1 K0 res.2.1 res.2.2 H1 locs1 → decode cX3_expression pc = .ok (.return_, 1) → W p l e R s m args below meth c H1 locs1 (xn res.2.1 - xn K0) (2 * (xn res.2.1 - xn K0)) Q (F0 m pc ls1 [])) (z0 : Int32) (F : PF) (G : PG) (hm : cb_X3_expression_25 fu rc z0 F G = some res) {b : Nat} {H : Heap} {locs : List Loc} (hw : cMW s A v a b K0 F G H locs) {ls : Array Slot} (hl : lv_has ls 3 [(0, .ref (a 203))]) : W p l e R s m args below meth c H locs (xn F - xn K0) (2 * (xn F - xn K0)) Q (F0 m 25 ls [.int z0]) := by
  have hx := C.1
  have hb := C.2.1
  unfold cb_X3_expression_25 at hm
  refine lv_if_ne (tgt := 29) hx hb dX3_expression_25 (by decide) (fun c_1 => ?_) (fun c_1 => ?_)
  · have hm := (if_neg c_1).symm.trans hm
    exact cw_X3_expression_29 fu rc hr hrn C hret F G hm hw (lv_sub hl [0] rfl)
  · have hm := (if_pos c_1).symm.trans hm
    exact cw_X3_expression_28 fu rc hr hrn C hret F G hm hw (lv_sub hl [] rfl)
theorem cn_X3_expression_16 (fu : Nat) (rc : RC) (hrn : ∀ (i : Nat) (x y : Int32) (F : PF) (G : PG) (q : Int32 × PF × PG), rc i x y F G = some q → xn F ≤ xn q.2.1) {res : Int32 × PF × PG} (F : PF) (G : PG) (hm : cb_X3_expression_16 fu rc F G = some res) : xn F ≤ xn res.2.1 := by
  unfold cb_X3_expression_16 at hm
  obtain ⟨⟨r1, F1, G1⟩, hc, hm⟩ := bind_elim hm
  exact Nat.le_trans (cn_X2_opens fu 27 F G _ hc) (cn_X3_expression_25 fu rc hrn r1 F1 G1 hm)
theorem cw_X3_expression_16 (fu : Nat) (rc : RC) {dd : Nat} (hr : cH1 l v a rc dd) (hrn : ∀ (i : Nat) (x y : Int32) (F : PF) (G : PG) (q : Int32 × PF × PG), rc i x y F G = some q → xn F ≤ xn q.2.1) {res : Int32 × PF × PG} (C : cMC p R s m args c A v RX3 cX3_expression 3 (dd + 1 + 2) (60 * (dd + 1) + 49) (xn res.2.1 - xn K0)) (hret : ∀ (b1 : Nat) (H1 : Heap) (locs1 : List Loc) (ls1 : Array Slot) (pc : Nat), cMW s A v a b1 K0 res.2.1 res.2.2 H1 locs1 → decode cX3_expression pc = .ok (.return_, 1) → W p l e R s m args below meth c H1 locs1 (xn res.2.1 - xn K0) (2 * (xn res.2.1 - xn K0)) Q (F0 m pc ls1 [])) (F : PF) (G : PG) (hm : cb_X3_expression_16 fu rc F G = some res) {b : Nat} {H : Heap} {locs : List Loc} (hw : cMW s A v a b K0 F G H locs) {ls : Array Slot} (hl : lv_has ls 3 [(0, .ref (a 203))]) : W p l e R s m args below meth c H locs (xn F - xn K0) (2 * (xn F - xn K0)) Q (F0 m 16 ls []) := by
  have hx := C.1
  have hb := C.2.1
  unfold cb_X3_expression_16 at hm
  refine lv_aload_n hx hb dX3_expression_16 rfl (lv_at hl 0 rfl) ?_
  refine cg_X3_15 C hw dX3_expression_17 ?_
  refine lv_bipush (v := 27) hx hb dX3_expression_20 (by decide) ?_
  obtain ⟨⟨r1, F1, G1⟩, hc, hm⟩ := bind_elim hm
  refine ccallI (n := 1) (As := [.int 27]) (rest := []) C hw (ck_X2_opens l v a _ _ fu 27 F G r1 F1 G1 hc) (cn_X2_opens fu 27 F G _ hc) (Nat.sub_le_sub_right (cn_X3_expression_25 fu rc hrn r1 F1 G1 hm) _) (crecv_X2 C hw) cm_362 cm_363 cm_364 cm_307 cm_365 (by decide +kernel) rfl (by omega) (by omega) hl.1 rfl (Nat.le_of_ble_eq_true rfl) dX3_expression_22 (fun b H locs hw => ?_)
  exact cw_X3_expression_25 fu rc hr hrn C hret r1 F1 G1 hm hw (lv_sub hl [0] rfl)
theorem cn_X3_expression_4 (fu : Nat) (rc : RC) (hrn : ∀ (i : Nat) (x y : Int32) (F : PF) (G : PG) (q : Int32 × PF × PG), rc i x y F G = some q → xn F ≤ xn q.2.1) {res : Int32 × PF × PG} (F : PF) (G : PG) (hm : cb_X3_expression_4 fu rc F G = some res) : xn F ≤ xn res.2.1 := by
  unfold cb_X3_expression_4 at hm
  by_cases c_1 : (F 11) = (27 : Int32)
  · have hm := (if_pos c_1).symm.trans hm
    exact (cn_X3_expression_16 fu rc hrn F G hm)
  · have hm := (if_neg c_1).symm.trans hm
    exact (cn_X3_expression_28 fu rc hrn F G hm)
theorem cw_X3_expression_4 (fu : Nat) (rc : RC) {dd : Nat} (hr : cH1 l v a rc dd) (hrn : ∀ (i : Nat) (x y : Int32) (F : PF) (G : PG) (q : Int32 × PF × PG), rc i x y F G = some q → xn F ≤ xn q.2.1) {res : Int32 × PF × PG} (C : cMC p R s m args c A v RX3 cX3_expression 3 (dd + 1 + 2) (60 * (dd + 1) + 49) (xn res.2.1 - xn K0)) (hret : ∀ (b1 : Nat) (H1 : Heap) (locs1 : List Loc) (ls1 : Array Slot) (pc : Nat), cMW s A v a b1 K0 res.2.1 res.2.2 H1 locs1 → decode cX3_expression pc = .ok (.return_, 1) → W p l e R s m args below meth c H1 locs1 (xn res.2.1 - xn K0) (2 * (xn res.2.1 - xn K0)) Q (F0 m pc ls1 [])) (F : PF) (G : PG) (hm : cb_X3_expression_4 fu rc F G = some res) {b : Nat} {H : Heap} {locs : List Loc} (hw : cMW s A v a b K0 F G H locs) {ls : Array Slot} (hl : lv_has ls 3 [(0, .ref (a 203))]) : W p l e R s m args below meth c H locs (xn F - xn K0) (2 * (xn F - xn K0)) Q (F0 m 4 ls []) := by
  have hx := C.1
  have hb := C.2.1
  unfold cb_X3_expression_4 at hm
  refine lv_aload_n hx hb dX3_expression_4 rfl (lv_at hl 0 rfl) ?_
  refine cg_X3_15 C hw dX3_expression_5 ?_
  refine cg_X3_85 C hw dX3_expression_8 ?_
  refine lv_bipush (v := 27) hx hb dX3_expression_11 (by decide) ?_
  refine lv_icmp_ne (tgt := 28) hx hb dX3_expression_13 (by decide) (fun c_1 => ?_) (fun c_1 => ?_)
  · have hm := (if_neg c_1).symm.trans hm
    exact cw_X3_expression_28 fu rc hr hrn C hret F G hm hw (lv_sub hl [] rfl)
  · have hm := (if_pos c_1).symm.trans hm
    exact cw_X3_expression_16 fu rc hr hrn C hret F G hm hw (lv_sub hl [0] rfl)
theorem cn_X3_expression_0 (fu : Nat) (rc : RC) (hrn : ∀ (i : Nat) (x y : Int32) (F : PF) (G : PG) (q : Int32 × PF × PG), rc i x y F G = some q → xn F ≤ xn q.2.1) {res : Int32 × PF × PG} (F : PF) (G : PG) (hm : cb_X3_expression_0 fu rc F G = some res) : xn F ≤ xn res.2.1 := by
  unfold cb_X3_expression_0 at hm
  obtain ⟨⟨r1, F1, G1⟩, hc, hm⟩ := bind_elim hm
  exact Nat.le_trans (hrn _ _ _ _ _ _ hc) (cn_X3_expression_4 fu rc hrn F1 G1 hm)
theorem cw_X3_expression_0 (fu : Nat) (rc : RC) {dd : Nat} (hr : cH1 l v a rc dd) (hrn : ∀ (i : Nat) (x y : Int32) (F : PF) (G : PG) (q : Int32 × PF × PG), rc i x y F G = some q → xn F ≤ xn q.2.1) {res : Int32 × PF × PG} (C : cMC p R s m args c A v RX3 cX3_expression 3 (dd + 1 + 2) (60 * (dd + 1) + 49) (xn res.2.1 - xn K0)) (hret : ∀ (b1 : Nat) (H1 : Heap) (locs1 : List Loc) (ls1 : Array Slot) (pc : Nat), cMW s A v a b1 K0 res.2.1 res.2.2 H1 locs1 → decode cX3_expression pc = .ok (.return_, 1) → W p l e R s m args below meth c H1 locs1 (xn res.2.1 - xn K0) (2 * (xn res.2.1 - xn K0)) Q (F0 m pc ls1 [])) (F : PF) (G : PG) (hm : cb_X3_expression_0 fu rc F G = some res) {b : Nat} {H : Heap} {locs : List Loc} (hw : cMW s A v a b K0 F G H locs) {ls : Array Slot} (hl : lv_has ls 3 [(0, .ref (a 203))]) : W p l e R s m args below meth c H locs (xn F - xn K0) (2 * (xn F - xn K0)) Q (F0 m 0 ls []) := by
  have hx := C.1
  have hb := C.2.1
  unfold cb_X3_expression_0 at hm
  refine lv_aload_n hx hb dX3_expression_0 rfl (lv_at hl 0 rfl) ?_
  obtain ⟨⟨r1, F1, G1⟩, hc, hm⟩ := bind_elim hm
  refine ccallV (n := 0) (As := []) (rest := []) C hw (hr.2.2.2.1 _ _ F G r1 F1 G1 hc) (hrn _ _ _ _ _ _ hc) (Nat.sub_le_sub_right (cn_X3_expression_4 fu rc hrn F1 G1 hm) _) (crecv_X3 C hw) cm_359 cm_360 cm_361 cm_301 cm_463 (by decide +kernel) rfl (by omega) (by omega) hl.1 rfl (Nat.le_of_ble_eq_true rfl) dX3_expression_1 (fun b H locs hw => ?_)
  exact cw_X3_expression_4 fu rc hr hrn C hret F1 G1 hm hw (lv_sub hl [0] rfl)
theorem cm_X3_expression (fu : Nat) (rc : RC) (hrn : ∀ (i : Nat) (x y : Int32) (F : PF) (G : PG) (q : Int32 × PF × PG), rc i x y F G = some q → xn F ≤ xn q.2.1) (F : PF) (G : PG) (q : Int32 × PF × PG) (hm : ch_X3_expression fu rc F G = some q) : xn F ≤ xn q.2.1 := cn_X3_expression_0 fu rc hrn F G hm
theorem cq_X3_expression (l : Launch) (v : EV) (a : Nat → Nat) (b sz : Nat) (fu : Nat) (rc : RC) {dd : Nat} (hr : cH1 l v a rc dd) (hrn : ∀ (i : Nat) (x y : Int32) (F : PF) (G : PG) (q : Int32 × PF × PG), rc i x y F G = some q → xn F ≤ xn q.2.1) (F : PF) (G : PG) (r : Int32) (F1 : PF) (G1 : PG) (hm : ch_X3_expression fu rc F G = some (r, F1, G1)) : cMV l yX3_expression cX3_expression 3 (dd + 1 + 2) (60 * (dd + 1) + 49) v a b sz [.ref (a 203)] F G F1 G1 := cMV.of (by decide) (Nat.le_of_ble_eq_true rfl) (fun p e R s m args below meth c Q A H locs ls C hw hl hret => cw_X3_expression_0 fu rc hr hrn (res := (r, F1, G1)) C hret F G hm hw hl)
def cb_X3_index_140 (fu : Nat) (rc : RC) (F : PF) (G : PG) : PR := some (0, F, G)
def cb_X3_index_132 (fu : Nat) (rc : RC) (x2 : Int32) (F : PF) (G : PG) : PR := (cf_X1_add fu x2 F G).bind (fun q => cb_X3_index_140 fu rc q.2.1 q.2.2)
def cb_X3_index_129 (fu : Nat) (rc : RC) (x2 : Int32) (z0 : Int32) (F : PF) (G : PG) : PR := (cf_X1_add fu z0 F G).bind (fun q => cb_X3_index_132 fu rc x2 q.2.1 q.2.2)
def cb_X3_index_128 (fu : Nat) (rc : RC) (x2 : Int32) (F : PF) (G : PG) : PR := cb_X3_index_129 fu rc x2 0 F G
def cb_X3_index_124 (fu : Nat) (rc : RC) (x2 : Int32) (F : PF) (G : PG) : PR := cb_X3_index_129 fu rc x2 2 F G
def cb_X3_index_120 (fu : Nat) (rc : RC) (x2 : Int32) (z0 : Int32) (F : PF) (G : PG) : PR := if z0 = (3 : Int32) then cb_X3_index_124 fu rc x2 F G else cb_X3_index_128 fu rc x2 F G
def cb_X3_index_108 (fu : Nat) (rc : RC) (x1 : Int32) (x2 : Int32) (F : PF) (G : PG) : PR := (cf_X5_kind fu x1 F G).bind (fun q => cb_X3_index_120 fu rc x2 q.1 q.2.1 q.2.2)
def cb_X3_index_105 (fu : Nat) (rc : RC) (x1 : Int32) (x2 : Int32) (z0 : Int32) (F : PF) (G : PG) : PR := (cf_X1_add fu z0 F G).bind (fun q => cb_X3_index_108 fu rc x1 x2 q.2.1 q.2.2)
def cb_X3_index_93 (fu : Nat) (rc : RC) (x1 : Int32) (x2 : Int32) (F : PF) (G : PG) : PR := (cf_X5_size fu x1 F G).bind (fun q => cb_X3_index_105 fu rc x1 x2 q.1 q.2.1 q.2.2)
def cb_X3_index_90 (fu : Nat) (rc : RC) (x1 : Int32) (x2 : Int32) (z0 : Int32) (z1 : Int32) (F : PF) (G : PG) : PR := (cf_X1_addPair fu z1 z0 F G).bind (fun q => cb_X3_index_93 fu rc x1 x2 q.2.1 q.2.2)
def cb_X3_index_82 (fu : Nat) (rc : RC) (x1 : Int32) (x2 : Int32) (z0 : Int32) (F : PF) (G : PG) : PR := (cf_X5_value fu x1 F G).bind (fun q => cb_X3_index_90 fu rc x1 x2 q.1 z0 q.2.1 q.2.2)
def cb_X3_index_80 (fu : Nat) (rc : RC) (x1 : Int32) (x2 : Int32) (F : PF) (G : PG) : PR := cb_X3_index_82 fu rc x1 x2 75 F G
def cb_X3_index_75 (fu : Nat) (rc : RC) (x1 : Int32) (x2 : Int32) (F : PF) (G : PG) : PR := cb_X3_index_82 fu rc x1 x2 74 F G
def cb_X3_index_72 (fu : Nat) (rc : RC) (x1 : Int32) (x2 : Int32) (z0 : Int32) (F : PF) (G : PG) : PR := if z0 = (0 : Int32) then cb_X3_index_80 fu rc x1 x2 F G else cb_X3_index_75 fu rc x1 x2 F G
def cb_X3_index_64 (fu : Nat) (rc : RC) (x1 : Int32) (x2 : Int32) (F : PF) (G : PG) : PR := (cf_X5_isGlobal fu x1 F G).bind (fun q => cb_X3_index_72 fu rc x1 x2 q.1 q.2.1 q.2.2)
def cb_X3_index_59 (fu : Nat) (rc : RC) (x1 : Int32) (x2 : Int32) (F : PF) (G : PG) : PR := cb_X3_index_82 fu rc x1 x2 76 F G
def cb_X3_index_50 (fu : Nat) (rc : RC) (x1 : Int32) (x2 : Int32) (z0 : Int32) (F : PF) (G : PG) : PR := if z0 = (0 : Int32) then cb_X3_index_64 fu rc x1 x2 F G else cb_X3_index_59 fu rc x1 x2 F G
def cb_X3_index_49 (fu : Nat) (rc : RC) (x1 : Int32) (x2 : Int32) (F : PF) (G : PG) : PR := cb_X3_index_50 fu rc x1 x2 0 F G
def cb_X3_index_45 (fu : Nat) (rc : RC) (x1 : Int32) (x2 : Int32) (F : PF) (G : PG) : PR := cb_X3_index_50 fu rc x1 x2 1 F G
def cb_X3_index_42 (fu : Nat) (rc : RC) (x1 : Int32) (x2 : Int32) (z0 : Int32) (F : PF) (G : PG) : PR := if z0 = (0 : Int32) then cb_X3_index_45 fu rc x1 x2 F G else cb_X3_index_49 fu rc x1 x2 F G
def cb_X3_index_34 (fu : Nat) (rc : RC) (x1 : Int32) (x2 : Int32) (F : PF) (G : PG) : PR := (cf_X5_size fu x1 F G).bind (fun q => cb_X3_index_42 fu rc x1 x2 q.1 q.2.1 q.2.2)
def cb_X3_index_25 (fu : Nat) (rc : RC) (x1 : Int32) (x2 : Int32) (F : PF) (G : PG) : PR := (cf_X2_closesWith fu 22 F G).bind (fun q => cb_X3_index_34 fu rc x1 x2 q.2.1 q.2.2)
def cb_X3_index_21 (fu : Nat) (rc : RC) (x1 : Int32) (x2 : Int32) (F : PF) (G : PG) : PR := (rc 1 0 0 F G).bind (fun q => cb_X3_index_25 fu rc x1 x2 q.2.1 q.2.2)
def cb_X3_index_20 (fu : Nat) (rc : RC) (F : PF) (G : PG) : PR := some (0, F, G)
def cb_X3_index_17 (fu : Nat) (rc : RC) (x1 : Int32) (x2 : Int32) (z0 : Int32) (F : PF) (G : PG) : PR := if z0 = (0 : Int32) then cb_X3_index_20 fu rc F G else cb_X3_index_21 fu rc x1 x2 F G
def cb_X3_index_0 (fu : Nat) (rc : RC) (x1 : Int32) (F : PF) (G : PG) : PR := (cf_X2_opens fu 21 F G).bind (fun q => cb_X3_index_17 fu rc x1 (F 13) q.1 q.2.1 q.2.2)
def ch_X3_index (fu : Nat) (rc : RC) (x1 : Int32) (F : PF) (G : PG) : PR := cb_X3_index_0 fu rc x1 F G
theorem cn_X3_index_140 (fu : Nat) (rc : RC) (hrn : ∀ (i : Nat) (x y : Int32) (F : PF) (G : PG) (q : Int32 × PF × PG), rc i x y F G = some q → xn F ≤ xn q.2.1) {res : Int32 × PF × PG} (F : PF) (G : PG) (hm : cb_X3_index_140 fu rc F G = some res) : xn F ≤ xn res.2.1 := by
  unfold cb_X3_index_140 at hm
  obtain rfl := Option.some.inj hm
  exact Nat.le_refl _
theorem cw_X3_index_140 (fu : Nat) (rc : RC) {dd : Nat} (hr : cH1 l v a rc dd) (hrn : ∀ (i : Nat) (x y : Int32) (F : PF) (G : PG) (q : Int32 × PF × PG), rc i x y F G = some q → xn F ≤ xn q.2.1) {res : Int32 × PF × PG} (C : cMC p R s m args c A v RX3 cX3_index 4 (dd + 1 + 2) (60 * (dd + 1) + 49) (xn res.2.1 - xn K0)) (hret : ∀ (b1 : Nat) (H1 : Heap) (locs1 : List Loc) (ls1 : Array Slot) (pc : Nat), cMW s A v a b1 K0 res.2.1 res.2.2 H1 locs1 → decode cX3_index pc = .ok (.return_, 1) → W p l e R s m args below meth c H1 locs1 (xn res.2.1 - xn K0) (2 * (xn res.2.1 - xn K0)) Q (F0 m pc ls1 [])) (F : PF) (G : PG) (hm : cb_X3_index_140 fu rc F G = some res) {b : Nat} {H : Heap} {locs : List Loc} (hw : cMW s A v a b K0 F G H locs) {ls : Array Slot} (hl : lv_has ls 4 []) : W p l e R s m args below meth c H locs (xn F - xn K0) (2 * (xn F - xn K0)) Q (F0 m 140 ls []) := by
  have hx := C.1
  have hb := C.2.1
  unfold cb_X3_index_140 at hm
  obtain rfl := Option.some.inj hm
  exact hret _ _ _ _ _ hw dX3_index_140
theorem cn_X3_index_132 (fu : Nat) (rc : RC) (hrn : ∀ (i : Nat) (x y : Int32) (F : PF) (G : PG) (q : Int32 × PF × PG), rc i x y F G = some q → xn F ≤ xn q.2.1) {res : Int32 × PF × PG} (x2 : Int32) (F : PF) (G : PG) (hm : cb_X3_index_132 fu rc x2 F G = some res) : xn F ≤ xn res.2.1 := by
  unfold cb_X3_index_132 at hm
  obtain ⟨⟨r1, F1, G1⟩, hc, hm⟩ := bind_elim hm
  exact Nat.le_trans (cn_X1_add fu x2 F G _ hc) (cn_X3_index_140 fu rc hrn F1 G1 hm)
theorem cw_X3_index_132 (fu : Nat) (rc : RC) {dd : Nat} (hr : cH1 l v a rc dd) (hrn : ∀ (i : Nat) (x y : Int32) (F : PF) (G : PG) (q : Int32 × PF × PG), rc i x y F G = some q → xn F ≤ xn q.2.1) {res : Int32 × PF × PG} (C : cMC p R s m args c A v RX3 cX3_index 4 (dd + 1 + 2) (60 * (dd + 1) + 49) (xn res.2.1 - xn K0)) (hret : ∀ (b1 : Nat) (H1 : Heap) (locs1 : List Loc) (ls1 : Array Slot) (pc : Nat), cMW s A v a b1 K0 res.2.1 res.2.2 H1 locs1 → decode cX3_index pc = .ok (.return_, 1) → W p l e R s m args below meth c H1 locs1 (xn res.2.1 - xn K0) (2 * (xn res.2.1 - xn K0)) Q (F0 m pc ls1 [])) (x2 : Int32) (F : PF) (G : PG) (hm : cb_X3_index_132 fu rc x2 F G = some res) {b : Nat} {H : Heap} {locs : List Loc} (hw : cMW s A v a b K0 F G H locs) {ls : Array Slot} (hl : lv_has ls 4 [(0, .ref (a 203)), (2, .int x2)]) : W p l e R s m args below meth c H locs (xn F - xn K0) (2 * (xn F - xn K0)) Q (F0 m 132 ls []) := by
  have hx := C.1
  have hb := C.2.1
  unfold cb_X3_index_132 at hm
  refine lv_aload_n hx hb dX3_index_132 rfl (lv_at hl 0 rfl) ?_
  refine cg_X3_23 C hw dX3_index_133 ?_
  refine lv_iload_n hx hb dX3_index_136 rfl (lv_at hl 1 rfl) ?_
  obtain ⟨⟨r1, F1, G1⟩, hc, hm⟩ := bind_elim hm
  refine ccallV (n := 1) (As := [.int x2]) (rest := []) C hw (ck_X1_add l v a _ _ fu x2 F G r1 F1 G1 hc) (cn_X1_add fu x2 F G _ hc) (Nat.sub_le_sub_right (cn_X3_index_140 fu rc hrn F1 G1 hm) _) (crecv_X1 C hw) cm_452 cm_453 cm_454 cm_369 cm_455 (by decide +kernel) rfl (by omega) (by omega) hl.1 rfl (Nat.le_of_ble_eq_true rfl) dX3_index_137 (fun b H locs hw => ?_)
  exact cw_X3_index_140 fu rc hr hrn C hret F1 G1 hm hw (lv_sub hl [] rfl)
theorem cn_X3_index_129 (fu : Nat) (rc : RC) (hrn : ∀ (i : Nat) (x y : Int32) (F : PF) (G : PG) (q : Int32 × PF × PG), rc i x y F G = some q → xn F ≤ xn q.2.1) {res : Int32 × PF × PG} (x2 : Int32) (z0 : Int32) (F : PF) (G : PG) (hm : cb_X3_index_129 fu rc x2 z0 F G = some res) : xn F ≤ xn res.2.1 := by
  unfold cb_X3_index_129 at hm
  obtain ⟨⟨r1, F1, G1⟩, hc, hm⟩ := bind_elim hm
  exact Nat.le_trans (cn_X1_add fu z0 F G _ hc) (cn_X3_index_132 fu rc hrn x2 F1 G1 hm)
theorem cw_X3_index_129 (fu : Nat) (rc : RC) {dd : Nat} (hr : cH1 l v a rc dd) (hrn : ∀ (i : Nat) (x y : Int32) (F : PF) (G : PG) (q : Int32 × PF × PG), rc i x y F G = some q → xn F ≤ xn q.2.1) {res : Int32 × PF × PG} (C : cMC p R s m args c A v RX3 cX3_index 4 (dd + 1 + 2) (60 * (dd + 1) + 49) (xn res.2.1 - xn K0)) (hret : ∀ (b1 : Nat) (H1 : Heap) (locs1 : List Loc) (ls1 : Array Slot) (pc : Nat), cMW s A v a b1 K0 res.2.1 res.2.2 H1 locs1 → decode cX3_index pc = .ok (.return_, 1) → W p l e R s m args below meth c H1 locs1 (xn res.2.1 - xn K0) (2 * (xn res.2.1 - xn K0)) Q (F0 m pc ls1 [])) (x2 : Int32) (z0 : Int32) (F : PF) (G : PG) (hm : cb_X3_index_129 fu rc x2 z0 F G = some res) {b : Nat} {H : Heap} {locs : List Loc} (hw : cMW s A v a b K0 F G H locs) {ls : Array Slot} (hl : lv_has ls 4 [(0, .ref (a 203)), (2, .int x2)]) : W p l e R s m args below meth c H locs (xn F - xn K0) (2 * (xn F - xn K0)) Q (F0 m 129 ls [.int z0, .ref (a 201)]) := by
  have hx := C.1
  have hb := C.2.1
  unfold cb_X3_index_129 at hm
  obtain ⟨⟨r1, F1, G1⟩, hc, hm⟩ := bind_elim hm
  refine ccallV (n := 1) (As := [.int z0]) (rest := []) C hw (ck_X1_add l v a _ _ fu z0 F G r1 F1 G1 hc) (cn_X1_add fu z0 F G _ hc) (Nat.sub_le_sub_right (cn_X3_index_132 fu rc hrn x2 F1 G1 hm) _) (crecv_X1 C hw) cm_452 cm_453 cm_454 cm_369 cm_455 (by decide +kernel) rfl (by omega) (by omega) hl.1 rfl (Nat.le_of_ble_eq_true rfl) dX3_index_129 (fun b H locs hw => ?_)
  exact cw_X3_index_132 fu rc hr hrn C hret x2 F1 G1 hm hw (lv_sub hl [0, 1] rfl)
theorem cn_X3_index_128 (fu : Nat) (rc : RC) (hrn : ∀ (i : Nat) (x y : Int32) (F : PF) (G : PG) (q : Int32 × PF × PG), rc i x y F G = some q → xn F ≤ xn q.2.1) {res : Int32 × PF × PG} (x2 : Int32) (F : PF) (G : PG) (hm : cb_X3_index_128 fu rc x2 F G = some res) : xn F ≤ xn res.2.1 := by
  unfold cb_X3_index_128 at hm
  exact (cn_X3_index_129 fu rc hrn x2 0 F G hm)
theorem cw_X3_index_128 (fu : Nat) (rc : RC) {dd : Nat} (hr : cH1 l v a rc dd) (hrn : ∀ (i : Nat) (x y : Int32) (F : PF) (G : PG) (q : Int32 × PF × PG), rc i x y F G = some q → xn F ≤ xn q.2.1) {res : Int32 × PF × PG} (C : cMC p R s m args c A v RX3 cX3_index 4 (dd + 1 + 2) (60 * (dd + 1) + 49) (xn res.2.1 - xn K0)) (hret : ∀ (b1 : Nat) (H1 : Heap) (locs1 : List Loc) (ls1 : Array Slot) (pc : Nat), cMW s A v a b1 K0 res.2.1 res.2.2 H1 locs1 → decode cX3_index pc = .ok (.return_, 1) → W p l e R s m args below meth c H1 locs1 (xn res.2.1 - xn K0) (2 * (xn res.2.1 - xn K0)) Q (F0 m pc ls1 [])) (x2 : Int32) (F : PF) (G : PG) (hm : cb_X3_index_128 fu rc x2 F G = some res) {b : Nat} {H : Heap} {locs : List Loc} (hw : cMW s A v a b K0 F G H locs) {ls : Array Slot} (hl : lv_has ls 4 [(0, .ref (a 203)), (2, .int x2)]) : W p l e R s m args below meth c H locs (xn F - xn K0) (2 * (xn F - xn K0)) Q (F0 m 128 ls [.ref (a 201)]) := by
  have hx := C.1
  have hb := C.2.1
  unfold cb_X3_index_128 at hm
  refine lv_iconst (v := 0) hx hb dX3_index_128 (by decide) ?_
  exact cw_X3_index_129 fu rc hr hrn C hret x2 0 F G hm hw (lv_sub hl [0, 1] rfl)
theorem cn_X3_index_124 (fu : Nat) (rc : RC) (hrn : ∀ (i : Nat) (x y : Int32) (F : PF) (G : PG) (q : Int32 × PF × PG), rc i x y F G = some q → xn F ≤ xn q.2.1) {res : Int32 × PF × PG} (x2 : Int32) (F : PF) (G : PG) (hm : cb_X3_index_124 fu rc x2 F G = some res) : xn F ≤ xn res.2.1 := by
  unfold cb_X3_index_124 at hm
  exact (cn_X3_index_129 fu rc hrn x2 2 F G hm)
theorem cw_X3_index_124 (fu : Nat) (rc : RC) {dd : Nat} (hr : cH1 l v a rc dd) (hrn : ∀ (i : Nat) (x y : Int32) (F : PF) (G : PG) (q : Int32 × PF × PG), rc i x y F G = some q → xn F ≤ xn q.2.1) {res : Int32 × PF × PG} (C : cMC p R s m args c A v RX3 cX3_index 4 (dd + 1 + 2) (60 * (dd + 1) + 49) (xn res.2.1 - xn K0)) (hret : ∀ (b1 : Nat) (H1 : Heap) (locs1 : List Loc) (ls1 : Array Slot) (pc : Nat), cMW s A v a b1 K0 res.2.1 res.2.2 H1 locs1 → decode cX3_index pc = .ok (.return_, 1) → W p l e R s m args below meth c H1 locs1 (xn res.2.1 - xn K0) (2 * (xn res.2.1 - xn K0)) Q (F0 m pc ls1 [])) (x2 : Int32) (F : PF) (G : PG) (hm : cb_X3_index_124 fu rc x2 F G = some res) {b : Nat} {H : Heap} {locs : List Loc} (hw : cMW s A v a b K0 F G H locs) {ls : Array Slot} (hl : lv_has ls 4 [(0, .ref (a 203)), (2, .int x2)]) : W p l e R s m args below meth c H locs (xn F - xn K0) (2 * (xn F - xn K0)) Q (F0 m 124 ls [.ref (a 201)]) := by
  have hx := C.1
  have hb := C.2.1
  unfold cb_X3_index_124 at hm
  refine lv_iconst (v := 2) hx hb dX3_index_124 (by decide) ?_
  refine lv_goto (tgt := 129) hx hb dX3_index_125 (by decide) ?_
  exact cw_X3_index_129 fu rc hr hrn C hret x2 2 F G hm hw (lv_sub hl [0, 1] rfl)
theorem cn_X3_index_120 (fu : Nat) (rc : RC) (hrn : ∀ (i : Nat) (x y : Int32) (F : PF) (G : PG) (q : Int32 × PF × PG), rc i x y F G = some q → xn F ≤ xn q.2.1) {res : Int32 × PF × PG} (x2 : Int32) (z0 : Int32) (F : PF) (G : PG) (hm : cb_X3_index_120 fu rc x2 z0 F G = some res) : xn F ≤ xn res.2.1 := by
  unfold cb_X3_index_120 at hm
  by_cases c_1 : z0 = (3 : Int32)
  · have hm := (if_pos c_1).symm.trans hm
    exact (cn_X3_index_124 fu rc hrn x2 F G hm)
  · have hm := (if_neg c_1).symm.trans hm
    exact (cn_X3_index_128 fu rc hrn x2 F G hm)
theorem cw_X3_index_120 (fu : Nat) (rc : RC) {dd : Nat} (hr : cH1 l v a rc dd) (hrn : ∀ (i : Nat) (x y : Int32) (F : PF) (G : PG) (q : Int32 × PF × PG), rc i x y F G = some q → xn F ≤ xn q.2.1) {res : Int32 × PF × PG} (C : cMC p R s m args c A v RX3 cX3_index 4 (dd + 1 + 2) (60 * (dd + 1) + 49) (xn res.2.1 - xn K0)) (hret : ∀ (b1 : Nat) (H1 : Heap) (locs1 : List Loc) (ls1 : Array Slot) (pc : Nat), cMW s A v a b1 K0 res.2.1 res.2.2 H1 locs1 → decode cX3_index pc = .ok (.return_, 1) → W p l e R s m args below meth c H1 locs1 (xn res.2.1 - xn K0) (2 * (xn res.2.1 - xn K0)) Q (F0 m pc ls1 [])) (x2 : Int32) (z0 : Int32) (F : PF) (G : PG) (hm : cb_X3_index_120 fu rc x2 z0 F G = some res) {b : Nat} {H : Heap} {locs : List Loc} (hw : cMW s A v a b K0 F G H locs) {ls : Array Slot} (hl : lv_has ls 4 [(0, .ref (a 203)), (2, .int x2)]) : W p l e R s m args below meth c H locs (xn F - xn K0) (2 * (xn F - xn K0)) Q (F0 m 120 ls [.int z0, .ref (a 201)]) := by
  have hx := C.1
  have hb := C.2.1
  unfold cb_X3_index_120 at hm
  refine lv_iconst (v := 3) hx hb dX3_index_120 (by decide) ?_
  refine lv_icmp_ne (tgt := 128) hx hb dX3_index_121 (by decide) (fun c_1 => ?_) (fun c_1 => ?_)
  · have hm := (if_neg c_1).symm.trans hm
    exact cw_X3_index_128 fu rc hr hrn C hret x2 F G hm hw (lv_sub hl [0, 1] rfl)
  · have hm := (if_pos c_1).symm.trans hm
    exact cw_X3_index_124 fu rc hr hrn C hret x2 F G hm hw (lv_sub hl [0, 1] rfl)
theorem cn_X3_index_108 (fu : Nat) (rc : RC) (hrn : ∀ (i : Nat) (x y : Int32) (F : PF) (G : PG) (q : Int32 × PF × PG), rc i x y F G = some q → xn F ≤ xn q.2.1) {res : Int32 × PF × PG} (x1 : Int32) (x2 : Int32) (F : PF) (G : PG) (hm : cb_X3_index_108 fu rc x1 x2 F G = some res) : xn F ≤ xn res.2.1 := by
  unfold cb_X3_index_108 at hm
  obtain ⟨⟨r1, F1, G1⟩, hc, hm⟩ := bind_elim hm
  exact Nat.le_trans (cn_X5_kind fu x1 F G _ hc) (cn_X3_index_120 fu rc hrn x2 r1 F1 G1 hm)
theorem cw_X3_index_108 (fu : Nat) (rc : RC) {dd : Nat} (hr : cH1 l v a rc dd) (hrn : ∀ (i : Nat) (x y : Int32) (F : PF) (G : PG) (q : Int32 × PF × PG), rc i x y F G = some q → xn F ≤ xn q.2.1) {res : Int32 × PF × PG} (C : cMC p R s m args c A v RX3 cX3_index 4 (dd + 1 + 2) (60 * (dd + 1) + 49) (xn res.2.1 - xn K0)) (hret : ∀ (b1 : Nat) (H1 : Heap) (locs1 : List Loc) (ls1 : Array Slot) (pc : Nat), cMW s A v a b1 K0 res.2.1 res.2.2 H1 locs1 → decode cX3_index pc = .ok (.return_, 1) → W p l e R s m args below meth c H1 locs1 (xn res.2.1 - xn K0) (2 * (xn res.2.1 - xn K0)) Q (F0 m pc ls1 [])) (x1 : Int32) (x2 : Int32) (F : PF) (G : PG) (hm : cb_X3_index_108 fu rc x1 x2 F G = some res) {b : Nat} {H : Heap} {locs : List Loc} (hw : cMW s A v a b K0 F G H locs) {ls : Array Slot} (hl : lv_has ls 4 [(0, .ref (a 203)), (1, .int x1), (2, .int x2)]) : W p l e R s m args below meth c H locs (xn F - xn K0) (2 * (xn F - xn K0)) Q (F0 m 108 ls []) := by
  have hx := C.1
  have hb := C.2.1
  unfold cb_X3_index_108 at hm
  refine lv_aload_n hx hb dX3_index_108 rfl (lv_at hl 0 rfl) ?_
  refine cg_X3_23 C hw dX3_index_109 ?_
  refine lv_aload_n hx hb dX3_index_112 rfl (lv_at hl 0 rfl) ?_
  refine cg_X3_19 C hw dX3_index_113 ?_
  refine lv_iload_n hx hb dX3_index_116 rfl (lv_at hl 1 rfl) ?_
  obtain ⟨⟨r1, F1, G1⟩, hc, hm⟩ := bind_elim hm
  refine ccallI (n := 1) (As := [.int x1]) (rest := [.ref (a 201)]) C hw (ck_X5_kind l v a _ _ fu x1 F G r1 F1 G1 hc) (cn_X5_kind fu x1 F G _ hc) (Nat.sub_le_sub_right (cn_X3_index_120 fu rc hrn x2 r1 F1 G1 hm) _) (crecv_X5 C hw) cm_387 cm_388 cm_389 cm_266 cm_390 (by decide +kernel) rfl (by omega) (by omega) hl.1 rfl (Nat.le_of_ble_eq_true rfl) dX3_index_117 (fun b H locs hw => ?_)
  exact cw_X3_index_120 fu rc hr hrn C hret x2 r1 F1 G1 hm hw (lv_sub hl [0, 2] rfl)
theorem cn_X3_index_105 (fu : Nat) (rc : RC) (hrn : ∀ (i : Nat) (x y : Int32) (F : PF) (G : PG) (q : Int32 × PF × PG), rc i x y F G = some q → xn F ≤ xn q.2.1) {res : Int32 × PF × PG} (x1 : Int32) (x2 : Int32) (z0 : Int32) (F : PF) (G : PG) (hm : cb_X3_index_105 fu rc x1 x2 z0 F G = some res) : xn F ≤ xn res.2.1 := by
  unfold cb_X3_index_105 at hm
  obtain ⟨⟨r1, F1, G1⟩, hc, hm⟩ := bind_elim hm
  exact Nat.le_trans (cn_X1_add fu z0 F G _ hc) (cn_X3_index_108 fu rc hrn x1 x2 F1 G1 hm)
theorem cw_X3_index_105 (fu : Nat) (rc : RC) {dd : Nat} (hr : cH1 l v a rc dd) (hrn : ∀ (i : Nat) (x y : Int32) (F : PF) (G : PG) (q : Int32 × PF × PG), rc i x y F G = some q → xn F ≤ xn q.2.1) {res : Int32 × PF × PG} (C : cMC p R s m args c A v RX3 cX3_index 4 (dd + 1 + 2) (60 * (dd + 1) + 49) (xn res.2.1 - xn K0)) (hret : ∀ (b1 : Nat) (H1 : Heap) (locs1 : List Loc) (ls1 : Array Slot) (pc : Nat), cMW s A v a b1 K0 res.2.1 res.2.2 H1 locs1 → decode cX3_index pc = .ok (.return_, 1) → W p l e R s m args below meth c H1 locs1 (xn res.2.1 - xn K0) (2 * (xn res.2.1 - xn K0)) Q (F0 m pc ls1 [])) (x1 : Int32) (x2 : Int32) (z0 : Int32) (F : PF) (G : PG) (hm : cb_X3_index_105 fu rc x1 x2 z0 F G = some res) {b : Nat} {H : Heap} {locs : List Loc} (hw : cMW s A v a b K0 F G H locs) {ls : Array Slot} (hl : lv_has ls 4 [(0, .ref (a 203)), (1, .int x1), (2, .int x2)]) : W p l e R s m args below meth c H locs (xn F - xn K0) (2 * (xn F - xn K0)) Q (F0 m 105 ls [.int z0, .ref (a 201)]) := by
  have hx := C.1
  have hb := C.2.1
  unfold cb_X3_index_105 at hm
  obtain ⟨⟨r1, F1, G1⟩, hc, hm⟩ := bind_elim hm
  refine ccallV (n := 1) (As := [.int z0]) (rest := []) C hw (ck_X1_add l v a _ _ fu z0 F G r1 F1 G1 hc) (cn_X1_add fu z0 F G _ hc) (Nat.sub_le_sub_right (cn_X3_index_108 fu rc hrn x1 x2 F1 G1 hm) _) (crecv_X1 C hw) cm_452 cm_453 cm_454 cm_369 cm_455 (by decide +kernel) rfl (by omega) (by omega) hl.1 rfl (Nat.le_of_ble_eq_true rfl) dX3_index_105 (fun b H locs hw => ?_)
  exact cw_X3_index_108 fu rc hr hrn C hret x1 x2 F1 G1 hm hw (lv_sub hl [0, 1, 2] rfl)
theorem cn_X3_index_93 (fu : Nat) (rc : RC) (hrn : ∀ (i : Nat) (x y : Int32) (F : PF) (G : PG) (q : Int32 × PF × PG), rc i x y F G = some q → xn F ≤ xn q.2.1) {res : Int32 × PF × PG} (x1 : Int32) (x2 : Int32) (F : PF) (G : PG) (hm : cb_X3_index_93 fu rc x1 x2 F G = some res) : xn F ≤ xn res.2.1 := by
  unfold cb_X3_index_93 at hm
  obtain ⟨⟨r1, F1, G1⟩, hc, hm⟩ := bind_elim hm
  exact Nat.le_trans (cn_X5_size fu x1 F G _ hc) (cn_X3_index_105 fu rc hrn x1 x2 r1 F1 G1 hm)
theorem cw_X3_index_93 (fu : Nat) (rc : RC) {dd : Nat} (hr : cH1 l v a rc dd) (hrn : ∀ (i : Nat) (x y : Int32) (F : PF) (G : PG) (q : Int32 × PF × PG), rc i x y F G = some q → xn F ≤ xn q.2.1) {res : Int32 × PF × PG} (C : cMC p R s m args c A v RX3 cX3_index 4 (dd + 1 + 2) (60 * (dd + 1) + 49) (xn res.2.1 - xn K0)) (hret : ∀ (b1 : Nat) (H1 : Heap) (locs1 : List Loc) (ls1 : Array Slot) (pc : Nat), cMW s A v a b1 K0 res.2.1 res.2.2 H1 locs1 → decode cX3_index pc = .ok (.return_, 1) → W p l e R s m args below meth c H1 locs1 (xn res.2.1 - xn K0) (2 * (xn res.2.1 - xn K0)) Q (F0 m pc ls1 [])) (x1 : Int32) (x2 : Int32) (F : PF) (G : PG) (hm : cb_X3_index_93 fu rc x1 x2 F G = some res) {b : Nat} {H : Heap} {locs : List Loc} (hw : cMW s A v a b K0 F G H locs) {ls : Array Slot} (hl : lv_has ls 4 [(0, .ref (a 203)), (1, .int x1), (2, .int x2)]) : W p l e R s m args below meth c H locs (xn F - xn K0) (2 * (xn F - xn K0)) Q (F0 m 93 ls []) := by
  have hx := C.1
  have hb := C.2.1
  unfold cb_X3_index_93 at hm
  refine lv_aload_n hx hb dX3_index_93 rfl (lv_at hl 0 rfl) ?_
  refine cg_X3_23 C hw dX3_index_94 ?_
  refine lv_aload_n hx hb dX3_index_97 rfl (lv_at hl 0 rfl) ?_
  refine cg_X3_19 C hw dX3_index_98 ?_
  refine lv_iload_n hx hb dX3_index_101 rfl (lv_at hl 1 rfl) ?_
  obtain ⟨⟨r1, F1, G1⟩, hc, hm⟩ := bind_elim hm
  refine ccallI (n := 1) (As := [.int x1]) (rest := [.ref (a 201)]) C hw (ck_X5_size l v a _ _ fu x1 F G r1 F1 G1 hc) (cn_X5_size fu x1 F G _ hc) (Nat.sub_le_sub_right (cn_X3_index_105 fu rc hrn x1 x2 r1 F1 G1 hm) _) (crecv_X5 C hw) cm_438 cm_439 cm_440 cm_266 cm_441 (by decide +kernel) rfl (by omega) (by omega) hl.1 rfl (Nat.le_of_ble_eq_true rfl) dX3_index_102 (fun b H locs hw => ?_)
  exact cw_X3_index_105 fu rc hr hrn C hret x1 x2 r1 F1 G1 hm hw (lv_sub hl [0, 1, 2] rfl)
theorem cn_X3_index_90 (fu : Nat) (rc : RC) (hrn : ∀ (i : Nat) (x y : Int32) (F : PF) (G : PG) (q : Int32 × PF × PG), rc i x y F G = some q → xn F ≤ xn q.2.1) {res : Int32 × PF × PG} (x1 : Int32) (x2 : Int32) (z0 : Int32) (z1 : Int32) (F : PF) (G : PG) (hm : cb_X3_index_90 fu rc x1 x2 z0 z1 F G = some res) : xn F ≤ xn res.2.1 := by
  unfold cb_X3_index_90 at hm
  obtain ⟨⟨r1, F1, G1⟩, hc, hm⟩ := bind_elim hm
  exact Nat.le_trans (cn_X1_addPair fu z1 z0 F G _ hc) (cn_X3_index_93 fu rc hrn x1 x2 F1 G1 hm)
theorem cw_X3_index_90 (fu : Nat) (rc : RC) {dd : Nat} (hr : cH1 l v a rc dd) (hrn : ∀ (i : Nat) (x y : Int32) (F : PF) (G : PG) (q : Int32 × PF × PG), rc i x y F G = some q → xn F ≤ xn q.2.1) {res : Int32 × PF × PG} (C : cMC p R s m args c A v RX3 cX3_index 4 (dd + 1 + 2) (60 * (dd + 1) + 49) (xn res.2.1 - xn K0)) (hret : ∀ (b1 : Nat) (H1 : Heap) (locs1 : List Loc) (ls1 : Array Slot) (pc : Nat), cMW s A v a b1 K0 res.2.1 res.2.2 H1 locs1 → decode cX3_index pc = .ok (.return_, 1) → W p l e R s m args below meth c H1 locs1 (xn res.2.1 - xn K0) (2 * (xn res.2.1 - xn K0)) Q (F0 m pc ls1 [])) (x1 : Int32) (x2 : Int32) (z0 : Int32) (z1 : Int32) (F : PF) (G : PG) (hm : cb_X3_index_90 fu rc x1 x2 z0 z1 F G = some res) {b : Nat} {H : Heap} {locs : List Loc} (hw : cMW s A v a b K0 F G H locs) {ls : Array Slot} (hl : lv_has ls 4 [(0, .ref (a 203)), (1, .int x1), (2, .int x2)]) : W p l e R s m args below meth c H locs (xn F - xn K0) (2 * (xn F - xn K0)) Q (F0 m 90 ls [.int z0, .int z1, .ref (a 201)]) := by
  have hx := C.1
  have hb := C.2.1
  unfold cb_X3_index_90 at hm
  obtain ⟨⟨r1, F1, G1⟩, hc, hm⟩ := bind_elim hm
  refine ccallV (n := 2) (As := [.int z1, .int z0]) (rest := []) C hw (ck_X1_addPair l v a _ _ fu z1 z0 F G r1 F1 G1 hc) (cn_X1_addPair fu z1 z0 F G _ hc) (Nat.sub_le_sub_right (cn_X3_index_93 fu rc hrn x1 x2 F1 G1 hm) _) (crecv_X1 C hw) cm_448 cm_449 cm_450 cm_369 cm_451 (by decide +kernel) rfl (by omega) (by omega) hl.1 rfl (Nat.le_of_ble_eq_true rfl) dX3_index_90 (fun b H locs hw => ?_)
  exact cw_X3_index_93 fu rc hr hrn C hret x1 x2 F1 G1 hm hw (lv_sub hl [0, 1, 2] rfl)
theorem cn_X3_index_82 (fu : Nat) (rc : RC) (hrn : ∀ (i : Nat) (x y : Int32) (F : PF) (G : PG) (q : Int32 × PF × PG), rc i x y F G = some q → xn F ≤ xn q.2.1) {res : Int32 × PF × PG} (x1 : Int32) (x2 : Int32) (z0 : Int32) (F : PF) (G : PG) (hm : cb_X3_index_82 fu rc x1 x2 z0 F G = some res) : xn F ≤ xn res.2.1 := by
  unfold cb_X3_index_82 at hm
  obtain ⟨⟨r1, F1, G1⟩, hc, hm⟩ := bind_elim hm
  exact Nat.le_trans (cn_X5_value fu x1 F G _ hc) (cn_X3_index_90 fu rc hrn x1 x2 r1 z0 F1 G1 hm)
theorem cw_X3_index_82 (fu : Nat) (rc : RC) {dd : Nat} (hr : cH1 l v a rc dd) (hrn : ∀ (i : Nat) (x y : Int32) (F : PF) (G : PG) (q : Int32 × PF × PG), rc i x y F G = some q → xn F ≤ xn q.2.1) {res : Int32 × PF × PG} (C : cMC p R s m args c A v RX3 cX3_index 4 (dd + 1 + 2) (60 * (dd + 1) + 49) (xn res.2.1 - xn K0)) (hret : ∀ (b1 : Nat) (H1 : Heap) (locs1 : List Loc) (ls1 : Array Slot) (pc : Nat), cMW s A v a b1 K0 res.2.1 res.2.2 H1 locs1 → decode cX3_index pc = .ok (.return_, 1) → W p l e R s m args below meth c H1 locs1 (xn res.2.1 - xn K0) (2 * (xn res.2.1 - xn K0)) Q (F0 m pc ls1 [])) (x1 : Int32) (x2 : Int32) (z0 : Int32) (F : PF) (G : PG) (hm : cb_X3_index_82 fu rc x1 x2 z0 F G = some res) {b : Nat} {H : Heap} {locs : List Loc} (hw : cMW s A v a b K0 F G H locs) {ls : Array Slot} (hl : lv_has ls 4 [(0, .ref (a 203)), (1, .int x1), (2, .int x2)]) : W p l e R s m args below meth c H locs (xn F - xn K0) (2 * (xn F - xn K0)) Q (F0 m 82 ls [.int z0, .ref (a 201)]) := by
  have hx := C.1
  have hb := C.2.1
  unfold cb_X3_index_82 at hm
  refine lv_aload_n hx hb dX3_index_82 rfl (lv_at hl 0 rfl) ?_
  refine cg_X3_19 C hw dX3_index_83 ?_
  refine lv_iload_n hx hb dX3_index_86 rfl (lv_at hl 1 rfl) ?_
  obtain ⟨⟨r1, F1, G1⟩, hc, hm⟩ := bind_elim hm
  refine ccallI (n := 1) (As := [.int x1]) (rest := [.int z0, .ref (a 201)]) C hw (ck_X5_value l v a _ _ fu x1 F G r1 F1 G1 hc) (cn_X5_value fu x1 F G _ hc) (Nat.sub_le_sub_right (cn_X3_index_90 fu rc hrn x1 x2 r1 z0 F1 G1 hm) _) (crecv_X5 C hw) cm_392 cm_393 cm_394 cm_266 cm_395 (by decide +kernel) rfl (by omega) (by omega) hl.1 rfl (Nat.le_of_ble_eq_true rfl) dX3_index_87 (fun b H locs hw => ?_)
  exact cw_X3_index_90 fu rc hr hrn C hret x1 x2 r1 z0 F1 G1 hm hw (lv_sub hl [0, 1, 2] rfl)
theorem cn_X3_index_80 (fu : Nat) (rc : RC) (hrn : ∀ (i : Nat) (x y : Int32) (F : PF) (G : PG) (q : Int32 × PF × PG), rc i x y F G = some q → xn F ≤ xn q.2.1) {res : Int32 × PF × PG} (x1 : Int32) (x2 : Int32) (F : PF) (G : PG) (hm : cb_X3_index_80 fu rc x1 x2 F G = some res) : xn F ≤ xn res.2.1 := by
  unfold cb_X3_index_80 at hm
  exact (cn_X3_index_82 fu rc hrn x1 x2 75 F G hm)
theorem cw_X3_index_80 (fu : Nat) (rc : RC) {dd : Nat} (hr : cH1 l v a rc dd) (hrn : ∀ (i : Nat) (x y : Int32) (F : PF) (G : PG) (q : Int32 × PF × PG), rc i x y F G = some q → xn F ≤ xn q.2.1) {res : Int32 × PF × PG} (C : cMC p R s m args c A v RX3 cX3_index 4 (dd + 1 + 2) (60 * (dd + 1) + 49) (xn res.2.1 - xn K0)) (hret : ∀ (b1 : Nat) (H1 : Heap) (locs1 : List Loc) (ls1 : Array Slot) (pc : Nat), cMW s A v a b1 K0 res.2.1 res.2.2 H1 locs1 → decode cX3_index pc = .ok (.return_, 1) → W p l e R s m args below meth c H1 locs1 (xn res.2.1 - xn K0) (2 * (xn res.2.1 - xn K0)) Q (F0 m pc ls1 [])) (x1 : Int32) (x2 : Int32) (F : PF) (G : PG) (hm : cb_X3_index_80 fu rc x1 x2 F G = some res) {b : Nat} {H : Heap} {locs : List Loc} (hw : cMW s A v a b K0 F G H locs) {ls : Array Slot} (hl : lv_has ls 4 [(0, .ref (a 203)), (1, .int x1), (2, .int x2)]) : W p l e R s m args below meth c H locs (xn F - xn K0) (2 * (xn F - xn K0)) Q (F0 m 80 ls [.ref (a 201)]) := by
  have hx := C.1
  have hb := C.2.1
  unfold cb_X3_index_80 at hm
  refine lv_bipush (v := 75) hx hb dX3_index_80 (by decide) ?_
  exact cw_X3_index_82 fu rc hr hrn C hret x1 x2 75 F G hm hw (lv_sub hl [0, 1, 2] rfl)
theorem cn_X3_index_75 (fu : Nat) (rc : RC) (hrn : ∀ (i : Nat) (x y : Int32) (F : PF) (G : PG) (q : Int32 × PF × PG), rc i x y F G = some q → xn F ≤ xn q.2.1) {res : Int32 × PF × PG} (x1 : Int32) (x2 : Int32) (F : PF) (G : PG) (hm : cb_X3_index_75 fu rc x1 x2 F G = some res) : xn F ≤ xn res.2.1 := by
  unfold cb_X3_index_75 at hm
  exact (cn_X3_index_82 fu rc hrn x1 x2 74 F G hm)
theorem cw_X3_index_75 (fu : Nat) (rc : RC) {dd : Nat} (hr : cH1 l v a rc dd) (hrn : ∀ (i : Nat) (x y : Int32) (F : PF) (G : PG) (q : Int32 × PF × PG), rc i x y F G = some q → xn F ≤ xn q.2.1) {res : Int32 × PF × PG} (C : cMC p R s m args c A v RX3 cX3_index 4 (dd + 1 + 2) (60 * (dd + 1) + 49) (xn res.2.1 - xn K0)) (hret : ∀ (b1 : Nat) (H1 : Heap) (locs1 : List Loc) (ls1 : Array Slot) (pc : Nat), cMW s A v a b1 K0 res.2.1 res.2.2 H1 locs1 → decode cX3_index pc = .ok (.return_, 1) → W p l e R s m args below meth c H1 locs1 (xn res.2.1 - xn K0) (2 * (xn res.2.1 - xn K0)) Q (F0 m pc ls1 [])) (x1 : Int32) (x2 : Int32) (F : PF) (G : PG) (hm : cb_X3_index_75 fu rc x1 x2 F G = some res) {b : Nat} {H : Heap} {locs : List Loc} (hw : cMW s A v a b K0 F G H locs) {ls : Array Slot} (hl : lv_has ls 4 [(0, .ref (a 203)), (1, .int x1), (2, .int x2)]) : W p l e R s m args below meth c H locs (xn F - xn K0) (2 * (xn F - xn K0)) Q (F0 m 75 ls [.ref (a 201)]) := by
  have hx := C.1
  have hb := C.2.1
  unfold cb_X3_index_75 at hm
  refine lv_bipush (v := 74) hx hb dX3_index_75 (by decide) ?_
  refine lv_goto (tgt := 82) hx hb dX3_index_77 (by decide) ?_
  exact cw_X3_index_82 fu rc hr hrn C hret x1 x2 74 F G hm hw (lv_sub hl [0, 1, 2] rfl)
theorem cn_X3_index_72 (fu : Nat) (rc : RC) (hrn : ∀ (i : Nat) (x y : Int32) (F : PF) (G : PG) (q : Int32 × PF × PG), rc i x y F G = some q → xn F ≤ xn q.2.1) {res : Int32 × PF × PG} (x1 : Int32) (x2 : Int32) (z0 : Int32) (F : PF) (G : PG) (hm : cb_X3_index_72 fu rc x1 x2 z0 F G = some res) : xn F ≤ xn res.2.1 := by
  unfold cb_X3_index_72 at hm
  by_cases c_1 : z0 = (0 : Int32)
  · have hm := (if_pos c_1).symm.trans hm
    exact (cn_X3_index_80 fu rc hrn x1 x2 F G hm)
  · have hm := (if_neg c_1).symm.trans hm
    exact (cn_X3_index_75 fu rc hrn x1 x2 F G hm)
theorem cw_X3_index_72 (fu : Nat) (rc : RC) {dd : Nat} (hr : cH1 l v a rc dd) (hrn : ∀ (i : Nat) (x y : Int32) (F : PF) (G : PG) (q : Int32 × PF × PG), rc i x y F G = some q → xn F ≤ xn q.2.1) {res : Int32 × PF × PG} (C : cMC p R s m args c A v RX3 cX3_index 4 (dd + 1 + 2) (60 * (dd + 1) + 49) (xn res.2.1 - xn K0)) (hret : ∀ (b1 : Nat) (H1 : Heap) (locs1 : List Loc) (ls1 : Array Slot) (pc : Nat), cMW s A v a b1 K0 res.2.1 res.2.2 H1 locs1 → decode cX3_index pc = .ok (.return_, 1) → W p l e R s m args below meth c H1 locs1 (xn res.2.1 - xn K0) (2 * (xn res.2.1 - xn K0)) Q (F0 m pc ls1 [])) (x1 : Int32) (x2 : Int32) (z0 : Int32) (F : PF) (G : PG) (hm : cb_X3_index_72 fu rc x1 x2 z0 F G = some res) {b : Nat} {H : Heap} {locs : List Loc} (hw : cMW s A v a b K0 F G H locs) {ls : Array Slot} (hl : lv_has ls 4 [(0, .ref (a 203)), (1, .int x1), (2, .int x2)]) : W p l e R s m args below meth c H locs (xn F - xn K0) (2 * (xn F - xn K0)) Q (F0 m 72 ls [.int z0, .ref (a 201)]) := by
  have hx := C.1
  have hb := C.2.1
  unfold cb_X3_index_72 at hm
  refine lv_if_eq (tgt := 80) hx hb dX3_index_72 (by decide) (fun c_1 => ?_) (fun c_1 => ?_)
  · have hm := (if_pos c_1).symm.trans hm
    exact cw_X3_index_80 fu rc hr hrn C hret x1 x2 F G hm hw (lv_sub hl [0, 1, 2] rfl)
  · have hm := (if_neg c_1).symm.trans hm
    exact cw_X3_index_75 fu rc hr hrn C hret x1 x2 F G hm hw (lv_sub hl [0, 1, 2] rfl)
theorem cn_X3_index_64 (fu : Nat) (rc : RC) (hrn : ∀ (i : Nat) (x y : Int32) (F : PF) (G : PG) (q : Int32 × PF × PG), rc i x y F G = some q → xn F ≤ xn q.2.1) {res : Int32 × PF × PG} (x1 : Int32) (x2 : Int32) (F : PF) (G : PG) (hm : cb_X3_index_64 fu rc x1 x2 F G = some res) : xn F ≤ xn res.2.1 := by
  unfold cb_X3_index_64 at hm
  obtain ⟨⟨r1, F1, G1⟩, hc, hm⟩ := bind_elim hm
  exact Nat.le_trans (cn_X5_isGlobal fu x1 F G _ hc) (cn_X3_index_72 fu rc hrn x1 x2 r1 F1 G1 hm)
theorem cw_X3_index_64 (fu : Nat) (rc : RC) {dd : Nat} (hr : cH1 l v a rc dd) (hrn : ∀ (i : Nat) (x y : Int32) (F : PF) (G : PG) (q : Int32 × PF × PG), rc i x y F G = some q → xn F ≤ xn q.2.1) {res : Int32 × PF × PG} (C : cMC p R s m args c A v RX3 cX3_index 4 (dd + 1 + 2) (60 * (dd + 1) + 49) (xn res.2.1 - xn K0)) (hret : ∀ (b1 : Nat) (H1 : Heap) (locs1 : List Loc) (ls1 : Array Slot) (pc : Nat), cMW s A v a b1 K0 res.2.1 res.2.2 H1 locs1 → decode cX3_index pc = .ok (.return_, 1) → W p l e R s m args below meth c H1 locs1 (xn res.2.1 - xn K0) (2 * (xn res.2.1 - xn K0)) Q (F0 m pc ls1 [])) (x1 : Int32) (x2 : Int32) (F : PF) (G : PG) (hm : cb_X3_index_64 fu rc x1 x2 F G = some res) {b : Nat} {H : Heap} {locs : List Loc} (hw : cMW s A v a b K0 F G H locs) {ls : Array Slot} (hl : lv_has ls 4 [(0, .ref (a 203)), (1, .int x1), (2, .int x2)]) : W p l e R s m args below meth c H locs (xn F - xn K0) (2 * (xn F - xn K0)) Q (F0 m 64 ls [.ref (a 201)]) := by
  have hx := C.1
  have hb := C.2.1
  unfold cb_X3_index_64 at hm
  refine lv_aload_n hx hb dX3_index_64 rfl (lv_at hl 0 rfl) ?_
  refine cg_X3_19 C hw dX3_index_65 ?_
  refine lv_iload_n hx hb dX3_index_68 rfl (lv_at hl 1 rfl) ?_
  obtain ⟨⟨r1, F1, G1⟩, hc, hm⟩ := bind_elim hm
  refine ccallI (n := 1) (As := [.int x1]) (rest := [.ref (a 201)]) C hw (ck_X5_isGlobal l v a _ _ fu x1 F G r1 F1 G1 hc) (cn_X5_isGlobal fu x1 F G _ hc) (Nat.sub_le_sub_right (cn_X3_index_72 fu rc hrn x1 x2 r1 F1 G1 hm) _) (crecv_X5 C hw) cm_443 cm_444 cm_445 cm_266 cm_446 (by decide +kernel) rfl (by omega) (by omega) hl.1 rfl (Nat.le_of_ble_eq_true rfl) dX3_index_69 (fun b H locs hw => ?_)
  exact cw_X3_index_72 fu rc hr hrn C hret x1 x2 r1 F1 G1 hm hw (lv_sub hl [0, 1, 2] rfl)
theorem cn_X3_index_59 (fu : Nat) (rc : RC) (hrn : ∀ (i : Nat) (x y : Int32) (F : PF) (G : PG) (q : Int32 × PF × PG), rc i x y F G = some q → xn F ≤ xn q.2.1) {res : Int32 × PF × PG} (x1 : Int32) (x2 : Int32) (F : PF) (G : PG) (hm : cb_X3_index_59 fu rc x1 x2 F G = some res) : xn F ≤ xn res.2.1 := by
  unfold cb_X3_index_59 at hm
  exact (cn_X3_index_82 fu rc hrn x1 x2 76 F G hm)
theorem cw_X3_index_59 (fu : Nat) (rc : RC) {dd : Nat} (hr : cH1 l v a rc dd) (hrn : ∀ (i : Nat) (x y : Int32) (F : PF) (G : PG) (q : Int32 × PF × PG), rc i x y F G = some q → xn F ≤ xn q.2.1) {res : Int32 × PF × PG} (C : cMC p R s m args c A v RX3 cX3_index 4 (dd + 1 + 2) (60 * (dd + 1) + 49) (xn res.2.1 - xn K0)) (hret : ∀ (b1 : Nat) (H1 : Heap) (locs1 : List Loc) (ls1 : Array Slot) (pc : Nat), cMW s A v a b1 K0 res.2.1 res.2.2 H1 locs1 → decode cX3_index pc = .ok (.return_, 1) → W p l e R s m args below meth c H1 locs1 (xn res.2.1 - xn K0) (2 * (xn res.2.1 - xn K0)) Q (F0 m pc ls1 [])) (x1 : Int32) (x2 : Int32) (F : PF) (G : PG) (hm : cb_X3_index_59 fu rc x1 x2 F G = some res) {b : Nat} {H : Heap} {locs : List Loc} (hw : cMW s A v a b K0 F G H locs) {ls : Array Slot} (hl : lv_has ls 4 [(0, .ref (a 203)), (1, .int x1), (2, .int x2)]) : W p l e R s m args below meth c H locs (xn F - xn K0) (2 * (xn F - xn K0)) Q (F0 m 59 ls [.ref (a 201)]) := by
  have hx := C.1
  have hb := C.2.1
  unfold cb_X3_index_59 at hm
  refine lv_bipush (v := 76) hx hb dX3_index_59 (by decide) ?_
  refine lv_goto (tgt := 82) hx hb dX3_index_61 (by decide) ?_
  exact cw_X3_index_82 fu rc hr hrn C hret x1 x2 76 F G hm hw (lv_sub hl [0, 1, 2] rfl)
theorem cn_X3_index_50 (fu : Nat) (rc : RC) (hrn : ∀ (i : Nat) (x y : Int32) (F : PF) (G : PG) (q : Int32 × PF × PG), rc i x y F G = some q → xn F ≤ xn q.2.1) {res : Int32 × PF × PG} (x1 : Int32) (x2 : Int32) (z0 : Int32) (F : PF) (G : PG) (hm : cb_X3_index_50 fu rc x1 x2 z0 F G = some res) : xn F ≤ xn res.2.1 := by
  unfold cb_X3_index_50 at hm
  by_cases c_1 : z0 = (0 : Int32)
  · have hm := (if_pos c_1).symm.trans hm
    exact (cn_X3_index_64 fu rc hrn x1 x2 F G hm)
  · have hm := (if_neg c_1).symm.trans hm
    exact (cn_X3_index_59 fu rc hrn x1 x2 F G hm)
theorem cw_X3_index_50 (fu : Nat) (rc : RC) {dd : Nat} (hr : cH1 l v a rc dd) (hrn : ∀ (i : Nat) (x y : Int32) (F : PF) (G : PG) (q : Int32 × PF × PG), rc i x y F G = some q → xn F ≤ xn q.2.1) {res : Int32 × PF × PG} (C : cMC p R s m args c A v RX3 cX3_index 4 (dd + 1 + 2) (60 * (dd + 1) + 49) (xn res.2.1 - xn K0)) (hret : ∀ (b1 : Nat) (H1 : Heap) (locs1 : List Loc) (ls1 : Array Slot) (pc : Nat), cMW s A v a b1 K0 res.2.1 res.2.2 H1 locs1 → decode cX3_index pc = .ok (.return_, 1) → W p l e R s m args below meth c H1 locs1 (xn res.2.1 - xn K0) (2 * (xn res.2.1 - xn K0)) Q (F0 m pc ls1 [])) (x1 : Int32) (x2 : Int32) (z0 : Int32) (F : PF) (G : PG) (hm : cb_X3_index_50 fu rc x1 x2 z0 F G = some res) {b : Nat} {H : Heap} {locs : List Loc} (hw : cMW s A v a b K0 F G H locs) {ls : Array Slot} (hl : lv_has ls 4 [(0, .ref (a 203)), (1, .int x1), (2, .int x2)]) : W p l e R s m args below meth c H locs (xn F - xn K0) (2 * (xn F - xn K0)) Q (F0 m 50 ls [.int z0]) := by
  have hx := C.1
  have hb := C.2.1
  unfold cb_X3_index_50 at hm
  refine lv_istore_n (lv' := [(3, .int z0), (0, .ref (a 203)), (1, .int x1), (2, .int x2)]) hx hb dX3_index_50 rfl hl (by decide) rfl (fun ls hl => ?_)
  refine lv_aload_n hx hb dX3_index_51 rfl (lv_at hl 1 rfl) ?_
  refine cg_X3_23 C hw dX3_index_52 ?_
  refine lv_iload_n hx hb dX3_index_55 rfl (lv_at hl 0 rfl) ?_
  refine lv_if_eq (tgt := 64) hx hb dX3_index_56 (by decide) (fun c_1 => ?_) (fun c_1 => ?_)
  · have hm := (if_pos c_1).symm.trans hm
    exact cw_X3_index_64 fu rc hr hrn C hret x1 x2 F G hm hw (lv_sub hl [1, 2, 3] rfl)
  · have hm := (if_neg c_1).symm.trans hm
    exact cw_X3_index_59 fu rc hr hrn C hret x1 x2 F G hm hw (lv_sub hl [1, 2, 3] rfl)
theorem cn_X3_index_49 (fu : Nat) (rc : RC) (hrn : ∀ (i : Nat) (x y : Int32) (F : PF) (G : PG) (q : Int32 × PF × PG), rc i x y F G = some q → xn F ≤ xn q.2.1) {res : Int32 × PF × PG} (x1 : Int32) (x2 : Int32) (F : PF) (G : PG) (hm : cb_X3_index_49 fu rc x1 x2 F G = some res) : xn F ≤ xn res.2.1 := by
  unfold cb_X3_index_49 at hm
  exact (cn_X3_index_50 fu rc hrn x1 x2 0 F G hm)
theorem cw_X3_index_49 (fu : Nat) (rc : RC) {dd : Nat} (hr : cH1 l v a rc dd) (hrn : ∀ (i : Nat) (x y : Int32) (F : PF) (G : PG) (q : Int32 × PF × PG), rc i x y F G = some q → xn F ≤ xn q.2.1) {res : Int32 × PF × PG} (C : cMC p R s m args c A v RX3 cX3_index 4 (dd + 1 + 2) (60 * (dd + 1) + 49) (xn res.2.1 - xn K0)) (hret : ∀ (b1 : Nat) (H1 : Heap) (locs1 : List Loc) (ls1 : Array Slot) (pc : Nat), cMW s A v a b1 K0 res.2.1 res.2.2 H1 locs1 → decode cX3_index pc = .ok (.return_, 1) → W p l e R s m args below meth c H1 locs1 (xn res.2.1 - xn K0) (2 * (xn res.2.1 - xn K0)) Q (F0 m pc ls1 [])) (x1 : Int32) (x2 : Int32) (F : PF) (G : PG) (hm : cb_X3_index_49 fu rc x1 x2 F G = some res) {b : Nat} {H : Heap} {locs : List Loc} (hw : cMW s A v a b K0 F G H locs) {ls : Array Slot} (hl : lv_has ls 4 [(0, .ref (a 203)), (1, .int x1), (2, .int x2)]) : W p l e R s m args below meth c H locs (xn F - xn K0) (2 * (xn F - xn K0)) Q (F0 m 49 ls []) := by
  have hx := C.1
  have hb := C.2.1
  unfold cb_X3_index_49 at hm
  refine lv_iconst (v := 0) hx hb dX3_index_49 (by decide) ?_
  exact cw_X3_index_50 fu rc hr hrn C hret x1 x2 0 F G hm hw (lv_sub hl [0, 1, 2] rfl)
theorem cn_X3_index_45 (fu : Nat) (rc : RC) (hrn : ∀ (i : Nat) (x y : Int32) (F : PF) (G : PG) (q : Int32 × PF × PG), rc i x y F G = some q → xn F ≤ xn q.2.1) {res : Int32 × PF × PG} (x1 : Int32) (x2 : Int32) (F : PF) (G : PG) (hm : cb_X3_index_45 fu rc x1 x2 F G = some res) : xn F ≤ xn res.2.1 := by
  unfold cb_X3_index_45 at hm
  exact (cn_X3_index_50 fu rc hrn x1 x2 1 F G hm)
theorem cw_X3_index_45 (fu : Nat) (rc : RC) {dd : Nat} (hr : cH1 l v a rc dd) (hrn : ∀ (i : Nat) (x y : Int32) (F : PF) (G : PG) (q : Int32 × PF × PG), rc i x y F G = some q → xn F ≤ xn q.2.1) {res : Int32 × PF × PG} (C : cMC p R s m args c A v RX3 cX3_index 4 (dd + 1 + 2) (60 * (dd + 1) + 49) (xn res.2.1 - xn K0)) (hret : ∀ (b1 : Nat) (H1 : Heap) (locs1 : List Loc) (ls1 : Array Slot) (pc : Nat), cMW s A v a b1 K0 res.2.1 res.2.2 H1 locs1 → decode cX3_index pc = .ok (.return_, 1) → W p l e R s m args below meth c H1 locs1 (xn res.2.1 - xn K0) (2 * (xn res.2.1 - xn K0)) Q (F0 m pc ls1 [])) (x1 : Int32) (x2 : Int32) (F : PF) (G : PG) (hm : cb_X3_index_45 fu rc x1 x2 F G = some res) {b : Nat} {H : Heap} {locs : List Loc} (hw : cMW s A v a b K0 F G H locs) {ls : Array Slot} (hl : lv_has ls 4 [(0, .ref (a 203)), (1, .int x1), (2, .int x2)]) : W p l e R s m args below meth c H locs (xn F - xn K0) (2 * (xn F - xn K0)) Q (F0 m 45 ls []) := by
  have hx := C.1
  have hb := C.2.1
  unfold cb_X3_index_45 at hm
  refine lv_iconst (v := 1) hx hb dX3_index_45 (by decide) ?_
  refine lv_goto (tgt := 50) hx hb dX3_index_46 (by decide) ?_
  exact cw_X3_index_50 fu rc hr hrn C hret x1 x2 1 F G hm hw (lv_sub hl [0, 1, 2] rfl)
theorem cn_X3_index_42 (fu : Nat) (rc : RC) (hrn : ∀ (i : Nat) (x y : Int32) (F : PF) (G : PG) (q : Int32 × PF × PG), rc i x y F G = some q → xn F ≤ xn q.2.1) {res : Int32 × PF × PG} (x1 : Int32) (x2 : Int32) (z0 : Int32) (F : PF) (G : PG) (hm : cb_X3_index_42 fu rc x1 x2 z0 F G = some res) : xn F ≤ xn res.2.1 := by
  unfold cb_X3_index_42 at hm
  by_cases c_1 : z0 = (0 : Int32)
  · have hm := (if_pos c_1).symm.trans hm
    exact (cn_X3_index_45 fu rc hrn x1 x2 F G hm)
  · have hm := (if_neg c_1).symm.trans hm
    exact (cn_X3_index_49 fu rc hrn x1 x2 F G hm)
theorem cw_X3_index_42 (fu : Nat) (rc : RC) {dd : Nat} (hr : cH1 l v a rc dd) (hrn : ∀ (i : Nat) (x y : Int32) (F : PF) (G : PG) (q : Int32 × PF × PG), rc i x y F G = some q → xn F ≤ xn q.2.1) {res : Int32 × PF × PG} (C : cMC p R s m args c A v RX3 cX3_index 4 (dd + 1 + 2) (60 * (dd + 1) + 49) (xn res.2.1 - xn K0)) (hret : ∀ (b1 : Nat) (H1 : Heap) (locs1 : List Loc) (ls1 : Array Slot) (pc : Nat), cMW s A v a b1 K0 res.2.1 res.2.2 H1 locs1 → decode cX3_index pc = .ok (.return_, 1) → W p l e R s m args below meth c H1 locs1 (xn res.2.1 - xn K0) (2 * (xn res.2.1 - xn K0)) Q (F0 m pc ls1 [])) (x1 : Int32) (x2 : Int32) (z0 : Int32) (F : PF) (G : PG) (hm : cb_X3_index_42 fu rc x1 x2 z0 F G = some res) {b : Nat} {H : Heap} {locs : List Loc} (hw : cMW s A v a b K0 F G H locs) {ls : Array Slot} (hl : lv_has ls 4 [(0, .ref (a 203)), (1, .int x1), (2, .int x2)]) : W p l e R s m args below meth c H locs (xn F - xn K0) (2 * (xn F - xn K0)) Q (F0 m 42 ls [.int z0]) := by
  have hx := C.1
  have hb := C.2.1
  unfold cb_X3_index_42 at hm
  refine lv_if_ne (tgt := 49) hx hb dX3_index_42 (by decide) (fun c_1 => ?_) (fun c_1 => ?_)
  · have hm := (if_neg c_1).symm.trans hm
    exact cw_X3_index_49 fu rc hr hrn C hret x1 x2 F G hm hw (lv_sub hl [0, 1, 2] rfl)
  · have hm := (if_pos c_1).symm.trans hm
    exact cw_X3_index_45 fu rc hr hrn C hret x1 x2 F G hm hw (lv_sub hl [0, 1, 2] rfl)
theorem cn_X3_index_34 (fu : Nat) (rc : RC) (hrn : ∀ (i : Nat) (x y : Int32) (F : PF) (G : PG) (q : Int32 × PF × PG), rc i x y F G = some q → xn F ≤ xn q.2.1) {res : Int32 × PF × PG} (x1 : Int32) (x2 : Int32) (F : PF) (G : PG) (hm : cb_X3_index_34 fu rc x1 x2 F G = some res) : xn F ≤ xn res.2.1 := by
  unfold cb_X3_index_34 at hm
  obtain ⟨⟨r1, F1, G1⟩, hc, hm⟩ := bind_elim hm
  exact Nat.le_trans (cn_X5_size fu x1 F G _ hc) (cn_X3_index_42 fu rc hrn x1 x2 r1 F1 G1 hm)
theorem cw_X3_index_34 (fu : Nat) (rc : RC) {dd : Nat} (hr : cH1 l v a rc dd) (hrn : ∀ (i : Nat) (x y : Int32) (F : PF) (G : PG) (q : Int32 × PF × PG), rc i x y F G = some q → xn F ≤ xn q.2.1) {res : Int32 × PF × PG} (C : cMC p R s m args c A v RX3 cX3_index 4 (dd + 1 + 2) (60 * (dd + 1) + 49) (xn res.2.1 - xn K0)) (hret : ∀ (b1 : Nat) (H1 : Heap) (locs1 : List Loc) (ls1 : Array Slot) (pc : Nat), cMW s A v a b1 K0 res.2.1 res.2.2 H1 locs1 → decode cX3_index pc = .ok (.return_, 1) → W p l e R s m args below meth c H1 locs1 (xn res.2.1 - xn K0) (2 * (xn res.2.1 - xn K0)) Q (F0 m pc ls1 [])) (x1 : Int32) (x2 : Int32) (F : PF) (G : PG) (hm : cb_X3_index_34 fu rc x1 x2 F G = some res) {b : Nat} {H : Heap} {locs : List Loc} (hw : cMW s A v a b K0 F G H locs) {ls : Array Slot} (hl : lv_has ls 4 [(0, .ref (a 203)), (1, .int x1), (2, .int x2)]) : W p l e R s m args below meth c H locs (xn F - xn K0) (2 * (xn F - xn K0)) Q (F0 m 34 ls []) := by
  have hx := C.1
  have hb := C.2.1
  unfold cb_X3_index_34 at hm
  refine lv_aload_n hx hb dX3_index_34 rfl (lv_at hl 0 rfl) ?_
  refine cg_X3_19 C hw dX3_index_35 ?_
  refine lv_iload_n hx hb dX3_index_38 rfl (lv_at hl 1 rfl) ?_
  obtain ⟨⟨r1, F1, G1⟩, hc, hm⟩ := bind_elim hm
  refine ccallI (n := 1) (As := [.int x1]) (rest := []) C hw (ck_X5_size l v a _ _ fu x1 F G r1 F1 G1 hc) (cn_X5_size fu x1 F G _ hc) (Nat.sub_le_sub_right (cn_X3_index_42 fu rc hrn x1 x2 r1 F1 G1 hm) _) (crecv_X5 C hw) cm_438 cm_439 cm_440 cm_266 cm_441 (by decide +kernel) rfl (by omega) (by omega) hl.1 rfl (Nat.le_of_ble_eq_true rfl) dX3_index_39 (fun b H locs hw => ?_)
  exact cw_X3_index_42 fu rc hr hrn C hret x1 x2 r1 F1 G1 hm hw (lv_sub hl [0, 1, 2] rfl)
theorem cn_X3_index_25 (fu : Nat) (rc : RC) (hrn : ∀ (i : Nat) (x y : Int32) (F : PF) (G : PG) (q : Int32 × PF × PG), rc i x y F G = some q → xn F ≤ xn q.2.1) {res : Int32 × PF × PG} (x1 : Int32) (x2 : Int32) (F : PF) (G : PG) (hm : cb_X3_index_25 fu rc x1 x2 F G = some res) : xn F ≤ xn res.2.1 := by
  unfold cb_X3_index_25 at hm
  obtain ⟨⟨r1, F1, G1⟩, hc, hm⟩ := bind_elim hm
  exact Nat.le_trans (cn_X2_closesWith fu 22 F G _ hc) (cn_X3_index_34 fu rc hrn x1 x2 F1 G1 hm)
theorem cw_X3_index_25 (fu : Nat) (rc : RC) {dd : Nat} (hr : cH1 l v a rc dd) (hrn : ∀ (i : Nat) (x y : Int32) (F : PF) (G : PG) (q : Int32 × PF × PG), rc i x y F G = some q → xn F ≤ xn q.2.1) {res : Int32 × PF × PG} (C : cMC p R s m args c A v RX3 cX3_index 4 (dd + 1 + 2) (60 * (dd + 1) + 49) (xn res.2.1 - xn K0)) (hret : ∀ (b1 : Nat) (H1 : Heap) (locs1 : List Loc) (ls1 : Array Slot) (pc : Nat), cMW s A v a b1 K0 res.2.1 res.2.2 H1 locs1 → decode cX3_index pc = .ok (.return_, 1) → W p l e R s m args below meth c H1 locs1 (xn res.2.1 - xn K0) (2 * (xn res.2.1 - xn K0)) Q (F0 m pc ls1 [])) (x1 : Int32) (x2 : Int32) (F : PF) (G : PG) (hm : cb_X3_index_25 fu rc x1 x2 F G = some res) {b : Nat} {H : Heap} {locs : List Loc} (hw : cMW s A v a b K0 F G H locs) {ls : Array Slot} (hl : lv_has ls 4 [(0, .ref (a 203)), (1, .int x1), (2, .int x2)]) : W p l e R s m args below meth c H locs (xn F - xn K0) (2 * (xn F - xn K0)) Q (F0 m 25 ls []) := by
  have hx := C.1
  have hb := C.2.1
  unfold cb_X3_index_25 at hm
  refine lv_aload_n hx hb dX3_index_25 rfl (lv_at hl 0 rfl) ?_
  refine cg_X3_15 C hw dX3_index_26 ?_
  refine lv_bipush (v := 22) hx hb dX3_index_29 (by decide) ?_
  obtain ⟨⟨r1, F1, G1⟩, hc, hm⟩ := bind_elim hm
  refine ccallV (n := 1) (As := [.int 22]) (rest := []) C hw (ck_X2_closesWith l v a _ _ fu 22 F G r1 F1 G1 hc) (cn_X2_closesWith fu 22 F G _ hc) (Nat.sub_le_sub_right (cn_X3_index_34 fu rc hrn x1 x2 F1 G1 hm) _) (crecv_X2 C hw) cm_458 cm_459 cm_460 cm_307 cm_461 (by decide +kernel) rfl (by omega) (by omega) hl.1 rfl (Nat.le_of_ble_eq_true rfl) dX3_index_31 (fun b H locs hw => ?_)
  exact cw_X3_index_34 fu rc hr hrn C hret x1 x2 F1 G1 hm hw (lv_sub hl [0, 1, 2] rfl)
theorem cn_X3_index_21 (fu : Nat) (rc : RC) (hrn : ∀ (i : Nat) (x y : Int32) (F : PF) (G : PG) (q : Int32 × PF × PG), rc i x y F G = some q → xn F ≤ xn q.2.1) {res : Int32 × PF × PG} (x1 : Int32) (x2 : Int32) (F : PF) (G : PG) (hm : cb_X3_index_21 fu rc x1 x2 F G = some res) : xn F ≤ xn res.2.1 := by
  unfold cb_X3_index_21 at hm
  obtain ⟨⟨r1, F1, G1⟩, hc, hm⟩ := bind_elim hm
  exact Nat.le_trans (hrn _ _ _ _ _ _ hc) (cn_X3_index_25 fu rc hrn x1 x2 F1 G1 hm)
theorem cw_X3_index_21 (fu : Nat) (rc : RC) {dd : Nat} (hr : cH1 l v a rc dd) (hrn : ∀ (i : Nat) (x y : Int32) (F : PF) (G : PG) (q : Int32 × PF × PG), rc i x y F G = some q → xn F ≤ xn q.2.1) {res : Int32 × PF × PG} (C : cMC p R s m args c A v RX3 cX3_index 4 (dd + 1 + 2) (60 * (dd + 1) + 49) (xn res.2.1 - xn K0)) (hret : ∀ (b1 : Nat) (H1 : Heap) (locs1 : List Loc) (ls1 : Array Slot) (pc : Nat), cMW s A v a b1 K0 res.2.1 res.2.2 H1 locs1 → decode cX3_index pc = .ok (.return_, 1) → W p l e R s m args below meth c H1 locs1 (xn res.2.1 - xn K0) (2 * (xn res.2.1 - xn K0)) Q (F0 m pc ls1 [])) (x1 : Int32) (x2 : Int32) (F : PF) (G : PG) (hm : cb_X3_index_21 fu rc x1 x2 F G = some res) {b : Nat} {H : Heap} {locs : List Loc} (hw : cMW s A v a b K0 F G H locs) {ls : Array Slot} (hl : lv_has ls 4 [(0, .ref (a 203)), (1, .int x1), (2, .int x2)]) : W p l e R s m args below meth c H locs (xn F - xn K0) (2 * (xn F - xn K0)) Q (F0 m 21 ls []) := by
  have hx := C.1
  have hb := C.2.1
  unfold cb_X3_index_21 at hm
  refine lv_aload_n hx hb dX3_index_21 rfl (lv_at hl 0 rfl) ?_
  obtain ⟨⟨r1, F1, G1⟩, hc, hm⟩ := bind_elim hm
  refine ccallV (n := 0) (As := []) (rest := []) C hw (hr.2.1 _ _ F G r1 F1 G1 hc) (hrn _ _ _ _ _ _ hc) (Nat.sub_le_sub_right (cn_X3_index_25 fu rc hrn x1 x2 F1 G1 hm) _) (crecv_X3 C hw) cm_353 cm_354 cm_355 cm_301 cm_356 (by decide +kernel) rfl (by omega) (by omega) hl.1 rfl (Nat.le_of_ble_eq_true rfl) dX3_index_22 (fun b H locs hw => ?_)
  exact cw_X3_index_25 fu rc hr hrn C hret x1 x2 F1 G1 hm hw (lv_sub hl [0, 1, 2] rfl)
theorem cn_X3_index_20 (fu : Nat) (rc : RC) (hrn : ∀ (i : Nat) (x y : Int32) (F : PF) (G : PG) (q : Int32 × PF × PG), rc i x y F G = some q → xn F ≤ xn q.2.1) {res : Int32 × PF × PG} (F : PF) (G : PG) (hm : cb_X3_index_20 fu rc F G = some res) : xn F ≤ xn res.2.1 := by
  unfold cb_X3_index_20 at hm
  obtain rfl := Option.some.inj hm
  exact Nat.le_refl _
theorem cw_X3_index_20 (fu : Nat) (rc : RC) {dd : Nat} (hr : cH1 l v a rc dd) (hrn : ∀ (i : Nat) (x y : Int32) (F : PF) (G : PG) (q : Int32 × PF × PG), rc i x y F G = some q → xn F ≤ xn q.2.1) {res : Int32 × PF × PG} (C : cMC p R s m args c A v RX3 cX3_index 4 (dd + 1 + 2) (60 * (dd + 1) + 49) (xn res.2.1 - xn K0)) (hret : ∀ (b1 : Nat) (H1 : Heap) (locs1 : List Loc) (ls1 : Array Slot) (pc : Nat), cMW s A v a b1 K0 res.2.1 res.2.2 H1 locs1 → decode cX3_index pc = .ok (.return_, 1) → W p l e R s m args below meth c H1 locs1 (xn res.2.1 - xn K0) (2 * (xn res.2.1 - xn K0)) Q (F0 m pc ls1 [])) (F : PF) (G : PG) (hm : cb_X3_index_20 fu rc F G = some res) {b : Nat} {H : Heap} {locs : List Loc} (hw : cMW s A v a b K0 F G H locs) {ls : Array Slot} (hl : lv_has ls 4 []) : W p l e R s m args below meth c H locs (xn F - xn K0) (2 * (xn F - xn K0)) Q (F0 m 20 ls []) := by
  have hx := C.1
  have hb := C.2.1
  unfold cb_X3_index_20 at hm
  obtain rfl := Option.some.inj hm
  exact hret _ _ _ _ _ hw dX3_index_20
theorem cn_X3_index_17 (fu : Nat) (rc : RC) (hrn : ∀ (i : Nat) (x y : Int32) (F : PF) (G : PG) (q : Int32 × PF × PG), rc i x y F G = some q → xn F ≤ xn q.2.1) {res : Int32 × PF × PG} (x1 : Int32) (x2 : Int32) (z0 : Int32) (F : PF) (G : PG) (hm : cb_X3_index_17 fu rc x1 x2 z0 F G = some res) : xn F ≤ xn res.2.1 := by
  unfold cb_X3_index_17 at hm
  by_cases c_1 : z0 = (0 : Int32)
  · have hm := (if_pos c_1).symm.trans hm
    exact (cn_X3_index_20 fu rc hrn F G hm)
  · have hm := (if_neg c_1).symm.trans hm
    exact (cn_X3_index_21 fu rc hrn x1 x2 F G hm)
theorem cw_X3_index_17 (fu : Nat) (rc : RC) {dd : Nat} (hr : cH1 l v a rc dd) (hrn : ∀ (i : Nat) (x y : Int32) (F : PF) (G : PG) (q : Int32 × PF × PG), rc i x y F G = some q → xn F ≤ xn q.2.1) {res : Int32 × PF × PG} (C : cMC p R s m args c A v RX3 cX3_index 4 (dd + 1 + 2) (60 * (dd + 1) + 49) (xn res.2.1 - xn K0)) (hret : ∀ (b1 : Nat) (H1 : Heap) (locs1 : List Loc) (ls1 : Array Slot) (pc : Nat), cMW s A v a b1 K0 res.2.1 res.2.2 H1 locs1 → decode cX3_index pc = .ok (.return_, 1) → W p l e R s m args below meth c H1 locs1 (xn res.2.1 - xn K0) (2 * (xn res.2.1 - xn K0)) Q (F0 m pc ls1 [])) (x1 : Int32) (x2 : Int32) (z0 : Int32) (F : PF) (G : PG) (hm : cb_X3_index_17 fu rc x1 x2 z0 F G = some res) {b : Nat} {H : Heap} {locs : List Loc} (hw : cMW s A v a b K0 F G H locs) {ls : Array Slot} (hl : lv_has ls 4 [(0, .ref (a 203)), (1, .int x1), (2, .int x2)]) : W p l e R s m args below meth c H locs (xn F - xn K0) (2 * (xn F - xn K0)) Q (F0 m 17 ls [.int z0]) := by
  have hx := C.1
  have hb := C.2.1
  unfold cb_X3_index_17 at hm
  refine lv_if_ne (tgt := 21) hx hb dX3_index_17 (by decide) (fun c_1 => ?_) (fun c_1 => ?_)
  · have hm := (if_neg c_1).symm.trans hm
    exact cw_X3_index_21 fu rc hr hrn C hret x1 x2 F G hm hw (lv_sub hl [0, 1, 2] rfl)
  · have hm := (if_pos c_1).symm.trans hm
    exact cw_X3_index_20 fu rc hr hrn C hret F G hm hw (lv_sub hl [] rfl)
theorem cn_X3_index_0 (fu : Nat) (rc : RC) (hrn : ∀ (i : Nat) (x y : Int32) (F : PF) (G : PG) (q : Int32 × PF × PG), rc i x y F G = some q → xn F ≤ xn q.2.1) {res : Int32 × PF × PG} (x1 : Int32) (F : PF) (G : PG) (hm : cb_X3_index_0 fu rc x1 F G = some res) : xn F ≤ xn res.2.1 := by
  unfold cb_X3_index_0 at hm
  obtain ⟨⟨r1, F1, G1⟩, hc, hm⟩ := bind_elim hm
  exact Nat.le_trans (cn_X2_opens fu 21 F G _ hc) (cn_X3_index_17 fu rc hrn x1 (F 13) r1 F1 G1 hm)
theorem cw_X3_index_0 (fu : Nat) (rc : RC) {dd : Nat} (hr : cH1 l v a rc dd) (hrn : ∀ (i : Nat) (x y : Int32) (F : PF) (G : PG) (q : Int32 × PF × PG), rc i x y F G = some q → xn F ≤ xn q.2.1) {res : Int32 × PF × PG} (C : cMC p R s m args c A v RX3 cX3_index 4 (dd + 1 + 2) (60 * (dd + 1) + 49) (xn res.2.1 - xn K0)) (hret : ∀ (b1 : Nat) (H1 : Heap) (locs1 : List Loc) (ls1 : Array Slot) (pc : Nat), cMW s A v a b1 K0 res.2.1 res.2.2 H1 locs1 → decode cX3_index pc = .ok (.return_, 1) → W p l e R s m args below meth c H1 locs1 (xn res.2.1 - xn K0) (2 * (xn res.2.1 - xn K0)) Q (F0 m pc ls1 [])) (x1 : Int32) (F : PF) (G : PG) (hm : cb_X3_index_0 fu rc x1 F G = some res) {b : Nat} {H : Heap} {locs : List Loc} (hw : cMW s A v a b K0 F G H locs) {ls : Array Slot} (hl : lv_has ls 4 [(0, .ref (a 203)), (1, .int x1)]) : W p l e R s m args below meth c H locs (xn F - xn K0) (2 * (xn F - xn K0)) Q (F0 m 0 ls []) := by
  have hx := C.1
  have hb := C.2.1
  unfold cb_X3_index_0 at hm
  refine lv_aload_n hx hb dX3_index_0 rfl (lv_at hl 0 rfl) ?_
  refine cg_X3_15 C hw dX3_index_1 ?_
  refine cg_X3_72 C hw dX3_index_4 ?_
  refine lv_istore_n (lv' := [(2, .int (F 13)), (0, .ref (a 203)), (1, .int x1)]) hx hb dX3_index_7 rfl hl (by decide) rfl (fun ls hl => ?_)
  refine lv_aload_n hx hb dX3_index_8 rfl (lv_at hl 1 rfl) ?_
  refine cg_X3_15 C hw dX3_index_9 ?_
  refine lv_bipush (v := 21) hx hb dX3_index_12 (by decide) ?_
  obtain ⟨⟨r1, F1, G1⟩, hc, hm⟩ := bind_elim hm
  refine ccallI (n := 1) (As := [.int 21]) (rest := []) C hw (ck_X2_opens l v a _ _ fu 21 F G r1 F1 G1 hc) (cn_X2_opens fu 21 F G _ hc) (Nat.sub_le_sub_right (cn_X3_index_17 fu rc hrn x1 (F 13) r1 F1 G1 hm) _) (crecv_X2 C hw) cm_362 cm_363 cm_364 cm_307 cm_365 (by decide +kernel) rfl (by omega) (by omega) hl.1 rfl (Nat.le_of_ble_eq_true rfl) dX3_index_14 (fun b H locs hw => ?_)
  exact cw_X3_index_17 fu rc hr hrn C hret x1 (F 13) r1 F1 G1 hm hw (lv_sub hl [1, 2, 0] rfl)
theorem cm_X3_index (fu : Nat) (rc : RC) (hrn : ∀ (i : Nat) (x y : Int32) (F : PF) (G : PG) (q : Int32 × PF × PG), rc i x y F G = some q → xn F ≤ xn q.2.1) (x1 : Int32) (F : PF) (G : PG) (q : Int32 × PF × PG) (hm : ch_X3_index fu rc x1 F G = some q) : xn F ≤ xn q.2.1 := cn_X3_index_0 fu rc hrn x1 F G hm
theorem cq_X3_index (l : Launch) (v : EV) (a : Nat → Nat) (b sz : Nat) (fu : Nat) (rc : RC) {dd : Nat} (hr : cH1 l v a rc dd) (hrn : ∀ (i : Nat) (x y : Int32) (F : PF) (G : PG) (q : Int32 × PF × PG), rc i x y F G = some q → xn F ≤ xn q.2.1) (x1 : Int32) (F : PF) (G : PG) (r : Int32) (F1 : PF) (G1 : PG) (hm : ch_X3_index fu rc x1 F G = some (r, F1, G1)) : cMV l yX3_index cX3_index 4 (dd + 1 + 2) (60 * (dd + 1) + 49) v a b sz [.ref (a 203), .int x1] F G F1 G1 := cMV.of (by decide) (Nat.le_of_ble_eq_true rfl) (fun p e R s m args below meth c Q A H locs ls C hw hl hret => cw_X3_index_0 fu rc hr hrn (res := (r, F1, G1)) C hret x1 F G hm hw hl)
def cb_X3_joinedOperands_168 (fu : Nat) (rc : RC) (F : PF) (G : PG) : PR := some (0, F, G)
def cb_X3_joinedOperands_162 (fu : Nat) (rc : RC) (x1 : Int32) (F : PF) (G : PG) : PR := (cf_X3_settle fu x1 0 F G).bind (fun q => cb_X3_joinedOperands_168 fu rc q.2.1 q.2.2)
def cb_X3_joinedOperands_156 (fu : Nat) (rc : RC) (ag_9 : Int32 → Int32 → Int32 → PF → PG → PR) (x1 : Int32) (x2 : Int32) (x3 : Int32) (F : PF) (G : PG) : PR := ag_9 x1 x2 (x3 + 1) F G
def cb_X3_joinedOperands_149 (fu : Nat) (rc : RC) (ag_9 : Int32 → Int32 → Int32 → PF → PG → PR) (x1 : Int32) (x2 : Int32) (x3 : Int32) (F : PF) (G : PG) : PR := (cf_X2_next fu F G).bind (fun q => cb_X3_joinedOperands_156 fu rc ag_9 x1 x2 x3 q.2.1 q.2.2)
def cb_X3_joinedOperands_138 (fu : Nat) (rc : RC) (ag_9 : Int32 → Int32 → Int32 → PF → PG → PR) (x1 : Int32) (x2 : Int32) (x3 : Int32) (F : PF) (G : PG) : PR := (cf_X3_waits fu (F 11) F G).bind (fun q => cb_X3_joinedOperands_149 fu rc ag_9 x1 x2 x3 q.2.1 q.2.2)
def cb_X3_joinedOperands_135 (fu : Nat) (rc : RC) (ag_9 : Int32 → Int32 → Int32 → PF → PG → PR) (x1 : Int32) (x2 : Int32) (x3 : Int32) (z0 : Int32) (z1 : Int32) (F : PF) (G : PG) : PR := (cf_X3_settle fu z1 z0 F G).bind (fun q => cb_X3_joinedOperands_138 fu rc ag_9 x1 x2 x3 q.2.1 q.2.2)
def cb_X3_joinedOperands_123 (fu : Nat) (rc : RC) (ag_9 : Int32 → Int32 → Int32 → PF → PG → PR) (x1 : Int32) (x2 : Int32) (x3 : Int32) (F : PF) (G : PG) : PR := (cf_X3_strength fu (F 11) F G).bind (fun q => cb_X3_joinedOperands_135 fu rc ag_9 x1 x2 x3 q.1 x1 q.2.1 q.2.2)
def cb_X3_joinedOperands_118 (fu : Nat) (rc : RC) (ag_9 : Int32 → Int32 → Int32 → PF → PG → PR) (x1 : Int32) (x3 : Int32) (z0 : Int32) (F : PF) (G : PG) : PR := if z0 = (0 : Int32) then cb_X3_joinedOperands_156 fu rc ag_9 x1 z0 x3 F G else cb_X3_joinedOperands_123 fu rc ag_9 x1 z0 x3 F G
def cb_X3_joinedOperands_117 (fu : Nat) (rc : RC) (ag_9 : Int32 → Int32 → Int32 → PF → PG → PR) (x1 : Int32) (x3 : Int32) (F : PF) (G : PG) : PR := cb_X3_joinedOperands_118 fu rc ag_9 x1 x3 0 F G
def cb_X3_joinedOperands_113 (fu : Nat) (rc : RC) (ag_9 : Int32 → Int32 → Int32 → PF → PG → PR) (x1 : Int32) (x3 : Int32) (F : PF) (G : PG) : PR := cb_X3_joinedOperands_118 fu rc ag_9 x1 x3 1 F G
def cb_X3_joinedOperands_101 (fu : Nat) (rc : RC) (ag_9 : Int32 → Int32 → Int32 → PF → PG → PR) (x1 : Int32) (x3 : Int32) (F : PF) (G : PG) : PR := if (61 : Int32) < (F 11) then cb_X3_joinedOperands_117 fu rc ag_9 x1 x3 F G else cb_X3_joinedOperands_113 fu rc ag_9 x1 x3 F G
def cb_X3_joinedOperands_89 (fu : Nat) (rc : RC) (ag_9 : Int32 → Int32 → Int32 → PF → PG → PR) (x1 : Int32) (x3 : Int32) (F : PF) (G : PG) : PR := if (F 11) < (43 : Int32) then cb_X3_joinedOperands_117 fu rc ag_9 x1 x3 F G else cb_X3_joinedOperands_101 fu rc ag_9 x1 x3 F G
def cb_X3_joinedOperands_85 (fu : Nat) (rc : RC) (ag_9 : Int32 → Int32 → Int32 → PF → PG → PR) (x1 : Int32) (x3 : Int32) (F : PF) (G : PG) : PR := (rc 5 0 0 F G).bind (fun q => cb_X3_joinedOperands_89 fu rc ag_9 x1 x3 q.2.1 q.2.2)
def cb_X3_joinedOperands_79 (fu : Nat) (rc : RC) (ag_9 : Int32 → Int32 → Int32 → PF → PG → PR) (ag_23 : Int32 → Int32 → Int32 → PF → PG → PR) (x1 : Int32) (x3 : Int32) (x4 : Int32) (F : PF) (G : PG) : PR := ag_23 x1 x3 (x4 + 1) F G
def cb_X3_joinedOperands_72 (fu : Nat) (rc : RC) (ag_9 : Int32 → Int32 → Int32 → PF → PG → PR) (ag_23 : Int32 → Int32 → Int32 → PF → PG → PR) (x1 : Int32) (x3 : Int32) (x4 : Int32) (F : PF) (G : PG) : PR := (cf_X2_next fu F G).bind (fun q => cb_X3_joinedOperands_79 fu rc ag_9 ag_23 x1 x3 x4 q.2.1 q.2.2)
def cb_X3_joinedOperands_69 (fu : Nat) (rc : RC) (ag_9 : Int32 → Int32 → Int32 → PF → PG → PR) (ag_23 : Int32 → Int32 → Int32 → PF → PG → PR) (x1 : Int32) (x3 : Int32) (x4 : Int32) (z0 : Int32) (F : PF) (G : PG) : PR := (cf_X3_waits fu z0 F G).bind (fun q => cb_X3_joinedOperands_72 fu rc ag_9 ag_23 x1 x3 x4 q.2.1 q.2.2)
def cb_X3_joinedOperands_62 (fu : Nat) (rc : RC) (ag_9 : Int32 → Int32 → Int32 → PF → PG → PR) (ag_23 : Int32 → Int32 → Int32 → PF → PG → PR) (x1 : Int32) (x3 : Int32) (x4 : Int32) (F : PF) (G : PG) : PR := cb_X3_joinedOperands_69 fu rc ag_9 ag_23 x1 x3 x4 (F 11) F G
def cb_X3_joinedOperands_57 (fu : Nat) (rc : RC) (ag_9 : Int32 → Int32 → Int32 → PF → PG → PR) (ag_23 : Int32 → Int32 → Int32 → PF → PG → PR) (x1 : Int32) (x3 : Int32) (x4 : Int32) (F : PF) (G : PG) : PR := cb_X3_joinedOperands_69 fu rc ag_9 ag_23 x1 x3 x4 64 F G
def cb_X3_joinedOperands_44 (fu : Nat) (rc : RC) (ag_9 : Int32 → Int32 → Int32 → PF → PG → PR) (ag_23 : Int32 → Int32 → Int32 → PF → PG → PR) (x1 : Int32) (x3 : Int32) (x4 : Int32) (F : PF) (G : PG) : PR := if (F 11) = (58 : Int32) then cb_X3_joinedOperands_57 fu rc ag_9 ag_23 x1 x3 x4 F G else cb_X3_joinedOperands_62 fu rc ag_9 ag_23 x1 x3 x4 F G
def cb_X3_joinedOperands_41 (fu : Nat) (rc : RC) (ag_9 : Int32 → Int32 → Int32 → PF → PG → PR) (ag_23 : Int32 → Int32 → Int32 → PF → PG → PR) (x1 : Int32) (x3 : Int32) (x4 : Int32) (z0 : Int32) (F : PF) (G : PG) : PR := if z0 = (0 : Int32) then cb_X3_joinedOperands_85 fu rc ag_9 x1 x3 F G else cb_X3_joinedOperands_44 fu rc ag_9 ag_23 x1 x3 x4 F G
def cb_X3_joinedOperands_31 (fu : Nat) (rc : RC) (ag_9 : Int32 → Int32 → Int32 → PF → PG → PR) (ag_23 : Int32 → Int32 → Int32 → PF → PG → PR) (x1 : Int32) (x3 : Int32) (x4 : Int32) (F : PF) (G : PG) : PR := (cf_X3_isAhead fu (F 11) F G).bind (fun q => cb_X3_joinedOperands_41 fu rc ag_9 ag_23 x1 x3 x4 q.1 q.2.1 q.2.2)
def cb_X3_joinedOperands_23 (fu : Nat) (rc : RC) (ag_9 : Int32 → Int32 → Int32 → PF → PG → PR) (ag_23 : Int32 → Int32 → Int32 → PF → PG → PR) (x1 : Int32) (x3 : Int32) (x4 : Int32) (F : PF) (G : PG) : PR := if (4001 : Int32) ≤ x4 then cb_X3_joinedOperands_85 fu rc ag_9 x1 x3 F G else cb_X3_joinedOperands_31 fu rc ag_9 ag_23 x1 x3 x4 F G
def cl_X3_joinedOperands_23 (fu : Nat) (rc : RC) (ag_9 : Int32 → Int32 → Int32 → PF → PG → PR) : Nat → Int32 → Int32 → Int32 → PF → PG → PR
  | 0 => fun _ _ _ _ _ => none
  | n + 1 => fun x1 x3 x4 F G => cb_X3_joinedOperands_23 fu rc ag_9 (cl_X3_joinedOperands_23 fu rc ag_9 n) x1 x3 x4 F G
def cb_X3_joinedOperands_20 (fu : Nat) (rc : RC) (ag_9 : Int32 → Int32 → Int32 → PF → PG → PR) (x1 : Int32) (x3 : Int32) (F : PF) (G : PG) : PR := cl_X3_joinedOperands_23 fu rc ag_9 fu x1 x3 0 F G
def cb_X3_joinedOperands_16 (fu : Nat) (rc : RC) (ag_9 : Int32 → Int32 → Int32 → PF → PG → PR) (x1 : Int32) (x2 : Int32) (x3 : Int32) (F : PF) (G : PG) : PR := if x2 = (0 : Int32) then cb_X3_joinedOperands_162 fu rc x1 F G else cb_X3_joinedOperands_20 fu rc ag_9 x1 x3 F G
def cb_X3_joinedOperands_9 (fu : Nat) (rc : RC) (ag_9 : Int32 → Int32 → Int32 → PF → PG → PR) (x1 : Int32) (x2 : Int32) (x3 : Int32) (F : PF) (G : PG) : PR := if (4001 : Int32) ≤ x3 then cb_X3_joinedOperands_162 fu rc x1 F G else cb_X3_joinedOperands_16 fu rc ag_9 x1 x2 x3 F G
def cl_X3_joinedOperands_9 (fu : Nat) (rc : RC) : Nat → Int32 → Int32 → Int32 → PF → PG → PR
  | 0 => fun _ _ _ _ _ => none
  | n + 1 => fun x1 x2 x3 F G => cb_X3_joinedOperands_9 fu rc (cl_X3_joinedOperands_9 fu rc n) x1 x2 x3 F G
def cb_X3_joinedOperands_0 (fu : Nat) (rc : RC) (F : PF) (G : PG) : PR := cl_X3_joinedOperands_9 fu rc fu (F 21) 1 0 F G
def ch_X3_joinedOperands (fu : Nat) (rc : RC) (F : PF) (G : PG) : PR := cb_X3_joinedOperands_0 fu rc F G
theorem cn_X3_joinedOperands_168 (fu : Nat) (rc : RC) (hrn : ∀ (i : Nat) (x y : Int32) (F : PF) (G : PG) (q : Int32 × PF × PG), rc i x y F G = some q → xn F ≤ xn q.2.1) {res : Int32 × PF × PG} (F : PF) (G : PG) (hm : cb_X3_joinedOperands_168 fu rc F G = some res) : xn F ≤ xn res.2.1 := by
  unfold cb_X3_joinedOperands_168 at hm
  obtain rfl := Option.some.inj hm
  exact Nat.le_refl _
theorem cw_X3_joinedOperands_168 (fu : Nat) (rc : RC) {dd : Nat} (hr : cH1 l v a rc dd) (hrn : ∀ (i : Nat) (x y : Int32) (F : PF) (G : PG) (q : Int32 × PF × PG), rc i x y F G = some q → xn F ≤ xn q.2.1) {res : Int32 × PF × PG} (C : cMC p R s m args c A v RX3 cX3_joinedOperands 5 (dd + 1 + 2) (60 * (dd + 1) + 49) (xn res.2.1 - xn K0)) (hret : ∀ (b1 : Nat) (H1 : Heap) (locs1 : List Loc) (ls1 : Array Slot) (pc : Nat), cMW s A v a b1 K0 res.2.1 res.2.2 H1 locs1 → decode cX3_joinedOperands pc = .ok (.return_, 1) → W p l e R s m args below meth c H1 locs1 (xn res.2.1 - xn K0) (2 * (xn res.2.1 - xn K0)) Q (F0 m pc ls1 [])) (F : PF) (G : PG) (hm : cb_X3_joinedOperands_168 fu rc F G = some res) {b : Nat} {H : Heap} {locs : List Loc} (hw : cMW s A v a b K0 F G H locs) {ls : Array Slot} (hl : lv_has ls 5 []) : W p l e R s m args below meth c H locs (xn F - xn K0) (2 * (xn F - xn K0)) Q (F0 m 168 ls []) := by
  have hx := C.1
  have hb := C.2.1
  unfold cb_X3_joinedOperands_168 at hm
  obtain rfl := Option.some.inj hm
  exact hret _ _ _ _ _ hw dX3_joinedOperands_168
theorem cn_X3_joinedOperands_162 (fu : Nat) (rc : RC) (hrn : ∀ (i : Nat) (x y : Int32) (F : PF) (G : PG) (q : Int32 × PF × PG), rc i x y F G = some q → xn F ≤ xn q.2.1) {res : Int32 × PF × PG} (x1 : Int32) (F : PF) (G : PG) (hm : cb_X3_joinedOperands_162 fu rc x1 F G = some res) : xn F ≤ xn res.2.1 := by
  unfold cb_X3_joinedOperands_162 at hm
  obtain ⟨⟨r1, F1, G1⟩, hc, hm⟩ := bind_elim hm
  exact Nat.le_trans (cn_X3_settle fu x1 0 F G _ hc) (cn_X3_joinedOperands_168 fu rc hrn F1 G1 hm)
theorem cw_X3_joinedOperands_162 (fu : Nat) (rc : RC) {dd : Nat} (hr : cH1 l v a rc dd) (hrn : ∀ (i : Nat) (x y : Int32) (F : PF) (G : PG) (q : Int32 × PF × PG), rc i x y F G = some q → xn F ≤ xn q.2.1) {res : Int32 × PF × PG} (C : cMC p R s m args c A v RX3 cX3_joinedOperands 5 (dd + 1 + 2) (60 * (dd + 1) + 49) (xn res.2.1 - xn K0)) (hret : ∀ (b1 : Nat) (H1 : Heap) (locs1 : List Loc) (ls1 : Array Slot) (pc : Nat), cMW s A v a b1 K0 res.2.1 res.2.2 H1 locs1 → decode cX3_joinedOperands pc = .ok (.return_, 1) → W p l e R s m args below meth c H1 locs1 (xn res.2.1 - xn K0) (2 * (xn res.2.1 - xn K0)) Q (F0 m pc ls1 [])) (x1 : Int32) (F : PF) (G : PG) (hm : cb_X3_joinedOperands_162 fu rc x1 F G = some res) {b : Nat} {H : Heap} {locs : List Loc} (hw : cMW s A v a b K0 F G H locs) {ls : Array Slot} (hl : lv_has ls 5 [(0, .ref (a 203)), (1, .int x1)]) : W p l e R s m args below meth c H locs (xn F - xn K0) (2 * (xn F - xn K0)) Q (F0 m 162 ls []) := by
  have hx := C.1
  have hb := C.2.1
  unfold cb_X3_joinedOperands_162 at hm
  refine lv_aload_n hx hb dX3_joinedOperands_162 rfl (lv_at hl 0 rfl) ?_
  refine lv_iload_n hx hb dX3_joinedOperands_163 rfl (lv_at hl 1 rfl) ?_
  refine lv_iconst (v := 0) hx hb dX3_joinedOperands_164 (by decide) ?_
  obtain ⟨⟨r1, F1, G1⟩, hc, hm⟩ := bind_elim hm
  refine ccallV (n := 2) (As := [.int x1, .int 0]) (rest := []) C hw (ck_X3_settle l v a _ _ fu x1 0 F G r1 F1 G1 hc) (cn_X3_settle fu x1 0 F G _ hc) (Nat.sub_le_sub_right (cn_X3_joinedOperands_168 fu rc hrn F1 G1 hm) _) (crecv_X3 C hw) cm_479 cm_480 cm_481 cm_301 cm_482 (by decide +kernel) rfl (by omega) (by omega) hl.1 rfl (Nat.le_of_ble_eq_true rfl) dX3_joinedOperands_165 (fun b H locs hw => ?_)
  exact cw_X3_joinedOperands_168 fu rc hr hrn C hret F1 G1 hm hw (lv_sub hl [] rfl)
theorem cn_X3_joinedOperands_156 (fu : Nat) (rc : RC) (hrn : ∀ (i : Nat) (x y : Int32) (F : PF) (G : PG) (q : Int32 × PF × PG), rc i x y F G = some q → xn F ≤ xn q.2.1) {res : Int32 × PF × PG} (ag_9 : Int32 → Int32 → Int32 → PF → PG → PR) (hagn_9 : ∀ (x1 : Int32) (x2 : Int32) (x3 : Int32) (F : PF) (G : PG), ag_9 x1 x2 x3 F G = some res → xn F ≤ xn res.2.1) (x1 : Int32) (x2 : Int32) (x3 : Int32) (F : PF) (G : PG) (hm : cb_X3_joinedOperands_156 fu rc ag_9 x1 x2 x3 F G = some res) : xn F ≤ xn res.2.1 := by
  unfold cb_X3_joinedOperands_156 at hm
  exact (hagn_9 x1 x2 (x3 + 1) F G hm)
theorem cw_X3_joinedOperands_156 (fu : Nat) (rc : RC) {dd : Nat} (hr : cH1 l v a rc dd) (hrn : ∀ (i : Nat) (x y : Int32) (F : PF) (G : PG) (q : Int32 × PF × PG), rc i x y F G = some q → xn F ≤ xn q.2.1) {res : Int32 × PF × PG} (C : cMC p R s m args c A v RX3 cX3_joinedOperands 5 (dd + 1 + 2) (60 * (dd + 1) + 49) (xn res.2.1 - xn K0)) (hret : ∀ (b1 : Nat) (H1 : Heap) (locs1 : List Loc) (ls1 : Array Slot) (pc : Nat), cMW s A v a b1 K0 res.2.1 res.2.2 H1 locs1 → decode cX3_joinedOperands pc = .ok (.return_, 1) → W p l e R s m args below meth c H1 locs1 (xn res.2.1 - xn K0) (2 * (xn res.2.1 - xn K0)) Q (F0 m pc ls1 [])) (ag_9 : Int32 → Int32 → Int32 → PF → PG → PR) (hag_9 : ∀ (x1 : Int32) (x2 : Int32) (x3 : Int32) (F : PF) (G : PG), ag_9 x1 x2 x3 F G = some res → ∀ (b : Nat) (H : Heap) (locs : List Loc) (ls : Array Slot), cMW s A v a b K0 F G H locs → lv_has ls 5 [(0, .ref (a 203)), (1, .int x1), (2, .int x2), (3, .int x3)] → W p l e R s m args below meth c H locs (xn F - xn K0) (2 * (xn F - xn K0)) Q (F0 m 9 ls [])) (hagn_9 : ∀ (x1 : Int32) (x2 : Int32) (x3 : Int32) (F : PF) (G : PG), ag_9 x1 x2 x3 F G = some res → xn F ≤ xn res.2.1) (x1 : Int32) (x2 : Int32) (x3 : Int32) (F : PF) (G : PG) (hm : cb_X3_joinedOperands_156 fu rc ag_9 x1 x2 x3 F G = some res) {b : Nat} {H : Heap} {locs : List Loc} (hw : cMW s A v a b K0 F G H locs) {ls : Array Slot} (hl : lv_has ls 5 [(0, .ref (a 203)), (1, .int x1), (2, .int x2), (3, .int x3)]) : W p l e R s m args below meth c H locs (xn F - xn K0) (2 * (xn F - xn K0)) Q (F0 m 156 ls []) := by
  have hx := C.1
  have hb := C.2.1
  unfold cb_X3_joinedOperands_156 at hm
  refine lv_iinc (v := (x3 + 1)) (lv' := [(3, .int (x3 + 1)), (0, .ref (a 203)), (1, .int x1), (2, .int x2)]) hx hb dX3_joinedOperands_156 hl (k := 3) rfl (by rfl) (by decide) rfl (fun ls hl => ?_)
  refine lv_goto (tgt := 9) hx hb dX3_joinedOperands_159 (by decide) ?_
  exact hag_9 x1 x2 (x3 + 1) F G hm _ _ _ _ hw (lv_sub hl [1, 2, 3, 0] rfl)
theorem cn_X3_joinedOperands_149 (fu : Nat) (rc : RC) (hrn : ∀ (i : Nat) (x y : Int32) (F : PF) (G : PG) (q : Int32 × PF × PG), rc i x y F G = some q → xn F ≤ xn q.2.1) {res : Int32 × PF × PG} (ag_9 : Int32 → Int32 → Int32 → PF → PG → PR) (hagn_9 : ∀ (x1 : Int32) (x2 : Int32) (x3 : Int32) (F : PF) (G : PG), ag_9 x1 x2 x3 F G = some res → xn F ≤ xn res.2.1) (x1 : Int32) (x2 : Int32) (x3 : Int32) (F : PF) (G : PG) (hm : cb_X3_joinedOperands_149 fu rc ag_9 x1 x2 x3 F G = some res) : xn F ≤ xn res.2.1 := by
  unfold cb_X3_joinedOperands_149 at hm
  obtain ⟨⟨r1, F1, G1⟩, hc, hm⟩ := bind_elim hm
  exact Nat.le_trans (cn_X2_next fu F G _ hc) (cn_X3_joinedOperands_156 fu rc hrn ag_9 hagn_9 x1 x2 x3 F1 G1 hm)
theorem cw_X3_joinedOperands_149 (fu : Nat) (rc : RC) {dd : Nat} (hr : cH1 l v a rc dd) (hrn : ∀ (i : Nat) (x y : Int32) (F : PF) (G : PG) (q : Int32 × PF × PG), rc i x y F G = some q → xn F ≤ xn q.2.1) {res : Int32 × PF × PG} (C : cMC p R s m args c A v RX3 cX3_joinedOperands 5 (dd + 1 + 2) (60 * (dd + 1) + 49) (xn res.2.1 - xn K0)) (hret : ∀ (b1 : Nat) (H1 : Heap) (locs1 : List Loc) (ls1 : Array Slot) (pc : Nat), cMW s A v a b1 K0 res.2.1 res.2.2 H1 locs1 → decode cX3_joinedOperands pc = .ok (.return_, 1) → W p l e R s m args below meth c H1 locs1 (xn res.2.1 - xn K0) (2 * (xn res.2.1 - xn K0)) Q (F0 m pc ls1 [])) (ag_9 : Int32 → Int32 → Int32 → PF → PG → PR) (hag_9 : ∀ (x1 : Int32) (x2 : Int32) (x3 : Int32) (F : PF) (G : PG), ag_9 x1 x2 x3 F G = some res → ∀ (b : Nat) (H : Heap) (locs : List Loc) (ls : Array Slot), cMW s A v a b K0 F G H locs → lv_has ls 5 [(0, .ref (a 203)), (1, .int x1), (2, .int x2), (3, .int x3)] → W p l e R s m args below meth c H locs (xn F - xn K0) (2 * (xn F - xn K0)) Q (F0 m 9 ls [])) (hagn_9 : ∀ (x1 : Int32) (x2 : Int32) (x3 : Int32) (F : PF) (G : PG), ag_9 x1 x2 x3 F G = some res → xn F ≤ xn res.2.1) (x1 : Int32) (x2 : Int32) (x3 : Int32) (F : PF) (G : PG) (hm : cb_X3_joinedOperands_149 fu rc ag_9 x1 x2 x3 F G = some res) {b : Nat} {H : Heap} {locs : List Loc} (hw : cMW s A v a b K0 F G H locs) {ls : Array Slot} (hl : lv_has ls 5 [(0, .ref (a 203)), (1, .int x1), (2, .int x2), (3, .int x3)]) : W p l e R s m args below meth c H locs (xn F - xn K0) (2 * (xn F - xn K0)) Q (F0 m 149 ls []) := by
  have hx := C.1
  have hb := C.2.1
  unfold cb_X3_joinedOperands_149 at hm
  refine lv_aload_n hx hb dX3_joinedOperands_149 rfl (lv_at hl 0 rfl) ?_
  refine cg_X3_15 C hw dX3_joinedOperands_150 ?_
  obtain ⟨⟨r1, F1, G1⟩, hc, hm⟩ := bind_elim hm
  refine ccallV (n := 0) (As := []) (rest := []) C hw (ck_X2_next l v a _ _ fu F G r1 F1 G1 hc) (cn_X2_next fu F G _ hc) (Nat.sub_le_sub_right (cn_X3_joinedOperands_156 fu rc hrn ag_9 hagn_9 x1 x2 x3 F1 G1 hm) _) (crecv_X2 C hw) cm_456 cm_321 cm_322 cm_307 cm_323 (by decide +kernel) rfl (by omega) (by omega) hl.1 rfl (Nat.le_of_ble_eq_true rfl) dX3_joinedOperands_153 (fun b H locs hw => ?_)
  exact cw_X3_joinedOperands_156 fu rc hr hrn C hret ag_9 hag_9 hagn_9 x1 x2 x3 F1 G1 hm hw (lv_sub hl [0, 1, 2, 3] rfl)
theorem cn_X3_joinedOperands_138 (fu : Nat) (rc : RC) (hrn : ∀ (i : Nat) (x y : Int32) (F : PF) (G : PG) (q : Int32 × PF × PG), rc i x y F G = some q → xn F ≤ xn q.2.1) {res : Int32 × PF × PG} (ag_9 : Int32 → Int32 → Int32 → PF → PG → PR) (hagn_9 : ∀ (x1 : Int32) (x2 : Int32) (x3 : Int32) (F : PF) (G : PG), ag_9 x1 x2 x3 F G = some res → xn F ≤ xn res.2.1) (x1 : Int32) (x2 : Int32) (x3 : Int32) (F : PF) (G : PG) (hm : cb_X3_joinedOperands_138 fu rc ag_9 x1 x2 x3 F G = some res) : xn F ≤ xn res.2.1 := by
  unfold cb_X3_joinedOperands_138 at hm
  obtain ⟨⟨r1, F1, G1⟩, hc, hm⟩ := bind_elim hm
  exact Nat.le_trans (cn_X3_waits fu (F 11) F G _ hc) (cn_X3_joinedOperands_149 fu rc hrn ag_9 hagn_9 x1 x2 x3 F1 G1 hm)
theorem cw_X3_joinedOperands_138 (fu : Nat) (rc : RC) {dd : Nat} (hr : cH1 l v a rc dd) (hrn : ∀ (i : Nat) (x y : Int32) (F : PF) (G : PG) (q : Int32 × PF × PG), rc i x y F G = some q → xn F ≤ xn q.2.1) {res : Int32 × PF × PG} (C : cMC p R s m args c A v RX3 cX3_joinedOperands 5 (dd + 1 + 2) (60 * (dd + 1) + 49) (xn res.2.1 - xn K0)) (hret : ∀ (b1 : Nat) (H1 : Heap) (locs1 : List Loc) (ls1 : Array Slot) (pc : Nat), cMW s A v a b1 K0 res.2.1 res.2.2 H1 locs1 → decode cX3_joinedOperands pc = .ok (.return_, 1) → W p l e R s m args below meth c H1 locs1 (xn res.2.1 - xn K0) (2 * (xn res.2.1 - xn K0)) Q (F0 m pc ls1 [])) (ag_9 : Int32 → Int32 → Int32 → PF → PG → PR) (hag_9 : ∀ (x1 : Int32) (x2 : Int32) (x3 : Int32) (F : PF) (G : PG), ag_9 x1 x2 x3 F G = some res → ∀ (b : Nat) (H : Heap) (locs : List Loc) (ls : Array Slot), cMW s A v a b K0 F G H locs → lv_has ls 5 [(0, .ref (a 203)), (1, .int x1), (2, .int x2), (3, .int x3)] → W p l e R s m args below meth c H locs (xn F - xn K0) (2 * (xn F - xn K0)) Q (F0 m 9 ls [])) (hagn_9 : ∀ (x1 : Int32) (x2 : Int32) (x3 : Int32) (F : PF) (G : PG), ag_9 x1 x2 x3 F G = some res → xn F ≤ xn res.2.1) (x1 : Int32) (x2 : Int32) (x3 : Int32) (F : PF) (G : PG) (hm : cb_X3_joinedOperands_138 fu rc ag_9 x1 x2 x3 F G = some res) {b : Nat} {H : Heap} {locs : List Loc} (hw : cMW s A v a b K0 F G H locs) {ls : Array Slot} (hl : lv_has ls 5 [(0, .ref (a 203)), (1, .int x1), (2, .int x2), (3, .int x3)]) : W p l e R s m args below meth c H locs (xn F - xn K0) (2 * (xn F - xn K0)) Q (F0 m 138 ls []) := by
  have hx := C.1
  have hb := C.2.1
  unfold cb_X3_joinedOperands_138 at hm
  refine lv_aload_n hx hb dX3_joinedOperands_138 rfl (lv_at hl 0 rfl) ?_
  refine lv_aload_n hx hb dX3_joinedOperands_139 rfl (lv_at hl 0 rfl) ?_
  refine cg_X3_15 C hw dX3_joinedOperands_140 ?_
  refine cg_X3_85 C hw dX3_joinedOperands_143 ?_
  obtain ⟨⟨r1, F1, G1⟩, hc, hm⟩ := bind_elim hm
  refine ccallV (n := 1) (As := [.int (F 11)]) (rest := []) C hw (ck_X3_waits l v a _ _ fu (F 11) F G r1 F1 G1 hc) (cn_X3_waits fu (F 11) F G _ hc) (Nat.sub_le_sub_right (cn_X3_joinedOperands_149 fu rc hrn ag_9 hagn_9 x1 x2 x3 F1 G1 hm) _) (crecv_X3 C hw) cm_467 cm_468 cm_469 cm_301 cm_470 (by decide +kernel) rfl (by omega) (by omega) hl.1 rfl (Nat.le_of_ble_eq_true rfl) dX3_joinedOperands_146 (fun b H locs hw => ?_)
  exact cw_X3_joinedOperands_149 fu rc hr hrn C hret ag_9 hag_9 hagn_9 x1 x2 x3 F1 G1 hm hw (lv_sub hl [0, 1, 2, 3] rfl)
theorem cn_X3_joinedOperands_135 (fu : Nat) (rc : RC) (hrn : ∀ (i : Nat) (x y : Int32) (F : PF) (G : PG) (q : Int32 × PF × PG), rc i x y F G = some q → xn F ≤ xn q.2.1) {res : Int32 × PF × PG} (ag_9 : Int32 → Int32 → Int32 → PF → PG → PR) (hagn_9 : ∀ (x1 : Int32) (x2 : Int32) (x3 : Int32) (F : PF) (G : PG), ag_9 x1 x2 x3 F G = some res → xn F ≤ xn res.2.1) (x1 : Int32) (x2 : Int32) (x3 : Int32) (z0 : Int32) (z1 : Int32) (F : PF) (G : PG) (hm : cb_X3_joinedOperands_135 fu rc ag_9 x1 x2 x3 z0 z1 F G = some res) : xn F ≤ xn res.2.1 := by
  unfold cb_X3_joinedOperands_135 at hm
  obtain ⟨⟨r1, F1, G1⟩, hc, hm⟩ := bind_elim hm
  exact Nat.le_trans (cn_X3_settle fu z1 z0 F G _ hc) (cn_X3_joinedOperands_138 fu rc hrn ag_9 hagn_9 x1 x2 x3 F1 G1 hm)
theorem cw_X3_joinedOperands_135 (fu : Nat) (rc : RC) {dd : Nat} (hr : cH1 l v a rc dd) (hrn : ∀ (i : Nat) (x y : Int32) (F : PF) (G : PG) (q : Int32 × PF × PG), rc i x y F G = some q → xn F ≤ xn q.2.1) {res : Int32 × PF × PG} (C : cMC p R s m args c A v RX3 cX3_joinedOperands 5 (dd + 1 + 2) (60 * (dd + 1) + 49) (xn res.2.1 - xn K0)) (hret : ∀ (b1 : Nat) (H1 : Heap) (locs1 : List Loc) (ls1 : Array Slot) (pc : Nat), cMW s A v a b1 K0 res.2.1 res.2.2 H1 locs1 → decode cX3_joinedOperands pc = .ok (.return_, 1) → W p l e R s m args below meth c H1 locs1 (xn res.2.1 - xn K0) (2 * (xn res.2.1 - xn K0)) Q (F0 m pc ls1 [])) (ag_9 : Int32 → Int32 → Int32 → PF → PG → PR) (hag_9 : ∀ (x1 : Int32) (x2 : Int32) (x3 : Int32) (F : PF) (G : PG), ag_9 x1 x2 x3 F G = some res → ∀ (b : Nat) (H : Heap) (locs : List Loc) (ls : Array Slot), cMW s A v a b K0 F G H locs → lv_has ls 5 [(0, .ref (a 203)), (1, .int x1), (2, .int x2), (3, .int x3)] → W p l e R s m args below meth c H locs (xn F - xn K0) (2 * (xn F - xn K0)) Q (F0 m 9 ls [])) (hagn_9 : ∀ (x1 : Int32) (x2 : Int32) (x3 : Int32) (F : PF) (G : PG), ag_9 x1 x2 x3 F G = some res → xn F ≤ xn res.2.1) (x1 : Int32) (x2 : Int32) (x3 : Int32) (z0 : Int32) (z1 : Int32) (F : PF) (G : PG) (hm : cb_X3_joinedOperands_135 fu rc ag_9 x1 x2 x3 z0 z1 F G = some res) {b : Nat} {H : Heap} {locs : List Loc} (hw : cMW s A v a b K0 F G H locs) {ls : Array Slot} (hl : lv_has ls 5 [(0, .ref (a 203)), (1, .int x1), (2, .int x2), (3, .int x3)]) : W p l e R s m args below meth c H locs (xn F - xn K0) (2 * (xn F - xn K0)) Q (F0 m 135 ls [.int z0, .int z1, .ref (a 203)]) := by
  have hx := C.1
  have hb := C.2.1
  unfold cb_X3_joinedOperands_135 at hm
  obtain ⟨⟨r1, F1, G1⟩, hc, hm⟩ := bind_elim hm
  refine ccallV (n := 2) (As := [.int z1, .int z0]) (rest := []) C hw (ck_X3_settle l v a _ _ fu z1 z0 F G r1 F1 G1 hc) (cn_X3_settle fu z1 z0 F G _ hc) (Nat.sub_le_sub_right (cn_X3_joinedOperands_138 fu rc hrn ag_9 hagn_9 x1 x2 x3 F1 G1 hm) _) (crecv_X3 C hw) cm_479 cm_480 cm_481 cm_301 cm_482 (by decide +kernel) rfl (by omega) (by omega) hl.1 rfl (Nat.le_of_ble_eq_true rfl) dX3_joinedOperands_135 (fun b H locs hw => ?_)
  exact cw_X3_joinedOperands_138 fu rc hr hrn C hret ag_9 hag_9 hagn_9 x1 x2 x3 F1 G1 hm hw (lv_sub hl [0, 1, 2, 3] rfl)
theorem cn_X3_joinedOperands_123 (fu : Nat) (rc : RC) (hrn : ∀ (i : Nat) (x y : Int32) (F : PF) (G : PG) (q : Int32 × PF × PG), rc i x y F G = some q → xn F ≤ xn q.2.1) {res : Int32 × PF × PG} (ag_9 : Int32 → Int32 → Int32 → PF → PG → PR) (hagn_9 : ∀ (x1 : Int32) (x2 : Int32) (x3 : Int32) (F : PF) (G : PG), ag_9 x1 x2 x3 F G = some res → xn F ≤ xn res.2.1) (x1 : Int32) (x2 : Int32) (x3 : Int32) (F : PF) (G : PG) (hm : cb_X3_joinedOperands_123 fu rc ag_9 x1 x2 x3 F G = some res) : xn F ≤ xn res.2.1 := by
  unfold cb_X3_joinedOperands_123 at hm
  obtain ⟨⟨r1, F1, G1⟩, hc, hm⟩ := bind_elim hm
  exact Nat.le_trans (cn_X3_strength fu (F 11) F G _ hc) (cn_X3_joinedOperands_135 fu rc hrn ag_9 hagn_9 x1 x2 x3 r1 x1 F1 G1 hm)
theorem cw_X3_joinedOperands_123 (fu : Nat) (rc : RC) {dd : Nat} (hr : cH1 l v a rc dd) (hrn : ∀ (i : Nat) (x y : Int32) (F : PF) (G : PG) (q : Int32 × PF × PG), rc i x y F G = some q → xn F ≤ xn q.2.1) {res : Int32 × PF × PG} (C : cMC p R s m args c A v RX3 cX3_joinedOperands 5 (dd + 1 + 2) (60 * (dd + 1) + 49) (xn res.2.1 - xn K0)) (hret : ∀ (b1 : Nat) (H1 : Heap) (locs1 : List Loc) (ls1 : Array Slot) (pc : Nat), cMW s A v a b1 K0 res.2.1 res.2.2 H1 locs1 → decode cX3_joinedOperands pc = .ok (.return_, 1) → W p l e R s m args below meth c H1 locs1 (xn res.2.1 - xn K0) (2 * (xn res.2.1 - xn K0)) Q (F0 m pc ls1 [])) (ag_9 : Int32 → Int32 → Int32 → PF → PG → PR) (hag_9 : ∀ (x1 : Int32) (x2 : Int32) (x3 : Int32) (F : PF) (G : PG), ag_9 x1 x2 x3 F G = some res → ∀ (b : Nat) (H : Heap) (locs : List Loc) (ls : Array Slot), cMW s A v a b K0 F G H locs → lv_has ls 5 [(0, .ref (a 203)), (1, .int x1), (2, .int x2), (3, .int x3)] → W p l e R s m args below meth c H locs (xn F - xn K0) (2 * (xn F - xn K0)) Q (F0 m 9 ls [])) (hagn_9 : ∀ (x1 : Int32) (x2 : Int32) (x3 : Int32) (F : PF) (G : PG), ag_9 x1 x2 x3 F G = some res → xn F ≤ xn res.2.1) (x1 : Int32) (x2 : Int32) (x3 : Int32) (F : PF) (G : PG) (hm : cb_X3_joinedOperands_123 fu rc ag_9 x1 x2 x3 F G = some res) {b : Nat} {H : Heap} {locs : List Loc} (hw : cMW s A v a b K0 F G H locs) {ls : Array Slot} (hl : lv_has ls 5 [(0, .ref (a 203)), (1, .int x1), (2, .int x2), (3, .int x3)]) : W p l e R s m args below meth c H locs (xn F - xn K0) (2 * (xn F - xn K0)) Q (F0 m 123 ls []) := by
  have hx := C.1
  have hb := C.2.1
  unfold cb_X3_joinedOperands_123 at hm
  refine lv_aload_n hx hb dX3_joinedOperands_123 rfl (lv_at hl 0 rfl) ?_
  refine lv_iload_n hx hb dX3_joinedOperands_124 rfl (lv_at hl 1 rfl) ?_
  refine lv_aload_n hx hb dX3_joinedOperands_125 rfl (lv_at hl 0 rfl) ?_
  refine cg_X3_15 C hw dX3_joinedOperands_126 ?_
  refine cg_X3_85 C hw dX3_joinedOperands_129 ?_
  obtain ⟨⟨r1, F1, G1⟩, hc, hm⟩ := bind_elim hm
  refine ccallIS (n := 1) (As := [.int (F 11)]) (rest := [.int x1, .ref (a 203)]) C hw (ck_X3_strength l v a _ _ fu (F 11) F G r1 F1 G1 hc) (cn_X3_strength fu (F 11) F G _ hc) (Nat.sub_le_sub_right (cn_X3_joinedOperands_135 fu rc hrn ag_9 hagn_9 x1 x2 x3 r1 x1 F1 G1 hm) _) cm_475 cm_476 cm_301 cm_477 (by decide +kernel) rfl (by omega) (by omega) hl.1 rfl (Nat.le_of_ble_eq_true rfl) dX3_joinedOperands_132 (fun b H locs hw => ?_)
  exact cw_X3_joinedOperands_135 fu rc hr hrn C hret ag_9 hag_9 hagn_9 x1 x2 x3 r1 x1 F1 G1 hm hw (lv_sub hl [0, 1, 2, 3] rfl)
theorem cn_X3_joinedOperands_118 (fu : Nat) (rc : RC) (hrn : ∀ (i : Nat) (x y : Int32) (F : PF) (G : PG) (q : Int32 × PF × PG), rc i x y F G = some q → xn F ≤ xn q.2.1) {res : Int32 × PF × PG} (ag_9 : Int32 → Int32 → Int32 → PF → PG → PR) (hagn_9 : ∀ (x1 : Int32) (x2 : Int32) (x3 : Int32) (F : PF) (G : PG), ag_9 x1 x2 x3 F G = some res → xn F ≤ xn res.2.1) (x1 : Int32) (x3 : Int32) (z0 : Int32) (F : PF) (G : PG) (hm : cb_X3_joinedOperands_118 fu rc ag_9 x1 x3 z0 F G = some res) : xn F ≤ xn res.2.1 := by
  unfold cb_X3_joinedOperands_118 at hm
  by_cases c_1 : z0 = (0 : Int32)
  · have hm := (if_pos c_1).symm.trans hm
    exact (cn_X3_joinedOperands_156 fu rc hrn ag_9 hagn_9 x1 z0 x3 F G hm)
  · have hm := (if_neg c_1).symm.trans hm
    exact (cn_X3_joinedOperands_123 fu rc hrn ag_9 hagn_9 x1 z0 x3 F G hm)
theorem cw_X3_joinedOperands_118 (fu : Nat) (rc : RC) {dd : Nat} (hr : cH1 l v a rc dd) (hrn : ∀ (i : Nat) (x y : Int32) (F : PF) (G : PG) (q : Int32 × PF × PG), rc i x y F G = some q → xn F ≤ xn q.2.1) {res : Int32 × PF × PG} (C : cMC p R s m args c A v RX3 cX3_joinedOperands 5 (dd + 1 + 2) (60 * (dd + 1) + 49) (xn res.2.1 - xn K0)) (hret : ∀ (b1 : Nat) (H1 : Heap) (locs1 : List Loc) (ls1 : Array Slot) (pc : Nat), cMW s A v a b1 K0 res.2.1 res.2.2 H1 locs1 → decode cX3_joinedOperands pc = .ok (.return_, 1) → W p l e R s m args below meth c H1 locs1 (xn res.2.1 - xn K0) (2 * (xn res.2.1 - xn K0)) Q (F0 m pc ls1 [])) (ag_9 : Int32 → Int32 → Int32 → PF → PG → PR) (hag_9 : ∀ (x1 : Int32) (x2 : Int32) (x3 : Int32) (F : PF) (G : PG), ag_9 x1 x2 x3 F G = some res → ∀ (b : Nat) (H : Heap) (locs : List Loc) (ls : Array Slot), cMW s A v a b K0 F G H locs → lv_has ls 5 [(0, .ref (a 203)), (1, .int x1), (2, .int x2), (3, .int x3)] → W p l e R s m args below meth c H locs (xn F - xn K0) (2 * (xn F - xn K0)) Q (F0 m 9 ls [])) (hagn_9 : ∀ (x1 : Int32) (x2 : Int32) (x3 : Int32) (F : PF) (G : PG), ag_9 x1 x2 x3 F G = some res → xn F ≤ xn res.2.1) (x1 : Int32) (x3 : Int32) (z0 : Int32) (F : PF) (G : PG) (hm : cb_X3_joinedOperands_118 fu rc ag_9 x1 x3 z0 F G = some res) {b : Nat} {H : Heap} {locs : List Loc} (hw : cMW s A v a b K0 F G H locs) {ls : Array Slot} (hl : lv_has ls 5 [(0, .ref (a 203)), (1, .int x1), (3, .int x3)]) : W p l e R s m args below meth c H locs (xn F - xn K0) (2 * (xn F - xn K0)) Q (F0 m 118 ls [.int z0]) := by
  have hx := C.1
  have hb := C.2.1
  unfold cb_X3_joinedOperands_118 at hm
  refine lv_istore_n (lv' := [(2, .int z0), (0, .ref (a 203)), (1, .int x1), (3, .int x3)]) hx hb dX3_joinedOperands_118 rfl hl (by decide) rfl (fun ls hl => ?_)
  refine lv_iload_n hx hb dX3_joinedOperands_119 rfl (lv_at hl 0 rfl) ?_
  refine lv_if_eq (tgt := 156) hx hb dX3_joinedOperands_120 (by decide) (fun c_1 => ?_) (fun c_1 => ?_)
  · have hm := (if_pos c_1).symm.trans hm
    exact cw_X3_joinedOperands_156 fu rc hr hrn C hret ag_9 hag_9 hagn_9 x1 z0 x3 F G hm hw (lv_sub hl [1, 2, 0, 3] rfl)
  · have hm := (if_neg c_1).symm.trans hm
    exact cw_X3_joinedOperands_123 fu rc hr hrn C hret ag_9 hag_9 hagn_9 x1 z0 x3 F G hm hw (lv_sub hl [1, 2, 0, 3] rfl)
theorem cn_X3_joinedOperands_117 (fu : Nat) (rc : RC) (hrn : ∀ (i : Nat) (x y : Int32) (F : PF) (G : PG) (q : Int32 × PF × PG), rc i x y F G = some q → xn F ≤ xn q.2.1) {res : Int32 × PF × PG} (ag_9 : Int32 → Int32 → Int32 → PF → PG → PR) (hagn_9 : ∀ (x1 : Int32) (x2 : Int32) (x3 : Int32) (F : PF) (G : PG), ag_9 x1 x2 x3 F G = some res → xn F ≤ xn res.2.1) (x1 : Int32) (x3 : Int32) (F : PF) (G : PG) (hm : cb_X3_joinedOperands_117 fu rc ag_9 x1 x3 F G = some res) : xn F ≤ xn res.2.1 := by
  unfold cb_X3_joinedOperands_117 at hm
  exact (cn_X3_joinedOperands_118 fu rc hrn ag_9 hagn_9 x1 x3 0 F G hm)
theorem cw_X3_joinedOperands_117 (fu : Nat) (rc : RC) {dd : Nat} (hr : cH1 l v a rc dd) (hrn : ∀ (i : Nat) (x y : Int32) (F : PF) (G : PG) (q : Int32 × PF × PG), rc i x y F G = some q → xn F ≤ xn q.2.1) {res : Int32 × PF × PG} (C : cMC p R s m args c A v RX3 cX3_joinedOperands 5 (dd + 1 + 2) (60 * (dd + 1) + 49) (xn res.2.1 - xn K0)) (hret : ∀ (b1 : Nat) (H1 : Heap) (locs1 : List Loc) (ls1 : Array Slot) (pc : Nat), cMW s A v a b1 K0 res.2.1 res.2.2 H1 locs1 → decode cX3_joinedOperands pc = .ok (.return_, 1) → W p l e R s m args below meth c H1 locs1 (xn res.2.1 - xn K0) (2 * (xn res.2.1 - xn K0)) Q (F0 m pc ls1 [])) (ag_9 : Int32 → Int32 → Int32 → PF → PG → PR) (hag_9 : ∀ (x1 : Int32) (x2 : Int32) (x3 : Int32) (F : PF) (G : PG), ag_9 x1 x2 x3 F G = some res → ∀ (b : Nat) (H : Heap) (locs : List Loc) (ls : Array Slot), cMW s A v a b K0 F G H locs → lv_has ls 5 [(0, .ref (a 203)), (1, .int x1), (2, .int x2), (3, .int x3)] → W p l e R s m args below meth c H locs (xn F - xn K0) (2 * (xn F - xn K0)) Q (F0 m 9 ls [])) (hagn_9 : ∀ (x1 : Int32) (x2 : Int32) (x3 : Int32) (F : PF) (G : PG), ag_9 x1 x2 x3 F G = some res → xn F ≤ xn res.2.1) (x1 : Int32) (x3 : Int32) (F : PF) (G : PG) (hm : cb_X3_joinedOperands_117 fu rc ag_9 x1 x3 F G = some res) {b : Nat} {H : Heap} {locs : List Loc} (hw : cMW s A v a b K0 F G H locs) {ls : Array Slot} (hl : lv_has ls 5 [(0, .ref (a 203)), (1, .int x1), (3, .int x3)]) : W p l e R s m args below meth c H locs (xn F - xn K0) (2 * (xn F - xn K0)) Q (F0 m 117 ls []) := by
  have hx := C.1
  have hb := C.2.1
  unfold cb_X3_joinedOperands_117 at hm
  refine lv_iconst (v := 0) hx hb dX3_joinedOperands_117 (by decide) ?_
  exact cw_X3_joinedOperands_118 fu rc hr hrn C hret ag_9 hag_9 hagn_9 x1 x3 0 F G hm hw (lv_sub hl [0, 1, 2] rfl)
theorem cn_X3_joinedOperands_113 (fu : Nat) (rc : RC) (hrn : ∀ (i : Nat) (x y : Int32) (F : PF) (G : PG) (q : Int32 × PF × PG), rc i x y F G = some q → xn F ≤ xn q.2.1) {res : Int32 × PF × PG} (ag_9 : Int32 → Int32 → Int32 → PF → PG → PR) (hagn_9 : ∀ (x1 : Int32) (x2 : Int32) (x3 : Int32) (F : PF) (G : PG), ag_9 x1 x2 x3 F G = some res → xn F ≤ xn res.2.1) (x1 : Int32) (x3 : Int32) (F : PF) (G : PG) (hm : cb_X3_joinedOperands_113 fu rc ag_9 x1 x3 F G = some res) : xn F ≤ xn res.2.1 := by
  unfold cb_X3_joinedOperands_113 at hm
  exact (cn_X3_joinedOperands_118 fu rc hrn ag_9 hagn_9 x1 x3 1 F G hm)
theorem cw_X3_joinedOperands_113 (fu : Nat) (rc : RC) {dd : Nat} (hr : cH1 l v a rc dd) (hrn : ∀ (i : Nat) (x y : Int32) (F : PF) (G : PG) (q : Int32 × PF × PG), rc i x y F G = some q → xn F ≤ xn q.2.1) {res : Int32 × PF × PG} (C : cMC p R s m args c A v RX3 cX3_joinedOperands 5 (dd + 1 + 2) (60 * (dd + 1) + 49) (xn res.2.1 - xn K0)) (hret : ∀ (b1 : Nat) (H1 : Heap) (locs1 : List Loc) (ls1 : Array Slot) (pc : Nat), cMW s A v a b1 K0 res.2.1 res.2.2 H1 locs1 → decode cX3_joinedOperands pc = .ok (.return_, 1) → W p l e R s m args below meth c H1 locs1 (xn res.2.1 - xn K0) (2 * (xn res.2.1 - xn K0)) Q (F0 m pc ls1 [])) (ag_9 : Int32 → Int32 → Int32 → PF → PG → PR) (hag_9 : ∀ (x1 : Int32) (x2 : Int32) (x3 : Int32) (F : PF) (G : PG), ag_9 x1 x2 x3 F G = some res → ∀ (b : Nat) (H : Heap) (locs : List Loc) (ls : Array Slot), cMW s A v a b K0 F G H locs → lv_has ls 5 [(0, .ref (a 203)), (1, .int x1), (2, .int x2), (3, .int x3)] → W p l e R s m args below meth c H locs (xn F - xn K0) (2 * (xn F - xn K0)) Q (F0 m 9 ls [])) (hagn_9 : ∀ (x1 : Int32) (x2 : Int32) (x3 : Int32) (F : PF) (G : PG), ag_9 x1 x2 x3 F G = some res → xn F ≤ xn res.2.1) (x1 : Int32) (x3 : Int32) (F : PF) (G : PG) (hm : cb_X3_joinedOperands_113 fu rc ag_9 x1 x3 F G = some res) {b : Nat} {H : Heap} {locs : List Loc} (hw : cMW s A v a b K0 F G H locs) {ls : Array Slot} (hl : lv_has ls 5 [(0, .ref (a 203)), (1, .int x1), (3, .int x3)]) : W p l e R s m args below meth c H locs (xn F - xn K0) (2 * (xn F - xn K0)) Q (F0 m 113 ls []) := by
  have hx := C.1
  have hb := C.2.1
  unfold cb_X3_joinedOperands_113 at hm
  refine lv_iconst (v := 1) hx hb dX3_joinedOperands_113 (by decide) ?_
  refine lv_goto (tgt := 118) hx hb dX3_joinedOperands_114 (by decide) ?_
  exact cw_X3_joinedOperands_118 fu rc hr hrn C hret ag_9 hag_9 hagn_9 x1 x3 1 F G hm hw (lv_sub hl [0, 1, 2] rfl)
theorem cn_X3_joinedOperands_101 (fu : Nat) (rc : RC) (hrn : ∀ (i : Nat) (x y : Int32) (F : PF) (G : PG) (q : Int32 × PF × PG), rc i x y F G = some q → xn F ≤ xn q.2.1) {res : Int32 × PF × PG} (ag_9 : Int32 → Int32 → Int32 → PF → PG → PR) (hagn_9 : ∀ (x1 : Int32) (x2 : Int32) (x3 : Int32) (F : PF) (G : PG), ag_9 x1 x2 x3 F G = some res → xn F ≤ xn res.2.1) (x1 : Int32) (x3 : Int32) (F : PF) (G : PG) (hm : cb_X3_joinedOperands_101 fu rc ag_9 x1 x3 F G = some res) : xn F ≤ xn res.2.1 := by
  unfold cb_X3_joinedOperands_101 at hm
  by_cases c_1 : (61 : Int32) < (F 11)
  · have hm := (if_pos c_1).symm.trans hm
    exact (cn_X3_joinedOperands_117 fu rc hrn ag_9 hagn_9 x1 x3 F G hm)
  · have hm := (if_neg c_1).symm.trans hm
    exact (cn_X3_joinedOperands_113 fu rc hrn ag_9 hagn_9 x1 x3 F G hm)
theorem cw_X3_joinedOperands_101 (fu : Nat) (rc : RC) {dd : Nat} (hr : cH1 l v a rc dd) (hrn : ∀ (i : Nat) (x y : Int32) (F : PF) (G : PG) (q : Int32 × PF × PG), rc i x y F G = some q → xn F ≤ xn q.2.1) {res : Int32 × PF × PG} (C : cMC p R s m args c A v RX3 cX3_joinedOperands 5 (dd + 1 + 2) (60 * (dd + 1) + 49) (xn res.2.1 - xn K0)) (hret : ∀ (b1 : Nat) (H1 : Heap) (locs1 : List Loc) (ls1 : Array Slot) (pc : Nat), cMW s A v a b1 K0 res.2.1 res.2.2 H1 locs1 → decode cX3_joinedOperands pc = .ok (.return_, 1) → W p l e R s m args below meth c H1 locs1 (xn res.2.1 - xn K0) (2 * (xn res.2.1 - xn K0)) Q (F0 m pc ls1 [])) (ag_9 : Int32 → Int32 → Int32 → PF → PG → PR) (hag_9 : ∀ (x1 : Int32) (x2 : Int32) (x3 : Int32) (F : PF) (G : PG), ag_9 x1 x2 x3 F G = some res → ∀ (b : Nat) (H : Heap) (locs : List Loc) (ls : Array Slot), cMW s A v a b K0 F G H locs → lv_has ls 5 [(0, .ref (a 203)), (1, .int x1), (2, .int x2), (3, .int x3)] → W p l e R s m args below meth c H locs (xn F - xn K0) (2 * (xn F - xn K0)) Q (F0 m 9 ls [])) (hagn_9 : ∀ (x1 : Int32) (x2 : Int32) (x3 : Int32) (F : PF) (G : PG), ag_9 x1 x2 x3 F G = some res → xn F ≤ xn res.2.1) (x1 : Int32) (x3 : Int32) (F : PF) (G : PG) (hm : cb_X3_joinedOperands_101 fu rc ag_9 x1 x3 F G = some res) {b : Nat} {H : Heap} {locs : List Loc} (hw : cMW s A v a b K0 F G H locs) {ls : Array Slot} (hl : lv_has ls 5 [(0, .ref (a 203)), (1, .int x1), (3, .int x3)]) : W p l e R s m args below meth c H locs (xn F - xn K0) (2 * (xn F - xn K0)) Q (F0 m 101 ls []) := by
  have hx := C.1
  have hb := C.2.1
  unfold cb_X3_joinedOperands_101 at hm
  refine lv_aload_n hx hb dX3_joinedOperands_101 rfl (lv_at hl 0 rfl) ?_
  refine cg_X3_15 C hw dX3_joinedOperands_102 ?_
  refine cg_X3_85 C hw dX3_joinedOperands_105 ?_
  refine lv_bipush (v := 61) hx hb dX3_joinedOperands_108 (by decide) ?_
  refine lv_icmp_gt (tgt := 117) hx hb dX3_joinedOperands_110 (by decide) (fun c_1 => ?_) (fun c_1 => ?_)
  · have hm := (if_pos c_1).symm.trans hm
    exact cw_X3_joinedOperands_117 fu rc hr hrn C hret ag_9 hag_9 hagn_9 x1 x3 F G hm hw (lv_sub hl [0, 1, 2] rfl)
  · have hm := (if_neg c_1).symm.trans hm
    exact cw_X3_joinedOperands_113 fu rc hr hrn C hret ag_9 hag_9 hagn_9 x1 x3 F G hm hw (lv_sub hl [0, 1, 2] rfl)
theorem cn_X3_joinedOperands_89 (fu : Nat) (rc : RC) (hrn : ∀ (i : Nat) (x y : Int32) (F : PF) (G : PG) (q : Int32 × PF × PG), rc i x y F G = some q → xn F ≤ xn q.2.1) {res : Int32 × PF × PG} (ag_9 : Int32 → Int32 → Int32 → PF → PG → PR) (hagn_9 : ∀ (x1 : Int32) (x2 : Int32) (x3 : Int32) (F : PF) (G : PG), ag_9 x1 x2 x3 F G = some res → xn F ≤ xn res.2.1) (x1 : Int32) (x3 : Int32) (F : PF) (G : PG) (hm : cb_X3_joinedOperands_89 fu rc ag_9 x1 x3 F G = some res) : xn F ≤ xn res.2.1 := by
  unfold cb_X3_joinedOperands_89 at hm
  by_cases c_1 : (F 11) < (43 : Int32)
  · have hm := (if_pos c_1).symm.trans hm
    exact (cn_X3_joinedOperands_117 fu rc hrn ag_9 hagn_9 x1 x3 F G hm)
  · have hm := (if_neg c_1).symm.trans hm
    exact (cn_X3_joinedOperands_101 fu rc hrn ag_9 hagn_9 x1 x3 F G hm)
theorem cw_X3_joinedOperands_89 (fu : Nat) (rc : RC) {dd : Nat} (hr : cH1 l v a rc dd) (hrn : ∀ (i : Nat) (x y : Int32) (F : PF) (G : PG) (q : Int32 × PF × PG), rc i x y F G = some q → xn F ≤ xn q.2.1) {res : Int32 × PF × PG} (C : cMC p R s m args c A v RX3 cX3_joinedOperands 5 (dd + 1 + 2) (60 * (dd + 1) + 49) (xn res.2.1 - xn K0)) (hret : ∀ (b1 : Nat) (H1 : Heap) (locs1 : List Loc) (ls1 : Array Slot) (pc : Nat), cMW s A v a b1 K0 res.2.1 res.2.2 H1 locs1 → decode cX3_joinedOperands pc = .ok (.return_, 1) → W p l e R s m args below meth c H1 locs1 (xn res.2.1 - xn K0) (2 * (xn res.2.1 - xn K0)) Q (F0 m pc ls1 [])) (ag_9 : Int32 → Int32 → Int32 → PF → PG → PR) (hag_9 : ∀ (x1 : Int32) (x2 : Int32) (x3 : Int32) (F : PF) (G : PG), ag_9 x1 x2 x3 F G = some res → ∀ (b : Nat) (H : Heap) (locs : List Loc) (ls : Array Slot), cMW s A v a b K0 F G H locs → lv_has ls 5 [(0, .ref (a 203)), (1, .int x1), (2, .int x2), (3, .int x3)] → W p l e R s m args below meth c H locs (xn F - xn K0) (2 * (xn F - xn K0)) Q (F0 m 9 ls [])) (hagn_9 : ∀ (x1 : Int32) (x2 : Int32) (x3 : Int32) (F : PF) (G : PG), ag_9 x1 x2 x3 F G = some res → xn F ≤ xn res.2.1) (x1 : Int32) (x3 : Int32) (F : PF) (G : PG) (hm : cb_X3_joinedOperands_89 fu rc ag_9 x1 x3 F G = some res) {b : Nat} {H : Heap} {locs : List Loc} (hw : cMW s A v a b K0 F G H locs) {ls : Array Slot} (hl : lv_has ls 5 [(0, .ref (a 203)), (1, .int x1), (3, .int x3)]) : W p l e R s m args below meth c H locs (xn F - xn K0) (2 * (xn F - xn K0)) Q (F0 m 89 ls []) := by
  have hx := C.1
  have hb := C.2.1
  unfold cb_X3_joinedOperands_89 at hm
  refine lv_aload_n hx hb dX3_joinedOperands_89 rfl (lv_at hl 0 rfl) ?_
  refine cg_X3_15 C hw dX3_joinedOperands_90 ?_
  refine cg_X3_85 C hw dX3_joinedOperands_93 ?_
  refine lv_bipush (v := 43) hx hb dX3_joinedOperands_96 (by decide) ?_
  refine lv_icmp_lt (tgt := 117) hx hb dX3_joinedOperands_98 (by decide) (fun c_1 => ?_) (fun c_1 => ?_)
  · have hm := (if_pos c_1).symm.trans hm
    exact cw_X3_joinedOperands_117 fu rc hr hrn C hret ag_9 hag_9 hagn_9 x1 x3 F G hm hw (lv_sub hl [0, 1, 2] rfl)
  · have hm := (if_neg c_1).symm.trans hm
    exact cw_X3_joinedOperands_101 fu rc hr hrn C hret ag_9 hag_9 hagn_9 x1 x3 F G hm hw (lv_sub hl [0, 1, 2] rfl)
theorem cn_X3_joinedOperands_85 (fu : Nat) (rc : RC) (hrn : ∀ (i : Nat) (x y : Int32) (F : PF) (G : PG) (q : Int32 × PF × PG), rc i x y F G = some q → xn F ≤ xn q.2.1) {res : Int32 × PF × PG} (ag_9 : Int32 → Int32 → Int32 → PF → PG → PR) (hagn_9 : ∀ (x1 : Int32) (x2 : Int32) (x3 : Int32) (F : PF) (G : PG), ag_9 x1 x2 x3 F G = some res → xn F ≤ xn res.2.1) (x1 : Int32) (x3 : Int32) (F : PF) (G : PG) (hm : cb_X3_joinedOperands_85 fu rc ag_9 x1 x3 F G = some res) : xn F ≤ xn res.2.1 := by
  unfold cb_X3_joinedOperands_85 at hm
  obtain ⟨⟨r1, F1, G1⟩, hc, hm⟩ := bind_elim hm
  exact Nat.le_trans (hrn _ _ _ _ _ _ hc) (cn_X3_joinedOperands_89 fu rc hrn ag_9 hagn_9 x1 x3 F1 G1 hm)
theorem cw_X3_joinedOperands_85 (fu : Nat) (rc : RC) {dd : Nat} (hr : cH1 l v a rc dd) (hrn : ∀ (i : Nat) (x y : Int32) (F : PF) (G : PG) (q : Int32 × PF × PG), rc i x y F G = some q → xn F ≤ xn q.2.1) {res : Int32 × PF × PG} (C : cMC p R s m args c A v RX3 cX3_joinedOperands 5 (dd + 1 + 2) (60 * (dd + 1) + 49) (xn res.2.1 - xn K0)) (hret : ∀ (b1 : Nat) (H1 : Heap) (locs1 : List Loc) (ls1 : Array Slot) (pc : Nat), cMW s A v a b1 K0 res.2.1 res.2.2 H1 locs1 → decode cX3_joinedOperands pc = .ok (.return_, 1) → W p l e R s m args below meth c H1 locs1 (xn res.2.1 - xn K0) (2 * (xn res.2.1 - xn K0)) Q (F0 m pc ls1 [])) (ag_9 : Int32 → Int32 → Int32 → PF → PG → PR) (hag_9 : ∀ (x1 : Int32) (x2 : Int32) (x3 : Int32) (F : PF) (G : PG), ag_9 x1 x2 x3 F G = some res → ∀ (b : Nat) (H : Heap) (locs : List Loc) (ls : Array Slot), cMW s A v a b K0 F G H locs → lv_has ls 5 [(0, .ref (a 203)), (1, .int x1), (2, .int x2), (3, .int x3)] → W p l e R s m args below meth c H locs (xn F - xn K0) (2 * (xn F - xn K0)) Q (F0 m 9 ls [])) (hagn_9 : ∀ (x1 : Int32) (x2 : Int32) (x3 : Int32) (F : PF) (G : PG), ag_9 x1 x2 x3 F G = some res → xn F ≤ xn res.2.1) (x1 : Int32) (x3 : Int32) (F : PF) (G : PG) (hm : cb_X3_joinedOperands_85 fu rc ag_9 x1 x3 F G = some res) {b : Nat} {H : Heap} {locs : List Loc} (hw : cMW s A v a b K0 F G H locs) {ls : Array Slot} (hl : lv_has ls 5 [(0, .ref (a 203)), (1, .int x1), (3, .int x3)]) : W p l e R s m args below meth c H locs (xn F - xn K0) (2 * (xn F - xn K0)) Q (F0 m 85 ls []) := by
  have hx := C.1
  have hb := C.2.1
  unfold cb_X3_joinedOperands_85 at hm
  refine lv_aload_n hx hb dX3_joinedOperands_85 rfl (lv_at hl 0 rfl) ?_
  obtain ⟨⟨r1, F1, G1⟩, hc, hm⟩ := bind_elim hm
  refine ccallV (n := 0) (As := []) (rest := []) C hw (hr.2.2.2.2.2 _ _ F G r1 F1 G1 hc) (hrn _ _ _ _ _ _ hc) (Nat.sub_le_sub_right (cn_X3_joinedOperands_89 fu rc hrn ag_9 hagn_9 x1 x3 F1 G1 hm) _) (crecv_X3 C hw) cm_472 cm_473 cm_474 cm_301 cm_511 (by decide +kernel) rfl (by omega) (by omega) hl.1 rfl (Nat.le_of_ble_eq_true rfl) dX3_joinedOperands_86 (fun b H locs hw => ?_)
  exact cw_X3_joinedOperands_89 fu rc hr hrn C hret ag_9 hag_9 hagn_9 x1 x3 F1 G1 hm hw (lv_sub hl [0, 1, 2] rfl)
theorem cn_X3_joinedOperands_79 (fu : Nat) (rc : RC) (hrn : ∀ (i : Nat) (x y : Int32) (F : PF) (G : PG) (q : Int32 × PF × PG), rc i x y F G = some q → xn F ≤ xn q.2.1) {res : Int32 × PF × PG} (ag_9 : Int32 → Int32 → Int32 → PF → PG → PR) (hagn_9 : ∀ (x1 : Int32) (x2 : Int32) (x3 : Int32) (F : PF) (G : PG), ag_9 x1 x2 x3 F G = some res → xn F ≤ xn res.2.1) (ag_23 : Int32 → Int32 → Int32 → PF → PG → PR) (hagn_23 : ∀ (x1 : Int32) (x3 : Int32) (x4 : Int32) (F : PF) (G : PG), ag_23 x1 x3 x4 F G = some res → xn F ≤ xn res.2.1) (x1 : Int32) (x3 : Int32) (x4 : Int32) (F : PF) (G : PG) (hm : cb_X3_joinedOperands_79 fu rc ag_9 ag_23 x1 x3 x4 F G = some res) : xn F ≤ xn res.2.1 := by
  unfold cb_X3_joinedOperands_79 at hm
  exact (hagn_23 x1 x3 (x4 + 1) F G hm)
theorem cw_X3_joinedOperands_79 (fu : Nat) (rc : RC) {dd : Nat} (hr : cH1 l v a rc dd) (hrn : ∀ (i : Nat) (x y : Int32) (F : PF) (G : PG) (q : Int32 × PF × PG), rc i x y F G = some q → xn F ≤ xn q.2.1) {res : Int32 × PF × PG} (C : cMC p R s m args c A v RX3 cX3_joinedOperands 5 (dd + 1 + 2) (60 * (dd + 1) + 49) (xn res.2.1 - xn K0)) (hret : ∀ (b1 : Nat) (H1 : Heap) (locs1 : List Loc) (ls1 : Array Slot) (pc : Nat), cMW s A v a b1 K0 res.2.1 res.2.2 H1 locs1 → decode cX3_joinedOperands pc = .ok (.return_, 1) → W p l e R s m args below meth c H1 locs1 (xn res.2.1 - xn K0) (2 * (xn res.2.1 - xn K0)) Q (F0 m pc ls1 [])) (ag_9 : Int32 → Int32 → Int32 → PF → PG → PR) (hag_9 : ∀ (x1 : Int32) (x2 : Int32) (x3 : Int32) (F : PF) (G : PG), ag_9 x1 x2 x3 F G = some res → ∀ (b : Nat) (H : Heap) (locs : List Loc) (ls : Array Slot), cMW s A v a b K0 F G H locs → lv_has ls 5 [(0, .ref (a 203)), (1, .int x1), (2, .int x2), (3, .int x3)] → W p l e R s m args below meth c H locs (xn F - xn K0) (2 * (xn F - xn K0)) Q (F0 m 9 ls [])) (hagn_9 : ∀ (x1 : Int32) (x2 : Int32) (x3 : Int32) (F : PF) (G : PG), ag_9 x1 x2 x3 F G = some res → xn F ≤ xn res.2.1) (ag_23 : Int32 → Int32 → Int32 → PF → PG → PR) (hag_23 : ∀ (x1 : Int32) (x3 : Int32) (x4 : Int32) (F : PF) (G : PG), ag_23 x1 x3 x4 F G = some res → ∀ (b : Nat) (H : Heap) (locs : List Loc) (ls : Array Slot), cMW s A v a b K0 F G H locs → lv_has ls 5 [(0, .ref (a 203)), (1, .int x1), (3, .int x3), (4, .int x4)] → W p l e R s m args below meth c H locs (xn F - xn K0) (2 * (xn F - xn K0)) Q (F0 m 23 ls [])) (hagn_23 : ∀ (x1 : Int32) (x3 : Int32) (x4 : Int32) (F : PF) (G : PG), ag_23 x1 x3 x4 F G = some res → xn F ≤ xn res.2.1) (x1 : Int32) (x3 : Int32) (x4 : Int32) (F : PF) (G : PG) (hm : cb_X3_joinedOperands_79 fu rc ag_9 ag_23 x1 x3 x4 F G = some res) {b : Nat} {H : Heap} {locs : List Loc} (hw : cMW s A v a b K0 F G H locs) {ls : Array Slot} (hl : lv_has ls 5 [(0, .ref (a 203)), (1, .int x1), (3, .int x3), (4, .int x4)]) : W p l e R s m args below meth c H locs (xn F - xn K0) (2 * (xn F - xn K0)) Q (F0 m 79 ls []) := by
  have hx := C.1
  have hb := C.2.1
  unfold cb_X3_joinedOperands_79 at hm
  refine lv_iinc (v := (x4 + 1)) (lv' := [(4, .int (x4 + 1)), (0, .ref (a 203)), (1, .int x1), (3, .int x3)]) hx hb dX3_joinedOperands_79 hl (k := 3) rfl (by rfl) (by decide) rfl (fun ls hl => ?_)
  refine lv_goto (tgt := 23) hx hb dX3_joinedOperands_82 (by decide) ?_
  exact hag_23 x1 x3 (x4 + 1) F G hm _ _ _ _ hw (lv_sub hl [1, 2, 3, 0] rfl)
theorem cn_X3_joinedOperands_72 (fu : Nat) (rc : RC) (hrn : ∀ (i : Nat) (x y : Int32) (F : PF) (G : PG) (q : Int32 × PF × PG), rc i x y F G = some q → xn F ≤ xn q.2.1) {res : Int32 × PF × PG} (ag_9 : Int32 → Int32 → Int32 → PF → PG → PR) (hagn_9 : ∀ (x1 : Int32) (x2 : Int32) (x3 : Int32) (F : PF) (G : PG), ag_9 x1 x2 x3 F G = some res → xn F ≤ xn res.2.1) (ag_23 : Int32 → Int32 → Int32 → PF → PG → PR) (hagn_23 : ∀ (x1 : Int32) (x3 : Int32) (x4 : Int32) (F : PF) (G : PG), ag_23 x1 x3 x4 F G = some res → xn F ≤ xn res.2.1) (x1 : Int32) (x3 : Int32) (x4 : Int32) (F : PF) (G : PG) (hm : cb_X3_joinedOperands_72 fu rc ag_9 ag_23 x1 x3 x4 F G = some res) : xn F ≤ xn res.2.1 := by
  unfold cb_X3_joinedOperands_72 at hm
  obtain ⟨⟨r1, F1, G1⟩, hc, hm⟩ := bind_elim hm
  exact Nat.le_trans (cn_X2_next fu F G _ hc) (cn_X3_joinedOperands_79 fu rc hrn ag_9 hagn_9 ag_23 hagn_23 x1 x3 x4 F1 G1 hm)
theorem cw_X3_joinedOperands_72 (fu : Nat) (rc : RC) {dd : Nat} (hr : cH1 l v a rc dd) (hrn : ∀ (i : Nat) (x y : Int32) (F : PF) (G : PG) (q : Int32 × PF × PG), rc i x y F G = some q → xn F ≤ xn q.2.1) {res : Int32 × PF × PG} (C : cMC p R s m args c A v RX3 cX3_joinedOperands 5 (dd + 1 + 2) (60 * (dd + 1) + 49) (xn res.2.1 - xn K0)) (hret : ∀ (b1 : Nat) (H1 : Heap) (locs1 : List Loc) (ls1 : Array Slot) (pc : Nat), cMW s A v a b1 K0 res.2.1 res.2.2 H1 locs1 → decode cX3_joinedOperands pc = .ok (.return_, 1) → W p l e R s m args below meth c H1 locs1 (xn res.2.1 - xn K0) (2 * (xn res.2.1 - xn K0)) Q (F0 m pc ls1 [])) (ag_9 : Int32 → Int32 → Int32 → PF → PG → PR) (hag_9 : ∀ (x1 : Int32) (x2 : Int32) (x3 : Int32) (F : PF) (G : PG), ag_9 x1 x2 x3 F G = some res → ∀ (b : Nat) (H : Heap) (locs : List Loc) (ls : Array Slot), cMW s A v a b K0 F G H locs → lv_has ls 5 [(0, .ref (a 203)), (1, .int x1), (2, .int x2), (3, .int x3)] → W p l e R s m args below meth c H locs (xn F - xn K0) (2 * (xn F - xn K0)) Q (F0 m 9 ls [])) (hagn_9 : ∀ (x1 : Int32) (x2 : Int32) (x3 : Int32) (F : PF) (G : PG), ag_9 x1 x2 x3 F G = some res → xn F ≤ xn res.2.1) (ag_23 : Int32 → Int32 → Int32 → PF → PG → PR) (hag_23 : ∀ (x1 : Int32) (x3 : Int32) (x4 : Int32) (F : PF) (G : PG), ag_23 x1 x3 x4 F G = some res → ∀ (b : Nat) (H : Heap) (locs : List Loc) (ls : Array Slot), cMW s A v a b K0 F G H locs → lv_has ls 5 [(0, .ref (a 203)), (1, .int x1), (3, .int x3), (4, .int x4)] → W p l e R s m args below meth c H locs (xn F - xn K0) (2 * (xn F - xn K0)) Q (F0 m 23 ls [])) (hagn_23 : ∀ (x1 : Int32) (x3 : Int32) (x4 : Int32) (F : PF) (G : PG), ag_23 x1 x3 x4 F G = some res → xn F ≤ xn res.2.1) (x1 : Int32) (x3 : Int32) (x4 : Int32) (F : PF) (G : PG) (hm : cb_X3_joinedOperands_72 fu rc ag_9 ag_23 x1 x3 x4 F G = some res) {b : Nat} {H : Heap} {locs : List Loc} (hw : cMW s A v a b K0 F G H locs) {ls : Array Slot} (hl : lv_has ls 5 [(0, .ref (a 203)), (1, .int x1), (3, .int x3), (4, .int x4)]) : W p l e R s m args below meth c H locs (xn F - xn K0) (2 * (xn F - xn K0)) Q (F0 m 72 ls []) := by
  have hx := C.1
  have hb := C.2.1
  unfold cb_X3_joinedOperands_72 at hm
  refine lv_aload_n hx hb dX3_joinedOperands_72 rfl (lv_at hl 0 rfl) ?_
  refine cg_X3_15 C hw dX3_joinedOperands_73 ?_
  obtain ⟨⟨r1, F1, G1⟩, hc, hm⟩ := bind_elim hm
  refine ccallV (n := 0) (As := []) (rest := []) C hw (ck_X2_next l v a _ _ fu F G r1 F1 G1 hc) (cn_X2_next fu F G _ hc) (Nat.sub_le_sub_right (cn_X3_joinedOperands_79 fu rc hrn ag_9 hagn_9 ag_23 hagn_23 x1 x3 x4 F1 G1 hm) _) (crecv_X2 C hw) cm_456 cm_321 cm_322 cm_307 cm_323 (by decide +kernel) rfl (by omega) (by omega) hl.1 rfl (Nat.le_of_ble_eq_true rfl) dX3_joinedOperands_76 (fun b H locs hw => ?_)
  exact cw_X3_joinedOperands_79 fu rc hr hrn C hret ag_9 hag_9 hagn_9 ag_23 hag_23 hagn_23 x1 x3 x4 F1 G1 hm hw (lv_sub hl [0, 1, 2, 3] rfl)
theorem cn_X3_joinedOperands_69 (fu : Nat) (rc : RC) (hrn : ∀ (i : Nat) (x y : Int32) (F : PF) (G : PG) (q : Int32 × PF × PG), rc i x y F G = some q → xn F ≤ xn q.2.1) {res : Int32 × PF × PG} (ag_9 : Int32 → Int32 → Int32 → PF → PG → PR) (hagn_9 : ∀ (x1 : Int32) (x2 : Int32) (x3 : Int32) (F : PF) (G : PG), ag_9 x1 x2 x3 F G = some res → xn F ≤ xn res.2.1) (ag_23 : Int32 → Int32 → Int32 → PF → PG → PR) (hagn_23 : ∀ (x1 : Int32) (x3 : Int32) (x4 : Int32) (F : PF) (G : PG), ag_23 x1 x3 x4 F G = some res → xn F ≤ xn res.2.1) (x1 : Int32) (x3 : Int32) (x4 : Int32) (z0 : Int32) (F : PF) (G : PG) (hm : cb_X3_joinedOperands_69 fu rc ag_9 ag_23 x1 x3 x4 z0 F G = some res) : xn F ≤ xn res.2.1 := by
  unfold cb_X3_joinedOperands_69 at hm
  obtain ⟨⟨r1, F1, G1⟩, hc, hm⟩ := bind_elim hm
  exact Nat.le_trans (cn_X3_waits fu z0 F G _ hc) (cn_X3_joinedOperands_72 fu rc hrn ag_9 hagn_9 ag_23 hagn_23 x1 x3 x4 F1 G1 hm)
theorem cw_X3_joinedOperands_69 (fu : Nat) (rc : RC) {dd : Nat} (hr : cH1 l v a rc dd) (hrn : ∀ (i : Nat) (x y : Int32) (F : PF) (G : PG) (q : Int32 × PF × PG), rc i x y F G = some q → xn F ≤ xn q.2.1) {res : Int32 × PF × PG} (C : cMC p R s m args c A v RX3 cX3_joinedOperands 5 (dd + 1 + 2) (60 * (dd + 1) + 49) (xn res.2.1 - xn K0)) (hret : ∀ (b1 : Nat) (H1 : Heap) (locs1 : List Loc) (ls1 : Array Slot) (pc : Nat), cMW s A v a b1 K0 res.2.1 res.2.2 H1 locs1 → decode cX3_joinedOperands pc = .ok (.return_, 1) → W p l e R s m args below meth c H1 locs1 (xn res.2.1 - xn K0) (2 * (xn res.2.1 - xn K0)) Q (F0 m pc ls1 [])) (ag_9 : Int32 → Int32 → Int32 → PF → PG → PR) (hag_9 : ∀ (x1 : Int32) (x2 : Int32) (x3 : Int32) (F : PF) (G : PG), ag_9 x1 x2 x3 F G = some res → ∀ (b : Nat) (H : Heap) (locs : List Loc) (ls : Array Slot), cMW s A v a b K0 F G H locs → lv_has ls 5 [(0, .ref (a 203)), (1, .int x1), (2, .int x2), (3, .int x3)] → W p l e R s m args below meth c H locs (xn F - xn K0) (2 * (xn F - xn K0)) Q (F0 m 9 ls [])) (hagn_9 : ∀ (x1 : Int32) (x2 : Int32) (x3 : Int32) (F : PF) (G : PG), ag_9 x1 x2 x3 F G = some res → xn F ≤ xn res.2.1) (ag_23 : Int32 → Int32 → Int32 → PF → PG → PR) (hag_23 : ∀ (x1 : Int32) (x3 : Int32) (x4 : Int32) (F : PF) (G : PG), ag_23 x1 x3 x4 F G = some res → ∀ (b : Nat) (H : Heap) (locs : List Loc) (ls : Array Slot), cMW s A v a b K0 F G H locs → lv_has ls 5 [(0, .ref (a 203)), (1, .int x1), (3, .int x3), (4, .int x4)] → W p l e R s m args below meth c H locs (xn F - xn K0) (2 * (xn F - xn K0)) Q (F0 m 23 ls [])) (hagn_23 : ∀ (x1 : Int32) (x3 : Int32) (x4 : Int32) (F : PF) (G : PG), ag_23 x1 x3 x4 F G = some res → xn F ≤ xn res.2.1) (x1 : Int32) (x3 : Int32) (x4 : Int32) (z0 : Int32) (F : PF) (G : PG) (hm : cb_X3_joinedOperands_69 fu rc ag_9 ag_23 x1 x3 x4 z0 F G = some res) {b : Nat} {H : Heap} {locs : List Loc} (hw : cMW s A v a b K0 F G H locs) {ls : Array Slot} (hl : lv_has ls 5 [(0, .ref (a 203)), (1, .int x1), (3, .int x3), (4, .int x4)]) : W p l e R s m args below meth c H locs (xn F - xn K0) (2 * (xn F - xn K0)) Q (F0 m 69 ls [.int z0, .ref (a 203)]) := by
  have hx := C.1
  have hb := C.2.1
  unfold cb_X3_joinedOperands_69 at hm
  obtain ⟨⟨r1, F1, G1⟩, hc, hm⟩ := bind_elim hm
  refine ccallV (n := 1) (As := [.int z0]) (rest := []) C hw (ck_X3_waits l v a _ _ fu z0 F G r1 F1 G1 hc) (cn_X3_waits fu z0 F G _ hc) (Nat.sub_le_sub_right (cn_X3_joinedOperands_72 fu rc hrn ag_9 hagn_9 ag_23 hagn_23 x1 x3 x4 F1 G1 hm) _) (crecv_X3 C hw) cm_467 cm_468 cm_469 cm_301 cm_470 (by decide +kernel) rfl (by omega) (by omega) hl.1 rfl (Nat.le_of_ble_eq_true rfl) dX3_joinedOperands_69 (fun b H locs hw => ?_)
  exact cw_X3_joinedOperands_72 fu rc hr hrn C hret ag_9 hag_9 hagn_9 ag_23 hag_23 hagn_23 x1 x3 x4 F1 G1 hm hw (lv_sub hl [0, 1, 2, 3] rfl)
theorem cn_X3_joinedOperands_62 (fu : Nat) (rc : RC) (hrn : ∀ (i : Nat) (x y : Int32) (F : PF) (G : PG) (q : Int32 × PF × PG), rc i x y F G = some q → xn F ≤ xn q.2.1) {res : Int32 × PF × PG} (ag_9 : Int32 → Int32 → Int32 → PF → PG → PR) (hagn_9 : ∀ (x1 : Int32) (x2 : Int32) (x3 : Int32) (F : PF) (G : PG), ag_9 x1 x2 x3 F G = some res → xn F ≤ xn res.2.1) (ag_23 : Int32 → Int32 → Int32 → PF → PG → PR) (hagn_23 : ∀ (x1 : Int32) (x3 : Int32) (x4 : Int32) (F : PF) (G : PG), ag_23 x1 x3 x4 F G = some res → xn F ≤ xn res.2.1) (x1 : Int32) (x3 : Int32) (x4 : Int32) (F : PF) (G : PG) (hm : cb_X3_joinedOperands_62 fu rc ag_9 ag_23 x1 x3 x4 F G = some res) : xn F ≤ xn res.2.1 := by
  unfold cb_X3_joinedOperands_62 at hm
  exact (cn_X3_joinedOperands_69 fu rc hrn ag_9 hagn_9 ag_23 hagn_23 x1 x3 x4 (F 11) F G hm)
theorem cw_X3_joinedOperands_62 (fu : Nat) (rc : RC) {dd : Nat} (hr : cH1 l v a rc dd) (hrn : ∀ (i : Nat) (x y : Int32) (F : PF) (G : PG) (q : Int32 × PF × PG), rc i x y F G = some q → xn F ≤ xn q.2.1) {res : Int32 × PF × PG} (C : cMC p R s m args c A v RX3 cX3_joinedOperands 5 (dd + 1 + 2) (60 * (dd + 1) + 49) (xn res.2.1 - xn K0)) (hret : ∀ (b1 : Nat) (H1 : Heap) (locs1 : List Loc) (ls1 : Array Slot) (pc : Nat), cMW s A v a b1 K0 res.2.1 res.2.2 H1 locs1 → decode cX3_joinedOperands pc = .ok (.return_, 1) → W p l e R s m args below meth c H1 locs1 (xn res.2.1 - xn K0) (2 * (xn res.2.1 - xn K0)) Q (F0 m pc ls1 [])) (ag_9 : Int32 → Int32 → Int32 → PF → PG → PR) (hag_9 : ∀ (x1 : Int32) (x2 : Int32) (x3 : Int32) (F : PF) (G : PG), ag_9 x1 x2 x3 F G = some res → ∀ (b : Nat) (H : Heap) (locs : List Loc) (ls : Array Slot), cMW s A v a b K0 F G H locs → lv_has ls 5 [(0, .ref (a 203)), (1, .int x1), (2, .int x2), (3, .int x3)] → W p l e R s m args below meth c H locs (xn F - xn K0) (2 * (xn F - xn K0)) Q (F0 m 9 ls [])) (hagn_9 : ∀ (x1 : Int32) (x2 : Int32) (x3 : Int32) (F : PF) (G : PG), ag_9 x1 x2 x3 F G = some res → xn F ≤ xn res.2.1) (ag_23 : Int32 → Int32 → Int32 → PF → PG → PR) (hag_23 : ∀ (x1 : Int32) (x3 : Int32) (x4 : Int32) (F : PF) (G : PG), ag_23 x1 x3 x4 F G = some res → ∀ (b : Nat) (H : Heap) (locs : List Loc) (ls : Array Slot), cMW s A v a b K0 F G H locs → lv_has ls 5 [(0, .ref (a 203)), (1, .int x1), (3, .int x3), (4, .int x4)] → W p l e R s m args below meth c H locs (xn F - xn K0) (2 * (xn F - xn K0)) Q (F0 m 23 ls [])) (hagn_23 : ∀ (x1 : Int32) (x3 : Int32) (x4 : Int32) (F : PF) (G : PG), ag_23 x1 x3 x4 F G = some res → xn F ≤ xn res.2.1) (x1 : Int32) (x3 : Int32) (x4 : Int32) (F : PF) (G : PG) (hm : cb_X3_joinedOperands_62 fu rc ag_9 ag_23 x1 x3 x4 F G = some res) {b : Nat} {H : Heap} {locs : List Loc} (hw : cMW s A v a b K0 F G H locs) {ls : Array Slot} (hl : lv_has ls 5 [(0, .ref (a 203)), (1, .int x1), (3, .int x3), (4, .int x4)]) : W p l e R s m args below meth c H locs (xn F - xn K0) (2 * (xn F - xn K0)) Q (F0 m 62 ls [.ref (a 203)]) := by
  have hx := C.1
  have hb := C.2.1
  unfold cb_X3_joinedOperands_62 at hm
  refine lv_aload_n hx hb dX3_joinedOperands_62 rfl (lv_at hl 0 rfl) ?_
  refine cg_X3_15 C hw dX3_joinedOperands_63 ?_
  refine cg_X3_85 C hw dX3_joinedOperands_66 ?_
  exact cw_X3_joinedOperands_69 fu rc hr hrn C hret ag_9 hag_9 hagn_9 ag_23 hag_23 hagn_23 x1 x3 x4 (F 11) F G hm hw (lv_sub hl [0, 1, 2, 3] rfl)
theorem cn_X3_joinedOperands_57 (fu : Nat) (rc : RC) (hrn : ∀ (i : Nat) (x y : Int32) (F : PF) (G : PG) (q : Int32 × PF × PG), rc i x y F G = some q → xn F ≤ xn q.2.1) {res : Int32 × PF × PG} (ag_9 : Int32 → Int32 → Int32 → PF → PG → PR) (hagn_9 : ∀ (x1 : Int32) (x2 : Int32) (x3 : Int32) (F : PF) (G : PG), ag_9 x1 x2 x3 F G = some res → xn F ≤ xn res.2.1) (ag_23 : Int32 → Int32 → Int32 → PF → PG → PR) (hagn_23 : ∀ (x1 : Int32) (x3 : Int32) (x4 : Int32) (F : PF) (G : PG), ag_23 x1 x3 x4 F G = some res → xn F ≤ xn res.2.1) (x1 : Int32) (x3 : Int32) (x4 : Int32) (F : PF) (G : PG) (hm : cb_X3_joinedOperands_57 fu rc ag_9 ag_23 x1 x3 x4 F G = some res) : xn F ≤ xn res.2.1 := by
  unfold cb_X3_joinedOperands_57 at hm
  exact (cn_X3_joinedOperands_69 fu rc hrn ag_9 hagn_9 ag_23 hagn_23 x1 x3 x4 64 F G hm)
theorem cw_X3_joinedOperands_57 (fu : Nat) (rc : RC) {dd : Nat} (hr : cH1 l v a rc dd) (hrn : ∀ (i : Nat) (x y : Int32) (F : PF) (G : PG) (q : Int32 × PF × PG), rc i x y F G = some q → xn F ≤ xn q.2.1) {res : Int32 × PF × PG} (C : cMC p R s m args c A v RX3 cX3_joinedOperands 5 (dd + 1 + 2) (60 * (dd + 1) + 49) (xn res.2.1 - xn K0)) (hret : ∀ (b1 : Nat) (H1 : Heap) (locs1 : List Loc) (ls1 : Array Slot) (pc : Nat), cMW s A v a b1 K0 res.2.1 res.2.2 H1 locs1 → decode cX3_joinedOperands pc = .ok (.return_, 1) → W p l e R s m args below meth c H1 locs1 (xn res.2.1 - xn K0) (2 * (xn res.2.1 - xn K0)) Q (F0 m pc ls1 [])) (ag_9 : Int32 → Int32 → Int32 → PF → PG → PR) (hag_9 : ∀ (x1 : Int32) (x2 : Int32) (x3 : Int32) (F : PF) (G : PG), ag_9 x1 x2 x3 F G = some res → ∀ (b : Nat) (H : Heap) (locs : List Loc) (ls : Array Slot), cMW s A v a b K0 F G H locs → lv_has ls 5 [(0, .ref (a 203)), (1, .int x1), (2, .int x2), (3, .int x3)] → W p l e R s m args below meth c H locs (xn F - xn K0) (2 * (xn F - xn K0)) Q (F0 m 9 ls [])) (hagn_9 : ∀ (x1 : Int32) (x2 : Int32) (x3 : Int32) (F : PF) (G : PG), ag_9 x1 x2 x3 F G = some res → xn F ≤ xn res.2.1) (ag_23 : Int32 → Int32 → Int32 → PF → PG → PR) (hag_23 : ∀ (x1 : Int32) (x3 : Int32) (x4 : Int32) (F : PF) (G : PG), ag_23 x1 x3 x4 F G = some res → ∀ (b : Nat) (H : Heap) (locs : List Loc) (ls : Array Slot), cMW s A v a b K0 F G H locs → lv_has ls 5 [(0, .ref (a 203)), (1, .int x1), (3, .int x3), (4, .int x4)] → W p l e R s m args below meth c H locs (xn F - xn K0) (2 * (xn F - xn K0)) Q (F0 m 23 ls [])) (hagn_23 : ∀ (x1 : Int32) (x3 : Int32) (x4 : Int32) (F : PF) (G : PG), ag_23 x1 x3 x4 F G = some res → xn F ≤ xn res.2.1) (x1 : Int32) (x3 : Int32) (x4 : Int32) (F : PF) (G : PG) (hm : cb_X3_joinedOperands_57 fu rc ag_9 ag_23 x1 x3 x4 F G = some res) {b : Nat} {H : Heap} {locs : List Loc} (hw : cMW s A v a b K0 F G H locs) {ls : Array Slot} (hl : lv_has ls 5 [(0, .ref (a 203)), (1, .int x1), (3, .int x3), (4, .int x4)]) : W p l e R s m args below meth c H locs (xn F - xn K0) (2 * (xn F - xn K0)) Q (F0 m 57 ls [.ref (a 203)]) := by
  have hx := C.1
  have hb := C.2.1
  unfold cb_X3_joinedOperands_57 at hm
  refine lv_bipush (v := 64) hx hb dX3_joinedOperands_57 (by decide) ?_
  refine lv_goto (tgt := 69) hx hb dX3_joinedOperands_59 (by decide) ?_
  exact cw_X3_joinedOperands_69 fu rc hr hrn C hret ag_9 hag_9 hagn_9 ag_23 hag_23 hagn_23 x1 x3 x4 64 F G hm hw (lv_sub hl [0, 1, 2, 3] rfl)
theorem cn_X3_joinedOperands_44 (fu : Nat) (rc : RC) (hrn : ∀ (i : Nat) (x y : Int32) (F : PF) (G : PG) (q : Int32 × PF × PG), rc i x y F G = some q → xn F ≤ xn q.2.1) {res : Int32 × PF × PG} (ag_9 : Int32 → Int32 → Int32 → PF → PG → PR) (hagn_9 : ∀ (x1 : Int32) (x2 : Int32) (x3 : Int32) (F : PF) (G : PG), ag_9 x1 x2 x3 F G = some res → xn F ≤ xn res.2.1) (ag_23 : Int32 → Int32 → Int32 → PF → PG → PR) (hagn_23 : ∀ (x1 : Int32) (x3 : Int32) (x4 : Int32) (F : PF) (G : PG), ag_23 x1 x3 x4 F G = some res → xn F ≤ xn res.2.1) (x1 : Int32) (x3 : Int32) (x4 : Int32) (F : PF) (G : PG) (hm : cb_X3_joinedOperands_44 fu rc ag_9 ag_23 x1 x3 x4 F G = some res) : xn F ≤ xn res.2.1 := by
  unfold cb_X3_joinedOperands_44 at hm
  by_cases c_1 : (F 11) = (58 : Int32)
  · have hm := (if_pos c_1).symm.trans hm
    exact (cn_X3_joinedOperands_57 fu rc hrn ag_9 hagn_9 ag_23 hagn_23 x1 x3 x4 F G hm)
  · have hm := (if_neg c_1).symm.trans hm
    exact (cn_X3_joinedOperands_62 fu rc hrn ag_9 hagn_9 ag_23 hagn_23 x1 x3 x4 F G hm)
theorem cw_X3_joinedOperands_44 (fu : Nat) (rc : RC) {dd : Nat} (hr : cH1 l v a rc dd) (hrn : ∀ (i : Nat) (x y : Int32) (F : PF) (G : PG) (q : Int32 × PF × PG), rc i x y F G = some q → xn F ≤ xn q.2.1) {res : Int32 × PF × PG} (C : cMC p R s m args c A v RX3 cX3_joinedOperands 5 (dd + 1 + 2) (60 * (dd + 1) + 49) (xn res.2.1 - xn K0)) (hret : ∀ (b1 : Nat) (H1 : Heap) (locs1 : List Loc) (ls1 : Array Slot) (pc : Nat), cMW s A v a b1 K0 res.2.1 res.2.2 H1 locs1 → decode cX3_joinedOperands pc = .ok (.return_, 1) → W p l e R s m args below meth c H1 locs1 (xn res.2.1 - xn K0) (2 * (xn res.2.1 - xn K0)) Q (F0 m pc ls1 [])) (ag_9 : Int32 → Int32 → Int32 → PF → PG → PR) (hag_9 : ∀ (x1 : Int32) (x2 : Int32) (x3 : Int32) (F : PF) (G : PG), ag_9 x1 x2 x3 F G = some res → ∀ (b : Nat) (H : Heap) (locs : List Loc) (ls : Array Slot), cMW s A v a b K0 F G H locs → lv_has ls 5 [(0, .ref (a 203)), (1, .int x1), (2, .int x2), (3, .int x3)] → W p l e R s m args below meth c H locs (xn F - xn K0) (2 * (xn F - xn K0)) Q (F0 m 9 ls [])) (hagn_9 : ∀ (x1 : Int32) (x2 : Int32) (x3 : Int32) (F : PF) (G : PG), ag_9 x1 x2 x3 F G = some res → xn F ≤ xn res.2.1) (ag_23 : Int32 → Int32 → Int32 → PF → PG → PR) (hag_23 : ∀ (x1 : Int32) (x3 : Int32) (x4 : Int32) (F : PF) (G : PG), ag_23 x1 x3 x4 F G = some res → ∀ (b : Nat) (H : Heap) (locs : List Loc) (ls : Array Slot), cMW s A v a b K0 F G H locs → lv_has ls 5 [(0, .ref (a 203)), (1, .int x1), (3, .int x3), (4, .int x4)] → W p l e R s m args below meth c H locs (xn F - xn K0) (2 * (xn F - xn K0)) Q (F0 m 23 ls [])) (hagn_23 : ∀ (x1 : Int32) (x3 : Int32) (x4 : Int32) (F : PF) (G : PG), ag_23 x1 x3 x4 F G = some res → xn F ≤ xn res.2.1) (x1 : Int32) (x3 : Int32) (x4 : Int32) (F : PF) (G : PG) (hm : cb_X3_joinedOperands_44 fu rc ag_9 ag_23 x1 x3 x4 F G = some res) {b : Nat} {H : Heap} {locs : List Loc} (hw : cMW s A v a b K0 F G H locs) {ls : Array Slot} (hl : lv_has ls 5 [(0, .ref (a 203)), (1, .int x1), (3, .int x3), (4, .int x4)]) : W p l e R s m args below meth c H locs (xn F - xn K0) (2 * (xn F - xn K0)) Q (F0 m 44 ls []) := by
  have hx := C.1
  have hb := C.2.1
  unfold cb_X3_joinedOperands_44 at hm
  refine lv_aload_n hx hb dX3_joinedOperands_44 rfl (lv_at hl 0 rfl) ?_
  refine lv_aload_n hx hb dX3_joinedOperands_45 rfl (lv_at hl 0 rfl) ?_
  refine cg_X3_15 C hw dX3_joinedOperands_46 ?_
  refine cg_X3_85 C hw dX3_joinedOperands_49 ?_
  refine lv_bipush (v := 58) hx hb dX3_joinedOperands_52 (by decide) ?_
  refine lv_icmp_ne (tgt := 62) hx hb dX3_joinedOperands_54 (by decide) (fun c_1 => ?_) (fun c_1 => ?_)
  · have hm := (if_neg c_1).symm.trans hm
    exact cw_X3_joinedOperands_62 fu rc hr hrn C hret ag_9 hag_9 hagn_9 ag_23 hag_23 hagn_23 x1 x3 x4 F G hm hw (lv_sub hl [0, 1, 2, 3] rfl)
  · have hm := (if_pos c_1).symm.trans hm
    exact cw_X3_joinedOperands_57 fu rc hr hrn C hret ag_9 hag_9 hagn_9 ag_23 hag_23 hagn_23 x1 x3 x4 F G hm hw (lv_sub hl [0, 1, 2, 3] rfl)
theorem cn_X3_joinedOperands_41 (fu : Nat) (rc : RC) (hrn : ∀ (i : Nat) (x y : Int32) (F : PF) (G : PG) (q : Int32 × PF × PG), rc i x y F G = some q → xn F ≤ xn q.2.1) {res : Int32 × PF × PG} (ag_9 : Int32 → Int32 → Int32 → PF → PG → PR) (hagn_9 : ∀ (x1 : Int32) (x2 : Int32) (x3 : Int32) (F : PF) (G : PG), ag_9 x1 x2 x3 F G = some res → xn F ≤ xn res.2.1) (ag_23 : Int32 → Int32 → Int32 → PF → PG → PR) (hagn_23 : ∀ (x1 : Int32) (x3 : Int32) (x4 : Int32) (F : PF) (G : PG), ag_23 x1 x3 x4 F G = some res → xn F ≤ xn res.2.1) (x1 : Int32) (x3 : Int32) (x4 : Int32) (z0 : Int32) (F : PF) (G : PG) (hm : cb_X3_joinedOperands_41 fu rc ag_9 ag_23 x1 x3 x4 z0 F G = some res) : xn F ≤ xn res.2.1 := by
  unfold cb_X3_joinedOperands_41 at hm
  by_cases c_1 : z0 = (0 : Int32)
  · have hm := (if_pos c_1).symm.trans hm
    exact (cn_X3_joinedOperands_85 fu rc hrn ag_9 hagn_9 x1 x3 F G hm)
  · have hm := (if_neg c_1).symm.trans hm
    exact (cn_X3_joinedOperands_44 fu rc hrn ag_9 hagn_9 ag_23 hagn_23 x1 x3 x4 F G hm)
theorem cw_X3_joinedOperands_41 (fu : Nat) (rc : RC) {dd : Nat} (hr : cH1 l v a rc dd) (hrn : ∀ (i : Nat) (x y : Int32) (F : PF) (G : PG) (q : Int32 × PF × PG), rc i x y F G = some q → xn F ≤ xn q.2.1) {res : Int32 × PF × PG} (C : cMC p R s m args c A v RX3 cX3_joinedOperands 5 (dd + 1 + 2) (60 * (dd + 1) + 49) (xn res.2.1 - xn K0)) (hret : ∀ (b1 : Nat) (H1 : Heap) (locs1 : List Loc) (ls1 : Array Slot) (pc : Nat), cMW s A v a b1 K0 res.2.1 res.2.2 H1 locs1 → decode cX3_joinedOperands pc = .ok (.return_, 1) → W p l e R s m args below meth c H1 locs1 (xn res.2.1 - xn K0) (2 * (xn res.2.1 - xn K0)) Q (F0 m pc ls1 [])) (ag_9 : Int32 → Int32 → Int32 → PF → PG → PR) (hag_9 : ∀ (x1 : Int32) (x2 : Int32) (x3 : Int32) (F : PF) (G : PG), ag_9 x1 x2 x3 F G = some res → ∀ (b : Nat) (H : Heap) (locs : List Loc) (ls : Array Slot), cMW s A v a b K0 F G H locs → lv_has ls 5 [(0, .ref (a 203)), (1, .int x1), (2, .int x2), (3, .int x3)] → W p l e R s m args below meth c H locs (xn F - xn K0) (2 * (xn F - xn K0)) Q (F0 m 9 ls [])) (hagn_9 : ∀ (x1 : Int32) (x2 : Int32) (x3 : Int32) (F : PF) (G : PG), ag_9 x1 x2 x3 F G = some res → xn F ≤ xn res.2.1) (ag_23 : Int32 → Int32 → Int32 → PF → PG → PR) (hag_23 : ∀ (x1 : Int32) (x3 : Int32) (x4 : Int32) (F : PF) (G : PG), ag_23 x1 x3 x4 F G = some res → ∀ (b : Nat) (H : Heap) (locs : List Loc) (ls : Array Slot), cMW s A v a b K0 F G H locs → lv_has ls 5 [(0, .ref (a 203)), (1, .int x1), (3, .int x3), (4, .int x4)] → W p l e R s m args below meth c H locs (xn F - xn K0) (2 * (xn F - xn K0)) Q (F0 m 23 ls [])) (hagn_23 : ∀ (x1 : Int32) (x3 : Int32) (x4 : Int32) (F : PF) (G : PG), ag_23 x1 x3 x4 F G = some res → xn F ≤ xn res.2.1) (x1 : Int32) (x3 : Int32) (x4 : Int32) (z0 : Int32) (F : PF) (G : PG) (hm : cb_X3_joinedOperands_41 fu rc ag_9 ag_23 x1 x3 x4 z0 F G = some res) {b : Nat} {H : Heap} {locs : List Loc} (hw : cMW s A v a b K0 F G H locs) {ls : Array Slot} (hl : lv_has ls 5 [(0, .ref (a 203)), (1, .int x1), (3, .int x3), (4, .int x4)]) : W p l e R s m args below meth c H locs (xn F - xn K0) (2 * (xn F - xn K0)) Q (F0 m 41 ls [.int z0]) := by
  have hx := C.1
  have hb := C.2.1
  unfold cb_X3_joinedOperands_41 at hm
  refine lv_if_eq (tgt := 85) hx hb dX3_joinedOperands_41 (by decide) (fun c_1 => ?_) (fun c_1 => ?_)
  · have hm := (if_pos c_1).symm.trans hm
    exact cw_X3_joinedOperands_85 fu rc hr hrn C hret ag_9 hag_9 hagn_9 x1 x3 F G hm hw (lv_sub hl [0, 1, 2] rfl)
  · have hm := (if_neg c_1).symm.trans hm
    exact cw_X3_joinedOperands_44 fu rc hr hrn C hret ag_9 hag_9 hagn_9 ag_23 hag_23 hagn_23 x1 x3 x4 F G hm hw (lv_sub hl [0, 1, 2, 3] rfl)
theorem cn_X3_joinedOperands_31 (fu : Nat) (rc : RC) (hrn : ∀ (i : Nat) (x y : Int32) (F : PF) (G : PG) (q : Int32 × PF × PG), rc i x y F G = some q → xn F ≤ xn q.2.1) {res : Int32 × PF × PG} (ag_9 : Int32 → Int32 → Int32 → PF → PG → PR) (hagn_9 : ∀ (x1 : Int32) (x2 : Int32) (x3 : Int32) (F : PF) (G : PG), ag_9 x1 x2 x3 F G = some res → xn F ≤ xn res.2.1) (ag_23 : Int32 → Int32 → Int32 → PF → PG → PR) (hagn_23 : ∀ (x1 : Int32) (x3 : Int32) (x4 : Int32) (F : PF) (G : PG), ag_23 x1 x3 x4 F G = some res → xn F ≤ xn res.2.1) (x1 : Int32) (x3 : Int32) (x4 : Int32) (F : PF) (G : PG) (hm : cb_X3_joinedOperands_31 fu rc ag_9 ag_23 x1 x3 x4 F G = some res) : xn F ≤ xn res.2.1 := by
  unfold cb_X3_joinedOperands_31 at hm
  obtain ⟨⟨r1, F1, G1⟩, hc, hm⟩ := bind_elim hm
  exact Nat.le_trans (cn_X3_isAhead fu (F 11) F G _ hc) (cn_X3_joinedOperands_41 fu rc hrn ag_9 hagn_9 ag_23 hagn_23 x1 x3 x4 r1 F1 G1 hm)
theorem cw_X3_joinedOperands_31 (fu : Nat) (rc : RC) {dd : Nat} (hr : cH1 l v a rc dd) (hrn : ∀ (i : Nat) (x y : Int32) (F : PF) (G : PG) (q : Int32 × PF × PG), rc i x y F G = some q → xn F ≤ xn q.2.1) {res : Int32 × PF × PG} (C : cMC p R s m args c A v RX3 cX3_joinedOperands 5 (dd + 1 + 2) (60 * (dd + 1) + 49) (xn res.2.1 - xn K0)) (hret : ∀ (b1 : Nat) (H1 : Heap) (locs1 : List Loc) (ls1 : Array Slot) (pc : Nat), cMW s A v a b1 K0 res.2.1 res.2.2 H1 locs1 → decode cX3_joinedOperands pc = .ok (.return_, 1) → W p l e R s m args below meth c H1 locs1 (xn res.2.1 - xn K0) (2 * (xn res.2.1 - xn K0)) Q (F0 m pc ls1 [])) (ag_9 : Int32 → Int32 → Int32 → PF → PG → PR) (hag_9 : ∀ (x1 : Int32) (x2 : Int32) (x3 : Int32) (F : PF) (G : PG), ag_9 x1 x2 x3 F G = some res → ∀ (b : Nat) (H : Heap) (locs : List Loc) (ls : Array Slot), cMW s A v a b K0 F G H locs → lv_has ls 5 [(0, .ref (a 203)), (1, .int x1), (2, .int x2), (3, .int x3)] → W p l e R s m args below meth c H locs (xn F - xn K0) (2 * (xn F - xn K0)) Q (F0 m 9 ls [])) (hagn_9 : ∀ (x1 : Int32) (x2 : Int32) (x3 : Int32) (F : PF) (G : PG), ag_9 x1 x2 x3 F G = some res → xn F ≤ xn res.2.1) (ag_23 : Int32 → Int32 → Int32 → PF → PG → PR) (hag_23 : ∀ (x1 : Int32) (x3 : Int32) (x4 : Int32) (F : PF) (G : PG), ag_23 x1 x3 x4 F G = some res → ∀ (b : Nat) (H : Heap) (locs : List Loc) (ls : Array Slot), cMW s A v a b K0 F G H locs → lv_has ls 5 [(0, .ref (a 203)), (1, .int x1), (3, .int x3), (4, .int x4)] → W p l e R s m args below meth c H locs (xn F - xn K0) (2 * (xn F - xn K0)) Q (F0 m 23 ls [])) (hagn_23 : ∀ (x1 : Int32) (x3 : Int32) (x4 : Int32) (F : PF) (G : PG), ag_23 x1 x3 x4 F G = some res → xn F ≤ xn res.2.1) (x1 : Int32) (x3 : Int32) (x4 : Int32) (F : PF) (G : PG) (hm : cb_X3_joinedOperands_31 fu rc ag_9 ag_23 x1 x3 x4 F G = some res) {b : Nat} {H : Heap} {locs : List Loc} (hw : cMW s A v a b K0 F G H locs) {ls : Array Slot} (hl : lv_has ls 5 [(0, .ref (a 203)), (1, .int x1), (3, .int x3), (4, .int x4)]) : W p l e R s m args below meth c H locs (xn F - xn K0) (2 * (xn F - xn K0)) Q (F0 m 31 ls []) := by
  have hx := C.1
  have hb := C.2.1
  unfold cb_X3_joinedOperands_31 at hm
  refine lv_aload_n hx hb dX3_joinedOperands_31 rfl (lv_at hl 0 rfl) ?_
  refine cg_X3_15 C hw dX3_joinedOperands_32 ?_
  refine cg_X3_85 C hw dX3_joinedOperands_35 ?_
  obtain ⟨⟨r1, F1, G1⟩, hc, hm⟩ := bind_elim hm
  refine ccallIS (n := 1) (As := [.int (F 11)]) (rest := []) C hw (ck_X3_isAhead l v a _ _ fu (F 11) F G r1 F1 G1 hc) (cn_X3_isAhead fu (F 11) F G _ hc) (Nat.sub_le_sub_right (cn_X3_joinedOperands_41 fu rc hrn ag_9 hagn_9 ag_23 hagn_23 x1 x3 x4 r1 F1 G1 hm) _) cm_464 cm_465 cm_301 cm_466 (by decide +kernel) rfl (by omega) (by omega) hl.1 rfl (Nat.le_of_ble_eq_true rfl) dX3_joinedOperands_38 (fun b H locs hw => ?_)
  exact cw_X3_joinedOperands_41 fu rc hr hrn C hret ag_9 hag_9 hagn_9 ag_23 hag_23 hagn_23 x1 x3 x4 r1 F1 G1 hm hw (lv_sub hl [0, 1, 2, 3] rfl)
theorem cn_X3_joinedOperands_23 (fu : Nat) (rc : RC) (hrn : ∀ (i : Nat) (x y : Int32) (F : PF) (G : PG) (q : Int32 × PF × PG), rc i x y F G = some q → xn F ≤ xn q.2.1) {res : Int32 × PF × PG} (ag_9 : Int32 → Int32 → Int32 → PF → PG → PR) (hagn_9 : ∀ (x1 : Int32) (x2 : Int32) (x3 : Int32) (F : PF) (G : PG), ag_9 x1 x2 x3 F G = some res → xn F ≤ xn res.2.1) (ag_23 : Int32 → Int32 → Int32 → PF → PG → PR) (hagn_23 : ∀ (x1 : Int32) (x3 : Int32) (x4 : Int32) (F : PF) (G : PG), ag_23 x1 x3 x4 F G = some res → xn F ≤ xn res.2.1) (x1 : Int32) (x3 : Int32) (x4 : Int32) (F : PF) (G : PG) (hm : cb_X3_joinedOperands_23 fu rc ag_9 ag_23 x1 x3 x4 F G = some res) : xn F ≤ xn res.2.1 := by
  unfold cb_X3_joinedOperands_23 at hm
  by_cases c_1 : (4001 : Int32) ≤ x4
  · have hm := (if_pos c_1).symm.trans hm
    exact (cn_X3_joinedOperands_85 fu rc hrn ag_9 hagn_9 x1 x3 F G hm)
  · have hm := (if_neg c_1).symm.trans hm
    exact (cn_X3_joinedOperands_31 fu rc hrn ag_9 hagn_9 ag_23 hagn_23 x1 x3 x4 F G hm)
theorem cw_X3_joinedOperands_23 (fu : Nat) (rc : RC) {dd : Nat} (hr : cH1 l v a rc dd) (hrn : ∀ (i : Nat) (x y : Int32) (F : PF) (G : PG) (q : Int32 × PF × PG), rc i x y F G = some q → xn F ≤ xn q.2.1) {res : Int32 × PF × PG} (C : cMC p R s m args c A v RX3 cX3_joinedOperands 5 (dd + 1 + 2) (60 * (dd + 1) + 49) (xn res.2.1 - xn K0)) (hret : ∀ (b1 : Nat) (H1 : Heap) (locs1 : List Loc) (ls1 : Array Slot) (pc : Nat), cMW s A v a b1 K0 res.2.1 res.2.2 H1 locs1 → decode cX3_joinedOperands pc = .ok (.return_, 1) → W p l e R s m args below meth c H1 locs1 (xn res.2.1 - xn K0) (2 * (xn res.2.1 - xn K0)) Q (F0 m pc ls1 [])) (ag_9 : Int32 → Int32 → Int32 → PF → PG → PR) (hag_9 : ∀ (x1 : Int32) (x2 : Int32) (x3 : Int32) (F : PF) (G : PG), ag_9 x1 x2 x3 F G = some res → ∀ (b : Nat) (H : Heap) (locs : List Loc) (ls : Array Slot), cMW s A v a b K0 F G H locs → lv_has ls 5 [(0, .ref (a 203)), (1, .int x1), (2, .int x2), (3, .int x3)] → W p l e R s m args below meth c H locs (xn F - xn K0) (2 * (xn F - xn K0)) Q (F0 m 9 ls [])) (hagn_9 : ∀ (x1 : Int32) (x2 : Int32) (x3 : Int32) (F : PF) (G : PG), ag_9 x1 x2 x3 F G = some res → xn F ≤ xn res.2.1) (ag_23 : Int32 → Int32 → Int32 → PF → PG → PR) (hag_23 : ∀ (x1 : Int32) (x3 : Int32) (x4 : Int32) (F : PF) (G : PG), ag_23 x1 x3 x4 F G = some res → ∀ (b : Nat) (H : Heap) (locs : List Loc) (ls : Array Slot), cMW s A v a b K0 F G H locs → lv_has ls 5 [(0, .ref (a 203)), (1, .int x1), (3, .int x3), (4, .int x4)] → W p l e R s m args below meth c H locs (xn F - xn K0) (2 * (xn F - xn K0)) Q (F0 m 23 ls [])) (hagn_23 : ∀ (x1 : Int32) (x3 : Int32) (x4 : Int32) (F : PF) (G : PG), ag_23 x1 x3 x4 F G = some res → xn F ≤ xn res.2.1) (x1 : Int32) (x3 : Int32) (x4 : Int32) (F : PF) (G : PG) (hm : cb_X3_joinedOperands_23 fu rc ag_9 ag_23 x1 x3 x4 F G = some res) {b : Nat} {H : Heap} {locs : List Loc} (hw : cMW s A v a b K0 F G H locs) {ls : Array Slot} (hl : lv_has ls 5 [(0, .ref (a 203)), (1, .int x1), (3, .int x3), (4, .int x4)]) : W p l e R s m args below meth c H locs (xn F - xn K0) (2 * (xn F - xn K0)) Q (F0 m 23 ls []) := by
  have hx := C.1
  have hb := C.2.1
  unfold cb_X3_joinedOperands_23 at hm
  refine lv_iload hx hb dX3_joinedOperands_23 (lv_at hl 3 rfl) ?_
  refine lv_sipush (v := 4001) hx hb dX3_joinedOperands_25 (by decide) ?_
  refine lv_icmp_ge (tgt := 85) hx hb dX3_joinedOperands_28 (by decide) (fun c_1 => ?_) (fun c_1 => ?_)
  · have hm := (if_pos c_1).symm.trans hm
    exact cw_X3_joinedOperands_85 fu rc hr hrn C hret ag_9 hag_9 hagn_9 x1 x3 F G hm hw (lv_sub hl [0, 1, 2] rfl)
  · have hm := (if_neg c_1).symm.trans hm
    exact cw_X3_joinedOperands_31 fu rc hr hrn C hret ag_9 hag_9 hagn_9 ag_23 hag_23 hagn_23 x1 x3 x4 F G hm hw (lv_sub hl [0, 1, 2, 3] rfl)
theorem cnl_X3_joinedOperands_23 (fu : Nat) (rc : RC) (hrn : ∀ (i : Nat) (x y : Int32) (F : PF) (G : PG) (q : Int32 × PF × PG), rc i x y F G = some q → xn F ≤ xn q.2.1) {res : Int32 × PF × PG} (ag_9 : Int32 → Int32 → Int32 → PF → PG → PR) (hagn_9 : ∀ (x1 : Int32) (x2 : Int32) (x3 : Int32) (F : PF) (G : PG), ag_9 x1 x2 x3 F G = some res → xn F ≤ xn res.2.1) : ∀ (n : Nat) (x1 : Int32) (x3 : Int32) (x4 : Int32) (F : PF) (G : PG) (hm : cl_X3_joinedOperands_23 fu rc ag_9 n x1 x3 x4 F G = some res), xn F ≤ xn res.2.1 := by
  intro n
  induction n with
  | zero =>
    intro x1 x3 x4 F G hm
    exact no_elim (show (none : PR) = some res from hm)
  | succ n ih =>
    intro x1 x3 x4 F G hm
    exact cn_X3_joinedOperands_23 fu rc hrn ag_9 hagn_9 (cl_X3_joinedOperands_23 fu rc ag_9 n) (fun x1 x3 x4 F G hm => ih x1 x3 x4 F G hm) x1 x3 x4 F G hm
theorem cwl_X3_joinedOperands_23 (fu : Nat) (rc : RC) {dd : Nat} (hr : cH1 l v a rc dd) (hrn : ∀ (i : Nat) (x y : Int32) (F : PF) (G : PG) (q : Int32 × PF × PG), rc i x y F G = some q → xn F ≤ xn q.2.1) {res : Int32 × PF × PG} (C : cMC p R s m args c A v RX3 cX3_joinedOperands 5 (dd + 1 + 2) (60 * (dd + 1) + 49) (xn res.2.1 - xn K0)) (hret : ∀ (b1 : Nat) (H1 : Heap) (locs1 : List Loc) (ls1 : Array Slot) (pc : Nat), cMW s A v a b1 K0 res.2.1 res.2.2 H1 locs1 → decode cX3_joinedOperands pc = .ok (.return_, 1) → W p l e R s m args below meth c H1 locs1 (xn res.2.1 - xn K0) (2 * (xn res.2.1 - xn K0)) Q (F0 m pc ls1 [])) (ag_9 : Int32 → Int32 → Int32 → PF → PG → PR) (hag_9 : ∀ (x1 : Int32) (x2 : Int32) (x3 : Int32) (F : PF) (G : PG), ag_9 x1 x2 x3 F G = some res → ∀ (b : Nat) (H : Heap) (locs : List Loc) (ls : Array Slot), cMW s A v a b K0 F G H locs → lv_has ls 5 [(0, .ref (a 203)), (1, .int x1), (2, .int x2), (3, .int x3)] → W p l e R s m args below meth c H locs (xn F - xn K0) (2 * (xn F - xn K0)) Q (F0 m 9 ls [])) (hagn_9 : ∀ (x1 : Int32) (x2 : Int32) (x3 : Int32) (F : PF) (G : PG), ag_9 x1 x2 x3 F G = some res → xn F ≤ xn res.2.1) : ∀ (n : Nat) (x1 : Int32) (x3 : Int32) (x4 : Int32) (F : PF) (G : PG) (hm : cl_X3_joinedOperands_23 fu rc ag_9 n x1 x3 x4 F G = some res) {b : Nat} {H : Heap} {locs : List Loc} (hw : cMW s A v a b K0 F G H locs) {ls : Array Slot} (hl : lv_has ls 5 [(0, .ref (a 203)), (1, .int x1), (3, .int x3), (4, .int x4)]), W p l e R s m args below meth c H locs (xn F - xn K0) (2 * (xn F - xn K0)) Q (F0 m 23 ls []) := by
  intro n
  induction n with
  | zero =>
    intro x1 x3 x4 F G hm
    exact no_elim (show (none : PR) = some res from hm)
  | succ n ih =>
    intro x1 x3 x4 F G hm b H locs hw ls hl
    exact cw_X3_joinedOperands_23 fu rc hr hrn C hret ag_9 hag_9 hagn_9 (cl_X3_joinedOperands_23 fu rc ag_9 n) (fun x1 x3 x4 F G hm b H locs ls hw hl => ih x1 x3 x4 F G hm hw hl) (fun x1 x3 x4 F G hm => cnl_X3_joinedOperands_23 fu rc hrn ag_9 hagn_9 n x1 x3 x4 F G hm) x1 x3 x4 F G hm hw hl
theorem cn_X3_joinedOperands_20 (fu : Nat) (rc : RC) (hrn : ∀ (i : Nat) (x y : Int32) (F : PF) (G : PG) (q : Int32 × PF × PG), rc i x y F G = some q → xn F ≤ xn q.2.1) {res : Int32 × PF × PG} (ag_9 : Int32 → Int32 → Int32 → PF → PG → PR) (hagn_9 : ∀ (x1 : Int32) (x2 : Int32) (x3 : Int32) (F : PF) (G : PG), ag_9 x1 x2 x3 F G = some res → xn F ≤ xn res.2.1) (x1 : Int32) (x3 : Int32) (F : PF) (G : PG) (hm : cb_X3_joinedOperands_20 fu rc ag_9 x1 x3 F G = some res) : xn F ≤ xn res.2.1 := by
  unfold cb_X3_joinedOperands_20 at hm
  exact (cnl_X3_joinedOperands_23 fu rc hrn ag_9 hagn_9 fu x1 x3 0 F G hm)
theorem cw_X3_joinedOperands_20 (fu : Nat) (rc : RC) {dd : Nat} (hr : cH1 l v a rc dd) (hrn : ∀ (i : Nat) (x y : Int32) (F : PF) (G : PG) (q : Int32 × PF × PG), rc i x y F G = some q → xn F ≤ xn q.2.1) {res : Int32 × PF × PG} (C : cMC p R s m args c A v RX3 cX3_joinedOperands 5 (dd + 1 + 2) (60 * (dd + 1) + 49) (xn res.2.1 - xn K0)) (hret : ∀ (b1 : Nat) (H1 : Heap) (locs1 : List Loc) (ls1 : Array Slot) (pc : Nat), cMW s A v a b1 K0 res.2.1 res.2.2 H1 locs1 → decode cX3_joinedOperands pc = .ok (.return_, 1) → W p l e R s m args below meth c H1 locs1 (xn res.2.1 - xn K0) (2 * (xn res.2.1 - xn K0)) Q (F0 m pc ls1 [])) (ag_9 : Int32 → Int32 → Int32 → PF → PG → PR) (hag_9 : ∀ (x1 : Int32) (x2 : Int32) (x3 : Int32) (F : PF) (G : PG), ag_9 x1 x2 x3 F G = some res → ∀ (b : Nat) (H : Heap) (locs : List Loc) (ls : Array Slot), cMW s A v a b K0 F G H locs → lv_has ls 5 [(0, .ref (a 203)), (1, .int x1), (2, .int x2), (3, .int x3)] → W p l e R s m args below meth c H locs (xn F - xn K0) (2 * (xn F - xn K0)) Q (F0 m 9 ls [])) (hagn_9 : ∀ (x1 : Int32) (x2 : Int32) (x3 : Int32) (F : PF) (G : PG), ag_9 x1 x2 x3 F G = some res → xn F ≤ xn res.2.1) (x1 : Int32) (x3 : Int32) (F : PF) (G : PG) (hm : cb_X3_joinedOperands_20 fu rc ag_9 x1 x3 F G = some res) {b : Nat} {H : Heap} {locs : List Loc} (hw : cMW s A v a b K0 F G H locs) {ls : Array Slot} (hl : lv_has ls 5 [(0, .ref (a 203)), (1, .int x1), (3, .int x3)]) : W p l e R s m args below meth c H locs (xn F - xn K0) (2 * (xn F - xn K0)) Q (F0 m 20 ls []) := by
  have hx := C.1
  have hb := C.2.1
  unfold cb_X3_joinedOperands_20 at hm
  refine lv_iconst (v := 0) hx hb dX3_joinedOperands_20 (by decide) ?_
  refine lv_istore (lv' := [(4, .int 0), (0, .ref (a 203)), (1, .int x1), (3, .int x3)]) hx hb dX3_joinedOperands_21 hl (by decide) rfl (fun ls hl => ?_)
  exact cwl_X3_joinedOperands_23 fu rc hr hrn C hret ag_9 hag_9 hagn_9 fu x1 x3 0 F G hm hw (lv_sub hl [1, 2, 3, 0] rfl)
theorem cn_X3_joinedOperands_16 (fu : Nat) (rc : RC) (hrn : ∀ (i : Nat) (x y : Int32) (F : PF) (G : PG) (q : Int32 × PF × PG), rc i x y F G = some q → xn F ≤ xn q.2.1) {res : Int32 × PF × PG} (ag_9 : Int32 → Int32 → Int32 → PF → PG → PR) (hagn_9 : ∀ (x1 : Int32) (x2 : Int32) (x3 : Int32) (F : PF) (G : PG), ag_9 x1 x2 x3 F G = some res → xn F ≤ xn res.2.1) (x1 : Int32) (x2 : Int32) (x3 : Int32) (F : PF) (G : PG) (hm : cb_X3_joinedOperands_16 fu rc ag_9 x1 x2 x3 F G = some res) : xn F ≤ xn res.2.1 := by
  unfold cb_X3_joinedOperands_16 at hm
  by_cases c_1 : x2 = (0 : Int32)
  · have hm := (if_pos c_1).symm.trans hm
    exact (cn_X3_joinedOperands_162 fu rc hrn x1 F G hm)
  · have hm := (if_neg c_1).symm.trans hm
    exact (cn_X3_joinedOperands_20 fu rc hrn ag_9 hagn_9 x1 x3 F G hm)
theorem cw_X3_joinedOperands_16 (fu : Nat) (rc : RC) {dd : Nat} (hr : cH1 l v a rc dd) (hrn : ∀ (i : Nat) (x y : Int32) (F : PF) (G : PG) (q : Int32 × PF × PG), rc i x y F G = some q → xn F ≤ xn q.2.1) {res : Int32 × PF × PG} (C : cMC p R s m args c A v RX3 cX3_joinedOperands 5 (dd + 1 + 2) (60 * (dd + 1) + 49) (xn res.2.1 - xn K0)) (hret : ∀ (b1 : Nat) (H1 : Heap) (locs1 : List Loc) (ls1 : Array Slot) (pc : Nat), cMW s A v a b1 K0 res.2.1 res.2.2 H1 locs1 → decode cX3_joinedOperands pc = .ok (.return_, 1) → W p l e R s m args below meth c H1 locs1 (xn res.2.1 - xn K0) (2 * (xn res.2.1 - xn K0)) Q (F0 m pc ls1 [])) (ag_9 : Int32 → Int32 → Int32 → PF → PG → PR) (hag_9 : ∀ (x1 : Int32) (x2 : Int32) (x3 : Int32) (F : PF) (G : PG), ag_9 x1 x2 x3 F G = some res → ∀ (b : Nat) (H : Heap) (locs : List Loc) (ls : Array Slot), cMW s A v a b K0 F G H locs → lv_has ls 5 [(0, .ref (a 203)), (1, .int x1), (2, .int x2), (3, .int x3)] → W p l e R s m args below meth c H locs (xn F - xn K0) (2 * (xn F - xn K0)) Q (F0 m 9 ls [])) (hagn_9 : ∀ (x1 : Int32) (x2 : Int32) (x3 : Int32) (F : PF) (G : PG), ag_9 x1 x2 x3 F G = some res → xn F ≤ xn res.2.1) (x1 : Int32) (x2 : Int32) (x3 : Int32) (F : PF) (G : PG) (hm : cb_X3_joinedOperands_16 fu rc ag_9 x1 x2 x3 F G = some res) {b : Nat} {H : Heap} {locs : List Loc} (hw : cMW s A v a b K0 F G H locs) {ls : Array Slot} (hl : lv_has ls 5 [(0, .ref (a 203)), (1, .int x1), (2, .int x2), (3, .int x3)]) : W p l e R s m args below meth c H locs (xn F - xn K0) (2 * (xn F - xn K0)) Q (F0 m 16 ls []) := by
  have hx := C.1
  have hb := C.2.1
  unfold cb_X3_joinedOperands_16 at hm
  refine lv_iload_n hx hb dX3_joinedOperands_16 rfl (lv_at hl 2 rfl) ?_
  refine lv_if_eq (tgt := 162) hx hb dX3_joinedOperands_17 (by decide) (fun c_1 => ?_) (fun c_1 => ?_)
  · have hm := (if_pos c_1).symm.trans hm
    exact cw_X3_joinedOperands_162 fu rc hr hrn C hret x1 F G hm hw (lv_sub hl [0, 1] rfl)
  · have hm := (if_neg c_1).symm.trans hm
    exact cw_X3_joinedOperands_20 fu rc hr hrn C hret ag_9 hag_9 hagn_9 x1 x3 F G hm hw (lv_sub hl [0, 1, 3] rfl)
theorem cn_X3_joinedOperands_9 (fu : Nat) (rc : RC) (hrn : ∀ (i : Nat) (x y : Int32) (F : PF) (G : PG) (q : Int32 × PF × PG), rc i x y F G = some q → xn F ≤ xn q.2.1) {res : Int32 × PF × PG} (ag_9 : Int32 → Int32 → Int32 → PF → PG → PR) (hagn_9 : ∀ (x1 : Int32) (x2 : Int32) (x3 : Int32) (F : PF) (G : PG), ag_9 x1 x2 x3 F G = some res → xn F ≤ xn res.2.1) (x1 : Int32) (x2 : Int32) (x3 : Int32) (F : PF) (G : PG) (hm : cb_X3_joinedOperands_9 fu rc ag_9 x1 x2 x3 F G = some res) : xn F ≤ xn res.2.1 := by
  unfold cb_X3_joinedOperands_9 at hm
  by_cases c_1 : (4001 : Int32) ≤ x3
  · have hm := (if_pos c_1).symm.trans hm
    exact (cn_X3_joinedOperands_162 fu rc hrn x1 F G hm)
  · have hm := (if_neg c_1).symm.trans hm
    exact (cn_X3_joinedOperands_16 fu rc hrn ag_9 hagn_9 x1 x2 x3 F G hm)
theorem cw_X3_joinedOperands_9 (fu : Nat) (rc : RC) {dd : Nat} (hr : cH1 l v a rc dd) (hrn : ∀ (i : Nat) (x y : Int32) (F : PF) (G : PG) (q : Int32 × PF × PG), rc i x y F G = some q → xn F ≤ xn q.2.1) {res : Int32 × PF × PG} (C : cMC p R s m args c A v RX3 cX3_joinedOperands 5 (dd + 1 + 2) (60 * (dd + 1) + 49) (xn res.2.1 - xn K0)) (hret : ∀ (b1 : Nat) (H1 : Heap) (locs1 : List Loc) (ls1 : Array Slot) (pc : Nat), cMW s A v a b1 K0 res.2.1 res.2.2 H1 locs1 → decode cX3_joinedOperands pc = .ok (.return_, 1) → W p l e R s m args below meth c H1 locs1 (xn res.2.1 - xn K0) (2 * (xn res.2.1 - xn K0)) Q (F0 m pc ls1 [])) (ag_9 : Int32 → Int32 → Int32 → PF → PG → PR) (hag_9 : ∀ (x1 : Int32) (x2 : Int32) (x3 : Int32) (F : PF) (G : PG), ag_9 x1 x2 x3 F G = some res → ∀ (b : Nat) (H : Heap) (locs : List Loc) (ls : Array Slot), cMW s A v a b K0 F G H locs → lv_has ls 5 [(0, .ref (a 203)), (1, .int x1), (2, .int x2), (3, .int x3)] → W p l e R s m args below meth c H locs (xn F - xn K0) (2 * (xn F - xn K0)) Q (F0 m 9 ls [])) (hagn_9 : ∀ (x1 : Int32) (x2 : Int32) (x3 : Int32) (F : PF) (G : PG), ag_9 x1 x2 x3 F G = some res → xn F ≤ xn res.2.1) (x1 : Int32) (x2 : Int32) (x3 : Int32) (F : PF) (G : PG) (hm : cb_X3_joinedOperands_9 fu rc ag_9 x1 x2 x3 F G = some res) {b : Nat} {H : Heap} {locs : List Loc} (hw : cMW s A v a b K0 F G H locs) {ls : Array Slot} (hl : lv_has ls 5 [(0, .ref (a 203)), (1, .int x1), (2, .int x2), (3, .int x3)]) : W p l e R s m args below meth c H locs (xn F - xn K0) (2 * (xn F - xn K0)) Q (F0 m 9 ls []) := by
  have hx := C.1
  have hb := C.2.1
  unfold cb_X3_joinedOperands_9 at hm
  refine lv_iload_n hx hb dX3_joinedOperands_9 rfl (lv_at hl 3 rfl) ?_
  refine lv_sipush (v := 4001) hx hb dX3_joinedOperands_10 (by decide) ?_
  refine lv_icmp_ge (tgt := 162) hx hb dX3_joinedOperands_13 (by decide) (fun c_1 => ?_) (fun c_1 => ?_)
  · have hm := (if_pos c_1).symm.trans hm
    exact cw_X3_joinedOperands_162 fu rc hr hrn C hret x1 F G hm hw (lv_sub hl [0, 1] rfl)
  · have hm := (if_neg c_1).symm.trans hm
    exact cw_X3_joinedOperands_16 fu rc hr hrn C hret ag_9 hag_9 hagn_9 x1 x2 x3 F G hm hw (lv_sub hl [0, 1, 2, 3] rfl)
theorem cnl_X3_joinedOperands_9 (fu : Nat) (rc : RC) (hrn : ∀ (i : Nat) (x y : Int32) (F : PF) (G : PG) (q : Int32 × PF × PG), rc i x y F G = some q → xn F ≤ xn q.2.1) {res : Int32 × PF × PG} : ∀ (n : Nat) (x1 : Int32) (x2 : Int32) (x3 : Int32) (F : PF) (G : PG) (hm : cl_X3_joinedOperands_9 fu rc n x1 x2 x3 F G = some res), xn F ≤ xn res.2.1 := by
  intro n
  induction n with
  | zero =>
    intro x1 x2 x3 F G hm
    exact no_elim (show (none : PR) = some res from hm)
  | succ n ih =>
    intro x1 x2 x3 F G hm
    exact cn_X3_joinedOperands_9 fu rc hrn (cl_X3_joinedOperands_9 fu rc n) (fun x1 x2 x3 F G hm => ih x1 x2 x3 F G hm) x1 x2 x3 F G hm
theorem cwl_X3_joinedOperands_9 (fu : Nat) (rc : RC) {dd : Nat} (hr : cH1 l v a rc dd) (hrn : ∀ (i : Nat) (x y : Int32) (F : PF) (G : PG) (q : Int32 × PF × PG), rc i x y F G = some q → xn F ≤ xn q.2.1) {res : Int32 × PF × PG} (C : cMC p R s m args c A v RX3 cX3_joinedOperands 5 (dd + 1 + 2) (60 * (dd + 1) + 49) (xn res.2.1 - xn K0)) (hret : ∀ (b1 : Nat) (H1 : Heap) (locs1 : List Loc) (ls1 : Array Slot) (pc : Nat), cMW s A v a b1 K0 res.2.1 res.2.2 H1 locs1 → decode cX3_joinedOperands pc = .ok (.return_, 1) → W p l e R s m args below meth c H1 locs1 (xn res.2.1 - xn K0) (2 * (xn res.2.1 - xn K0)) Q (F0 m pc ls1 [])) : ∀ (n : Nat) (x1 : Int32) (x2 : Int32) (x3 : Int32) (F : PF) (G : PG) (hm : cl_X3_joinedOperands_9 fu rc n x1 x2 x3 F G = some res) {b : Nat} {H : Heap} {locs : List Loc} (hw : cMW s A v a b K0 F G H locs) {ls : Array Slot} (hl : lv_has ls 5 [(0, .ref (a 203)), (1, .int x1), (2, .int x2), (3, .int x3)]), W p l e R s m args below meth c H locs (xn F - xn K0) (2 * (xn F - xn K0)) Q (F0 m 9 ls []) := by
  intro n
  induction n with
  | zero =>
    intro x1 x2 x3 F G hm
    exact no_elim (show (none : PR) = some res from hm)
  | succ n ih =>
    intro x1 x2 x3 F G hm b H locs hw ls hl
    exact cw_X3_joinedOperands_9 fu rc hr hrn C hret (cl_X3_joinedOperands_9 fu rc n) (fun x1 x2 x3 F G hm b H locs ls hw hl => ih x1 x2 x3 F G hm hw hl) (fun x1 x2 x3 F G hm => cnl_X3_joinedOperands_9 fu rc hrn n x1 x2 x3 F G hm) x1 x2 x3 F G hm hw hl
theorem cn_X3_joinedOperands_0 (fu : Nat) (rc : RC) (hrn : ∀ (i : Nat) (x y : Int32) (F : PF) (G : PG) (q : Int32 × PF × PG), rc i x y F G = some q → xn F ≤ xn q.2.1) {res : Int32 × PF × PG} (F : PF) (G : PG) (hm : cb_X3_joinedOperands_0 fu rc F G = some res) : xn F ≤ xn res.2.1 := by
  unfold cb_X3_joinedOperands_0 at hm
  exact (cnl_X3_joinedOperands_9 fu rc hrn fu (F 21) 1 0 F G hm)
theorem cw_X3_joinedOperands_0 (fu : Nat) (rc : RC) {dd : Nat} (hr : cH1 l v a rc dd) (hrn : ∀ (i : Nat) (x y : Int32) (F : PF) (G : PG) (q : Int32 × PF × PG), rc i x y F G = some q → xn F ≤ xn q.2.1) {res : Int32 × PF × PG} (C : cMC p R s m args c A v RX3 cX3_joinedOperands 5 (dd + 1 + 2) (60 * (dd + 1) + 49) (xn res.2.1 - xn K0)) (hret : ∀ (b1 : Nat) (H1 : Heap) (locs1 : List Loc) (ls1 : Array Slot) (pc : Nat), cMW s A v a b1 K0 res.2.1 res.2.2 H1 locs1 → decode cX3_joinedOperands pc = .ok (.return_, 1) → W p l e R s m args below meth c H1 locs1 (xn res.2.1 - xn K0) (2 * (xn res.2.1 - xn K0)) Q (F0 m pc ls1 [])) (F : PF) (G : PG) (hm : cb_X3_joinedOperands_0 fu rc F G = some res) {b : Nat} {H : Heap} {locs : List Loc} (hw : cMW s A v a b K0 F G H locs) {ls : Array Slot} (hl : lv_has ls 5 [(0, .ref (a 203))]) : W p l e R s m args below meth c H locs (xn F - xn K0) (2 * (xn F - xn K0)) Q (F0 m 0 ls []) := by
  have hx := C.1
  have hb := C.2.1
  unfold cb_X3_joinedOperands_0 at hm
  refine lv_aload_n hx hb dX3_joinedOperands_0 rfl (lv_at hl 0 rfl) ?_
  refine cg_X3_35 C hw dX3_joinedOperands_1 ?_
  refine lv_istore_n (lv' := [(1, .int (F 21)), (0, .ref (a 203))]) hx hb dX3_joinedOperands_4 rfl hl (by decide) rfl (fun ls hl => ?_)
  refine lv_iconst (v := 1) hx hb dX3_joinedOperands_5 (by decide) ?_
  refine lv_istore_n (lv' := [(2, .int 1), (1, .int (F 21)), (0, .ref (a 203))]) hx hb dX3_joinedOperands_6 rfl hl (by decide) rfl (fun ls hl => ?_)
  refine lv_iconst (v := 0) hx hb dX3_joinedOperands_7 (by decide) ?_
  refine lv_istore_n (lv' := [(3, .int 0), (2, .int 1), (1, .int (F 21)), (0, .ref (a 203))]) hx hb dX3_joinedOperands_8 rfl hl (by decide) rfl (fun ls hl => ?_)
  exact cwl_X3_joinedOperands_9 fu rc hr hrn C hret fu (F 21) 1 0 F G hm hw (lv_sub hl [3, 2, 1, 0] rfl)
theorem cm_X3_joinedOperands (fu : Nat) (rc : RC) (hrn : ∀ (i : Nat) (x y : Int32) (F : PF) (G : PG) (q : Int32 × PF × PG), rc i x y F G = some q → xn F ≤ xn q.2.1) (F : PF) (G : PG) (q : Int32 × PF × PG) (hm : ch_X3_joinedOperands fu rc F G = some q) : xn F ≤ xn q.2.1 := cn_X3_joinedOperands_0 fu rc hrn F G hm
theorem cq_X3_joinedOperands (l : Launch) (v : EV) (a : Nat → Nat) (b sz : Nat) (fu : Nat) (rc : RC) {dd : Nat} (hr : cH1 l v a rc dd) (hrn : ∀ (i : Nat) (x y : Int32) (F : PF) (G : PG) (q : Int32 × PF × PG), rc i x y F G = some q → xn F ≤ xn q.2.1) (F : PF) (G : PG) (r : Int32) (F1 : PF) (G1 : PG) (hm : ch_X3_joinedOperands fu rc F G = some (r, F1, G1)) : cMV l yX3_joinedOperands cX3_joinedOperands 5 (dd + 1 + 2) (60 * (dd + 1) + 49) v a b sz [.ref (a 203)] F G F1 G1 := cMV.of (by decide) (Nat.le_of_ble_eq_true rfl) (fun p e R s m args below meth c Q A H locs ls C hw hl hret => cw_X3_joinedOperands_0 fu rc hr hrn (res := (r, F1, G1)) C hret F G hm hw hl)
def cb_X3_named_98 (fu : Nat) (rc : RC) (F : PF) (G : PG) : PR := some (0, F, G)
def cb_X3_named_93 (fu : Nat) (rc : RC) (x2 : Int32) (F : PF) (G : PG) : PR := (cf_X3_load fu x2 F G).bind (fun q => cb_X3_named_98 fu rc q.2.1 q.2.2)
def cb_X3_named_90 (fu : Nat) (rc : RC) (F : PF) (G : PG) : PR := cb_X3_named_98 fu rc F G
def cb_X3_named_85 (fu : Nat) (rc : RC) (x2 : Int32) (F : PF) (G : PG) : PR := (cf_X3_fetch fu x2 F G).bind (fun q => cb_X3_named_90 fu rc q.2.1 q.2.2)
def cb_X3_named_80 (fu : Nat) (rc : RC) (x2 : Int32) (F : PF) (G : PG) : PR := (rc 2 x2 0 F G).bind (fun q => cb_X3_named_85 fu rc x2 q.2.1 q.2.2)
def cb_X3_named_68 (fu : Nat) (rc : RC) (x2 : Int32) (F : PF) (G : PG) : PR := if (F 11) = (21 : Int32) then cb_X3_named_80 fu rc x2 F G else cb_X3_named_93 fu rc x2 F G
def cb_X3_named_65 (fu : Nat) (rc : RC) (F : PF) (G : PG) : PR := cb_X3_named_98 fu rc F G
def cb_X3_named_59 (fu : Nat) (rc : RC) (x1 : Int32) (x2 : Int32) (F : PF) (G : PG) : PR := (rc 0 x2 x1 F G).bind (fun q => cb_X3_named_65 fu rc q.2.1 q.2.2)
def cb_X3_named_47 (fu : Nat) (rc : RC) (x1 : Int32) (x2 : Int32) (F : PF) (G : PG) : PR := if (F 11) = (19 : Int32) then cb_X3_named_59 fu rc x1 x2 F G else cb_X3_named_68 fu rc x2 F G
def cb_X3_named_31 (fu : Nat) (rc : RC) (x1 : Int32) (x2 : Int32) (F : PF) (G : PG) : PR := (cf_X5_wantValue fu x2 x1 (F 11) F G).bind (fun q => cb_X3_named_47 fu rc x1 x2 q.2.1 q.2.2)
def cb_X3_named_23 (fu : Nat) (rc : RC) (x1 : Int32) (z0 : Int32) (F : PF) (G : PG) : PR := (cf_X2_next fu F G).bind (fun q => cb_X3_named_31 fu rc x1 z0 q.2.1 q.2.2)
def cb_X3_named_0 (fu : Nat) (rc : RC) (F : PF) (G : PG) : PR := (cf_X5_meant fu (F 12) (F 13) F G).bind (fun q => cb_X3_named_23 fu rc (F 13) q.1 q.2.1 q.2.2)
def ch_X3_named (fu : Nat) (rc : RC) (F : PF) (G : PG) : PR := cb_X3_named_0 fu rc F G
theorem cn_X3_named_98 (fu : Nat) (rc : RC) (hrn : ∀ (i : Nat) (x y : Int32) (F : PF) (G : PG) (q : Int32 × PF × PG), rc i x y F G = some q → xn F ≤ xn q.2.1) {res : Int32 × PF × PG} (F : PF) (G : PG) (hm : cb_X3_named_98 fu rc F G = some res) : xn F ≤ xn res.2.1 := by
  unfold cb_X3_named_98 at hm
  obtain rfl := Option.some.inj hm
  exact Nat.le_refl _
theorem cw_X3_named_98 (fu : Nat) (rc : RC) {dd : Nat} (hr : cH1 l v a rc dd) (hrn : ∀ (i : Nat) (x y : Int32) (F : PF) (G : PG) (q : Int32 × PF × PG), rc i x y F G = some q → xn F ≤ xn q.2.1) {res : Int32 × PF × PG} (C : cMC p R s m args c A v RX3 cX3_named 3 (dd + 1 + 2) (60 * (dd + 1) + 49) (xn res.2.1 - xn K0)) (hret : ∀ (b1 : Nat) (H1 : Heap) (locs1 : List Loc) (ls1 : Array Slot) (pc : Nat), cMW s A v a b1 K0 res.2.1 res.2.2 H1 locs1 → decode cX3_named pc = .ok (.return_, 1) → W p l e R s m args below meth c H1 locs1 (xn res.2.1 - xn K0) (2 * (xn res.2.1 - xn K0)) Q (F0 m pc ls1 [])) (F : PF) (G : PG) (hm : cb_X3_named_98 fu rc F G = some res) {b : Nat} {H : Heap} {locs : List Loc} (hw : cMW s A v a b K0 F G H locs) {ls : Array Slot} (hl : lv_has ls 3 []) : W p l e R s m args below meth c H locs (xn F - xn K0) (2 * (xn F - xn K0)) Q (F0 m 98 ls []) := by
  have hx := C.1
  have hb := C.2.1
  unfold cb_X3_named_98 at hm
  obtain rfl := Option.some.inj hm
  exact hret _ _ _ _ _ hw dX3_named_98
theorem cn_X3_named_93 (fu : Nat) (rc : RC) (hrn : ∀ (i : Nat) (x y : Int32) (F : PF) (G : PG) (q : Int32 × PF × PG), rc i x y F G = some q → xn F ≤ xn q.2.1) {res : Int32 × PF × PG} (x2 : Int32) (F : PF) (G : PG) (hm : cb_X3_named_93 fu rc x2 F G = some res) : xn F ≤ xn res.2.1 := by
  unfold cb_X3_named_93 at hm
  obtain ⟨⟨r1, F1, G1⟩, hc, hm⟩ := bind_elim hm
  exact Nat.le_trans (cn_X3_load fu x2 F G _ hc) (cn_X3_named_98 fu rc hrn F1 G1 hm)
theorem cw_X3_named_93 (fu : Nat) (rc : RC) {dd : Nat} (hr : cH1 l v a rc dd) (hrn : ∀ (i : Nat) (x y : Int32) (F : PF) (G : PG) (q : Int32 × PF × PG), rc i x y F G = some q → xn F ≤ xn q.2.1) {res : Int32 × PF × PG} (C : cMC p R s m args c A v RX3 cX3_named 3 (dd + 1 + 2) (60 * (dd + 1) + 49) (xn res.2.1 - xn K0)) (hret : ∀ (b1 : Nat) (H1 : Heap) (locs1 : List Loc) (ls1 : Array Slot) (pc : Nat), cMW s A v a b1 K0 res.2.1 res.2.2 H1 locs1 → decode cX3_named pc = .ok (.return_, 1) → W p l e R s m args below meth c H1 locs1 (xn res.2.1 - xn K0) (2 * (xn res.2.1 - xn K0)) Q (F0 m pc ls1 [])) (x2 : Int32) (F : PF) (G : PG) (hm : cb_X3_named_93 fu rc x2 F G = some res) {b : Nat} {H : Heap} {locs : List Loc} (hw : cMW s A v a b K0 F G H locs) {ls : Array Slot} (hl : lv_has ls 3 [(0, .ref (a 203)), (2, .int x2)]) : W p l e R s m args below meth c H locs (xn F - xn K0) (2 * (xn F - xn K0)) Q (F0 m 93 ls []) := by
  have hx := C.1
  have hb := C.2.1
  unfold cb_X3_named_93 at hm
  refine lv_aload_n hx hb dX3_named_93 rfl (lv_at hl 0 rfl) ?_
  refine lv_iload_n hx hb dX3_named_94 rfl (lv_at hl 1 rfl) ?_
  obtain ⟨⟨r1, F1, G1⟩, hc, hm⟩ := bind_elim hm
  refine ccallV (n := 1) (As := [.int x2]) (rest := []) C hw (ck_X3_load l v a _ _ fu x2 F G r1 F1 G1 hc) (cn_X3_load fu x2 F G _ hc) (Nat.sub_le_sub_right (cn_X3_named_98 fu rc hrn F1 G1 hm) _) (crecv_X3 C hw) cm_507 cm_508 cm_509 cm_301 cm_510 (by decide +kernel) rfl (by omega) (by omega) hl.1 rfl (Nat.le_of_ble_eq_true rfl) dX3_named_95 (fun b H locs hw => ?_)
  exact cw_X3_named_98 fu rc hr hrn C hret F1 G1 hm hw (lv_sub hl [] rfl)
theorem cn_X3_named_90 (fu : Nat) (rc : RC) (hrn : ∀ (i : Nat) (x y : Int32) (F : PF) (G : PG) (q : Int32 × PF × PG), rc i x y F G = some q → xn F ≤ xn q.2.1) {res : Int32 × PF × PG} (F : PF) (G : PG) (hm : cb_X3_named_90 fu rc F G = some res) : xn F ≤ xn res.2.1 := by
  unfold cb_X3_named_90 at hm
  exact (cn_X3_named_98 fu rc hrn F G hm)
theorem cw_X3_named_90 (fu : Nat) (rc : RC) {dd : Nat} (hr : cH1 l v a rc dd) (hrn : ∀ (i : Nat) (x y : Int32) (F : PF) (G : PG) (q : Int32 × PF × PG), rc i x y F G = some q → xn F ≤ xn q.2.1) {res : Int32 × PF × PG} (C : cMC p R s m args c A v RX3 cX3_named 3 (dd + 1 + 2) (60 * (dd + 1) + 49) (xn res.2.1 - xn K0)) (hret : ∀ (b1 : Nat) (H1 : Heap) (locs1 : List Loc) (ls1 : Array Slot) (pc : Nat), cMW s A v a b1 K0 res.2.1 res.2.2 H1 locs1 → decode cX3_named pc = .ok (.return_, 1) → W p l e R s m args below meth c H1 locs1 (xn res.2.1 - xn K0) (2 * (xn res.2.1 - xn K0)) Q (F0 m pc ls1 [])) (F : PF) (G : PG) (hm : cb_X3_named_90 fu rc F G = some res) {b : Nat} {H : Heap} {locs : List Loc} (hw : cMW s A v a b K0 F G H locs) {ls : Array Slot} (hl : lv_has ls 3 []) : W p l e R s m args below meth c H locs (xn F - xn K0) (2 * (xn F - xn K0)) Q (F0 m 90 ls []) := by
  have hx := C.1
  have hb := C.2.1
  unfold cb_X3_named_90 at hm
  refine lv_goto (tgt := 98) hx hb dX3_named_90 (by decide) ?_
  exact cw_X3_named_98 fu rc hr hrn C hret F G hm hw (lv_sub hl [] rfl)
theorem cn_X3_named_85 (fu : Nat) (rc : RC) (hrn : ∀ (i : Nat) (x y : Int32) (F : PF) (G : PG) (q : Int32 × PF × PG), rc i x y F G = some q → xn F ≤ xn q.2.1) {res : Int32 × PF × PG} (x2 : Int32) (F : PF) (G : PG) (hm : cb_X3_named_85 fu rc x2 F G = some res) : xn F ≤ xn res.2.1 := by
  unfold cb_X3_named_85 at hm
  obtain ⟨⟨r1, F1, G1⟩, hc, hm⟩ := bind_elim hm
  exact Nat.le_trans (cn_X3_fetch fu x2 F G _ hc) (cn_X3_named_90 fu rc hrn F1 G1 hm)
theorem cw_X3_named_85 (fu : Nat) (rc : RC) {dd : Nat} (hr : cH1 l v a rc dd) (hrn : ∀ (i : Nat) (x y : Int32) (F : PF) (G : PG) (q : Int32 × PF × PG), rc i x y F G = some q → xn F ≤ xn q.2.1) {res : Int32 × PF × PG} (C : cMC p R s m args c A v RX3 cX3_named 3 (dd + 1 + 2) (60 * (dd + 1) + 49) (xn res.2.1 - xn K0)) (hret : ∀ (b1 : Nat) (H1 : Heap) (locs1 : List Loc) (ls1 : Array Slot) (pc : Nat), cMW s A v a b1 K0 res.2.1 res.2.2 H1 locs1 → decode cX3_named pc = .ok (.return_, 1) → W p l e R s m args below meth c H1 locs1 (xn res.2.1 - xn K0) (2 * (xn res.2.1 - xn K0)) Q (F0 m pc ls1 [])) (x2 : Int32) (F : PF) (G : PG) (hm : cb_X3_named_85 fu rc x2 F G = some res) {b : Nat} {H : Heap} {locs : List Loc} (hw : cMW s A v a b K0 F G H locs) {ls : Array Slot} (hl : lv_has ls 3 [(0, .ref (a 203)), (2, .int x2)]) : W p l e R s m args below meth c H locs (xn F - xn K0) (2 * (xn F - xn K0)) Q (F0 m 85 ls []) := by
  have hx := C.1
  have hb := C.2.1
  unfold cb_X3_named_85 at hm
  refine lv_aload_n hx hb dX3_named_85 rfl (lv_at hl 0 rfl) ?_
  refine lv_iload_n hx hb dX3_named_86 rfl (lv_at hl 1 rfl) ?_
  obtain ⟨⟨r1, F1, G1⟩, hc, hm⟩ := bind_elim hm
  refine ccallV (n := 1) (As := [.int x2]) (rest := []) C hw (ck_X3_fetch l v a _ _ fu x2 F G r1 F1 G1 hc) (cn_X3_fetch fu x2 F G _ hc) (Nat.sub_le_sub_right (cn_X3_named_90 fu rc hrn F1 G1 hm) _) (crecv_X3 C hw) cm_503 cm_504 cm_505 cm_301 cm_506 (by decide +kernel) rfl (by omega) (by omega) hl.1 rfl (Nat.le_of_ble_eq_true rfl) dX3_named_87 (fun b H locs hw => ?_)
  exact cw_X3_named_90 fu rc hr hrn C hret F1 G1 hm hw (lv_sub hl [] rfl)
theorem cn_X3_named_80 (fu : Nat) (rc : RC) (hrn : ∀ (i : Nat) (x y : Int32) (F : PF) (G : PG) (q : Int32 × PF × PG), rc i x y F G = some q → xn F ≤ xn q.2.1) {res : Int32 × PF × PG} (x2 : Int32) (F : PF) (G : PG) (hm : cb_X3_named_80 fu rc x2 F G = some res) : xn F ≤ xn res.2.1 := by
  unfold cb_X3_named_80 at hm
  obtain ⟨⟨r1, F1, G1⟩, hc, hm⟩ := bind_elim hm
  exact Nat.le_trans (hrn _ _ _ _ _ _ hc) (cn_X3_named_85 fu rc hrn x2 F1 G1 hm)
theorem cw_X3_named_80 (fu : Nat) (rc : RC) {dd : Nat} (hr : cH1 l v a rc dd) (hrn : ∀ (i : Nat) (x y : Int32) (F : PF) (G : PG) (q : Int32 × PF × PG), rc i x y F G = some q → xn F ≤ xn q.2.1) {res : Int32 × PF × PG} (C : cMC p R s m args c A v RX3 cX3_named 3 (dd + 1 + 2) (60 * (dd + 1) + 49) (xn res.2.1 - xn K0)) (hret : ∀ (b1 : Nat) (H1 : Heap) (locs1 : List Loc) (ls1 : Array Slot) (pc : Nat), cMW s A v a b1 K0 res.2.1 res.2.2 H1 locs1 → decode cX3_named pc = .ok (.return_, 1) → W p l e R s m args below meth c H1 locs1 (xn res.2.1 - xn K0) (2 * (xn res.2.1 - xn K0)) Q (F0 m pc ls1 [])) (x2 : Int32) (F : PF) (G : PG) (hm : cb_X3_named_80 fu rc x2 F G = some res) {b : Nat} {H : Heap} {locs : List Loc} (hw : cMW s A v a b K0 F G H locs) {ls : Array Slot} (hl : lv_has ls 3 [(0, .ref (a 203)), (2, .int x2)]) : W p l e R s m args below meth c H locs (xn F - xn K0) (2 * (xn F - xn K0)) Q (F0 m 80 ls []) := by
  have hx := C.1
  have hb := C.2.1
  unfold cb_X3_named_80 at hm
  refine lv_aload_n hx hb dX3_named_80 rfl (lv_at hl 0 rfl) ?_
  refine lv_iload_n hx hb dX3_named_81 rfl (lv_at hl 1 rfl) ?_
  obtain ⟨⟨r1, F1, G1⟩, hc, hm⟩ := bind_elim hm
  refine ccallV (n := 1) (As := [.int x2]) (rest := []) C hw (hr.2.2.1 _ _ x2 F G r1 F1 G1 hc) (hrn _ _ _ _ _ _ hc) (Nat.sub_le_sub_right (cn_X3_named_85 fu rc hrn x2 F1 G1 hm) _) (crecv_X3 C hw) cm_500 cm_501 cm_502 cm_301 cm_462 (by decide +kernel) rfl (by omega) (by omega) hl.1 rfl (Nat.le_of_ble_eq_true rfl) dX3_named_82 (fun b H locs hw => ?_)
  exact cw_X3_named_85 fu rc hr hrn C hret x2 F1 G1 hm hw (lv_sub hl [0, 1] rfl)
theorem cn_X3_named_68 (fu : Nat) (rc : RC) (hrn : ∀ (i : Nat) (x y : Int32) (F : PF) (G : PG) (q : Int32 × PF × PG), rc i x y F G = some q → xn F ≤ xn q.2.1) {res : Int32 × PF × PG} (x2 : Int32) (F : PF) (G : PG) (hm : cb_X3_named_68 fu rc x2 F G = some res) : xn F ≤ xn res.2.1 := by
  unfold cb_X3_named_68 at hm
  by_cases c_1 : (F 11) = (21 : Int32)
  · have hm := (if_pos c_1).symm.trans hm
    exact (cn_X3_named_80 fu rc hrn x2 F G hm)
  · have hm := (if_neg c_1).symm.trans hm
    exact (cn_X3_named_93 fu rc hrn x2 F G hm)
theorem cw_X3_named_68 (fu : Nat) (rc : RC) {dd : Nat} (hr : cH1 l v a rc dd) (hrn : ∀ (i : Nat) (x y : Int32) (F : PF) (G : PG) (q : Int32 × PF × PG), rc i x y F G = some q → xn F ≤ xn q.2.1) {res : Int32 × PF × PG} (C : cMC p R s m args c A v RX3 cX3_named 3 (dd + 1 + 2) (60 * (dd + 1) + 49) (xn res.2.1 - xn K0)) (hret : ∀ (b1 : Nat) (H1 : Heap) (locs1 : List Loc) (ls1 : Array Slot) (pc : Nat), cMW s A v a b1 K0 res.2.1 res.2.2 H1 locs1 → decode cX3_named pc = .ok (.return_, 1) → W p l e R s m args below meth c H1 locs1 (xn res.2.1 - xn K0) (2 * (xn res.2.1 - xn K0)) Q (F0 m pc ls1 [])) (x2 : Int32) (F : PF) (G : PG) (hm : cb_X3_named_68 fu rc x2 F G = some res) {b : Nat} {H : Heap} {locs : List Loc} (hw : cMW s A v a b K0 F G H locs) {ls : Array Slot} (hl : lv_has ls 3 [(0, .ref (a 203)), (2, .int x2)]) : W p l e R s m args below meth c H locs (xn F - xn K0) (2 * (xn F - xn K0)) Q (F0 m 68 ls []) := by
  have hx := C.1
  have hb := C.2.1
  unfold cb_X3_named_68 at hm
  refine lv_aload_n hx hb dX3_named_68 rfl (lv_at hl 0 rfl) ?_
  refine cg_X3_15 C hw dX3_named_69 ?_
  refine cg_X3_85 C hw dX3_named_72 ?_
  refine lv_bipush (v := 21) hx hb dX3_named_75 (by decide) ?_
  refine lv_icmp_ne (tgt := 93) hx hb dX3_named_77 (by decide) (fun c_1 => ?_) (fun c_1 => ?_)
  · have hm := (if_neg c_1).symm.trans hm
    exact cw_X3_named_93 fu rc hr hrn C hret x2 F G hm hw (lv_sub hl [0, 1] rfl)
  · have hm := (if_pos c_1).symm.trans hm
    exact cw_X3_named_80 fu rc hr hrn C hret x2 F G hm hw (lv_sub hl [0, 1] rfl)
theorem cn_X3_named_65 (fu : Nat) (rc : RC) (hrn : ∀ (i : Nat) (x y : Int32) (F : PF) (G : PG) (q : Int32 × PF × PG), rc i x y F G = some q → xn F ≤ xn q.2.1) {res : Int32 × PF × PG} (F : PF) (G : PG) (hm : cb_X3_named_65 fu rc F G = some res) : xn F ≤ xn res.2.1 := by
  unfold cb_X3_named_65 at hm
  exact (cn_X3_named_98 fu rc hrn F G hm)
theorem cw_X3_named_65 (fu : Nat) (rc : RC) {dd : Nat} (hr : cH1 l v a rc dd) (hrn : ∀ (i : Nat) (x y : Int32) (F : PF) (G : PG) (q : Int32 × PF × PG), rc i x y F G = some q → xn F ≤ xn q.2.1) {res : Int32 × PF × PG} (C : cMC p R s m args c A v RX3 cX3_named 3 (dd + 1 + 2) (60 * (dd + 1) + 49) (xn res.2.1 - xn K0)) (hret : ∀ (b1 : Nat) (H1 : Heap) (locs1 : List Loc) (ls1 : Array Slot) (pc : Nat), cMW s A v a b1 K0 res.2.1 res.2.2 H1 locs1 → decode cX3_named pc = .ok (.return_, 1) → W p l e R s m args below meth c H1 locs1 (xn res.2.1 - xn K0) (2 * (xn res.2.1 - xn K0)) Q (F0 m pc ls1 [])) (F : PF) (G : PG) (hm : cb_X3_named_65 fu rc F G = some res) {b : Nat} {H : Heap} {locs : List Loc} (hw : cMW s A v a b K0 F G H locs) {ls : Array Slot} (hl : lv_has ls 3 []) : W p l e R s m args below meth c H locs (xn F - xn K0) (2 * (xn F - xn K0)) Q (F0 m 65 ls []) := by
  have hx := C.1
  have hb := C.2.1
  unfold cb_X3_named_65 at hm
  refine lv_goto (tgt := 98) hx hb dX3_named_65 (by decide) ?_
  exact cw_X3_named_98 fu rc hr hrn C hret F G hm hw (lv_sub hl [] rfl)
theorem cn_X3_named_59 (fu : Nat) (rc : RC) (hrn : ∀ (i : Nat) (x y : Int32) (F : PF) (G : PG) (q : Int32 × PF × PG), rc i x y F G = some q → xn F ≤ xn q.2.1) {res : Int32 × PF × PG} (x1 : Int32) (x2 : Int32) (F : PF) (G : PG) (hm : cb_X3_named_59 fu rc x1 x2 F G = some res) : xn F ≤ xn res.2.1 := by
  unfold cb_X3_named_59 at hm
  obtain ⟨⟨r1, F1, G1⟩, hc, hm⟩ := bind_elim hm
  exact Nat.le_trans (hrn _ _ _ _ _ _ hc) (cn_X3_named_65 fu rc hrn F1 G1 hm)
theorem cw_X3_named_59 (fu : Nat) (rc : RC) {dd : Nat} (hr : cH1 l v a rc dd) (hrn : ∀ (i : Nat) (x y : Int32) (F : PF) (G : PG) (q : Int32 × PF × PG), rc i x y F G = some q → xn F ≤ xn q.2.1) {res : Int32 × PF × PG} (C : cMC p R s m args c A v RX3 cX3_named 3 (dd + 1 + 2) (60 * (dd + 1) + 49) (xn res.2.1 - xn K0)) (hret : ∀ (b1 : Nat) (H1 : Heap) (locs1 : List Loc) (ls1 : Array Slot) (pc : Nat), cMW s A v a b1 K0 res.2.1 res.2.2 H1 locs1 → decode cX3_named pc = .ok (.return_, 1) → W p l e R s m args below meth c H1 locs1 (xn res.2.1 - xn K0) (2 * (xn res.2.1 - xn K0)) Q (F0 m pc ls1 [])) (x1 : Int32) (x2 : Int32) (F : PF) (G : PG) (hm : cb_X3_named_59 fu rc x1 x2 F G = some res) {b : Nat} {H : Heap} {locs : List Loc} (hw : cMW s A v a b K0 F G H locs) {ls : Array Slot} (hl : lv_has ls 3 [(0, .ref (a 203)), (1, .int x1), (2, .int x2)]) : W p l e R s m args below meth c H locs (xn F - xn K0) (2 * (xn F - xn K0)) Q (F0 m 59 ls []) := by
  have hx := C.1
  have hb := C.2.1
  unfold cb_X3_named_59 at hm
  refine lv_aload_n hx hb dX3_named_59 rfl (lv_at hl 0 rfl) ?_
  refine lv_iload_n hx hb dX3_named_60 rfl (lv_at hl 2 rfl) ?_
  refine lv_iload_n hx hb dX3_named_61 rfl (lv_at hl 1 rfl) ?_
  obtain ⟨⟨r1, F1, G1⟩, hc, hm⟩ := bind_elim hm
  refine ccallV (n := 2) (As := [.int x2, .int x1]) (rest := []) C hw (hr.1 _ _ x2 x1 F G r1 F1 G1 hc) (hrn _ _ _ _ _ _ hc) (Nat.sub_le_sub_right (cn_X3_named_65 fu rc hrn F1 G1 hm) _) (crecv_X3 C hw) cm_497 cm_498 cm_499 cm_301 cm_383 (by decide +kernel) rfl (by omega) (by omega) hl.1 rfl (Nat.le_of_ble_eq_true rfl) dX3_named_62 (fun b H locs hw => ?_)
  exact cw_X3_named_65 fu rc hr hrn C hret F1 G1 hm hw (lv_sub hl [] rfl)
theorem cn_X3_named_47 (fu : Nat) (rc : RC) (hrn : ∀ (i : Nat) (x y : Int32) (F : PF) (G : PG) (q : Int32 × PF × PG), rc i x y F G = some q → xn F ≤ xn q.2.1) {res : Int32 × PF × PG} (x1 : Int32) (x2 : Int32) (F : PF) (G : PG) (hm : cb_X3_named_47 fu rc x1 x2 F G = some res) : xn F ≤ xn res.2.1 := by
  unfold cb_X3_named_47 at hm
  by_cases c_1 : (F 11) = (19 : Int32)
  · have hm := (if_pos c_1).symm.trans hm
    exact (cn_X3_named_59 fu rc hrn x1 x2 F G hm)
  · have hm := (if_neg c_1).symm.trans hm
    exact (cn_X3_named_68 fu rc hrn x2 F G hm)
theorem cw_X3_named_47 (fu : Nat) (rc : RC) {dd : Nat} (hr : cH1 l v a rc dd) (hrn : ∀ (i : Nat) (x y : Int32) (F : PF) (G : PG) (q : Int32 × PF × PG), rc i x y F G = some q → xn F ≤ xn q.2.1) {res : Int32 × PF × PG} (C : cMC p R s m args c A v RX3 cX3_named 3 (dd + 1 + 2) (60 * (dd + 1) + 49) (xn res.2.1 - xn K0)) (hret : ∀ (b1 : Nat) (H1 : Heap) (locs1 : List Loc) (ls1 : Array Slot) (pc : Nat), cMW s A v a b1 K0 res.2.1 res.2.2 H1 locs1 → decode cX3_named pc = .ok (.return_, 1) → W p l e R s m args below meth c H1 locs1 (xn res.2.1 - xn K0) (2 * (xn res.2.1 - xn K0)) Q (F0 m pc ls1 [])) (x1 : Int32) (x2 : Int32) (F : PF) (G : PG) (hm : cb_X3_named_47 fu rc x1 x2 F G = some res) {b : Nat} {H : Heap} {locs : List Loc} (hw : cMW s A v a b K0 F G H locs) {ls : Array Slot} (hl : lv_has ls 3 [(0, .ref (a 203)), (1, .int x1), (2, .int x2)]) : W p l e R s m args below meth c H locs (xn F - xn K0) (2 * (xn F - xn K0)) Q (F0 m 47 ls []) := by
  have hx := C.1
  have hb := C.2.1
  unfold cb_X3_named_47 at hm
  refine lv_aload_n hx hb dX3_named_47 rfl (lv_at hl 0 rfl) ?_
  refine cg_X3_15 C hw dX3_named_48 ?_
  refine cg_X3_85 C hw dX3_named_51 ?_
  refine lv_bipush (v := 19) hx hb dX3_named_54 (by decide) ?_
  refine lv_icmp_ne (tgt := 68) hx hb dX3_named_56 (by decide) (fun c_1 => ?_) (fun c_1 => ?_)
  · have hm := (if_neg c_1).symm.trans hm
    exact cw_X3_named_68 fu rc hr hrn C hret x2 F G hm hw (lv_sub hl [0, 2] rfl)
  · have hm := (if_pos c_1).symm.trans hm
    exact cw_X3_named_59 fu rc hr hrn C hret x1 x2 F G hm hw (lv_sub hl [0, 1, 2] rfl)
theorem cn_X3_named_31 (fu : Nat) (rc : RC) (hrn : ∀ (i : Nat) (x y : Int32) (F : PF) (G : PG) (q : Int32 × PF × PG), rc i x y F G = some q → xn F ≤ xn q.2.1) {res : Int32 × PF × PG} (x1 : Int32) (x2 : Int32) (F : PF) (G : PG) (hm : cb_X3_named_31 fu rc x1 x2 F G = some res) : xn F ≤ xn res.2.1 := by
  unfold cb_X3_named_31 at hm
  obtain ⟨⟨r1, F1, G1⟩, hc, hm⟩ := bind_elim hm
  exact Nat.le_trans (cn_X5_wantValue fu x2 x1 (F 11) F G _ hc) (cn_X3_named_47 fu rc hrn x1 x2 F1 G1 hm)
theorem cw_X3_named_31 (fu : Nat) (rc : RC) {dd : Nat} (hr : cH1 l v a rc dd) (hrn : ∀ (i : Nat) (x y : Int32) (F : PF) (G : PG) (q : Int32 × PF × PG), rc i x y F G = some q → xn F ≤ xn q.2.1) {res : Int32 × PF × PG} (C : cMC p R s m args c A v RX3 cX3_named 3 (dd + 1 + 2) (60 * (dd + 1) + 49) (xn res.2.1 - xn K0)) (hret : ∀ (b1 : Nat) (H1 : Heap) (locs1 : List Loc) (ls1 : Array Slot) (pc : Nat), cMW s A v a b1 K0 res.2.1 res.2.2 H1 locs1 → decode cX3_named pc = .ok (.return_, 1) → W p l e R s m args below meth c H1 locs1 (xn res.2.1 - xn K0) (2 * (xn res.2.1 - xn K0)) Q (F0 m pc ls1 [])) (x1 : Int32) (x2 : Int32) (F : PF) (G : PG) (hm : cb_X3_named_31 fu rc x1 x2 F G = some res) {b : Nat} {H : Heap} {locs : List Loc} (hw : cMW s A v a b K0 F G H locs) {ls : Array Slot} (hl : lv_has ls 3 [(0, .ref (a 203)), (1, .int x1), (2, .int x2)]) : W p l e R s m args below meth c H locs (xn F - xn K0) (2 * (xn F - xn K0)) Q (F0 m 31 ls []) := by
  have hx := C.1
  have hb := C.2.1
  unfold cb_X3_named_31 at hm
  refine lv_aload_n hx hb dX3_named_31 rfl (lv_at hl 0 rfl) ?_
  refine cg_X3_19 C hw dX3_named_32 ?_
  refine lv_iload_n hx hb dX3_named_35 rfl (lv_at hl 2 rfl) ?_
  refine lv_iload_n hx hb dX3_named_36 rfl (lv_at hl 1 rfl) ?_
  refine lv_aload_n hx hb dX3_named_37 rfl (lv_at hl 0 rfl) ?_
  refine cg_X3_15 C hw dX3_named_38 ?_
  refine cg_X3_85 C hw dX3_named_41 ?_
  obtain ⟨⟨r1, F1, G1⟩, hc, hm⟩ := bind_elim hm
  refine ccallV (n := 3) (As := [.int x2, .int x1, .int (F 11)]) (rest := []) C hw (ck_X5_wantValue l v a _ _ fu x2 x1 (F 11) F G r1 F1 G1 hc) (cn_X5_wantValue fu x2 x1 (F 11) F G _ hc) (Nat.sub_le_sub_right (cn_X3_named_47 fu rc hrn x1 x2 F1 G1 hm) _) (crecv_X5 C hw) cm_484 cm_485 cm_486 cm_266 cm_487 (by decide +kernel) rfl (by omega) (by omega) hl.1 rfl (Nat.le_of_ble_eq_true rfl) dX3_named_44 (fun b H locs hw => ?_)
  exact cw_X3_named_47 fu rc hr hrn C hret x1 x2 F1 G1 hm hw (lv_sub hl [0, 1, 2] rfl)
theorem cn_X3_named_23 (fu : Nat) (rc : RC) (hrn : ∀ (i : Nat) (x y : Int32) (F : PF) (G : PG) (q : Int32 × PF × PG), rc i x y F G = some q → xn F ≤ xn q.2.1) {res : Int32 × PF × PG} (x1 : Int32) (z0 : Int32) (F : PF) (G : PG) (hm : cb_X3_named_23 fu rc x1 z0 F G = some res) : xn F ≤ xn res.2.1 := by
  unfold cb_X3_named_23 at hm
  obtain ⟨⟨r1, F1, G1⟩, hc, hm⟩ := bind_elim hm
  exact Nat.le_trans (cn_X2_next fu F G _ hc) (cn_X3_named_31 fu rc hrn x1 z0 F1 G1 hm)
theorem cw_X3_named_23 (fu : Nat) (rc : RC) {dd : Nat} (hr : cH1 l v a rc dd) (hrn : ∀ (i : Nat) (x y : Int32) (F : PF) (G : PG) (q : Int32 × PF × PG), rc i x y F G = some q → xn F ≤ xn q.2.1) {res : Int32 × PF × PG} (C : cMC p R s m args c A v RX3 cX3_named 3 (dd + 1 + 2) (60 * (dd + 1) + 49) (xn res.2.1 - xn K0)) (hret : ∀ (b1 : Nat) (H1 : Heap) (locs1 : List Loc) (ls1 : Array Slot) (pc : Nat), cMW s A v a b1 K0 res.2.1 res.2.2 H1 locs1 → decode cX3_named pc = .ok (.return_, 1) → W p l e R s m args below meth c H1 locs1 (xn res.2.1 - xn K0) (2 * (xn res.2.1 - xn K0)) Q (F0 m pc ls1 [])) (x1 : Int32) (z0 : Int32) (F : PF) (G : PG) (hm : cb_X3_named_23 fu rc x1 z0 F G = some res) {b : Nat} {H : Heap} {locs : List Loc} (hw : cMW s A v a b K0 F G H locs) {ls : Array Slot} (hl : lv_has ls 3 [(0, .ref (a 203)), (1, .int x1)]) : W p l e R s m args below meth c H locs (xn F - xn K0) (2 * (xn F - xn K0)) Q (F0 m 23 ls [.int z0]) := by
  have hx := C.1
  have hb := C.2.1
  unfold cb_X3_named_23 at hm
  refine lv_istore_n (lv' := [(2, .int z0), (0, .ref (a 203)), (1, .int x1)]) hx hb dX3_named_23 rfl hl (by decide) rfl (fun ls hl => ?_)
  refine lv_aload_n hx hb dX3_named_24 rfl (lv_at hl 1 rfl) ?_
  refine cg_X3_15 C hw dX3_named_25 ?_
  obtain ⟨⟨r1, F1, G1⟩, hc, hm⟩ := bind_elim hm
  refine ccallV (n := 0) (As := []) (rest := []) C hw (ck_X2_next l v a _ _ fu F G r1 F1 G1 hc) (cn_X2_next fu F G _ hc) (Nat.sub_le_sub_right (cn_X3_named_31 fu rc hrn x1 z0 F1 G1 hm) _) (crecv_X2 C hw) cm_456 cm_321 cm_322 cm_307 cm_323 (by decide +kernel) rfl (by omega) (by omega) hl.1 rfl (Nat.le_of_ble_eq_true rfl) dX3_named_28 (fun b H locs hw => ?_)
  exact cw_X3_named_31 fu rc hr hrn C hret x1 z0 F1 G1 hm hw (lv_sub hl [1, 2, 0] rfl)
theorem cn_X3_named_0 (fu : Nat) (rc : RC) (hrn : ∀ (i : Nat) (x y : Int32) (F : PF) (G : PG) (q : Int32 × PF × PG), rc i x y F G = some q → xn F ≤ xn q.2.1) {res : Int32 × PF × PG} (F : PF) (G : PG) (hm : cb_X3_named_0 fu rc F G = some res) : xn F ≤ xn res.2.1 := by
  unfold cb_X3_named_0 at hm
  obtain ⟨⟨r1, F1, G1⟩, hc, hm⟩ := bind_elim hm
  exact Nat.le_trans (cn_X5_meant fu (F 12) (F 13) F G _ hc) (cn_X3_named_23 fu rc hrn (F 13) r1 F1 G1 hm)
theorem cw_X3_named_0 (fu : Nat) (rc : RC) {dd : Nat} (hr : cH1 l v a rc dd) (hrn : ∀ (i : Nat) (x y : Int32) (F : PF) (G : PG) (q : Int32 × PF × PG), rc i x y F G = some q → xn F ≤ xn q.2.1) {res : Int32 × PF × PG} (C : cMC p R s m args c A v RX3 cX3_named 3 (dd + 1 + 2) (60 * (dd + 1) + 49) (xn res.2.1 - xn K0)) (hret : ∀ (b1 : Nat) (H1 : Heap) (locs1 : List Loc) (ls1 : Array Slot) (pc : Nat), cMW s A v a b1 K0 res.2.1 res.2.2 H1 locs1 → decode cX3_named pc = .ok (.return_, 1) → W p l e R s m args below meth c H1 locs1 (xn res.2.1 - xn K0) (2 * (xn res.2.1 - xn K0)) Q (F0 m pc ls1 [])) (F : PF) (G : PG) (hm : cb_X3_named_0 fu rc F G = some res) {b : Nat} {H : Heap} {locs : List Loc} (hw : cMW s A v a b K0 F G H locs) {ls : Array Slot} (hl : lv_has ls 3 [(0, .ref (a 203))]) : W p l e R s m args below meth c H locs (xn F - xn K0) (2 * (xn F - xn K0)) Q (F0 m 0 ls []) := by
  have hx := C.1
  have hb := C.2.1
  unfold cb_X3_named_0 at hm
  refine lv_aload_n hx hb dX3_named_0 rfl (lv_at hl 0 rfl) ?_
  refine cg_X3_15 C hw dX3_named_1 ?_
  refine cg_X3_72 C hw dX3_named_4 ?_
  refine lv_istore_n (lv' := [(1, .int (F 13)), (0, .ref (a 203))]) hx hb dX3_named_7 rfl hl (by decide) rfl (fun ls hl => ?_)
  refine lv_aload_n hx hb dX3_named_8 rfl (lv_at hl 1 rfl) ?_
  refine cg_X3_19 C hw dX3_named_9 ?_
  refine lv_aload_n hx hb dX3_named_12 rfl (lv_at hl 1 rfl) ?_
  refine cg_X3_15 C hw dX3_named_13 ?_
  refine cg_X3_125 C hw dX3_named_16 ?_
  refine lv_iload_n hx hb dX3_named_19 rfl (lv_at hl 0 rfl) ?_
  obtain ⟨⟨r1, F1, G1⟩, hc, hm⟩ := bind_elim hm
  refine ccallI (n := 2) (As := [.int (F 12), .int (F 13)]) (rest := []) C hw (ck_X5_meant l v a _ _ fu (F 12) (F 13) F G r1 F1 G1 hc) (cn_X5_meant fu (F 12) (F 13) F G _ hc) (Nat.sub_le_sub_right (cn_X3_named_23 fu rc hrn (F 13) r1 F1 G1 hm) _) (crecv_X5 C hw) cm_416 cm_417 cm_418 cm_266 cm_419 (by decide +kernel) rfl (by omega) (by omega) hl.1 rfl (Nat.le_of_ble_eq_true rfl) dX3_named_20 (fun b H locs hw => ?_)
  exact cw_X3_named_23 fu rc hr hrn C hret (F 13) r1 F1 G1 hm hw (lv_sub hl [1, 0] rfl)
theorem cm_X3_named (fu : Nat) (rc : RC) (hrn : ∀ (i : Nat) (x y : Int32) (F : PF) (G : PG) (q : Int32 × PF × PG), rc i x y F G = some q → xn F ≤ xn q.2.1) (F : PF) (G : PG) (q : Int32 × PF × PG) (hm : ch_X3_named fu rc F G = some q) : xn F ≤ xn q.2.1 := cn_X3_named_0 fu rc hrn F G hm
theorem cq_X3_named (l : Launch) (v : EV) (a : Nat → Nat) (b sz : Nat) (fu : Nat) (rc : RC) {dd : Nat} (hr : cH1 l v a rc dd) (hrn : ∀ (i : Nat) (x y : Int32) (F : PF) (G : PG) (q : Int32 × PF × PG), rc i x y F G = some q → xn F ≤ xn q.2.1) (F : PF) (G : PG) (r : Int32) (F1 : PF) (G1 : PG) (hm : ch_X3_named fu rc F G = some (r, F1, G1)) : cMV l yX3_named cX3_named 3 (dd + 1 + 2) (60 * (dd + 1) + 49) v a b sz [.ref (a 203)] F G F1 G1 := cMV.of (by decide) (Nat.le_of_ble_eq_true rfl) (fun p e R s m args below meth c Q A H locs ls C hw hl hret => cw_X3_named_0 fu rc hr hrn (res := (r, F1, G1)) C hret F G hm hw hl)
def cb_X3_operand_183 (fu : Nat) (rc : RC) (F : PF) (G : PG) : PR := some (0, F, G)
def cb_X3_operand_71 (fu : Nat) (rc : RC) (F : PF) (G : PG) : PR := cb_X3_operand_183 fu rc F G
def cb_X3_operand_64 (fu : Nat) (rc : RC) (F : PF) (G : PG) : PR := (cf_X2_next fu F G).bind (fun q => cb_X3_operand_71 fu rc q.2.1 q.2.2)
def cb_X3_operand_48 (fu : Nat) (rc : RC) (F : PF) (G : PG) : PR := (cf_X1_addPair fu 66 (F 12) F G).bind (fun q => cb_X3_operand_64 fu rc q.2.1 q.2.2)
def cb_X3_operand_78 (fu : Nat) (rc : RC) (F : PF) (G : PG) : PR := cb_X3_operand_183 fu rc F G
def cb_X3_operand_74 (fu : Nat) (rc : RC) (F : PF) (G : PG) : PR := (rc 4 0 0 F G).bind (fun q => cb_X3_operand_78 fu rc q.2.1 q.2.2)
def cb_X3_operand_144 (fu : Nat) (rc : RC) (F : PF) (G : PG) : PR := cb_X3_operand_183 fu rc F G
def cb_X3_operand_135 (fu : Nat) (rc : RC) (F : PF) (G : PG) : PR := (cf_X1_add fu 17 F G).bind (fun q => cb_X3_operand_144 fu rc q.2.1 q.2.2)
def cb_X3_operand_126 (fu : Nat) (rc : RC) (F : PF) (G : PG) : PR := (cf_X2_closesWith fu 20 F G).bind (fun q => cb_X3_operand_135 fu rc q.2.1 q.2.2)
def cb_X3_operand_123 (fu : Nat) (rc : RC) (z0 : Int32) (F : PF) (G : PG) : PR := if z0 = (0 : Int32) then cb_X3_operand_135 fu rc F G else cb_X3_operand_126 fu rc F G
def cb_X3_operand_114 (fu : Nat) (rc : RC) (F : PF) (G : PG) : PR := (cf_X2_opens fu 19 F G).bind (fun q => cb_X3_operand_123 fu rc q.1 q.2.1 q.2.2)
def cb_X3_operand_107 (fu : Nat) (rc : RC) (F : PF) (G : PG) : PR := (cf_X2_next fu F G).bind (fun q => cb_X3_operand_114 fu rc q.2.1 q.2.2)
def cb_X3_operand_91 (fu : Nat) (rc : RC) (F : PF) (G : PG) : PR := (cf_X5_note fu 7 (F 13) F G).bind (fun q => cb_X3_operand_107 fu rc q.2.1 q.2.2)
def cb_X3_operand_81 (fu : Nat) (rc : RC) (F : PF) (G : PG) : PR := if (F 46) = (0 : Int32) then cb_X3_operand_107 fu rc F G else cb_X3_operand_91 fu rc F G
def cb_X3_operand_172 (fu : Nat) (rc : RC) (F : PF) (G : PG) : PR := cb_X3_operand_183 fu rc F G
def cb_X3_operand_163 (fu : Nat) (rc : RC) (F : PF) (G : PG) : PR := (cf_X2_closesWith fu 20 F G).bind (fun q => cb_X3_operand_172 fu rc q.2.1 q.2.2)
def cb_X3_operand_159 (fu : Nat) (rc : RC) (F : PF) (G : PG) : PR := (rc 1 0 0 F G).bind (fun q => cb_X3_operand_163 fu rc q.2.1 q.2.2)
def cb_X3_operand_156 (fu : Nat) (rc : RC) (z0 : Int32) (F : PF) (G : PG) : PR := if z0 = (0 : Int32) then cb_X3_operand_183 fu rc F G else cb_X3_operand_159 fu rc F G
def cb_X3_operand_147 (fu : Nat) (rc : RC) (F : PF) (G : PG) : PR := (cf_X2_opens fu 19 F G).bind (fun q => cb_X3_operand_156 fu rc q.1 q.2.1 q.2.2)
def cb_X3_operand_175 (fu : Nat) (rc : RC) (F : PF) (G : PG) : PR := (cf_X2_fail fu 2 F G).bind (fun q => cb_X3_operand_183 fu rc q.2.1 q.2.2)
def cb_X3_operand_0 (fu : Nat) (rc : RC) (F : PF) (G : PG) : PR := if (F 11) = 2 then cb_X3_operand_74 fu rc F G else if (F 11) = 3 then cb_X3_operand_48 fu rc F G else if (F 11) = 17 then cb_X3_operand_81 fu rc F G else if (F 11) = 19 then cb_X3_operand_147 fu rc F G else cb_X3_operand_175 fu rc F G
def ch_X3_operand (fu : Nat) (rc : RC) (F : PF) (G : PG) : PR := cb_X3_operand_0 fu rc F G
theorem cn_X3_operand_183 (fu : Nat) (rc : RC) (hrn : ∀ (i : Nat) (x y : Int32) (F : PF) (G : PG) (q : Int32 × PF × PG), rc i x y F G = some q → xn F ≤ xn q.2.1) {res : Int32 × PF × PG} (F : PF) (G : PG) (hm : cb_X3_operand_183 fu rc F G = some res) : xn F ≤ xn res.2.1 := by
  unfold cb_X3_operand_183 at hm
  obtain rfl := Option.some.inj hm
  exact Nat.le_refl _
theorem cw_X3_operand_183 (fu : Nat) (rc : RC) {dd : Nat} (hr : cH1 l v a rc dd) (hrn : ∀ (i : Nat) (x y : Int32) (F : PF) (G : PG) (q : Int32 × PF × PG), rc i x y F G = some q → xn F ≤ xn q.2.1) {res : Int32 × PF × PG} (C : cMC p R s m args c A v RX3 cX3_operand 1 (dd + 1 + 2) (60 * (dd + 1) + 49) (xn res.2.1 - xn K0)) (hret : ∀ (b1 : Nat) (H1 : Heap) (locs1 : List Loc) (ls1 : Array Slot) (pc : Nat), cMW s A v a b1 K0 res.2.1 res.2.2 H1 locs1 → decode cX3_operand pc = .ok (.return_, 1) → W p l e R s m args below meth c H1 locs1 (xn res.2.1 - xn K0) (2 * (xn res.2.1 - xn K0)) Q (F0 m pc ls1 [])) (F : PF) (G : PG) (hm : cb_X3_operand_183 fu rc F G = some res) {b : Nat} {H : Heap} {locs : List Loc} (hw : cMW s A v a b K0 F G H locs) {ls : Array Slot} (hl : lv_has ls 1 []) : W p l e R s m args below meth c H locs (xn F - xn K0) (2 * (xn F - xn K0)) Q (F0 m 183 ls []) := by
  have hx := C.1
  have hb := C.2.1
  unfold cb_X3_operand_183 at hm
  obtain rfl := Option.some.inj hm
  exact hret _ _ _ _ _ hw dX3_operand_183
theorem cn_X3_operand_71 (fu : Nat) (rc : RC) (hrn : ∀ (i : Nat) (x y : Int32) (F : PF) (G : PG) (q : Int32 × PF × PG), rc i x y F G = some q → xn F ≤ xn q.2.1) {res : Int32 × PF × PG} (F : PF) (G : PG) (hm : cb_X3_operand_71 fu rc F G = some res) : xn F ≤ xn res.2.1 := by
  unfold cb_X3_operand_71 at hm
  exact (cn_X3_operand_183 fu rc hrn F G hm)
theorem cw_X3_operand_71 (fu : Nat) (rc : RC) {dd : Nat} (hr : cH1 l v a rc dd) (hrn : ∀ (i : Nat) (x y : Int32) (F : PF) (G : PG) (q : Int32 × PF × PG), rc i x y F G = some q → xn F ≤ xn q.2.1) {res : Int32 × PF × PG} (C : cMC p R s m args c A v RX3 cX3_operand 1 (dd + 1 + 2) (60 * (dd + 1) + 49) (xn res.2.1 - xn K0)) (hret : ∀ (b1 : Nat) (H1 : Heap) (locs1 : List Loc) (ls1 : Array Slot) (pc : Nat), cMW s A v a b1 K0 res.2.1 res.2.2 H1 locs1 → decode cX3_operand pc = .ok (.return_, 1) → W p l e R s m args below meth c H1 locs1 (xn res.2.1 - xn K0) (2 * (xn res.2.1 - xn K0)) Q (F0 m pc ls1 [])) (F : PF) (G : PG) (hm : cb_X3_operand_71 fu rc F G = some res) {b : Nat} {H : Heap} {locs : List Loc} (hw : cMW s A v a b K0 F G H locs) {ls : Array Slot} (hl : lv_has ls 1 []) : W p l e R s m args below meth c H locs (xn F - xn K0) (2 * (xn F - xn K0)) Q (F0 m 71 ls []) := by
  have hx := C.1
  have hb := C.2.1
  unfold cb_X3_operand_71 at hm
  refine lv_goto (tgt := 183) hx hb dX3_operand_71 (by decide) ?_
  exact cw_X3_operand_183 fu rc hr hrn C hret F G hm hw (lv_sub hl [] rfl)
theorem cn_X3_operand_64 (fu : Nat) (rc : RC) (hrn : ∀ (i : Nat) (x y : Int32) (F : PF) (G : PG) (q : Int32 × PF × PG), rc i x y F G = some q → xn F ≤ xn q.2.1) {res : Int32 × PF × PG} (F : PF) (G : PG) (hm : cb_X3_operand_64 fu rc F G = some res) : xn F ≤ xn res.2.1 := by
  unfold cb_X3_operand_64 at hm
  obtain ⟨⟨r1, F1, G1⟩, hc, hm⟩ := bind_elim hm
  exact Nat.le_trans (cn_X2_next fu F G _ hc) (cn_X3_operand_71 fu rc hrn F1 G1 hm)
theorem cw_X3_operand_64 (fu : Nat) (rc : RC) {dd : Nat} (hr : cH1 l v a rc dd) (hrn : ∀ (i : Nat) (x y : Int32) (F : PF) (G : PG) (q : Int32 × PF × PG), rc i x y F G = some q → xn F ≤ xn q.2.1) {res : Int32 × PF × PG} (C : cMC p R s m args c A v RX3 cX3_operand 1 (dd + 1 + 2) (60 * (dd + 1) + 49) (xn res.2.1 - xn K0)) (hret : ∀ (b1 : Nat) (H1 : Heap) (locs1 : List Loc) (ls1 : Array Slot) (pc : Nat), cMW s A v a b1 K0 res.2.1 res.2.2 H1 locs1 → decode cX3_operand pc = .ok (.return_, 1) → W p l e R s m args below meth c H1 locs1 (xn res.2.1 - xn K0) (2 * (xn res.2.1 - xn K0)) Q (F0 m pc ls1 [])) (F : PF) (G : PG) (hm : cb_X3_operand_64 fu rc F G = some res) {b : Nat} {H : Heap} {locs : List Loc} (hw : cMW s A v a b K0 F G H locs) {ls : Array Slot} (hl : lv_has ls 1 [(0, .ref (a 203))]) : W p l e R s m args below meth c H locs (xn F - xn K0) (2 * (xn F - xn K0)) Q (F0 m 64 ls []) := by
  have hx := C.1
  have hb := C.2.1
  unfold cb_X3_operand_64 at hm
  refine lv_aload_n hx hb dX3_operand_64 rfl (lv_at hl 0 rfl) ?_
  refine cg_X3_15 C hw dX3_operand_65 ?_
  obtain ⟨⟨r1, F1, G1⟩, hc, hm⟩ := bind_elim hm
  refine ccallV (n := 0) (As := []) (rest := []) C hw (ck_X2_next l v a _ _ fu F G r1 F1 G1 hc) (cn_X2_next fu F G _ hc) (Nat.sub_le_sub_right (cn_X3_operand_71 fu rc hrn F1 G1 hm) _) (crecv_X2 C hw) cm_456 cm_321 cm_322 cm_307 cm_323 (by decide +kernel) rfl (by omega) (by omega) hl.1 rfl (Nat.le_of_ble_eq_true rfl) dX3_operand_68 (fun b H locs hw => ?_)
  exact cw_X3_operand_71 fu rc hr hrn C hret F1 G1 hm hw (lv_sub hl [] rfl)
theorem cn_X3_operand_48 (fu : Nat) (rc : RC) (hrn : ∀ (i : Nat) (x y : Int32) (F : PF) (G : PG) (q : Int32 × PF × PG), rc i x y F G = some q → xn F ≤ xn q.2.1) {res : Int32 × PF × PG} (F : PF) (G : PG) (hm : cb_X3_operand_48 fu rc F G = some res) : xn F ≤ xn res.2.1 := by
  unfold cb_X3_operand_48 at hm
  obtain ⟨⟨r1, F1, G1⟩, hc, hm⟩ := bind_elim hm
  exact Nat.le_trans (cn_X1_addPair fu 66 (F 12) F G _ hc) (cn_X3_operand_64 fu rc hrn F1 G1 hm)
theorem cw_X3_operand_48 (fu : Nat) (rc : RC) {dd : Nat} (hr : cH1 l v a rc dd) (hrn : ∀ (i : Nat) (x y : Int32) (F : PF) (G : PG) (q : Int32 × PF × PG), rc i x y F G = some q → xn F ≤ xn q.2.1) {res : Int32 × PF × PG} (C : cMC p R s m args c A v RX3 cX3_operand 1 (dd + 1 + 2) (60 * (dd + 1) + 49) (xn res.2.1 - xn K0)) (hret : ∀ (b1 : Nat) (H1 : Heap) (locs1 : List Loc) (ls1 : Array Slot) (pc : Nat), cMW s A v a b1 K0 res.2.1 res.2.2 H1 locs1 → decode cX3_operand pc = .ok (.return_, 1) → W p l e R s m args below meth c H1 locs1 (xn res.2.1 - xn K0) (2 * (xn res.2.1 - xn K0)) Q (F0 m pc ls1 [])) (F : PF) (G : PG) (hm : cb_X3_operand_48 fu rc F G = some res) {b : Nat} {H : Heap} {locs : List Loc} (hw : cMW s A v a b K0 F G H locs) {ls : Array Slot} (hl : lv_has ls 1 [(0, .ref (a 203))]) : W p l e R s m args below meth c H locs (xn F - xn K0) (2 * (xn F - xn K0)) Q (F0 m 48 ls []) := by
  have hx := C.1
  have hb := C.2.1
  unfold cb_X3_operand_48 at hm
  refine lv_aload_n hx hb dX3_operand_48 rfl (lv_at hl 0 rfl) ?_
  refine cg_X3_23 C hw dX3_operand_49 ?_
  refine lv_bipush (v := 66) hx hb dX3_operand_52 (by decide) ?_
  refine lv_aload_n hx hb dX3_operand_54 rfl (lv_at hl 0 rfl) ?_
  refine cg_X3_15 C hw dX3_operand_55 ?_
  refine cg_X3_125 C hw dX3_operand_58 ?_
  obtain ⟨⟨r1, F1, G1⟩, hc, hm⟩ := bind_elim hm
  refine ccallV (n := 2) (As := [.int 66, .int (F 12)]) (rest := []) C hw (ck_X1_addPair l v a _ _ fu 66 (F 12) F G r1 F1 G1 hc) (cn_X1_addPair fu 66 (F 12) F G _ hc) (Nat.sub_le_sub_right (cn_X3_operand_64 fu rc hrn F1 G1 hm) _) (crecv_X1 C hw) cm_448 cm_449 cm_450 cm_369 cm_451 (by decide +kernel) rfl (by omega) (by omega) hl.1 rfl (Nat.le_of_ble_eq_true rfl) dX3_operand_61 (fun b H locs hw => ?_)
  exact cw_X3_operand_64 fu rc hr hrn C hret F1 G1 hm hw (lv_sub hl [0] rfl)
theorem cn_X3_operand_78 (fu : Nat) (rc : RC) (hrn : ∀ (i : Nat) (x y : Int32) (F : PF) (G : PG) (q : Int32 × PF × PG), rc i x y F G = some q → xn F ≤ xn q.2.1) {res : Int32 × PF × PG} (F : PF) (G : PG) (hm : cb_X3_operand_78 fu rc F G = some res) : xn F ≤ xn res.2.1 := by
  unfold cb_X3_operand_78 at hm
  exact (cn_X3_operand_183 fu rc hrn F G hm)
theorem cw_X3_operand_78 (fu : Nat) (rc : RC) {dd : Nat} (hr : cH1 l v a rc dd) (hrn : ∀ (i : Nat) (x y : Int32) (F : PF) (G : PG) (q : Int32 × PF × PG), rc i x y F G = some q → xn F ≤ xn q.2.1) {res : Int32 × PF × PG} (C : cMC p R s m args c A v RX3 cX3_operand 1 (dd + 1 + 2) (60 * (dd + 1) + 49) (xn res.2.1 - xn K0)) (hret : ∀ (b1 : Nat) (H1 : Heap) (locs1 : List Loc) (ls1 : Array Slot) (pc : Nat), cMW s A v a b1 K0 res.2.1 res.2.2 H1 locs1 → decode cX3_operand pc = .ok (.return_, 1) → W p l e R s m args below meth c H1 locs1 (xn res.2.1 - xn K0) (2 * (xn res.2.1 - xn K0)) Q (F0 m pc ls1 [])) (F : PF) (G : PG) (hm : cb_X3_operand_78 fu rc F G = some res) {b : Nat} {H : Heap} {locs : List Loc} (hw : cMW s A v a b K0 F G H locs) {ls : Array Slot} (hl : lv_has ls 1 []) : W p l e R s m args below meth c H locs (xn F - xn K0) (2 * (xn F - xn K0)) Q (F0 m 78 ls []) := by
  have hx := C.1
  have hb := C.2.1
  unfold cb_X3_operand_78 at hm
  refine lv_goto (tgt := 183) hx hb dX3_operand_78 (by decide) ?_
  exact cw_X3_operand_183 fu rc hr hrn C hret F G hm hw (lv_sub hl [] rfl)
theorem cn_X3_operand_74 (fu : Nat) (rc : RC) (hrn : ∀ (i : Nat) (x y : Int32) (F : PF) (G : PG) (q : Int32 × PF × PG), rc i x y F G = some q → xn F ≤ xn q.2.1) {res : Int32 × PF × PG} (F : PF) (G : PG) (hm : cb_X3_operand_74 fu rc F G = some res) : xn F ≤ xn res.2.1 := by
  unfold cb_X3_operand_74 at hm
  obtain ⟨⟨r1, F1, G1⟩, hc, hm⟩ := bind_elim hm
  exact Nat.le_trans (hrn _ _ _ _ _ _ hc) (cn_X3_operand_78 fu rc hrn F1 G1 hm)
theorem cw_X3_operand_74 (fu : Nat) (rc : RC) {dd : Nat} (hr : cH1 l v a rc dd) (hrn : ∀ (i : Nat) (x y : Int32) (F : PF) (G : PG) (q : Int32 × PF × PG), rc i x y F G = some q → xn F ≤ xn q.2.1) {res : Int32 × PF × PG} (C : cMC p R s m args c A v RX3 cX3_operand 1 (dd + 1 + 2) (60 * (dd + 1) + 49) (xn res.2.1 - xn K0)) (hret : ∀ (b1 : Nat) (H1 : Heap) (locs1 : List Loc) (ls1 : Array Slot) (pc : Nat), cMW s A v a b1 K0 res.2.1 res.2.2 H1 locs1 → decode cX3_operand pc = .ok (.return_, 1) → W p l e R s m args below meth c H1 locs1 (xn res.2.1 - xn K0) (2 * (xn res.2.1 - xn K0)) Q (F0 m pc ls1 [])) (F : PF) (G : PG) (hm : cb_X3_operand_74 fu rc F G = some res) {b : Nat} {H : Heap} {locs : List Loc} (hw : cMW s A v a b K0 F G H locs) {ls : Array Slot} (hl : lv_has ls 1 [(0, .ref (a 203))]) : W p l e R s m args below meth c H locs (xn F - xn K0) (2 * (xn F - xn K0)) Q (F0 m 74 ls []) := by
  have hx := C.1
  have hb := C.2.1
  unfold cb_X3_operand_74 at hm
  refine lv_aload_n hx hb dX3_operand_74 rfl (lv_at hl 0 rfl) ?_
  obtain ⟨⟨r1, F1, G1⟩, hc, hm⟩ := bind_elim hm
  refine ccallV (n := 0) (As := []) (rest := []) C hw (hr.2.2.2.2.1 _ _ F G r1 F1 G1 hc) (hrn _ _ _ _ _ _ hc) (Nat.sub_le_sub_right (cn_X3_operand_78 fu rc hrn F1 G1 hm) _) (crecv_X3 C hw) cm_513 cm_514 cm_515 cm_301 cm_483 (by decide +kernel) rfl (by omega) (by omega) hl.1 rfl (Nat.le_of_ble_eq_true rfl) dX3_operand_75 (fun b H locs hw => ?_)
  exact cw_X3_operand_78 fu rc hr hrn C hret F1 G1 hm hw (lv_sub hl [] rfl)
theorem cn_X3_operand_144 (fu : Nat) (rc : RC) (hrn : ∀ (i : Nat) (x y : Int32) (F : PF) (G : PG) (q : Int32 × PF × PG), rc i x y F G = some q → xn F ≤ xn q.2.1) {res : Int32 × PF × PG} (F : PF) (G : PG) (hm : cb_X3_operand_144 fu rc F G = some res) : xn F ≤ xn res.2.1 := by
  unfold cb_X3_operand_144 at hm
  exact (cn_X3_operand_183 fu rc hrn F G hm)
theorem cw_X3_operand_144 (fu : Nat) (rc : RC) {dd : Nat} (hr : cH1 l v a rc dd) (hrn : ∀ (i : Nat) (x y : Int32) (F : PF) (G : PG) (q : Int32 × PF × PG), rc i x y F G = some q → xn F ≤ xn q.2.1) {res : Int32 × PF × PG} (C : cMC p R s m args c A v RX3 cX3_operand 1 (dd + 1 + 2) (60 * (dd + 1) + 49) (xn res.2.1 - xn K0)) (hret : ∀ (b1 : Nat) (H1 : Heap) (locs1 : List Loc) (ls1 : Array Slot) (pc : Nat), cMW s A v a b1 K0 res.2.1 res.2.2 H1 locs1 → decode cX3_operand pc = .ok (.return_, 1) → W p l e R s m args below meth c H1 locs1 (xn res.2.1 - xn K0) (2 * (xn res.2.1 - xn K0)) Q (F0 m pc ls1 [])) (F : PF) (G : PG) (hm : cb_X3_operand_144 fu rc F G = some res) {b : Nat} {H : Heap} {locs : List Loc} (hw : cMW s A v a b K0 F G H locs) {ls : Array Slot} (hl : lv_has ls 1 []) : W p l e R s m args below meth c H locs (xn F - xn K0) (2 * (xn F - xn K0)) Q (F0 m 144 ls []) := by
  have hx := C.1
  have hb := C.2.1
  unfold cb_X3_operand_144 at hm
  refine lv_goto (tgt := 183) hx hb dX3_operand_144 (by decide) ?_
  exact cw_X3_operand_183 fu rc hr hrn C hret F G hm hw (lv_sub hl [] rfl)
theorem cn_X3_operand_135 (fu : Nat) (rc : RC) (hrn : ∀ (i : Nat) (x y : Int32) (F : PF) (G : PG) (q : Int32 × PF × PG), rc i x y F G = some q → xn F ≤ xn q.2.1) {res : Int32 × PF × PG} (F : PF) (G : PG) (hm : cb_X3_operand_135 fu rc F G = some res) : xn F ≤ xn res.2.1 := by
  unfold cb_X3_operand_135 at hm
  obtain ⟨⟨r1, F1, G1⟩, hc, hm⟩ := bind_elim hm
  exact Nat.le_trans (cn_X1_add fu 17 F G _ hc) (cn_X3_operand_144 fu rc hrn F1 G1 hm)
theorem cw_X3_operand_135 (fu : Nat) (rc : RC) {dd : Nat} (hr : cH1 l v a rc dd) (hrn : ∀ (i : Nat) (x y : Int32) (F : PF) (G : PG) (q : Int32 × PF × PG), rc i x y F G = some q → xn F ≤ xn q.2.1) {res : Int32 × PF × PG} (C : cMC p R s m args c A v RX3 cX3_operand 1 (dd + 1 + 2) (60 * (dd + 1) + 49) (xn res.2.1 - xn K0)) (hret : ∀ (b1 : Nat) (H1 : Heap) (locs1 : List Loc) (ls1 : Array Slot) (pc : Nat), cMW s A v a b1 K0 res.2.1 res.2.2 H1 locs1 → decode cX3_operand pc = .ok (.return_, 1) → W p l e R s m args below meth c H1 locs1 (xn res.2.1 - xn K0) (2 * (xn res.2.1 - xn K0)) Q (F0 m pc ls1 [])) (F : PF) (G : PG) (hm : cb_X3_operand_135 fu rc F G = some res) {b : Nat} {H : Heap} {locs : List Loc} (hw : cMW s A v a b K0 F G H locs) {ls : Array Slot} (hl : lv_has ls 1 [(0, .ref (a 203))]) : W p l e R s m args below meth c H locs (xn F - xn K0) (2 * (xn F - xn K0)) Q (F0 m 135 ls []) := by
  have hx := C.1
  have hb := C.2.1
  unfold cb_X3_operand_135 at hm
  refine lv_aload_n hx hb dX3_operand_135 rfl (lv_at hl 0 rfl) ?_
  refine cg_X3_23 C hw dX3_operand_136 ?_
  refine lv_bipush (v := 17) hx hb dX3_operand_139 (by decide) ?_
  obtain ⟨⟨r1, F1, G1⟩, hc, hm⟩ := bind_elim hm
  refine ccallV (n := 1) (As := [.int 17]) (rest := []) C hw (ck_X1_add l v a _ _ fu 17 F G r1 F1 G1 hc) (cn_X1_add fu 17 F G _ hc) (Nat.sub_le_sub_right (cn_X3_operand_144 fu rc hrn F1 G1 hm) _) (crecv_X1 C hw) cm_452 cm_453 cm_454 cm_369 cm_455 (by decide +kernel) rfl (by omega) (by omega) hl.1 rfl (Nat.le_of_ble_eq_true rfl) dX3_operand_141 (fun b H locs hw => ?_)
  exact cw_X3_operand_144 fu rc hr hrn C hret F1 G1 hm hw (lv_sub hl [] rfl)
theorem cn_X3_operand_126 (fu : Nat) (rc : RC) (hrn : ∀ (i : Nat) (x y : Int32) (F : PF) (G : PG) (q : Int32 × PF × PG), rc i x y F G = some q → xn F ≤ xn q.2.1) {res : Int32 × PF × PG} (F : PF) (G : PG) (hm : cb_X3_operand_126 fu rc F G = some res) : xn F ≤ xn res.2.1 := by
  unfold cb_X3_operand_126 at hm
  obtain ⟨⟨r1, F1, G1⟩, hc, hm⟩ := bind_elim hm
  exact Nat.le_trans (cn_X2_closesWith fu 20 F G _ hc) (cn_X3_operand_135 fu rc hrn F1 G1 hm)
theorem cw_X3_operand_126 (fu : Nat) (rc : RC) {dd : Nat} (hr : cH1 l v a rc dd) (hrn : ∀ (i : Nat) (x y : Int32) (F : PF) (G : PG) (q : Int32 × PF × PG), rc i x y F G = some q → xn F ≤ xn q.2.1) {res : Int32 × PF × PG} (C : cMC p R s m args c A v RX3 cX3_operand 1 (dd + 1 + 2) (60 * (dd + 1) + 49) (xn res.2.1 - xn K0)) (hret : ∀ (b1 : Nat) (H1 : Heap) (locs1 : List Loc) (ls1 : Array Slot) (pc : Nat), cMW s A v a b1 K0 res.2.1 res.2.2 H1 locs1 → decode cX3_operand pc = .ok (.return_, 1) → W p l e R s m args below meth c H1 locs1 (xn res.2.1 - xn K0) (2 * (xn res.2.1 - xn K0)) Q (F0 m pc ls1 [])) (F : PF) (G : PG) (hm : cb_X3_operand_126 fu rc F G = some res) {b : Nat} {H : Heap} {locs : List Loc} (hw : cMW s A v a b K0 F G H locs) {ls : Array Slot} (hl : lv_has ls 1 [(0, .ref (a 203))]) : W p l e R s m args below meth c H locs (xn F - xn K0) (2 * (xn F - xn K0)) Q (F0 m 126 ls []) := by
  have hx := C.1
  have hb := C.2.1
  unfold cb_X3_operand_126 at hm
  refine lv_aload_n hx hb dX3_operand_126 rfl (lv_at hl 0 rfl) ?_
  refine cg_X3_15 C hw dX3_operand_127 ?_
  refine lv_bipush (v := 20) hx hb dX3_operand_130 (by decide) ?_
  obtain ⟨⟨r1, F1, G1⟩, hc, hm⟩ := bind_elim hm
  refine ccallV (n := 1) (As := [.int 20]) (rest := []) C hw (ck_X2_closesWith l v a _ _ fu 20 F G r1 F1 G1 hc) (cn_X2_closesWith fu 20 F G _ hc) (Nat.sub_le_sub_right (cn_X3_operand_135 fu rc hrn F1 G1 hm) _) (crecv_X2 C hw) cm_458 cm_459 cm_460 cm_307 cm_461 (by decide +kernel) rfl (by omega) (by omega) hl.1 rfl (Nat.le_of_ble_eq_true rfl) dX3_operand_132 (fun b H locs hw => ?_)
  exact cw_X3_operand_135 fu rc hr hrn C hret F1 G1 hm hw (lv_sub hl [0] rfl)
theorem cn_X3_operand_123 (fu : Nat) (rc : RC) (hrn : ∀ (i : Nat) (x y : Int32) (F : PF) (G : PG) (q : Int32 × PF × PG), rc i x y F G = some q → xn F ≤ xn q.2.1) {res : Int32 × PF × PG} (z0 : Int32) (F : PF) (G : PG) (hm : cb_X3_operand_123 fu rc z0 F G = some res) : xn F ≤ xn res.2.1 := by
  unfold cb_X3_operand_123 at hm
  by_cases c_1 : z0 = (0 : Int32)
  · have hm := (if_pos c_1).symm.trans hm
    exact (cn_X3_operand_135 fu rc hrn F G hm)
  · have hm := (if_neg c_1).symm.trans hm
    exact (cn_X3_operand_126 fu rc hrn F G hm)
theorem cw_X3_operand_123 (fu : Nat) (rc : RC) {dd : Nat} (hr : cH1 l v a rc dd) (hrn : ∀ (i : Nat) (x y : Int32) (F : PF) (G : PG) (q : Int32 × PF × PG), rc i x y F G = some q → xn F ≤ xn q.2.1) {res : Int32 × PF × PG} (C : cMC p R s m args c A v RX3 cX3_operand 1 (dd + 1 + 2) (60 * (dd + 1) + 49) (xn res.2.1 - xn K0)) (hret : ∀ (b1 : Nat) (H1 : Heap) (locs1 : List Loc) (ls1 : Array Slot) (pc : Nat), cMW s A v a b1 K0 res.2.1 res.2.2 H1 locs1 → decode cX3_operand pc = .ok (.return_, 1) → W p l e R s m args below meth c H1 locs1 (xn res.2.1 - xn K0) (2 * (xn res.2.1 - xn K0)) Q (F0 m pc ls1 [])) (z0 : Int32) (F : PF) (G : PG) (hm : cb_X3_operand_123 fu rc z0 F G = some res) {b : Nat} {H : Heap} {locs : List Loc} (hw : cMW s A v a b K0 F G H locs) {ls : Array Slot} (hl : lv_has ls 1 [(0, .ref (a 203))]) : W p l e R s m args below meth c H locs (xn F - xn K0) (2 * (xn F - xn K0)) Q (F0 m 123 ls [.int z0]) := by
  have hx := C.1
  have hb := C.2.1
  unfold cb_X3_operand_123 at hm
  refine lv_if_eq (tgt := 135) hx hb dX3_operand_123 (by decide) (fun c_1 => ?_) (fun c_1 => ?_)
  · have hm := (if_pos c_1).symm.trans hm
    exact cw_X3_operand_135 fu rc hr hrn C hret F G hm hw (lv_sub hl [0] rfl)
  · have hm := (if_neg c_1).symm.trans hm
    exact cw_X3_operand_126 fu rc hr hrn C hret F G hm hw (lv_sub hl [0] rfl)
theorem cn_X3_operand_114 (fu : Nat) (rc : RC) (hrn : ∀ (i : Nat) (x y : Int32) (F : PF) (G : PG) (q : Int32 × PF × PG), rc i x y F G = some q → xn F ≤ xn q.2.1) {res : Int32 × PF × PG} (F : PF) (G : PG) (hm : cb_X3_operand_114 fu rc F G = some res) : xn F ≤ xn res.2.1 := by
  unfold cb_X3_operand_114 at hm
  obtain ⟨⟨r1, F1, G1⟩, hc, hm⟩ := bind_elim hm
  exact Nat.le_trans (cn_X2_opens fu 19 F G _ hc) (cn_X3_operand_123 fu rc hrn r1 F1 G1 hm)
theorem cw_X3_operand_114 (fu : Nat) (rc : RC) {dd : Nat} (hr : cH1 l v a rc dd) (hrn : ∀ (i : Nat) (x y : Int32) (F : PF) (G : PG) (q : Int32 × PF × PG), rc i x y F G = some q → xn F ≤ xn q.2.1) {res : Int32 × PF × PG} (C : cMC p R s m args c A v RX3 cX3_operand 1 (dd + 1 + 2) (60 * (dd + 1) + 49) (xn res.2.1 - xn K0)) (hret : ∀ (b1 : Nat) (H1 : Heap) (locs1 : List Loc) (ls1 : Array Slot) (pc : Nat), cMW s A v a b1 K0 res.2.1 res.2.2 H1 locs1 → decode cX3_operand pc = .ok (.return_, 1) → W p l e R s m args below meth c H1 locs1 (xn res.2.1 - xn K0) (2 * (xn res.2.1 - xn K0)) Q (F0 m pc ls1 [])) (F : PF) (G : PG) (hm : cb_X3_operand_114 fu rc F G = some res) {b : Nat} {H : Heap} {locs : List Loc} (hw : cMW s A v a b K0 F G H locs) {ls : Array Slot} (hl : lv_has ls 1 [(0, .ref (a 203))]) : W p l e R s m args below meth c H locs (xn F - xn K0) (2 * (xn F - xn K0)) Q (F0 m 114 ls []) := by
  have hx := C.1
  have hb := C.2.1
  unfold cb_X3_operand_114 at hm
  refine lv_aload_n hx hb dX3_operand_114 rfl (lv_at hl 0 rfl) ?_
  refine cg_X3_15 C hw dX3_operand_115 ?_
  refine lv_bipush (v := 19) hx hb dX3_operand_118 (by decide) ?_
  obtain ⟨⟨r1, F1, G1⟩, hc, hm⟩ := bind_elim hm
  refine ccallI (n := 1) (As := [.int 19]) (rest := []) C hw (ck_X2_opens l v a _ _ fu 19 F G r1 F1 G1 hc) (cn_X2_opens fu 19 F G _ hc) (Nat.sub_le_sub_right (cn_X3_operand_123 fu rc hrn r1 F1 G1 hm) _) (crecv_X2 C hw) cm_362 cm_363 cm_364 cm_307 cm_365 (by decide +kernel) rfl (by omega) (by omega) hl.1 rfl (Nat.le_of_ble_eq_true rfl) dX3_operand_120 (fun b H locs hw => ?_)
  exact cw_X3_operand_123 fu rc hr hrn C hret r1 F1 G1 hm hw (lv_sub hl [0] rfl)
theorem cn_X3_operand_107 (fu : Nat) (rc : RC) (hrn : ∀ (i : Nat) (x y : Int32) (F : PF) (G : PG) (q : Int32 × PF × PG), rc i x y F G = some q → xn F ≤ xn q.2.1) {res : Int32 × PF × PG} (F : PF) (G : PG) (hm : cb_X3_operand_107 fu rc F G = some res) : xn F ≤ xn res.2.1 := by
  unfold cb_X3_operand_107 at hm
  obtain ⟨⟨r1, F1, G1⟩, hc, hm⟩ := bind_elim hm
  exact Nat.le_trans (cn_X2_next fu F G _ hc) (cn_X3_operand_114 fu rc hrn F1 G1 hm)
theorem cw_X3_operand_107 (fu : Nat) (rc : RC) {dd : Nat} (hr : cH1 l v a rc dd) (hrn : ∀ (i : Nat) (x y : Int32) (F : PF) (G : PG) (q : Int32 × PF × PG), rc i x y F G = some q → xn F ≤ xn q.2.1) {res : Int32 × PF × PG} (C : cMC p R s m args c A v RX3 cX3_operand 1 (dd + 1 + 2) (60 * (dd + 1) + 49) (xn res.2.1 - xn K0)) (hret : ∀ (b1 : Nat) (H1 : Heap) (locs1 : List Loc) (ls1 : Array Slot) (pc : Nat), cMW s A v a b1 K0 res.2.1 res.2.2 H1 locs1 → decode cX3_operand pc = .ok (.return_, 1) → W p l e R s m args below meth c H1 locs1 (xn res.2.1 - xn K0) (2 * (xn res.2.1 - xn K0)) Q (F0 m pc ls1 [])) (F : PF) (G : PG) (hm : cb_X3_operand_107 fu rc F G = some res) {b : Nat} {H : Heap} {locs : List Loc} (hw : cMW s A v a b K0 F G H locs) {ls : Array Slot} (hl : lv_has ls 1 [(0, .ref (a 203))]) : W p l e R s m args below meth c H locs (xn F - xn K0) (2 * (xn F - xn K0)) Q (F0 m 107 ls []) := by
  have hx := C.1
  have hb := C.2.1
  unfold cb_X3_operand_107 at hm
  refine lv_aload_n hx hb dX3_operand_107 rfl (lv_at hl 0 rfl) ?_
  refine cg_X3_15 C hw dX3_operand_108 ?_
  obtain ⟨⟨r1, F1, G1⟩, hc, hm⟩ := bind_elim hm
  refine ccallV (n := 0) (As := []) (rest := []) C hw (ck_X2_next l v a _ _ fu F G r1 F1 G1 hc) (cn_X2_next fu F G _ hc) (Nat.sub_le_sub_right (cn_X3_operand_114 fu rc hrn F1 G1 hm) _) (crecv_X2 C hw) cm_456 cm_321 cm_322 cm_307 cm_323 (by decide +kernel) rfl (by omega) (by omega) hl.1 rfl (Nat.le_of_ble_eq_true rfl) dX3_operand_111 (fun b H locs hw => ?_)
  exact cw_X3_operand_114 fu rc hr hrn C hret F1 G1 hm hw (lv_sub hl [0] rfl)
theorem cn_X3_operand_91 (fu : Nat) (rc : RC) (hrn : ∀ (i : Nat) (x y : Int32) (F : PF) (G : PG) (q : Int32 × PF × PG), rc i x y F G = some q → xn F ≤ xn q.2.1) {res : Int32 × PF × PG} (F : PF) (G : PG) (hm : cb_X3_operand_91 fu rc F G = some res) : xn F ≤ xn res.2.1 := by
  unfold cb_X3_operand_91 at hm
  obtain ⟨⟨r1, F1, G1⟩, hc, hm⟩ := bind_elim hm
  exact Nat.le_trans (cn_X5_note fu 7 (F 13) F G _ hc) (cn_X3_operand_107 fu rc hrn F1 G1 hm)
theorem cw_X3_operand_91 (fu : Nat) (rc : RC) {dd : Nat} (hr : cH1 l v a rc dd) (hrn : ∀ (i : Nat) (x y : Int32) (F : PF) (G : PG) (q : Int32 × PF × PG), rc i x y F G = some q → xn F ≤ xn q.2.1) {res : Int32 × PF × PG} (C : cMC p R s m args c A v RX3 cX3_operand 1 (dd + 1 + 2) (60 * (dd + 1) + 49) (xn res.2.1 - xn K0)) (hret : ∀ (b1 : Nat) (H1 : Heap) (locs1 : List Loc) (ls1 : Array Slot) (pc : Nat), cMW s A v a b1 K0 res.2.1 res.2.2 H1 locs1 → decode cX3_operand pc = .ok (.return_, 1) → W p l e R s m args below meth c H1 locs1 (xn res.2.1 - xn K0) (2 * (xn res.2.1 - xn K0)) Q (F0 m pc ls1 [])) (F : PF) (G : PG) (hm : cb_X3_operand_91 fu rc F G = some res) {b : Nat} {H : Heap} {locs : List Loc} (hw : cMW s A v a b K0 F G H locs) {ls : Array Slot} (hl : lv_has ls 1 [(0, .ref (a 203))]) : W p l e R s m args below meth c H locs (xn F - xn K0) (2 * (xn F - xn K0)) Q (F0 m 91 ls []) := by
  have hx := C.1
  have hb := C.2.1
  unfold cb_X3_operand_91 at hm
  refine lv_aload_n hx hb dX3_operand_91 rfl (lv_at hl 0 rfl) ?_
  refine cg_X3_19 C hw dX3_operand_92 ?_
  refine lv_bipush (v := 7) hx hb dX3_operand_95 (by decide) ?_
  refine lv_aload_n hx hb dX3_operand_97 rfl (lv_at hl 0 rfl) ?_
  refine cg_X3_15 C hw dX3_operand_98 ?_
  refine cg_X3_72 C hw dX3_operand_101 ?_
  obtain ⟨⟨r1, F1, G1⟩, hc, hm⟩ := bind_elim hm
  refine ccallV (n := 2) (As := [.int 7, .int (F 13)]) (rest := []) C hw (ck_X5_note l v a _ _ fu 7 (F 13) F G r1 F1 G1 hc) (cn_X5_note fu 7 (F 13) F G _ hc) (Nat.sub_le_sub_right (cn_X3_operand_107 fu rc hrn F1 G1 hm) _) (crecv_X5 C hw) cm_457 cm_425 cm_426 cm_266 cm_427 (by decide +kernel) rfl (by omega) (by omega) hl.1 rfl (Nat.le_of_ble_eq_true rfl) dX3_operand_104 (fun b H locs hw => ?_)
  exact cw_X3_operand_107 fu rc hr hrn C hret F1 G1 hm hw (lv_sub hl [0] rfl)
theorem cn_X3_operand_81 (fu : Nat) (rc : RC) (hrn : ∀ (i : Nat) (x y : Int32) (F : PF) (G : PG) (q : Int32 × PF × PG), rc i x y F G = some q → xn F ≤ xn q.2.1) {res : Int32 × PF × PG} (F : PF) (G : PG) (hm : cb_X3_operand_81 fu rc F G = some res) : xn F ≤ xn res.2.1 := by
  unfold cb_X3_operand_81 at hm
  by_cases c_1 : (F 46) = (0 : Int32)
  · have hm := (if_pos c_1).symm.trans hm
    exact (cn_X3_operand_107 fu rc hrn F G hm)
  · have hm := (if_neg c_1).symm.trans hm
    exact (cn_X3_operand_91 fu rc hrn F G hm)
theorem cw_X3_operand_81 (fu : Nat) (rc : RC) {dd : Nat} (hr : cH1 l v a rc dd) (hrn : ∀ (i : Nat) (x y : Int32) (F : PF) (G : PG) (q : Int32 × PF × PG), rc i x y F G = some q → xn F ≤ xn q.2.1) {res : Int32 × PF × PG} (C : cMC p R s m args c A v RX3 cX3_operand 1 (dd + 1 + 2) (60 * (dd + 1) + 49) (xn res.2.1 - xn K0)) (hret : ∀ (b1 : Nat) (H1 : Heap) (locs1 : List Loc) (ls1 : Array Slot) (pc : Nat), cMW s A v a b1 K0 res.2.1 res.2.2 H1 locs1 → decode cX3_operand pc = .ok (.return_, 1) → W p l e R s m args below meth c H1 locs1 (xn res.2.1 - xn K0) (2 * (xn res.2.1 - xn K0)) Q (F0 m pc ls1 [])) (F : PF) (G : PG) (hm : cb_X3_operand_81 fu rc F G = some res) {b : Nat} {H : Heap} {locs : List Loc} (hw : cMW s A v a b K0 F G H locs) {ls : Array Slot} (hl : lv_has ls 1 [(0, .ref (a 203))]) : W p l e R s m args below meth c H locs (xn F - xn K0) (2 * (xn F - xn K0)) Q (F0 m 81 ls []) := by
  have hx := C.1
  have hb := C.2.1
  unfold cb_X3_operand_81 at hm
  refine lv_aload_n hx hb dX3_operand_81 rfl (lv_at hl 0 rfl) ?_
  refine cg_X3_19 C hw dX3_operand_82 ?_
  refine cg_X3_134 C hw dX3_operand_85 ?_
  refine lv_if_eq (tgt := 107) hx hb dX3_operand_88 (by decide) (fun c_1 => ?_) (fun c_1 => ?_)
  · have hm := (if_pos c_1).symm.trans hm
    exact cw_X3_operand_107 fu rc hr hrn C hret F G hm hw (lv_sub hl [0] rfl)
  · have hm := (if_neg c_1).symm.trans hm
    exact cw_X3_operand_91 fu rc hr hrn C hret F G hm hw (lv_sub hl [0] rfl)
theorem cn_X3_operand_172 (fu : Nat) (rc : RC) (hrn : ∀ (i : Nat) (x y : Int32) (F : PF) (G : PG) (q : Int32 × PF × PG), rc i x y F G = some q → xn F ≤ xn q.2.1) {res : Int32 × PF × PG} (F : PF) (G : PG) (hm : cb_X3_operand_172 fu rc F G = some res) : xn F ≤ xn res.2.1 := by
  unfold cb_X3_operand_172 at hm
  exact (cn_X3_operand_183 fu rc hrn F G hm)
theorem cw_X3_operand_172 (fu : Nat) (rc : RC) {dd : Nat} (hr : cH1 l v a rc dd) (hrn : ∀ (i : Nat) (x y : Int32) (F : PF) (G : PG) (q : Int32 × PF × PG), rc i x y F G = some q → xn F ≤ xn q.2.1) {res : Int32 × PF × PG} (C : cMC p R s m args c A v RX3 cX3_operand 1 (dd + 1 + 2) (60 * (dd + 1) + 49) (xn res.2.1 - xn K0)) (hret : ∀ (b1 : Nat) (H1 : Heap) (locs1 : List Loc) (ls1 : Array Slot) (pc : Nat), cMW s A v a b1 K0 res.2.1 res.2.2 H1 locs1 → decode cX3_operand pc = .ok (.return_, 1) → W p l e R s m args below meth c H1 locs1 (xn res.2.1 - xn K0) (2 * (xn res.2.1 - xn K0)) Q (F0 m pc ls1 [])) (F : PF) (G : PG) (hm : cb_X3_operand_172 fu rc F G = some res) {b : Nat} {H : Heap} {locs : List Loc} (hw : cMW s A v a b K0 F G H locs) {ls : Array Slot} (hl : lv_has ls 1 []) : W p l e R s m args below meth c H locs (xn F - xn K0) (2 * (xn F - xn K0)) Q (F0 m 172 ls []) := by
  have hx := C.1
  have hb := C.2.1
  unfold cb_X3_operand_172 at hm
  refine lv_goto (tgt := 183) hx hb dX3_operand_172 (by decide) ?_
  exact cw_X3_operand_183 fu rc hr hrn C hret F G hm hw (lv_sub hl [] rfl)
theorem cn_X3_operand_163 (fu : Nat) (rc : RC) (hrn : ∀ (i : Nat) (x y : Int32) (F : PF) (G : PG) (q : Int32 × PF × PG), rc i x y F G = some q → xn F ≤ xn q.2.1) {res : Int32 × PF × PG} (F : PF) (G : PG) (hm : cb_X3_operand_163 fu rc F G = some res) : xn F ≤ xn res.2.1 := by
  unfold cb_X3_operand_163 at hm
  obtain ⟨⟨r1, F1, G1⟩, hc, hm⟩ := bind_elim hm
  exact Nat.le_trans (cn_X2_closesWith fu 20 F G _ hc) (cn_X3_operand_172 fu rc hrn F1 G1 hm)
theorem cw_X3_operand_163 (fu : Nat) (rc : RC) {dd : Nat} (hr : cH1 l v a rc dd) (hrn : ∀ (i : Nat) (x y : Int32) (F : PF) (G : PG) (q : Int32 × PF × PG), rc i x y F G = some q → xn F ≤ xn q.2.1) {res : Int32 × PF × PG} (C : cMC p R s m args c A v RX3 cX3_operand 1 (dd + 1 + 2) (60 * (dd + 1) + 49) (xn res.2.1 - xn K0)) (hret : ∀ (b1 : Nat) (H1 : Heap) (locs1 : List Loc) (ls1 : Array Slot) (pc : Nat), cMW s A v a b1 K0 res.2.1 res.2.2 H1 locs1 → decode cX3_operand pc = .ok (.return_, 1) → W p l e R s m args below meth c H1 locs1 (xn res.2.1 - xn K0) (2 * (xn res.2.1 - xn K0)) Q (F0 m pc ls1 [])) (F : PF) (G : PG) (hm : cb_X3_operand_163 fu rc F G = some res) {b : Nat} {H : Heap} {locs : List Loc} (hw : cMW s A v a b K0 F G H locs) {ls : Array Slot} (hl : lv_has ls 1 [(0, .ref (a 203))]) : W p l e R s m args below meth c H locs (xn F - xn K0) (2 * (xn F - xn K0)) Q (F0 m 163 ls []) := by
  have hx := C.1
  have hb := C.2.1
  unfold cb_X3_operand_163 at hm
  refine lv_aload_n hx hb dX3_operand_163 rfl (lv_at hl 0 rfl) ?_
  refine cg_X3_15 C hw dX3_operand_164 ?_
  refine lv_bipush (v := 20) hx hb dX3_operand_167 (by decide) ?_
  obtain ⟨⟨r1, F1, G1⟩, hc, hm⟩ := bind_elim hm
  refine ccallV (n := 1) (As := [.int 20]) (rest := []) C hw (ck_X2_closesWith l v a _ _ fu 20 F G r1 F1 G1 hc) (cn_X2_closesWith fu 20 F G _ hc) (Nat.sub_le_sub_right (cn_X3_operand_172 fu rc hrn F1 G1 hm) _) (crecv_X2 C hw) cm_458 cm_459 cm_460 cm_307 cm_461 (by decide +kernel) rfl (by omega) (by omega) hl.1 rfl (Nat.le_of_ble_eq_true rfl) dX3_operand_169 (fun b H locs hw => ?_)
  exact cw_X3_operand_172 fu rc hr hrn C hret F1 G1 hm hw (lv_sub hl [] rfl)
theorem cn_X3_operand_159 (fu : Nat) (rc : RC) (hrn : ∀ (i : Nat) (x y : Int32) (F : PF) (G : PG) (q : Int32 × PF × PG), rc i x y F G = some q → xn F ≤ xn q.2.1) {res : Int32 × PF × PG} (F : PF) (G : PG) (hm : cb_X3_operand_159 fu rc F G = some res) : xn F ≤ xn res.2.1 := by
  unfold cb_X3_operand_159 at hm
  obtain ⟨⟨r1, F1, G1⟩, hc, hm⟩ := bind_elim hm
  exact Nat.le_trans (hrn _ _ _ _ _ _ hc) (cn_X3_operand_163 fu rc hrn F1 G1 hm)
theorem cw_X3_operand_159 (fu : Nat) (rc : RC) {dd : Nat} (hr : cH1 l v a rc dd) (hrn : ∀ (i : Nat) (x y : Int32) (F : PF) (G : PG) (q : Int32 × PF × PG), rc i x y F G = some q → xn F ≤ xn q.2.1) {res : Int32 × PF × PG} (C : cMC p R s m args c A v RX3 cX3_operand 1 (dd + 1 + 2) (60 * (dd + 1) + 49) (xn res.2.1 - xn K0)) (hret : ∀ (b1 : Nat) (H1 : Heap) (locs1 : List Loc) (ls1 : Array Slot) (pc : Nat), cMW s A v a b1 K0 res.2.1 res.2.2 H1 locs1 → decode cX3_operand pc = .ok (.return_, 1) → W p l e R s m args below meth c H1 locs1 (xn res.2.1 - xn K0) (2 * (xn res.2.1 - xn K0)) Q (F0 m pc ls1 [])) (F : PF) (G : PG) (hm : cb_X3_operand_159 fu rc F G = some res) {b : Nat} {H : Heap} {locs : List Loc} (hw : cMW s A v a b K0 F G H locs) {ls : Array Slot} (hl : lv_has ls 1 [(0, .ref (a 203))]) : W p l e R s m args below meth c H locs (xn F - xn K0) (2 * (xn F - xn K0)) Q (F0 m 159 ls []) := by
  have hx := C.1
  have hb := C.2.1
  unfold cb_X3_operand_159 at hm
  refine lv_aload_n hx hb dX3_operand_159 rfl (lv_at hl 0 rfl) ?_
  obtain ⟨⟨r1, F1, G1⟩, hc, hm⟩ := bind_elim hm
  refine ccallV (n := 0) (As := []) (rest := []) C hw (hr.2.1 _ _ F G r1 F1 G1 hc) (hrn _ _ _ _ _ _ hc) (Nat.sub_le_sub_right (cn_X3_operand_163 fu rc hrn F1 G1 hm) _) (crecv_X3 C hw) cm_353 cm_354 cm_355 cm_301 cm_356 (by decide +kernel) rfl (by omega) (by omega) hl.1 rfl (Nat.le_of_ble_eq_true rfl) dX3_operand_160 (fun b H locs hw => ?_)
  exact cw_X3_operand_163 fu rc hr hrn C hret F1 G1 hm hw (lv_sub hl [0] rfl)
theorem cn_X3_operand_156 (fu : Nat) (rc : RC) (hrn : ∀ (i : Nat) (x y : Int32) (F : PF) (G : PG) (q : Int32 × PF × PG), rc i x y F G = some q → xn F ≤ xn q.2.1) {res : Int32 × PF × PG} (z0 : Int32) (F : PF) (G : PG) (hm : cb_X3_operand_156 fu rc z0 F G = some res) : xn F ≤ xn res.2.1 := by
  unfold cb_X3_operand_156 at hm
  by_cases c_1 : z0 = (0 : Int32)
  · have hm := (if_pos c_1).symm.trans hm
    exact (cn_X3_operand_183 fu rc hrn F G hm)
  · have hm := (if_neg c_1).symm.trans hm
    exact (cn_X3_operand_159 fu rc hrn F G hm)
theorem cw_X3_operand_156 (fu : Nat) (rc : RC) {dd : Nat} (hr : cH1 l v a rc dd) (hrn : ∀ (i : Nat) (x y : Int32) (F : PF) (G : PG) (q : Int32 × PF × PG), rc i x y F G = some q → xn F ≤ xn q.2.1) {res : Int32 × PF × PG} (C : cMC p R s m args c A v RX3 cX3_operand 1 (dd + 1 + 2) (60 * (dd + 1) + 49) (xn res.2.1 - xn K0)) (hret : ∀ (b1 : Nat) (H1 : Heap) (locs1 : List Loc) (ls1 : Array Slot) (pc : Nat), cMW s A v a b1 K0 res.2.1 res.2.2 H1 locs1 → decode cX3_operand pc = .ok (.return_, 1) → W p l e R s m args below meth c H1 locs1 (xn res.2.1 - xn K0) (2 * (xn res.2.1 - xn K0)) Q (F0 m pc ls1 [])) (z0 : Int32) (F : PF) (G : PG) (hm : cb_X3_operand_156 fu rc z0 F G = some res) {b : Nat} {H : Heap} {locs : List Loc} (hw : cMW s A v a b K0 F G H locs) {ls : Array Slot} (hl : lv_has ls 1 [(0, .ref (a 203))]) : W p l e R s m args below meth c H locs (xn F - xn K0) (2 * (xn F - xn K0)) Q (F0 m 156 ls [.int z0]) := by
  have hx := C.1
  have hb := C.2.1
  unfold cb_X3_operand_156 at hm
  refine lv_if_eq (tgt := 183) hx hb dX3_operand_156 (by decide) (fun c_1 => ?_) (fun c_1 => ?_)
  · have hm := (if_pos c_1).symm.trans hm
    exact cw_X3_operand_183 fu rc hr hrn C hret F G hm hw (lv_sub hl [] rfl)
  · have hm := (if_neg c_1).symm.trans hm
    exact cw_X3_operand_159 fu rc hr hrn C hret F G hm hw (lv_sub hl [0] rfl)
theorem cn_X3_operand_147 (fu : Nat) (rc : RC) (hrn : ∀ (i : Nat) (x y : Int32) (F : PF) (G : PG) (q : Int32 × PF × PG), rc i x y F G = some q → xn F ≤ xn q.2.1) {res : Int32 × PF × PG} (F : PF) (G : PG) (hm : cb_X3_operand_147 fu rc F G = some res) : xn F ≤ xn res.2.1 := by
  unfold cb_X3_operand_147 at hm
  obtain ⟨⟨r1, F1, G1⟩, hc, hm⟩ := bind_elim hm
  exact Nat.le_trans (cn_X2_opens fu 19 F G _ hc) (cn_X3_operand_156 fu rc hrn r1 F1 G1 hm)
theorem cw_X3_operand_147 (fu : Nat) (rc : RC) {dd : Nat} (hr : cH1 l v a rc dd) (hrn : ∀ (i : Nat) (x y : Int32) (F : PF) (G : PG) (q : Int32 × PF × PG), rc i x y F G = some q → xn F ≤ xn q.2.1) {res : Int32 × PF × PG} (C : cMC p R s m args c A v RX3 cX3_operand 1 (dd + 1 + 2) (60 * (dd + 1) + 49) (xn res.2.1 - xn K0)) (hret : ∀ (b1 : Nat) (H1 : Heap) (locs1 : List Loc) (ls1 : Array Slot) (pc : Nat), cMW s A v a b1 K0 res.2.1 res.2.2 H1 locs1 → decode cX3_operand pc = .ok (.return_, 1) → W p l e R s m args below meth c H1 locs1 (xn res.2.1 - xn K0) (2 * (xn res.2.1 - xn K0)) Q (F0 m pc ls1 [])) (F : PF) (G : PG) (hm : cb_X3_operand_147 fu rc F G = some res) {b : Nat} {H : Heap} {locs : List Loc} (hw : cMW s A v a b K0 F G H locs) {ls : Array Slot} (hl : lv_has ls 1 [(0, .ref (a 203))]) : W p l e R s m args below meth c H locs (xn F - xn K0) (2 * (xn F - xn K0)) Q (F0 m 147 ls []) := by
  have hx := C.1
  have hb := C.2.1
  unfold cb_X3_operand_147 at hm
  refine lv_aload_n hx hb dX3_operand_147 rfl (lv_at hl 0 rfl) ?_
  refine cg_X3_15 C hw dX3_operand_148 ?_
  refine lv_bipush (v := 19) hx hb dX3_operand_151 (by decide) ?_
  obtain ⟨⟨r1, F1, G1⟩, hc, hm⟩ := bind_elim hm
  refine ccallI (n := 1) (As := [.int 19]) (rest := []) C hw (ck_X2_opens l v a _ _ fu 19 F G r1 F1 G1 hc) (cn_X2_opens fu 19 F G _ hc) (Nat.sub_le_sub_right (cn_X3_operand_156 fu rc hrn r1 F1 G1 hm) _) (crecv_X2 C hw) cm_362 cm_363 cm_364 cm_307 cm_365 (by decide +kernel) rfl (by omega) (by omega) hl.1 rfl (Nat.le_of_ble_eq_true rfl) dX3_operand_153 (fun b H locs hw => ?_)
  exact cw_X3_operand_156 fu rc hr hrn C hret r1 F1 G1 hm hw (lv_sub hl [0] rfl)
theorem cn_X3_operand_175 (fu : Nat) (rc : RC) (hrn : ∀ (i : Nat) (x y : Int32) (F : PF) (G : PG) (q : Int32 × PF × PG), rc i x y F G = some q → xn F ≤ xn q.2.1) {res : Int32 × PF × PG} (F : PF) (G : PG) (hm : cb_X3_operand_175 fu rc F G = some res) : xn F ≤ xn res.2.1 := by
  unfold cb_X3_operand_175 at hm
  obtain ⟨⟨r1, F1, G1⟩, hc, hm⟩ := bind_elim hm
  exact Nat.le_trans (cn_X2_fail fu 2 F G _ hc) (cn_X3_operand_183 fu rc hrn F1 G1 hm)
theorem cw_X3_operand_175 (fu : Nat) (rc : RC) {dd : Nat} (hr : cH1 l v a rc dd) (hrn : ∀ (i : Nat) (x y : Int32) (F : PF) (G : PG) (q : Int32 × PF × PG), rc i x y F G = some q → xn F ≤ xn q.2.1) {res : Int32 × PF × PG} (C : cMC p R s m args c A v RX3 cX3_operand 1 (dd + 1 + 2) (60 * (dd + 1) + 49) (xn res.2.1 - xn K0)) (hret : ∀ (b1 : Nat) (H1 : Heap) (locs1 : List Loc) (ls1 : Array Slot) (pc : Nat), cMW s A v a b1 K0 res.2.1 res.2.2 H1 locs1 → decode cX3_operand pc = .ok (.return_, 1) → W p l e R s m args below meth c H1 locs1 (xn res.2.1 - xn K0) (2 * (xn res.2.1 - xn K0)) Q (F0 m pc ls1 [])) (F : PF) (G : PG) (hm : cb_X3_operand_175 fu rc F G = some res) {b : Nat} {H : Heap} {locs : List Loc} (hw : cMW s A v a b K0 F G H locs) {ls : Array Slot} (hl : lv_has ls 1 [(0, .ref (a 203))]) : W p l e R s m args below meth c H locs (xn F - xn K0) (2 * (xn F - xn K0)) Q (F0 m 175 ls []) := by
  have hx := C.1
  have hb := C.2.1
  unfold cb_X3_operand_175 at hm
  refine lv_aload_n hx hb dX3_operand_175 rfl (lv_at hl 0 rfl) ?_
  refine cg_X3_15 C hw dX3_operand_176 ?_
  refine lv_iconst (v := 2) hx hb dX3_operand_179 (by decide) ?_
  obtain ⟨⟨r1, F1, G1⟩, hc, hm⟩ := bind_elim hm
  refine ccallV (n := 1) (As := [.int 2]) (rest := []) C hw (ck_X2_fail l v a _ _ fu 2 F G r1 F1 G1 hc) (cn_X2_fail fu 2 F G _ hc) (Nat.sub_le_sub_right (cn_X3_operand_183 fu rc hrn F1 G1 hm) _) (crecv_X2 C hw) cm_516 cm_329 cm_330 cm_307 cm_331 (by decide +kernel) rfl (by omega) (by omega) hl.1 rfl (Nat.le_of_ble_eq_true rfl) dX3_operand_180 (fun b H locs hw => ?_)
  exact cw_X3_operand_183 fu rc hr hrn C hret F1 G1 hm hw (lv_sub hl [] rfl)
theorem cn_X3_operand_0 (fu : Nat) (rc : RC) (hrn : ∀ (i : Nat) (x y : Int32) (F : PF) (G : PG) (q : Int32 × PF × PG), rc i x y F G = some q → xn F ≤ xn q.2.1) {res : Int32 × PF × PG} (F : PF) (G : PG) (hm : cb_X3_operand_0 fu rc F G = some res) : xn F ≤ xn res.2.1 := by
  unfold cb_X3_operand_0 at hm
  by_cases c_1 : (F 11) = 2
  · have hm := (if_pos c_1).symm.trans hm
    exact (cn_X3_operand_74 fu rc hrn F G hm)
  have hm := (if_neg c_1).symm.trans hm
  clear c_1
  by_cases c_1 : (F 11) = 3
  · have hm := (if_pos c_1).symm.trans hm
    exact (cn_X3_operand_48 fu rc hrn F G hm)
  have hm := (if_neg c_1).symm.trans hm
  clear c_1
  by_cases c_1 : (F 11) = 17
  · have hm := (if_pos c_1).symm.trans hm
    exact (cn_X3_operand_81 fu rc hrn F G hm)
  have hm := (if_neg c_1).symm.trans hm
  clear c_1
  by_cases c_1 : (F 11) = 19
  · have hm := (if_pos c_1).symm.trans hm
    exact (cn_X3_operand_147 fu rc hrn F G hm)
  have hm := (if_neg c_1).symm.trans hm
  clear c_1
  exact (cn_X3_operand_175 fu rc hrn F G hm)
theorem cw_X3_operand_0 (fu : Nat) (rc : RC) {dd : Nat} (hr : cH1 l v a rc dd) (hrn : ∀ (i : Nat) (x y : Int32) (F : PF) (G : PG) (q : Int32 × PF × PG), rc i x y F G = some q → xn F ≤ xn q.2.1) {res : Int32 × PF × PG} (C : cMC p R s m args c A v RX3 cX3_operand 1 (dd + 1 + 2) (60 * (dd + 1) + 49) (xn res.2.1 - xn K0)) (hret : ∀ (b1 : Nat) (H1 : Heap) (locs1 : List Loc) (ls1 : Array Slot) (pc : Nat), cMW s A v a b1 K0 res.2.1 res.2.2 H1 locs1 → decode cX3_operand pc = .ok (.return_, 1) → W p l e R s m args below meth c H1 locs1 (xn res.2.1 - xn K0) (2 * (xn res.2.1 - xn K0)) Q (F0 m pc ls1 [])) (F : PF) (G : PG) (hm : cb_X3_operand_0 fu rc F G = some res) {b : Nat} {H : Heap} {locs : List Loc} (hw : cMW s A v a b K0 F G H locs) {ls : Array Slot} (hl : lv_has ls 1 [(0, .ref (a 203))]) : W p l e R s m args below meth c H locs (xn F - xn K0) (2 * (xn F - xn K0)) Q (F0 m 0 ls []) := by
  have hx := C.1
  have hb := C.2.1
  unfold cb_X3_operand_0 at hm
  refine lv_aload_n hx hb dX3_operand_0 rfl (lv_at hl 0 rfl) ?_
  refine cg_X3_15 C hw dX3_operand_1 ?_
  refine cg_X3_85 C hw dX3_operand_4 ?_
  by_cases c_1 : (F 11) = 2
  · have hm := (if_pos c_1).symm.trans hm
    refine my_top 2 c_1 ?_
    refine lv_lookup (off := 67) (tgt := 74) hx hb dX3_operand_7 (by decide) (by decide) (by decide) ?_
    exact cw_X3_operand_74 fu rc hr hrn C hret F G hm hw (lv_sub hl [0] rfl)
  have hm := (if_neg c_1).symm.trans hm
  have n_0 := c_1
  clear c_1
  by_cases c_1 : (F 11) = 3
  · have hm := (if_pos c_1).symm.trans hm
    refine my_top 3 c_1 ?_
    refine lv_lookup (off := 41) (tgt := 48) hx hb dX3_operand_7 (by decide) (by decide) (by decide) ?_
    exact cw_X3_operand_48 fu rc hr hrn C hret F G hm hw (lv_sub hl [0] rfl)
  have hm := (if_neg c_1).symm.trans hm
  have n_1 := c_1
  clear c_1
  by_cases c_1 : (F 11) = 17
  · have hm := (if_pos c_1).symm.trans hm
    refine my_top 17 c_1 ?_
    refine lv_lookup (off := 74) (tgt := 81) hx hb dX3_operand_7 (by decide) (by decide) (by decide) ?_
    exact cw_X3_operand_81 fu rc hr hrn C hret F G hm hw (lv_sub hl [0] rfl)
  have hm := (if_neg c_1).symm.trans hm
  have n_2 := c_1
  clear c_1
  by_cases c_1 : (F 11) = 19
  · have hm := (if_pos c_1).symm.trans hm
    refine my_top 19 c_1 ?_
    refine lv_lookup (off := 140) (tgt := 147) hx hb dX3_operand_7 (by decide) (by decide) (by decide) ?_
    exact cw_X3_operand_147 fu rc hr hrn C hret F G hm hw (lv_sub hl [0] rfl)
  have hm := (if_neg c_1).symm.trans hm
  have n_3 := c_1
  clear c_1
  refine lv_lookup (off := 168) (tgt := 175) hx hb dX3_operand_7 (by decide) ((lv_osw n_0 (by decide)).trans ((lv_osw n_1 (by decide)).trans ((lv_osw n_2 (by decide)).trans ((lv_osw n_3 (by decide)).trans (rfl))))) (by decide) ?_
  exact cw_X3_operand_175 fu rc hr hrn C hret F G hm hw (lv_sub hl [0] rfl)
theorem cm_X3_operand (fu : Nat) (rc : RC) (hrn : ∀ (i : Nat) (x y : Int32) (F : PF) (G : PG) (q : Int32 × PF × PG), rc i x y F G = some q → xn F ≤ xn q.2.1) (F : PF) (G : PG) (q : Int32 × PF × PG) (hm : ch_X3_operand fu rc F G = some q) : xn F ≤ xn q.2.1 := cn_X3_operand_0 fu rc hrn F G hm
theorem cq_X3_operand (l : Launch) (v : EV) (a : Nat → Nat) (b sz : Nat) (fu : Nat) (rc : RC) {dd : Nat} (hr : cH1 l v a rc dd) (hrn : ∀ (i : Nat) (x y : Int32) (F : PF) (G : PG) (q : Int32 × PF × PG), rc i x y F G = some q → xn F ≤ xn q.2.1) (F : PF) (G : PG) (r : Int32) (F1 : PF) (G1 : PG) (hm : ch_X3_operand fu rc F G = some (r, F1, G1)) : cMV l yX3_operand cX3_operand 1 (dd + 1 + 2) (60 * (dd + 1) + 49) v a b sz [.ref (a 203)] F G F1 G1 := cMV.of (by decide) (Nat.le_of_ble_eq_true rfl) (fun p e R s m args below meth c Q A H locs ls C hw hl hret => cw_X3_operand_0 fu rc hr hrn (res := (r, F1, G1)) C hret F G hm hw hl)
end MB
