section MB
variable {p : Program} {l : Launch} {e : Env} {R : Room} {s : State} {m : MethodId} {args : Array Value} {below : List Frame} {meth : Method} {c : Code} {H : Heap} {locs : List Loc} {Q : State → Prop} {A : Nat → Prop} {v : EV} {a : Nat → Nat} {b ce : Nat} {own : String} {cc : ByteArray} {nL fr lo : Nat} {K0 : PF}
def cb_X0_doWord_26 (fu : Nat) (F : PF) (G : PG) : PR := some (1, F, G)
def cb_X0_doWord_90 (fu : Nat) (x2 : Int32) (F : PF) (G : PG) : PR := some (x2, F, G)
def cb_X0_doWord_80 (fu : Nat) (x2 : Int32) (F : PF) (G : PG) : PR := cb_X0_doWord_90 fu x2 (fup F 3 ((F 3) + (1 : Int32))) G
def cb_X0_doWord_72 (fu : Nat) (x2 : Int32) (F : PF) (G : PG) : PR := cb_X0_doWord_80 fu x2 (fup F 2 (F 4)) G
def cb_X0_doWord_66 (fu : Nat) (x2 : Int32) (F : PF) (G : PG) : PR := if x2 = (7 : Int32) then cb_X0_doWord_72 fu x2 F G else cb_X0_doWord_90 fu x2 F G
def cb_X0_doWord_60 (fu : Nat) (x2 : Int32) (F : PF) (G : PG) : PR := if x2 = (6 : Int32) then cb_X0_doWord_72 fu x2 F G else cb_X0_doWord_66 fu x2 F G
def cb_X0_doWord_55 (fu : Nat) (z0 : Int32) (F : PF) (G : PG) : PR := if z0 = (0 : Int32) then cb_X0_doWord_72 fu z0 F G else cb_X0_doWord_60 fu z0 F G
def cb_X0_doWord_50 (fu : Nat) (x1 : Int32) (F : PF) (G : PG) : PR := (cf_X0_does fu x1 F G).bind (fun q => cb_X0_doWord_55 fu q.1 q.2.1 q.2.2)
def cb_X0_doWord_28 (fu : Nat) (F : PF) (G : PG) : PR := if ixb ((F 2) >>> ((2 : Int32) &&& 31)) 4096 = true then (cb_X0_doWord_50 fu (G 0 ((F 2) >>> ((2 : Int32) &&& 31)).toNatClampNeg) (fup F 4 ((F 2) + (4 : Int32))) G) else none
def cb_X0_doWord_16 (fu : Nat) (F : PF) (G : PG) : PR := if (F 2) < (16384 : Int32) then cb_X0_doWord_28 fu F G else cb_X0_doWord_26 fu F G
def cb_X0_doWord_9 (fu : Nat) (F : PF) (G : PG) : PR := if (F 2) < (0 : Int32) then cb_X0_doWord_26 fu F G else cb_X0_doWord_16 fu F G
def cb_X0_doWord_0 (fu : Nat) (F : PF) (G : PG) : PR := if ((F 2) &&& (3 : Int32)) = (0 : Int32) then cb_X0_doWord_9 fu F G else cb_X0_doWord_26 fu F G
def cf_X0_doWord (fu : Nat) (F : PF) (G : PG) : PR := cb_X0_doWord_0 fu F G
theorem cn_X0_doWord_26 (fu : Nat) {res : Int32 × PF × PG} (F : PF) (G : PG) (hm : cb_X0_doWord_26 fu F G = some res) : xn F ≤ xn res.2.1 := by
  unfold cb_X0_doWord_26 at hm
  obtain rfl := Option.some.inj hm
  exact Nat.le_refl _
theorem cw_X0_doWord_26 (fu : Nat) {res : Int32 × PF × PG} (C : cMC p R s m args c A v RX0 cX0_doWord 3 4 91 (xn res.2.1 - xn K0)) (hret : ∀ (b1 : Nat) (H1 : Heap) (locs1 : List Loc) (ls1 : Array Slot) (pc : Nat), cMW s A v a b1 K0 res.2.1 res.2.2 H1 locs1 → narrow .int (.int res.1) = .int res.1 → decode cX0_doWord pc = .ok (.ireturn, 1) → W p l e R s m args below meth c H1 locs1 (xn res.2.1 - xn K0) (2 * (xn res.2.1 - xn K0)) Q (F0 m pc ls1 [.int res.1])) (F : PF) (G : PG) (hm : cb_X0_doWord_26 fu F G = some res) {b : Nat} {H : Heap} {locs : List Loc} (hw : cMW s A v a b K0 F G H locs) {ls : Array Slot} (hl : lv_has ls 3 []) : W p l e R s m args below meth c H locs (xn F - xn K0) (2 * (xn F - xn K0)) Q (F0 m 26 ls []) := by
  have hx := C.1
  have hb := C.2.1
  unfold cb_X0_doWord_26 at hm
  refine lv_iconst (v := 1) hx hb dX0_doWord_26 (by decide) ?_
  obtain rfl := Option.some.inj hm
  exact hret _ _ _ _ _ hw rfl dX0_doWord_27
theorem cn_X0_doWord_90 (fu : Nat) {res : Int32 × PF × PG} (x2 : Int32) (F : PF) (G : PG) (hm : cb_X0_doWord_90 fu x2 F G = some res) : xn F ≤ xn res.2.1 := by
  unfold cb_X0_doWord_90 at hm
  obtain rfl := Option.some.inj hm
  exact Nat.le_refl _
theorem cw_X0_doWord_90 (fu : Nat) {res : Int32 × PF × PG} (C : cMC p R s m args c A v RX0 cX0_doWord 3 4 91 (xn res.2.1 - xn K0)) (hret : ∀ (b1 : Nat) (H1 : Heap) (locs1 : List Loc) (ls1 : Array Slot) (pc : Nat), cMW s A v a b1 K0 res.2.1 res.2.2 H1 locs1 → narrow .int (.int res.1) = .int res.1 → decode cX0_doWord pc = .ok (.ireturn, 1) → W p l e R s m args below meth c H1 locs1 (xn res.2.1 - xn K0) (2 * (xn res.2.1 - xn K0)) Q (F0 m pc ls1 [.int res.1])) (x2 : Int32) (F : PF) (G : PG) (hm : cb_X0_doWord_90 fu x2 F G = some res) {b : Nat} {H : Heap} {locs : List Loc} (hw : cMW s A v a b K0 F G H locs) {ls : Array Slot} (hl : lv_has ls 3 [(2, .int x2)]) : W p l e R s m args below meth c H locs (xn F - xn K0) (2 * (xn F - xn K0)) Q (F0 m 90 ls []) := by
  have hx := C.1
  have hb := C.2.1
  unfold cb_X0_doWord_90 at hm
  refine lv_iload_n hx hb dX0_doWord_90 rfl (lv_at hl 0 rfl) ?_
  obtain rfl := Option.some.inj hm
  exact hret _ _ _ _ _ hw rfl dX0_doWord_91
theorem cn_X0_doWord_80 (fu : Nat) {res : Int32 × PF × PG} (x2 : Int32) (F : PF) (G : PG) (hm : cb_X0_doWord_80 fu x2 F G = some res) : xn F ≤ xn res.2.1 := by
  unfold cb_X0_doWord_80 at hm
  exact Nat.le_trans (Nat.le_of_eq (xn_fup (by decide)).symm) (cn_X0_doWord_90 fu x2 (fup F 3 ((F 3) + (1 : Int32))) G hm)
theorem cw_X0_doWord_80 (fu : Nat) {res : Int32 × PF × PG} (C : cMC p R s m args c A v RX0 cX0_doWord 3 4 91 (xn res.2.1 - xn K0)) (hret : ∀ (b1 : Nat) (H1 : Heap) (locs1 : List Loc) (ls1 : Array Slot) (pc : Nat), cMW s A v a b1 K0 res.2.1 res.2.2 H1 locs1 → narrow .int (.int res.1) = .int res.1 → decode cX0_doWord pc = .ok (.ireturn, 1) → W p l e R s m args below meth c H1 locs1 (xn res.2.1 - xn K0) (2 * (xn res.2.1 - xn K0)) Q (F0 m pc ls1 [.int res.1])) (x2 : Int32) (F : PF) (G : PG) (hm : cb_X0_doWord_80 fu x2 F G = some res) {b : Nat} {H : Heap} {locs : List Loc} (hw : cMW s A v a b K0 F G H locs) {ls : Array Slot} (hl : lv_has ls 3 [(0, .ref (a 200)), (2, .int x2)]) : W p l e R s m args below meth c H locs (xn F - xn K0) (2 * (xn F - xn K0)) Q (F0 m 80 ls []) := by
  have hx := C.1
  have hb := C.2.1
  unfold cb_X0_doWord_80 at hm
  refine lv_aload_n hx hb dX0_doWord_80 rfl (lv_at hl 0 rfl) ?_
  refine lv_dup hx hb dX0_doWord_81 rfl ?_
  refine cg_X0_26 C hw dX0_doWord_82 ?_
  refine lv_iconst (v := 1) hx hb dX0_doWord_85 (by decide) ?_
  refine lv_iadd hx hb dX0_doWord_86 ?_
  refine cp_X0_26 C hw dX0_doWord_87 (fun H locs hw => ?_)
  exact cw_X0_doWord_90 fu C hret x2 (fup F 3 ((F 3) + (1 : Int32))) G hm hw (lv_sub hl [1] rfl)
theorem cn_X0_doWord_72 (fu : Nat) {res : Int32 × PF × PG} (x2 : Int32) (F : PF) (G : PG) (hm : cb_X0_doWord_72 fu x2 F G = some res) : xn F ≤ xn res.2.1 := by
  unfold cb_X0_doWord_72 at hm
  exact Nat.le_trans (Nat.le_of_eq (xn_fup (by decide)).symm) (cn_X0_doWord_80 fu x2 (fup F 2 (F 4)) G hm)
theorem cw_X0_doWord_72 (fu : Nat) {res : Int32 × PF × PG} (C : cMC p R s m args c A v RX0 cX0_doWord 3 4 91 (xn res.2.1 - xn K0)) (hret : ∀ (b1 : Nat) (H1 : Heap) (locs1 : List Loc) (ls1 : Array Slot) (pc : Nat), cMW s A v a b1 K0 res.2.1 res.2.2 H1 locs1 → narrow .int (.int res.1) = .int res.1 → decode cX0_doWord pc = .ok (.ireturn, 1) → W p l e R s m args below meth c H1 locs1 (xn res.2.1 - xn K0) (2 * (xn res.2.1 - xn K0)) Q (F0 m pc ls1 [.int res.1])) (x2 : Int32) (F : PF) (G : PG) (hm : cb_X0_doWord_72 fu x2 F G = some res) {b : Nat} {H : Heap} {locs : List Loc} (hw : cMW s A v a b K0 F G H locs) {ls : Array Slot} (hl : lv_has ls 3 [(0, .ref (a 200)), (2, .int x2)]) : W p l e R s m args below meth c H locs (xn F - xn K0) (2 * (xn F - xn K0)) Q (F0 m 72 ls []) := by
  have hx := C.1
  have hb := C.2.1
  unfold cb_X0_doWord_72 at hm
  refine lv_aload_n hx hb dX0_doWord_72 rfl (lv_at hl 0 rfl) ?_
  refine lv_aload_n hx hb dX0_doWord_73 rfl (lv_at hl 0 rfl) ?_
  refine cg_X0_33 C hw dX0_doWord_74 ?_
  refine cp_X0_18 C hw dX0_doWord_77 (fun H locs hw => ?_)
  exact cw_X0_doWord_80 fu C hret x2 (fup F 2 (F 4)) G hm hw (lv_sub hl [0, 1] rfl)
theorem cn_X0_doWord_66 (fu : Nat) {res : Int32 × PF × PG} (x2 : Int32) (F : PF) (G : PG) (hm : cb_X0_doWord_66 fu x2 F G = some res) : xn F ≤ xn res.2.1 := by
  unfold cb_X0_doWord_66 at hm
  by_cases c_1 : x2 = (7 : Int32)
  · have hm := (if_pos c_1).symm.trans hm
    exact (cn_X0_doWord_72 fu x2 F G hm)
  · have hm := (if_neg c_1).symm.trans hm
    exact (cn_X0_doWord_90 fu x2 F G hm)
theorem cw_X0_doWord_66 (fu : Nat) {res : Int32 × PF × PG} (C : cMC p R s m args c A v RX0 cX0_doWord 3 4 91 (xn res.2.1 - xn K0)) (hret : ∀ (b1 : Nat) (H1 : Heap) (locs1 : List Loc) (ls1 : Array Slot) (pc : Nat), cMW s A v a b1 K0 res.2.1 res.2.2 H1 locs1 → narrow .int (.int res.1) = .int res.1 → decode cX0_doWord pc = .ok (.ireturn, 1) → W p l e R s m args below meth c H1 locs1 (xn res.2.1 - xn K0) (2 * (xn res.2.1 - xn K0)) Q (F0 m pc ls1 [.int res.1])) (x2 : Int32) (F : PF) (G : PG) (hm : cb_X0_doWord_66 fu x2 F G = some res) {b : Nat} {H : Heap} {locs : List Loc} (hw : cMW s A v a b K0 F G H locs) {ls : Array Slot} (hl : lv_has ls 3 [(0, .ref (a 200)), (2, .int x2)]) : W p l e R s m args below meth c H locs (xn F - xn K0) (2 * (xn F - xn K0)) Q (F0 m 66 ls []) := by
  have hx := C.1
  have hb := C.2.1
  unfold cb_X0_doWord_66 at hm
  refine lv_iload_n hx hb dX0_doWord_66 rfl (lv_at hl 1 rfl) ?_
  refine lv_bipush (v := 7) hx hb dX0_doWord_67 (by decide) ?_
  refine lv_icmp_ne (tgt := 90) hx hb dX0_doWord_69 (by decide) (fun c_1 => ?_) (fun c_1 => ?_)
  · have hm := (if_neg c_1).symm.trans hm
    exact cw_X0_doWord_90 fu C hret x2 F G hm hw (lv_sub hl [1] rfl)
  · have hm := (if_pos c_1).symm.trans hm
    exact cw_X0_doWord_72 fu C hret x2 F G hm hw (lv_sub hl [0, 1] rfl)
theorem cn_X0_doWord_60 (fu : Nat) {res : Int32 × PF × PG} (x2 : Int32) (F : PF) (G : PG) (hm : cb_X0_doWord_60 fu x2 F G = some res) : xn F ≤ xn res.2.1 := by
  unfold cb_X0_doWord_60 at hm
  by_cases c_1 : x2 = (6 : Int32)
  · have hm := (if_pos c_1).symm.trans hm
    exact (cn_X0_doWord_72 fu x2 F G hm)
  · have hm := (if_neg c_1).symm.trans hm
    exact (cn_X0_doWord_66 fu x2 F G hm)
theorem cw_X0_doWord_60 (fu : Nat) {res : Int32 × PF × PG} (C : cMC p R s m args c A v RX0 cX0_doWord 3 4 91 (xn res.2.1 - xn K0)) (hret : ∀ (b1 : Nat) (H1 : Heap) (locs1 : List Loc) (ls1 : Array Slot) (pc : Nat), cMW s A v a b1 K0 res.2.1 res.2.2 H1 locs1 → narrow .int (.int res.1) = .int res.1 → decode cX0_doWord pc = .ok (.ireturn, 1) → W p l e R s m args below meth c H1 locs1 (xn res.2.1 - xn K0) (2 * (xn res.2.1 - xn K0)) Q (F0 m pc ls1 [.int res.1])) (x2 : Int32) (F : PF) (G : PG) (hm : cb_X0_doWord_60 fu x2 F G = some res) {b : Nat} {H : Heap} {locs : List Loc} (hw : cMW s A v a b K0 F G H locs) {ls : Array Slot} (hl : lv_has ls 3 [(0, .ref (a 200)), (2, .int x2)]) : W p l e R s m args below meth c H locs (xn F - xn K0) (2 * (xn F - xn K0)) Q (F0 m 60 ls []) := by
  have hx := C.1
  have hb := C.2.1
  unfold cb_X0_doWord_60 at hm
  refine lv_iload_n hx hb dX0_doWord_60 rfl (lv_at hl 1 rfl) ?_
  refine lv_bipush (v := 6) hx hb dX0_doWord_61 (by decide) ?_
  refine lv_icmp_eq (tgt := 72) hx hb dX0_doWord_63 (by decide) (fun c_1 => ?_) (fun c_1 => ?_)
  · have hm := (if_pos c_1).symm.trans hm
    exact cw_X0_doWord_72 fu C hret x2 F G hm hw (lv_sub hl [0, 1] rfl)
  · have hm := (if_neg c_1).symm.trans hm
    exact cw_X0_doWord_66 fu C hret x2 F G hm hw (lv_sub hl [0, 1] rfl)
theorem cn_X0_doWord_55 (fu : Nat) {res : Int32 × PF × PG} (z0 : Int32) (F : PF) (G : PG) (hm : cb_X0_doWord_55 fu z0 F G = some res) : xn F ≤ xn res.2.1 := by
  unfold cb_X0_doWord_55 at hm
  by_cases c_1 : z0 = (0 : Int32)
  · have hm := (if_pos c_1).symm.trans hm
    exact (cn_X0_doWord_72 fu z0 F G hm)
  · have hm := (if_neg c_1).symm.trans hm
    exact (cn_X0_doWord_60 fu z0 F G hm)
theorem cw_X0_doWord_55 (fu : Nat) {res : Int32 × PF × PG} (C : cMC p R s m args c A v RX0 cX0_doWord 3 4 91 (xn res.2.1 - xn K0)) (hret : ∀ (b1 : Nat) (H1 : Heap) (locs1 : List Loc) (ls1 : Array Slot) (pc : Nat), cMW s A v a b1 K0 res.2.1 res.2.2 H1 locs1 → narrow .int (.int res.1) = .int res.1 → decode cX0_doWord pc = .ok (.ireturn, 1) → W p l e R s m args below meth c H1 locs1 (xn res.2.1 - xn K0) (2 * (xn res.2.1 - xn K0)) Q (F0 m pc ls1 [.int res.1])) (z0 : Int32) (F : PF) (G : PG) (hm : cb_X0_doWord_55 fu z0 F G = some res) {b : Nat} {H : Heap} {locs : List Loc} (hw : cMW s A v a b K0 F G H locs) {ls : Array Slot} (hl : lv_has ls 3 [(0, .ref (a 200))]) : W p l e R s m args below meth c H locs (xn F - xn K0) (2 * (xn F - xn K0)) Q (F0 m 55 ls [.int z0]) := by
  have hx := C.1
  have hb := C.2.1
  unfold cb_X0_doWord_55 at hm
  refine lv_istore_n (lv' := [(2, .int z0), (0, .ref (a 200))]) hx hb dX0_doWord_55 rfl hl (by decide) rfl (fun ls hl => ?_)
  refine lv_iload_n hx hb dX0_doWord_56 rfl (lv_at hl 0 rfl) ?_
  refine lv_if_eq (tgt := 72) hx hb dX0_doWord_57 (by decide) (fun c_1 => ?_) (fun c_1 => ?_)
  · have hm := (if_pos c_1).symm.trans hm
    exact cw_X0_doWord_72 fu C hret z0 F G hm hw (lv_sub hl [1, 0] rfl)
  · have hm := (if_neg c_1).symm.trans hm
    exact cw_X0_doWord_60 fu C hret z0 F G hm hw (lv_sub hl [1, 0] rfl)
theorem cn_X0_doWord_50 (fu : Nat) {res : Int32 × PF × PG} (x1 : Int32) (F : PF) (G : PG) (hm : cb_X0_doWord_50 fu x1 F G = some res) : xn F ≤ xn res.2.1 := by
  unfold cb_X0_doWord_50 at hm
  obtain ⟨⟨r1, F1, G1⟩, hc, hm⟩ := bind_elim hm
  exact Nat.le_trans (cn_X0_does fu x1 F G _ hc) (cn_X0_doWord_55 fu r1 F1 G1 hm)
theorem cw_X0_doWord_50 (fu : Nat) {res : Int32 × PF × PG} (C : cMC p R s m args c A v RX0 cX0_doWord 3 4 91 (xn res.2.1 - xn K0)) (hret : ∀ (b1 : Nat) (H1 : Heap) (locs1 : List Loc) (ls1 : Array Slot) (pc : Nat), cMW s A v a b1 K0 res.2.1 res.2.2 H1 locs1 → narrow .int (.int res.1) = .int res.1 → decode cX0_doWord pc = .ok (.ireturn, 1) → W p l e R s m args below meth c H1 locs1 (xn res.2.1 - xn K0) (2 * (xn res.2.1 - xn K0)) Q (F0 m pc ls1 [.int res.1])) (x1 : Int32) (F : PF) (G : PG) (hm : cb_X0_doWord_50 fu x1 F G = some res) {b : Nat} {H : Heap} {locs : List Loc} (hw : cMW s A v a b K0 F G H locs) {ls : Array Slot} (hl : lv_has ls 3 [(0, .ref (a 200)), (1, .int x1)]) : W p l e R s m args below meth c H locs (xn F - xn K0) (2 * (xn F - xn K0)) Q (F0 m 50 ls []) := by
  have hx := C.1
  have hb := C.2.1
  unfold cb_X0_doWord_50 at hm
  refine lv_aload_n hx hb dX0_doWord_50 rfl (lv_at hl 0 rfl) ?_
  refine lv_iload_n hx hb dX0_doWord_51 rfl (lv_at hl 1 rfl) ?_
  obtain ⟨⟨r1, F1, G1⟩, hc, hm⟩ := bind_elim hm
  refine ccallI (n := 1) (As := [.int x1]) (rest := []) C hw (ck_X0_does l v a _ _ fu x1 F G r1 F1 G1 hc) (cn_X0_does fu x1 F G _ hc) (Nat.sub_le_sub_right (cn_X0_doWord_55 fu r1 F1 G1 hm) _) (crecv_X0 C hw) cm_963 cm_964 cm_965 cm_938 cm_966 (by decide +kernel) rfl (by omega) (by omega) hl.1 rfl (Nat.le_of_ble_eq_true rfl) dX0_doWord_52 (fun b H locs hw => ?_)
  exact cw_X0_doWord_55 fu C hret r1 F1 G1 hm hw (lv_sub hl [0] rfl)
theorem cn_X0_doWord_28 (fu : Nat) {res : Int32 × PF × PG} (F : PF) (G : PG) (hm : cb_X0_doWord_28 fu F G = some res) : xn F ≤ xn res.2.1 := by
  unfold cb_X0_doWord_28 at hm
  have hm := (ix_elim hm).2
  exact Nat.le_trans (Nat.le_of_eq (xn_fup (by decide)).symm) (cn_X0_doWord_50 fu (G 0 ((F 2) >>> ((2 : Int32) &&& 31)).toNatClampNeg) (fup F 4 ((F 2) + (4 : Int32))) G hm)
theorem cw_X0_doWord_28 (fu : Nat) {res : Int32 × PF × PG} (C : cMC p R s m args c A v RX0 cX0_doWord 3 4 91 (xn res.2.1 - xn K0)) (hret : ∀ (b1 : Nat) (H1 : Heap) (locs1 : List Loc) (ls1 : Array Slot) (pc : Nat), cMW s A v a b1 K0 res.2.1 res.2.2 H1 locs1 → narrow .int (.int res.1) = .int res.1 → decode cX0_doWord pc = .ok (.ireturn, 1) → W p l e R s m args below meth c H1 locs1 (xn res.2.1 - xn K0) (2 * (xn res.2.1 - xn K0)) Q (F0 m pc ls1 [.int res.1])) (F : PF) (G : PG) (hm : cb_X0_doWord_28 fu F G = some res) {b : Nat} {H : Heap} {locs : List Loc} (hw : cMW s A v a b K0 F G H locs) {ls : Array Slot} (hl : lv_has ls 3 [(0, .ref (a 200))]) : W p l e R s m args below meth c H locs (xn F - xn K0) (2 * (xn F - xn K0)) Q (F0 m 28 ls []) := by
  have hx := C.1
  have hb := C.2.1
  unfold cb_X0_doWord_28 at hm
  refine lv_aload_n hx hb dX0_doWord_28 rfl (lv_at hl 0 rfl) ?_
  refine cg_X0_11 C hw dX0_doWord_29 ?_
  refine lv_aload_n hx hb dX0_doWord_32 rfl (lv_at hl 0 rfl) ?_
  refine cg_X0_18 C hw dX0_doWord_33 ?_
  refine lv_iconst (v := 2) hx hb dX0_doWord_36 (by decide) ?_
  refine lv_ishr hx hb dX0_doWord_37 ?_
  obtain ⟨hi, hm⟩ := ix_elim hm
  refine cal_0 C hw hi dX0_doWord_38 ?_
  refine lv_istore_n (lv' := [(1, .int (G 0 ((F 2) >>> ((2 : Int32) &&& 31)).toNatClampNeg)), (0, .ref (a 200))]) hx hb dX0_doWord_39 rfl hl (by decide) rfl (fun ls hl => ?_)
  refine lv_aload_n hx hb dX0_doWord_40 rfl (lv_at hl 1 rfl) ?_
  refine lv_aload_n hx hb dX0_doWord_41 rfl (lv_at hl 1 rfl) ?_
  refine cg_X0_18 C hw dX0_doWord_42 ?_
  refine lv_iconst (v := 4) hx hb dX0_doWord_45 (by decide) ?_
  refine lv_iadd hx hb dX0_doWord_46 ?_
  refine cp_X0_33 C hw dX0_doWord_47 (fun H locs hw => ?_)
  exact cw_X0_doWord_50 fu C hret (G 0 ((F 2) >>> ((2 : Int32) &&& 31)).toNatClampNeg) (fup F 4 ((F 2) + (4 : Int32))) G hm hw (lv_sub hl [1, 0] rfl)
theorem cn_X0_doWord_16 (fu : Nat) {res : Int32 × PF × PG} (F : PF) (G : PG) (hm : cb_X0_doWord_16 fu F G = some res) : xn F ≤ xn res.2.1 := by
  unfold cb_X0_doWord_16 at hm
  by_cases c_1 : (F 2) < (16384 : Int32)
  · have hm := (if_pos c_1).symm.trans hm
    exact (cn_X0_doWord_28 fu F G hm)
  · have hm := (if_neg c_1).symm.trans hm
    exact (cn_X0_doWord_26 fu F G hm)
theorem cw_X0_doWord_16 (fu : Nat) {res : Int32 × PF × PG} (C : cMC p R s m args c A v RX0 cX0_doWord 3 4 91 (xn res.2.1 - xn K0)) (hret : ∀ (b1 : Nat) (H1 : Heap) (locs1 : List Loc) (ls1 : Array Slot) (pc : Nat), cMW s A v a b1 K0 res.2.1 res.2.2 H1 locs1 → narrow .int (.int res.1) = .int res.1 → decode cX0_doWord pc = .ok (.ireturn, 1) → W p l e R s m args below meth c H1 locs1 (xn res.2.1 - xn K0) (2 * (xn res.2.1 - xn K0)) Q (F0 m pc ls1 [.int res.1])) (F : PF) (G : PG) (hm : cb_X0_doWord_16 fu F G = some res) {b : Nat} {H : Heap} {locs : List Loc} (hw : cMW s A v a b K0 F G H locs) {ls : Array Slot} (hl : lv_has ls 3 [(0, .ref (a 200))]) : W p l e R s m args below meth c H locs (xn F - xn K0) (2 * (xn F - xn K0)) Q (F0 m 16 ls []) := by
  have hx := C.1
  have hb := C.2.1
  unfold cb_X0_doWord_16 at hm
  refine lv_aload_n hx hb dX0_doWord_16 rfl (lv_at hl 0 rfl) ?_
  refine cg_X0_18 C hw dX0_doWord_17 ?_
  refine lv_sipush (v := 16384) hx hb dX0_doWord_20 (by decide) ?_
  refine lv_icmp_lt (tgt := 28) hx hb dX0_doWord_23 (by decide) (fun c_1 => ?_) (fun c_1 => ?_)
  · have hm := (if_pos c_1).symm.trans hm
    exact cw_X0_doWord_28 fu C hret F G hm hw (lv_sub hl [0] rfl)
  · have hm := (if_neg c_1).symm.trans hm
    exact cw_X0_doWord_26 fu C hret F G hm hw (lv_sub hl [] rfl)
theorem cn_X0_doWord_9 (fu : Nat) {res : Int32 × PF × PG} (F : PF) (G : PG) (hm : cb_X0_doWord_9 fu F G = some res) : xn F ≤ xn res.2.1 := by
  unfold cb_X0_doWord_9 at hm
  by_cases c_1 : (F 2) < (0 : Int32)
  · have hm := (if_pos c_1).symm.trans hm
    exact (cn_X0_doWord_26 fu F G hm)
  · have hm := (if_neg c_1).symm.trans hm
    exact (cn_X0_doWord_16 fu F G hm)
theorem cw_X0_doWord_9 (fu : Nat) {res : Int32 × PF × PG} (C : cMC p R s m args c A v RX0 cX0_doWord 3 4 91 (xn res.2.1 - xn K0)) (hret : ∀ (b1 : Nat) (H1 : Heap) (locs1 : List Loc) (ls1 : Array Slot) (pc : Nat), cMW s A v a b1 K0 res.2.1 res.2.2 H1 locs1 → narrow .int (.int res.1) = .int res.1 → decode cX0_doWord pc = .ok (.ireturn, 1) → W p l e R s m args below meth c H1 locs1 (xn res.2.1 - xn K0) (2 * (xn res.2.1 - xn K0)) Q (F0 m pc ls1 [.int res.1])) (F : PF) (G : PG) (hm : cb_X0_doWord_9 fu F G = some res) {b : Nat} {H : Heap} {locs : List Loc} (hw : cMW s A v a b K0 F G H locs) {ls : Array Slot} (hl : lv_has ls 3 [(0, .ref (a 200))]) : W p l e R s m args below meth c H locs (xn F - xn K0) (2 * (xn F - xn K0)) Q (F0 m 9 ls []) := by
  have hx := C.1
  have hb := C.2.1
  unfold cb_X0_doWord_9 at hm
  refine lv_aload_n hx hb dX0_doWord_9 rfl (lv_at hl 0 rfl) ?_
  refine cg_X0_18 C hw dX0_doWord_10 ?_
  refine lv_if_lt (tgt := 26) hx hb dX0_doWord_13 (by decide) (fun c_1 => ?_) (fun c_1 => ?_)
  · have hm := (if_pos c_1).symm.trans hm
    exact cw_X0_doWord_26 fu C hret F G hm hw (lv_sub hl [] rfl)
  · have hm := (if_neg c_1).symm.trans hm
    exact cw_X0_doWord_16 fu C hret F G hm hw (lv_sub hl [0] rfl)
theorem cn_X0_doWord_0 (fu : Nat) {res : Int32 × PF × PG} (F : PF) (G : PG) (hm : cb_X0_doWord_0 fu F G = some res) : xn F ≤ xn res.2.1 := by
  unfold cb_X0_doWord_0 at hm
  by_cases c_1 : ((F 2) &&& (3 : Int32)) = (0 : Int32)
  · have hm := (if_pos c_1).symm.trans hm
    exact (cn_X0_doWord_9 fu F G hm)
  · have hm := (if_neg c_1).symm.trans hm
    exact (cn_X0_doWord_26 fu F G hm)
theorem cw_X0_doWord_0 (fu : Nat) {res : Int32 × PF × PG} (C : cMC p R s m args c A v RX0 cX0_doWord 3 4 91 (xn res.2.1 - xn K0)) (hret : ∀ (b1 : Nat) (H1 : Heap) (locs1 : List Loc) (ls1 : Array Slot) (pc : Nat), cMW s A v a b1 K0 res.2.1 res.2.2 H1 locs1 → narrow .int (.int res.1) = .int res.1 → decode cX0_doWord pc = .ok (.ireturn, 1) → W p l e R s m args below meth c H1 locs1 (xn res.2.1 - xn K0) (2 * (xn res.2.1 - xn K0)) Q (F0 m pc ls1 [.int res.1])) (F : PF) (G : PG) (hm : cb_X0_doWord_0 fu F G = some res) {b : Nat} {H : Heap} {locs : List Loc} (hw : cMW s A v a b K0 F G H locs) {ls : Array Slot} (hl : lv_has ls 3 [(0, .ref (a 200))]) : W p l e R s m args below meth c H locs (xn F - xn K0) (2 * (xn F - xn K0)) Q (F0 m 0 ls []) := by
  have hx := C.1
  have hb := C.2.1
  unfold cb_X0_doWord_0 at hm
  refine lv_aload_n hx hb dX0_doWord_0 rfl (lv_at hl 0 rfl) ?_
  refine cg_X0_18 C hw dX0_doWord_1 ?_
  refine lv_iconst (v := 3) hx hb dX0_doWord_4 (by decide) ?_
  refine lv_iand hx hb dX0_doWord_5 ?_
  refine lv_if_ne (tgt := 26) hx hb dX0_doWord_6 (by decide) (fun c_1 => ?_) (fun c_1 => ?_)
  · have hm := (if_neg c_1).symm.trans hm
    exact cw_X0_doWord_26 fu C hret F G hm hw (lv_sub hl [] rfl)
  · have hm := (if_pos c_1).symm.trans hm
    exact cw_X0_doWord_9 fu C hret F G hm hw (lv_sub hl [0] rfl)
theorem cn_X0_doWord (fu : Nat) (F : PF) (G : PG) (q : Int32 × PF × PG) (hm : cf_X0_doWord fu F G = some q) : xn F ≤ xn q.2.1 := cn_X0_doWord_0 fu F G hm
theorem ck_X0_doWord (l : Launch) (v : EV) (a : Nat → Nat) (b sz : Nat) (fu : Nat) (F : PF) (G : PG) (r : Int32) (F1 : PF) (G1 : PG) (hm : cf_X0_doWord fu F G = some (r, F1, G1)) : cMI l yX0_doWord cX0_doWord 3 (some .int) 4 91 v a b sz [.ref (a 200)] F G r F1 G1 := cMI.of (ty := .int) (by decide) rfl (Nat.le_of_ble_eq_true rfl) (fun p e R s m args below meth c Q A H locs ls C hw hl hret => cw_X0_doWord_0 fu (res := (r, F1, G1)) C hret F G hm hw hl)
def cb_X0_doWords_24 (fu : Nat) (x2 : Int32) (F : PF) (G : PG) : PR := some (x2, F, G)
def cb_X0_doWords_17 (fu : Nat) (ag_4 : Int32 → Int32 → Int32 → PF → PG → PR) (x1 : Int32) (x3 : Int32) (z0 : Int32) (F : PF) (G : PG) : PR := ag_4 x1 z0 (x3 + 1) F G
def cb_X0_doWords_13 (fu : Nat) (ag_4 : Int32 → Int32 → Int32 → PF → PG → PR) (x1 : Int32) (x3 : Int32) (F : PF) (G : PG) : PR := (cf_X0_doWord fu F G).bind (fun q => cb_X0_doWords_17 fu ag_4 x1 x3 q.1 q.2.1 q.2.2)
def cb_X0_doWords_9 (fu : Nat) (ag_4 : Int32 → Int32 → Int32 → PF → PG → PR) (x1 : Int32) (x2 : Int32) (x3 : Int32) (F : PF) (G : PG) : PR := if x2 = (0 : Int32) then cb_X0_doWords_13 fu ag_4 x1 x3 F G else cb_X0_doWords_24 fu x2 F G
def cb_X0_doWords_4 (fu : Nat) (ag_4 : Int32 → Int32 → Int32 → PF → PG → PR) (x1 : Int32) (x2 : Int32) (x3 : Int32) (F : PF) (G : PG) : PR := if x1 ≤ x3 then cb_X0_doWords_24 fu x2 F G else cb_X0_doWords_9 fu ag_4 x1 x2 x3 F G
def cl_X0_doWords_4 (fu : Nat) : Nat → Int32 → Int32 → Int32 → PF → PG → PR
  | 0 => fun _ _ _ _ _ => none
  | n + 1 => fun x1 x2 x3 F G => cb_X0_doWords_4 fu (cl_X0_doWords_4 fu n) x1 x2 x3 F G
def cb_X0_doWords_0 (fu : Nat) (x1 : Int32) (F : PF) (G : PG) : PR := cl_X0_doWords_4 fu fu x1 0 0 F G
def cf_X0_doWords (fu : Nat) (x1 : Int32) (F : PF) (G : PG) : PR := cb_X0_doWords_0 fu x1 F G
theorem cn_X0_doWords_24 (fu : Nat) {res : Int32 × PF × PG} (x2 : Int32) (F : PF) (G : PG) (hm : cb_X0_doWords_24 fu x2 F G = some res) : xn F ≤ xn res.2.1 := by
  unfold cb_X0_doWords_24 at hm
  obtain rfl := Option.some.inj hm
  exact Nat.le_refl _
theorem cw_X0_doWords_24 (fu : Nat) {res : Int32 × PF × PG} (C : cMC p R s m args c A v RX0 cX0_doWords 4 5 113 (xn res.2.1 - xn K0)) (hret : ∀ (b1 : Nat) (H1 : Heap) (locs1 : List Loc) (ls1 : Array Slot) (pc : Nat), cMW s A v a b1 K0 res.2.1 res.2.2 H1 locs1 → narrow .int (.int res.1) = .int res.1 → decode cX0_doWords pc = .ok (.ireturn, 1) → W p l e R s m args below meth c H1 locs1 (xn res.2.1 - xn K0) (2 * (xn res.2.1 - xn K0)) Q (F0 m pc ls1 [.int res.1])) (x2 : Int32) (F : PF) (G : PG) (hm : cb_X0_doWords_24 fu x2 F G = some res) {b : Nat} {H : Heap} {locs : List Loc} (hw : cMW s A v a b K0 F G H locs) {ls : Array Slot} (hl : lv_has ls 4 [(2, .int x2)]) : W p l e R s m args below meth c H locs (xn F - xn K0) (2 * (xn F - xn K0)) Q (F0 m 24 ls []) := by
  have hx := C.1
  have hb := C.2.1
  unfold cb_X0_doWords_24 at hm
  refine lv_iload_n hx hb dX0_doWords_24 rfl (lv_at hl 0 rfl) ?_
  obtain rfl := Option.some.inj hm
  exact hret _ _ _ _ _ hw rfl dX0_doWords_25
theorem cn_X0_doWords_17 (fu : Nat) {res : Int32 × PF × PG} (ag_4 : Int32 → Int32 → Int32 → PF → PG → PR) (hagn_4 : ∀ (x1 : Int32) (x2 : Int32) (x3 : Int32) (F : PF) (G : PG), ag_4 x1 x2 x3 F G = some res → xn F ≤ xn res.2.1) (x1 : Int32) (x3 : Int32) (z0 : Int32) (F : PF) (G : PG) (hm : cb_X0_doWords_17 fu ag_4 x1 x3 z0 F G = some res) : xn F ≤ xn res.2.1 := by
  unfold cb_X0_doWords_17 at hm
  exact (hagn_4 x1 z0 (x3 + 1) F G hm)
theorem cw_X0_doWords_17 (fu : Nat) {res : Int32 × PF × PG} (C : cMC p R s m args c A v RX0 cX0_doWords 4 5 113 (xn res.2.1 - xn K0)) (hret : ∀ (b1 : Nat) (H1 : Heap) (locs1 : List Loc) (ls1 : Array Slot) (pc : Nat), cMW s A v a b1 K0 res.2.1 res.2.2 H1 locs1 → narrow .int (.int res.1) = .int res.1 → decode cX0_doWords pc = .ok (.ireturn, 1) → W p l e R s m args below meth c H1 locs1 (xn res.2.1 - xn K0) (2 * (xn res.2.1 - xn K0)) Q (F0 m pc ls1 [.int res.1])) (ag_4 : Int32 → Int32 → Int32 → PF → PG → PR) (hag_4 : ∀ (x1 : Int32) (x2 : Int32) (x3 : Int32) (F : PF) (G : PG), ag_4 x1 x2 x3 F G = some res → ∀ (b : Nat) (H : Heap) (locs : List Loc) (ls : Array Slot), cMW s A v a b K0 F G H locs → lv_has ls 4 [(0, .ref (a 200)), (1, .int x1), (2, .int x2), (3, .int x3)] → W p l e R s m args below meth c H locs (xn F - xn K0) (2 * (xn F - xn K0)) Q (F0 m 4 ls [])) (hagn_4 : ∀ (x1 : Int32) (x2 : Int32) (x3 : Int32) (F : PF) (G : PG), ag_4 x1 x2 x3 F G = some res → xn F ≤ xn res.2.1) (x1 : Int32) (x3 : Int32) (z0 : Int32) (F : PF) (G : PG) (hm : cb_X0_doWords_17 fu ag_4 x1 x3 z0 F G = some res) {b : Nat} {H : Heap} {locs : List Loc} (hw : cMW s A v a b K0 F G H locs) {ls : Array Slot} (hl : lv_has ls 4 [(0, .ref (a 200)), (1, .int x1), (3, .int x3)]) : W p l e R s m args below meth c H locs (xn F - xn K0) (2 * (xn F - xn K0)) Q (F0 m 17 ls [.int z0]) := by
  have hx := C.1
  have hb := C.2.1
  unfold cb_X0_doWords_17 at hm
  refine lv_istore_n (lv' := [(2, .int z0), (0, .ref (a 200)), (1, .int x1), (3, .int x3)]) hx hb dX0_doWords_17 rfl hl (by decide) rfl (fun ls hl => ?_)
  refine lv_iinc (v := (x3 + 1)) (lv' := [(3, .int (x3 + 1)), (2, .int z0), (0, .ref (a 200)), (1, .int x1)]) hx hb dX0_doWords_18 hl (k := 3) rfl (by rfl) (by decide) rfl (fun ls hl => ?_)
  refine lv_goto (tgt := 4) hx hb dX0_doWords_21 (by decide) ?_
  exact hag_4 x1 z0 (x3 + 1) F G hm _ _ _ _ hw (lv_sub hl [2, 3, 1, 0] rfl)
theorem cn_X0_doWords_13 (fu : Nat) {res : Int32 × PF × PG} (ag_4 : Int32 → Int32 → Int32 → PF → PG → PR) (hagn_4 : ∀ (x1 : Int32) (x2 : Int32) (x3 : Int32) (F : PF) (G : PG), ag_4 x1 x2 x3 F G = some res → xn F ≤ xn res.2.1) (x1 : Int32) (x3 : Int32) (F : PF) (G : PG) (hm : cb_X0_doWords_13 fu ag_4 x1 x3 F G = some res) : xn F ≤ xn res.2.1 := by
  unfold cb_X0_doWords_13 at hm
  obtain ⟨⟨r1, F1, G1⟩, hc, hm⟩ := bind_elim hm
  exact Nat.le_trans (cn_X0_doWord fu F G _ hc) (cn_X0_doWords_17 fu ag_4 hagn_4 x1 x3 r1 F1 G1 hm)
theorem cw_X0_doWords_13 (fu : Nat) {res : Int32 × PF × PG} (C : cMC p R s m args c A v RX0 cX0_doWords 4 5 113 (xn res.2.1 - xn K0)) (hret : ∀ (b1 : Nat) (H1 : Heap) (locs1 : List Loc) (ls1 : Array Slot) (pc : Nat), cMW s A v a b1 K0 res.2.1 res.2.2 H1 locs1 → narrow .int (.int res.1) = .int res.1 → decode cX0_doWords pc = .ok (.ireturn, 1) → W p l e R s m args below meth c H1 locs1 (xn res.2.1 - xn K0) (2 * (xn res.2.1 - xn K0)) Q (F0 m pc ls1 [.int res.1])) (ag_4 : Int32 → Int32 → Int32 → PF → PG → PR) (hag_4 : ∀ (x1 : Int32) (x2 : Int32) (x3 : Int32) (F : PF) (G : PG), ag_4 x1 x2 x3 F G = some res → ∀ (b : Nat) (H : Heap) (locs : List Loc) (ls : Array Slot), cMW s A v a b K0 F G H locs → lv_has ls 4 [(0, .ref (a 200)), (1, .int x1), (2, .int x2), (3, .int x3)] → W p l e R s m args below meth c H locs (xn F - xn K0) (2 * (xn F - xn K0)) Q (F0 m 4 ls [])) (hagn_4 : ∀ (x1 : Int32) (x2 : Int32) (x3 : Int32) (F : PF) (G : PG), ag_4 x1 x2 x3 F G = some res → xn F ≤ xn res.2.1) (x1 : Int32) (x3 : Int32) (F : PF) (G : PG) (hm : cb_X0_doWords_13 fu ag_4 x1 x3 F G = some res) {b : Nat} {H : Heap} {locs : List Loc} (hw : cMW s A v a b K0 F G H locs) {ls : Array Slot} (hl : lv_has ls 4 [(0, .ref (a 200)), (1, .int x1), (3, .int x3)]) : W p l e R s m args below meth c H locs (xn F - xn K0) (2 * (xn F - xn K0)) Q (F0 m 13 ls []) := by
  have hx := C.1
  have hb := C.2.1
  unfold cb_X0_doWords_13 at hm
  refine lv_aload_n hx hb dX0_doWords_13 rfl (lv_at hl 0 rfl) ?_
  obtain ⟨⟨r1, F1, G1⟩, hc, hm⟩ := bind_elim hm
  refine ccallI (n := 0) (As := []) (rest := []) C hw (ck_X0_doWord l v a _ _ fu F G r1 F1 G1 hc) (cn_X0_doWord fu F G _ hc) (Nat.sub_le_sub_right (cn_X0_doWords_17 fu ag_4 hagn_4 x1 x3 r1 F1 G1 hm) _) (crecv_X0 C hw) cm_957 cm_958 cm_959 cm_938 cm_960 (by decide +kernel) rfl (by omega) (by omega) hl.1 rfl (Nat.le_of_ble_eq_true rfl) dX0_doWords_14 (fun b H locs hw => ?_)
  exact cw_X0_doWords_17 fu C hret ag_4 hag_4 hagn_4 x1 x3 r1 F1 G1 hm hw (lv_sub hl [0, 1, 2] rfl)
theorem cn_X0_doWords_9 (fu : Nat) {res : Int32 × PF × PG} (ag_4 : Int32 → Int32 → Int32 → PF → PG → PR) (hagn_4 : ∀ (x1 : Int32) (x2 : Int32) (x3 : Int32) (F : PF) (G : PG), ag_4 x1 x2 x3 F G = some res → xn F ≤ xn res.2.1) (x1 : Int32) (x2 : Int32) (x3 : Int32) (F : PF) (G : PG) (hm : cb_X0_doWords_9 fu ag_4 x1 x2 x3 F G = some res) : xn F ≤ xn res.2.1 := by
  unfold cb_X0_doWords_9 at hm
  by_cases c_1 : x2 = (0 : Int32)
  · have hm := (if_pos c_1).symm.trans hm
    exact (cn_X0_doWords_13 fu ag_4 hagn_4 x1 x3 F G hm)
  · have hm := (if_neg c_1).symm.trans hm
    exact (cn_X0_doWords_24 fu x2 F G hm)
theorem cw_X0_doWords_9 (fu : Nat) {res : Int32 × PF × PG} (C : cMC p R s m args c A v RX0 cX0_doWords 4 5 113 (xn res.2.1 - xn K0)) (hret : ∀ (b1 : Nat) (H1 : Heap) (locs1 : List Loc) (ls1 : Array Slot) (pc : Nat), cMW s A v a b1 K0 res.2.1 res.2.2 H1 locs1 → narrow .int (.int res.1) = .int res.1 → decode cX0_doWords pc = .ok (.ireturn, 1) → W p l e R s m args below meth c H1 locs1 (xn res.2.1 - xn K0) (2 * (xn res.2.1 - xn K0)) Q (F0 m pc ls1 [.int res.1])) (ag_4 : Int32 → Int32 → Int32 → PF → PG → PR) (hag_4 : ∀ (x1 : Int32) (x2 : Int32) (x3 : Int32) (F : PF) (G : PG), ag_4 x1 x2 x3 F G = some res → ∀ (b : Nat) (H : Heap) (locs : List Loc) (ls : Array Slot), cMW s A v a b K0 F G H locs → lv_has ls 4 [(0, .ref (a 200)), (1, .int x1), (2, .int x2), (3, .int x3)] → W p l e R s m args below meth c H locs (xn F - xn K0) (2 * (xn F - xn K0)) Q (F0 m 4 ls [])) (hagn_4 : ∀ (x1 : Int32) (x2 : Int32) (x3 : Int32) (F : PF) (G : PG), ag_4 x1 x2 x3 F G = some res → xn F ≤ xn res.2.1) (x1 : Int32) (x2 : Int32) (x3 : Int32) (F : PF) (G : PG) (hm : cb_X0_doWords_9 fu ag_4 x1 x2 x3 F G = some res) {b : Nat} {H : Heap} {locs : List Loc} (hw : cMW s A v a b K0 F G H locs) {ls : Array Slot} (hl : lv_has ls 4 [(0, .ref (a 200)), (1, .int x1), (2, .int x2), (3, .int x3)]) : W p l e R s m args below meth c H locs (xn F - xn K0) (2 * (xn F - xn K0)) Q (F0 m 9 ls []) := by
  have hx := C.1
  have hb := C.2.1
  unfold cb_X0_doWords_9 at hm
  refine lv_iload_n hx hb dX0_doWords_9 rfl (lv_at hl 2 rfl) ?_
  refine lv_if_ne (tgt := 24) hx hb dX0_doWords_10 (by decide) (fun c_1 => ?_) (fun c_1 => ?_)
  · have hm := (if_neg c_1).symm.trans hm
    exact cw_X0_doWords_24 fu C hret x2 F G hm hw (lv_sub hl [2] rfl)
  · have hm := (if_pos c_1).symm.trans hm
    exact cw_X0_doWords_13 fu C hret ag_4 hag_4 hagn_4 x1 x3 F G hm hw (lv_sub hl [0, 1, 3] rfl)
theorem cn_X0_doWords_4 (fu : Nat) {res : Int32 × PF × PG} (ag_4 : Int32 → Int32 → Int32 → PF → PG → PR) (hagn_4 : ∀ (x1 : Int32) (x2 : Int32) (x3 : Int32) (F : PF) (G : PG), ag_4 x1 x2 x3 F G = some res → xn F ≤ xn res.2.1) (x1 : Int32) (x2 : Int32) (x3 : Int32) (F : PF) (G : PG) (hm : cb_X0_doWords_4 fu ag_4 x1 x2 x3 F G = some res) : xn F ≤ xn res.2.1 := by
  unfold cb_X0_doWords_4 at hm
  by_cases c_1 : x1 ≤ x3
  · have hm := (if_pos c_1).symm.trans hm
    exact (cn_X0_doWords_24 fu x2 F G hm)
  · have hm := (if_neg c_1).symm.trans hm
    exact (cn_X0_doWords_9 fu ag_4 hagn_4 x1 x2 x3 F G hm)
theorem cw_X0_doWords_4 (fu : Nat) {res : Int32 × PF × PG} (C : cMC p R s m args c A v RX0 cX0_doWords 4 5 113 (xn res.2.1 - xn K0)) (hret : ∀ (b1 : Nat) (H1 : Heap) (locs1 : List Loc) (ls1 : Array Slot) (pc : Nat), cMW s A v a b1 K0 res.2.1 res.2.2 H1 locs1 → narrow .int (.int res.1) = .int res.1 → decode cX0_doWords pc = .ok (.ireturn, 1) → W p l e R s m args below meth c H1 locs1 (xn res.2.1 - xn K0) (2 * (xn res.2.1 - xn K0)) Q (F0 m pc ls1 [.int res.1])) (ag_4 : Int32 → Int32 → Int32 → PF → PG → PR) (hag_4 : ∀ (x1 : Int32) (x2 : Int32) (x3 : Int32) (F : PF) (G : PG), ag_4 x1 x2 x3 F G = some res → ∀ (b : Nat) (H : Heap) (locs : List Loc) (ls : Array Slot), cMW s A v a b K0 F G H locs → lv_has ls 4 [(0, .ref (a 200)), (1, .int x1), (2, .int x2), (3, .int x3)] → W p l e R s m args below meth c H locs (xn F - xn K0) (2 * (xn F - xn K0)) Q (F0 m 4 ls [])) (hagn_4 : ∀ (x1 : Int32) (x2 : Int32) (x3 : Int32) (F : PF) (G : PG), ag_4 x1 x2 x3 F G = some res → xn F ≤ xn res.2.1) (x1 : Int32) (x2 : Int32) (x3 : Int32) (F : PF) (G : PG) (hm : cb_X0_doWords_4 fu ag_4 x1 x2 x3 F G = some res) {b : Nat} {H : Heap} {locs : List Loc} (hw : cMW s A v a b K0 F G H locs) {ls : Array Slot} (hl : lv_has ls 4 [(0, .ref (a 200)), (1, .int x1), (2, .int x2), (3, .int x3)]) : W p l e R s m args below meth c H locs (xn F - xn K0) (2 * (xn F - xn K0)) Q (F0 m 4 ls []) := by
  have hx := C.1
  have hb := C.2.1
  unfold cb_X0_doWords_4 at hm
  refine lv_iload_n hx hb dX0_doWords_4 rfl (lv_at hl 3 rfl) ?_
  refine lv_iload_n hx hb dX0_doWords_5 rfl (lv_at hl 1 rfl) ?_
  refine lv_icmp_ge (tgt := 24) hx hb dX0_doWords_6 (by decide) (fun c_1 => ?_) (fun c_1 => ?_)
  · have hm := (if_pos c_1).symm.trans hm
    exact cw_X0_doWords_24 fu C hret x2 F G hm hw (lv_sub hl [2] rfl)
  · have hm := (if_neg c_1).symm.trans hm
    exact cw_X0_doWords_9 fu C hret ag_4 hag_4 hagn_4 x1 x2 x3 F G hm hw (lv_sub hl [0, 1, 2, 3] rfl)
theorem cnl_X0_doWords_4 (fu : Nat) {res : Int32 × PF × PG} : ∀ (n : Nat) (x1 : Int32) (x2 : Int32) (x3 : Int32) (F : PF) (G : PG) (hm : cl_X0_doWords_4 fu n x1 x2 x3 F G = some res), xn F ≤ xn res.2.1 := by
  intro n
  induction n with
  | zero =>
    intro x1 x2 x3 F G hm
    exact no_elim (show (none : PR) = some res from hm)
  | succ n ih =>
    intro x1 x2 x3 F G hm
    exact cn_X0_doWords_4 fu (cl_X0_doWords_4 fu n) (fun x1 x2 x3 F G hm => ih x1 x2 x3 F G hm) x1 x2 x3 F G hm
theorem cwl_X0_doWords_4 (fu : Nat) {res : Int32 × PF × PG} (C : cMC p R s m args c A v RX0 cX0_doWords 4 5 113 (xn res.2.1 - xn K0)) (hret : ∀ (b1 : Nat) (H1 : Heap) (locs1 : List Loc) (ls1 : Array Slot) (pc : Nat), cMW s A v a b1 K0 res.2.1 res.2.2 H1 locs1 → narrow .int (.int res.1) = .int res.1 → decode cX0_doWords pc = .ok (.ireturn, 1) → W p l e R s m args below meth c H1 locs1 (xn res.2.1 - xn K0) (2 * (xn res.2.1 - xn K0)) Q (F0 m pc ls1 [.int res.1])) : ∀ (n : Nat) (x1 : Int32) (x2 : Int32) (x3 : Int32) (F : PF) (G : PG) (hm : cl_X0_doWords_4 fu n x1 x2 x3 F G = some res) {b : Nat} {H : Heap} {locs : List Loc} (hw : cMW s A v a b K0 F G H locs) {ls : Array Slot} (hl : lv_has ls 4 [(0, .ref (a 200)), (1, .int x1), (2, .int x2), (3, .int x3)]), W p l e R s m args below meth c H locs (xn F - xn K0) (2 * (xn F - xn K0)) Q (F0 m 4 ls []) := by
  intro n
  induction n with
  | zero =>
    intro x1 x2 x3 F G hm
    exact no_elim (show (none : PR) = some res from hm)
  | succ n ih =>
    intro x1 x2 x3 F G hm b H locs hw ls hl
    exact cw_X0_doWords_4 fu C hret (cl_X0_doWords_4 fu n) (fun x1 x2 x3 F G hm b H locs ls hw hl => ih x1 x2 x3 F G hm hw hl) (fun x1 x2 x3 F G hm => cnl_X0_doWords_4 fu n x1 x2 x3 F G hm) x1 x2 x3 F G hm hw hl
theorem cn_X0_doWords_0 (fu : Nat) {res : Int32 × PF × PG} (x1 : Int32) (F : PF) (G : PG) (hm : cb_X0_doWords_0 fu x1 F G = some res) : xn F ≤ xn res.2.1 := by
  unfold cb_X0_doWords_0 at hm
  exact (cnl_X0_doWords_4 fu fu x1 0 0 F G hm)
theorem cw_X0_doWords_0 (fu : Nat) {res : Int32 × PF × PG} (C : cMC p R s m args c A v RX0 cX0_doWords 4 5 113 (xn res.2.1 - xn K0)) (hret : ∀ (b1 : Nat) (H1 : Heap) (locs1 : List Loc) (ls1 : Array Slot) (pc : Nat), cMW s A v a b1 K0 res.2.1 res.2.2 H1 locs1 → narrow .int (.int res.1) = .int res.1 → decode cX0_doWords pc = .ok (.ireturn, 1) → W p l e R s m args below meth c H1 locs1 (xn res.2.1 - xn K0) (2 * (xn res.2.1 - xn K0)) Q (F0 m pc ls1 [.int res.1])) (x1 : Int32) (F : PF) (G : PG) (hm : cb_X0_doWords_0 fu x1 F G = some res) {b : Nat} {H : Heap} {locs : List Loc} (hw : cMW s A v a b K0 F G H locs) {ls : Array Slot} (hl : lv_has ls 4 [(0, .ref (a 200)), (1, .int x1)]) : W p l e R s m args below meth c H locs (xn F - xn K0) (2 * (xn F - xn K0)) Q (F0 m 0 ls []) := by
  have hx := C.1
  have hb := C.2.1
  unfold cb_X0_doWords_0 at hm
  refine lv_iconst (v := 0) hx hb dX0_doWords_0 (by decide) ?_
  refine lv_istore_n (lv' := [(2, .int 0), (0, .ref (a 200)), (1, .int x1)]) hx hb dX0_doWords_1 rfl hl (by decide) rfl (fun ls hl => ?_)
  refine lv_iconst (v := 0) hx hb dX0_doWords_2 (by decide) ?_
  refine lv_istore_n (lv' := [(3, .int 0), (2, .int 0), (0, .ref (a 200)), (1, .int x1)]) hx hb dX0_doWords_3 rfl hl (by decide) rfl (fun ls hl => ?_)
  exact cwl_X0_doWords_4 fu C hret fu x1 0 0 F G hm hw (lv_sub hl [2, 3, 1, 0] rfl)
theorem cn_X0_doWords (fu : Nat) (x1 : Int32) (F : PF) (G : PG) (q : Int32 × PF × PG) (hm : cf_X0_doWords fu x1 F G = some q) : xn F ≤ xn q.2.1 := cn_X0_doWords_0 fu x1 F G hm
theorem ck_X0_doWords (l : Launch) (v : EV) (a : Nat → Nat) (b sz : Nat) (fu : Nat) (x1 : Int32) (F : PF) (G : PG) (r : Int32) (F1 : PF) (G1 : PG) (hm : cf_X0_doWords fu x1 F G = some (r, F1, G1)) : cMI l yX0_doWords cX0_doWords 4 (some .int) 5 113 v a b sz [.ref (a 200), .int x1] F G r F1 G1 := cMI.of (ty := .int) (by decide) rfl (Nat.le_of_ble_eq_true rfl) (fun p e R s m args below meth c Q A H locs ls C hw hl hret => cw_X0_doWords_0 fu (res := (r, F1, G1)) C hret x1 F G hm hw hl)
def cb_X1_add_37 (fu : Nat) (F : PF) (G : PG) : PR := some (0, F, G)
def cb_X1_add_27 (fu : Nat) (F : PF) (G : PG) : PR := cb_X1_add_37 fu (fup F 6 ((F 6) + (1 : Int32))) G
def cb_X1_add_17 (fu : Nat) (x1 : Int32) (F : PF) (G : PG) : PR := if ixb (F 6) 8400 = true then (cb_X1_add_27 fu F (gup G 5 (F 6).toNatClampNeg x1)) else none
def cb_X1_add_7 (fu : Nat) (x1 : Int32) (F : PF) (G : PG) : PR := if (8400 : Int32) ≤ (F 6) then cb_X1_add_37 fu F G else cb_X1_add_17 fu x1 F G
def cb_X1_add_0 (fu : Nat) (x1 : Int32) (F : PF) (G : PG) : PR := if (F 7) = (0 : Int32) then cb_X1_add_37 fu F G else cb_X1_add_7 fu x1 F G
def cf_X1_add (fu : Nat) (x1 : Int32) (F : PF) (G : PG) : PR := cb_X1_add_0 fu x1 F G
theorem cn_X1_add_37 (fu : Nat) {res : Int32 × PF × PG} (F : PF) (G : PG) (hm : cb_X1_add_37 fu F G = some res) : xn F ≤ xn res.2.1 := by
  unfold cb_X1_add_37 at hm
  obtain rfl := Option.some.inj hm
  exact Nat.le_refl _
theorem cw_X1_add_37 (fu : Nat) {res : Int32 × PF × PG} (C : cMC p R s m args c A v RX1 cX1_add 2 0 0 (xn res.2.1 - xn K0)) (hret : ∀ (b1 : Nat) (H1 : Heap) (locs1 : List Loc) (ls1 : Array Slot) (pc : Nat), cMW s A v a b1 K0 res.2.1 res.2.2 H1 locs1 → decode cX1_add pc = .ok (.return_, 1) → W p l e R s m args below meth c H1 locs1 (xn res.2.1 - xn K0) (2 * (xn res.2.1 - xn K0)) Q (F0 m pc ls1 [])) (F : PF) (G : PG) (hm : cb_X1_add_37 fu F G = some res) {b : Nat} {H : Heap} {locs : List Loc} (hw : cMW s A v a b K0 F G H locs) {ls : Array Slot} (hl : lv_has ls 2 []) : W p l e R s m args below meth c H locs (xn F - xn K0) (2 * (xn F - xn K0)) Q (F0 m 37 ls []) := by
  have hx := C.1
  have hb := C.2.1
  unfold cb_X1_add_37 at hm
  obtain rfl := Option.some.inj hm
  exact hret _ _ _ _ _ hw dX1_add_37
theorem cn_X1_add_27 (fu : Nat) {res : Int32 × PF × PG} (F : PF) (G : PG) (hm : cb_X1_add_27 fu F G = some res) : xn F ≤ xn res.2.1 := by
  unfold cb_X1_add_27 at hm
  exact Nat.le_trans (Nat.le_of_eq (xn_fup (by decide)).symm) (cn_X1_add_37 fu (fup F 6 ((F 6) + (1 : Int32))) G hm)
theorem cw_X1_add_27 (fu : Nat) {res : Int32 × PF × PG} (C : cMC p R s m args c A v RX1 cX1_add 2 0 0 (xn res.2.1 - xn K0)) (hret : ∀ (b1 : Nat) (H1 : Heap) (locs1 : List Loc) (ls1 : Array Slot) (pc : Nat), cMW s A v a b1 K0 res.2.1 res.2.2 H1 locs1 → decode cX1_add pc = .ok (.return_, 1) → W p l e R s m args below meth c H1 locs1 (xn res.2.1 - xn K0) (2 * (xn res.2.1 - xn K0)) Q (F0 m pc ls1 [])) (F : PF) (G : PG) (hm : cb_X1_add_27 fu F G = some res) {b : Nat} {H : Heap} {locs : List Loc} (hw : cMW s A v a b K0 F G H locs) {ls : Array Slot} (hl : lv_has ls 2 [(0, .ref (a 201))]) : W p l e R s m args below meth c H locs (xn F - xn K0) (2 * (xn F - xn K0)) Q (F0 m 27 ls []) := by
  have hx := C.1
  have hb := C.2.1
  unfold cb_X1_add_27 at hm
  refine lv_aload_n hx hb dX1_add_27 rfl (lv_at hl 0 rfl) ?_
  refine lv_dup hx hb dX1_add_28 rfl ?_
  refine cg_X1_19 C hw dX1_add_29 ?_
  refine lv_iconst (v := 1) hx hb dX1_add_32 (by decide) ?_
  refine lv_iadd hx hb dX1_add_33 ?_
  refine cp_X1_19 C hw dX1_add_34 (fun H locs hw => ?_)
  exact cw_X1_add_37 fu C hret (fup F 6 ((F 6) + (1 : Int32))) G hm hw (lv_sub hl [] rfl)
theorem cn_X1_add_17 (fu : Nat) {res : Int32 × PF × PG} (x1 : Int32) (F : PF) (G : PG) (hm : cb_X1_add_17 fu x1 F G = some res) : xn F ≤ xn res.2.1 := by
  unfold cb_X1_add_17 at hm
  have hm := (ix_elim hm).2
  exact (cn_X1_add_27 fu F (gup G 5 (F 6).toNatClampNeg x1) hm)
theorem cw_X1_add_17 (fu : Nat) {res : Int32 × PF × PG} (C : cMC p R s m args c A v RX1 cX1_add 2 0 0 (xn res.2.1 - xn K0)) (hret : ∀ (b1 : Nat) (H1 : Heap) (locs1 : List Loc) (ls1 : Array Slot) (pc : Nat), cMW s A v a b1 K0 res.2.1 res.2.2 H1 locs1 → decode cX1_add pc = .ok (.return_, 1) → W p l e R s m args below meth c H1 locs1 (xn res.2.1 - xn K0) (2 * (xn res.2.1 - xn K0)) Q (F0 m pc ls1 [])) (x1 : Int32) (F : PF) (G : PG) (hm : cb_X1_add_17 fu x1 F G = some res) {b : Nat} {H : Heap} {locs : List Loc} (hw : cMW s A v a b K0 F G H locs) {ls : Array Slot} (hl : lv_has ls 2 [(0, .ref (a 201)), (1, .int x1)]) : W p l e R s m args below meth c H locs (xn F - xn K0) (2 * (xn F - xn K0)) Q (F0 m 17 ls []) := by
  have hx := C.1
  have hb := C.2.1
  unfold cb_X1_add_17 at hm
  refine lv_aload_n hx hb dX1_add_17 rfl (lv_at hl 0 rfl) ?_
  refine cg_X1_11 C hw dX1_add_18 ?_
  refine lv_aload_n hx hb dX1_add_21 rfl (lv_at hl 0 rfl) ?_
  refine cg_X1_19 C hw dX1_add_22 ?_
  refine lv_iload_n hx hb dX1_add_25 rfl (lv_at hl 1 rfl) ?_
  obtain ⟨hi, hm⟩ := ix_elim hm
  refine cas_5 C hw hi dX1_add_26 (fun H locs hw => ?_)
  exact cw_X1_add_27 fu C hret F (gup G 5 (F 6).toNatClampNeg x1) hm hw (lv_sub hl [0] rfl)
theorem cn_X1_add_7 (fu : Nat) {res : Int32 × PF × PG} (x1 : Int32) (F : PF) (G : PG) (hm : cb_X1_add_7 fu x1 F G = some res) : xn F ≤ xn res.2.1 := by
  unfold cb_X1_add_7 at hm
  by_cases c_1 : (8400 : Int32) ≤ (F 6)
  · have hm := (if_pos c_1).symm.trans hm
    exact (cn_X1_add_37 fu F G hm)
  · have hm := (if_neg c_1).symm.trans hm
    exact (cn_X1_add_17 fu x1 F G hm)
theorem cw_X1_add_7 (fu : Nat) {res : Int32 × PF × PG} (C : cMC p R s m args c A v RX1 cX1_add 2 0 0 (xn res.2.1 - xn K0)) (hret : ∀ (b1 : Nat) (H1 : Heap) (locs1 : List Loc) (ls1 : Array Slot) (pc : Nat), cMW s A v a b1 K0 res.2.1 res.2.2 H1 locs1 → decode cX1_add pc = .ok (.return_, 1) → W p l e R s m args below meth c H1 locs1 (xn res.2.1 - xn K0) (2 * (xn res.2.1 - xn K0)) Q (F0 m pc ls1 [])) (x1 : Int32) (F : PF) (G : PG) (hm : cb_X1_add_7 fu x1 F G = some res) {b : Nat} {H : Heap} {locs : List Loc} (hw : cMW s A v a b K0 F G H locs) {ls : Array Slot} (hl : lv_has ls 2 [(0, .ref (a 201)), (1, .int x1)]) : W p l e R s m args below meth c H locs (xn F - xn K0) (2 * (xn F - xn K0)) Q (F0 m 7 ls []) := by
  have hx := C.1
  have hb := C.2.1
  unfold cb_X1_add_7 at hm
  refine lv_aload_n hx hb dX1_add_7 rfl (lv_at hl 0 rfl) ?_
  refine cg_X1_19 C hw dX1_add_8 ?_
  refine lv_sipush (v := 8400) hx hb dX1_add_11 (by decide) ?_
  refine lv_icmp_ge (tgt := 37) hx hb dX1_add_14 (by decide) (fun c_1 => ?_) (fun c_1 => ?_)
  · have hm := (if_pos c_1).symm.trans hm
    exact cw_X1_add_37 fu C hret F G hm hw (lv_sub hl [] rfl)
  · have hm := (if_neg c_1).symm.trans hm
    exact cw_X1_add_17 fu C hret x1 F G hm hw (lv_sub hl [0, 1] rfl)
theorem cn_X1_add_0 (fu : Nat) {res : Int32 × PF × PG} (x1 : Int32) (F : PF) (G : PG) (hm : cb_X1_add_0 fu x1 F G = some res) : xn F ≤ xn res.2.1 := by
  unfold cb_X1_add_0 at hm
  by_cases c_1 : (F 7) = (0 : Int32)
  · have hm := (if_pos c_1).symm.trans hm
    exact (cn_X1_add_37 fu F G hm)
  · have hm := (if_neg c_1).symm.trans hm
    exact (cn_X1_add_7 fu x1 F G hm)
theorem cw_X1_add_0 (fu : Nat) {res : Int32 × PF × PG} (C : cMC p R s m args c A v RX1 cX1_add 2 0 0 (xn res.2.1 - xn K0)) (hret : ∀ (b1 : Nat) (H1 : Heap) (locs1 : List Loc) (ls1 : Array Slot) (pc : Nat), cMW s A v a b1 K0 res.2.1 res.2.2 H1 locs1 → decode cX1_add pc = .ok (.return_, 1) → W p l e R s m args below meth c H1 locs1 (xn res.2.1 - xn K0) (2 * (xn res.2.1 - xn K0)) Q (F0 m pc ls1 [])) (x1 : Int32) (F : PF) (G : PG) (hm : cb_X1_add_0 fu x1 F G = some res) {b : Nat} {H : Heap} {locs : List Loc} (hw : cMW s A v a b K0 F G H locs) {ls : Array Slot} (hl : lv_has ls 2 [(0, .ref (a 201)), (1, .int x1)]) : W p l e R s m args below meth c H locs (xn F - xn K0) (2 * (xn F - xn K0)) Q (F0 m 0 ls []) := by
  have hx := C.1
  have hb := C.2.1
  unfold cb_X1_add_0 at hm
  refine lv_aload_n hx hb dX1_add_0 rfl (lv_at hl 0 rfl) ?_
  refine cg_X1_15 C hw dX1_add_1 ?_
  refine lv_if_eq (tgt := 37) hx hb dX1_add_4 (by decide) (fun c_1 => ?_) (fun c_1 => ?_)
  · have hm := (if_pos c_1).symm.trans hm
    exact cw_X1_add_37 fu C hret F G hm hw (lv_sub hl [] rfl)
  · have hm := (if_neg c_1).symm.trans hm
    exact cw_X1_add_7 fu C hret x1 F G hm hw (lv_sub hl [0, 1] rfl)
theorem cn_X1_add (fu : Nat) (x1 : Int32) (F : PF) (G : PG) (q : Int32 × PF × PG) (hm : cf_X1_add fu x1 F G = some q) : xn F ≤ xn q.2.1 := cn_X1_add_0 fu x1 F G hm
theorem ck_X1_add (l : Launch) (v : EV) (a : Nat → Nat) (b sz : Nat) (fu : Nat) (x1 : Int32) (F : PF) (G : PG) (r : Int32) (F1 : PF) (G1 : PG) (hm : cf_X1_add fu x1 F G = some (r, F1, G1)) : cMV l yX1_add cX1_add 2 0 0 v a b sz [.ref (a 201), .int x1] F G F1 G1 := cMV.of (by decide) (Nat.le_of_ble_eq_true rfl) (fun p e R s m args below meth c Q A H locs ls C hw hl hret => cw_X1_add_0 fu (res := (r, F1, G1)) C hret x1 F G hm hw hl)
def cb_X1_addPair_49 (fu : Nat) (F : PF) (G : PG) : PR := some (0, F, G)
def cb_X1_addPair_39 (fu : Nat) (F : PF) (G : PG) : PR := cb_X1_addPair_49 fu (fup F 6 ((F 6) + (2 : Int32))) G
def cb_X1_addPair_27 (fu : Nat) (x2 : Int32) (F : PF) (G : PG) : PR := if ixb ((F 6) + (1 : Int32)) 8400 = true then (cb_X1_addPair_39 fu F (gup G 5 ((F 6) + (1 : Int32)).toNatClampNeg x2)) else none
def cb_X1_addPair_17 (fu : Nat) (x1 : Int32) (x2 : Int32) (F : PF) (G : PG) : PR := if ixb (F 6) 8400 = true then (cb_X1_addPair_27 fu x2 F (gup G 5 (F 6).toNatClampNeg x1)) else none
def cb_X1_addPair_7 (fu : Nat) (x1 : Int32) (x2 : Int32) (F : PF) (G : PG) : PR := if (8399 : Int32) ≤ (F 6) then cb_X1_addPair_49 fu F G else cb_X1_addPair_17 fu x1 x2 F G
def cb_X1_addPair_0 (fu : Nat) (x1 : Int32) (x2 : Int32) (F : PF) (G : PG) : PR := if (F 7) = (0 : Int32) then cb_X1_addPair_49 fu F G else cb_X1_addPair_7 fu x1 x2 F G
def cf_X1_addPair (fu : Nat) (x1 : Int32) (x2 : Int32) (F : PF) (G : PG) : PR := cb_X1_addPair_0 fu x1 x2 F G
theorem cn_X1_addPair_49 (fu : Nat) {res : Int32 × PF × PG} (F : PF) (G : PG) (hm : cb_X1_addPair_49 fu F G = some res) : xn F ≤ xn res.2.1 := by
  unfold cb_X1_addPair_49 at hm
  obtain rfl := Option.some.inj hm
  exact Nat.le_refl _
theorem cw_X1_addPair_49 (fu : Nat) {res : Int32 × PF × PG} (C : cMC p R s m args c A v RX1 cX1_addPair 3 0 0 (xn res.2.1 - xn K0)) (hret : ∀ (b1 : Nat) (H1 : Heap) (locs1 : List Loc) (ls1 : Array Slot) (pc : Nat), cMW s A v a b1 K0 res.2.1 res.2.2 H1 locs1 → decode cX1_addPair pc = .ok (.return_, 1) → W p l e R s m args below meth c H1 locs1 (xn res.2.1 - xn K0) (2 * (xn res.2.1 - xn K0)) Q (F0 m pc ls1 [])) (F : PF) (G : PG) (hm : cb_X1_addPair_49 fu F G = some res) {b : Nat} {H : Heap} {locs : List Loc} (hw : cMW s A v a b K0 F G H locs) {ls : Array Slot} (hl : lv_has ls 3 []) : W p l e R s m args below meth c H locs (xn F - xn K0) (2 * (xn F - xn K0)) Q (F0 m 49 ls []) := by
  have hx := C.1
  have hb := C.2.1
  unfold cb_X1_addPair_49 at hm
  obtain rfl := Option.some.inj hm
  exact hret _ _ _ _ _ hw dX1_addPair_49
theorem cn_X1_addPair_39 (fu : Nat) {res : Int32 × PF × PG} (F : PF) (G : PG) (hm : cb_X1_addPair_39 fu F G = some res) : xn F ≤ xn res.2.1 := by
  unfold cb_X1_addPair_39 at hm
  exact Nat.le_trans (Nat.le_of_eq (xn_fup (by decide)).symm) (cn_X1_addPair_49 fu (fup F 6 ((F 6) + (2 : Int32))) G hm)
theorem cw_X1_addPair_39 (fu : Nat) {res : Int32 × PF × PG} (C : cMC p R s m args c A v RX1 cX1_addPair 3 0 0 (xn res.2.1 - xn K0)) (hret : ∀ (b1 : Nat) (H1 : Heap) (locs1 : List Loc) (ls1 : Array Slot) (pc : Nat), cMW s A v a b1 K0 res.2.1 res.2.2 H1 locs1 → decode cX1_addPair pc = .ok (.return_, 1) → W p l e R s m args below meth c H1 locs1 (xn res.2.1 - xn K0) (2 * (xn res.2.1 - xn K0)) Q (F0 m pc ls1 [])) (F : PF) (G : PG) (hm : cb_X1_addPair_39 fu F G = some res) {b : Nat} {H : Heap} {locs : List Loc} (hw : cMW s A v a b K0 F G H locs) {ls : Array Slot} (hl : lv_has ls 3 [(0, .ref (a 201))]) : W p l e R s m args below meth c H locs (xn F - xn K0) (2 * (xn F - xn K0)) Q (F0 m 39 ls []) := by
  have hx := C.1
  have hb := C.2.1
  unfold cb_X1_addPair_39 at hm
  refine lv_aload_n hx hb dX1_addPair_39 rfl (lv_at hl 0 rfl) ?_
  refine lv_dup hx hb dX1_addPair_40 rfl ?_
  refine cg_X1_19 C hw dX1_addPair_41 ?_
  refine lv_iconst (v := 2) hx hb dX1_addPair_44 (by decide) ?_
  refine lv_iadd hx hb dX1_addPair_45 ?_
  refine cp_X1_19 C hw dX1_addPair_46 (fun H locs hw => ?_)
  exact cw_X1_addPair_49 fu C hret (fup F 6 ((F 6) + (2 : Int32))) G hm hw (lv_sub hl [] rfl)
theorem cn_X1_addPair_27 (fu : Nat) {res : Int32 × PF × PG} (x2 : Int32) (F : PF) (G : PG) (hm : cb_X1_addPair_27 fu x2 F G = some res) : xn F ≤ xn res.2.1 := by
  unfold cb_X1_addPair_27 at hm
  have hm := (ix_elim hm).2
  exact (cn_X1_addPair_39 fu F (gup G 5 ((F 6) + (1 : Int32)).toNatClampNeg x2) hm)
theorem cw_X1_addPair_27 (fu : Nat) {res : Int32 × PF × PG} (C : cMC p R s m args c A v RX1 cX1_addPair 3 0 0 (xn res.2.1 - xn K0)) (hret : ∀ (b1 : Nat) (H1 : Heap) (locs1 : List Loc) (ls1 : Array Slot) (pc : Nat), cMW s A v a b1 K0 res.2.1 res.2.2 H1 locs1 → decode cX1_addPair pc = .ok (.return_, 1) → W p l e R s m args below meth c H1 locs1 (xn res.2.1 - xn K0) (2 * (xn res.2.1 - xn K0)) Q (F0 m pc ls1 [])) (x2 : Int32) (F : PF) (G : PG) (hm : cb_X1_addPair_27 fu x2 F G = some res) {b : Nat} {H : Heap} {locs : List Loc} (hw : cMW s A v a b K0 F G H locs) {ls : Array Slot} (hl : lv_has ls 3 [(0, .ref (a 201)), (2, .int x2)]) : W p l e R s m args below meth c H locs (xn F - xn K0) (2 * (xn F - xn K0)) Q (F0 m 27 ls []) := by
  have hx := C.1
  have hb := C.2.1
  unfold cb_X1_addPair_27 at hm
  refine lv_aload_n hx hb dX1_addPair_27 rfl (lv_at hl 0 rfl) ?_
  refine cg_X1_11 C hw dX1_addPair_28 ?_
  refine lv_aload_n hx hb dX1_addPair_31 rfl (lv_at hl 0 rfl) ?_
  refine cg_X1_19 C hw dX1_addPair_32 ?_
  refine lv_iconst (v := 1) hx hb dX1_addPair_35 (by decide) ?_
  refine lv_iadd hx hb dX1_addPair_36 ?_
  refine lv_iload_n hx hb dX1_addPair_37 rfl (lv_at hl 1 rfl) ?_
  obtain ⟨hi, hm⟩ := ix_elim hm
  refine cas_5 C hw hi dX1_addPair_38 (fun H locs hw => ?_)
  exact cw_X1_addPair_39 fu C hret F (gup G 5 ((F 6) + (1 : Int32)).toNatClampNeg x2) hm hw (lv_sub hl [0] rfl)
theorem cn_X1_addPair_17 (fu : Nat) {res : Int32 × PF × PG} (x1 : Int32) (x2 : Int32) (F : PF) (G : PG) (hm : cb_X1_addPair_17 fu x1 x2 F G = some res) : xn F ≤ xn res.2.1 := by
  unfold cb_X1_addPair_17 at hm
  have hm := (ix_elim hm).2
  exact (cn_X1_addPair_27 fu x2 F (gup G 5 (F 6).toNatClampNeg x1) hm)
theorem cw_X1_addPair_17 (fu : Nat) {res : Int32 × PF × PG} (C : cMC p R s m args c A v RX1 cX1_addPair 3 0 0 (xn res.2.1 - xn K0)) (hret : ∀ (b1 : Nat) (H1 : Heap) (locs1 : List Loc) (ls1 : Array Slot) (pc : Nat), cMW s A v a b1 K0 res.2.1 res.2.2 H1 locs1 → decode cX1_addPair pc = .ok (.return_, 1) → W p l e R s m args below meth c H1 locs1 (xn res.2.1 - xn K0) (2 * (xn res.2.1 - xn K0)) Q (F0 m pc ls1 [])) (x1 : Int32) (x2 : Int32) (F : PF) (G : PG) (hm : cb_X1_addPair_17 fu x1 x2 F G = some res) {b : Nat} {H : Heap} {locs : List Loc} (hw : cMW s A v a b K0 F G H locs) {ls : Array Slot} (hl : lv_has ls 3 [(0, .ref (a 201)), (1, .int x1), (2, .int x2)]) : W p l e R s m args below meth c H locs (xn F - xn K0) (2 * (xn F - xn K0)) Q (F0 m 17 ls []) := by
  have hx := C.1
  have hb := C.2.1
  unfold cb_X1_addPair_17 at hm
  refine lv_aload_n hx hb dX1_addPair_17 rfl (lv_at hl 0 rfl) ?_
  refine cg_X1_11 C hw dX1_addPair_18 ?_
  refine lv_aload_n hx hb dX1_addPair_21 rfl (lv_at hl 0 rfl) ?_
  refine cg_X1_19 C hw dX1_addPair_22 ?_
  refine lv_iload_n hx hb dX1_addPair_25 rfl (lv_at hl 1 rfl) ?_
  obtain ⟨hi, hm⟩ := ix_elim hm
  refine cas_5 C hw hi dX1_addPair_26 (fun H locs hw => ?_)
  exact cw_X1_addPair_27 fu C hret x2 F (gup G 5 (F 6).toNatClampNeg x1) hm hw (lv_sub hl [0, 2] rfl)
theorem cn_X1_addPair_7 (fu : Nat) {res : Int32 × PF × PG} (x1 : Int32) (x2 : Int32) (F : PF) (G : PG) (hm : cb_X1_addPair_7 fu x1 x2 F G = some res) : xn F ≤ xn res.2.1 := by
  unfold cb_X1_addPair_7 at hm
  by_cases c_1 : (8399 : Int32) ≤ (F 6)
  · have hm := (if_pos c_1).symm.trans hm
    exact (cn_X1_addPair_49 fu F G hm)
  · have hm := (if_neg c_1).symm.trans hm
    exact (cn_X1_addPair_17 fu x1 x2 F G hm)
theorem cw_X1_addPair_7 (fu : Nat) {res : Int32 × PF × PG} (C : cMC p R s m args c A v RX1 cX1_addPair 3 0 0 (xn res.2.1 - xn K0)) (hret : ∀ (b1 : Nat) (H1 : Heap) (locs1 : List Loc) (ls1 : Array Slot) (pc : Nat), cMW s A v a b1 K0 res.2.1 res.2.2 H1 locs1 → decode cX1_addPair pc = .ok (.return_, 1) → W p l e R s m args below meth c H1 locs1 (xn res.2.1 - xn K0) (2 * (xn res.2.1 - xn K0)) Q (F0 m pc ls1 [])) (x1 : Int32) (x2 : Int32) (F : PF) (G : PG) (hm : cb_X1_addPair_7 fu x1 x2 F G = some res) {b : Nat} {H : Heap} {locs : List Loc} (hw : cMW s A v a b K0 F G H locs) {ls : Array Slot} (hl : lv_has ls 3 [(0, .ref (a 201)), (1, .int x1), (2, .int x2)]) : W p l e R s m args below meth c H locs (xn F - xn K0) (2 * (xn F - xn K0)) Q (F0 m 7 ls []) := by
  have hx := C.1
  have hb := C.2.1
  unfold cb_X1_addPair_7 at hm
  refine lv_aload_n hx hb dX1_addPair_7 rfl (lv_at hl 0 rfl) ?_
  refine cg_X1_19 C hw dX1_addPair_8 ?_
  refine lv_sipush (v := 8399) hx hb dX1_addPair_11 (by decide) ?_
  refine lv_icmp_ge (tgt := 49) hx hb dX1_addPair_14 (by decide) (fun c_1 => ?_) (fun c_1 => ?_)
  · have hm := (if_pos c_1).symm.trans hm
    exact cw_X1_addPair_49 fu C hret F G hm hw (lv_sub hl [] rfl)
  · have hm := (if_neg c_1).symm.trans hm
    exact cw_X1_addPair_17 fu C hret x1 x2 F G hm hw (lv_sub hl [0, 1, 2] rfl)
theorem cn_X1_addPair_0 (fu : Nat) {res : Int32 × PF × PG} (x1 : Int32) (x2 : Int32) (F : PF) (G : PG) (hm : cb_X1_addPair_0 fu x1 x2 F G = some res) : xn F ≤ xn res.2.1 := by
  unfold cb_X1_addPair_0 at hm
  by_cases c_1 : (F 7) = (0 : Int32)
  · have hm := (if_pos c_1).symm.trans hm
    exact (cn_X1_addPair_49 fu F G hm)
  · have hm := (if_neg c_1).symm.trans hm
    exact (cn_X1_addPair_7 fu x1 x2 F G hm)
theorem cw_X1_addPair_0 (fu : Nat) {res : Int32 × PF × PG} (C : cMC p R s m args c A v RX1 cX1_addPair 3 0 0 (xn res.2.1 - xn K0)) (hret : ∀ (b1 : Nat) (H1 : Heap) (locs1 : List Loc) (ls1 : Array Slot) (pc : Nat), cMW s A v a b1 K0 res.2.1 res.2.2 H1 locs1 → decode cX1_addPair pc = .ok (.return_, 1) → W p l e R s m args below meth c H1 locs1 (xn res.2.1 - xn K0) (2 * (xn res.2.1 - xn K0)) Q (F0 m pc ls1 [])) (x1 : Int32) (x2 : Int32) (F : PF) (G : PG) (hm : cb_X1_addPair_0 fu x1 x2 F G = some res) {b : Nat} {H : Heap} {locs : List Loc} (hw : cMW s A v a b K0 F G H locs) {ls : Array Slot} (hl : lv_has ls 3 [(0, .ref (a 201)), (1, .int x1), (2, .int x2)]) : W p l e R s m args below meth c H locs (xn F - xn K0) (2 * (xn F - xn K0)) Q (F0 m 0 ls []) := by
  have hx := C.1
  have hb := C.2.1
  unfold cb_X1_addPair_0 at hm
  refine lv_aload_n hx hb dX1_addPair_0 rfl (lv_at hl 0 rfl) ?_
  refine cg_X1_15 C hw dX1_addPair_1 ?_
  refine lv_if_eq (tgt := 49) hx hb dX1_addPair_4 (by decide) (fun c_1 => ?_) (fun c_1 => ?_)
  · have hm := (if_pos c_1).symm.trans hm
    exact cw_X1_addPair_49 fu C hret F G hm hw (lv_sub hl [] rfl)
  · have hm := (if_neg c_1).symm.trans hm
    exact cw_X1_addPair_7 fu C hret x1 x2 F G hm hw (lv_sub hl [0, 1, 2] rfl)
theorem cn_X1_addPair (fu : Nat) (x1 : Int32) (x2 : Int32) (F : PF) (G : PG) (q : Int32 × PF × PG) (hm : cf_X1_addPair fu x1 x2 F G = some q) : xn F ≤ xn q.2.1 := cn_X1_addPair_0 fu x1 x2 F G hm
theorem ck_X1_addPair (l : Launch) (v : EV) (a : Nat → Nat) (b sz : Nat) (fu : Nat) (x1 : Int32) (x2 : Int32) (F : PF) (G : PG) (r : Int32) (F1 : PF) (G1 : PG) (hm : cf_X1_addPair fu x1 x2 F G = some (r, F1, G1)) : cMV l yX1_addPair cX1_addPair 3 0 0 v a b sz [.ref (a 201), .int x1, .int x2] F G F1 G1 := cMV.of (by decide) (Nat.le_of_ble_eq_true rfl) (fun p e R s m args below meth c Q A H locs ls C hw hl hret => cw_X1_addPair_0 fu (res := (r, F1, G1)) C hret x1 x2 F G hm hw hl)
def cb_X1_addJump_17 (fu : Nat) (F : PF) (G : PG) : PR := some ((-1), F, G)
def cb_X1_addJump_51 (fu : Nat) (F : PF) (G : PG) : PR := some (((F 6) - (1 : Int32)), F, G)
def cb_X1_addJump_41 (fu : Nat) (F : PF) (G : PG) : PR := cb_X1_addJump_51 fu (fup F 6 ((F 6) + (2 : Int32))) G
def cb_X1_addJump_29 (fu : Nat) (x2 : Int32) (F : PF) (G : PG) : PR := if ixb ((F 6) + (1 : Int32)) 8400 = true then (cb_X1_addJump_41 fu F (gup G 5 ((F 6) + (1 : Int32)).toNatClampNeg x2)) else none
def cb_X1_addJump_19 (fu : Nat) (x1 : Int32) (x2 : Int32) (F : PF) (G : PG) : PR := if ixb (F 6) 8400 = true then (cb_X1_addJump_29 fu x2 F (gup G 5 (F 6).toNatClampNeg x1)) else none
def cb_X1_addJump_7 (fu : Nat) (x1 : Int32) (x2 : Int32) (F : PF) (G : PG) : PR := if (F 6) < (8399 : Int32) then cb_X1_addJump_19 fu x1 x2 F G else cb_X1_addJump_17 fu F G
def cb_X1_addJump_0 (fu : Nat) (x1 : Int32) (x2 : Int32) (F : PF) (G : PG) : PR := if (F 7) = (0 : Int32) then cb_X1_addJump_17 fu F G else cb_X1_addJump_7 fu x1 x2 F G
def cf_X1_addJump (fu : Nat) (x1 : Int32) (x2 : Int32) (F : PF) (G : PG) : PR := cb_X1_addJump_0 fu x1 x2 F G
theorem cn_X1_addJump_17 (fu : Nat) {res : Int32 × PF × PG} (F : PF) (G : PG) (hm : cb_X1_addJump_17 fu F G = some res) : xn F ≤ xn res.2.1 := by
  unfold cb_X1_addJump_17 at hm
  obtain rfl := Option.some.inj hm
  exact Nat.le_refl _
theorem cw_X1_addJump_17 (fu : Nat) {res : Int32 × PF × PG} (C : cMC p R s m args c A v RX1 cX1_addJump 3 0 0 (xn res.2.1 - xn K0)) (hret : ∀ (b1 : Nat) (H1 : Heap) (locs1 : List Loc) (ls1 : Array Slot) (pc : Nat), cMW s A v a b1 K0 res.2.1 res.2.2 H1 locs1 → narrow .int (.int res.1) = .int res.1 → decode cX1_addJump pc = .ok (.ireturn, 1) → W p l e R s m args below meth c H1 locs1 (xn res.2.1 - xn K0) (2 * (xn res.2.1 - xn K0)) Q (F0 m pc ls1 [.int res.1])) (F : PF) (G : PG) (hm : cb_X1_addJump_17 fu F G = some res) {b : Nat} {H : Heap} {locs : List Loc} (hw : cMW s A v a b K0 F G H locs) {ls : Array Slot} (hl : lv_has ls 3 []) : W p l e R s m args below meth c H locs (xn F - xn K0) (2 * (xn F - xn K0)) Q (F0 m 17 ls []) := by
  have hx := C.1
  have hb := C.2.1
  unfold cb_X1_addJump_17 at hm
  refine lv_iconst (v := (-1)) hx hb dX1_addJump_17 (by decide) ?_
  obtain rfl := Option.some.inj hm
  exact hret _ _ _ _ _ hw rfl dX1_addJump_18
theorem cn_X1_addJump_51 (fu : Nat) {res : Int32 × PF × PG} (F : PF) (G : PG) (hm : cb_X1_addJump_51 fu F G = some res) : xn F ≤ xn res.2.1 := by
  unfold cb_X1_addJump_51 at hm
  obtain rfl := Option.some.inj hm
  exact Nat.le_refl _
theorem cw_X1_addJump_51 (fu : Nat) {res : Int32 × PF × PG} (C : cMC p R s m args c A v RX1 cX1_addJump 3 0 0 (xn res.2.1 - xn K0)) (hret : ∀ (b1 : Nat) (H1 : Heap) (locs1 : List Loc) (ls1 : Array Slot) (pc : Nat), cMW s A v a b1 K0 res.2.1 res.2.2 H1 locs1 → narrow .int (.int res.1) = .int res.1 → decode cX1_addJump pc = .ok (.ireturn, 1) → W p l e R s m args below meth c H1 locs1 (xn res.2.1 - xn K0) (2 * (xn res.2.1 - xn K0)) Q (F0 m pc ls1 [.int res.1])) (F : PF) (G : PG) (hm : cb_X1_addJump_51 fu F G = some res) {b : Nat} {H : Heap} {locs : List Loc} (hw : cMW s A v a b K0 F G H locs) {ls : Array Slot} (hl : lv_has ls 3 [(0, .ref (a 201))]) : W p l e R s m args below meth c H locs (xn F - xn K0) (2 * (xn F - xn K0)) Q (F0 m 51 ls []) := by
  have hx := C.1
  have hb := C.2.1
  unfold cb_X1_addJump_51 at hm
  refine lv_aload_n hx hb dX1_addJump_51 rfl (lv_at hl 0 rfl) ?_
  refine cg_X1_19 C hw dX1_addJump_52 ?_
  refine lv_iconst (v := 1) hx hb dX1_addJump_55 (by decide) ?_
  refine lv_isub hx hb dX1_addJump_56 ?_
  obtain rfl := Option.some.inj hm
  exact hret _ _ _ _ _ hw rfl dX1_addJump_57
theorem cn_X1_addJump_41 (fu : Nat) {res : Int32 × PF × PG} (F : PF) (G : PG) (hm : cb_X1_addJump_41 fu F G = some res) : xn F ≤ xn res.2.1 := by
  unfold cb_X1_addJump_41 at hm
  exact Nat.le_trans (Nat.le_of_eq (xn_fup (by decide)).symm) (cn_X1_addJump_51 fu (fup F 6 ((F 6) + (2 : Int32))) G hm)
theorem cw_X1_addJump_41 (fu : Nat) {res : Int32 × PF × PG} (C : cMC p R s m args c A v RX1 cX1_addJump 3 0 0 (xn res.2.1 - xn K0)) (hret : ∀ (b1 : Nat) (H1 : Heap) (locs1 : List Loc) (ls1 : Array Slot) (pc : Nat), cMW s A v a b1 K0 res.2.1 res.2.2 H1 locs1 → narrow .int (.int res.1) = .int res.1 → decode cX1_addJump pc = .ok (.ireturn, 1) → W p l e R s m args below meth c H1 locs1 (xn res.2.1 - xn K0) (2 * (xn res.2.1 - xn K0)) Q (F0 m pc ls1 [.int res.1])) (F : PF) (G : PG) (hm : cb_X1_addJump_41 fu F G = some res) {b : Nat} {H : Heap} {locs : List Loc} (hw : cMW s A v a b K0 F G H locs) {ls : Array Slot} (hl : lv_has ls 3 [(0, .ref (a 201))]) : W p l e R s m args below meth c H locs (xn F - xn K0) (2 * (xn F - xn K0)) Q (F0 m 41 ls []) := by
  have hx := C.1
  have hb := C.2.1
  unfold cb_X1_addJump_41 at hm
  refine lv_aload_n hx hb dX1_addJump_41 rfl (lv_at hl 0 rfl) ?_
  refine lv_dup hx hb dX1_addJump_42 rfl ?_
  refine cg_X1_19 C hw dX1_addJump_43 ?_
  refine lv_iconst (v := 2) hx hb dX1_addJump_46 (by decide) ?_
  refine lv_iadd hx hb dX1_addJump_47 ?_
  refine cp_X1_19 C hw dX1_addJump_48 (fun H locs hw => ?_)
  exact cw_X1_addJump_51 fu C hret (fup F 6 ((F 6) + (2 : Int32))) G hm hw (lv_sub hl [0] rfl)
theorem cn_X1_addJump_29 (fu : Nat) {res : Int32 × PF × PG} (x2 : Int32) (F : PF) (G : PG) (hm : cb_X1_addJump_29 fu x2 F G = some res) : xn F ≤ xn res.2.1 := by
  unfold cb_X1_addJump_29 at hm
  have hm := (ix_elim hm).2
  exact (cn_X1_addJump_41 fu F (gup G 5 ((F 6) + (1 : Int32)).toNatClampNeg x2) hm)
theorem cw_X1_addJump_29 (fu : Nat) {res : Int32 × PF × PG} (C : cMC p R s m args c A v RX1 cX1_addJump 3 0 0 (xn res.2.1 - xn K0)) (hret : ∀ (b1 : Nat) (H1 : Heap) (locs1 : List Loc) (ls1 : Array Slot) (pc : Nat), cMW s A v a b1 K0 res.2.1 res.2.2 H1 locs1 → narrow .int (.int res.1) = .int res.1 → decode cX1_addJump pc = .ok (.ireturn, 1) → W p l e R s m args below meth c H1 locs1 (xn res.2.1 - xn K0) (2 * (xn res.2.1 - xn K0)) Q (F0 m pc ls1 [.int res.1])) (x2 : Int32) (F : PF) (G : PG) (hm : cb_X1_addJump_29 fu x2 F G = some res) {b : Nat} {H : Heap} {locs : List Loc} (hw : cMW s A v a b K0 F G H locs) {ls : Array Slot} (hl : lv_has ls 3 [(0, .ref (a 201)), (2, .int x2)]) : W p l e R s m args below meth c H locs (xn F - xn K0) (2 * (xn F - xn K0)) Q (F0 m 29 ls []) := by
  have hx := C.1
  have hb := C.2.1
  unfold cb_X1_addJump_29 at hm
  refine lv_aload_n hx hb dX1_addJump_29 rfl (lv_at hl 0 rfl) ?_
  refine cg_X1_11 C hw dX1_addJump_30 ?_
  refine lv_aload_n hx hb dX1_addJump_33 rfl (lv_at hl 0 rfl) ?_
  refine cg_X1_19 C hw dX1_addJump_34 ?_
  refine lv_iconst (v := 1) hx hb dX1_addJump_37 (by decide) ?_
  refine lv_iadd hx hb dX1_addJump_38 ?_
  refine lv_iload_n hx hb dX1_addJump_39 rfl (lv_at hl 1 rfl) ?_
  obtain ⟨hi, hm⟩ := ix_elim hm
  refine cas_5 C hw hi dX1_addJump_40 (fun H locs hw => ?_)
  exact cw_X1_addJump_41 fu C hret F (gup G 5 ((F 6) + (1 : Int32)).toNatClampNeg x2) hm hw (lv_sub hl [0] rfl)
theorem cn_X1_addJump_19 (fu : Nat) {res : Int32 × PF × PG} (x1 : Int32) (x2 : Int32) (F : PF) (G : PG) (hm : cb_X1_addJump_19 fu x1 x2 F G = some res) : xn F ≤ xn res.2.1 := by
  unfold cb_X1_addJump_19 at hm
  have hm := (ix_elim hm).2
  exact (cn_X1_addJump_29 fu x2 F (gup G 5 (F 6).toNatClampNeg x1) hm)
theorem cw_X1_addJump_19 (fu : Nat) {res : Int32 × PF × PG} (C : cMC p R s m args c A v RX1 cX1_addJump 3 0 0 (xn res.2.1 - xn K0)) (hret : ∀ (b1 : Nat) (H1 : Heap) (locs1 : List Loc) (ls1 : Array Slot) (pc : Nat), cMW s A v a b1 K0 res.2.1 res.2.2 H1 locs1 → narrow .int (.int res.1) = .int res.1 → decode cX1_addJump pc = .ok (.ireturn, 1) → W p l e R s m args below meth c H1 locs1 (xn res.2.1 - xn K0) (2 * (xn res.2.1 - xn K0)) Q (F0 m pc ls1 [.int res.1])) (x1 : Int32) (x2 : Int32) (F : PF) (G : PG) (hm : cb_X1_addJump_19 fu x1 x2 F G = some res) {b : Nat} {H : Heap} {locs : List Loc} (hw : cMW s A v a b K0 F G H locs) {ls : Array Slot} (hl : lv_has ls 3 [(0, .ref (a 201)), (1, .int x1), (2, .int x2)]) : W p l e R s m args below meth c H locs (xn F - xn K0) (2 * (xn F - xn K0)) Q (F0 m 19 ls []) := by
  have hx := C.1
  have hb := C.2.1
  unfold cb_X1_addJump_19 at hm
  refine lv_aload_n hx hb dX1_addJump_19 rfl (lv_at hl 0 rfl) ?_
  refine cg_X1_11 C hw dX1_addJump_20 ?_
  refine lv_aload_n hx hb dX1_addJump_23 rfl (lv_at hl 0 rfl) ?_
  refine cg_X1_19 C hw dX1_addJump_24 ?_
  refine lv_iload_n hx hb dX1_addJump_27 rfl (lv_at hl 1 rfl) ?_
  obtain ⟨hi, hm⟩ := ix_elim hm
  refine cas_5 C hw hi dX1_addJump_28 (fun H locs hw => ?_)
  exact cw_X1_addJump_29 fu C hret x2 F (gup G 5 (F 6).toNatClampNeg x1) hm hw (lv_sub hl [0, 2] rfl)
theorem cn_X1_addJump_7 (fu : Nat) {res : Int32 × PF × PG} (x1 : Int32) (x2 : Int32) (F : PF) (G : PG) (hm : cb_X1_addJump_7 fu x1 x2 F G = some res) : xn F ≤ xn res.2.1 := by
  unfold cb_X1_addJump_7 at hm
  by_cases c_1 : (F 6) < (8399 : Int32)
  · have hm := (if_pos c_1).symm.trans hm
    exact (cn_X1_addJump_19 fu x1 x2 F G hm)
  · have hm := (if_neg c_1).symm.trans hm
    exact (cn_X1_addJump_17 fu F G hm)
theorem cw_X1_addJump_7 (fu : Nat) {res : Int32 × PF × PG} (C : cMC p R s m args c A v RX1 cX1_addJump 3 0 0 (xn res.2.1 - xn K0)) (hret : ∀ (b1 : Nat) (H1 : Heap) (locs1 : List Loc) (ls1 : Array Slot) (pc : Nat), cMW s A v a b1 K0 res.2.1 res.2.2 H1 locs1 → narrow .int (.int res.1) = .int res.1 → decode cX1_addJump pc = .ok (.ireturn, 1) → W p l e R s m args below meth c H1 locs1 (xn res.2.1 - xn K0) (2 * (xn res.2.1 - xn K0)) Q (F0 m pc ls1 [.int res.1])) (x1 : Int32) (x2 : Int32) (F : PF) (G : PG) (hm : cb_X1_addJump_7 fu x1 x2 F G = some res) {b : Nat} {H : Heap} {locs : List Loc} (hw : cMW s A v a b K0 F G H locs) {ls : Array Slot} (hl : lv_has ls 3 [(0, .ref (a 201)), (1, .int x1), (2, .int x2)]) : W p l e R s m args below meth c H locs (xn F - xn K0) (2 * (xn F - xn K0)) Q (F0 m 7 ls []) := by
  have hx := C.1
  have hb := C.2.1
  unfold cb_X1_addJump_7 at hm
  refine lv_aload_n hx hb dX1_addJump_7 rfl (lv_at hl 0 rfl) ?_
  refine cg_X1_19 C hw dX1_addJump_8 ?_
  refine lv_sipush (v := 8399) hx hb dX1_addJump_11 (by decide) ?_
  refine lv_icmp_lt (tgt := 19) hx hb dX1_addJump_14 (by decide) (fun c_1 => ?_) (fun c_1 => ?_)
  · have hm := (if_pos c_1).symm.trans hm
    exact cw_X1_addJump_19 fu C hret x1 x2 F G hm hw (lv_sub hl [0, 1, 2] rfl)
  · have hm := (if_neg c_1).symm.trans hm
    exact cw_X1_addJump_17 fu C hret F G hm hw (lv_sub hl [] rfl)
theorem cn_X1_addJump_0 (fu : Nat) {res : Int32 × PF × PG} (x1 : Int32) (x2 : Int32) (F : PF) (G : PG) (hm : cb_X1_addJump_0 fu x1 x2 F G = some res) : xn F ≤ xn res.2.1 := by
  unfold cb_X1_addJump_0 at hm
  by_cases c_1 : (F 7) = (0 : Int32)
  · have hm := (if_pos c_1).symm.trans hm
    exact (cn_X1_addJump_17 fu F G hm)
  · have hm := (if_neg c_1).symm.trans hm
    exact (cn_X1_addJump_7 fu x1 x2 F G hm)
theorem cw_X1_addJump_0 (fu : Nat) {res : Int32 × PF × PG} (C : cMC p R s m args c A v RX1 cX1_addJump 3 0 0 (xn res.2.1 - xn K0)) (hret : ∀ (b1 : Nat) (H1 : Heap) (locs1 : List Loc) (ls1 : Array Slot) (pc : Nat), cMW s A v a b1 K0 res.2.1 res.2.2 H1 locs1 → narrow .int (.int res.1) = .int res.1 → decode cX1_addJump pc = .ok (.ireturn, 1) → W p l e R s m args below meth c H1 locs1 (xn res.2.1 - xn K0) (2 * (xn res.2.1 - xn K0)) Q (F0 m pc ls1 [.int res.1])) (x1 : Int32) (x2 : Int32) (F : PF) (G : PG) (hm : cb_X1_addJump_0 fu x1 x2 F G = some res) {b : Nat} {H : Heap} {locs : List Loc} (hw : cMW s A v a b K0 F G H locs) {ls : Array Slot} (hl : lv_has ls 3 [(0, .ref (a 201)), (1, .int x1), (2, .int x2)]) : W p l e R s m args below meth c H locs (xn F - xn K0) (2 * (xn F - xn K0)) Q (F0 m 0 ls []) := by
  have hx := C.1
  have hb := C.2.1
  unfold cb_X1_addJump_0 at hm
  refine lv_aload_n hx hb dX1_addJump_0 rfl (lv_at hl 0 rfl) ?_
  refine cg_X1_15 C hw dX1_addJump_1 ?_
  refine lv_if_eq (tgt := 17) hx hb dX1_addJump_4 (by decide) (fun c_1 => ?_) (fun c_1 => ?_)
  · have hm := (if_pos c_1).symm.trans hm
    exact cw_X1_addJump_17 fu C hret F G hm hw (lv_sub hl [] rfl)
  · have hm := (if_neg c_1).symm.trans hm
    exact cw_X1_addJump_7 fu C hret x1 x2 F G hm hw (lv_sub hl [0, 1, 2] rfl)
theorem cn_X1_addJump (fu : Nat) (x1 : Int32) (x2 : Int32) (F : PF) (G : PG) (q : Int32 × PF × PG) (hm : cf_X1_addJump fu x1 x2 F G = some q) : xn F ≤ xn q.2.1 := cn_X1_addJump_0 fu x1 x2 F G hm
theorem ck_X1_addJump (l : Launch) (v : EV) (a : Nat → Nat) (b sz : Nat) (fu : Nat) (x1 : Int32) (x2 : Int32) (F : PF) (G : PG) (r : Int32) (F1 : PF) (G1 : PG) (hm : cf_X1_addJump fu x1 x2 F G = some (r, F1, G1)) : cMI l yX1_addJump cX1_addJump 3 (some .int) 0 0 v a b sz [.ref (a 201), .int x1, .int x2] F G r F1 G1 := cMI.of (ty := .int) (by decide) rfl (Nat.le_of_ble_eq_true rfl) (fun p e R s m args below meth c Q A H locs ls C hw hl hret => cw_X1_addJump_0 fu (res := (r, F1, G1)) C hret x1 x2 F G hm hw hl)
def cb_X1_aim_49 (fu : Nat) (F : PF) (G : PG) : PR := some (0, F, G)
def cb_X1_aim_40 (fu : Nat) (ag_5 : Int32 → Int32 → Int32 → PF → PG → PR) (x2 : Int32) (x4 : Int32) (x5 : Int32) (F : PF) (G : PG) : PR := ag_5 x2 x5 (x4 + 1) F G
def cb_X1_aim_25 (fu : Nat) (ag_5 : Int32 → Int32 → Int32 → PF → PG → PR) (x2 : Int32) (x3 : Int32) (x4 : Int32) (F : PF) (G : PG) : PR := if ixb x3 8400 = true then (if ixb x3 8400 = true then (cb_X1_aim_40 fu ag_5 x2 x4 (G 5 x3.toNatClampNeg) F (gup G 5 x3.toNatClampNeg x2)) else none) else none
def cb_X1_aim_17 (fu : Nat) (ag_5 : Int32 → Int32 → Int32 → PF → PG → PR) (x2 : Int32) (x3 : Int32) (x4 : Int32) (F : PF) (G : PG) : PR := if (F 6) ≤ x3 then cb_X1_aim_49 fu F G else cb_X1_aim_25 fu ag_5 x2 x3 x4 F G
def cb_X1_aim_13 (fu : Nat) (ag_5 : Int32 → Int32 → Int32 → PF → PG → PR) (x2 : Int32) (x3 : Int32) (x4 : Int32) (F : PF) (G : PG) : PR := if x3 < (0 : Int32) then cb_X1_aim_49 fu F G else cb_X1_aim_17 fu ag_5 x2 x3 x4 F G
def cb_X1_aim_5 (fu : Nat) (ag_5 : Int32 → Int32 → Int32 → PF → PG → PR) (x2 : Int32) (x3 : Int32) (x4 : Int32) (F : PF) (G : PG) : PR := if (8400 : Int32) ≤ x4 then cb_X1_aim_49 fu F G else cb_X1_aim_13 fu ag_5 x2 x3 x4 F G
def cl_X1_aim_5 (fu : Nat) : Nat → Int32 → Int32 → Int32 → PF → PG → PR
  | 0 => fun _ _ _ _ _ => none
  | n + 1 => fun x2 x3 x4 F G => cb_X1_aim_5 fu (cl_X1_aim_5 fu n) x2 x3 x4 F G
def cb_X1_aim_0 (fu : Nat) (x1 : Int32) (x2 : Int32) (F : PF) (G : PG) : PR := cl_X1_aim_5 fu fu x2 x1 0 F G
def cf_X1_aim (fu : Nat) (x1 : Int32) (x2 : Int32) (F : PF) (G : PG) : PR := cb_X1_aim_0 fu x1 x2 F G
theorem cn_X1_aim_49 (fu : Nat) {res : Int32 × PF × PG} (F : PF) (G : PG) (hm : cb_X1_aim_49 fu F G = some res) : xn F ≤ xn res.2.1 := by
  unfold cb_X1_aim_49 at hm
  obtain rfl := Option.some.inj hm
  exact Nat.le_refl _
theorem cw_X1_aim_49 (fu : Nat) {res : Int32 × PF × PG} (C : cMC p R s m args c A v RX1 cX1_aim 6 0 0 (xn res.2.1 - xn K0)) (hret : ∀ (b1 : Nat) (H1 : Heap) (locs1 : List Loc) (ls1 : Array Slot) (pc : Nat), cMW s A v a b1 K0 res.2.1 res.2.2 H1 locs1 → decode cX1_aim pc = .ok (.return_, 1) → W p l e R s m args below meth c H1 locs1 (xn res.2.1 - xn K0) (2 * (xn res.2.1 - xn K0)) Q (F0 m pc ls1 [])) (F : PF) (G : PG) (hm : cb_X1_aim_49 fu F G = some res) {b : Nat} {H : Heap} {locs : List Loc} (hw : cMW s A v a b K0 F G H locs) {ls : Array Slot} (hl : lv_has ls 6 []) : W p l e R s m args below meth c H locs (xn F - xn K0) (2 * (xn F - xn K0)) Q (F0 m 49 ls []) := by
  have hx := C.1
  have hb := C.2.1
  unfold cb_X1_aim_49 at hm
  obtain rfl := Option.some.inj hm
  exact hret _ _ _ _ _ hw dX1_aim_49
theorem cn_X1_aim_40 (fu : Nat) {res : Int32 × PF × PG} (ag_5 : Int32 → Int32 → Int32 → PF → PG → PR) (hagn_5 : ∀ (x2 : Int32) (x3 : Int32) (x4 : Int32) (F : PF) (G : PG), ag_5 x2 x3 x4 F G = some res → xn F ≤ xn res.2.1) (x2 : Int32) (x4 : Int32) (x5 : Int32) (F : PF) (G : PG) (hm : cb_X1_aim_40 fu ag_5 x2 x4 x5 F G = some res) : xn F ≤ xn res.2.1 := by
  unfold cb_X1_aim_40 at hm
  exact (hagn_5 x2 x5 (x4 + 1) F G hm)
theorem cw_X1_aim_40 (fu : Nat) {res : Int32 × PF × PG} (C : cMC p R s m args c A v RX1 cX1_aim 6 0 0 (xn res.2.1 - xn K0)) (hret : ∀ (b1 : Nat) (H1 : Heap) (locs1 : List Loc) (ls1 : Array Slot) (pc : Nat), cMW s A v a b1 K0 res.2.1 res.2.2 H1 locs1 → decode cX1_aim pc = .ok (.return_, 1) → W p l e R s m args below meth c H1 locs1 (xn res.2.1 - xn K0) (2 * (xn res.2.1 - xn K0)) Q (F0 m pc ls1 [])) (ag_5 : Int32 → Int32 → Int32 → PF → PG → PR) (hag_5 : ∀ (x2 : Int32) (x3 : Int32) (x4 : Int32) (F : PF) (G : PG), ag_5 x2 x3 x4 F G = some res → ∀ (b : Nat) (H : Heap) (locs : List Loc) (ls : Array Slot), cMW s A v a b K0 F G H locs → lv_has ls 6 [(0, .ref (a 201)), (2, .int x2), (3, .int x3), (4, .int x4)] → W p l e R s m args below meth c H locs (xn F - xn K0) (2 * (xn F - xn K0)) Q (F0 m 5 ls [])) (hagn_5 : ∀ (x2 : Int32) (x3 : Int32) (x4 : Int32) (F : PF) (G : PG), ag_5 x2 x3 x4 F G = some res → xn F ≤ xn res.2.1) (x2 : Int32) (x4 : Int32) (x5 : Int32) (F : PF) (G : PG) (hm : cb_X1_aim_40 fu ag_5 x2 x4 x5 F G = some res) {b : Nat} {H : Heap} {locs : List Loc} (hw : cMW s A v a b K0 F G H locs) {ls : Array Slot} (hl : lv_has ls 6 [(0, .ref (a 201)), (2, .int x2), (4, .int x4), (5, .int x5)]) : W p l e R s m args below meth c H locs (xn F - xn K0) (2 * (xn F - xn K0)) Q (F0 m 40 ls []) := by
  have hx := C.1
  have hb := C.2.1
  unfold cb_X1_aim_40 at hm
  refine lv_iload hx hb dX1_aim_40 (lv_at hl 3 rfl) ?_
  refine lv_istore_n (lv' := [(3, .int x5), (0, .ref (a 201)), (2, .int x2), (4, .int x4), (5, .int x5)]) hx hb dX1_aim_42 rfl hl (by decide) rfl (fun ls hl => ?_)
  refine lv_iinc (v := (x4 + 1)) (lv' := [(4, .int (x4 + 1)), (3, .int x5), (0, .ref (a 201)), (2, .int x2), (5, .int x5)]) hx hb dX1_aim_43 hl (k := 3) rfl (by rfl) (by decide) rfl (fun ls hl => ?_)
  refine lv_goto (tgt := 5) hx hb dX1_aim_46 (by decide) ?_
  exact hag_5 x2 x5 (x4 + 1) F G hm _ _ _ _ hw (lv_sub hl [2, 3, 1, 0] rfl)
theorem cn_X1_aim_25 (fu : Nat) {res : Int32 × PF × PG} (ag_5 : Int32 → Int32 → Int32 → PF → PG → PR) (hagn_5 : ∀ (x2 : Int32) (x3 : Int32) (x4 : Int32) (F : PF) (G : PG), ag_5 x2 x3 x4 F G = some res → xn F ≤ xn res.2.1) (x2 : Int32) (x3 : Int32) (x4 : Int32) (F : PF) (G : PG) (hm : cb_X1_aim_25 fu ag_5 x2 x3 x4 F G = some res) : xn F ≤ xn res.2.1 := by
  unfold cb_X1_aim_25 at hm
  have hm := (ix_elim hm).2
  have hm := (ix_elim hm).2
  exact (cn_X1_aim_40 fu ag_5 hagn_5 x2 x4 (G 5 x3.toNatClampNeg) F (gup G 5 x3.toNatClampNeg x2) hm)
theorem cw_X1_aim_25 (fu : Nat) {res : Int32 × PF × PG} (C : cMC p R s m args c A v RX1 cX1_aim 6 0 0 (xn res.2.1 - xn K0)) (hret : ∀ (b1 : Nat) (H1 : Heap) (locs1 : List Loc) (ls1 : Array Slot) (pc : Nat), cMW s A v a b1 K0 res.2.1 res.2.2 H1 locs1 → decode cX1_aim pc = .ok (.return_, 1) → W p l e R s m args below meth c H1 locs1 (xn res.2.1 - xn K0) (2 * (xn res.2.1 - xn K0)) Q (F0 m pc ls1 [])) (ag_5 : Int32 → Int32 → Int32 → PF → PG → PR) (hag_5 : ∀ (x2 : Int32) (x3 : Int32) (x4 : Int32) (F : PF) (G : PG), ag_5 x2 x3 x4 F G = some res → ∀ (b : Nat) (H : Heap) (locs : List Loc) (ls : Array Slot), cMW s A v a b K0 F G H locs → lv_has ls 6 [(0, .ref (a 201)), (2, .int x2), (3, .int x3), (4, .int x4)] → W p l e R s m args below meth c H locs (xn F - xn K0) (2 * (xn F - xn K0)) Q (F0 m 5 ls [])) (hagn_5 : ∀ (x2 : Int32) (x3 : Int32) (x4 : Int32) (F : PF) (G : PG), ag_5 x2 x3 x4 F G = some res → xn F ≤ xn res.2.1) (x2 : Int32) (x3 : Int32) (x4 : Int32) (F : PF) (G : PG) (hm : cb_X1_aim_25 fu ag_5 x2 x3 x4 F G = some res) {b : Nat} {H : Heap} {locs : List Loc} (hw : cMW s A v a b K0 F G H locs) {ls : Array Slot} (hl : lv_has ls 6 [(0, .ref (a 201)), (2, .int x2), (3, .int x3), (4, .int x4)]) : W p l e R s m args below meth c H locs (xn F - xn K0) (2 * (xn F - xn K0)) Q (F0 m 25 ls []) := by
  have hx := C.1
  have hb := C.2.1
  unfold cb_X1_aim_25 at hm
  refine lv_aload_n hx hb dX1_aim_25 rfl (lv_at hl 0 rfl) ?_
  refine cg_X1_11 C hw dX1_aim_26 ?_
  refine lv_iload_n hx hb dX1_aim_29 rfl (lv_at hl 2 rfl) ?_
  obtain ⟨hi, hm⟩ := ix_elim hm
  refine cal_5 C hw hi dX1_aim_30 ?_
  refine lv_istore (lv' := [(5, .int (G 5 x3.toNatClampNeg)), (0, .ref (a 201)), (2, .int x2), (3, .int x3), (4, .int x4)]) hx hb dX1_aim_31 hl (by decide) rfl (fun ls hl => ?_)
  refine lv_aload_n hx hb dX1_aim_33 rfl (lv_at hl 1 rfl) ?_
  refine cg_X1_11 C hw dX1_aim_34 ?_
  refine lv_iload_n hx hb dX1_aim_37 rfl (lv_at hl 3 rfl) ?_
  refine lv_iload_n hx hb dX1_aim_38 rfl (lv_at hl 2 rfl) ?_
  obtain ⟨hi, hm⟩ := ix_elim hm
  refine cas_5 C hw hi dX1_aim_39 (fun H locs hw => ?_)
  exact cw_X1_aim_40 fu C hret ag_5 hag_5 hagn_5 x2 x4 (G 5 x3.toNatClampNeg) F (gup G 5 x3.toNatClampNeg x2) hm hw (lv_sub hl [1, 2, 4, 0] rfl)
theorem cn_X1_aim_17 (fu : Nat) {res : Int32 × PF × PG} (ag_5 : Int32 → Int32 → Int32 → PF → PG → PR) (hagn_5 : ∀ (x2 : Int32) (x3 : Int32) (x4 : Int32) (F : PF) (G : PG), ag_5 x2 x3 x4 F G = some res → xn F ≤ xn res.2.1) (x2 : Int32) (x3 : Int32) (x4 : Int32) (F : PF) (G : PG) (hm : cb_X1_aim_17 fu ag_5 x2 x3 x4 F G = some res) : xn F ≤ xn res.2.1 := by
  unfold cb_X1_aim_17 at hm
  by_cases c_1 : (F 6) ≤ x3
  · have hm := (if_pos c_1).symm.trans hm
    exact (cn_X1_aim_49 fu F G hm)
  · have hm := (if_neg c_1).symm.trans hm
    exact (cn_X1_aim_25 fu ag_5 hagn_5 x2 x3 x4 F G hm)
theorem cw_X1_aim_17 (fu : Nat) {res : Int32 × PF × PG} (C : cMC p R s m args c A v RX1 cX1_aim 6 0 0 (xn res.2.1 - xn K0)) (hret : ∀ (b1 : Nat) (H1 : Heap) (locs1 : List Loc) (ls1 : Array Slot) (pc : Nat), cMW s A v a b1 K0 res.2.1 res.2.2 H1 locs1 → decode cX1_aim pc = .ok (.return_, 1) → W p l e R s m args below meth c H1 locs1 (xn res.2.1 - xn K0) (2 * (xn res.2.1 - xn K0)) Q (F0 m pc ls1 [])) (ag_5 : Int32 → Int32 → Int32 → PF → PG → PR) (hag_5 : ∀ (x2 : Int32) (x3 : Int32) (x4 : Int32) (F : PF) (G : PG), ag_5 x2 x3 x4 F G = some res → ∀ (b : Nat) (H : Heap) (locs : List Loc) (ls : Array Slot), cMW s A v a b K0 F G H locs → lv_has ls 6 [(0, .ref (a 201)), (2, .int x2), (3, .int x3), (4, .int x4)] → W p l e R s m args below meth c H locs (xn F - xn K0) (2 * (xn F - xn K0)) Q (F0 m 5 ls [])) (hagn_5 : ∀ (x2 : Int32) (x3 : Int32) (x4 : Int32) (F : PF) (G : PG), ag_5 x2 x3 x4 F G = some res → xn F ≤ xn res.2.1) (x2 : Int32) (x3 : Int32) (x4 : Int32) (F : PF) (G : PG) (hm : cb_X1_aim_17 fu ag_5 x2 x3 x4 F G = some res) {b : Nat} {H : Heap} {locs : List Loc} (hw : cMW s A v a b K0 F G H locs) {ls : Array Slot} (hl : lv_has ls 6 [(0, .ref (a 201)), (2, .int x2), (3, .int x3), (4, .int x4)]) : W p l e R s m args below meth c H locs (xn F - xn K0) (2 * (xn F - xn K0)) Q (F0 m 17 ls []) := by
  have hx := C.1
  have hb := C.2.1
  unfold cb_X1_aim_17 at hm
  refine lv_iload_n hx hb dX1_aim_17 rfl (lv_at hl 2 rfl) ?_
  refine lv_aload_n hx hb dX1_aim_18 rfl (lv_at hl 0 rfl) ?_
  refine cg_X1_19 C hw dX1_aim_19 ?_
  refine lv_icmp_ge (tgt := 49) hx hb dX1_aim_22 (by decide) (fun c_1 => ?_) (fun c_1 => ?_)
  · have hm := (if_pos c_1).symm.trans hm
    exact cw_X1_aim_49 fu C hret F G hm hw (lv_sub hl [] rfl)
  · have hm := (if_neg c_1).symm.trans hm
    exact cw_X1_aim_25 fu C hret ag_5 hag_5 hagn_5 x2 x3 x4 F G hm hw (lv_sub hl [0, 1, 2, 3] rfl)
theorem cn_X1_aim_13 (fu : Nat) {res : Int32 × PF × PG} (ag_5 : Int32 → Int32 → Int32 → PF → PG → PR) (hagn_5 : ∀ (x2 : Int32) (x3 : Int32) (x4 : Int32) (F : PF) (G : PG), ag_5 x2 x3 x4 F G = some res → xn F ≤ xn res.2.1) (x2 : Int32) (x3 : Int32) (x4 : Int32) (F : PF) (G : PG) (hm : cb_X1_aim_13 fu ag_5 x2 x3 x4 F G = some res) : xn F ≤ xn res.2.1 := by
  unfold cb_X1_aim_13 at hm
  by_cases c_1 : x3 < (0 : Int32)
  · have hm := (if_pos c_1).symm.trans hm
    exact (cn_X1_aim_49 fu F G hm)
  · have hm := (if_neg c_1).symm.trans hm
    exact (cn_X1_aim_17 fu ag_5 hagn_5 x2 x3 x4 F G hm)
theorem cw_X1_aim_13 (fu : Nat) {res : Int32 × PF × PG} (C : cMC p R s m args c A v RX1 cX1_aim 6 0 0 (xn res.2.1 - xn K0)) (hret : ∀ (b1 : Nat) (H1 : Heap) (locs1 : List Loc) (ls1 : Array Slot) (pc : Nat), cMW s A v a b1 K0 res.2.1 res.2.2 H1 locs1 → decode cX1_aim pc = .ok (.return_, 1) → W p l e R s m args below meth c H1 locs1 (xn res.2.1 - xn K0) (2 * (xn res.2.1 - xn K0)) Q (F0 m pc ls1 [])) (ag_5 : Int32 → Int32 → Int32 → PF → PG → PR) (hag_5 : ∀ (x2 : Int32) (x3 : Int32) (x4 : Int32) (F : PF) (G : PG), ag_5 x2 x3 x4 F G = some res → ∀ (b : Nat) (H : Heap) (locs : List Loc) (ls : Array Slot), cMW s A v a b K0 F G H locs → lv_has ls 6 [(0, .ref (a 201)), (2, .int x2), (3, .int x3), (4, .int x4)] → W p l e R s m args below meth c H locs (xn F - xn K0) (2 * (xn F - xn K0)) Q (F0 m 5 ls [])) (hagn_5 : ∀ (x2 : Int32) (x3 : Int32) (x4 : Int32) (F : PF) (G : PG), ag_5 x2 x3 x4 F G = some res → xn F ≤ xn res.2.1) (x2 : Int32) (x3 : Int32) (x4 : Int32) (F : PF) (G : PG) (hm : cb_X1_aim_13 fu ag_5 x2 x3 x4 F G = some res) {b : Nat} {H : Heap} {locs : List Loc} (hw : cMW s A v a b K0 F G H locs) {ls : Array Slot} (hl : lv_has ls 6 [(0, .ref (a 201)), (2, .int x2), (3, .int x3), (4, .int x4)]) : W p l e R s m args below meth c H locs (xn F - xn K0) (2 * (xn F - xn K0)) Q (F0 m 13 ls []) := by
  have hx := C.1
  have hb := C.2.1
  unfold cb_X1_aim_13 at hm
  refine lv_iload_n hx hb dX1_aim_13 rfl (lv_at hl 2 rfl) ?_
  refine lv_if_lt (tgt := 49) hx hb dX1_aim_14 (by decide) (fun c_1 => ?_) (fun c_1 => ?_)
  · have hm := (if_pos c_1).symm.trans hm
    exact cw_X1_aim_49 fu C hret F G hm hw (lv_sub hl [] rfl)
  · have hm := (if_neg c_1).symm.trans hm
    exact cw_X1_aim_17 fu C hret ag_5 hag_5 hagn_5 x2 x3 x4 F G hm hw (lv_sub hl [0, 1, 2, 3] rfl)
theorem cn_X1_aim_5 (fu : Nat) {res : Int32 × PF × PG} (ag_5 : Int32 → Int32 → Int32 → PF → PG → PR) (hagn_5 : ∀ (x2 : Int32) (x3 : Int32) (x4 : Int32) (F : PF) (G : PG), ag_5 x2 x3 x4 F G = some res → xn F ≤ xn res.2.1) (x2 : Int32) (x3 : Int32) (x4 : Int32) (F : PF) (G : PG) (hm : cb_X1_aim_5 fu ag_5 x2 x3 x4 F G = some res) : xn F ≤ xn res.2.1 := by
  unfold cb_X1_aim_5 at hm
  by_cases c_1 : (8400 : Int32) ≤ x4
  · have hm := (if_pos c_1).symm.trans hm
    exact (cn_X1_aim_49 fu F G hm)
  · have hm := (if_neg c_1).symm.trans hm
    exact (cn_X1_aim_13 fu ag_5 hagn_5 x2 x3 x4 F G hm)
theorem cw_X1_aim_5 (fu : Nat) {res : Int32 × PF × PG} (C : cMC p R s m args c A v RX1 cX1_aim 6 0 0 (xn res.2.1 - xn K0)) (hret : ∀ (b1 : Nat) (H1 : Heap) (locs1 : List Loc) (ls1 : Array Slot) (pc : Nat), cMW s A v a b1 K0 res.2.1 res.2.2 H1 locs1 → decode cX1_aim pc = .ok (.return_, 1) → W p l e R s m args below meth c H1 locs1 (xn res.2.1 - xn K0) (2 * (xn res.2.1 - xn K0)) Q (F0 m pc ls1 [])) (ag_5 : Int32 → Int32 → Int32 → PF → PG → PR) (hag_5 : ∀ (x2 : Int32) (x3 : Int32) (x4 : Int32) (F : PF) (G : PG), ag_5 x2 x3 x4 F G = some res → ∀ (b : Nat) (H : Heap) (locs : List Loc) (ls : Array Slot), cMW s A v a b K0 F G H locs → lv_has ls 6 [(0, .ref (a 201)), (2, .int x2), (3, .int x3), (4, .int x4)] → W p l e R s m args below meth c H locs (xn F - xn K0) (2 * (xn F - xn K0)) Q (F0 m 5 ls [])) (hagn_5 : ∀ (x2 : Int32) (x3 : Int32) (x4 : Int32) (F : PF) (G : PG), ag_5 x2 x3 x4 F G = some res → xn F ≤ xn res.2.1) (x2 : Int32) (x3 : Int32) (x4 : Int32) (F : PF) (G : PG) (hm : cb_X1_aim_5 fu ag_5 x2 x3 x4 F G = some res) {b : Nat} {H : Heap} {locs : List Loc} (hw : cMW s A v a b K0 F G H locs) {ls : Array Slot} (hl : lv_has ls 6 [(0, .ref (a 201)), (2, .int x2), (3, .int x3), (4, .int x4)]) : W p l e R s m args below meth c H locs (xn F - xn K0) (2 * (xn F - xn K0)) Q (F0 m 5 ls []) := by
  have hx := C.1
  have hb := C.2.1
  unfold cb_X1_aim_5 at hm
  refine lv_iload hx hb dX1_aim_5 (lv_at hl 3 rfl) ?_
  refine lv_sipush (v := 8400) hx hb dX1_aim_7 (by decide) ?_
  refine lv_icmp_ge (tgt := 49) hx hb dX1_aim_10 (by decide) (fun c_1 => ?_) (fun c_1 => ?_)
  · have hm := (if_pos c_1).symm.trans hm
    exact cw_X1_aim_49 fu C hret F G hm hw (lv_sub hl [] rfl)
  · have hm := (if_neg c_1).symm.trans hm
    exact cw_X1_aim_13 fu C hret ag_5 hag_5 hagn_5 x2 x3 x4 F G hm hw (lv_sub hl [0, 1, 2, 3] rfl)
theorem cnl_X1_aim_5 (fu : Nat) {res : Int32 × PF × PG} : ∀ (n : Nat) (x2 : Int32) (x3 : Int32) (x4 : Int32) (F : PF) (G : PG) (hm : cl_X1_aim_5 fu n x2 x3 x4 F G = some res), xn F ≤ xn res.2.1 := by
  intro n
  induction n with
  | zero =>
    intro x2 x3 x4 F G hm
    exact no_elim (show (none : PR) = some res from hm)
  | succ n ih =>
    intro x2 x3 x4 F G hm
    exact cn_X1_aim_5 fu (cl_X1_aim_5 fu n) (fun x2 x3 x4 F G hm => ih x2 x3 x4 F G hm) x2 x3 x4 F G hm
theorem cwl_X1_aim_5 (fu : Nat) {res : Int32 × PF × PG} (C : cMC p R s m args c A v RX1 cX1_aim 6 0 0 (xn res.2.1 - xn K0)) (hret : ∀ (b1 : Nat) (H1 : Heap) (locs1 : List Loc) (ls1 : Array Slot) (pc : Nat), cMW s A v a b1 K0 res.2.1 res.2.2 H1 locs1 → decode cX1_aim pc = .ok (.return_, 1) → W p l e R s m args below meth c H1 locs1 (xn res.2.1 - xn K0) (2 * (xn res.2.1 - xn K0)) Q (F0 m pc ls1 [])) : ∀ (n : Nat) (x2 : Int32) (x3 : Int32) (x4 : Int32) (F : PF) (G : PG) (hm : cl_X1_aim_5 fu n x2 x3 x4 F G = some res) {b : Nat} {H : Heap} {locs : List Loc} (hw : cMW s A v a b K0 F G H locs) {ls : Array Slot} (hl : lv_has ls 6 [(0, .ref (a 201)), (2, .int x2), (3, .int x3), (4, .int x4)]), W p l e R s m args below meth c H locs (xn F - xn K0) (2 * (xn F - xn K0)) Q (F0 m 5 ls []) := by
  intro n
  induction n with
  | zero =>
    intro x2 x3 x4 F G hm
    exact no_elim (show (none : PR) = some res from hm)
  | succ n ih =>
    intro x2 x3 x4 F G hm b H locs hw ls hl
    exact cw_X1_aim_5 fu C hret (cl_X1_aim_5 fu n) (fun x2 x3 x4 F G hm b H locs ls hw hl => ih x2 x3 x4 F G hm hw hl) (fun x2 x3 x4 F G hm => cnl_X1_aim_5 fu n x2 x3 x4 F G hm) x2 x3 x4 F G hm hw hl
theorem cn_X1_aim_0 (fu : Nat) {res : Int32 × PF × PG} (x1 : Int32) (x2 : Int32) (F : PF) (G : PG) (hm : cb_X1_aim_0 fu x1 x2 F G = some res) : xn F ≤ xn res.2.1 := by
  unfold cb_X1_aim_0 at hm
  exact (cnl_X1_aim_5 fu fu x2 x1 0 F G hm)
theorem cw_X1_aim_0 (fu : Nat) {res : Int32 × PF × PG} (C : cMC p R s m args c A v RX1 cX1_aim 6 0 0 (xn res.2.1 - xn K0)) (hret : ∀ (b1 : Nat) (H1 : Heap) (locs1 : List Loc) (ls1 : Array Slot) (pc : Nat), cMW s A v a b1 K0 res.2.1 res.2.2 H1 locs1 → decode cX1_aim pc = .ok (.return_, 1) → W p l e R s m args below meth c H1 locs1 (xn res.2.1 - xn K0) (2 * (xn res.2.1 - xn K0)) Q (F0 m pc ls1 [])) (x1 : Int32) (x2 : Int32) (F : PF) (G : PG) (hm : cb_X1_aim_0 fu x1 x2 F G = some res) {b : Nat} {H : Heap} {locs : List Loc} (hw : cMW s A v a b K0 F G H locs) {ls : Array Slot} (hl : lv_has ls 6 [(0, .ref (a 201)), (1, .int x1), (2, .int x2)]) : W p l e R s m args below meth c H locs (xn F - xn K0) (2 * (xn F - xn K0)) Q (F0 m 0 ls []) := by
  have hx := C.1
  have hb := C.2.1
  unfold cb_X1_aim_0 at hm
  refine lv_iload_n hx hb dX1_aim_0 rfl (lv_at hl 1 rfl) ?_
  refine lv_istore_n (lv' := [(3, .int x1), (0, .ref (a 201)), (1, .int x1), (2, .int x2)]) hx hb dX1_aim_1 rfl hl (by decide) rfl (fun ls hl => ?_)
  refine lv_iconst (v := 0) hx hb dX1_aim_2 (by decide) ?_
  refine lv_istore (lv' := [(4, .int 0), (3, .int x1), (0, .ref (a 201)), (1, .int x1), (2, .int x2)]) hx hb dX1_aim_3 hl (by decide) rfl (fun ls hl => ?_)
  exact cwl_X1_aim_5 fu C hret fu x2 x1 0 F G hm hw (lv_sub hl [2, 4, 1, 0] rfl)
theorem cn_X1_aim (fu : Nat) (x1 : Int32) (x2 : Int32) (F : PF) (G : PG) (q : Int32 × PF × PG) (hm : cf_X1_aim fu x1 x2 F G = some q) : xn F ≤ xn q.2.1 := cn_X1_aim_0 fu x1 x2 F G hm
theorem ck_X1_aim (l : Launch) (v : EV) (a : Nat → Nat) (b sz : Nat) (fu : Nat) (x1 : Int32) (x2 : Int32) (F : PF) (G : PG) (r : Int32) (F1 : PF) (G1 : PG) (hm : cf_X1_aim fu x1 x2 F G = some (r, F1, G1)) : cMV l yX1_aim cX1_aim 6 0 0 v a b sz [.ref (a 201), .int x1, .int x2] F G F1 G1 := cMV.of (by decide) (Nat.le_of_ble_eq_true rfl) (fun p e R s m args below meth c Q A H locs ls C hw hl hret => cw_X1_aim_0 fu (res := (r, F1, G1)) C hret x1 x2 F G hm hw hl)
def cb_X1_cut_17 (fu : Nat) (F : PF) (G : PG) : PR := some (0, F, G)
def cb_X1_cut_12 (fu : Nat) (x1 : Int32) (F : PF) (G : PG) : PR := cb_X1_cut_17 fu (fup F 6 x1) G
def cb_X1_cut_4 (fu : Nat) (x1 : Int32) (F : PF) (G : PG) : PR := if (F 6) ≤ x1 then cb_X1_cut_17 fu F G else cb_X1_cut_12 fu x1 F G
def cb_X1_cut_0 (fu : Nat) (x1 : Int32) (F : PF) (G : PG) : PR := if x1 < (0 : Int32) then cb_X1_cut_17 fu F G else cb_X1_cut_4 fu x1 F G
def cf_X1_cut (fu : Nat) (x1 : Int32) (F : PF) (G : PG) : PR := cb_X1_cut_0 fu x1 F G
theorem cn_X1_cut_17 (fu : Nat) {res : Int32 × PF × PG} (F : PF) (G : PG) (hm : cb_X1_cut_17 fu F G = some res) : xn F ≤ xn res.2.1 := by
  unfold cb_X1_cut_17 at hm
  obtain rfl := Option.some.inj hm
  exact Nat.le_refl _
theorem cw_X1_cut_17 (fu : Nat) {res : Int32 × PF × PG} (C : cMC p R s m args c A v RX1 cX1_cut 2 0 0 (xn res.2.1 - xn K0)) (hret : ∀ (b1 : Nat) (H1 : Heap) (locs1 : List Loc) (ls1 : Array Slot) (pc : Nat), cMW s A v a b1 K0 res.2.1 res.2.2 H1 locs1 → decode cX1_cut pc = .ok (.return_, 1) → W p l e R s m args below meth c H1 locs1 (xn res.2.1 - xn K0) (2 * (xn res.2.1 - xn K0)) Q (F0 m pc ls1 [])) (F : PF) (G : PG) (hm : cb_X1_cut_17 fu F G = some res) {b : Nat} {H : Heap} {locs : List Loc} (hw : cMW s A v a b K0 F G H locs) {ls : Array Slot} (hl : lv_has ls 2 []) : W p l e R s m args below meth c H locs (xn F - xn K0) (2 * (xn F - xn K0)) Q (F0 m 17 ls []) := by
  have hx := C.1
  have hb := C.2.1
  unfold cb_X1_cut_17 at hm
  obtain rfl := Option.some.inj hm
  exact hret _ _ _ _ _ hw dX1_cut_17
theorem cn_X1_cut_12 (fu : Nat) {res : Int32 × PF × PG} (x1 : Int32) (F : PF) (G : PG) (hm : cb_X1_cut_12 fu x1 F G = some res) : xn F ≤ xn res.2.1 := by
  unfold cb_X1_cut_12 at hm
  exact Nat.le_trans (Nat.le_of_eq (xn_fup (by decide)).symm) (cn_X1_cut_17 fu (fup F 6 x1) G hm)
theorem cw_X1_cut_12 (fu : Nat) {res : Int32 × PF × PG} (C : cMC p R s m args c A v RX1 cX1_cut 2 0 0 (xn res.2.1 - xn K0)) (hret : ∀ (b1 : Nat) (H1 : Heap) (locs1 : List Loc) (ls1 : Array Slot) (pc : Nat), cMW s A v a b1 K0 res.2.1 res.2.2 H1 locs1 → decode cX1_cut pc = .ok (.return_, 1) → W p l e R s m args below meth c H1 locs1 (xn res.2.1 - xn K0) (2 * (xn res.2.1 - xn K0)) Q (F0 m pc ls1 [])) (x1 : Int32) (F : PF) (G : PG) (hm : cb_X1_cut_12 fu x1 F G = some res) {b : Nat} {H : Heap} {locs : List Loc} (hw : cMW s A v a b K0 F G H locs) {ls : Array Slot} (hl : lv_has ls 2 [(0, .ref (a 201)), (1, .int x1)]) : W p l e R s m args below meth c H locs (xn F - xn K0) (2 * (xn F - xn K0)) Q (F0 m 12 ls []) := by
  have hx := C.1
  have hb := C.2.1
  unfold cb_X1_cut_12 at hm
  refine lv_aload_n hx hb dX1_cut_12 rfl (lv_at hl 0 rfl) ?_
  refine lv_iload_n hx hb dX1_cut_13 rfl (lv_at hl 1 rfl) ?_
  refine cp_X1_19 C hw dX1_cut_14 (fun H locs hw => ?_)
  exact cw_X1_cut_17 fu C hret (fup F 6 x1) G hm hw (lv_sub hl [] rfl)
theorem cn_X1_cut_4 (fu : Nat) {res : Int32 × PF × PG} (x1 : Int32) (F : PF) (G : PG) (hm : cb_X1_cut_4 fu x1 F G = some res) : xn F ≤ xn res.2.1 := by
  unfold cb_X1_cut_4 at hm
  by_cases c_1 : (F 6) ≤ x1
  · have hm := (if_pos c_1).symm.trans hm
    exact (cn_X1_cut_17 fu F G hm)
  · have hm := (if_neg c_1).symm.trans hm
    exact (cn_X1_cut_12 fu x1 F G hm)
theorem cw_X1_cut_4 (fu : Nat) {res : Int32 × PF × PG} (C : cMC p R s m args c A v RX1 cX1_cut 2 0 0 (xn res.2.1 - xn K0)) (hret : ∀ (b1 : Nat) (H1 : Heap) (locs1 : List Loc) (ls1 : Array Slot) (pc : Nat), cMW s A v a b1 K0 res.2.1 res.2.2 H1 locs1 → decode cX1_cut pc = .ok (.return_, 1) → W p l e R s m args below meth c H1 locs1 (xn res.2.1 - xn K0) (2 * (xn res.2.1 - xn K0)) Q (F0 m pc ls1 [])) (x1 : Int32) (F : PF) (G : PG) (hm : cb_X1_cut_4 fu x1 F G = some res) {b : Nat} {H : Heap} {locs : List Loc} (hw : cMW s A v a b K0 F G H locs) {ls : Array Slot} (hl : lv_has ls 2 [(0, .ref (a 201)), (1, .int x1)]) : W p l e R s m args below meth c H locs (xn F - xn K0) (2 * (xn F - xn K0)) Q (F0 m 4 ls []) := by
  have hx := C.1
  have hb := C.2.1
  unfold cb_X1_cut_4 at hm
  refine lv_iload_n hx hb dX1_cut_4 rfl (lv_at hl 1 rfl) ?_
  refine lv_aload_n hx hb dX1_cut_5 rfl (lv_at hl 0 rfl) ?_
  refine cg_X1_19 C hw dX1_cut_6 ?_
  refine lv_icmp_ge (tgt := 17) hx hb dX1_cut_9 (by decide) (fun c_1 => ?_) (fun c_1 => ?_)
  · have hm := (if_pos c_1).symm.trans hm
    exact cw_X1_cut_17 fu C hret F G hm hw (lv_sub hl [] rfl)
  · have hm := (if_neg c_1).symm.trans hm
    exact cw_X1_cut_12 fu C hret x1 F G hm hw (lv_sub hl [0, 1] rfl)
theorem cn_X1_cut_0 (fu : Nat) {res : Int32 × PF × PG} (x1 : Int32) (F : PF) (G : PG) (hm : cb_X1_cut_0 fu x1 F G = some res) : xn F ≤ xn res.2.1 := by
  unfold cb_X1_cut_0 at hm
  by_cases c_1 : x1 < (0 : Int32)
  · have hm := (if_pos c_1).symm.trans hm
    exact (cn_X1_cut_17 fu F G hm)
  · have hm := (if_neg c_1).symm.trans hm
    exact (cn_X1_cut_4 fu x1 F G hm)
theorem cw_X1_cut_0 (fu : Nat) {res : Int32 × PF × PG} (C : cMC p R s m args c A v RX1 cX1_cut 2 0 0 (xn res.2.1 - xn K0)) (hret : ∀ (b1 : Nat) (H1 : Heap) (locs1 : List Loc) (ls1 : Array Slot) (pc : Nat), cMW s A v a b1 K0 res.2.1 res.2.2 H1 locs1 → decode cX1_cut pc = .ok (.return_, 1) → W p l e R s m args below meth c H1 locs1 (xn res.2.1 - xn K0) (2 * (xn res.2.1 - xn K0)) Q (F0 m pc ls1 [])) (x1 : Int32) (F : PF) (G : PG) (hm : cb_X1_cut_0 fu x1 F G = some res) {b : Nat} {H : Heap} {locs : List Loc} (hw : cMW s A v a b K0 F G H locs) {ls : Array Slot} (hl : lv_has ls 2 [(0, .ref (a 201)), (1, .int x1)]) : W p l e R s m args below meth c H locs (xn F - xn K0) (2 * (xn F - xn K0)) Q (F0 m 0 ls []) := by
  have hx := C.1
  have hb := C.2.1
  unfold cb_X1_cut_0 at hm
  refine lv_iload_n hx hb dX1_cut_0 rfl (lv_at hl 1 rfl) ?_
  refine lv_if_lt (tgt := 17) hx hb dX1_cut_1 (by decide) (fun c_1 => ?_) (fun c_1 => ?_)
  · have hm := (if_pos c_1).symm.trans hm
    exact cw_X1_cut_17 fu C hret F G hm hw (lv_sub hl [] rfl)
  · have hm := (if_neg c_1).symm.trans hm
    exact cw_X1_cut_4 fu C hret x1 F G hm hw (lv_sub hl [0, 1] rfl)
theorem cn_X1_cut (fu : Nat) (x1 : Int32) (F : PF) (G : PG) (q : Int32 × PF × PG) (hm : cf_X1_cut fu x1 F G = some q) : xn F ≤ xn q.2.1 := cn_X1_cut_0 fu x1 F G hm
theorem ck_X1_cut (l : Launch) (v : EV) (a : Nat → Nat) (b sz : Nat) (fu : Nat) (x1 : Int32) (F : PF) (G : PG) (r : Int32) (F1 : PF) (G1 : PG) (hm : cf_X1_cut fu x1 F G = some (r, F1, G1)) : cMV l yX1_cut cX1_cut 2 0 0 v a b sz [.ref (a 201), .int x1] F G F1 G1 := cMV.of (by decide) (Nat.le_of_ble_eq_true rfl) (fun p e R s m args below meth c Q A H locs ls C hw hl hret => cw_X1_cut_0 fu (res := (r, F1, G1)) C hret x1 F G hm hw hl)
def cb_X2_comeTo_15 (fu : Nat) (F : PF) (G : PG) : PR := some (0, F, G)
def cb_X2_comeTo_87 (fu : Nat) (F : PF) (G : PG) : PR := some (0, F, G)
def cb_X2_comeTo_81 (fu : Nat) (F : PF) (G : PG) : PR := cb_X2_comeTo_87 fu (fup F 11 (-2 : Int32)) G
def cb_X2_comeTo_68 (fu : Nat) (F : PF) (G : PG) : PR := cb_X2_comeTo_81 fu (fup F 14 (((F 13) * (16 : Int32)) + (1 : Int32))) G
def cb_X2_comeTo_60 (fu : Nat) (F : PF) (G : PG) : PR := if (F 11) = (1 : Int32) then cb_X2_comeTo_68 fu F G else cb_X2_comeTo_87 fu F G
def cb_X2_comeTo_47 (fu : Nat) (x1 : Int32) (F : PF) (G : PG) : PR := if ixb x1 4001 = true then (cb_X2_comeTo_60 fu (fup F 13 (G 92 x1.toNatClampNeg)) G) else none
def cb_X2_comeTo_34 (fu : Nat) (x1 : Int32) (F : PF) (G : PG) : PR := if ixb x1 4001 = true then (cb_X2_comeTo_47 fu x1 (fup F 12 (G 91 x1.toNatClampNeg)) G) else none
def cb_X2_comeTo_21 (fu : Nat) (x1 : Int32) (F : PF) (G : PG) : PR := if ixb x1 4001 = true then (cb_X2_comeTo_34 fu x1 (fup F 11 (G 90 x1.toNatClampNeg)) G) else none
def cb_X2_comeTo_16 (fu : Nat) (x1 : Int32) (F : PF) (G : PG) : PR := cb_X2_comeTo_21 fu x1 (fup F 9 x1) G
def cb_X2_comeTo_4 (fu : Nat) (x1 : Int32) (F : PF) (G : PG) : PR := if x1 < (F 93) then cb_X2_comeTo_16 fu x1 F G else cb_X2_comeTo_15 fu F G
def cb_X2_comeTo_0 (fu : Nat) (x1 : Int32) (F : PF) (G : PG) : PR := if x1 < (0 : Int32) then cb_X2_comeTo_15 fu F G else cb_X2_comeTo_4 fu x1 F G
def cf_X2_comeTo (fu : Nat) (x1 : Int32) (F : PF) (G : PG) : PR := cb_X2_comeTo_0 fu x1 F G
theorem cn_X2_comeTo_15 (fu : Nat) {res : Int32 × PF × PG} (F : PF) (G : PG) (hm : cb_X2_comeTo_15 fu F G = some res) : xn F ≤ xn res.2.1 := by
  unfold cb_X2_comeTo_15 at hm
  obtain rfl := Option.some.inj hm
  exact Nat.le_refl _
theorem cw_X2_comeTo_15 (fu : Nat) {res : Int32 × PF × PG} (C : cMC p R s m args c A v RX2 cX2_comeTo 2 0 0 (xn res.2.1 - xn K0)) (hret : ∀ (b1 : Nat) (H1 : Heap) (locs1 : List Loc) (ls1 : Array Slot) (pc : Nat), cMW s A v a b1 K0 res.2.1 res.2.2 H1 locs1 → decode cX2_comeTo pc = .ok (.return_, 1) → W p l e R s m args below meth c H1 locs1 (xn res.2.1 - xn K0) (2 * (xn res.2.1 - xn K0)) Q (F0 m pc ls1 [])) (F : PF) (G : PG) (hm : cb_X2_comeTo_15 fu F G = some res) {b : Nat} {H : Heap} {locs : List Loc} (hw : cMW s A v a b K0 F G H locs) {ls : Array Slot} (hl : lv_has ls 2 []) : W p l e R s m args below meth c H locs (xn F - xn K0) (2 * (xn F - xn K0)) Q (F0 m 15 ls []) := by
  have hx := C.1
  have hb := C.2.1
  unfold cb_X2_comeTo_15 at hm
  obtain rfl := Option.some.inj hm
  exact hret _ _ _ _ _ hw dX2_comeTo_15
theorem cn_X2_comeTo_87 (fu : Nat) {res : Int32 × PF × PG} (F : PF) (G : PG) (hm : cb_X2_comeTo_87 fu F G = some res) : xn F ≤ xn res.2.1 := by
  unfold cb_X2_comeTo_87 at hm
  obtain rfl := Option.some.inj hm
  exact Nat.le_refl _
theorem cw_X2_comeTo_87 (fu : Nat) {res : Int32 × PF × PG} (C : cMC p R s m args c A v RX2 cX2_comeTo 2 0 0 (xn res.2.1 - xn K0)) (hret : ∀ (b1 : Nat) (H1 : Heap) (locs1 : List Loc) (ls1 : Array Slot) (pc : Nat), cMW s A v a b1 K0 res.2.1 res.2.2 H1 locs1 → decode cX2_comeTo pc = .ok (.return_, 1) → W p l e R s m args below meth c H1 locs1 (xn res.2.1 - xn K0) (2 * (xn res.2.1 - xn K0)) Q (F0 m pc ls1 [])) (F : PF) (G : PG) (hm : cb_X2_comeTo_87 fu F G = some res) {b : Nat} {H : Heap} {locs : List Loc} (hw : cMW s A v a b K0 F G H locs) {ls : Array Slot} (hl : lv_has ls 2 []) : W p l e R s m args below meth c H locs (xn F - xn K0) (2 * (xn F - xn K0)) Q (F0 m 87 ls []) := by
  have hx := C.1
  have hb := C.2.1
  unfold cb_X2_comeTo_87 at hm
  obtain rfl := Option.some.inj hm
  exact hret _ _ _ _ _ hw dX2_comeTo_87
theorem cn_X2_comeTo_81 (fu : Nat) {res : Int32 × PF × PG} (F : PF) (G : PG) (hm : cb_X2_comeTo_81 fu F G = some res) : xn F ≤ xn res.2.1 := by
  unfold cb_X2_comeTo_81 at hm
  exact Nat.le_trans (Nat.le_of_eq (xn_fup (by decide)).symm) (cn_X2_comeTo_87 fu (fup F 11 (-2 : Int32)) G hm)
theorem cw_X2_comeTo_81 (fu : Nat) {res : Int32 × PF × PG} (C : cMC p R s m args c A v RX2 cX2_comeTo 2 0 0 (xn res.2.1 - xn K0)) (hret : ∀ (b1 : Nat) (H1 : Heap) (locs1 : List Loc) (ls1 : Array Slot) (pc : Nat), cMW s A v a b1 K0 res.2.1 res.2.2 H1 locs1 → decode cX2_comeTo pc = .ok (.return_, 1) → W p l e R s m args below meth c H1 locs1 (xn res.2.1 - xn K0) (2 * (xn res.2.1 - xn K0)) Q (F0 m pc ls1 [])) (F : PF) (G : PG) (hm : cb_X2_comeTo_81 fu F G = some res) {b : Nat} {H : Heap} {locs : List Loc} (hw : cMW s A v a b K0 F G H locs) {ls : Array Slot} (hl : lv_has ls 2 [(0, .ref (a 202))]) : W p l e R s m args below meth c H locs (xn F - xn K0) (2 * (xn F - xn K0)) Q (F0 m 81 ls []) := by
  have hx := C.1
  have hb := C.2.1
  unfold cb_X2_comeTo_81 at hm
  refine lv_aload_n hx hb dX2_comeTo_81 rfl (lv_at hl 0 rfl) ?_
  refine lv_bipush (v := (-2)) hx hb dX2_comeTo_82 (by decide) ?_
  refine cp_X2_35 C hw dX2_comeTo_84 (fun H locs hw => ?_)
  exact cw_X2_comeTo_87 fu C hret (fup F 11 (-2 : Int32)) G hm hw (lv_sub hl [] rfl)
theorem cn_X2_comeTo_68 (fu : Nat) {res : Int32 × PF × PG} (F : PF) (G : PG) (hm : cb_X2_comeTo_68 fu F G = some res) : xn F ≤ xn res.2.1 := by
  unfold cb_X2_comeTo_68 at hm
  exact Nat.le_trans (Nat.le_of_eq (xn_fup (by decide)).symm) (cn_X2_comeTo_81 fu (fup F 14 (((F 13) * (16 : Int32)) + (1 : Int32))) G hm)
theorem cw_X2_comeTo_68 (fu : Nat) {res : Int32 × PF × PG} (C : cMC p R s m args c A v RX2 cX2_comeTo 2 0 0 (xn res.2.1 - xn K0)) (hret : ∀ (b1 : Nat) (H1 : Heap) (locs1 : List Loc) (ls1 : Array Slot) (pc : Nat), cMW s A v a b1 K0 res.2.1 res.2.2 H1 locs1 → decode cX2_comeTo pc = .ok (.return_, 1) → W p l e R s m args below meth c H1 locs1 (xn res.2.1 - xn K0) (2 * (xn res.2.1 - xn K0)) Q (F0 m pc ls1 [])) (F : PF) (G : PG) (hm : cb_X2_comeTo_68 fu F G = some res) {b : Nat} {H : Heap} {locs : List Loc} (hw : cMW s A v a b K0 F G H locs) {ls : Array Slot} (hl : lv_has ls 2 [(0, .ref (a 202))]) : W p l e R s m args below meth c H locs (xn F - xn K0) (2 * (xn F - xn K0)) Q (F0 m 68 ls []) := by
  have hx := C.1
  have hb := C.2.1
  unfold cb_X2_comeTo_68 at hm
  refine lv_aload_n hx hb dX2_comeTo_68 rfl (lv_at hl 0 rfl) ?_
  refine lv_aload_n hx hb dX2_comeTo_69 rfl (lv_at hl 0 rfl) ?_
  refine cg_X2_53 C hw dX2_comeTo_70 ?_
  refine lv_bipush (v := 16) hx hb dX2_comeTo_73 (by decide) ?_
  refine lv_imul hx hb dX2_comeTo_75 ?_
  refine lv_iconst (v := 1) hx hb dX2_comeTo_76 (by decide) ?_
  refine lv_iadd hx hb dX2_comeTo_77 ?_
  refine cp_X2_19 C hw dX2_comeTo_78 (fun H locs hw => ?_)
  exact cw_X2_comeTo_81 fu C hret (fup F 14 (((F 13) * (16 : Int32)) + (1 : Int32))) G hm hw (lv_sub hl [0] rfl)
theorem cn_X2_comeTo_60 (fu : Nat) {res : Int32 × PF × PG} (F : PF) (G : PG) (hm : cb_X2_comeTo_60 fu F G = some res) : xn F ≤ xn res.2.1 := by
  unfold cb_X2_comeTo_60 at hm
  by_cases c_1 : (F 11) = (1 : Int32)
  · have hm := (if_pos c_1).symm.trans hm
    exact (cn_X2_comeTo_68 fu F G hm)
  · have hm := (if_neg c_1).symm.trans hm
    exact (cn_X2_comeTo_87 fu F G hm)
theorem cw_X2_comeTo_60 (fu : Nat) {res : Int32 × PF × PG} (C : cMC p R s m args c A v RX2 cX2_comeTo 2 0 0 (xn res.2.1 - xn K0)) (hret : ∀ (b1 : Nat) (H1 : Heap) (locs1 : List Loc) (ls1 : Array Slot) (pc : Nat), cMW s A v a b1 K0 res.2.1 res.2.2 H1 locs1 → decode cX2_comeTo pc = .ok (.return_, 1) → W p l e R s m args below meth c H1 locs1 (xn res.2.1 - xn K0) (2 * (xn res.2.1 - xn K0)) Q (F0 m pc ls1 [])) (F : PF) (G : PG) (hm : cb_X2_comeTo_60 fu F G = some res) {b : Nat} {H : Heap} {locs : List Loc} (hw : cMW s A v a b K0 F G H locs) {ls : Array Slot} (hl : lv_has ls 2 [(0, .ref (a 202))]) : W p l e R s m args below meth c H locs (xn F - xn K0) (2 * (xn F - xn K0)) Q (F0 m 60 ls []) := by
  have hx := C.1
  have hb := C.2.1
  unfold cb_X2_comeTo_60 at hm
  refine lv_aload_n hx hb dX2_comeTo_60 rfl (lv_at hl 0 rfl) ?_
  refine cg_X2_35 C hw dX2_comeTo_61 ?_
  refine lv_iconst (v := 1) hx hb dX2_comeTo_64 (by decide) ?_
  refine lv_icmp_ne (tgt := 87) hx hb dX2_comeTo_65 (by decide) (fun c_1 => ?_) (fun c_1 => ?_)
  · have hm := (if_neg c_1).symm.trans hm
    exact cw_X2_comeTo_87 fu C hret F G hm hw (lv_sub hl [] rfl)
  · have hm := (if_pos c_1).symm.trans hm
    exact cw_X2_comeTo_68 fu C hret F G hm hw (lv_sub hl [0] rfl)
theorem cn_X2_comeTo_47 (fu : Nat) {res : Int32 × PF × PG} (x1 : Int32) (F : PF) (G : PG) (hm : cb_X2_comeTo_47 fu x1 F G = some res) : xn F ≤ xn res.2.1 := by
  unfold cb_X2_comeTo_47 at hm
  have hm := (ix_elim hm).2
  exact Nat.le_trans (Nat.le_of_eq (xn_fup (by decide)).symm) (cn_X2_comeTo_60 fu (fup F 13 (G 92 x1.toNatClampNeg)) G hm)
theorem cw_X2_comeTo_47 (fu : Nat) {res : Int32 × PF × PG} (C : cMC p R s m args c A v RX2 cX2_comeTo 2 0 0 (xn res.2.1 - xn K0)) (hret : ∀ (b1 : Nat) (H1 : Heap) (locs1 : List Loc) (ls1 : Array Slot) (pc : Nat), cMW s A v a b1 K0 res.2.1 res.2.2 H1 locs1 → decode cX2_comeTo pc = .ok (.return_, 1) → W p l e R s m args below meth c H1 locs1 (xn res.2.1 - xn K0) (2 * (xn res.2.1 - xn K0)) Q (F0 m pc ls1 [])) (x1 : Int32) (F : PF) (G : PG) (hm : cb_X2_comeTo_47 fu x1 F G = some res) {b : Nat} {H : Heap} {locs : List Loc} (hw : cMW s A v a b K0 F G H locs) {ls : Array Slot} (hl : lv_has ls 2 [(0, .ref (a 202)), (1, .int x1)]) : W p l e R s m args below meth c H locs (xn F - xn K0) (2 * (xn F - xn K0)) Q (F0 m 47 ls []) := by
  have hx := C.1
  have hb := C.2.1
  unfold cb_X2_comeTo_47 at hm
  refine lv_aload_n hx hb dX2_comeTo_47 rfl (lv_at hl 0 rfl) ?_
  refine lv_aload_n hx hb dX2_comeTo_48 rfl (lv_at hl 0 rfl) ?_
  refine cg_X2_9 C hw dX2_comeTo_49 ?_
  refine cg_X2_50 C hw dX2_comeTo_52 ?_
  refine lv_iload_n hx hb dX2_comeTo_55 rfl (lv_at hl 1 rfl) ?_
  obtain ⟨hi, hm⟩ := ix_elim hm
  refine cal_92 C hw hi dX2_comeTo_56 ?_
  refine cp_X2_53 C hw dX2_comeTo_57 (fun H locs hw => ?_)
  exact cw_X2_comeTo_60 fu C hret (fup F 13 (G 92 x1.toNatClampNeg)) G hm hw (lv_sub hl [0] rfl)
theorem cn_X2_comeTo_34 (fu : Nat) {res : Int32 × PF × PG} (x1 : Int32) (F : PF) (G : PG) (hm : cb_X2_comeTo_34 fu x1 F G = some res) : xn F ≤ xn res.2.1 := by
  unfold cb_X2_comeTo_34 at hm
  have hm := (ix_elim hm).2
  exact Nat.le_trans (Nat.le_of_eq (xn_fup (by decide)).symm) (cn_X2_comeTo_47 fu x1 (fup F 12 (G 91 x1.toNatClampNeg)) G hm)
theorem cw_X2_comeTo_34 (fu : Nat) {res : Int32 × PF × PG} (C : cMC p R s m args c A v RX2 cX2_comeTo 2 0 0 (xn res.2.1 - xn K0)) (hret : ∀ (b1 : Nat) (H1 : Heap) (locs1 : List Loc) (ls1 : Array Slot) (pc : Nat), cMW s A v a b1 K0 res.2.1 res.2.2 H1 locs1 → decode cX2_comeTo pc = .ok (.return_, 1) → W p l e R s m args below meth c H1 locs1 (xn res.2.1 - xn K0) (2 * (xn res.2.1 - xn K0)) Q (F0 m pc ls1 [])) (x1 : Int32) (F : PF) (G : PG) (hm : cb_X2_comeTo_34 fu x1 F G = some res) {b : Nat} {H : Heap} {locs : List Loc} (hw : cMW s A v a b K0 F G H locs) {ls : Array Slot} (hl : lv_has ls 2 [(0, .ref (a 202)), (1, .int x1)]) : W p l e R s m args below meth c H locs (xn F - xn K0) (2 * (xn F - xn K0)) Q (F0 m 34 ls []) := by
  have hx := C.1
  have hb := C.2.1
  unfold cb_X2_comeTo_34 at hm
  refine lv_aload_n hx hb dX2_comeTo_34 rfl (lv_at hl 0 rfl) ?_
  refine lv_aload_n hx hb dX2_comeTo_35 rfl (lv_at hl 0 rfl) ?_
  refine cg_X2_9 C hw dX2_comeTo_36 ?_
  refine cg_X2_44 C hw dX2_comeTo_39 ?_
  refine lv_iload_n hx hb dX2_comeTo_42 rfl (lv_at hl 1 rfl) ?_
  obtain ⟨hi, hm⟩ := ix_elim hm
  refine cal_91 C hw hi dX2_comeTo_43 ?_
  refine cp_X2_47 C hw dX2_comeTo_44 (fun H locs hw => ?_)
  exact cw_X2_comeTo_47 fu C hret x1 (fup F 12 (G 91 x1.toNatClampNeg)) G hm hw (lv_sub hl [0, 1] rfl)
theorem cn_X2_comeTo_21 (fu : Nat) {res : Int32 × PF × PG} (x1 : Int32) (F : PF) (G : PG) (hm : cb_X2_comeTo_21 fu x1 F G = some res) : xn F ≤ xn res.2.1 := by
  unfold cb_X2_comeTo_21 at hm
  have hm := (ix_elim hm).2
  exact Nat.le_trans (Nat.le_of_eq (xn_fup (by decide)).symm) (cn_X2_comeTo_34 fu x1 (fup F 11 (G 90 x1.toNatClampNeg)) G hm)
theorem cw_X2_comeTo_21 (fu : Nat) {res : Int32 × PF × PG} (C : cMC p R s m args c A v RX2 cX2_comeTo 2 0 0 (xn res.2.1 - xn K0)) (hret : ∀ (b1 : Nat) (H1 : Heap) (locs1 : List Loc) (ls1 : Array Slot) (pc : Nat), cMW s A v a b1 K0 res.2.1 res.2.2 H1 locs1 → decode cX2_comeTo pc = .ok (.return_, 1) → W p l e R s m args below meth c H1 locs1 (xn res.2.1 - xn K0) (2 * (xn res.2.1 - xn K0)) Q (F0 m pc ls1 [])) (x1 : Int32) (F : PF) (G : PG) (hm : cb_X2_comeTo_21 fu x1 F G = some res) {b : Nat} {H : Heap} {locs : List Loc} (hw : cMW s A v a b K0 F G H locs) {ls : Array Slot} (hl : lv_has ls 2 [(0, .ref (a 202)), (1, .int x1)]) : W p l e R s m args below meth c H locs (xn F - xn K0) (2 * (xn F - xn K0)) Q (F0 m 21 ls []) := by
  have hx := C.1
  have hb := C.2.1
  unfold cb_X2_comeTo_21 at hm
  refine lv_aload_n hx hb dX2_comeTo_21 rfl (lv_at hl 0 rfl) ?_
  refine lv_aload_n hx hb dX2_comeTo_22 rfl (lv_at hl 0 rfl) ?_
  refine cg_X2_9 C hw dX2_comeTo_23 ?_
  refine cg_X2_40 C hw dX2_comeTo_26 ?_
  refine lv_iload_n hx hb dX2_comeTo_29 rfl (lv_at hl 1 rfl) ?_
  obtain ⟨hi, hm⟩ := ix_elim hm
  refine cal_90 C hw hi dX2_comeTo_30 ?_
  refine cp_X2_35 C hw dX2_comeTo_31 (fun H locs hw => ?_)
  exact cw_X2_comeTo_34 fu C hret x1 (fup F 11 (G 90 x1.toNatClampNeg)) G hm hw (lv_sub hl [0, 1] rfl)
theorem cn_X2_comeTo_16 (fu : Nat) {res : Int32 × PF × PG} (x1 : Int32) (F : PF) (G : PG) (hm : cb_X2_comeTo_16 fu x1 F G = some res) : xn F ≤ xn res.2.1 := by
  unfold cb_X2_comeTo_16 at hm
  exact Nat.le_trans (Nat.le_of_eq (xn_fup (by decide)).symm) (cn_X2_comeTo_21 fu x1 (fup F 9 x1) G hm)
theorem cw_X2_comeTo_16 (fu : Nat) {res : Int32 × PF × PG} (C : cMC p R s m args c A v RX2 cX2_comeTo 2 0 0 (xn res.2.1 - xn K0)) (hret : ∀ (b1 : Nat) (H1 : Heap) (locs1 : List Loc) (ls1 : Array Slot) (pc : Nat), cMW s A v a b1 K0 res.2.1 res.2.2 H1 locs1 → decode cX2_comeTo pc = .ok (.return_, 1) → W p l e R s m args below meth c H1 locs1 (xn res.2.1 - xn K0) (2 * (xn res.2.1 - xn K0)) Q (F0 m pc ls1 [])) (x1 : Int32) (F : PF) (G : PG) (hm : cb_X2_comeTo_16 fu x1 F G = some res) {b : Nat} {H : Heap} {locs : List Loc} (hw : cMW s A v a b K0 F G H locs) {ls : Array Slot} (hl : lv_has ls 2 [(0, .ref (a 202)), (1, .int x1)]) : W p l e R s m args below meth c H locs (xn F - xn K0) (2 * (xn F - xn K0)) Q (F0 m 16 ls []) := by
  have hx := C.1
  have hb := C.2.1
  unfold cb_X2_comeTo_16 at hm
  refine lv_aload_n hx hb dX2_comeTo_16 rfl (lv_at hl 0 rfl) ?_
  refine lv_iload_n hx hb dX2_comeTo_17 rfl (lv_at hl 1 rfl) ?_
  refine cp_X2_26 C hw dX2_comeTo_18 (fun H locs hw => ?_)
  exact cw_X2_comeTo_21 fu C hret x1 (fup F 9 x1) G hm hw (lv_sub hl [0, 1] rfl)
theorem cn_X2_comeTo_4 (fu : Nat) {res : Int32 × PF × PG} (x1 : Int32) (F : PF) (G : PG) (hm : cb_X2_comeTo_4 fu x1 F G = some res) : xn F ≤ xn res.2.1 := by
  unfold cb_X2_comeTo_4 at hm
  by_cases c_1 : x1 < (F 93)
  · have hm := (if_pos c_1).symm.trans hm
    exact (cn_X2_comeTo_16 fu x1 F G hm)
  · have hm := (if_neg c_1).symm.trans hm
    exact (cn_X2_comeTo_15 fu F G hm)
theorem cw_X2_comeTo_4 (fu : Nat) {res : Int32 × PF × PG} (C : cMC p R s m args c A v RX2 cX2_comeTo 2 0 0 (xn res.2.1 - xn K0)) (hret : ∀ (b1 : Nat) (H1 : Heap) (locs1 : List Loc) (ls1 : Array Slot) (pc : Nat), cMW s A v a b1 K0 res.2.1 res.2.2 H1 locs1 → decode cX2_comeTo pc = .ok (.return_, 1) → W p l e R s m args below meth c H1 locs1 (xn res.2.1 - xn K0) (2 * (xn res.2.1 - xn K0)) Q (F0 m pc ls1 [])) (x1 : Int32) (F : PF) (G : PG) (hm : cb_X2_comeTo_4 fu x1 F G = some res) {b : Nat} {H : Heap} {locs : List Loc} (hw : cMW s A v a b K0 F G H locs) {ls : Array Slot} (hl : lv_has ls 2 [(0, .ref (a 202)), (1, .int x1)]) : W p l e R s m args below meth c H locs (xn F - xn K0) (2 * (xn F - xn K0)) Q (F0 m 4 ls []) := by
  have hx := C.1
  have hb := C.2.1
  unfold cb_X2_comeTo_4 at hm
  refine lv_iload_n hx hb dX2_comeTo_4 rfl (lv_at hl 1 rfl) ?_
  refine lv_aload_n hx hb dX2_comeTo_5 rfl (lv_at hl 0 rfl) ?_
  refine cg_X2_9 C hw dX2_comeTo_6 ?_
  refine cg_X2_37 C hw dX2_comeTo_9 ?_
  refine lv_icmp_lt (tgt := 16) hx hb dX2_comeTo_12 (by decide) (fun c_1 => ?_) (fun c_1 => ?_)
  · have hm := (if_pos c_1).symm.trans hm
    exact cw_X2_comeTo_16 fu C hret x1 F G hm hw (lv_sub hl [0, 1] rfl)
  · have hm := (if_neg c_1).symm.trans hm
    exact cw_X2_comeTo_15 fu C hret F G hm hw (lv_sub hl [] rfl)
theorem cn_X2_comeTo_0 (fu : Nat) {res : Int32 × PF × PG} (x1 : Int32) (F : PF) (G : PG) (hm : cb_X2_comeTo_0 fu x1 F G = some res) : xn F ≤ xn res.2.1 := by
  unfold cb_X2_comeTo_0 at hm
  by_cases c_1 : x1 < (0 : Int32)
  · have hm := (if_pos c_1).symm.trans hm
    exact (cn_X2_comeTo_15 fu F G hm)
  · have hm := (if_neg c_1).symm.trans hm
    exact (cn_X2_comeTo_4 fu x1 F G hm)
theorem cw_X2_comeTo_0 (fu : Nat) {res : Int32 × PF × PG} (C : cMC p R s m args c A v RX2 cX2_comeTo 2 0 0 (xn res.2.1 - xn K0)) (hret : ∀ (b1 : Nat) (H1 : Heap) (locs1 : List Loc) (ls1 : Array Slot) (pc : Nat), cMW s A v a b1 K0 res.2.1 res.2.2 H1 locs1 → decode cX2_comeTo pc = .ok (.return_, 1) → W p l e R s m args below meth c H1 locs1 (xn res.2.1 - xn K0) (2 * (xn res.2.1 - xn K0)) Q (F0 m pc ls1 [])) (x1 : Int32) (F : PF) (G : PG) (hm : cb_X2_comeTo_0 fu x1 F G = some res) {b : Nat} {H : Heap} {locs : List Loc} (hw : cMW s A v a b K0 F G H locs) {ls : Array Slot} (hl : lv_has ls 2 [(0, .ref (a 202)), (1, .int x1)]) : W p l e R s m args below meth c H locs (xn F - xn K0) (2 * (xn F - xn K0)) Q (F0 m 0 ls []) := by
  have hx := C.1
  have hb := C.2.1
  unfold cb_X2_comeTo_0 at hm
  refine lv_iload_n hx hb dX2_comeTo_0 rfl (lv_at hl 1 rfl) ?_
  refine lv_if_lt (tgt := 15) hx hb dX2_comeTo_1 (by decide) (fun c_1 => ?_) (fun c_1 => ?_)
  · have hm := (if_pos c_1).symm.trans hm
    exact cw_X2_comeTo_15 fu C hret F G hm hw (lv_sub hl [] rfl)
  · have hm := (if_neg c_1).symm.trans hm
    exact cw_X2_comeTo_4 fu C hret x1 F G hm hw (lv_sub hl [0, 1] rfl)
theorem cn_X2_comeTo (fu : Nat) (x1 : Int32) (F : PF) (G : PG) (q : Int32 × PF × PG) (hm : cf_X2_comeTo fu x1 F G = some q) : xn F ≤ xn q.2.1 := cn_X2_comeTo_0 fu x1 F G hm
theorem ck_X2_comeTo (l : Launch) (v : EV) (a : Nat → Nat) (b sz : Nat) (fu : Nat) (x1 : Int32) (F : PF) (G : PG) (r : Int32) (F1 : PF) (G1 : PG) (hm : cf_X2_comeTo fu x1 F G = some (r, F1, G1)) : cMV l yX2_comeTo cX2_comeTo 2 0 0 v a b sz [.ref (a 202), .int x1] F G F1 G1 := cMV.of (by decide) (Nat.le_of_ble_eq_true rfl) (fun p e R s m args below meth c Q A H locs ls C hw hl hret => cw_X2_comeTo_0 fu (res := (r, F1, G1)) C hret x1 F G hm hw hl)
def cb_X2_start_15 (fu : Nat) (F : PF) (G : PG) : PR := some (0, F, G)
def cb_X2_start_10 (fu : Nat) (F : PF) (G : PG) : PR := (cf_X2_comeTo fu 0 F G).bind (fun q => cb_X2_start_15 fu q.2.1 q.2.2)
def cb_X2_start_5 (fu : Nat) (F : PF) (G : PG) : PR := cb_X2_start_10 fu (fup F 14 (0 : Int32)) G
def cb_X2_start_0 (fu : Nat) (F : PF) (G : PG) : PR := cb_X2_start_5 fu (fup F 10 (0 : Int32)) G
def cf_X2_start (fu : Nat) (F : PF) (G : PG) : PR := cb_X2_start_0 fu F G
theorem cn_X2_start_15 (fu : Nat) {res : Int32 × PF × PG} (F : PF) (G : PG) (hm : cb_X2_start_15 fu F G = some res) : xn F ≤ xn res.2.1 := by
  unfold cb_X2_start_15 at hm
  obtain rfl := Option.some.inj hm
  exact Nat.le_refl _
theorem cw_X2_start_15 (fu : Nat) {res : Int32 × PF × PG} (C : cMC p R s m args c A v RX2 cX2_start 1 1 21 (xn res.2.1 - xn K0)) (hret : ∀ (b1 : Nat) (H1 : Heap) (locs1 : List Loc) (ls1 : Array Slot) (pc : Nat), cMW s A v a b1 K0 res.2.1 res.2.2 H1 locs1 → decode cX2_start pc = .ok (.return_, 1) → W p l e R s m args below meth c H1 locs1 (xn res.2.1 - xn K0) (2 * (xn res.2.1 - xn K0)) Q (F0 m pc ls1 [])) (F : PF) (G : PG) (hm : cb_X2_start_15 fu F G = some res) {b : Nat} {H : Heap} {locs : List Loc} (hw : cMW s A v a b K0 F G H locs) {ls : Array Slot} (hl : lv_has ls 1 []) : W p l e R s m args below meth c H locs (xn F - xn K0) (2 * (xn F - xn K0)) Q (F0 m 15 ls []) := by
  have hx := C.1
  have hb := C.2.1
  unfold cb_X2_start_15 at hm
  obtain rfl := Option.some.inj hm
  exact hret _ _ _ _ _ hw dX2_start_15
theorem cn_X2_start_10 (fu : Nat) {res : Int32 × PF × PG} (F : PF) (G : PG) (hm : cb_X2_start_10 fu F G = some res) : xn F ≤ xn res.2.1 := by
  unfold cb_X2_start_10 at hm
  obtain ⟨⟨r1, F1, G1⟩, hc, hm⟩ := bind_elim hm
  exact Nat.le_trans (cn_X2_comeTo fu 0 F G _ hc) (cn_X2_start_15 fu F1 G1 hm)
theorem cw_X2_start_10 (fu : Nat) {res : Int32 × PF × PG} (C : cMC p R s m args c A v RX2 cX2_start 1 1 21 (xn res.2.1 - xn K0)) (hret : ∀ (b1 : Nat) (H1 : Heap) (locs1 : List Loc) (ls1 : Array Slot) (pc : Nat), cMW s A v a b1 K0 res.2.1 res.2.2 H1 locs1 → decode cX2_start pc = .ok (.return_, 1) → W p l e R s m args below meth c H1 locs1 (xn res.2.1 - xn K0) (2 * (xn res.2.1 - xn K0)) Q (F0 m pc ls1 [])) (F : PF) (G : PG) (hm : cb_X2_start_10 fu F G = some res) {b : Nat} {H : Heap} {locs : List Loc} (hw : cMW s A v a b K0 F G H locs) {ls : Array Slot} (hl : lv_has ls 1 [(0, .ref (a 202))]) : W p l e R s m args below meth c H locs (xn F - xn K0) (2 * (xn F - xn K0)) Q (F0 m 10 ls []) := by
  have hx := C.1
  have hb := C.2.1
  unfold cb_X2_start_10 at hm
  refine lv_aload_n hx hb dX2_start_10 rfl (lv_at hl 0 rfl) ?_
  refine lv_iconst (v := 0) hx hb dX2_start_11 (by decide) ?_
  obtain ⟨⟨r1, F1, G1⟩, hc, hm⟩ := bind_elim hm
  refine ccallV (n := 1) (As := [.int 0]) (rest := []) C hw (ck_X2_comeTo l v a _ _ fu 0 F G r1 F1 G1 hc) (cn_X2_comeTo fu 0 F G _ hc) (Nat.sub_le_sub_right (cn_X2_start_15 fu F1 G1 hm) _) (crecv_X2 C hw) cm_311 cm_312 cm_313 cm_307 cm_314 (by decide +kernel) rfl (by omega) (by omega) hl.1 rfl (Nat.le_of_ble_eq_true rfl) dX2_start_12 (fun b H locs hw => ?_)
  exact cw_X2_start_15 fu C hret F1 G1 hm hw (lv_sub hl [] rfl)
theorem cn_X2_start_5 (fu : Nat) {res : Int32 × PF × PG} (F : PF) (G : PG) (hm : cb_X2_start_5 fu F G = some res) : xn F ≤ xn res.2.1 := by
  unfold cb_X2_start_5 at hm
  exact Nat.le_trans (Nat.le_of_eq (xn_fup (by decide)).symm) (cn_X2_start_10 fu (fup F 14 (0 : Int32)) G hm)
theorem cw_X2_start_5 (fu : Nat) {res : Int32 × PF × PG} (C : cMC p R s m args c A v RX2 cX2_start 1 1 21 (xn res.2.1 - xn K0)) (hret : ∀ (b1 : Nat) (H1 : Heap) (locs1 : List Loc) (ls1 : Array Slot) (pc : Nat), cMW s A v a b1 K0 res.2.1 res.2.2 H1 locs1 → decode cX2_start pc = .ok (.return_, 1) → W p l e R s m args below meth c H1 locs1 (xn res.2.1 - xn K0) (2 * (xn res.2.1 - xn K0)) Q (F0 m pc ls1 [])) (F : PF) (G : PG) (hm : cb_X2_start_5 fu F G = some res) {b : Nat} {H : Heap} {locs : List Loc} (hw : cMW s A v a b K0 F G H locs) {ls : Array Slot} (hl : lv_has ls 1 [(0, .ref (a 202))]) : W p l e R s m args below meth c H locs (xn F - xn K0) (2 * (xn F - xn K0)) Q (F0 m 5 ls []) := by
  have hx := C.1
  have hb := C.2.1
  unfold cb_X2_start_5 at hm
  refine lv_aload_n hx hb dX2_start_5 rfl (lv_at hl 0 rfl) ?_
  refine lv_iconst (v := 0) hx hb dX2_start_6 (by decide) ?_
  refine cp_X2_19 C hw dX2_start_7 (fun H locs hw => ?_)
  exact cw_X2_start_10 fu C hret (fup F 14 (0 : Int32)) G hm hw (lv_sub hl [0] rfl)
theorem cn_X2_start_0 (fu : Nat) {res : Int32 × PF × PG} (F : PF) (G : PG) (hm : cb_X2_start_0 fu F G = some res) : xn F ≤ xn res.2.1 := by
  unfold cb_X2_start_0 at hm
  exact Nat.le_trans (Nat.le_of_eq (xn_fup (by decide)).symm) (cn_X2_start_5 fu (fup F 10 (0 : Int32)) G hm)
theorem cw_X2_start_0 (fu : Nat) {res : Int32 × PF × PG} (C : cMC p R s m args c A v RX2 cX2_start 1 1 21 (xn res.2.1 - xn K0)) (hret : ∀ (b1 : Nat) (H1 : Heap) (locs1 : List Loc) (ls1 : Array Slot) (pc : Nat), cMW s A v a b1 K0 res.2.1 res.2.2 H1 locs1 → decode cX2_start pc = .ok (.return_, 1) → W p l e R s m args below meth c H1 locs1 (xn res.2.1 - xn K0) (2 * (xn res.2.1 - xn K0)) Q (F0 m pc ls1 [])) (F : PF) (G : PG) (hm : cb_X2_start_0 fu F G = some res) {b : Nat} {H : Heap} {locs : List Loc} (hw : cMW s A v a b K0 F G H locs) {ls : Array Slot} (hl : lv_has ls 1 [(0, .ref (a 202))]) : W p l e R s m args below meth c H locs (xn F - xn K0) (2 * (xn F - xn K0)) Q (F0 m 0 ls []) := by
  have hx := C.1
  have hb := C.2.1
  unfold cb_X2_start_0 at hm
  refine lv_aload_n hx hb dX2_start_0 rfl (lv_at hl 0 rfl) ?_
  refine lv_iconst (v := 0) hx hb dX2_start_1 (by decide) ?_
  refine cp_X2_15 C hw dX2_start_2 (fun H locs hw => ?_)
  exact cw_X2_start_5 fu C hret (fup F 10 (0 : Int32)) G hm hw (lv_sub hl [0] rfl)
theorem cn_X2_start (fu : Nat) (F : PF) (G : PG) (q : Int32 × PF × PG) (hm : cf_X2_start fu F G = some q) : xn F ≤ xn q.2.1 := cn_X2_start_0 fu F G hm
theorem ck_X2_start (l : Launch) (v : EV) (a : Nat → Nat) (b sz : Nat) (fu : Nat) (F : PF) (G : PG) (r : Int32) (F1 : PF) (G1 : PG) (hm : cf_X2_start fu F G = some (r, F1, G1)) : cMV l yX2_start cX2_start 1 1 21 v a b sz [.ref (a 202)] F G F1 G1 := cMV.of (by decide) (Nat.le_of_ble_eq_true rfl) (fun p e R s m args below meth c Q A H locs ls C hw hl hret => cw_X2_start_0 fu (res := (r, F1, G1)) C hret F G hm hw hl)
def cb_X10_kind_22 (fu : Nat) (z0 : Int32) (F : PF) (G : PG) : PR := some (z0, F, G)
def cb_X10_kind_12 (fu : Nat) (F : PF) (G : PG) : PR := cb_X10_kind_22 fu 0 F G
def cb_X10_kind_16 (fu : Nat) (x1 : Int32) (F : PF) (G : PG) : PR := if ixb x1 4001 = true then (cb_X10_kind_22 fu (G 90 x1.toNatClampNeg) F G) else none
def cb_X10_kind_4 (fu : Nat) (x1 : Int32) (F : PF) (G : PG) : PR := if x1 < (F 93) then cb_X10_kind_16 fu x1 F G else cb_X10_kind_12 fu F G
def cb_X10_kind_0 (fu : Nat) (x1 : Int32) (F : PF) (G : PG) : PR := if x1 < (0 : Int32) then cb_X10_kind_12 fu F G else cb_X10_kind_4 fu x1 F G
def cf_X10_kind (fu : Nat) (x1 : Int32) (F : PF) (G : PG) : PR := cb_X10_kind_0 fu x1 F G
theorem cn_X10_kind_22 (fu : Nat) {res : Int32 × PF × PG} (z0 : Int32) (F : PF) (G : PG) (hm : cb_X10_kind_22 fu z0 F G = some res) : xn F ≤ xn res.2.1 := by
  unfold cb_X10_kind_22 at hm
  obtain rfl := Option.some.inj hm
  exact Nat.le_refl _
theorem cw_X10_kind_22 (fu : Nat) {res : Int32 × PF × PG} (C : cMC p R s m args c A v RX10 cX10_kind 2 0 0 (xn res.2.1 - xn K0)) (hret : ∀ (b1 : Nat) (H1 : Heap) (locs1 : List Loc) (ls1 : Array Slot) (pc : Nat), cMW s A v a b1 K0 res.2.1 res.2.2 H1 locs1 → narrow .int (.int res.1) = .int res.1 → decode cX10_kind pc = .ok (.ireturn, 1) → W p l e R s m args below meth c H1 locs1 (xn res.2.1 - xn K0) (2 * (xn res.2.1 - xn K0)) Q (F0 m pc ls1 [.int res.1])) (z0 : Int32) (F : PF) (G : PG) (hm : cb_X10_kind_22 fu z0 F G = some res) {b : Nat} {H : Heap} {locs : List Loc} (hw : cMW s A v a b K0 F G H locs) {ls : Array Slot} (hl : lv_has ls 2 []) : W p l e R s m args below meth c H locs (xn F - xn K0) (2 * (xn F - xn K0)) Q (F0 m 22 ls [.int z0]) := by
  have hx := C.1
  have hb := C.2.1
  unfold cb_X10_kind_22 at hm
  obtain rfl := Option.some.inj hm
  exact hret _ _ _ _ _ hw rfl dX10_kind_22
theorem cn_X10_kind_12 (fu : Nat) {res : Int32 × PF × PG} (F : PF) (G : PG) (hm : cb_X10_kind_12 fu F G = some res) : xn F ≤ xn res.2.1 := by
  unfold cb_X10_kind_12 at hm
  exact (cn_X10_kind_22 fu 0 F G hm)
theorem cw_X10_kind_12 (fu : Nat) {res : Int32 × PF × PG} (C : cMC p R s m args c A v RX10 cX10_kind 2 0 0 (xn res.2.1 - xn K0)) (hret : ∀ (b1 : Nat) (H1 : Heap) (locs1 : List Loc) (ls1 : Array Slot) (pc : Nat), cMW s A v a b1 K0 res.2.1 res.2.2 H1 locs1 → narrow .int (.int res.1) = .int res.1 → decode cX10_kind pc = .ok (.ireturn, 1) → W p l e R s m args below meth c H1 locs1 (xn res.2.1 - xn K0) (2 * (xn res.2.1 - xn K0)) Q (F0 m pc ls1 [.int res.1])) (F : PF) (G : PG) (hm : cb_X10_kind_12 fu F G = some res) {b : Nat} {H : Heap} {locs : List Loc} (hw : cMW s A v a b K0 F G H locs) {ls : Array Slot} (hl : lv_has ls 2 []) : W p l e R s m args below meth c H locs (xn F - xn K0) (2 * (xn F - xn K0)) Q (F0 m 12 ls []) := by
  have hx := C.1
  have hb := C.2.1
  unfold cb_X10_kind_12 at hm
  refine lv_iconst (v := 0) hx hb dX10_kind_12 (by decide) ?_
  refine lv_goto (tgt := 22) hx hb dX10_kind_13 (by decide) ?_
  exact cw_X10_kind_22 fu C hret 0 F G hm hw (lv_sub hl [] rfl)
theorem cn_X10_kind_16 (fu : Nat) {res : Int32 × PF × PG} (x1 : Int32) (F : PF) (G : PG) (hm : cb_X10_kind_16 fu x1 F G = some res) : xn F ≤ xn res.2.1 := by
  unfold cb_X10_kind_16 at hm
  have hm := (ix_elim hm).2
  exact (cn_X10_kind_22 fu (G 90 x1.toNatClampNeg) F G hm)
theorem cw_X10_kind_16 (fu : Nat) {res : Int32 × PF × PG} (C : cMC p R s m args c A v RX10 cX10_kind 2 0 0 (xn res.2.1 - xn K0)) (hret : ∀ (b1 : Nat) (H1 : Heap) (locs1 : List Loc) (ls1 : Array Slot) (pc : Nat), cMW s A v a b1 K0 res.2.1 res.2.2 H1 locs1 → narrow .int (.int res.1) = .int res.1 → decode cX10_kind pc = .ok (.ireturn, 1) → W p l e R s m args below meth c H1 locs1 (xn res.2.1 - xn K0) (2 * (xn res.2.1 - xn K0)) Q (F0 m pc ls1 [.int res.1])) (x1 : Int32) (F : PF) (G : PG) (hm : cb_X10_kind_16 fu x1 F G = some res) {b : Nat} {H : Heap} {locs : List Loc} (hw : cMW s A v a b K0 F G H locs) {ls : Array Slot} (hl : lv_has ls 2 [(0, .ref (a 210)), (1, .int x1)]) : W p l e R s m args below meth c H locs (xn F - xn K0) (2 * (xn F - xn K0)) Q (F0 m 16 ls []) := by
  have hx := C.1
  have hb := C.2.1
  unfold cb_X10_kind_16 at hm
  refine lv_aload_n hx hb dX10_kind_16 rfl (lv_at hl 0 rfl) ?_
  refine cg_X10_9 C hw dX10_kind_17 ?_
  refine lv_iload_n hx hb dX10_kind_20 rfl (lv_at hl 1 rfl) ?_
  obtain ⟨hi, hm⟩ := ix_elim hm
  refine cal_90 C hw hi dX10_kind_21 ?_
  exact cw_X10_kind_22 fu C hret (G 90 x1.toNatClampNeg) F G hm hw (lv_sub hl [] rfl)
theorem cn_X10_kind_4 (fu : Nat) {res : Int32 × PF × PG} (x1 : Int32) (F : PF) (G : PG) (hm : cb_X10_kind_4 fu x1 F G = some res) : xn F ≤ xn res.2.1 := by
  unfold cb_X10_kind_4 at hm
  by_cases c_1 : x1 < (F 93)
  · have hm := (if_pos c_1).symm.trans hm
    exact (cn_X10_kind_16 fu x1 F G hm)
  · have hm := (if_neg c_1).symm.trans hm
    exact (cn_X10_kind_12 fu F G hm)
theorem cw_X10_kind_4 (fu : Nat) {res : Int32 × PF × PG} (C : cMC p R s m args c A v RX10 cX10_kind 2 0 0 (xn res.2.1 - xn K0)) (hret : ∀ (b1 : Nat) (H1 : Heap) (locs1 : List Loc) (ls1 : Array Slot) (pc : Nat), cMW s A v a b1 K0 res.2.1 res.2.2 H1 locs1 → narrow .int (.int res.1) = .int res.1 → decode cX10_kind pc = .ok (.ireturn, 1) → W p l e R s m args below meth c H1 locs1 (xn res.2.1 - xn K0) (2 * (xn res.2.1 - xn K0)) Q (F0 m pc ls1 [.int res.1])) (x1 : Int32) (F : PF) (G : PG) (hm : cb_X10_kind_4 fu x1 F G = some res) {b : Nat} {H : Heap} {locs : List Loc} (hw : cMW s A v a b K0 F G H locs) {ls : Array Slot} (hl : lv_has ls 2 [(0, .ref (a 210)), (1, .int x1)]) : W p l e R s m args below meth c H locs (xn F - xn K0) (2 * (xn F - xn K0)) Q (F0 m 4 ls []) := by
  have hx := C.1
  have hb := C.2.1
  unfold cb_X10_kind_4 at hm
  refine lv_iload_n hx hb dX10_kind_4 rfl (lv_at hl 1 rfl) ?_
  refine lv_aload_n hx hb dX10_kind_5 rfl (lv_at hl 0 rfl) ?_
  refine cg_X10_37 C hw dX10_kind_6 ?_
  refine lv_icmp_lt (tgt := 16) hx hb dX10_kind_9 (by decide) (fun c_1 => ?_) (fun c_1 => ?_)
  · have hm := (if_pos c_1).symm.trans hm
    exact cw_X10_kind_16 fu C hret x1 F G hm hw (lv_sub hl [0, 1] rfl)
  · have hm := (if_neg c_1).symm.trans hm
    exact cw_X10_kind_12 fu C hret F G hm hw (lv_sub hl [] rfl)
theorem cn_X10_kind_0 (fu : Nat) {res : Int32 × PF × PG} (x1 : Int32) (F : PF) (G : PG) (hm : cb_X10_kind_0 fu x1 F G = some res) : xn F ≤ xn res.2.1 := by
  unfold cb_X10_kind_0 at hm
  by_cases c_1 : x1 < (0 : Int32)
  · have hm := (if_pos c_1).symm.trans hm
    exact (cn_X10_kind_12 fu F G hm)
  · have hm := (if_neg c_1).symm.trans hm
    exact (cn_X10_kind_4 fu x1 F G hm)
theorem cw_X10_kind_0 (fu : Nat) {res : Int32 × PF × PG} (C : cMC p R s m args c A v RX10 cX10_kind 2 0 0 (xn res.2.1 - xn K0)) (hret : ∀ (b1 : Nat) (H1 : Heap) (locs1 : List Loc) (ls1 : Array Slot) (pc : Nat), cMW s A v a b1 K0 res.2.1 res.2.2 H1 locs1 → narrow .int (.int res.1) = .int res.1 → decode cX10_kind pc = .ok (.ireturn, 1) → W p l e R s m args below meth c H1 locs1 (xn res.2.1 - xn K0) (2 * (xn res.2.1 - xn K0)) Q (F0 m pc ls1 [.int res.1])) (x1 : Int32) (F : PF) (G : PG) (hm : cb_X10_kind_0 fu x1 F G = some res) {b : Nat} {H : Heap} {locs : List Loc} (hw : cMW s A v a b K0 F G H locs) {ls : Array Slot} (hl : lv_has ls 2 [(0, .ref (a 210)), (1, .int x1)]) : W p l e R s m args below meth c H locs (xn F - xn K0) (2 * (xn F - xn K0)) Q (F0 m 0 ls []) := by
  have hx := C.1
  have hb := C.2.1
  unfold cb_X10_kind_0 at hm
  refine lv_iload_n hx hb dX10_kind_0 rfl (lv_at hl 1 rfl) ?_
  refine lv_if_lt (tgt := 12) hx hb dX10_kind_1 (by decide) (fun c_1 => ?_) (fun c_1 => ?_)
  · have hm := (if_pos c_1).symm.trans hm
    exact cw_X10_kind_12 fu C hret F G hm hw (lv_sub hl [] rfl)
  · have hm := (if_neg c_1).symm.trans hm
    exact cw_X10_kind_4 fu C hret x1 F G hm hw (lv_sub hl [0, 1] rfl)
theorem cn_X10_kind (fu : Nat) (x1 : Int32) (F : PF) (G : PG) (q : Int32 × PF × PG) (hm : cf_X10_kind fu x1 F G = some q) : xn F ≤ xn q.2.1 := cn_X10_kind_0 fu x1 F G hm
theorem ck_X10_kind (l : Launch) (v : EV) (a : Nat → Nat) (b sz : Nat) (fu : Nat) (x1 : Int32) (F : PF) (G : PG) (r : Int32) (F1 : PF) (G1 : PG) (hm : cf_X10_kind fu x1 F G = some (r, F1, G1)) : cMI l yX10_kind cX10_kind 2 (some .int) 0 0 v a b sz [.ref (a 210), .int x1] F G r F1 G1 := cMI.of (ty := .int) (by decide) rfl (Nat.le_of_ble_eq_true rfl) (fun p e R s m args below meth c Q A H locs ls C hw hl hret => cw_X10_kind_0 fu (res := (r, F1, G1)) C hret x1 F G hm hw hl)
def cb_X2_isNameAlone_39 (fu : Nat) (z0 : Int32) (F : PF) (G : PG) : PR := if b01 z0 = true then (some (z0, F, G)) else none
def cb_X2_isNameAlone_38 (fu : Nat) (F : PF) (G : PG) : PR := cb_X2_isNameAlone_39 fu 0 F G
def cb_X2_isNameAlone_34 (fu : Nat) (F : PF) (G : PG) : PR := cb_X2_isNameAlone_39 fu 1 F G
def cb_X2_isNameAlone_28 (fu : Nat) (x1 : Int32) (F : PF) (G : PG) : PR := if x1 = (20 : Int32) then cb_X2_isNameAlone_34 fu F G else cb_X2_isNameAlone_38 fu F G
def cb_X2_isNameAlone_22 (fu : Nat) (x1 : Int32) (F : PF) (G : PG) : PR := if x1 = (25 : Int32) then cb_X2_isNameAlone_34 fu F G else cb_X2_isNameAlone_28 fu x1 F G
def cb_X2_isNameAlone_13 (fu : Nat) (z0 : Int32) (F : PF) (G : PG) : PR := if (F 11) = (2 : Int32) then cb_X2_isNameAlone_22 fu z0 F G else cb_X2_isNameAlone_38 fu F G
def cb_X2_isNameAlone_0 (fu : Nat) (F : PF) (G : PG) : PR := (cf_X10_kind fu ((F 9) + (1 : Int32)) F G).bind (fun q => cb_X2_isNameAlone_13 fu q.1 q.2.1 q.2.2)
def cf_X2_isNameAlone (fu : Nat) (F : PF) (G : PG) : PR := cb_X2_isNameAlone_0 fu F G
theorem cn_X2_isNameAlone_39 (fu : Nat) {res : Int32 × PF × PG} (z0 : Int32) (F : PF) (G : PG) (hm : cb_X2_isNameAlone_39 fu z0 F G = some res) : xn F ≤ xn res.2.1 := by
  unfold cb_X2_isNameAlone_39 at hm
  have hm := (b01_elim hm).2
  obtain rfl := Option.some.inj hm
  exact Nat.le_refl _
theorem cw_X2_isNameAlone_39 (fu : Nat) {res : Int32 × PF × PG} (C : cMC p R s m args c A v RX2 cX2_isNameAlone 2 1 21 (xn res.2.1 - xn K0)) (hret : ∀ (b1 : Nat) (H1 : Heap) (locs1 : List Loc) (ls1 : Array Slot) (pc : Nat), cMW s A v a b1 K0 res.2.1 res.2.2 H1 locs1 → narrow .boolean (.int res.1) = .int res.1 → decode cX2_isNameAlone pc = .ok (.ireturn, 1) → W p l e R s m args below meth c H1 locs1 (xn res.2.1 - xn K0) (2 * (xn res.2.1 - xn K0)) Q (F0 m pc ls1 [.int res.1])) (z0 : Int32) (F : PF) (G : PG) (hm : cb_X2_isNameAlone_39 fu z0 F G = some res) {b : Nat} {H : Heap} {locs : List Loc} (hw : cMW s A v a b K0 F G H locs) {ls : Array Slot} (hl : lv_has ls 2 []) : W p l e R s m args below meth c H locs (xn F - xn K0) (2 * (xn F - xn K0)) Q (F0 m 39 ls [.int z0]) := by
  have hx := C.1
  have hb := C.2.1
  unfold cb_X2_isNameAlone_39 at hm
  obtain ⟨hz, hm⟩ := b01_elim hm
  obtain rfl := Option.some.inj hm
  exact hret _ _ _ _ _ hw (b01_nar hz) dX2_isNameAlone_39
theorem cn_X2_isNameAlone_38 (fu : Nat) {res : Int32 × PF × PG} (F : PF) (G : PG) (hm : cb_X2_isNameAlone_38 fu F G = some res) : xn F ≤ xn res.2.1 := by
  unfold cb_X2_isNameAlone_38 at hm
  exact (cn_X2_isNameAlone_39 fu 0 F G hm)
theorem cw_X2_isNameAlone_38 (fu : Nat) {res : Int32 × PF × PG} (C : cMC p R s m args c A v RX2 cX2_isNameAlone 2 1 21 (xn res.2.1 - xn K0)) (hret : ∀ (b1 : Nat) (H1 : Heap) (locs1 : List Loc) (ls1 : Array Slot) (pc : Nat), cMW s A v a b1 K0 res.2.1 res.2.2 H1 locs1 → narrow .boolean (.int res.1) = .int res.1 → decode cX2_isNameAlone pc = .ok (.ireturn, 1) → W p l e R s m args below meth c H1 locs1 (xn res.2.1 - xn K0) (2 * (xn res.2.1 - xn K0)) Q (F0 m pc ls1 [.int res.1])) (F : PF) (G : PG) (hm : cb_X2_isNameAlone_38 fu F G = some res) {b : Nat} {H : Heap} {locs : List Loc} (hw : cMW s A v a b K0 F G H locs) {ls : Array Slot} (hl : lv_has ls 2 []) : W p l e R s m args below meth c H locs (xn F - xn K0) (2 * (xn F - xn K0)) Q (F0 m 38 ls []) := by
  have hx := C.1
  have hb := C.2.1
  unfold cb_X2_isNameAlone_38 at hm
  refine lv_iconst (v := 0) hx hb dX2_isNameAlone_38 (by decide) ?_
  exact cw_X2_isNameAlone_39 fu C hret 0 F G hm hw (lv_sub hl [] rfl)
theorem cn_X2_isNameAlone_34 (fu : Nat) {res : Int32 × PF × PG} (F : PF) (G : PG) (hm : cb_X2_isNameAlone_34 fu F G = some res) : xn F ≤ xn res.2.1 := by
  unfold cb_X2_isNameAlone_34 at hm
  exact (cn_X2_isNameAlone_39 fu 1 F G hm)
theorem cw_X2_isNameAlone_34 (fu : Nat) {res : Int32 × PF × PG} (C : cMC p R s m args c A v RX2 cX2_isNameAlone 2 1 21 (xn res.2.1 - xn K0)) (hret : ∀ (b1 : Nat) (H1 : Heap) (locs1 : List Loc) (ls1 : Array Slot) (pc : Nat), cMW s A v a b1 K0 res.2.1 res.2.2 H1 locs1 → narrow .boolean (.int res.1) = .int res.1 → decode cX2_isNameAlone pc = .ok (.ireturn, 1) → W p l e R s m args below meth c H1 locs1 (xn res.2.1 - xn K0) (2 * (xn res.2.1 - xn K0)) Q (F0 m pc ls1 [.int res.1])) (F : PF) (G : PG) (hm : cb_X2_isNameAlone_34 fu F G = some res) {b : Nat} {H : Heap} {locs : List Loc} (hw : cMW s A v a b K0 F G H locs) {ls : Array Slot} (hl : lv_has ls 2 []) : W p l e R s m args below meth c H locs (xn F - xn K0) (2 * (xn F - xn K0)) Q (F0 m 34 ls []) := by
  have hx := C.1
  have hb := C.2.1
  unfold cb_X2_isNameAlone_34 at hm
  refine lv_iconst (v := 1) hx hb dX2_isNameAlone_34 (by decide) ?_
  refine lv_goto (tgt := 39) hx hb dX2_isNameAlone_35 (by decide) ?_
  exact cw_X2_isNameAlone_39 fu C hret 1 F G hm hw (lv_sub hl [] rfl)
theorem cn_X2_isNameAlone_28 (fu : Nat) {res : Int32 × PF × PG} (x1 : Int32) (F : PF) (G : PG) (hm : cb_X2_isNameAlone_28 fu x1 F G = some res) : xn F ≤ xn res.2.1 := by
  unfold cb_X2_isNameAlone_28 at hm
  by_cases c_1 : x1 = (20 : Int32)
  · have hm := (if_pos c_1).symm.trans hm
    exact (cn_X2_isNameAlone_34 fu F G hm)
  · have hm := (if_neg c_1).symm.trans hm
    exact (cn_X2_isNameAlone_38 fu F G hm)
theorem cw_X2_isNameAlone_28 (fu : Nat) {res : Int32 × PF × PG} (C : cMC p R s m args c A v RX2 cX2_isNameAlone 2 1 21 (xn res.2.1 - xn K0)) (hret : ∀ (b1 : Nat) (H1 : Heap) (locs1 : List Loc) (ls1 : Array Slot) (pc : Nat), cMW s A v a b1 K0 res.2.1 res.2.2 H1 locs1 → narrow .boolean (.int res.1) = .int res.1 → decode cX2_isNameAlone pc = .ok (.ireturn, 1) → W p l e R s m args below meth c H1 locs1 (xn res.2.1 - xn K0) (2 * (xn res.2.1 - xn K0)) Q (F0 m pc ls1 [.int res.1])) (x1 : Int32) (F : PF) (G : PG) (hm : cb_X2_isNameAlone_28 fu x1 F G = some res) {b : Nat} {H : Heap} {locs : List Loc} (hw : cMW s A v a b K0 F G H locs) {ls : Array Slot} (hl : lv_has ls 2 [(1, .int x1)]) : W p l e R s m args below meth c H locs (xn F - xn K0) (2 * (xn F - xn K0)) Q (F0 m 28 ls []) := by
  have hx := C.1
  have hb := C.2.1
  unfold cb_X2_isNameAlone_28 at hm
  refine lv_iload_n hx hb dX2_isNameAlone_28 rfl (lv_at hl 0 rfl) ?_
  refine lv_bipush (v := 20) hx hb dX2_isNameAlone_29 (by decide) ?_
  refine lv_icmp_ne (tgt := 38) hx hb dX2_isNameAlone_31 (by decide) (fun c_1 => ?_) (fun c_1 => ?_)
  · have hm := (if_neg c_1).symm.trans hm
    exact cw_X2_isNameAlone_38 fu C hret F G hm hw (lv_sub hl [] rfl)
  · have hm := (if_pos c_1).symm.trans hm
    exact cw_X2_isNameAlone_34 fu C hret F G hm hw (lv_sub hl [] rfl)
theorem cn_X2_isNameAlone_22 (fu : Nat) {res : Int32 × PF × PG} (x1 : Int32) (F : PF) (G : PG) (hm : cb_X2_isNameAlone_22 fu x1 F G = some res) : xn F ≤ xn res.2.1 := by
  unfold cb_X2_isNameAlone_22 at hm
  by_cases c_1 : x1 = (25 : Int32)
  · have hm := (if_pos c_1).symm.trans hm
    exact (cn_X2_isNameAlone_34 fu F G hm)
  · have hm := (if_neg c_1).symm.trans hm
    exact (cn_X2_isNameAlone_28 fu x1 F G hm)
theorem cw_X2_isNameAlone_22 (fu : Nat) {res : Int32 × PF × PG} (C : cMC p R s m args c A v RX2 cX2_isNameAlone 2 1 21 (xn res.2.1 - xn K0)) (hret : ∀ (b1 : Nat) (H1 : Heap) (locs1 : List Loc) (ls1 : Array Slot) (pc : Nat), cMW s A v a b1 K0 res.2.1 res.2.2 H1 locs1 → narrow .boolean (.int res.1) = .int res.1 → decode cX2_isNameAlone pc = .ok (.ireturn, 1) → W p l e R s m args below meth c H1 locs1 (xn res.2.1 - xn K0) (2 * (xn res.2.1 - xn K0)) Q (F0 m pc ls1 [.int res.1])) (x1 : Int32) (F : PF) (G : PG) (hm : cb_X2_isNameAlone_22 fu x1 F G = some res) {b : Nat} {H : Heap} {locs : List Loc} (hw : cMW s A v a b K0 F G H locs) {ls : Array Slot} (hl : lv_has ls 2 [(1, .int x1)]) : W p l e R s m args below meth c H locs (xn F - xn K0) (2 * (xn F - xn K0)) Q (F0 m 22 ls []) := by
  have hx := C.1
  have hb := C.2.1
  unfold cb_X2_isNameAlone_22 at hm
  refine lv_iload_n hx hb dX2_isNameAlone_22 rfl (lv_at hl 0 rfl) ?_
  refine lv_bipush (v := 25) hx hb dX2_isNameAlone_23 (by decide) ?_
  refine lv_icmp_eq (tgt := 34) hx hb dX2_isNameAlone_25 (by decide) (fun c_1 => ?_) (fun c_1 => ?_)
  · have hm := (if_pos c_1).symm.trans hm
    exact cw_X2_isNameAlone_34 fu C hret F G hm hw (lv_sub hl [] rfl)
  · have hm := (if_neg c_1).symm.trans hm
    exact cw_X2_isNameAlone_28 fu C hret x1 F G hm hw (lv_sub hl [0] rfl)
theorem cn_X2_isNameAlone_13 (fu : Nat) {res : Int32 × PF × PG} (z0 : Int32) (F : PF) (G : PG) (hm : cb_X2_isNameAlone_13 fu z0 F G = some res) : xn F ≤ xn res.2.1 := by
  unfold cb_X2_isNameAlone_13 at hm
  by_cases c_1 : (F 11) = (2 : Int32)
  · have hm := (if_pos c_1).symm.trans hm
    exact (cn_X2_isNameAlone_22 fu z0 F G hm)
  · have hm := (if_neg c_1).symm.trans hm
    exact (cn_X2_isNameAlone_38 fu F G hm)
theorem cw_X2_isNameAlone_13 (fu : Nat) {res : Int32 × PF × PG} (C : cMC p R s m args c A v RX2 cX2_isNameAlone 2 1 21 (xn res.2.1 - xn K0)) (hret : ∀ (b1 : Nat) (H1 : Heap) (locs1 : List Loc) (ls1 : Array Slot) (pc : Nat), cMW s A v a b1 K0 res.2.1 res.2.2 H1 locs1 → narrow .boolean (.int res.1) = .int res.1 → decode cX2_isNameAlone pc = .ok (.ireturn, 1) → W p l e R s m args below meth c H1 locs1 (xn res.2.1 - xn K0) (2 * (xn res.2.1 - xn K0)) Q (F0 m pc ls1 [.int res.1])) (z0 : Int32) (F : PF) (G : PG) (hm : cb_X2_isNameAlone_13 fu z0 F G = some res) {b : Nat} {H : Heap} {locs : List Loc} (hw : cMW s A v a b K0 F G H locs) {ls : Array Slot} (hl : lv_has ls 2 [(0, .ref (a 202))]) : W p l e R s m args below meth c H locs (xn F - xn K0) (2 * (xn F - xn K0)) Q (F0 m 13 ls [.int z0]) := by
  have hx := C.1
  have hb := C.2.1
  unfold cb_X2_isNameAlone_13 at hm
  refine lv_istore_n (lv' := [(1, .int z0), (0, .ref (a 202))]) hx hb dX2_isNameAlone_13 rfl hl (by decide) rfl (fun ls hl => ?_)
  refine lv_aload_n hx hb dX2_isNameAlone_14 rfl (lv_at hl 1 rfl) ?_
  refine cg_X2_35 C hw dX2_isNameAlone_15 ?_
  refine lv_iconst (v := 2) hx hb dX2_isNameAlone_18 (by decide) ?_
  refine lv_icmp_ne (tgt := 38) hx hb dX2_isNameAlone_19 (by decide) (fun c_1 => ?_) (fun c_1 => ?_)
  · have hm := (if_neg c_1).symm.trans hm
    exact cw_X2_isNameAlone_38 fu C hret F G hm hw (lv_sub hl [] rfl)
  · have hm := (if_pos c_1).symm.trans hm
    exact cw_X2_isNameAlone_22 fu C hret z0 F G hm hw (lv_sub hl [0] rfl)
theorem cn_X2_isNameAlone_0 (fu : Nat) {res : Int32 × PF × PG} (F : PF) (G : PG) (hm : cb_X2_isNameAlone_0 fu F G = some res) : xn F ≤ xn res.2.1 := by
  unfold cb_X2_isNameAlone_0 at hm
  obtain ⟨⟨r1, F1, G1⟩, hc, hm⟩ := bind_elim hm
  exact Nat.le_trans (cn_X10_kind fu ((F 9) + (1 : Int32)) F G _ hc) (cn_X2_isNameAlone_13 fu r1 F1 G1 hm)
theorem cw_X2_isNameAlone_0 (fu : Nat) {res : Int32 × PF × PG} (C : cMC p R s m args c A v RX2 cX2_isNameAlone 2 1 21 (xn res.2.1 - xn K0)) (hret : ∀ (b1 : Nat) (H1 : Heap) (locs1 : List Loc) (ls1 : Array Slot) (pc : Nat), cMW s A v a b1 K0 res.2.1 res.2.2 H1 locs1 → narrow .boolean (.int res.1) = .int res.1 → decode cX2_isNameAlone pc = .ok (.ireturn, 1) → W p l e R s m args below meth c H1 locs1 (xn res.2.1 - xn K0) (2 * (xn res.2.1 - xn K0)) Q (F0 m pc ls1 [.int res.1])) (F : PF) (G : PG) (hm : cb_X2_isNameAlone_0 fu F G = some res) {b : Nat} {H : Heap} {locs : List Loc} (hw : cMW s A v a b K0 F G H locs) {ls : Array Slot} (hl : lv_has ls 2 [(0, .ref (a 202))]) : W p l e R s m args below meth c H locs (xn F - xn K0) (2 * (xn F - xn K0)) Q (F0 m 0 ls []) := by
  have hx := C.1
  have hb := C.2.1
  unfold cb_X2_isNameAlone_0 at hm
  refine lv_aload_n hx hb dX2_isNameAlone_0 rfl (lv_at hl 0 rfl) ?_
  refine cg_X2_9 C hw dX2_isNameAlone_1 ?_
  refine lv_aload_n hx hb dX2_isNameAlone_4 rfl (lv_at hl 0 rfl) ?_
  refine cg_X2_26 C hw dX2_isNameAlone_5 ?_
  refine lv_iconst (v := 1) hx hb dX2_isNameAlone_8 (by decide) ?_
  refine lv_iadd hx hb dX2_isNameAlone_9 ?_
  obtain ⟨⟨r1, F1, G1⟩, hc, hm⟩ := bind_elim hm
  refine ccallI (n := 1) (As := [.int ((F 9) + (1 : Int32))]) (rest := []) C hw (ck_X10_kind l v a _ _ fu ((F 9) + (1 : Int32)) F G r1 F1 G1 hc) (cn_X10_kind fu ((F 9) + (1 : Int32)) F G _ hc) (Nat.sub_le_sub_right (cn_X2_isNameAlone_13 fu r1 F1 G1 hm) _) (crecv_X10 C hw) cm_412 cm_413 cm_414 cm_46 cm_415 (by decide +kernel) rfl (by omega) (by omega) hl.1 rfl (Nat.le_of_ble_eq_true rfl) dX2_isNameAlone_10 (fun b H locs hw => ?_)
  exact cw_X2_isNameAlone_13 fu C hret r1 F1 G1 hm hw (lv_sub hl [0] rfl)
theorem cn_X2_isNameAlone (fu : Nat) (F : PF) (G : PG) (q : Int32 × PF × PG) (hm : cf_X2_isNameAlone fu F G = some q) : xn F ≤ xn q.2.1 := cn_X2_isNameAlone_0 fu F G hm
theorem ck_X2_isNameAlone (l : Launch) (v : EV) (a : Nat → Nat) (b sz : Nat) (fu : Nat) (F : PF) (G : PG) (r : Int32) (F1 : PF) (G1 : PG) (hm : cf_X2_isNameAlone fu F G = some (r, F1, G1)) : cMI l yX2_isNameAlone cX2_isNameAlone 2 (some .boolean) 1 21 v a b sz [.ref (a 202)] F G r F1 G1 := cMI.of (ty := .boolean) (by decide) rfl (Nat.le_of_ble_eq_true rfl) (fun p e R s m args below meth c Q A H locs ls C hw hl hret => cw_X2_isNameAlone_0 fu (res := (r, F1, G1)) C hret F G hm hw hl)
def cb_X2_next_17 (fu : Nat) (F : PF) (G : PG) : PR := some (0, F, G)
def cb_X2_next_7 (fu : Nat) (F : PF) (G : PG) : PR := (cf_X2_comeTo fu ((F 9) + (1 : Int32)) F G).bind (fun q => cb_X2_next_17 fu q.2.1 q.2.2)
def cb_X2_next_0 (fu : Nat) (F : PF) (G : PG) : PR := if (F 14) = (0 : Int32) then cb_X2_next_7 fu F G else cb_X2_next_17 fu F G
def cf_X2_next (fu : Nat) (F : PF) (G : PG) : PR := cb_X2_next_0 fu F G
theorem cn_X2_next_17 (fu : Nat) {res : Int32 × PF × PG} (F : PF) (G : PG) (hm : cb_X2_next_17 fu F G = some res) : xn F ≤ xn res.2.1 := by
  unfold cb_X2_next_17 at hm
  obtain rfl := Option.some.inj hm
  exact Nat.le_refl _
theorem cw_X2_next_17 (fu : Nat) {res : Int32 × PF × PG} (C : cMC p R s m args c A v RX2 cX2_next 1 1 21 (xn res.2.1 - xn K0)) (hret : ∀ (b1 : Nat) (H1 : Heap) (locs1 : List Loc) (ls1 : Array Slot) (pc : Nat), cMW s A v a b1 K0 res.2.1 res.2.2 H1 locs1 → decode cX2_next pc = .ok (.return_, 1) → W p l e R s m args below meth c H1 locs1 (xn res.2.1 - xn K0) (2 * (xn res.2.1 - xn K0)) Q (F0 m pc ls1 [])) (F : PF) (G : PG) (hm : cb_X2_next_17 fu F G = some res) {b : Nat} {H : Heap} {locs : List Loc} (hw : cMW s A v a b K0 F G H locs) {ls : Array Slot} (hl : lv_has ls 1 []) : W p l e R s m args below meth c H locs (xn F - xn K0) (2 * (xn F - xn K0)) Q (F0 m 17 ls []) := by
  have hx := C.1
  have hb := C.2.1
  unfold cb_X2_next_17 at hm
  obtain rfl := Option.some.inj hm
  exact hret _ _ _ _ _ hw dX2_next_17
theorem cn_X2_next_7 (fu : Nat) {res : Int32 × PF × PG} (F : PF) (G : PG) (hm : cb_X2_next_7 fu F G = some res) : xn F ≤ xn res.2.1 := by
  unfold cb_X2_next_7 at hm
  obtain ⟨⟨r1, F1, G1⟩, hc, hm⟩ := bind_elim hm
  exact Nat.le_trans (cn_X2_comeTo fu ((F 9) + (1 : Int32)) F G _ hc) (cn_X2_next_17 fu F1 G1 hm)
theorem cw_X2_next_7 (fu : Nat) {res : Int32 × PF × PG} (C : cMC p R s m args c A v RX2 cX2_next 1 1 21 (xn res.2.1 - xn K0)) (hret : ∀ (b1 : Nat) (H1 : Heap) (locs1 : List Loc) (ls1 : Array Slot) (pc : Nat), cMW s A v a b1 K0 res.2.1 res.2.2 H1 locs1 → decode cX2_next pc = .ok (.return_, 1) → W p l e R s m args below meth c H1 locs1 (xn res.2.1 - xn K0) (2 * (xn res.2.1 - xn K0)) Q (F0 m pc ls1 [])) (F : PF) (G : PG) (hm : cb_X2_next_7 fu F G = some res) {b : Nat} {H : Heap} {locs : List Loc} (hw : cMW s A v a b K0 F G H locs) {ls : Array Slot} (hl : lv_has ls 1 [(0, .ref (a 202))]) : W p l e R s m args below meth c H locs (xn F - xn K0) (2 * (xn F - xn K0)) Q (F0 m 7 ls []) := by
  have hx := C.1
  have hb := C.2.1
  unfold cb_X2_next_7 at hm
  refine lv_aload_n hx hb dX2_next_7 rfl (lv_at hl 0 rfl) ?_
  refine lv_aload_n hx hb dX2_next_8 rfl (lv_at hl 0 rfl) ?_
  refine cg_X2_26 C hw dX2_next_9 ?_
  refine lv_iconst (v := 1) hx hb dX2_next_12 (by decide) ?_
  refine lv_iadd hx hb dX2_next_13 ?_
  obtain ⟨⟨r1, F1, G1⟩, hc, hm⟩ := bind_elim hm
  refine ccallV (n := 1) (As := [.int ((F 9) + (1 : Int32))]) (rest := []) C hw (ck_X2_comeTo l v a _ _ fu ((F 9) + (1 : Int32)) F G r1 F1 G1 hc) (cn_X2_comeTo fu ((F 9) + (1 : Int32)) F G _ hc) (Nat.sub_le_sub_right (cn_X2_next_17 fu F1 G1 hm) _) (crecv_X2 C hw) cm_311 cm_312 cm_313 cm_307 cm_314 (by decide +kernel) rfl (by omega) (by omega) hl.1 rfl (Nat.le_of_ble_eq_true rfl) dX2_next_14 (fun b H locs hw => ?_)
  exact cw_X2_next_17 fu C hret F1 G1 hm hw (lv_sub hl [] rfl)
theorem cn_X2_next_0 (fu : Nat) {res : Int32 × PF × PG} (F : PF) (G : PG) (hm : cb_X2_next_0 fu F G = some res) : xn F ≤ xn res.2.1 := by
  unfold cb_X2_next_0 at hm
  by_cases c_1 : (F 14) = (0 : Int32)
  · have hm := (if_pos c_1).symm.trans hm
    exact (cn_X2_next_7 fu F G hm)
  · have hm := (if_neg c_1).symm.trans hm
    exact (cn_X2_next_17 fu F G hm)
theorem cw_X2_next_0 (fu : Nat) {res : Int32 × PF × PG} (C : cMC p R s m args c A v RX2 cX2_next 1 1 21 (xn res.2.1 - xn K0)) (hret : ∀ (b1 : Nat) (H1 : Heap) (locs1 : List Loc) (ls1 : Array Slot) (pc : Nat), cMW s A v a b1 K0 res.2.1 res.2.2 H1 locs1 → decode cX2_next pc = .ok (.return_, 1) → W p l e R s m args below meth c H1 locs1 (xn res.2.1 - xn K0) (2 * (xn res.2.1 - xn K0)) Q (F0 m pc ls1 [])) (F : PF) (G : PG) (hm : cb_X2_next_0 fu F G = some res) {b : Nat} {H : Heap} {locs : List Loc} (hw : cMW s A v a b K0 F G H locs) {ls : Array Slot} (hl : lv_has ls 1 [(0, .ref (a 202))]) : W p l e R s m args below meth c H locs (xn F - xn K0) (2 * (xn F - xn K0)) Q (F0 m 0 ls []) := by
  have hx := C.1
  have hb := C.2.1
  unfold cb_X2_next_0 at hm
  refine lv_aload_n hx hb dX2_next_0 rfl (lv_at hl 0 rfl) ?_
  refine cg_X2_19 C hw dX2_next_1 ?_
  refine lv_if_ne (tgt := 17) hx hb dX2_next_4 (by decide) (fun c_1 => ?_) (fun c_1 => ?_)
  · have hm := (if_neg c_1).symm.trans hm
    exact cw_X2_next_17 fu C hret F G hm hw (lv_sub hl [] rfl)
  · have hm := (if_pos c_1).symm.trans hm
    exact cw_X2_next_7 fu C hret F G hm hw (lv_sub hl [0] rfl)
theorem cn_X2_next (fu : Nat) (F : PF) (G : PG) (q : Int32 × PF × PG) (hm : cf_X2_next fu F G = some q) : xn F ≤ xn q.2.1 := cn_X2_next_0 fu F G hm
theorem ck_X2_next (l : Launch) (v : EV) (a : Nat → Nat) (b sz : Nat) (fu : Nat) (F : PF) (G : PG) (r : Int32) (F1 : PF) (G1 : PG) (hm : cf_X2_next fu F G = some (r, F1, G1)) : cMV l yX2_next cX2_next 1 1 21 v a b sz [.ref (a 202)] F G F1 G1 := cMV.of (by decide) (Nat.le_of_ble_eq_true rfl) (fun p e R s m args below meth c Q A H locs ls C hw hl hret => cw_X2_next_0 fu (res := (r, F1, G1)) C hret F G hm hw hl)
def cb_X2_fail_26 (fu : Nat) (F : PF) (G : PG) : PR := some (0, F, G)
def cb_X2_fail_20 (fu : Nat) (F : PF) (G : PG) : PR := cb_X2_fail_26 fu (fup F 11 (-2 : Int32)) G
def cb_X2_fail_7 (fu : Nat) (x1 : Int32) (F : PF) (G : PG) : PR := cb_X2_fail_20 fu (fup F 14 (((F 13) * (16 : Int32)) + x1)) G
def cb_X2_fail_0 (fu : Nat) (x1 : Int32) (F : PF) (G : PG) : PR := if (F 14) = (0 : Int32) then cb_X2_fail_7 fu x1 F G else cb_X2_fail_20 fu F G
def cf_X2_fail (fu : Nat) (x1 : Int32) (F : PF) (G : PG) : PR := cb_X2_fail_0 fu x1 F G
theorem cn_X2_fail_26 (fu : Nat) {res : Int32 × PF × PG} (F : PF) (G : PG) (hm : cb_X2_fail_26 fu F G = some res) : xn F ≤ xn res.2.1 := by
  unfold cb_X2_fail_26 at hm
  obtain rfl := Option.some.inj hm
  exact Nat.le_refl _
theorem cw_X2_fail_26 (fu : Nat) {res : Int32 × PF × PG} (C : cMC p R s m args c A v RX2 cX2_fail 2 0 0 (xn res.2.1 - xn K0)) (hret : ∀ (b1 : Nat) (H1 : Heap) (locs1 : List Loc) (ls1 : Array Slot) (pc : Nat), cMW s A v a b1 K0 res.2.1 res.2.2 H1 locs1 → decode cX2_fail pc = .ok (.return_, 1) → W p l e R s m args below meth c H1 locs1 (xn res.2.1 - xn K0) (2 * (xn res.2.1 - xn K0)) Q (F0 m pc ls1 [])) (F : PF) (G : PG) (hm : cb_X2_fail_26 fu F G = some res) {b : Nat} {H : Heap} {locs : List Loc} (hw : cMW s A v a b K0 F G H locs) {ls : Array Slot} (hl : lv_has ls 2 []) : W p l e R s m args below meth c H locs (xn F - xn K0) (2 * (xn F - xn K0)) Q (F0 m 26 ls []) := by
  have hx := C.1
  have hb := C.2.1
  unfold cb_X2_fail_26 at hm
  obtain rfl := Option.some.inj hm
  exact hret _ _ _ _ _ hw dX2_fail_26
theorem cn_X2_fail_20 (fu : Nat) {res : Int32 × PF × PG} (F : PF) (G : PG) (hm : cb_X2_fail_20 fu F G = some res) : xn F ≤ xn res.2.1 := by
  unfold cb_X2_fail_20 at hm
  exact Nat.le_trans (Nat.le_of_eq (xn_fup (by decide)).symm) (cn_X2_fail_26 fu (fup F 11 (-2 : Int32)) G hm)
theorem cw_X2_fail_20 (fu : Nat) {res : Int32 × PF × PG} (C : cMC p R s m args c A v RX2 cX2_fail 2 0 0 (xn res.2.1 - xn K0)) (hret : ∀ (b1 : Nat) (H1 : Heap) (locs1 : List Loc) (ls1 : Array Slot) (pc : Nat), cMW s A v a b1 K0 res.2.1 res.2.2 H1 locs1 → decode cX2_fail pc = .ok (.return_, 1) → W p l e R s m args below meth c H1 locs1 (xn res.2.1 - xn K0) (2 * (xn res.2.1 - xn K0)) Q (F0 m pc ls1 [])) (F : PF) (G : PG) (hm : cb_X2_fail_20 fu F G = some res) {b : Nat} {H : Heap} {locs : List Loc} (hw : cMW s A v a b K0 F G H locs) {ls : Array Slot} (hl : lv_has ls 2 [(0, .ref (a 202))]) : W p l e R s m args below meth c H locs (xn F - xn K0) (2 * (xn F - xn K0)) Q (F0 m 20 ls []) := by
  have hx := C.1
  have hb := C.2.1
  unfold cb_X2_fail_20 at hm
  refine lv_aload_n hx hb dX2_fail_20 rfl (lv_at hl 0 rfl) ?_
  refine lv_bipush (v := (-2)) hx hb dX2_fail_21 (by decide) ?_
  refine cp_X2_35 C hw dX2_fail_23 (fun H locs hw => ?_)
  exact cw_X2_fail_26 fu C hret (fup F 11 (-2 : Int32)) G hm hw (lv_sub hl [] rfl)
theorem cn_X2_fail_7 (fu : Nat) {res : Int32 × PF × PG} (x1 : Int32) (F : PF) (G : PG) (hm : cb_X2_fail_7 fu x1 F G = some res) : xn F ≤ xn res.2.1 := by
  unfold cb_X2_fail_7 at hm
  exact Nat.le_trans (Nat.le_of_eq (xn_fup (by decide)).symm) (cn_X2_fail_20 fu (fup F 14 (((F 13) * (16 : Int32)) + x1)) G hm)
theorem cw_X2_fail_7 (fu : Nat) {res : Int32 × PF × PG} (C : cMC p R s m args c A v RX2 cX2_fail 2 0 0 (xn res.2.1 - xn K0)) (hret : ∀ (b1 : Nat) (H1 : Heap) (locs1 : List Loc) (ls1 : Array Slot) (pc : Nat), cMW s A v a b1 K0 res.2.1 res.2.2 H1 locs1 → decode cX2_fail pc = .ok (.return_, 1) → W p l e R s m args below meth c H1 locs1 (xn res.2.1 - xn K0) (2 * (xn res.2.1 - xn K0)) Q (F0 m pc ls1 [])) (x1 : Int32) (F : PF) (G : PG) (hm : cb_X2_fail_7 fu x1 F G = some res) {b : Nat} {H : Heap} {locs : List Loc} (hw : cMW s A v a b K0 F G H locs) {ls : Array Slot} (hl : lv_has ls 2 [(0, .ref (a 202)), (1, .int x1)]) : W p l e R s m args below meth c H locs (xn F - xn K0) (2 * (xn F - xn K0)) Q (F0 m 7 ls []) := by
  have hx := C.1
  have hb := C.2.1
  unfold cb_X2_fail_7 at hm
  refine lv_aload_n hx hb dX2_fail_7 rfl (lv_at hl 0 rfl) ?_
  refine lv_aload_n hx hb dX2_fail_8 rfl (lv_at hl 0 rfl) ?_
  refine cg_X2_53 C hw dX2_fail_9 ?_
  refine lv_bipush (v := 16) hx hb dX2_fail_12 (by decide) ?_
  refine lv_imul hx hb dX2_fail_14 ?_
  refine lv_iload_n hx hb dX2_fail_15 rfl (lv_at hl 1 rfl) ?_
  refine lv_iadd hx hb dX2_fail_16 ?_
  refine cp_X2_19 C hw dX2_fail_17 (fun H locs hw => ?_)
  exact cw_X2_fail_20 fu C hret (fup F 14 (((F 13) * (16 : Int32)) + x1)) G hm hw (lv_sub hl [0] rfl)
theorem cn_X2_fail_0 (fu : Nat) {res : Int32 × PF × PG} (x1 : Int32) (F : PF) (G : PG) (hm : cb_X2_fail_0 fu x1 F G = some res) : xn F ≤ xn res.2.1 := by
  unfold cb_X2_fail_0 at hm
  by_cases c_1 : (F 14) = (0 : Int32)
  · have hm := (if_pos c_1).symm.trans hm
    exact (cn_X2_fail_7 fu x1 F G hm)
  · have hm := (if_neg c_1).symm.trans hm
    exact (cn_X2_fail_20 fu F G hm)
theorem cw_X2_fail_0 (fu : Nat) {res : Int32 × PF × PG} (C : cMC p R s m args c A v RX2 cX2_fail 2 0 0 (xn res.2.1 - xn K0)) (hret : ∀ (b1 : Nat) (H1 : Heap) (locs1 : List Loc) (ls1 : Array Slot) (pc : Nat), cMW s A v a b1 K0 res.2.1 res.2.2 H1 locs1 → decode cX2_fail pc = .ok (.return_, 1) → W p l e R s m args below meth c H1 locs1 (xn res.2.1 - xn K0) (2 * (xn res.2.1 - xn K0)) Q (F0 m pc ls1 [])) (x1 : Int32) (F : PF) (G : PG) (hm : cb_X2_fail_0 fu x1 F G = some res) {b : Nat} {H : Heap} {locs : List Loc} (hw : cMW s A v a b K0 F G H locs) {ls : Array Slot} (hl : lv_has ls 2 [(0, .ref (a 202)), (1, .int x1)]) : W p l e R s m args below meth c H locs (xn F - xn K0) (2 * (xn F - xn K0)) Q (F0 m 0 ls []) := by
  have hx := C.1
  have hb := C.2.1
  unfold cb_X2_fail_0 at hm
  refine lv_aload_n hx hb dX2_fail_0 rfl (lv_at hl 0 rfl) ?_
  refine cg_X2_19 C hw dX2_fail_1 ?_
  refine lv_if_ne (tgt := 20) hx hb dX2_fail_4 (by decide) (fun c_1 => ?_) (fun c_1 => ?_)
  · have hm := (if_neg c_1).symm.trans hm
    exact cw_X2_fail_20 fu C hret F G hm hw (lv_sub hl [0] rfl)
  · have hm := (if_pos c_1).symm.trans hm
    exact cw_X2_fail_7 fu C hret x1 F G hm hw (lv_sub hl [0, 1] rfl)
theorem cn_X2_fail (fu : Nat) (x1 : Int32) (F : PF) (G : PG) (q : Int32 × PF × PG) (hm : cf_X2_fail fu x1 F G = some q) : xn F ≤ xn q.2.1 := cn_X2_fail_0 fu x1 F G hm
theorem ck_X2_fail (l : Launch) (v : EV) (a : Nat → Nat) (b sz : Nat) (fu : Nat) (x1 : Int32) (F : PF) (G : PG) (r : Int32) (F1 : PF) (G1 : PG) (hm : cf_X2_fail fu x1 F G = some (r, F1, G1)) : cMV l yX2_fail cX2_fail 2 0 0 v a b sz [.ref (a 202), .int x1] F G F1 G1 := cMV.of (by decide) (Nat.le_of_ble_eq_true rfl) (fun p e R s m args below meth c Q A H locs ls C hw hl hret => cw_X2_fail_0 fu (res := (r, F1, G1)) C hret x1 F G hm hw hl)
def cb_X2_expect_26 (fu : Nat) (F : PF) (G : PG) : PR := some (0, F, G)
def cb_X2_expect_21 (fu : Nat) (F : PF) (G : PG) : PR := (cf_X2_fail fu 2 F G).bind (fun q => cb_X2_expect_26 fu q.2.1 q.2.2)
def cb_X2_expect_18 (fu : Nat) (F : PF) (G : PG) : PR := cb_X2_expect_26 fu F G
def cb_X2_expect_8 (fu : Nat) (F : PF) (G : PG) : PR := (cf_X2_comeTo fu ((F 9) + (1 : Int32)) F G).bind (fun q => cb_X2_expect_18 fu q.2.1 q.2.2)
def cb_X2_expect_0 (fu : Nat) (x1 : Int32) (F : PF) (G : PG) : PR := if (F 11) = x1 then cb_X2_expect_8 fu F G else cb_X2_expect_21 fu F G
def cf_X2_expect (fu : Nat) (x1 : Int32) (F : PF) (G : PG) : PR := cb_X2_expect_0 fu x1 F G
theorem cn_X2_expect_26 (fu : Nat) {res : Int32 × PF × PG} (F : PF) (G : PG) (hm : cb_X2_expect_26 fu F G = some res) : xn F ≤ xn res.2.1 := by
  unfold cb_X2_expect_26 at hm
  obtain rfl := Option.some.inj hm
  exact Nat.le_refl _
theorem cw_X2_expect_26 (fu : Nat) {res : Int32 × PF × PG} (C : cMC p R s m args c A v RX2 cX2_expect 2 1 21 (xn res.2.1 - xn K0)) (hret : ∀ (b1 : Nat) (H1 : Heap) (locs1 : List Loc) (ls1 : Array Slot) (pc : Nat), cMW s A v a b1 K0 res.2.1 res.2.2 H1 locs1 → decode cX2_expect pc = .ok (.return_, 1) → W p l e R s m args below meth c H1 locs1 (xn res.2.1 - xn K0) (2 * (xn res.2.1 - xn K0)) Q (F0 m pc ls1 [])) (F : PF) (G : PG) (hm : cb_X2_expect_26 fu F G = some res) {b : Nat} {H : Heap} {locs : List Loc} (hw : cMW s A v a b K0 F G H locs) {ls : Array Slot} (hl : lv_has ls 2 []) : W p l e R s m args below meth c H locs (xn F - xn K0) (2 * (xn F - xn K0)) Q (F0 m 26 ls []) := by
  have hx := C.1
  have hb := C.2.1
  unfold cb_X2_expect_26 at hm
  obtain rfl := Option.some.inj hm
  exact hret _ _ _ _ _ hw dX2_expect_26
theorem cn_X2_expect_21 (fu : Nat) {res : Int32 × PF × PG} (F : PF) (G : PG) (hm : cb_X2_expect_21 fu F G = some res) : xn F ≤ xn res.2.1 := by
  unfold cb_X2_expect_21 at hm
  obtain ⟨⟨r1, F1, G1⟩, hc, hm⟩ := bind_elim hm
  exact Nat.le_trans (cn_X2_fail fu 2 F G _ hc) (cn_X2_expect_26 fu F1 G1 hm)
theorem cw_X2_expect_21 (fu : Nat) {res : Int32 × PF × PG} (C : cMC p R s m args c A v RX2 cX2_expect 2 1 21 (xn res.2.1 - xn K0)) (hret : ∀ (b1 : Nat) (H1 : Heap) (locs1 : List Loc) (ls1 : Array Slot) (pc : Nat), cMW s A v a b1 K0 res.2.1 res.2.2 H1 locs1 → decode cX2_expect pc = .ok (.return_, 1) → W p l e R s m args below meth c H1 locs1 (xn res.2.1 - xn K0) (2 * (xn res.2.1 - xn K0)) Q (F0 m pc ls1 [])) (F : PF) (G : PG) (hm : cb_X2_expect_21 fu F G = some res) {b : Nat} {H : Heap} {locs : List Loc} (hw : cMW s A v a b K0 F G H locs) {ls : Array Slot} (hl : lv_has ls 2 [(0, .ref (a 202))]) : W p l e R s m args below meth c H locs (xn F - xn K0) (2 * (xn F - xn K0)) Q (F0 m 21 ls []) := by
  have hx := C.1
  have hb := C.2.1
  unfold cb_X2_expect_21 at hm
  refine lv_aload_n hx hb dX2_expect_21 rfl (lv_at hl 0 rfl) ?_
  refine lv_iconst (v := 2) hx hb dX2_expect_22 (by decide) ?_
  obtain ⟨⟨r1, F1, G1⟩, hc, hm⟩ := bind_elim hm
  refine ccallV (n := 1) (As := [.int 2]) (rest := []) C hw (ck_X2_fail l v a _ _ fu 2 F G r1 F1 G1 hc) (cn_X2_fail fu 2 F G _ hc) (Nat.sub_le_sub_right (cn_X2_expect_26 fu F1 G1 hm) _) (crecv_X2 C hw) cm_336 cm_329 cm_330 cm_307 cm_331 (by decide +kernel) rfl (by omega) (by omega) hl.1 rfl (Nat.le_of_ble_eq_true rfl) dX2_expect_23 (fun b H locs hw => ?_)
  exact cw_X2_expect_26 fu C hret F1 G1 hm hw (lv_sub hl [] rfl)
theorem cn_X2_expect_18 (fu : Nat) {res : Int32 × PF × PG} (F : PF) (G : PG) (hm : cb_X2_expect_18 fu F G = some res) : xn F ≤ xn res.2.1 := by
  unfold cb_X2_expect_18 at hm
  exact (cn_X2_expect_26 fu F G hm)
theorem cw_X2_expect_18 (fu : Nat) {res : Int32 × PF × PG} (C : cMC p R s m args c A v RX2 cX2_expect 2 1 21 (xn res.2.1 - xn K0)) (hret : ∀ (b1 : Nat) (H1 : Heap) (locs1 : List Loc) (ls1 : Array Slot) (pc : Nat), cMW s A v a b1 K0 res.2.1 res.2.2 H1 locs1 → decode cX2_expect pc = .ok (.return_, 1) → W p l e R s m args below meth c H1 locs1 (xn res.2.1 - xn K0) (2 * (xn res.2.1 - xn K0)) Q (F0 m pc ls1 [])) (F : PF) (G : PG) (hm : cb_X2_expect_18 fu F G = some res) {b : Nat} {H : Heap} {locs : List Loc} (hw : cMW s A v a b K0 F G H locs) {ls : Array Slot} (hl : lv_has ls 2 []) : W p l e R s m args below meth c H locs (xn F - xn K0) (2 * (xn F - xn K0)) Q (F0 m 18 ls []) := by
  have hx := C.1
  have hb := C.2.1
  unfold cb_X2_expect_18 at hm
  refine lv_goto (tgt := 26) hx hb dX2_expect_18 (by decide) ?_
  exact cw_X2_expect_26 fu C hret F G hm hw (lv_sub hl [] rfl)
theorem cn_X2_expect_8 (fu : Nat) {res : Int32 × PF × PG} (F : PF) (G : PG) (hm : cb_X2_expect_8 fu F G = some res) : xn F ≤ xn res.2.1 := by
  unfold cb_X2_expect_8 at hm
  obtain ⟨⟨r1, F1, G1⟩, hc, hm⟩ := bind_elim hm
  exact Nat.le_trans (cn_X2_comeTo fu ((F 9) + (1 : Int32)) F G _ hc) (cn_X2_expect_18 fu F1 G1 hm)
theorem cw_X2_expect_8 (fu : Nat) {res : Int32 × PF × PG} (C : cMC p R s m args c A v RX2 cX2_expect 2 1 21 (xn res.2.1 - xn K0)) (hret : ∀ (b1 : Nat) (H1 : Heap) (locs1 : List Loc) (ls1 : Array Slot) (pc : Nat), cMW s A v a b1 K0 res.2.1 res.2.2 H1 locs1 → decode cX2_expect pc = .ok (.return_, 1) → W p l e R s m args below meth c H1 locs1 (xn res.2.1 - xn K0) (2 * (xn res.2.1 - xn K0)) Q (F0 m pc ls1 [])) (F : PF) (G : PG) (hm : cb_X2_expect_8 fu F G = some res) {b : Nat} {H : Heap} {locs : List Loc} (hw : cMW s A v a b K0 F G H locs) {ls : Array Slot} (hl : lv_has ls 2 [(0, .ref (a 202))]) : W p l e R s m args below meth c H locs (xn F - xn K0) (2 * (xn F - xn K0)) Q (F0 m 8 ls []) := by
  have hx := C.1
  have hb := C.2.1
  unfold cb_X2_expect_8 at hm
  refine lv_aload_n hx hb dX2_expect_8 rfl (lv_at hl 0 rfl) ?_
  refine lv_aload_n hx hb dX2_expect_9 rfl (lv_at hl 0 rfl) ?_
  refine cg_X2_26 C hw dX2_expect_10 ?_
  refine lv_iconst (v := 1) hx hb dX2_expect_13 (by decide) ?_
  refine lv_iadd hx hb dX2_expect_14 ?_
  obtain ⟨⟨r1, F1, G1⟩, hc, hm⟩ := bind_elim hm
  refine ccallV (n := 1) (As := [.int ((F 9) + (1 : Int32))]) (rest := []) C hw (ck_X2_comeTo l v a _ _ fu ((F 9) + (1 : Int32)) F G r1 F1 G1 hc) (cn_X2_comeTo fu ((F 9) + (1 : Int32)) F G _ hc) (Nat.sub_le_sub_right (cn_X2_expect_18 fu F1 G1 hm) _) (crecv_X2 C hw) cm_311 cm_312 cm_313 cm_307 cm_314 (by decide +kernel) rfl (by omega) (by omega) hl.1 rfl (Nat.le_of_ble_eq_true rfl) dX2_expect_15 (fun b H locs hw => ?_)
  exact cw_X2_expect_18 fu C hret F1 G1 hm hw (lv_sub hl [] rfl)
theorem cn_X2_expect_0 (fu : Nat) {res : Int32 × PF × PG} (x1 : Int32) (F : PF) (G : PG) (hm : cb_X2_expect_0 fu x1 F G = some res) : xn F ≤ xn res.2.1 := by
  unfold cb_X2_expect_0 at hm
  by_cases c_1 : (F 11) = x1
  · have hm := (if_pos c_1).symm.trans hm
    exact (cn_X2_expect_8 fu F G hm)
  · have hm := (if_neg c_1).symm.trans hm
    exact (cn_X2_expect_21 fu F G hm)
theorem cw_X2_expect_0 (fu : Nat) {res : Int32 × PF × PG} (C : cMC p R s m args c A v RX2 cX2_expect 2 1 21 (xn res.2.1 - xn K0)) (hret : ∀ (b1 : Nat) (H1 : Heap) (locs1 : List Loc) (ls1 : Array Slot) (pc : Nat), cMW s A v a b1 K0 res.2.1 res.2.2 H1 locs1 → decode cX2_expect pc = .ok (.return_, 1) → W p l e R s m args below meth c H1 locs1 (xn res.2.1 - xn K0) (2 * (xn res.2.1 - xn K0)) Q (F0 m pc ls1 [])) (x1 : Int32) (F : PF) (G : PG) (hm : cb_X2_expect_0 fu x1 F G = some res) {b : Nat} {H : Heap} {locs : List Loc} (hw : cMW s A v a b K0 F G H locs) {ls : Array Slot} (hl : lv_has ls 2 [(0, .ref (a 202)), (1, .int x1)]) : W p l e R s m args below meth c H locs (xn F - xn K0) (2 * (xn F - xn K0)) Q (F0 m 0 ls []) := by
  have hx := C.1
  have hb := C.2.1
  unfold cb_X2_expect_0 at hm
  refine lv_aload_n hx hb dX2_expect_0 rfl (lv_at hl 0 rfl) ?_
  refine cg_X2_35 C hw dX2_expect_1 ?_
  refine lv_iload_n hx hb dX2_expect_4 rfl (lv_at hl 1 rfl) ?_
  refine lv_icmp_ne (tgt := 21) hx hb dX2_expect_5 (by decide) (fun c_1 => ?_) (fun c_1 => ?_)
  · have hm := (if_neg c_1).symm.trans hm
    exact cw_X2_expect_21 fu C hret F G hm hw (lv_sub hl [0] rfl)
  · have hm := (if_pos c_1).symm.trans hm
    exact cw_X2_expect_8 fu C hret F G hm hw (lv_sub hl [0] rfl)
theorem cn_X2_expect (fu : Nat) (x1 : Int32) (F : PF) (G : PG) (q : Int32 × PF × PG) (hm : cf_X2_expect fu x1 F G = some q) : xn F ≤ xn q.2.1 := cn_X2_expect_0 fu x1 F G hm
theorem ck_X2_expect (l : Launch) (v : EV) (a : Nat → Nat) (b sz : Nat) (fu : Nat) (x1 : Int32) (F : PF) (G : PG) (r : Int32) (F1 : PF) (G1 : PG) (hm : cf_X2_expect fu x1 F G = some (r, F1, G1)) : cMV l yX2_expect cX2_expect 2 1 21 v a b sz [.ref (a 202), .int x1] F G F1 G1 := cMV.of (by decide) (Nat.le_of_ble_eq_true rfl) (fun p e R s m args below meth c Q A H locs ls C hw hl hret => cw_X2_expect_0 fu (res := (r, F1, G1)) C hret x1 F G hm hw hl)
def cb_X2_opens_51 (fu : Nat) (F : PF) (G : PG) : PR := some (1, F, G)
def cb_X2_opens_41 (fu : Nat) (F : PF) (G : PG) : PR := (cf_X2_comeTo fu ((F 9) + (1 : Int32)) F G).bind (fun q => cb_X2_opens_51 fu q.2.1 q.2.2)
def cb_X2_opens_31 (fu : Nat) (F : PF) (G : PG) : PR := cb_X2_opens_41 fu (fup F 10 ((F 10) + (1 : Int32))) G
def cb_X2_opens_29 (fu : Nat) (F : PF) (G : PG) : PR := some (0, F, G)
def cb_X2_opens_24 (fu : Nat) (F : PF) (G : PG) : PR := (cf_X2_fail fu 3 F G).bind (fun q => cb_X2_opens_29 fu q.2.1 q.2.2)
def cb_X2_opens_15 (fu : Nat) (F : PF) (G : PG) : PR := if (F 10) < (40 : Int32) then cb_X2_opens_31 fu F G else cb_X2_opens_24 fu F G
def cb_X2_opens_13 (fu : Nat) (F : PF) (G : PG) : PR := some (0, F, G)
def cb_X2_opens_8 (fu : Nat) (F : PF) (G : PG) : PR := (cf_X2_fail fu 2 F G).bind (fun q => cb_X2_opens_13 fu q.2.1 q.2.2)
def cb_X2_opens_0 (fu : Nat) (x1 : Int32) (F : PF) (G : PG) : PR := if (F 11) = x1 then cb_X2_opens_15 fu F G else cb_X2_opens_8 fu F G
def cf_X2_opens (fu : Nat) (x1 : Int32) (F : PF) (G : PG) : PR := cb_X2_opens_0 fu x1 F G
theorem cn_X2_opens_51 (fu : Nat) {res : Int32 × PF × PG} (F : PF) (G : PG) (hm : cb_X2_opens_51 fu F G = some res) : xn F ≤ xn res.2.1 := by
  unfold cb_X2_opens_51 at hm
  obtain rfl := Option.some.inj hm
  exact Nat.le_refl _
theorem cw_X2_opens_51 (fu : Nat) {res : Int32 × PF × PG} (C : cMC p R s m args c A v RX2 cX2_opens 2 1 21 (xn res.2.1 - xn K0)) (hret : ∀ (b1 : Nat) (H1 : Heap) (locs1 : List Loc) (ls1 : Array Slot) (pc : Nat), cMW s A v a b1 K0 res.2.1 res.2.2 H1 locs1 → narrow .boolean (.int res.1) = .int res.1 → decode cX2_opens pc = .ok (.ireturn, 1) → W p l e R s m args below meth c H1 locs1 (xn res.2.1 - xn K0) (2 * (xn res.2.1 - xn K0)) Q (F0 m pc ls1 [.int res.1])) (F : PF) (G : PG) (hm : cb_X2_opens_51 fu F G = some res) {b : Nat} {H : Heap} {locs : List Loc} (hw : cMW s A v a b K0 F G H locs) {ls : Array Slot} (hl : lv_has ls 2 []) : W p l e R s m args below meth c H locs (xn F - xn K0) (2 * (xn F - xn K0)) Q (F0 m 51 ls []) := by
  have hx := C.1
  have hb := C.2.1
  unfold cb_X2_opens_51 at hm
  refine lv_iconst (v := 1) hx hb dX2_opens_51 (by decide) ?_
  obtain rfl := Option.some.inj hm
  exact hret _ _ _ _ _ hw (b01_nar (v := 1) (Or.inr rfl)) dX2_opens_52
theorem cn_X2_opens_41 (fu : Nat) {res : Int32 × PF × PG} (F : PF) (G : PG) (hm : cb_X2_opens_41 fu F G = some res) : xn F ≤ xn res.2.1 := by
  unfold cb_X2_opens_41 at hm
  obtain ⟨⟨r1, F1, G1⟩, hc, hm⟩ := bind_elim hm
  exact Nat.le_trans (cn_X2_comeTo fu ((F 9) + (1 : Int32)) F G _ hc) (cn_X2_opens_51 fu F1 G1 hm)
theorem cw_X2_opens_41 (fu : Nat) {res : Int32 × PF × PG} (C : cMC p R s m args c A v RX2 cX2_opens 2 1 21 (xn res.2.1 - xn K0)) (hret : ∀ (b1 : Nat) (H1 : Heap) (locs1 : List Loc) (ls1 : Array Slot) (pc : Nat), cMW s A v a b1 K0 res.2.1 res.2.2 H1 locs1 → narrow .boolean (.int res.1) = .int res.1 → decode cX2_opens pc = .ok (.ireturn, 1) → W p l e R s m args below meth c H1 locs1 (xn res.2.1 - xn K0) (2 * (xn res.2.1 - xn K0)) Q (F0 m pc ls1 [.int res.1])) (F : PF) (G : PG) (hm : cb_X2_opens_41 fu F G = some res) {b : Nat} {H : Heap} {locs : List Loc} (hw : cMW s A v a b K0 F G H locs) {ls : Array Slot} (hl : lv_has ls 2 [(0, .ref (a 202))]) : W p l e R s m args below meth c H locs (xn F - xn K0) (2 * (xn F - xn K0)) Q (F0 m 41 ls []) := by
  have hx := C.1
  have hb := C.2.1
  unfold cb_X2_opens_41 at hm
  refine lv_aload_n hx hb dX2_opens_41 rfl (lv_at hl 0 rfl) ?_
  refine lv_aload_n hx hb dX2_opens_42 rfl (lv_at hl 0 rfl) ?_
  refine cg_X2_26 C hw dX2_opens_43 ?_
  refine lv_iconst (v := 1) hx hb dX2_opens_46 (by decide) ?_
  refine lv_iadd hx hb dX2_opens_47 ?_
  obtain ⟨⟨r1, F1, G1⟩, hc, hm⟩ := bind_elim hm
  refine ccallV (n := 1) (As := [.int ((F 9) + (1 : Int32))]) (rest := []) C hw (ck_X2_comeTo l v a _ _ fu ((F 9) + (1 : Int32)) F G r1 F1 G1 hc) (cn_X2_comeTo fu ((F 9) + (1 : Int32)) F G _ hc) (Nat.sub_le_sub_right (cn_X2_opens_51 fu F1 G1 hm) _) (crecv_X2 C hw) cm_311 cm_312 cm_313 cm_307 cm_314 (by decide +kernel) rfl (by omega) (by omega) hl.1 rfl (Nat.le_of_ble_eq_true rfl) dX2_opens_48 (fun b H locs hw => ?_)
  exact cw_X2_opens_51 fu C hret F1 G1 hm hw (lv_sub hl [] rfl)
theorem cn_X2_opens_31 (fu : Nat) {res : Int32 × PF × PG} (F : PF) (G : PG) (hm : cb_X2_opens_31 fu F G = some res) : xn F ≤ xn res.2.1 := by
  unfold cb_X2_opens_31 at hm
  exact Nat.le_trans (Nat.le_of_eq (xn_fup (by decide)).symm) (cn_X2_opens_41 fu (fup F 10 ((F 10) + (1 : Int32))) G hm)
theorem cw_X2_opens_31 (fu : Nat) {res : Int32 × PF × PG} (C : cMC p R s m args c A v RX2 cX2_opens 2 1 21 (xn res.2.1 - xn K0)) (hret : ∀ (b1 : Nat) (H1 : Heap) (locs1 : List Loc) (ls1 : Array Slot) (pc : Nat), cMW s A v a b1 K0 res.2.1 res.2.2 H1 locs1 → narrow .boolean (.int res.1) = .int res.1 → decode cX2_opens pc = .ok (.ireturn, 1) → W p l e R s m args below meth c H1 locs1 (xn res.2.1 - xn K0) (2 * (xn res.2.1 - xn K0)) Q (F0 m pc ls1 [.int res.1])) (F : PF) (G : PG) (hm : cb_X2_opens_31 fu F G = some res) {b : Nat} {H : Heap} {locs : List Loc} (hw : cMW s A v a b K0 F G H locs) {ls : Array Slot} (hl : lv_has ls 2 [(0, .ref (a 202))]) : W p l e R s m args below meth c H locs (xn F - xn K0) (2 * (xn F - xn K0)) Q (F0 m 31 ls []) := by
  have hx := C.1
  have hb := C.2.1
  unfold cb_X2_opens_31 at hm
  refine lv_aload_n hx hb dX2_opens_31 rfl (lv_at hl 0 rfl) ?_
  refine lv_dup hx hb dX2_opens_32 rfl ?_
  refine cg_X2_15 C hw dX2_opens_33 ?_
  refine lv_iconst (v := 1) hx hb dX2_opens_36 (by decide) ?_
  refine lv_iadd hx hb dX2_opens_37 ?_
  refine cp_X2_15 C hw dX2_opens_38 (fun H locs hw => ?_)
  exact cw_X2_opens_41 fu C hret (fup F 10 ((F 10) + (1 : Int32))) G hm hw (lv_sub hl [0] rfl)
theorem cn_X2_opens_29 (fu : Nat) {res : Int32 × PF × PG} (F : PF) (G : PG) (hm : cb_X2_opens_29 fu F G = some res) : xn F ≤ xn res.2.1 := by
  unfold cb_X2_opens_29 at hm
  obtain rfl := Option.some.inj hm
  exact Nat.le_refl _
theorem cw_X2_opens_29 (fu : Nat) {res : Int32 × PF × PG} (C : cMC p R s m args c A v RX2 cX2_opens 2 1 21 (xn res.2.1 - xn K0)) (hret : ∀ (b1 : Nat) (H1 : Heap) (locs1 : List Loc) (ls1 : Array Slot) (pc : Nat), cMW s A v a b1 K0 res.2.1 res.2.2 H1 locs1 → narrow .boolean (.int res.1) = .int res.1 → decode cX2_opens pc = .ok (.ireturn, 1) → W p l e R s m args below meth c H1 locs1 (xn res.2.1 - xn K0) (2 * (xn res.2.1 - xn K0)) Q (F0 m pc ls1 [.int res.1])) (F : PF) (G : PG) (hm : cb_X2_opens_29 fu F G = some res) {b : Nat} {H : Heap} {locs : List Loc} (hw : cMW s A v a b K0 F G H locs) {ls : Array Slot} (hl : lv_has ls 2 []) : W p l e R s m args below meth c H locs (xn F - xn K0) (2 * (xn F - xn K0)) Q (F0 m 29 ls []) := by
  have hx := C.1
  have hb := C.2.1
  unfold cb_X2_opens_29 at hm
  refine lv_iconst (v := 0) hx hb dX2_opens_29 (by decide) ?_
  obtain rfl := Option.some.inj hm
  exact hret _ _ _ _ _ hw (b01_nar (v := 0) (Or.inl rfl)) dX2_opens_30
theorem cn_X2_opens_24 (fu : Nat) {res : Int32 × PF × PG} (F : PF) (G : PG) (hm : cb_X2_opens_24 fu F G = some res) : xn F ≤ xn res.2.1 := by
  unfold cb_X2_opens_24 at hm
  obtain ⟨⟨r1, F1, G1⟩, hc, hm⟩ := bind_elim hm
  exact Nat.le_trans (cn_X2_fail fu 3 F G _ hc) (cn_X2_opens_29 fu F1 G1 hm)
theorem cw_X2_opens_24 (fu : Nat) {res : Int32 × PF × PG} (C : cMC p R s m args c A v RX2 cX2_opens 2 1 21 (xn res.2.1 - xn K0)) (hret : ∀ (b1 : Nat) (H1 : Heap) (locs1 : List Loc) (ls1 : Array Slot) (pc : Nat), cMW s A v a b1 K0 res.2.1 res.2.2 H1 locs1 → narrow .boolean (.int res.1) = .int res.1 → decode cX2_opens pc = .ok (.ireturn, 1) → W p l e R s m args below meth c H1 locs1 (xn res.2.1 - xn K0) (2 * (xn res.2.1 - xn K0)) Q (F0 m pc ls1 [.int res.1])) (F : PF) (G : PG) (hm : cb_X2_opens_24 fu F G = some res) {b : Nat} {H : Heap} {locs : List Loc} (hw : cMW s A v a b K0 F G H locs) {ls : Array Slot} (hl : lv_has ls 2 [(0, .ref (a 202))]) : W p l e R s m args below meth c H locs (xn F - xn K0) (2 * (xn F - xn K0)) Q (F0 m 24 ls []) := by
  have hx := C.1
  have hb := C.2.1
  unfold cb_X2_opens_24 at hm
  refine lv_aload_n hx hb dX2_opens_24 rfl (lv_at hl 0 rfl) ?_
  refine lv_iconst (v := 3) hx hb dX2_opens_25 (by decide) ?_
  obtain ⟨⟨r1, F1, G1⟩, hc, hm⟩ := bind_elim hm
  refine ccallV (n := 1) (As := [.int 3]) (rest := []) C hw (ck_X2_fail l v a _ _ fu 3 F G r1 F1 G1 hc) (cn_X2_fail fu 3 F G _ hc) (Nat.sub_le_sub_right (cn_X2_opens_29 fu F1 G1 hm) _) (crecv_X2 C hw) cm_336 cm_329 cm_330 cm_307 cm_331 (by decide +kernel) rfl (by omega) (by omega) hl.1 rfl (Nat.le_of_ble_eq_true rfl) dX2_opens_26 (fun b H locs hw => ?_)
  exact cw_X2_opens_29 fu C hret F1 G1 hm hw (lv_sub hl [] rfl)
theorem cn_X2_opens_15 (fu : Nat) {res : Int32 × PF × PG} (F : PF) (G : PG) (hm : cb_X2_opens_15 fu F G = some res) : xn F ≤ xn res.2.1 := by
  unfold cb_X2_opens_15 at hm
  by_cases c_1 : (F 10) < (40 : Int32)
  · have hm := (if_pos c_1).symm.trans hm
    exact (cn_X2_opens_31 fu F G hm)
  · have hm := (if_neg c_1).symm.trans hm
    exact (cn_X2_opens_24 fu F G hm)
theorem cw_X2_opens_15 (fu : Nat) {res : Int32 × PF × PG} (C : cMC p R s m args c A v RX2 cX2_opens 2 1 21 (xn res.2.1 - xn K0)) (hret : ∀ (b1 : Nat) (H1 : Heap) (locs1 : List Loc) (ls1 : Array Slot) (pc : Nat), cMW s A v a b1 K0 res.2.1 res.2.2 H1 locs1 → narrow .boolean (.int res.1) = .int res.1 → decode cX2_opens pc = .ok (.ireturn, 1) → W p l e R s m args below meth c H1 locs1 (xn res.2.1 - xn K0) (2 * (xn res.2.1 - xn K0)) Q (F0 m pc ls1 [.int res.1])) (F : PF) (G : PG) (hm : cb_X2_opens_15 fu F G = some res) {b : Nat} {H : Heap} {locs : List Loc} (hw : cMW s A v a b K0 F G H locs) {ls : Array Slot} (hl : lv_has ls 2 [(0, .ref (a 202))]) : W p l e R s m args below meth c H locs (xn F - xn K0) (2 * (xn F - xn K0)) Q (F0 m 15 ls []) := by
  have hx := C.1
  have hb := C.2.1
  unfold cb_X2_opens_15 at hm
  refine lv_aload_n hx hb dX2_opens_15 rfl (lv_at hl 0 rfl) ?_
  refine cg_X2_15 C hw dX2_opens_16 ?_
  refine lv_bipush (v := 40) hx hb dX2_opens_19 (by decide) ?_
  refine lv_icmp_lt (tgt := 31) hx hb dX2_opens_21 (by decide) (fun c_1 => ?_) (fun c_1 => ?_)
  · have hm := (if_pos c_1).symm.trans hm
    exact cw_X2_opens_31 fu C hret F G hm hw (lv_sub hl [0] rfl)
  · have hm := (if_neg c_1).symm.trans hm
    exact cw_X2_opens_24 fu C hret F G hm hw (lv_sub hl [0] rfl)
theorem cn_X2_opens_13 (fu : Nat) {res : Int32 × PF × PG} (F : PF) (G : PG) (hm : cb_X2_opens_13 fu F G = some res) : xn F ≤ xn res.2.1 := by
  unfold cb_X2_opens_13 at hm
  obtain rfl := Option.some.inj hm
  exact Nat.le_refl _
theorem cw_X2_opens_13 (fu : Nat) {res : Int32 × PF × PG} (C : cMC p R s m args c A v RX2 cX2_opens 2 1 21 (xn res.2.1 - xn K0)) (hret : ∀ (b1 : Nat) (H1 : Heap) (locs1 : List Loc) (ls1 : Array Slot) (pc : Nat), cMW s A v a b1 K0 res.2.1 res.2.2 H1 locs1 → narrow .boolean (.int res.1) = .int res.1 → decode cX2_opens pc = .ok (.ireturn, 1) → W p l e R s m args below meth c H1 locs1 (xn res.2.1 - xn K0) (2 * (xn res.2.1 - xn K0)) Q (F0 m pc ls1 [.int res.1])) (F : PF) (G : PG) (hm : cb_X2_opens_13 fu F G = some res) {b : Nat} {H : Heap} {locs : List Loc} (hw : cMW s A v a b K0 F G H locs) {ls : Array Slot} (hl : lv_has ls 2 []) : W p l e R s m args below meth c H locs (xn F - xn K0) (2 * (xn F - xn K0)) Q (F0 m 13 ls []) := by
  have hx := C.1
  have hb := C.2.1
  unfold cb_X2_opens_13 at hm
  refine lv_iconst (v := 0) hx hb dX2_opens_13 (by decide) ?_
  obtain rfl := Option.some.inj hm
  exact hret _ _ _ _ _ hw (b01_nar (v := 0) (Or.inl rfl)) dX2_opens_14
theorem cn_X2_opens_8 (fu : Nat) {res : Int32 × PF × PG} (F : PF) (G : PG) (hm : cb_X2_opens_8 fu F G = some res) : xn F ≤ xn res.2.1 := by
  unfold cb_X2_opens_8 at hm
  obtain ⟨⟨r1, F1, G1⟩, hc, hm⟩ := bind_elim hm
  exact Nat.le_trans (cn_X2_fail fu 2 F G _ hc) (cn_X2_opens_13 fu F1 G1 hm)
theorem cw_X2_opens_8 (fu : Nat) {res : Int32 × PF × PG} (C : cMC p R s m args c A v RX2 cX2_opens 2 1 21 (xn res.2.1 - xn K0)) (hret : ∀ (b1 : Nat) (H1 : Heap) (locs1 : List Loc) (ls1 : Array Slot) (pc : Nat), cMW s A v a b1 K0 res.2.1 res.2.2 H1 locs1 → narrow .boolean (.int res.1) = .int res.1 → decode cX2_opens pc = .ok (.ireturn, 1) → W p l e R s m args below meth c H1 locs1 (xn res.2.1 - xn K0) (2 * (xn res.2.1 - xn K0)) Q (F0 m pc ls1 [.int res.1])) (F : PF) (G : PG) (hm : cb_X2_opens_8 fu F G = some res) {b : Nat} {H : Heap} {locs : List Loc} (hw : cMW s A v a b K0 F G H locs) {ls : Array Slot} (hl : lv_has ls 2 [(0, .ref (a 202))]) : W p l e R s m args below meth c H locs (xn F - xn K0) (2 * (xn F - xn K0)) Q (F0 m 8 ls []) := by
  have hx := C.1
  have hb := C.2.1
  unfold cb_X2_opens_8 at hm
  refine lv_aload_n hx hb dX2_opens_8 rfl (lv_at hl 0 rfl) ?_
  refine lv_iconst (v := 2) hx hb dX2_opens_9 (by decide) ?_
  obtain ⟨⟨r1, F1, G1⟩, hc, hm⟩ := bind_elim hm
  refine ccallV (n := 1) (As := [.int 2]) (rest := []) C hw (ck_X2_fail l v a _ _ fu 2 F G r1 F1 G1 hc) (cn_X2_fail fu 2 F G _ hc) (Nat.sub_le_sub_right (cn_X2_opens_13 fu F1 G1 hm) _) (crecv_X2 C hw) cm_336 cm_329 cm_330 cm_307 cm_331 (by decide +kernel) rfl (by omega) (by omega) hl.1 rfl (Nat.le_of_ble_eq_true rfl) dX2_opens_10 (fun b H locs hw => ?_)
  exact cw_X2_opens_13 fu C hret F1 G1 hm hw (lv_sub hl [] rfl)
theorem cn_X2_opens_0 (fu : Nat) {res : Int32 × PF × PG} (x1 : Int32) (F : PF) (G : PG) (hm : cb_X2_opens_0 fu x1 F G = some res) : xn F ≤ xn res.2.1 := by
  unfold cb_X2_opens_0 at hm
  by_cases c_1 : (F 11) = x1
  · have hm := (if_pos c_1).symm.trans hm
    exact (cn_X2_opens_15 fu F G hm)
  · have hm := (if_neg c_1).symm.trans hm
    exact (cn_X2_opens_8 fu F G hm)
theorem cw_X2_opens_0 (fu : Nat) {res : Int32 × PF × PG} (C : cMC p R s m args c A v RX2 cX2_opens 2 1 21 (xn res.2.1 - xn K0)) (hret : ∀ (b1 : Nat) (H1 : Heap) (locs1 : List Loc) (ls1 : Array Slot) (pc : Nat), cMW s A v a b1 K0 res.2.1 res.2.2 H1 locs1 → narrow .boolean (.int res.1) = .int res.1 → decode cX2_opens pc = .ok (.ireturn, 1) → W p l e R s m args below meth c H1 locs1 (xn res.2.1 - xn K0) (2 * (xn res.2.1 - xn K0)) Q (F0 m pc ls1 [.int res.1])) (x1 : Int32) (F : PF) (G : PG) (hm : cb_X2_opens_0 fu x1 F G = some res) {b : Nat} {H : Heap} {locs : List Loc} (hw : cMW s A v a b K0 F G H locs) {ls : Array Slot} (hl : lv_has ls 2 [(0, .ref (a 202)), (1, .int x1)]) : W p l e R s m args below meth c H locs (xn F - xn K0) (2 * (xn F - xn K0)) Q (F0 m 0 ls []) := by
  have hx := C.1
  have hb := C.2.1
  unfold cb_X2_opens_0 at hm
  refine lv_aload_n hx hb dX2_opens_0 rfl (lv_at hl 0 rfl) ?_
  refine cg_X2_35 C hw dX2_opens_1 ?_
  refine lv_iload_n hx hb dX2_opens_4 rfl (lv_at hl 1 rfl) ?_
  refine lv_icmp_eq (tgt := 15) hx hb dX2_opens_5 (by decide) (fun c_1 => ?_) (fun c_1 => ?_)
  · have hm := (if_pos c_1).symm.trans hm
    exact cw_X2_opens_15 fu C hret F G hm hw (lv_sub hl [0] rfl)
  · have hm := (if_neg c_1).symm.trans hm
    exact cw_X2_opens_8 fu C hret F G hm hw (lv_sub hl [0] rfl)
theorem cn_X2_opens (fu : Nat) (x1 : Int32) (F : PF) (G : PG) (q : Int32 × PF × PG) (hm : cf_X2_opens fu x1 F G = some q) : xn F ≤ xn q.2.1 := cn_X2_opens_0 fu x1 F G hm
theorem ck_X2_opens (l : Launch) (v : EV) (a : Nat → Nat) (b sz : Nat) (fu : Nat) (x1 : Int32) (F : PF) (G : PG) (r : Int32) (F1 : PF) (G1 : PG) (hm : cf_X2_opens fu x1 F G = some (r, F1, G1)) : cMI l yX2_opens cX2_opens 2 (some .boolean) 1 21 v a b sz [.ref (a 202), .int x1] F G r F1 G1 := cMI.of (ty := .boolean) (by decide) rfl (Nat.le_of_ble_eq_true rfl) (fun p e R s m args below meth c Q A H locs ls C hw hl hret => cw_X2_opens_0 fu (res := (r, F1, G1)) C hret x1 F G hm hw hl)
def cb_X2_closes_10 (fu : Nat) (F : PF) (G : PG) : PR := some (0, F, G)
def cb_X2_closes_0 (fu : Nat) (F : PF) (G : PG) : PR := cb_X2_closes_10 fu (fup F 10 ((F 10) - (1 : Int32))) G
def cf_X2_closes (fu : Nat) (F : PF) (G : PG) : PR := cb_X2_closes_0 fu F G
theorem cn_X2_closes_10 (fu : Nat) {res : Int32 × PF × PG} (F : PF) (G : PG) (hm : cb_X2_closes_10 fu F G = some res) : xn F ≤ xn res.2.1 := by
  unfold cb_X2_closes_10 at hm
  obtain rfl := Option.some.inj hm
  exact Nat.le_refl _
theorem cw_X2_closes_10 (fu : Nat) {res : Int32 × PF × PG} (C : cMC p R s m args c A v RX2 cX2_closes 1 0 0 (xn res.2.1 - xn K0)) (hret : ∀ (b1 : Nat) (H1 : Heap) (locs1 : List Loc) (ls1 : Array Slot) (pc : Nat), cMW s A v a b1 K0 res.2.1 res.2.2 H1 locs1 → decode cX2_closes pc = .ok (.return_, 1) → W p l e R s m args below meth c H1 locs1 (xn res.2.1 - xn K0) (2 * (xn res.2.1 - xn K0)) Q (F0 m pc ls1 [])) (F : PF) (G : PG) (hm : cb_X2_closes_10 fu F G = some res) {b : Nat} {H : Heap} {locs : List Loc} (hw : cMW s A v a b K0 F G H locs) {ls : Array Slot} (hl : lv_has ls 1 []) : W p l e R s m args below meth c H locs (xn F - xn K0) (2 * (xn F - xn K0)) Q (F0 m 10 ls []) := by
  have hx := C.1
  have hb := C.2.1
  unfold cb_X2_closes_10 at hm
  obtain rfl := Option.some.inj hm
  exact hret _ _ _ _ _ hw dX2_closes_10
theorem cn_X2_closes_0 (fu : Nat) {res : Int32 × PF × PG} (F : PF) (G : PG) (hm : cb_X2_closes_0 fu F G = some res) : xn F ≤ xn res.2.1 := by
  unfold cb_X2_closes_0 at hm
  exact Nat.le_trans (Nat.le_of_eq (xn_fup (by decide)).symm) (cn_X2_closes_10 fu (fup F 10 ((F 10) - (1 : Int32))) G hm)
theorem cw_X2_closes_0 (fu : Nat) {res : Int32 × PF × PG} (C : cMC p R s m args c A v RX2 cX2_closes 1 0 0 (xn res.2.1 - xn K0)) (hret : ∀ (b1 : Nat) (H1 : Heap) (locs1 : List Loc) (ls1 : Array Slot) (pc : Nat), cMW s A v a b1 K0 res.2.1 res.2.2 H1 locs1 → decode cX2_closes pc = .ok (.return_, 1) → W p l e R s m args below meth c H1 locs1 (xn res.2.1 - xn K0) (2 * (xn res.2.1 - xn K0)) Q (F0 m pc ls1 [])) (F : PF) (G : PG) (hm : cb_X2_closes_0 fu F G = some res) {b : Nat} {H : Heap} {locs : List Loc} (hw : cMW s A v a b K0 F G H locs) {ls : Array Slot} (hl : lv_has ls 1 [(0, .ref (a 202))]) : W p l e R s m args below meth c H locs (xn F - xn K0) (2 * (xn F - xn K0)) Q (F0 m 0 ls []) := by
  have hx := C.1
  have hb := C.2.1
  unfold cb_X2_closes_0 at hm
  refine lv_aload_n hx hb dX2_closes_0 rfl (lv_at hl 0 rfl) ?_
  refine lv_dup hx hb dX2_closes_1 rfl ?_
  refine cg_X2_15 C hw dX2_closes_2 ?_
  refine lv_iconst (v := 1) hx hb dX2_closes_5 (by decide) ?_
  refine lv_isub hx hb dX2_closes_6 ?_
  refine cp_X2_15 C hw dX2_closes_7 (fun H locs hw => ?_)
  exact cw_X2_closes_10 fu C hret (fup F 10 ((F 10) - (1 : Int32))) G hm hw (lv_sub hl [] rfl)
theorem cn_X2_closes (fu : Nat) (F : PF) (G : PG) (q : Int32 × PF × PG) (hm : cf_X2_closes fu F G = some q) : xn F ≤ xn q.2.1 := cn_X2_closes_0 fu F G hm
theorem ck_X2_closes (l : Launch) (v : EV) (a : Nat → Nat) (b sz : Nat) (fu : Nat) (F : PF) (G : PG) (r : Int32) (F1 : PF) (G1 : PG) (hm : cf_X2_closes fu F G = some (r, F1, G1)) : cMV l yX2_closes cX2_closes 1 0 0 v a b sz [.ref (a 202)] F G F1 G1 := cMV.of (by decide) (Nat.le_of_ble_eq_true rfl) (fun p e R s m args below meth c Q A H locs ls C hw hl hret => cw_X2_closes_0 fu (res := (r, F1, G1)) C hret F G hm hw hl)
def cb_X2_closesWith_36 (fu : Nat) (F : PF) (G : PG) : PR := some (0, F, G)
def cb_X2_closesWith_31 (fu : Nat) (F : PF) (G : PG) : PR := (cf_X2_fail fu 2 F G).bind (fun q => cb_X2_closesWith_36 fu q.2.1 q.2.2)
def cb_X2_closesWith_28 (fu : Nat) (F : PF) (G : PG) : PR := cb_X2_closesWith_36 fu F G
def cb_X2_closesWith_18 (fu : Nat) (F : PF) (G : PG) : PR := (cf_X2_comeTo fu ((F 9) + (1 : Int32)) F G).bind (fun q => cb_X2_closesWith_28 fu q.2.1 q.2.2)
def cb_X2_closesWith_10 (fu : Nat) (x1 : Int32) (F : PF) (G : PG) : PR := if (F 11) = x1 then cb_X2_closesWith_18 fu F G else cb_X2_closesWith_31 fu F G
def cb_X2_closesWith_0 (fu : Nat) (x1 : Int32) (F : PF) (G : PG) : PR := cb_X2_closesWith_10 fu x1 (fup F 10 ((F 10) - (1 : Int32))) G
def cf_X2_closesWith (fu : Nat) (x1 : Int32) (F : PF) (G : PG) : PR := cb_X2_closesWith_0 fu x1 F G
theorem cn_X2_closesWith_36 (fu : Nat) {res : Int32 × PF × PG} (F : PF) (G : PG) (hm : cb_X2_closesWith_36 fu F G = some res) : xn F ≤ xn res.2.1 := by
  unfold cb_X2_closesWith_36 at hm
  obtain rfl := Option.some.inj hm
  exact Nat.le_refl _
theorem cw_X2_closesWith_36 (fu : Nat) {res : Int32 × PF × PG} (C : cMC p R s m args c A v RX2 cX2_closesWith 2 1 21 (xn res.2.1 - xn K0)) (hret : ∀ (b1 : Nat) (H1 : Heap) (locs1 : List Loc) (ls1 : Array Slot) (pc : Nat), cMW s A v a b1 K0 res.2.1 res.2.2 H1 locs1 → decode cX2_closesWith pc = .ok (.return_, 1) → W p l e R s m args below meth c H1 locs1 (xn res.2.1 - xn K0) (2 * (xn res.2.1 - xn K0)) Q (F0 m pc ls1 [])) (F : PF) (G : PG) (hm : cb_X2_closesWith_36 fu F G = some res) {b : Nat} {H : Heap} {locs : List Loc} (hw : cMW s A v a b K0 F G H locs) {ls : Array Slot} (hl : lv_has ls 2 []) : W p l e R s m args below meth c H locs (xn F - xn K0) (2 * (xn F - xn K0)) Q (F0 m 36 ls []) := by
  have hx := C.1
  have hb := C.2.1
  unfold cb_X2_closesWith_36 at hm
  obtain rfl := Option.some.inj hm
  exact hret _ _ _ _ _ hw dX2_closesWith_36
theorem cn_X2_closesWith_31 (fu : Nat) {res : Int32 × PF × PG} (F : PF) (G : PG) (hm : cb_X2_closesWith_31 fu F G = some res) : xn F ≤ xn res.2.1 := by
  unfold cb_X2_closesWith_31 at hm
  obtain ⟨⟨r1, F1, G1⟩, hc, hm⟩ := bind_elim hm
  exact Nat.le_trans (cn_X2_fail fu 2 F G _ hc) (cn_X2_closesWith_36 fu F1 G1 hm)
theorem cw_X2_closesWith_31 (fu : Nat) {res : Int32 × PF × PG} (C : cMC p R s m args c A v RX2 cX2_closesWith 2 1 21 (xn res.2.1 - xn K0)) (hret : ∀ (b1 : Nat) (H1 : Heap) (locs1 : List Loc) (ls1 : Array Slot) (pc : Nat), cMW s A v a b1 K0 res.2.1 res.2.2 H1 locs1 → decode cX2_closesWith pc = .ok (.return_, 1) → W p l e R s m args below meth c H1 locs1 (xn res.2.1 - xn K0) (2 * (xn res.2.1 - xn K0)) Q (F0 m pc ls1 [])) (F : PF) (G : PG) (hm : cb_X2_closesWith_31 fu F G = some res) {b : Nat} {H : Heap} {locs : List Loc} (hw : cMW s A v a b K0 F G H locs) {ls : Array Slot} (hl : lv_has ls 2 [(0, .ref (a 202))]) : W p l e R s m args below meth c H locs (xn F - xn K0) (2 * (xn F - xn K0)) Q (F0 m 31 ls []) := by
  have hx := C.1
  have hb := C.2.1
  unfold cb_X2_closesWith_31 at hm
  refine lv_aload_n hx hb dX2_closesWith_31 rfl (lv_at hl 0 rfl) ?_
  refine lv_iconst (v := 2) hx hb dX2_closesWith_32 (by decide) ?_
  obtain ⟨⟨r1, F1, G1⟩, hc, hm⟩ := bind_elim hm
  refine ccallV (n := 1) (As := [.int 2]) (rest := []) C hw (ck_X2_fail l v a _ _ fu 2 F G r1 F1 G1 hc) (cn_X2_fail fu 2 F G _ hc) (Nat.sub_le_sub_right (cn_X2_closesWith_36 fu F1 G1 hm) _) (crecv_X2 C hw) cm_336 cm_329 cm_330 cm_307 cm_331 (by decide +kernel) rfl (by omega) (by omega) hl.1 rfl (Nat.le_of_ble_eq_true rfl) dX2_closesWith_33 (fun b H locs hw => ?_)
  exact cw_X2_closesWith_36 fu C hret F1 G1 hm hw (lv_sub hl [] rfl)
theorem cn_X2_closesWith_28 (fu : Nat) {res : Int32 × PF × PG} (F : PF) (G : PG) (hm : cb_X2_closesWith_28 fu F G = some res) : xn F ≤ xn res.2.1 := by
  unfold cb_X2_closesWith_28 at hm
  exact (cn_X2_closesWith_36 fu F G hm)
theorem cw_X2_closesWith_28 (fu : Nat) {res : Int32 × PF × PG} (C : cMC p R s m args c A v RX2 cX2_closesWith 2 1 21 (xn res.2.1 - xn K0)) (hret : ∀ (b1 : Nat) (H1 : Heap) (locs1 : List Loc) (ls1 : Array Slot) (pc : Nat), cMW s A v a b1 K0 res.2.1 res.2.2 H1 locs1 → decode cX2_closesWith pc = .ok (.return_, 1) → W p l e R s m args below meth c H1 locs1 (xn res.2.1 - xn K0) (2 * (xn res.2.1 - xn K0)) Q (F0 m pc ls1 [])) (F : PF) (G : PG) (hm : cb_X2_closesWith_28 fu F G = some res) {b : Nat} {H : Heap} {locs : List Loc} (hw : cMW s A v a b K0 F G H locs) {ls : Array Slot} (hl : lv_has ls 2 []) : W p l e R s m args below meth c H locs (xn F - xn K0) (2 * (xn F - xn K0)) Q (F0 m 28 ls []) := by
  have hx := C.1
  have hb := C.2.1
  unfold cb_X2_closesWith_28 at hm
  refine lv_goto (tgt := 36) hx hb dX2_closesWith_28 (by decide) ?_
  exact cw_X2_closesWith_36 fu C hret F G hm hw (lv_sub hl [] rfl)
theorem cn_X2_closesWith_18 (fu : Nat) {res : Int32 × PF × PG} (F : PF) (G : PG) (hm : cb_X2_closesWith_18 fu F G = some res) : xn F ≤ xn res.2.1 := by
  unfold cb_X2_closesWith_18 at hm
  obtain ⟨⟨r1, F1, G1⟩, hc, hm⟩ := bind_elim hm
  exact Nat.le_trans (cn_X2_comeTo fu ((F 9) + (1 : Int32)) F G _ hc) (cn_X2_closesWith_28 fu F1 G1 hm)
theorem cw_X2_closesWith_18 (fu : Nat) {res : Int32 × PF × PG} (C : cMC p R s m args c A v RX2 cX2_closesWith 2 1 21 (xn res.2.1 - xn K0)) (hret : ∀ (b1 : Nat) (H1 : Heap) (locs1 : List Loc) (ls1 : Array Slot) (pc : Nat), cMW s A v a b1 K0 res.2.1 res.2.2 H1 locs1 → decode cX2_closesWith pc = .ok (.return_, 1) → W p l e R s m args below meth c H1 locs1 (xn res.2.1 - xn K0) (2 * (xn res.2.1 - xn K0)) Q (F0 m pc ls1 [])) (F : PF) (G : PG) (hm : cb_X2_closesWith_18 fu F G = some res) {b : Nat} {H : Heap} {locs : List Loc} (hw : cMW s A v a b K0 F G H locs) {ls : Array Slot} (hl : lv_has ls 2 [(0, .ref (a 202))]) : W p l e R s m args below meth c H locs (xn F - xn K0) (2 * (xn F - xn K0)) Q (F0 m 18 ls []) := by
  have hx := C.1
  have hb := C.2.1
  unfold cb_X2_closesWith_18 at hm
  refine lv_aload_n hx hb dX2_closesWith_18 rfl (lv_at hl 0 rfl) ?_
  refine lv_aload_n hx hb dX2_closesWith_19 rfl (lv_at hl 0 rfl) ?_
  refine cg_X2_26 C hw dX2_closesWith_20 ?_
  refine lv_iconst (v := 1) hx hb dX2_closesWith_23 (by decide) ?_
  refine lv_iadd hx hb dX2_closesWith_24 ?_
  obtain ⟨⟨r1, F1, G1⟩, hc, hm⟩ := bind_elim hm
  refine ccallV (n := 1) (As := [.int ((F 9) + (1 : Int32))]) (rest := []) C hw (ck_X2_comeTo l v a _ _ fu ((F 9) + (1 : Int32)) F G r1 F1 G1 hc) (cn_X2_comeTo fu ((F 9) + (1 : Int32)) F G _ hc) (Nat.sub_le_sub_right (cn_X2_closesWith_28 fu F1 G1 hm) _) (crecv_X2 C hw) cm_311 cm_312 cm_313 cm_307 cm_314 (by decide +kernel) rfl (by omega) (by omega) hl.1 rfl (Nat.le_of_ble_eq_true rfl) dX2_closesWith_25 (fun b H locs hw => ?_)
  exact cw_X2_closesWith_28 fu C hret F1 G1 hm hw (lv_sub hl [] rfl)
theorem cn_X2_closesWith_10 (fu : Nat) {res : Int32 × PF × PG} (x1 : Int32) (F : PF) (G : PG) (hm : cb_X2_closesWith_10 fu x1 F G = some res) : xn F ≤ xn res.2.1 := by
  unfold cb_X2_closesWith_10 at hm
  by_cases c_1 : (F 11) = x1
  · have hm := (if_pos c_1).symm.trans hm
    exact (cn_X2_closesWith_18 fu F G hm)
  · have hm := (if_neg c_1).symm.trans hm
    exact (cn_X2_closesWith_31 fu F G hm)
theorem cw_X2_closesWith_10 (fu : Nat) {res : Int32 × PF × PG} (C : cMC p R s m args c A v RX2 cX2_closesWith 2 1 21 (xn res.2.1 - xn K0)) (hret : ∀ (b1 : Nat) (H1 : Heap) (locs1 : List Loc) (ls1 : Array Slot) (pc : Nat), cMW s A v a b1 K0 res.2.1 res.2.2 H1 locs1 → decode cX2_closesWith pc = .ok (.return_, 1) → W p l e R s m args below meth c H1 locs1 (xn res.2.1 - xn K0) (2 * (xn res.2.1 - xn K0)) Q (F0 m pc ls1 [])) (x1 : Int32) (F : PF) (G : PG) (hm : cb_X2_closesWith_10 fu x1 F G = some res) {b : Nat} {H : Heap} {locs : List Loc} (hw : cMW s A v a b K0 F G H locs) {ls : Array Slot} (hl : lv_has ls 2 [(0, .ref (a 202)), (1, .int x1)]) : W p l e R s m args below meth c H locs (xn F - xn K0) (2 * (xn F - xn K0)) Q (F0 m 10 ls []) := by
  have hx := C.1
  have hb := C.2.1
  unfold cb_X2_closesWith_10 at hm
  refine lv_aload_n hx hb dX2_closesWith_10 rfl (lv_at hl 0 rfl) ?_
  refine cg_X2_35 C hw dX2_closesWith_11 ?_
  refine lv_iload_n hx hb dX2_closesWith_14 rfl (lv_at hl 1 rfl) ?_
  refine lv_icmp_ne (tgt := 31) hx hb dX2_closesWith_15 (by decide) (fun c_1 => ?_) (fun c_1 => ?_)
  · have hm := (if_neg c_1).symm.trans hm
    exact cw_X2_closesWith_31 fu C hret F G hm hw (lv_sub hl [0] rfl)
  · have hm := (if_pos c_1).symm.trans hm
    exact cw_X2_closesWith_18 fu C hret F G hm hw (lv_sub hl [0] rfl)
theorem cn_X2_closesWith_0 (fu : Nat) {res : Int32 × PF × PG} (x1 : Int32) (F : PF) (G : PG) (hm : cb_X2_closesWith_0 fu x1 F G = some res) : xn F ≤ xn res.2.1 := by
  unfold cb_X2_closesWith_0 at hm
  exact Nat.le_trans (Nat.le_of_eq (xn_fup (by decide)).symm) (cn_X2_closesWith_10 fu x1 (fup F 10 ((F 10) - (1 : Int32))) G hm)
theorem cw_X2_closesWith_0 (fu : Nat) {res : Int32 × PF × PG} (C : cMC p R s m args c A v RX2 cX2_closesWith 2 1 21 (xn res.2.1 - xn K0)) (hret : ∀ (b1 : Nat) (H1 : Heap) (locs1 : List Loc) (ls1 : Array Slot) (pc : Nat), cMW s A v a b1 K0 res.2.1 res.2.2 H1 locs1 → decode cX2_closesWith pc = .ok (.return_, 1) → W p l e R s m args below meth c H1 locs1 (xn res.2.1 - xn K0) (2 * (xn res.2.1 - xn K0)) Q (F0 m pc ls1 [])) (x1 : Int32) (F : PF) (G : PG) (hm : cb_X2_closesWith_0 fu x1 F G = some res) {b : Nat} {H : Heap} {locs : List Loc} (hw : cMW s A v a b K0 F G H locs) {ls : Array Slot} (hl : lv_has ls 2 [(0, .ref (a 202)), (1, .int x1)]) : W p l e R s m args below meth c H locs (xn F - xn K0) (2 * (xn F - xn K0)) Q (F0 m 0 ls []) := by
  have hx := C.1
  have hb := C.2.1
  unfold cb_X2_closesWith_0 at hm
  refine lv_aload_n hx hb dX2_closesWith_0 rfl (lv_at hl 0 rfl) ?_
  refine lv_dup hx hb dX2_closesWith_1 rfl ?_
  refine cg_X2_15 C hw dX2_closesWith_2 ?_
  refine lv_iconst (v := 1) hx hb dX2_closesWith_5 (by decide) ?_
  refine lv_isub hx hb dX2_closesWith_6 ?_
  refine cp_X2_15 C hw dX2_closesWith_7 (fun H locs hw => ?_)
  exact cw_X2_closesWith_10 fu C hret x1 (fup F 10 ((F 10) - (1 : Int32))) G hm hw (lv_sub hl [0, 1] rfl)
theorem cn_X2_closesWith (fu : Nat) (x1 : Int32) (F : PF) (G : PG) (q : Int32 × PF × PG) (hm : cf_X2_closesWith fu x1 F G = some q) : xn F ≤ xn q.2.1 := cn_X2_closesWith_0 fu x1 F G hm
theorem ck_X2_closesWith (l : Launch) (v : EV) (a : Nat → Nat) (b sz : Nat) (fu : Nat) (x1 : Int32) (F : PF) (G : PG) (r : Int32) (F1 : PF) (G1 : PG) (hm : cf_X2_closesWith fu x1 F G = some (r, F1, G1)) : cMV l yX2_closesWith cX2_closesWith 2 1 21 v a b sz [.ref (a 202), .int x1] F G F1 G1 := cMV.of (by decide) (Nat.le_of_ble_eq_true rfl) (fun p e R s m args below meth c Q A H locs ls C hw hl hret => cw_X2_closesWith_0 fu (res := (r, F1, G1)) C hret x1 F G hm hw hl)
def cb_X3_start_5 (fu : Nat) (F : PF) (G : PG) : PR := some (0, F, G)
def cb_X3_start_0 (fu : Nat) (F : PF) (G : PG) : PR := cb_X3_start_5 fu (fup F 21 (0 : Int32)) G
def cf_X3_start (fu : Nat) (F : PF) (G : PG) : PR := cb_X3_start_0 fu F G
theorem cn_X3_start_5 (fu : Nat) {res : Int32 × PF × PG} (F : PF) (G : PG) (hm : cb_X3_start_5 fu F G = some res) : xn F ≤ xn res.2.1 := by
  unfold cb_X3_start_5 at hm
  obtain rfl := Option.some.inj hm
  exact Nat.le_refl _
theorem cw_X3_start_5 (fu : Nat) {res : Int32 × PF × PG} (C : cMC p R s m args c A v RX3 cX3_start 1 0 0 (xn res.2.1 - xn K0)) (hret : ∀ (b1 : Nat) (H1 : Heap) (locs1 : List Loc) (ls1 : Array Slot) (pc : Nat), cMW s A v a b1 K0 res.2.1 res.2.2 H1 locs1 → decode cX3_start pc = .ok (.return_, 1) → W p l e R s m args below meth c H1 locs1 (xn res.2.1 - xn K0) (2 * (xn res.2.1 - xn K0)) Q (F0 m pc ls1 [])) (F : PF) (G : PG) (hm : cb_X3_start_5 fu F G = some res) {b : Nat} {H : Heap} {locs : List Loc} (hw : cMW s A v a b K0 F G H locs) {ls : Array Slot} (hl : lv_has ls 1 []) : W p l e R s m args below meth c H locs (xn F - xn K0) (2 * (xn F - xn K0)) Q (F0 m 5 ls []) := by
  have hx := C.1
  have hb := C.2.1
  unfold cb_X3_start_5 at hm
  obtain rfl := Option.some.inj hm
  exact hret _ _ _ _ _ hw dX3_start_5
theorem cn_X3_start_0 (fu : Nat) {res : Int32 × PF × PG} (F : PF) (G : PG) (hm : cb_X3_start_0 fu F G = some res) : xn F ≤ xn res.2.1 := by
  unfold cb_X3_start_0 at hm
  exact Nat.le_trans (Nat.le_of_eq (xn_fup (by decide)).symm) (cn_X3_start_5 fu (fup F 21 (0 : Int32)) G hm)
theorem cw_X3_start_0 (fu : Nat) {res : Int32 × PF × PG} (C : cMC p R s m args c A v RX3 cX3_start 1 0 0 (xn res.2.1 - xn K0)) (hret : ∀ (b1 : Nat) (H1 : Heap) (locs1 : List Loc) (ls1 : Array Slot) (pc : Nat), cMW s A v a b1 K0 res.2.1 res.2.2 H1 locs1 → decode cX3_start pc = .ok (.return_, 1) → W p l e R s m args below meth c H1 locs1 (xn res.2.1 - xn K0) (2 * (xn res.2.1 - xn K0)) Q (F0 m pc ls1 [])) (F : PF) (G : PG) (hm : cb_X3_start_0 fu F G = some res) {b : Nat} {H : Heap} {locs : List Loc} (hw : cMW s A v a b K0 F G H locs) {ls : Array Slot} (hl : lv_has ls 1 [(0, .ref (a 203))]) : W p l e R s m args below meth c H locs (xn F - xn K0) (2 * (xn F - xn K0)) Q (F0 m 0 ls []) := by
  have hx := C.1
  have hb := C.2.1
  unfold cb_X3_start_0 at hm
  refine lv_aload_n hx hb dX3_start_0 rfl (lv_at hl 0 rfl) ?_
  refine lv_iconst (v := 0) hx hb dX3_start_1 (by decide) ?_
  refine cp_X3_35 C hw dX3_start_2 (fun H locs hw => ?_)
  exact cw_X3_start_5 fu C hret (fup F 21 (0 : Int32)) G hm hw (lv_sub hl [] rfl)
theorem cn_X3_start (fu : Nat) (F : PF) (G : PG) (q : Int32 × PF × PG) (hm : cf_X3_start fu F G = some q) : xn F ≤ xn q.2.1 := cn_X3_start_0 fu F G hm
theorem ck_X3_start (l : Launch) (v : EV) (a : Nat → Nat) (b sz : Nat) (fu : Nat) (F : PF) (G : PG) (r : Int32) (F1 : PF) (G1 : PG) (hm : cf_X3_start fu F G = some (r, F1, G1)) : cMV l yX3_start cX3_start 1 0 0 v a b sz [.ref (a 203)] F G F1 G1 := cMV.of (by decide) (Nat.le_of_ble_eq_true rfl) (fun p e R s m args below meth c Q A H locs ls C hw hl hret => cw_X3_start_0 fu (res := (r, F1, G1)) C hret F G hm hw hl)
def cb_X5_startConstant_10 (fu : Nat) (F : PF) (G : PG) : PR := some (0, F, G)
def cb_X5_startConstant_5 (fu : Nat) (F : PF) (G : PG) : PR := cb_X5_startConstant_10 fu (fup F 47 (1 : Int32)) G
def cb_X5_startConstant_0 (fu : Nat) (F : PF) (G : PG) : PR := cb_X5_startConstant_5 fu (fup F 46 (1 : Int32)) G
def cf_X5_startConstant (fu : Nat) (F : PF) (G : PG) : PR := cb_X5_startConstant_0 fu F G
theorem cn_X5_startConstant_10 (fu : Nat) {res : Int32 × PF × PG} (F : PF) (G : PG) (hm : cb_X5_startConstant_10 fu F G = some res) : xn F ≤ xn res.2.1 := by
  unfold cb_X5_startConstant_10 at hm
  obtain rfl := Option.some.inj hm
  exact Nat.le_refl _
theorem cw_X5_startConstant_10 (fu : Nat) {res : Int32 × PF × PG} (C : cMC p R s m args c A v RX5 cX5_startConstant 1 0 0 (xn res.2.1 - xn K0)) (hret : ∀ (b1 : Nat) (H1 : Heap) (locs1 : List Loc) (ls1 : Array Slot) (pc : Nat), cMW s A v a b1 K0 res.2.1 res.2.2 H1 locs1 → decode cX5_startConstant pc = .ok (.return_, 1) → W p l e R s m args below meth c H1 locs1 (xn res.2.1 - xn K0) (2 * (xn res.2.1 - xn K0)) Q (F0 m pc ls1 [])) (F : PF) (G : PG) (hm : cb_X5_startConstant_10 fu F G = some res) {b : Nat} {H : Heap} {locs : List Loc} (hw : cMW s A v a b K0 F G H locs) {ls : Array Slot} (hl : lv_has ls 1 []) : W p l e R s m args below meth c H locs (xn F - xn K0) (2 * (xn F - xn K0)) Q (F0 m 10 ls []) := by
  have hx := C.1
  have hb := C.2.1
  unfold cb_X5_startConstant_10 at hm
  obtain rfl := Option.some.inj hm
  exact hret _ _ _ _ _ hw dX5_startConstant_10
theorem cn_X5_startConstant_5 (fu : Nat) {res : Int32 × PF × PG} (F : PF) (G : PG) (hm : cb_X5_startConstant_5 fu F G = some res) : xn F ≤ xn res.2.1 := by
  unfold cb_X5_startConstant_5 at hm
  exact Nat.le_trans (Nat.le_of_eq (xn_fup (by decide)).symm) (cn_X5_startConstant_10 fu (fup F 47 (1 : Int32)) G hm)
theorem cw_X5_startConstant_5 (fu : Nat) {res : Int32 × PF × PG} (C : cMC p R s m args c A v RX5 cX5_startConstant 1 0 0 (xn res.2.1 - xn K0)) (hret : ∀ (b1 : Nat) (H1 : Heap) (locs1 : List Loc) (ls1 : Array Slot) (pc : Nat), cMW s A v a b1 K0 res.2.1 res.2.2 H1 locs1 → decode cX5_startConstant pc = .ok (.return_, 1) → W p l e R s m args below meth c H1 locs1 (xn res.2.1 - xn K0) (2 * (xn res.2.1 - xn K0)) Q (F0 m pc ls1 [])) (F : PF) (G : PG) (hm : cb_X5_startConstant_5 fu F G = some res) {b : Nat} {H : Heap} {locs : List Loc} (hw : cMW s A v a b K0 F G H locs) {ls : Array Slot} (hl : lv_has ls 1 [(0, .ref (a 205))]) : W p l e R s m args below meth c H locs (xn F - xn K0) (2 * (xn F - xn K0)) Q (F0 m 5 ls []) := by
  have hx := C.1
  have hb := C.2.1
  unfold cb_X5_startConstant_5 at hm
  refine lv_aload_n hx hb dX5_startConstant_5 rfl (lv_at hl 0 rfl) ?_
  refine lv_iconst (v := 1) hx hb dX5_startConstant_6 (by decide) ?_
  refine cp_X5_60 C hw (by decide) dX5_startConstant_7 (fun H locs hw => ?_)
  exact cw_X5_startConstant_10 fu C hret (fup F 47 (1 : Int32)) G hm hw (lv_sub hl [] rfl)
theorem cn_X5_startConstant_0 (fu : Nat) {res : Int32 × PF × PG} (F : PF) (G : PG) (hm : cb_X5_startConstant_0 fu F G = some res) : xn F ≤ xn res.2.1 := by
  unfold cb_X5_startConstant_0 at hm
  exact Nat.le_trans (Nat.le_of_eq (xn_fup (by decide)).symm) (cn_X5_startConstant_5 fu (fup F 46 (1 : Int32)) G hm)
theorem cw_X5_startConstant_0 (fu : Nat) {res : Int32 × PF × PG} (C : cMC p R s m args c A v RX5 cX5_startConstant 1 0 0 (xn res.2.1 - xn K0)) (hret : ∀ (b1 : Nat) (H1 : Heap) (locs1 : List Loc) (ls1 : Array Slot) (pc : Nat), cMW s A v a b1 K0 res.2.1 res.2.2 H1 locs1 → decode cX5_startConstant pc = .ok (.return_, 1) → W p l e R s m args below meth c H1 locs1 (xn res.2.1 - xn K0) (2 * (xn res.2.1 - xn K0)) Q (F0 m pc ls1 [])) (F : PF) (G : PG) (hm : cb_X5_startConstant_0 fu F G = some res) {b : Nat} {H : Heap} {locs : List Loc} (hw : cMW s A v a b K0 F G H locs) {ls : Array Slot} (hl : lv_has ls 1 [(0, .ref (a 205))]) : W p l e R s m args below meth c H locs (xn F - xn K0) (2 * (xn F - xn K0)) Q (F0 m 0 ls []) := by
  have hx := C.1
  have hb := C.2.1
  unfold cb_X5_startConstant_0 at hm
  refine lv_aload_n hx hb dX5_startConstant_0 rfl (lv_at hl 0 rfl) ?_
  refine lv_iconst (v := 1) hx hb dX5_startConstant_1 (by decide) ?_
  refine cp_X5_57 C hw (by decide) dX5_startConstant_2 (fun H locs hw => ?_)
  exact cw_X5_startConstant_5 fu C hret (fup F 46 (1 : Int32)) G hm hw (lv_sub hl [0] rfl)
theorem cn_X5_startConstant (fu : Nat) (F : PF) (G : PG) (q : Int32 × PF × PG) (hm : cf_X5_startConstant fu F G = some q) : xn F ≤ xn q.2.1 := cn_X5_startConstant_0 fu F G hm
theorem ck_X5_startConstant (l : Launch) (v : EV) (a : Nat → Nat) (b sz : Nat) (fu : Nat) (F : PF) (G : PG) (r : Int32) (F1 : PF) (G1 : PG) (hm : cf_X5_startConstant fu F G = some (r, F1, G1)) : cMV l yX5_startConstant cX5_startConstant 1 0 0 v a b sz [.ref (a 205)] F G F1 G1 := cMV.of (by decide) (Nat.le_of_ble_eq_true rfl) (fun p e R s m args below meth c Q A H locs ls C hw hl hret => cw_X5_startConstant_0 fu (res := (r, F1, G1)) C hret F G hm hw hl)
def cb_X5_endsConstant_24 (fu : Nat) (z0 : Int32) (F : PF) (G : PG) : PR := if b01 z0 = true then (some (z0, F, G)) else none
def cb_X5_endsConstant_23 (fu : Nat) (F : PF) (G : PG) : PR := cb_X5_endsConstant_24 fu 0 F G
def cb_X5_endsConstant_19 (fu : Nat) (F : PF) (G : PG) : PR := cb_X5_endsConstant_24 fu 1 F G
def cb_X5_endsConstant_12 (fu : Nat) (F : PF) (G : PG) : PR := if (F 47) = (0 : Int32) then cb_X5_endsConstant_23 fu F G else cb_X5_endsConstant_19 fu F G
def cb_X5_endsConstant_5 (fu : Nat) (F : PF) (G : PG) : PR := if (F 45) = (0 : Int32) then cb_X5_endsConstant_23 fu F G else cb_X5_endsConstant_12 fu F G
def cb_X5_endsConstant_0 (fu : Nat) (F : PF) (G : PG) : PR := cb_X5_endsConstant_5 fu (fup F 46 (0 : Int32)) G
def cf_X5_endsConstant (fu : Nat) (F : PF) (G : PG) : PR := cb_X5_endsConstant_0 fu F G
theorem cn_X5_endsConstant_24 (fu : Nat) {res : Int32 × PF × PG} (z0 : Int32) (F : PF) (G : PG) (hm : cb_X5_endsConstant_24 fu z0 F G = some res) : xn F ≤ xn res.2.1 := by
  unfold cb_X5_endsConstant_24 at hm
  have hm := (b01_elim hm).2
  obtain rfl := Option.some.inj hm
  exact Nat.le_refl _
theorem cw_X5_endsConstant_24 (fu : Nat) {res : Int32 × PF × PG} (C : cMC p R s m args c A v RX5 cX5_endsConstant 1 0 0 (xn res.2.1 - xn K0)) (hret : ∀ (b1 : Nat) (H1 : Heap) (locs1 : List Loc) (ls1 : Array Slot) (pc : Nat), cMW s A v a b1 K0 res.2.1 res.2.2 H1 locs1 → narrow .boolean (.int res.1) = .int res.1 → decode cX5_endsConstant pc = .ok (.ireturn, 1) → W p l e R s m args below meth c H1 locs1 (xn res.2.1 - xn K0) (2 * (xn res.2.1 - xn K0)) Q (F0 m pc ls1 [.int res.1])) (z0 : Int32) (F : PF) (G : PG) (hm : cb_X5_endsConstant_24 fu z0 F G = some res) {b : Nat} {H : Heap} {locs : List Loc} (hw : cMW s A v a b K0 F G H locs) {ls : Array Slot} (hl : lv_has ls 1 []) : W p l e R s m args below meth c H locs (xn F - xn K0) (2 * (xn F - xn K0)) Q (F0 m 24 ls [.int z0]) := by
  have hx := C.1
  have hb := C.2.1
  unfold cb_X5_endsConstant_24 at hm
  obtain ⟨hz, hm⟩ := b01_elim hm
  obtain rfl := Option.some.inj hm
  exact hret _ _ _ _ _ hw (b01_nar hz) dX5_endsConstant_24
theorem cn_X5_endsConstant_23 (fu : Nat) {res : Int32 × PF × PG} (F : PF) (G : PG) (hm : cb_X5_endsConstant_23 fu F G = some res) : xn F ≤ xn res.2.1 := by
  unfold cb_X5_endsConstant_23 at hm
  exact (cn_X5_endsConstant_24 fu 0 F G hm)
theorem cw_X5_endsConstant_23 (fu : Nat) {res : Int32 × PF × PG} (C : cMC p R s m args c A v RX5 cX5_endsConstant 1 0 0 (xn res.2.1 - xn K0)) (hret : ∀ (b1 : Nat) (H1 : Heap) (locs1 : List Loc) (ls1 : Array Slot) (pc : Nat), cMW s A v a b1 K0 res.2.1 res.2.2 H1 locs1 → narrow .boolean (.int res.1) = .int res.1 → decode cX5_endsConstant pc = .ok (.ireturn, 1) → W p l e R s m args below meth c H1 locs1 (xn res.2.1 - xn K0) (2 * (xn res.2.1 - xn K0)) Q (F0 m pc ls1 [.int res.1])) (F : PF) (G : PG) (hm : cb_X5_endsConstant_23 fu F G = some res) {b : Nat} {H : Heap} {locs : List Loc} (hw : cMW s A v a b K0 F G H locs) {ls : Array Slot} (hl : lv_has ls 1 []) : W p l e R s m args below meth c H locs (xn F - xn K0) (2 * (xn F - xn K0)) Q (F0 m 23 ls []) := by
  have hx := C.1
  have hb := C.2.1
  unfold cb_X5_endsConstant_23 at hm
  refine lv_iconst (v := 0) hx hb dX5_endsConstant_23 (by decide) ?_
  exact cw_X5_endsConstant_24 fu C hret 0 F G hm hw (lv_sub hl [] rfl)
theorem cn_X5_endsConstant_19 (fu : Nat) {res : Int32 × PF × PG} (F : PF) (G : PG) (hm : cb_X5_endsConstant_19 fu F G = some res) : xn F ≤ xn res.2.1 := by
  unfold cb_X5_endsConstant_19 at hm
  exact (cn_X5_endsConstant_24 fu 1 F G hm)
theorem cw_X5_endsConstant_19 (fu : Nat) {res : Int32 × PF × PG} (C : cMC p R s m args c A v RX5 cX5_endsConstant 1 0 0 (xn res.2.1 - xn K0)) (hret : ∀ (b1 : Nat) (H1 : Heap) (locs1 : List Loc) (ls1 : Array Slot) (pc : Nat), cMW s A v a b1 K0 res.2.1 res.2.2 H1 locs1 → narrow .boolean (.int res.1) = .int res.1 → decode cX5_endsConstant pc = .ok (.ireturn, 1) → W p l e R s m args below meth c H1 locs1 (xn res.2.1 - xn K0) (2 * (xn res.2.1 - xn K0)) Q (F0 m pc ls1 [.int res.1])) (F : PF) (G : PG) (hm : cb_X5_endsConstant_19 fu F G = some res) {b : Nat} {H : Heap} {locs : List Loc} (hw : cMW s A v a b K0 F G H locs) {ls : Array Slot} (hl : lv_has ls 1 []) : W p l e R s m args below meth c H locs (xn F - xn K0) (2 * (xn F - xn K0)) Q (F0 m 19 ls []) := by
  have hx := C.1
  have hb := C.2.1
  unfold cb_X5_endsConstant_19 at hm
  refine lv_iconst (v := 1) hx hb dX5_endsConstant_19 (by decide) ?_
  refine lv_goto (tgt := 24) hx hb dX5_endsConstant_20 (by decide) ?_
  exact cw_X5_endsConstant_24 fu C hret 1 F G hm hw (lv_sub hl [] rfl)
theorem cn_X5_endsConstant_12 (fu : Nat) {res : Int32 × PF × PG} (F : PF) (G : PG) (hm : cb_X5_endsConstant_12 fu F G = some res) : xn F ≤ xn res.2.1 := by
  unfold cb_X5_endsConstant_12 at hm
  by_cases c_1 : (F 47) = (0 : Int32)
  · have hm := (if_pos c_1).symm.trans hm
    exact (cn_X5_endsConstant_23 fu F G hm)
  · have hm := (if_neg c_1).symm.trans hm
    exact (cn_X5_endsConstant_19 fu F G hm)
theorem cw_X5_endsConstant_12 (fu : Nat) {res : Int32 × PF × PG} (C : cMC p R s m args c A v RX5 cX5_endsConstant 1 0 0 (xn res.2.1 - xn K0)) (hret : ∀ (b1 : Nat) (H1 : Heap) (locs1 : List Loc) (ls1 : Array Slot) (pc : Nat), cMW s A v a b1 K0 res.2.1 res.2.2 H1 locs1 → narrow .boolean (.int res.1) = .int res.1 → decode cX5_endsConstant pc = .ok (.ireturn, 1) → W p l e R s m args below meth c H1 locs1 (xn res.2.1 - xn K0) (2 * (xn res.2.1 - xn K0)) Q (F0 m pc ls1 [.int res.1])) (F : PF) (G : PG) (hm : cb_X5_endsConstant_12 fu F G = some res) {b : Nat} {H : Heap} {locs : List Loc} (hw : cMW s A v a b K0 F G H locs) {ls : Array Slot} (hl : lv_has ls 1 [(0, .ref (a 205))]) : W p l e R s m args below meth c H locs (xn F - xn K0) (2 * (xn F - xn K0)) Q (F0 m 12 ls []) := by
  have hx := C.1
  have hb := C.2.1
  unfold cb_X5_endsConstant_12 at hm
  refine lv_aload_n hx hb dX5_endsConstant_12 rfl (lv_at hl 0 rfl) ?_
  refine cg_X5_60 C hw dX5_endsConstant_13 ?_
  refine lv_if_eq (tgt := 23) hx hb dX5_endsConstant_16 (by decide) (fun c_1 => ?_) (fun c_1 => ?_)
  · have hm := (if_pos c_1).symm.trans hm
    exact cw_X5_endsConstant_23 fu C hret F G hm hw (lv_sub hl [] rfl)
  · have hm := (if_neg c_1).symm.trans hm
    exact cw_X5_endsConstant_19 fu C hret F G hm hw (lv_sub hl [] rfl)
theorem cn_X5_endsConstant_5 (fu : Nat) {res : Int32 × PF × PG} (F : PF) (G : PG) (hm : cb_X5_endsConstant_5 fu F G = some res) : xn F ≤ xn res.2.1 := by
  unfold cb_X5_endsConstant_5 at hm
  by_cases c_1 : (F 45) = (0 : Int32)
  · have hm := (if_pos c_1).symm.trans hm
    exact (cn_X5_endsConstant_23 fu F G hm)
  · have hm := (if_neg c_1).symm.trans hm
    exact (cn_X5_endsConstant_12 fu F G hm)
theorem cw_X5_endsConstant_5 (fu : Nat) {res : Int32 × PF × PG} (C : cMC p R s m args c A v RX5 cX5_endsConstant 1 0 0 (xn res.2.1 - xn K0)) (hret : ∀ (b1 : Nat) (H1 : Heap) (locs1 : List Loc) (ls1 : Array Slot) (pc : Nat), cMW s A v a b1 K0 res.2.1 res.2.2 H1 locs1 → narrow .boolean (.int res.1) = .int res.1 → decode cX5_endsConstant pc = .ok (.ireturn, 1) → W p l e R s m args below meth c H1 locs1 (xn res.2.1 - xn K0) (2 * (xn res.2.1 - xn K0)) Q (F0 m pc ls1 [.int res.1])) (F : PF) (G : PG) (hm : cb_X5_endsConstant_5 fu F G = some res) {b : Nat} {H : Heap} {locs : List Loc} (hw : cMW s A v a b K0 F G H locs) {ls : Array Slot} (hl : lv_has ls 1 [(0, .ref (a 205))]) : W p l e R s m args below meth c H locs (xn F - xn K0) (2 * (xn F - xn K0)) Q (F0 m 5 ls []) := by
  have hx := C.1
  have hb := C.2.1
  unfold cb_X5_endsConstant_5 at hm
  refine lv_aload_n hx hb dX5_endsConstant_5 rfl (lv_at hl 0 rfl) ?_
  refine cg_X5_53 C hw dX5_endsConstant_6 ?_
  refine lv_if_eq (tgt := 23) hx hb dX5_endsConstant_9 (by decide) (fun c_1 => ?_) (fun c_1 => ?_)
  · have hm := (if_pos c_1).symm.trans hm
    exact cw_X5_endsConstant_23 fu C hret F G hm hw (lv_sub hl [] rfl)
  · have hm := (if_neg c_1).symm.trans hm
    exact cw_X5_endsConstant_12 fu C hret F G hm hw (lv_sub hl [0] rfl)
theorem cn_X5_endsConstant_0 (fu : Nat) {res : Int32 × PF × PG} (F : PF) (G : PG) (hm : cb_X5_endsConstant_0 fu F G = some res) : xn F ≤ xn res.2.1 := by
  unfold cb_X5_endsConstant_0 at hm
  exact Nat.le_trans (Nat.le_of_eq (xn_fup (by decide)).symm) (cn_X5_endsConstant_5 fu (fup F 46 (0 : Int32)) G hm)
theorem cw_X5_endsConstant_0 (fu : Nat) {res : Int32 × PF × PG} (C : cMC p R s m args c A v RX5 cX5_endsConstant 1 0 0 (xn res.2.1 - xn K0)) (hret : ∀ (b1 : Nat) (H1 : Heap) (locs1 : List Loc) (ls1 : Array Slot) (pc : Nat), cMW s A v a b1 K0 res.2.1 res.2.2 H1 locs1 → narrow .boolean (.int res.1) = .int res.1 → decode cX5_endsConstant pc = .ok (.ireturn, 1) → W p l e R s m args below meth c H1 locs1 (xn res.2.1 - xn K0) (2 * (xn res.2.1 - xn K0)) Q (F0 m pc ls1 [.int res.1])) (F : PF) (G : PG) (hm : cb_X5_endsConstant_0 fu F G = some res) {b : Nat} {H : Heap} {locs : List Loc} (hw : cMW s A v a b K0 F G H locs) {ls : Array Slot} (hl : lv_has ls 1 [(0, .ref (a 205))]) : W p l e R s m args below meth c H locs (xn F - xn K0) (2 * (xn F - xn K0)) Q (F0 m 0 ls []) := by
  have hx := C.1
  have hb := C.2.1
  unfold cb_X5_endsConstant_0 at hm
  refine lv_aload_n hx hb dX5_endsConstant_0 rfl (lv_at hl 0 rfl) ?_
  refine lv_iconst (v := 0) hx hb dX5_endsConstant_1 (by decide) ?_
  refine cp_X5_57 C hw (by decide) dX5_endsConstant_2 (fun H locs hw => ?_)
  exact cw_X5_endsConstant_5 fu C hret (fup F 46 (0 : Int32)) G hm hw (lv_sub hl [0] rfl)
theorem cn_X5_endsConstant (fu : Nat) (F : PF) (G : PG) (q : Int32 × PF × PG) (hm : cf_X5_endsConstant fu F G = some q) : xn F ≤ xn q.2.1 := cn_X5_endsConstant_0 fu F G hm
theorem ck_X5_endsConstant (l : Launch) (v : EV) (a : Nat → Nat) (b sz : Nat) (fu : Nat) (F : PF) (G : PG) (r : Int32) (F1 : PF) (G1 : PG) (hm : cf_X5_endsConstant fu F G = some (r, F1, G1)) : cMI l yX5_endsConstant cX5_endsConstant 1 (some .boolean) 0 0 v a b sz [.ref (a 205)] F G r F1 G1 := cMI.of (ty := .boolean) (by decide) rfl (Nat.le_of_ble_eq_true rfl) (fun p e R s m args below meth c Q A H locs ls C hw hl hret => cw_X5_endsConstant_0 fu (res := (r, F1, G1)) C hret F G hm hw hl)
def cb_X3_strength_27 (fu : Nat) (z0 : Int32) (F : PF) (G : PG) : PR := some (z0, F, G)
def cb_X3_strength_17 (fu : Nat) (F : PF) (G : PG) : PR := cb_X3_strength_27 fu 11 F G
def cb_X3_strength_22 (fu : Nat) (x1 : Int32) (F : PF) (G : PG) : PR := if ixb x1 19 = true then (cb_X3_strength_27 fu (tb_1 x1.toNatClampNeg) F G) else none
def cb_X3_strength_9 (fu : Nat) (x1 : Int32) (F : PF) (G : PG) : PR := if x1 < (19 : Int32) then cb_X3_strength_22 fu x1 F G else cb_X3_strength_17 fu F G
def cb_X3_strength_0 (fu : Nat) (x0 : Int32) (F : PF) (G : PG) : PR := if (x0 - (43 : Int32)) < (0 : Int32) then cb_X3_strength_17 fu F G else cb_X3_strength_9 fu (x0 - (43 : Int32)) F G
def cf_X3_strength (fu : Nat) (x0 : Int32) (F : PF) (G : PG) : PR := cb_X3_strength_0 fu x0 F G
theorem cn_X3_strength_27 (fu : Nat) {res : Int32 × PF × PG} (z0 : Int32) (F : PF) (G : PG) (hm : cb_X3_strength_27 fu z0 F G = some res) : xn F ≤ xn res.2.1 := by
  unfold cb_X3_strength_27 at hm
  obtain rfl := Option.some.inj hm
  exact Nat.le_refl _
theorem cw_X3_strength_27 (fu : Nat) {res : Int32 × PF × PG} (C : cMC p R s m args c A v RX3 cX3_strength 2 0 0 (xn res.2.1 - xn K0)) (hret : ∀ (b1 : Nat) (H1 : Heap) (locs1 : List Loc) (ls1 : Array Slot) (pc : Nat), cMW s A v a b1 K0 res.2.1 res.2.2 H1 locs1 → narrow .int (.int res.1) = .int res.1 → decode cX3_strength pc = .ok (.ireturn, 1) → W p l e R s m args below meth c H1 locs1 (xn res.2.1 - xn K0) (2 * (xn res.2.1 - xn K0)) Q (F0 m pc ls1 [.int res.1])) (z0 : Int32) (F : PF) (G : PG) (hm : cb_X3_strength_27 fu z0 F G = some res) {b : Nat} {H : Heap} {locs : List Loc} (hw : cMW s A v a b K0 F G H locs) {ls : Array Slot} (hl : lv_has ls 2 []) : W p l e R s m args below meth c H locs (xn F - xn K0) (2 * (xn F - xn K0)) Q (F0 m 27 ls [.int z0]) := by
  have hx := C.1
  have hb := C.2.1
  unfold cb_X3_strength_27 at hm
  obtain rfl := Option.some.inj hm
  exact hret _ _ _ _ _ hw rfl dX3_strength_27
theorem cn_X3_strength_17 (fu : Nat) {res : Int32 × PF × PG} (F : PF) (G : PG) (hm : cb_X3_strength_17 fu F G = some res) : xn F ≤ xn res.2.1 := by
  unfold cb_X3_strength_17 at hm
  exact (cn_X3_strength_27 fu 11 F G hm)
theorem cw_X3_strength_17 (fu : Nat) {res : Int32 × PF × PG} (C : cMC p R s m args c A v RX3 cX3_strength 2 0 0 (xn res.2.1 - xn K0)) (hret : ∀ (b1 : Nat) (H1 : Heap) (locs1 : List Loc) (ls1 : Array Slot) (pc : Nat), cMW s A v a b1 K0 res.2.1 res.2.2 H1 locs1 → narrow .int (.int res.1) = .int res.1 → decode cX3_strength pc = .ok (.ireturn, 1) → W p l e R s m args below meth c H1 locs1 (xn res.2.1 - xn K0) (2 * (xn res.2.1 - xn K0)) Q (F0 m pc ls1 [.int res.1])) (F : PF) (G : PG) (hm : cb_X3_strength_17 fu F G = some res) {b : Nat} {H : Heap} {locs : List Loc} (hw : cMW s A v a b K0 F G H locs) {ls : Array Slot} (hl : lv_has ls 2 []) : W p l e R s m args below meth c H locs (xn F - xn K0) (2 * (xn F - xn K0)) Q (F0 m 17 ls []) := by
  have hx := C.1
  have hb := C.2.1
  unfold cb_X3_strength_17 at hm
  refine lv_bipush (v := 11) hx hb dX3_strength_17 (by decide) ?_
  refine lv_goto (tgt := 27) hx hb dX3_strength_19 (by decide) ?_
  exact cw_X3_strength_27 fu C hret 11 F G hm hw (lv_sub hl [] rfl)
theorem cn_X3_strength_22 (fu : Nat) {res : Int32 × PF × PG} (x1 : Int32) (F : PF) (G : PG) (hm : cb_X3_strength_22 fu x1 F G = some res) : xn F ≤ xn res.2.1 := by
  unfold cb_X3_strength_22 at hm
  have hm := (ix_elim hm).2
  exact (cn_X3_strength_27 fu (tb_1 x1.toNatClampNeg) F G hm)
theorem cw_X3_strength_22 (fu : Nat) {res : Int32 × PF × PG} (C : cMC p R s m args c A v RX3 cX3_strength 2 0 0 (xn res.2.1 - xn K0)) (hret : ∀ (b1 : Nat) (H1 : Heap) (locs1 : List Loc) (ls1 : Array Slot) (pc : Nat), cMW s A v a b1 K0 res.2.1 res.2.2 H1 locs1 → narrow .int (.int res.1) = .int res.1 → decode cX3_strength pc = .ok (.ireturn, 1) → W p l e R s m args below meth c H1 locs1 (xn res.2.1 - xn K0) (2 * (xn res.2.1 - xn K0)) Q (F0 m pc ls1 [.int res.1])) (x1 : Int32) (F : PF) (G : PG) (hm : cb_X3_strength_22 fu x1 F G = some res) {b : Nat} {H : Heap} {locs : List Loc} (hw : cMW s A v a b K0 F G H locs) {ls : Array Slot} (hl : lv_has ls 2 [(1, .int x1)]) : W p l e R s m args below meth c H locs (xn F - xn K0) (2 * (xn F - xn K0)) Q (F0 m 22 ls []) := by
  have hx := C.1
  have hb := C.2.1
  unfold cb_X3_strength_22 at hm
  refine cgs_X3_119 C hw dX3_strength_22 ?_
  refine lv_iload_n hx hb dX3_strength_25 rfl (lv_at hl 0 rfl) ?_
  obtain ⟨hi, hm⟩ := ix_elim hm
  refine cta_1 C hw hi dX3_strength_26 ?_
  exact cw_X3_strength_27 fu C hret (tb_1 x1.toNatClampNeg) F G hm hw (lv_sub hl [] rfl)
theorem cn_X3_strength_9 (fu : Nat) {res : Int32 × PF × PG} (x1 : Int32) (F : PF) (G : PG) (hm : cb_X3_strength_9 fu x1 F G = some res) : xn F ≤ xn res.2.1 := by
  unfold cb_X3_strength_9 at hm
  by_cases c_1 : x1 < (19 : Int32)
  · have hm := (if_pos c_1).symm.trans hm
    exact (cn_X3_strength_22 fu x1 F G hm)
  · have hm := (if_neg c_1).symm.trans hm
    exact (cn_X3_strength_17 fu F G hm)
theorem cw_X3_strength_9 (fu : Nat) {res : Int32 × PF × PG} (C : cMC p R s m args c A v RX3 cX3_strength 2 0 0 (xn res.2.1 - xn K0)) (hret : ∀ (b1 : Nat) (H1 : Heap) (locs1 : List Loc) (ls1 : Array Slot) (pc : Nat), cMW s A v a b1 K0 res.2.1 res.2.2 H1 locs1 → narrow .int (.int res.1) = .int res.1 → decode cX3_strength pc = .ok (.ireturn, 1) → W p l e R s m args below meth c H1 locs1 (xn res.2.1 - xn K0) (2 * (xn res.2.1 - xn K0)) Q (F0 m pc ls1 [.int res.1])) (x1 : Int32) (F : PF) (G : PG) (hm : cb_X3_strength_9 fu x1 F G = some res) {b : Nat} {H : Heap} {locs : List Loc} (hw : cMW s A v a b K0 F G H locs) {ls : Array Slot} (hl : lv_has ls 2 [(1, .int x1)]) : W p l e R s m args below meth c H locs (xn F - xn K0) (2 * (xn F - xn K0)) Q (F0 m 9 ls []) := by
  have hx := C.1
  have hb := C.2.1
  unfold cb_X3_strength_9 at hm
  refine lv_iload_n hx hb dX3_strength_9 rfl (lv_at hl 0 rfl) ?_
  refine cgs_X3_119 C hw dX3_strength_10 ?_
  refine ctl_1 C hw dX3_strength_13 ?_
  refine lv_icmp_lt (tgt := 22) hx hb dX3_strength_14 (by decide) (fun c_1 => ?_) (fun c_1 => ?_)
  · have hm := (if_pos c_1).symm.trans hm
    exact cw_X3_strength_22 fu C hret x1 F G hm hw (lv_sub hl [0] rfl)
  · have hm := (if_neg c_1).symm.trans hm
    exact cw_X3_strength_17 fu C hret F G hm hw (lv_sub hl [] rfl)
theorem cn_X3_strength_0 (fu : Nat) {res : Int32 × PF × PG} (x0 : Int32) (F : PF) (G : PG) (hm : cb_X3_strength_0 fu x0 F G = some res) : xn F ≤ xn res.2.1 := by
  unfold cb_X3_strength_0 at hm
  by_cases c_1 : (x0 - (43 : Int32)) < (0 : Int32)
  · have hm := (if_pos c_1).symm.trans hm
    exact (cn_X3_strength_17 fu F G hm)
  · have hm := (if_neg c_1).symm.trans hm
    exact (cn_X3_strength_9 fu (x0 - (43 : Int32)) F G hm)
theorem cw_X3_strength_0 (fu : Nat) {res : Int32 × PF × PG} (C : cMC p R s m args c A v RX3 cX3_strength 2 0 0 (xn res.2.1 - xn K0)) (hret : ∀ (b1 : Nat) (H1 : Heap) (locs1 : List Loc) (ls1 : Array Slot) (pc : Nat), cMW s A v a b1 K0 res.2.1 res.2.2 H1 locs1 → narrow .int (.int res.1) = .int res.1 → decode cX3_strength pc = .ok (.ireturn, 1) → W p l e R s m args below meth c H1 locs1 (xn res.2.1 - xn K0) (2 * (xn res.2.1 - xn K0)) Q (F0 m pc ls1 [.int res.1])) (x0 : Int32) (F : PF) (G : PG) (hm : cb_X3_strength_0 fu x0 F G = some res) {b : Nat} {H : Heap} {locs : List Loc} (hw : cMW s A v a b K0 F G H locs) {ls : Array Slot} (hl : lv_has ls 2 [(0, .int x0)]) : W p l e R s m args below meth c H locs (xn F - xn K0) (2 * (xn F - xn K0)) Q (F0 m 0 ls []) := by
  have hx := C.1
  have hb := C.2.1
  unfold cb_X3_strength_0 at hm
  refine lv_iload_n hx hb dX3_strength_0 rfl (lv_at hl 0 rfl) ?_
  refine lv_bipush (v := 43) hx hb dX3_strength_1 (by decide) ?_
  refine lv_isub hx hb dX3_strength_3 ?_
  refine lv_istore_n (lv' := [(1, .int (x0 - (43 : Int32))), (0, .int x0)]) hx hb dX3_strength_4 rfl hl (by decide) rfl (fun ls hl => ?_)
  refine lv_iload_n hx hb dX3_strength_5 rfl (lv_at hl 0 rfl) ?_
  refine lv_if_lt (tgt := 17) hx hb dX3_strength_6 (by decide) (fun c_1 => ?_) (fun c_1 => ?_)
  · have hm := (if_pos c_1).symm.trans hm
    exact cw_X3_strength_17 fu C hret F G hm hw (lv_sub hl [] rfl)
  · have hm := (if_neg c_1).symm.trans hm
    exact cw_X3_strength_9 fu C hret (x0 - (43 : Int32)) F G hm hw (lv_sub hl [0] rfl)
theorem cn_X3_strength (fu : Nat) (x0 : Int32) (F : PF) (G : PG) (q : Int32 × PF × PG) (hm : cf_X3_strength fu x0 F G = some q) : xn F ≤ xn q.2.1 := cn_X3_strength_0 fu x0 F G hm
theorem ck_X3_strength (l : Launch) (v : EV) (a : Nat → Nat) (b sz : Nat) (fu : Nat) (x0 : Int32) (F : PF) (G : PG) (r : Int32) (F1 : PF) (G1 : PG) (hm : cf_X3_strength fu x0 F G = some (r, F1, G1)) : cMI l yX3_strength cX3_strength 2 (some .int) 0 0 v a b sz [.int x0] F G r F1 G1 := cMI.of (ty := .int) (by decide) rfl (Nat.le_of_ble_eq_true rfl) (fun p e R s m args below meth c Q A H locs ls C hw hl hret => cw_X3_strength_0 fu (res := (r, F1, G1)) C hret x0 F G hm hw hl)
def cb_X3_settle_138 (fu : Nat) (F : PF) (G : PG) : PR := some (0, F, G)
def cb_X3_settle_132 (fu : Nat) (ag_2 : Int32 → Int32 → Int32 → PF → PG → PR) (x1 : Int32) (x2 : Int32) (x3 : Int32) (F : PF) (G : PG) : PR := ag_2 x1 x2 (x3 + 1) F G
def cb_X3_settle_123 (fu : Nat) (ag_2 : Int32 → Int32 → Int32 → PF → PG → PR) (x1 : Int32) (x2 : Int32) (x3 : Int32) (x4 : Int32) (F : PF) (G : PG) : PR := (cf_X1_add fu x4 F G).bind (fun q => cb_X3_settle_132 fu ag_2 x1 x2 x3 q.2.1 q.2.2)
def cb_X3_settle_120 (fu : Nat) (ag_2 : Int32 → Int32 → Int32 → PF → PG → PR) (x1 : Int32) (x2 : Int32) (x3 : Int32) (F : PF) (G : PG) : PR := cb_X3_settle_132 fu ag_2 x1 x2 x3 F G
def cb_X3_settle_97 (fu : Nat) (ag_2 : Int32 → Int32 → Int32 → PF → PG → PR) (x1 : Int32) (x2 : Int32) (x3 : Int32) (F : PF) (G : PG) : PR := if ixb (F 21) 4001 = true then ((cf_X1_aim fu (G 20 (F 21).toNatClampNeg) (F 6) F G).bind (fun q => cb_X3_settle_120 fu ag_2 x1 x2 x3 q.2.1 q.2.2)) else none
def cb_X3_settle_88 (fu : Nat) (ag_2 : Int32 → Int32 → Int32 → PF → PG → PR) (x1 : Int32) (x2 : Int32) (x3 : Int32) (F : PF) (G : PG) : PR := (cf_X1_add fu 65 F G).bind (fun q => cb_X3_settle_97 fu ag_2 x1 x2 x3 q.2.1 q.2.2)
def cb_X3_settle_78 (fu : Nat) (ag_2 : Int32 → Int32 → Int32 → PF → PG → PR) (x1 : Int32) (x2 : Int32) (x3 : Int32) (F : PF) (G : PG) : PR := cb_X3_settle_88 fu ag_2 x1 x2 x3 (fup F 21 ((F 21) - (1 : Int32))) G
def cb_X3_settle_71 (fu : Nat) (ag_2 : Int32 → Int32 → Int32 → PF → PG → PR) (x1 : Int32) (x2 : Int32) (x3 : Int32) (x4 : Int32) (F : PF) (G : PG) : PR := if (F 21) ≤ (0 : Int32) then cb_X3_settle_123 fu ag_2 x1 x2 x3 x4 F G else cb_X3_settle_78 fu ag_2 x1 x2 x3 F G
def cb_X3_settle_64 (fu : Nat) (ag_2 : Int32 → Int32 → Int32 → PF → PG → PR) (x1 : Int32) (x2 : Int32) (x3 : Int32) (x4 : Int32) (F : PF) (G : PG) : PR := if x4 = (44 : Int32) then cb_X3_settle_71 fu ag_2 x1 x2 x3 x4 F G else cb_X3_settle_123 fu ag_2 x1 x2 x3 x4 F G
def cb_X3_settle_57 (fu : Nat) (ag_2 : Int32 → Int32 → Int32 → PF → PG → PR) (x1 : Int32) (x2 : Int32) (x3 : Int32) (x4 : Int32) (F : PF) (G : PG) : PR := if x4 = (43 : Int32) then cb_X3_settle_71 fu ag_2 x1 x2 x3 x4 F G else cb_X3_settle_64 fu ag_2 x1 x2 x3 x4 F G
def cb_X3_settle_47 (fu : Nat) (ag_2 : Int32 → Int32 → Int32 → PF → PG → PR) (x1 : Int32) (x2 : Int32) (x3 : Int32) (x4 : Int32) (F : PF) (G : PG) : PR := cb_X3_settle_57 fu ag_2 x1 x2 x3 x4 (fup F 21 ((F 21) - (1 : Int32))) G
def cb_X3_settle_46 (fu : Nat) (F : PF) (G : PG) : PR := some (0, F, G)
def cb_X3_settle_42 (fu : Nat) (ag_2 : Int32 → Int32 → Int32 → PF → PG → PR) (x1 : Int32) (x2 : Int32) (x3 : Int32) (x4 : Int32) (z0 : Int32) (F : PF) (G : PG) : PR := if x2 ≤ z0 then cb_X3_settle_47 fu ag_2 x1 x2 x3 x4 F G else cb_X3_settle_46 fu F G
def cb_X3_settle_24 (fu : Nat) (ag_2 : Int32 → Int32 → Int32 → PF → PG → PR) (x1 : Int32) (x2 : Int32) (x3 : Int32) (F : PF) (G : PG) : PR := if ixb ((F 21) - (1 : Int32)) 4001 = true then ((cf_X3_strength fu (G 20 ((F 21) - (1 : Int32)).toNatClampNeg) F G).bind (fun q => cb_X3_settle_42 fu ag_2 x1 x2 x3 (G 20 ((F 21) - (1 : Int32)).toNatClampNeg) q.1 q.2.1 q.2.2)) else none
def cb_X3_settle_17 (fu : Nat) (ag_2 : Int32 → Int32 → Int32 → PF → PG → PR) (x1 : Int32) (x2 : Int32) (x3 : Int32) (F : PF) (G : PG) : PR := if (F 21) ≤ (0 : Int32) then cb_X3_settle_138 fu F G else cb_X3_settle_24 fu ag_2 x1 x2 x3 F G
def cb_X3_settle_9 (fu : Nat) (ag_2 : Int32 → Int32 → Int32 → PF → PG → PR) (x1 : Int32) (x2 : Int32) (x3 : Int32) (F : PF) (G : PG) : PR := if (F 21) ≤ x1 then cb_X3_settle_138 fu F G else cb_X3_settle_17 fu ag_2 x1 x2 x3 F G
def cb_X3_settle_2 (fu : Nat) (ag_2 : Int32 → Int32 → Int32 → PF → PG → PR) (x1 : Int32) (x2 : Int32) (x3 : Int32) (F : PF) (G : PG) : PR := if (4001 : Int32) ≤ x3 then cb_X3_settle_138 fu F G else cb_X3_settle_9 fu ag_2 x1 x2 x3 F G
def cl_X3_settle_2 (fu : Nat) : Nat → Int32 → Int32 → Int32 → PF → PG → PR
  | 0 => fun _ _ _ _ _ => none
  | n + 1 => fun x1 x2 x3 F G => cb_X3_settle_2 fu (cl_X3_settle_2 fu n) x1 x2 x3 F G
def cb_X3_settle_0 (fu : Nat) (x1 : Int32) (x2 : Int32) (F : PF) (G : PG) : PR := cl_X3_settle_2 fu fu x1 x2 0 F G
def cf_X3_settle (fu : Nat) (x1 : Int32) (x2 : Int32) (F : PF) (G : PG) : PR := cb_X3_settle_0 fu x1 x2 F G
theorem cn_X3_settle_138 (fu : Nat) {res : Int32 × PF × PG} (F : PF) (G : PG) (hm : cb_X3_settle_138 fu F G = some res) : xn F ≤ xn res.2.1 := by
  unfold cb_X3_settle_138 at hm
  obtain rfl := Option.some.inj hm
  exact Nat.le_refl _
theorem cw_X3_settle_138 (fu : Nat) {res : Int32 × PF × PG} (C : cMC p R s m args c A v RX3 cX3_settle 5 1 25 (xn res.2.1 - xn K0)) (hret : ∀ (b1 : Nat) (H1 : Heap) (locs1 : List Loc) (ls1 : Array Slot) (pc : Nat), cMW s A v a b1 K0 res.2.1 res.2.2 H1 locs1 → decode cX3_settle pc = .ok (.return_, 1) → W p l e R s m args below meth c H1 locs1 (xn res.2.1 - xn K0) (2 * (xn res.2.1 - xn K0)) Q (F0 m pc ls1 [])) (F : PF) (G : PG) (hm : cb_X3_settle_138 fu F G = some res) {b : Nat} {H : Heap} {locs : List Loc} (hw : cMW s A v a b K0 F G H locs) {ls : Array Slot} (hl : lv_has ls 5 []) : W p l e R s m args below meth c H locs (xn F - xn K0) (2 * (xn F - xn K0)) Q (F0 m 138 ls []) := by
  have hx := C.1
  have hb := C.2.1
  unfold cb_X3_settle_138 at hm
  obtain rfl := Option.some.inj hm
  exact hret _ _ _ _ _ hw dX3_settle_138
theorem cn_X3_settle_132 (fu : Nat) {res : Int32 × PF × PG} (ag_2 : Int32 → Int32 → Int32 → PF → PG → PR) (hagn_2 : ∀ (x1 : Int32) (x2 : Int32) (x3 : Int32) (F : PF) (G : PG), ag_2 x1 x2 x3 F G = some res → xn F ≤ xn res.2.1) (x1 : Int32) (x2 : Int32) (x3 : Int32) (F : PF) (G : PG) (hm : cb_X3_settle_132 fu ag_2 x1 x2 x3 F G = some res) : xn F ≤ xn res.2.1 := by
  unfold cb_X3_settle_132 at hm
  exact (hagn_2 x1 x2 (x3 + 1) F G hm)
theorem cw_X3_settle_132 (fu : Nat) {res : Int32 × PF × PG} (C : cMC p R s m args c A v RX3 cX3_settle 5 1 25 (xn res.2.1 - xn K0)) (hret : ∀ (b1 : Nat) (H1 : Heap) (locs1 : List Loc) (ls1 : Array Slot) (pc : Nat), cMW s A v a b1 K0 res.2.1 res.2.2 H1 locs1 → decode cX3_settle pc = .ok (.return_, 1) → W p l e R s m args below meth c H1 locs1 (xn res.2.1 - xn K0) (2 * (xn res.2.1 - xn K0)) Q (F0 m pc ls1 [])) (ag_2 : Int32 → Int32 → Int32 → PF → PG → PR) (hag_2 : ∀ (x1 : Int32) (x2 : Int32) (x3 : Int32) (F : PF) (G : PG), ag_2 x1 x2 x3 F G = some res → ∀ (b : Nat) (H : Heap) (locs : List Loc) (ls : Array Slot), cMW s A v a b K0 F G H locs → lv_has ls 5 [(0, .ref (a 203)), (1, .int x1), (2, .int x2), (3, .int x3)] → W p l e R s m args below meth c H locs (xn F - xn K0) (2 * (xn F - xn K0)) Q (F0 m 2 ls [])) (hagn_2 : ∀ (x1 : Int32) (x2 : Int32) (x3 : Int32) (F : PF) (G : PG), ag_2 x1 x2 x3 F G = some res → xn F ≤ xn res.2.1) (x1 : Int32) (x2 : Int32) (x3 : Int32) (F : PF) (G : PG) (hm : cb_X3_settle_132 fu ag_2 x1 x2 x3 F G = some res) {b : Nat} {H : Heap} {locs : List Loc} (hw : cMW s A v a b K0 F G H locs) {ls : Array Slot} (hl : lv_has ls 5 [(0, .ref (a 203)), (1, .int x1), (2, .int x2), (3, .int x3)]) : W p l e R s m args below meth c H locs (xn F - xn K0) (2 * (xn F - xn K0)) Q (F0 m 132 ls []) := by
  have hx := C.1
  have hb := C.2.1
  unfold cb_X3_settle_132 at hm
  refine lv_iinc (v := (x3 + 1)) (lv' := [(3, .int (x3 + 1)), (0, .ref (a 203)), (1, .int x1), (2, .int x2)]) hx hb dX3_settle_132 hl (k := 3) rfl (by rfl) (by decide) rfl (fun ls hl => ?_)
  refine lv_goto (tgt := 2) hx hb dX3_settle_135 (by decide) ?_
  exact hag_2 x1 x2 (x3 + 1) F G hm _ _ _ _ hw (lv_sub hl [1, 2, 3, 0] rfl)
theorem cn_X3_settle_123 (fu : Nat) {res : Int32 × PF × PG} (ag_2 : Int32 → Int32 → Int32 → PF → PG → PR) (hagn_2 : ∀ (x1 : Int32) (x2 : Int32) (x3 : Int32) (F : PF) (G : PG), ag_2 x1 x2 x3 F G = some res → xn F ≤ xn res.2.1) (x1 : Int32) (x2 : Int32) (x3 : Int32) (x4 : Int32) (F : PF) (G : PG) (hm : cb_X3_settle_123 fu ag_2 x1 x2 x3 x4 F G = some res) : xn F ≤ xn res.2.1 := by
  unfold cb_X3_settle_123 at hm
  obtain ⟨⟨r1, F1, G1⟩, hc, hm⟩ := bind_elim hm
  exact Nat.le_trans (cn_X1_add fu x4 F G _ hc) (cn_X3_settle_132 fu ag_2 hagn_2 x1 x2 x3 F1 G1 hm)
theorem cw_X3_settle_123 (fu : Nat) {res : Int32 × PF × PG} (C : cMC p R s m args c A v RX3 cX3_settle 5 1 25 (xn res.2.1 - xn K0)) (hret : ∀ (b1 : Nat) (H1 : Heap) (locs1 : List Loc) (ls1 : Array Slot) (pc : Nat), cMW s A v a b1 K0 res.2.1 res.2.2 H1 locs1 → decode cX3_settle pc = .ok (.return_, 1) → W p l e R s m args below meth c H1 locs1 (xn res.2.1 - xn K0) (2 * (xn res.2.1 - xn K0)) Q (F0 m pc ls1 [])) (ag_2 : Int32 → Int32 → Int32 → PF → PG → PR) (hag_2 : ∀ (x1 : Int32) (x2 : Int32) (x3 : Int32) (F : PF) (G : PG), ag_2 x1 x2 x3 F G = some res → ∀ (b : Nat) (H : Heap) (locs : List Loc) (ls : Array Slot), cMW s A v a b K0 F G H locs → lv_has ls 5 [(0, .ref (a 203)), (1, .int x1), (2, .int x2), (3, .int x3)] → W p l e R s m args below meth c H locs (xn F - xn K0) (2 * (xn F - xn K0)) Q (F0 m 2 ls [])) (hagn_2 : ∀ (x1 : Int32) (x2 : Int32) (x3 : Int32) (F : PF) (G : PG), ag_2 x1 x2 x3 F G = some res → xn F ≤ xn res.2.1) (x1 : Int32) (x2 : Int32) (x3 : Int32) (x4 : Int32) (F : PF) (G : PG) (hm : cb_X3_settle_123 fu ag_2 x1 x2 x3 x4 F G = some res) {b : Nat} {H : Heap} {locs : List Loc} (hw : cMW s A v a b K0 F G H locs) {ls : Array Slot} (hl : lv_has ls 5 [(0, .ref (a 203)), (1, .int x1), (2, .int x2), (3, .int x3), (4, .int x4)]) : W p l e R s m args below meth c H locs (xn F - xn K0) (2 * (xn F - xn K0)) Q (F0 m 123 ls []) := by
  have hx := C.1
  have hb := C.2.1
  unfold cb_X3_settle_123 at hm
  refine lv_aload_n hx hb dX3_settle_123 rfl (lv_at hl 0 rfl) ?_
  refine cg_X3_23 C hw dX3_settle_124 ?_
  refine lv_iload hx hb dX3_settle_127 (lv_at hl 4 rfl) ?_
  obtain ⟨⟨r1, F1, G1⟩, hc, hm⟩ := bind_elim hm
  refine ccallV (n := 1) (As := [.int x4]) (rest := []) C hw (ck_X1_add l v a _ _ fu x4 F G r1 F1 G1 hc) (cn_X1_add fu x4 F G _ hc) (Nat.sub_le_sub_right (cn_X3_settle_132 fu ag_2 hagn_2 x1 x2 x3 F1 G1 hm) _) (crecv_X1 C hw) cm_452 cm_453 cm_454 cm_369 cm_455 (by decide +kernel) rfl (by omega) (by omega) hl.1 rfl (Nat.le_of_ble_eq_true rfl) dX3_settle_129 (fun b H locs hw => ?_)
  exact cw_X3_settle_132 fu C hret ag_2 hag_2 hagn_2 x1 x2 x3 F1 G1 hm hw (lv_sub hl [0, 1, 2, 3] rfl)
theorem cn_X3_settle_120 (fu : Nat) {res : Int32 × PF × PG} (ag_2 : Int32 → Int32 → Int32 → PF → PG → PR) (hagn_2 : ∀ (x1 : Int32) (x2 : Int32) (x3 : Int32) (F : PF) (G : PG), ag_2 x1 x2 x3 F G = some res → xn F ≤ xn res.2.1) (x1 : Int32) (x2 : Int32) (x3 : Int32) (F : PF) (G : PG) (hm : cb_X3_settle_120 fu ag_2 x1 x2 x3 F G = some res) : xn F ≤ xn res.2.1 := by
  unfold cb_X3_settle_120 at hm
  exact (cn_X3_settle_132 fu ag_2 hagn_2 x1 x2 x3 F G hm)
theorem cw_X3_settle_120 (fu : Nat) {res : Int32 × PF × PG} (C : cMC p R s m args c A v RX3 cX3_settle 5 1 25 (xn res.2.1 - xn K0)) (hret : ∀ (b1 : Nat) (H1 : Heap) (locs1 : List Loc) (ls1 : Array Slot) (pc : Nat), cMW s A v a b1 K0 res.2.1 res.2.2 H1 locs1 → decode cX3_settle pc = .ok (.return_, 1) → W p l e R s m args below meth c H1 locs1 (xn res.2.1 - xn K0) (2 * (xn res.2.1 - xn K0)) Q (F0 m pc ls1 [])) (ag_2 : Int32 → Int32 → Int32 → PF → PG → PR) (hag_2 : ∀ (x1 : Int32) (x2 : Int32) (x3 : Int32) (F : PF) (G : PG), ag_2 x1 x2 x3 F G = some res → ∀ (b : Nat) (H : Heap) (locs : List Loc) (ls : Array Slot), cMW s A v a b K0 F G H locs → lv_has ls 5 [(0, .ref (a 203)), (1, .int x1), (2, .int x2), (3, .int x3)] → W p l e R s m args below meth c H locs (xn F - xn K0) (2 * (xn F - xn K0)) Q (F0 m 2 ls [])) (hagn_2 : ∀ (x1 : Int32) (x2 : Int32) (x3 : Int32) (F : PF) (G : PG), ag_2 x1 x2 x3 F G = some res → xn F ≤ xn res.2.1) (x1 : Int32) (x2 : Int32) (x3 : Int32) (F : PF) (G : PG) (hm : cb_X3_settle_120 fu ag_2 x1 x2 x3 F G = some res) {b : Nat} {H : Heap} {locs : List Loc} (hw : cMW s A v a b K0 F G H locs) {ls : Array Slot} (hl : lv_has ls 5 [(0, .ref (a 203)), (1, .int x1), (2, .int x2), (3, .int x3)]) : W p l e R s m args below meth c H locs (xn F - xn K0) (2 * (xn F - xn K0)) Q (F0 m 120 ls []) := by
  have hx := C.1
  have hb := C.2.1
  unfold cb_X3_settle_120 at hm
  refine lv_goto (tgt := 132) hx hb dX3_settle_120 (by decide) ?_
  exact cw_X3_settle_132 fu C hret ag_2 hag_2 hagn_2 x1 x2 x3 F G hm hw (lv_sub hl [0, 1, 2, 3] rfl)
theorem cn_X3_settle_97 (fu : Nat) {res : Int32 × PF × PG} (ag_2 : Int32 → Int32 → Int32 → PF → PG → PR) (hagn_2 : ∀ (x1 : Int32) (x2 : Int32) (x3 : Int32) (F : PF) (G : PG), ag_2 x1 x2 x3 F G = some res → xn F ≤ xn res.2.1) (x1 : Int32) (x2 : Int32) (x3 : Int32) (F : PF) (G : PG) (hm : cb_X3_settle_97 fu ag_2 x1 x2 x3 F G = some res) : xn F ≤ xn res.2.1 := by
  unfold cb_X3_settle_97 at hm
  have hm := (ix_elim hm).2
  obtain ⟨⟨r1, F1, G1⟩, hc, hm⟩ := bind_elim hm
  exact Nat.le_trans (cn_X1_aim fu (G 20 (F 21).toNatClampNeg) (F 6) F G _ hc) (cn_X3_settle_120 fu ag_2 hagn_2 x1 x2 x3 F1 G1 hm)
theorem cw_X3_settle_97 (fu : Nat) {res : Int32 × PF × PG} (C : cMC p R s m args c A v RX3 cX3_settle 5 1 25 (xn res.2.1 - xn K0)) (hret : ∀ (b1 : Nat) (H1 : Heap) (locs1 : List Loc) (ls1 : Array Slot) (pc : Nat), cMW s A v a b1 K0 res.2.1 res.2.2 H1 locs1 → decode cX3_settle pc = .ok (.return_, 1) → W p l e R s m args below meth c H1 locs1 (xn res.2.1 - xn K0) (2 * (xn res.2.1 - xn K0)) Q (F0 m pc ls1 [])) (ag_2 : Int32 → Int32 → Int32 → PF → PG → PR) (hag_2 : ∀ (x1 : Int32) (x2 : Int32) (x3 : Int32) (F : PF) (G : PG), ag_2 x1 x2 x3 F G = some res → ∀ (b : Nat) (H : Heap) (locs : List Loc) (ls : Array Slot), cMW s A v a b K0 F G H locs → lv_has ls 5 [(0, .ref (a 203)), (1, .int x1), (2, .int x2), (3, .int x3)] → W p l e R s m args below meth c H locs (xn F - xn K0) (2 * (xn F - xn K0)) Q (F0 m 2 ls [])) (hagn_2 : ∀ (x1 : Int32) (x2 : Int32) (x3 : Int32) (F : PF) (G : PG), ag_2 x1 x2 x3 F G = some res → xn F ≤ xn res.2.1) (x1 : Int32) (x2 : Int32) (x3 : Int32) (F : PF) (G : PG) (hm : cb_X3_settle_97 fu ag_2 x1 x2 x3 F G = some res) {b : Nat} {H : Heap} {locs : List Loc} (hw : cMW s A v a b K0 F G H locs) {ls : Array Slot} (hl : lv_has ls 5 [(0, .ref (a 203)), (1, .int x1), (2, .int x2), (3, .int x3)]) : W p l e R s m args below meth c H locs (xn F - xn K0) (2 * (xn F - xn K0)) Q (F0 m 97 ls []) := by
  have hx := C.1
  have hb := C.2.1
  unfold cb_X3_settle_97 at hm
  refine lv_aload_n hx hb dX3_settle_97 rfl (lv_at hl 0 rfl) ?_
  refine cg_X3_23 C hw dX3_settle_98 ?_
  refine lv_aload_n hx hb dX3_settle_101 rfl (lv_at hl 0 rfl) ?_
  refine cg_X3_9 C hw dX3_settle_102 ?_
  refine lv_aload_n hx hb dX3_settle_105 rfl (lv_at hl 0 rfl) ?_
  refine cg_X3_35 C hw dX3_settle_106 ?_
  obtain ⟨hi, hm⟩ := ix_elim hm
  refine cal_20 C hw hi dX3_settle_109 ?_
  refine lv_aload_n hx hb dX3_settle_110 rfl (lv_at hl 0 rfl) ?_
  refine cg_X3_23 C hw dX3_settle_111 ?_
  refine cg_X3_39 C hw dX3_settle_114 ?_
  obtain ⟨⟨r1, F1, G1⟩, hc, hm⟩ := bind_elim hm
  refine ccallV (n := 2) (As := [.int (G 20 (F 21).toNatClampNeg), .int (F 6)]) (rest := []) C hw (ck_X1_aim l v a _ _ fu (G 20 (F 21).toNatClampNeg) (F 6) F G r1 F1 G1 hc) (cn_X1_aim fu (G 20 (F 21).toNatClampNeg) (F 6) F G _ hc) (Nat.sub_le_sub_right (cn_X3_settle_120 fu ag_2 hagn_2 x1 x2 x3 F1 G1 hm) _) (crecv_X1 C hw) cm_375 cm_376 cm_377 cm_369 cm_378 (by decide +kernel) rfl (by omega) (by omega) hl.1 rfl (Nat.le_of_ble_eq_true rfl) dX3_settle_117 (fun b H locs hw => ?_)
  exact cw_X3_settle_120 fu C hret ag_2 hag_2 hagn_2 x1 x2 x3 F1 G1 hm hw (lv_sub hl [0, 1, 2, 3] rfl)
theorem cn_X3_settle_88 (fu : Nat) {res : Int32 × PF × PG} (ag_2 : Int32 → Int32 → Int32 → PF → PG → PR) (hagn_2 : ∀ (x1 : Int32) (x2 : Int32) (x3 : Int32) (F : PF) (G : PG), ag_2 x1 x2 x3 F G = some res → xn F ≤ xn res.2.1) (x1 : Int32) (x2 : Int32) (x3 : Int32) (F : PF) (G : PG) (hm : cb_X3_settle_88 fu ag_2 x1 x2 x3 F G = some res) : xn F ≤ xn res.2.1 := by
  unfold cb_X3_settle_88 at hm
  obtain ⟨⟨r1, F1, G1⟩, hc, hm⟩ := bind_elim hm
  exact Nat.le_trans (cn_X1_add fu 65 F G _ hc) (cn_X3_settle_97 fu ag_2 hagn_2 x1 x2 x3 F1 G1 hm)
theorem cw_X3_settle_88 (fu : Nat) {res : Int32 × PF × PG} (C : cMC p R s m args c A v RX3 cX3_settle 5 1 25 (xn res.2.1 - xn K0)) (hret : ∀ (b1 : Nat) (H1 : Heap) (locs1 : List Loc) (ls1 : Array Slot) (pc : Nat), cMW s A v a b1 K0 res.2.1 res.2.2 H1 locs1 → decode cX3_settle pc = .ok (.return_, 1) → W p l e R s m args below meth c H1 locs1 (xn res.2.1 - xn K0) (2 * (xn res.2.1 - xn K0)) Q (F0 m pc ls1 [])) (ag_2 : Int32 → Int32 → Int32 → PF → PG → PR) (hag_2 : ∀ (x1 : Int32) (x2 : Int32) (x3 : Int32) (F : PF) (G : PG), ag_2 x1 x2 x3 F G = some res → ∀ (b : Nat) (H : Heap) (locs : List Loc) (ls : Array Slot), cMW s A v a b K0 F G H locs → lv_has ls 5 [(0, .ref (a 203)), (1, .int x1), (2, .int x2), (3, .int x3)] → W p l e R s m args below meth c H locs (xn F - xn K0) (2 * (xn F - xn K0)) Q (F0 m 2 ls [])) (hagn_2 : ∀ (x1 : Int32) (x2 : Int32) (x3 : Int32) (F : PF) (G : PG), ag_2 x1 x2 x3 F G = some res → xn F ≤ xn res.2.1) (x1 : Int32) (x2 : Int32) (x3 : Int32) (F : PF) (G : PG) (hm : cb_X3_settle_88 fu ag_2 x1 x2 x3 F G = some res) {b : Nat} {H : Heap} {locs : List Loc} (hw : cMW s A v a b K0 F G H locs) {ls : Array Slot} (hl : lv_has ls 5 [(0, .ref (a 203)), (1, .int x1), (2, .int x2), (3, .int x3)]) : W p l e R s m args below meth c H locs (xn F - xn K0) (2 * (xn F - xn K0)) Q (F0 m 88 ls []) := by
  have hx := C.1
  have hb := C.2.1
  unfold cb_X3_settle_88 at hm
  refine lv_aload_n hx hb dX3_settle_88 rfl (lv_at hl 0 rfl) ?_
  refine cg_X3_23 C hw dX3_settle_89 ?_
  refine lv_bipush (v := 65) hx hb dX3_settle_92 (by decide) ?_
  obtain ⟨⟨r1, F1, G1⟩, hc, hm⟩ := bind_elim hm
  refine ccallV (n := 1) (As := [.int 65]) (rest := []) C hw (ck_X1_add l v a _ _ fu 65 F G r1 F1 G1 hc) (cn_X1_add fu 65 F G _ hc) (Nat.sub_le_sub_right (cn_X3_settle_97 fu ag_2 hagn_2 x1 x2 x3 F1 G1 hm) _) (crecv_X1 C hw) cm_452 cm_453 cm_454 cm_369 cm_455 (by decide +kernel) rfl (by omega) (by omega) hl.1 rfl (Nat.le_of_ble_eq_true rfl) dX3_settle_94 (fun b H locs hw => ?_)
  exact cw_X3_settle_97 fu C hret ag_2 hag_2 hagn_2 x1 x2 x3 F1 G1 hm hw (lv_sub hl [0, 1, 2, 3] rfl)
theorem cn_X3_settle_78 (fu : Nat) {res : Int32 × PF × PG} (ag_2 : Int32 → Int32 → Int32 → PF → PG → PR) (hagn_2 : ∀ (x1 : Int32) (x2 : Int32) (x3 : Int32) (F : PF) (G : PG), ag_2 x1 x2 x3 F G = some res → xn F ≤ xn res.2.1) (x1 : Int32) (x2 : Int32) (x3 : Int32) (F : PF) (G : PG) (hm : cb_X3_settle_78 fu ag_2 x1 x2 x3 F G = some res) : xn F ≤ xn res.2.1 := by
  unfold cb_X3_settle_78 at hm
  exact Nat.le_trans (Nat.le_of_eq (xn_fup (by decide)).symm) (cn_X3_settle_88 fu ag_2 hagn_2 x1 x2 x3 (fup F 21 ((F 21) - (1 : Int32))) G hm)
theorem cw_X3_settle_78 (fu : Nat) {res : Int32 × PF × PG} (C : cMC p R s m args c A v RX3 cX3_settle 5 1 25 (xn res.2.1 - xn K0)) (hret : ∀ (b1 : Nat) (H1 : Heap) (locs1 : List Loc) (ls1 : Array Slot) (pc : Nat), cMW s A v a b1 K0 res.2.1 res.2.2 H1 locs1 → decode cX3_settle pc = .ok (.return_, 1) → W p l e R s m args below meth c H1 locs1 (xn res.2.1 - xn K0) (2 * (xn res.2.1 - xn K0)) Q (F0 m pc ls1 [])) (ag_2 : Int32 → Int32 → Int32 → PF → PG → PR) (hag_2 : ∀ (x1 : Int32) (x2 : Int32) (x3 : Int32) (F : PF) (G : PG), ag_2 x1 x2 x3 F G = some res → ∀ (b : Nat) (H : Heap) (locs : List Loc) (ls : Array Slot), cMW s A v a b K0 F G H locs → lv_has ls 5 [(0, .ref (a 203)), (1, .int x1), (2, .int x2), (3, .int x3)] → W p l e R s m args below meth c H locs (xn F - xn K0) (2 * (xn F - xn K0)) Q (F0 m 2 ls [])) (hagn_2 : ∀ (x1 : Int32) (x2 : Int32) (x3 : Int32) (F : PF) (G : PG), ag_2 x1 x2 x3 F G = some res → xn F ≤ xn res.2.1) (x1 : Int32) (x2 : Int32) (x3 : Int32) (F : PF) (G : PG) (hm : cb_X3_settle_78 fu ag_2 x1 x2 x3 F G = some res) {b : Nat} {H : Heap} {locs : List Loc} (hw : cMW s A v a b K0 F G H locs) {ls : Array Slot} (hl : lv_has ls 5 [(0, .ref (a 203)), (1, .int x1), (2, .int x2), (3, .int x3)]) : W p l e R s m args below meth c H locs (xn F - xn K0) (2 * (xn F - xn K0)) Q (F0 m 78 ls []) := by
  have hx := C.1
  have hb := C.2.1
  unfold cb_X3_settle_78 at hm
  refine lv_aload_n hx hb dX3_settle_78 rfl (lv_at hl 0 rfl) ?_
  refine lv_dup hx hb dX3_settle_79 rfl ?_
  refine cg_X3_35 C hw dX3_settle_80 ?_
  refine lv_iconst (v := 1) hx hb dX3_settle_83 (by decide) ?_
  refine lv_isub hx hb dX3_settle_84 ?_
  refine cp_X3_35 C hw dX3_settle_85 (fun H locs hw => ?_)
  exact cw_X3_settle_88 fu C hret ag_2 hag_2 hagn_2 x1 x2 x3 (fup F 21 ((F 21) - (1 : Int32))) G hm hw (lv_sub hl [0, 1, 2, 3] rfl)
theorem cn_X3_settle_71 (fu : Nat) {res : Int32 × PF × PG} (ag_2 : Int32 → Int32 → Int32 → PF → PG → PR) (hagn_2 : ∀ (x1 : Int32) (x2 : Int32) (x3 : Int32) (F : PF) (G : PG), ag_2 x1 x2 x3 F G = some res → xn F ≤ xn res.2.1) (x1 : Int32) (x2 : Int32) (x3 : Int32) (x4 : Int32) (F : PF) (G : PG) (hm : cb_X3_settle_71 fu ag_2 x1 x2 x3 x4 F G = some res) : xn F ≤ xn res.2.1 := by
  unfold cb_X3_settle_71 at hm
  by_cases c_1 : (F 21) ≤ (0 : Int32)
  · have hm := (if_pos c_1).symm.trans hm
    exact (cn_X3_settle_123 fu ag_2 hagn_2 x1 x2 x3 x4 F G hm)
  · have hm := (if_neg c_1).symm.trans hm
    exact (cn_X3_settle_78 fu ag_2 hagn_2 x1 x2 x3 F G hm)
theorem cw_X3_settle_71 (fu : Nat) {res : Int32 × PF × PG} (C : cMC p R s m args c A v RX3 cX3_settle 5 1 25 (xn res.2.1 - xn K0)) (hret : ∀ (b1 : Nat) (H1 : Heap) (locs1 : List Loc) (ls1 : Array Slot) (pc : Nat), cMW s A v a b1 K0 res.2.1 res.2.2 H1 locs1 → decode cX3_settle pc = .ok (.return_, 1) → W p l e R s m args below meth c H1 locs1 (xn res.2.1 - xn K0) (2 * (xn res.2.1 - xn K0)) Q (F0 m pc ls1 [])) (ag_2 : Int32 → Int32 → Int32 → PF → PG → PR) (hag_2 : ∀ (x1 : Int32) (x2 : Int32) (x3 : Int32) (F : PF) (G : PG), ag_2 x1 x2 x3 F G = some res → ∀ (b : Nat) (H : Heap) (locs : List Loc) (ls : Array Slot), cMW s A v a b K0 F G H locs → lv_has ls 5 [(0, .ref (a 203)), (1, .int x1), (2, .int x2), (3, .int x3)] → W p l e R s m args below meth c H locs (xn F - xn K0) (2 * (xn F - xn K0)) Q (F0 m 2 ls [])) (hagn_2 : ∀ (x1 : Int32) (x2 : Int32) (x3 : Int32) (F : PF) (G : PG), ag_2 x1 x2 x3 F G = some res → xn F ≤ xn res.2.1) (x1 : Int32) (x2 : Int32) (x3 : Int32) (x4 : Int32) (F : PF) (G : PG) (hm : cb_X3_settle_71 fu ag_2 x1 x2 x3 x4 F G = some res) {b : Nat} {H : Heap} {locs : List Loc} (hw : cMW s A v a b K0 F G H locs) {ls : Array Slot} (hl : lv_has ls 5 [(0, .ref (a 203)), (1, .int x1), (2, .int x2), (3, .int x3), (4, .int x4)]) : W p l e R s m args below meth c H locs (xn F - xn K0) (2 * (xn F - xn K0)) Q (F0 m 71 ls []) := by
  have hx := C.1
  have hb := C.2.1
  unfold cb_X3_settle_71 at hm
  refine lv_aload_n hx hb dX3_settle_71 rfl (lv_at hl 0 rfl) ?_
  refine cg_X3_35 C hw dX3_settle_72 ?_
  refine lv_if_le (tgt := 123) hx hb dX3_settle_75 (by decide) (fun c_1 => ?_) (fun c_1 => ?_)
  · have hm := (if_pos c_1).symm.trans hm
    exact cw_X3_settle_123 fu C hret ag_2 hag_2 hagn_2 x1 x2 x3 x4 F G hm hw (lv_sub hl [0, 1, 2, 3, 4] rfl)
  · have hm := (if_neg c_1).symm.trans hm
    exact cw_X3_settle_78 fu C hret ag_2 hag_2 hagn_2 x1 x2 x3 F G hm hw (lv_sub hl [0, 1, 2, 3] rfl)
theorem cn_X3_settle_64 (fu : Nat) {res : Int32 × PF × PG} (ag_2 : Int32 → Int32 → Int32 → PF → PG → PR) (hagn_2 : ∀ (x1 : Int32) (x2 : Int32) (x3 : Int32) (F : PF) (G : PG), ag_2 x1 x2 x3 F G = some res → xn F ≤ xn res.2.1) (x1 : Int32) (x2 : Int32) (x3 : Int32) (x4 : Int32) (F : PF) (G : PG) (hm : cb_X3_settle_64 fu ag_2 x1 x2 x3 x4 F G = some res) : xn F ≤ xn res.2.1 := by
  unfold cb_X3_settle_64 at hm
  by_cases c_1 : x4 = (44 : Int32)
  · have hm := (if_pos c_1).symm.trans hm
    exact (cn_X3_settle_71 fu ag_2 hagn_2 x1 x2 x3 x4 F G hm)
  · have hm := (if_neg c_1).symm.trans hm
    exact (cn_X3_settle_123 fu ag_2 hagn_2 x1 x2 x3 x4 F G hm)
theorem cw_X3_settle_64 (fu : Nat) {res : Int32 × PF × PG} (C : cMC p R s m args c A v RX3 cX3_settle 5 1 25 (xn res.2.1 - xn K0)) (hret : ∀ (b1 : Nat) (H1 : Heap) (locs1 : List Loc) (ls1 : Array Slot) (pc : Nat), cMW s A v a b1 K0 res.2.1 res.2.2 H1 locs1 → decode cX3_settle pc = .ok (.return_, 1) → W p l e R s m args below meth c H1 locs1 (xn res.2.1 - xn K0) (2 * (xn res.2.1 - xn K0)) Q (F0 m pc ls1 [])) (ag_2 : Int32 → Int32 → Int32 → PF → PG → PR) (hag_2 : ∀ (x1 : Int32) (x2 : Int32) (x3 : Int32) (F : PF) (G : PG), ag_2 x1 x2 x3 F G = some res → ∀ (b : Nat) (H : Heap) (locs : List Loc) (ls : Array Slot), cMW s A v a b K0 F G H locs → lv_has ls 5 [(0, .ref (a 203)), (1, .int x1), (2, .int x2), (3, .int x3)] → W p l e R s m args below meth c H locs (xn F - xn K0) (2 * (xn F - xn K0)) Q (F0 m 2 ls [])) (hagn_2 : ∀ (x1 : Int32) (x2 : Int32) (x3 : Int32) (F : PF) (G : PG), ag_2 x1 x2 x3 F G = some res → xn F ≤ xn res.2.1) (x1 : Int32) (x2 : Int32) (x3 : Int32) (x4 : Int32) (F : PF) (G : PG) (hm : cb_X3_settle_64 fu ag_2 x1 x2 x3 x4 F G = some res) {b : Nat} {H : Heap} {locs : List Loc} (hw : cMW s A v a b K0 F G H locs) {ls : Array Slot} (hl : lv_has ls 5 [(0, .ref (a 203)), (1, .int x1), (2, .int x2), (3, .int x3), (4, .int x4)]) : W p l e R s m args below meth c H locs (xn F - xn K0) (2 * (xn F - xn K0)) Q (F0 m 64 ls []) := by
  have hx := C.1
  have hb := C.2.1
  unfold cb_X3_settle_64 at hm
  refine lv_iload hx hb dX3_settle_64 (lv_at hl 4 rfl) ?_
  refine lv_bipush (v := 44) hx hb dX3_settle_66 (by decide) ?_
  refine lv_icmp_ne (tgt := 123) hx hb dX3_settle_68 (by decide) (fun c_1 => ?_) (fun c_1 => ?_)
  · have hm := (if_neg c_1).symm.trans hm
    exact cw_X3_settle_123 fu C hret ag_2 hag_2 hagn_2 x1 x2 x3 x4 F G hm hw (lv_sub hl [0, 1, 2, 3, 4] rfl)
  · have hm := (if_pos c_1).symm.trans hm
    exact cw_X3_settle_71 fu C hret ag_2 hag_2 hagn_2 x1 x2 x3 x4 F G hm hw (lv_sub hl [0, 1, 2, 3, 4] rfl)
theorem cn_X3_settle_57 (fu : Nat) {res : Int32 × PF × PG} (ag_2 : Int32 → Int32 → Int32 → PF → PG → PR) (hagn_2 : ∀ (x1 : Int32) (x2 : Int32) (x3 : Int32) (F : PF) (G : PG), ag_2 x1 x2 x3 F G = some res → xn F ≤ xn res.2.1) (x1 : Int32) (x2 : Int32) (x3 : Int32) (x4 : Int32) (F : PF) (G : PG) (hm : cb_X3_settle_57 fu ag_2 x1 x2 x3 x4 F G = some res) : xn F ≤ xn res.2.1 := by
  unfold cb_X3_settle_57 at hm
  by_cases c_1 : x4 = (43 : Int32)
  · have hm := (if_pos c_1).symm.trans hm
    exact (cn_X3_settle_71 fu ag_2 hagn_2 x1 x2 x3 x4 F G hm)
  · have hm := (if_neg c_1).symm.trans hm
    exact (cn_X3_settle_64 fu ag_2 hagn_2 x1 x2 x3 x4 F G hm)
theorem cw_X3_settle_57 (fu : Nat) {res : Int32 × PF × PG} (C : cMC p R s m args c A v RX3 cX3_settle 5 1 25 (xn res.2.1 - xn K0)) (hret : ∀ (b1 : Nat) (H1 : Heap) (locs1 : List Loc) (ls1 : Array Slot) (pc : Nat), cMW s A v a b1 K0 res.2.1 res.2.2 H1 locs1 → decode cX3_settle pc = .ok (.return_, 1) → W p l e R s m args below meth c H1 locs1 (xn res.2.1 - xn K0) (2 * (xn res.2.1 - xn K0)) Q (F0 m pc ls1 [])) (ag_2 : Int32 → Int32 → Int32 → PF → PG → PR) (hag_2 : ∀ (x1 : Int32) (x2 : Int32) (x3 : Int32) (F : PF) (G : PG), ag_2 x1 x2 x3 F G = some res → ∀ (b : Nat) (H : Heap) (locs : List Loc) (ls : Array Slot), cMW s A v a b K0 F G H locs → lv_has ls 5 [(0, .ref (a 203)), (1, .int x1), (2, .int x2), (3, .int x3)] → W p l e R s m args below meth c H locs (xn F - xn K0) (2 * (xn F - xn K0)) Q (F0 m 2 ls [])) (hagn_2 : ∀ (x1 : Int32) (x2 : Int32) (x3 : Int32) (F : PF) (G : PG), ag_2 x1 x2 x3 F G = some res → xn F ≤ xn res.2.1) (x1 : Int32) (x2 : Int32) (x3 : Int32) (x4 : Int32) (F : PF) (G : PG) (hm : cb_X3_settle_57 fu ag_2 x1 x2 x3 x4 F G = some res) {b : Nat} {H : Heap} {locs : List Loc} (hw : cMW s A v a b K0 F G H locs) {ls : Array Slot} (hl : lv_has ls 5 [(0, .ref (a 203)), (1, .int x1), (2, .int x2), (3, .int x3), (4, .int x4)]) : W p l e R s m args below meth c H locs (xn F - xn K0) (2 * (xn F - xn K0)) Q (F0 m 57 ls []) := by
  have hx := C.1
  have hb := C.2.1
  unfold cb_X3_settle_57 at hm
  refine lv_iload hx hb dX3_settle_57 (lv_at hl 4 rfl) ?_
  refine lv_bipush (v := 43) hx hb dX3_settle_59 (by decide) ?_
  refine lv_icmp_eq (tgt := 71) hx hb dX3_settle_61 (by decide) (fun c_1 => ?_) (fun c_1 => ?_)
  · have hm := (if_pos c_1).symm.trans hm
    exact cw_X3_settle_71 fu C hret ag_2 hag_2 hagn_2 x1 x2 x3 x4 F G hm hw (lv_sub hl [0, 1, 2, 3, 4] rfl)
  · have hm := (if_neg c_1).symm.trans hm
    exact cw_X3_settle_64 fu C hret ag_2 hag_2 hagn_2 x1 x2 x3 x4 F G hm hw (lv_sub hl [0, 1, 2, 3, 4] rfl)
theorem cn_X3_settle_47 (fu : Nat) {res : Int32 × PF × PG} (ag_2 : Int32 → Int32 → Int32 → PF → PG → PR) (hagn_2 : ∀ (x1 : Int32) (x2 : Int32) (x3 : Int32) (F : PF) (G : PG), ag_2 x1 x2 x3 F G = some res → xn F ≤ xn res.2.1) (x1 : Int32) (x2 : Int32) (x3 : Int32) (x4 : Int32) (F : PF) (G : PG) (hm : cb_X3_settle_47 fu ag_2 x1 x2 x3 x4 F G = some res) : xn F ≤ xn res.2.1 := by
  unfold cb_X3_settle_47 at hm
  exact Nat.le_trans (Nat.le_of_eq (xn_fup (by decide)).symm) (cn_X3_settle_57 fu ag_2 hagn_2 x1 x2 x3 x4 (fup F 21 ((F 21) - (1 : Int32))) G hm)
theorem cw_X3_settle_47 (fu : Nat) {res : Int32 × PF × PG} (C : cMC p R s m args c A v RX3 cX3_settle 5 1 25 (xn res.2.1 - xn K0)) (hret : ∀ (b1 : Nat) (H1 : Heap) (locs1 : List Loc) (ls1 : Array Slot) (pc : Nat), cMW s A v a b1 K0 res.2.1 res.2.2 H1 locs1 → decode cX3_settle pc = .ok (.return_, 1) → W p l e R s m args below meth c H1 locs1 (xn res.2.1 - xn K0) (2 * (xn res.2.1 - xn K0)) Q (F0 m pc ls1 [])) (ag_2 : Int32 → Int32 → Int32 → PF → PG → PR) (hag_2 : ∀ (x1 : Int32) (x2 : Int32) (x3 : Int32) (F : PF) (G : PG), ag_2 x1 x2 x3 F G = some res → ∀ (b : Nat) (H : Heap) (locs : List Loc) (ls : Array Slot), cMW s A v a b K0 F G H locs → lv_has ls 5 [(0, .ref (a 203)), (1, .int x1), (2, .int x2), (3, .int x3)] → W p l e R s m args below meth c H locs (xn F - xn K0) (2 * (xn F - xn K0)) Q (F0 m 2 ls [])) (hagn_2 : ∀ (x1 : Int32) (x2 : Int32) (x3 : Int32) (F : PF) (G : PG), ag_2 x1 x2 x3 F G = some res → xn F ≤ xn res.2.1) (x1 : Int32) (x2 : Int32) (x3 : Int32) (x4 : Int32) (F : PF) (G : PG) (hm : cb_X3_settle_47 fu ag_2 x1 x2 x3 x4 F G = some res) {b : Nat} {H : Heap} {locs : List Loc} (hw : cMW s A v a b K0 F G H locs) {ls : Array Slot} (hl : lv_has ls 5 [(0, .ref (a 203)), (1, .int x1), (2, .int x2), (3, .int x3), (4, .int x4)]) : W p l e R s m args below meth c H locs (xn F - xn K0) (2 * (xn F - xn K0)) Q (F0 m 47 ls []) := by
  have hx := C.1
  have hb := C.2.1
  unfold cb_X3_settle_47 at hm
  refine lv_aload_n hx hb dX3_settle_47 rfl (lv_at hl 0 rfl) ?_
  refine lv_dup hx hb dX3_settle_48 rfl ?_
  refine cg_X3_35 C hw dX3_settle_49 ?_
  refine lv_iconst (v := 1) hx hb dX3_settle_52 (by decide) ?_
  refine lv_isub hx hb dX3_settle_53 ?_
  refine cp_X3_35 C hw dX3_settle_54 (fun H locs hw => ?_)
  exact cw_X3_settle_57 fu C hret ag_2 hag_2 hagn_2 x1 x2 x3 x4 (fup F 21 ((F 21) - (1 : Int32))) G hm hw (lv_sub hl [0, 1, 2, 3, 4] rfl)
theorem cn_X3_settle_46 (fu : Nat) {res : Int32 × PF × PG} (F : PF) (G : PG) (hm : cb_X3_settle_46 fu F G = some res) : xn F ≤ xn res.2.1 := by
  unfold cb_X3_settle_46 at hm
  obtain rfl := Option.some.inj hm
  exact Nat.le_refl _
theorem cw_X3_settle_46 (fu : Nat) {res : Int32 × PF × PG} (C : cMC p R s m args c A v RX3 cX3_settle 5 1 25 (xn res.2.1 - xn K0)) (hret : ∀ (b1 : Nat) (H1 : Heap) (locs1 : List Loc) (ls1 : Array Slot) (pc : Nat), cMW s A v a b1 K0 res.2.1 res.2.2 H1 locs1 → decode cX3_settle pc = .ok (.return_, 1) → W p l e R s m args below meth c H1 locs1 (xn res.2.1 - xn K0) (2 * (xn res.2.1 - xn K0)) Q (F0 m pc ls1 [])) (F : PF) (G : PG) (hm : cb_X3_settle_46 fu F G = some res) {b : Nat} {H : Heap} {locs : List Loc} (hw : cMW s A v a b K0 F G H locs) {ls : Array Slot} (hl : lv_has ls 5 []) : W p l e R s m args below meth c H locs (xn F - xn K0) (2 * (xn F - xn K0)) Q (F0 m 46 ls []) := by
  have hx := C.1
  have hb := C.2.1
  unfold cb_X3_settle_46 at hm
  obtain rfl := Option.some.inj hm
  exact hret _ _ _ _ _ hw dX3_settle_46
theorem cn_X3_settle_42 (fu : Nat) {res : Int32 × PF × PG} (ag_2 : Int32 → Int32 → Int32 → PF → PG → PR) (hagn_2 : ∀ (x1 : Int32) (x2 : Int32) (x3 : Int32) (F : PF) (G : PG), ag_2 x1 x2 x3 F G = some res → xn F ≤ xn res.2.1) (x1 : Int32) (x2 : Int32) (x3 : Int32) (x4 : Int32) (z0 : Int32) (F : PF) (G : PG) (hm : cb_X3_settle_42 fu ag_2 x1 x2 x3 x4 z0 F G = some res) : xn F ≤ xn res.2.1 := by
  unfold cb_X3_settle_42 at hm
  by_cases c_1 : x2 ≤ z0
  · have hm := (if_pos c_1).symm.trans hm
    exact (cn_X3_settle_47 fu ag_2 hagn_2 x1 x2 x3 x4 F G hm)
  · have hm := (if_neg c_1).symm.trans hm
    exact (cn_X3_settle_46 fu F G hm)
theorem cw_X3_settle_42 (fu : Nat) {res : Int32 × PF × PG} (C : cMC p R s m args c A v RX3 cX3_settle 5 1 25 (xn res.2.1 - xn K0)) (hret : ∀ (b1 : Nat) (H1 : Heap) (locs1 : List Loc) (ls1 : Array Slot) (pc : Nat), cMW s A v a b1 K0 res.2.1 res.2.2 H1 locs1 → decode cX3_settle pc = .ok (.return_, 1) → W p l e R s m args below meth c H1 locs1 (xn res.2.1 - xn K0) (2 * (xn res.2.1 - xn K0)) Q (F0 m pc ls1 [])) (ag_2 : Int32 → Int32 → Int32 → PF → PG → PR) (hag_2 : ∀ (x1 : Int32) (x2 : Int32) (x3 : Int32) (F : PF) (G : PG), ag_2 x1 x2 x3 F G = some res → ∀ (b : Nat) (H : Heap) (locs : List Loc) (ls : Array Slot), cMW s A v a b K0 F G H locs → lv_has ls 5 [(0, .ref (a 203)), (1, .int x1), (2, .int x2), (3, .int x3)] → W p l e R s m args below meth c H locs (xn F - xn K0) (2 * (xn F - xn K0)) Q (F0 m 2 ls [])) (hagn_2 : ∀ (x1 : Int32) (x2 : Int32) (x3 : Int32) (F : PF) (G : PG), ag_2 x1 x2 x3 F G = some res → xn F ≤ xn res.2.1) (x1 : Int32) (x2 : Int32) (x3 : Int32) (x4 : Int32) (z0 : Int32) (F : PF) (G : PG) (hm : cb_X3_settle_42 fu ag_2 x1 x2 x3 x4 z0 F G = some res) {b : Nat} {H : Heap} {locs : List Loc} (hw : cMW s A v a b K0 F G H locs) {ls : Array Slot} (hl : lv_has ls 5 [(0, .ref (a 203)), (1, .int x1), (2, .int x2), (3, .int x3), (4, .int x4)]) : W p l e R s m args below meth c H locs (xn F - xn K0) (2 * (xn F - xn K0)) Q (F0 m 42 ls [.int z0]) := by
  have hx := C.1
  have hb := C.2.1
  unfold cb_X3_settle_42 at hm
  refine lv_iload_n hx hb dX3_settle_42 rfl (lv_at hl 2 rfl) ?_
  refine lv_icmp_ge (tgt := 47) hx hb dX3_settle_43 (by decide) (fun c_1 => ?_) (fun c_1 => ?_)
  · have hm := (if_pos c_1).symm.trans hm
    exact cw_X3_settle_47 fu C hret ag_2 hag_2 hagn_2 x1 x2 x3 x4 F G hm hw (lv_sub hl [0, 1, 2, 3, 4] rfl)
  · have hm := (if_neg c_1).symm.trans hm
    exact cw_X3_settle_46 fu C hret F G hm hw (lv_sub hl [] rfl)
theorem cn_X3_settle_24 (fu : Nat) {res : Int32 × PF × PG} (ag_2 : Int32 → Int32 → Int32 → PF → PG → PR) (hagn_2 : ∀ (x1 : Int32) (x2 : Int32) (x3 : Int32) (F : PF) (G : PG), ag_2 x1 x2 x3 F G = some res → xn F ≤ xn res.2.1) (x1 : Int32) (x2 : Int32) (x3 : Int32) (F : PF) (G : PG) (hm : cb_X3_settle_24 fu ag_2 x1 x2 x3 F G = some res) : xn F ≤ xn res.2.1 := by
  unfold cb_X3_settle_24 at hm
  have hm := (ix_elim hm).2
  obtain ⟨⟨r1, F1, G1⟩, hc, hm⟩ := bind_elim hm
  exact Nat.le_trans (cn_X3_strength fu (G 20 ((F 21) - (1 : Int32)).toNatClampNeg) F G _ hc) (cn_X3_settle_42 fu ag_2 hagn_2 x1 x2 x3 (G 20 ((F 21) - (1 : Int32)).toNatClampNeg) r1 F1 G1 hm)
theorem cw_X3_settle_24 (fu : Nat) {res : Int32 × PF × PG} (C : cMC p R s m args c A v RX3 cX3_settle 5 1 25 (xn res.2.1 - xn K0)) (hret : ∀ (b1 : Nat) (H1 : Heap) (locs1 : List Loc) (ls1 : Array Slot) (pc : Nat), cMW s A v a b1 K0 res.2.1 res.2.2 H1 locs1 → decode cX3_settle pc = .ok (.return_, 1) → W p l e R s m args below meth c H1 locs1 (xn res.2.1 - xn K0) (2 * (xn res.2.1 - xn K0)) Q (F0 m pc ls1 [])) (ag_2 : Int32 → Int32 → Int32 → PF → PG → PR) (hag_2 : ∀ (x1 : Int32) (x2 : Int32) (x3 : Int32) (F : PF) (G : PG), ag_2 x1 x2 x3 F G = some res → ∀ (b : Nat) (H : Heap) (locs : List Loc) (ls : Array Slot), cMW s A v a b K0 F G H locs → lv_has ls 5 [(0, .ref (a 203)), (1, .int x1), (2, .int x2), (3, .int x3)] → W p l e R s m args below meth c H locs (xn F - xn K0) (2 * (xn F - xn K0)) Q (F0 m 2 ls [])) (hagn_2 : ∀ (x1 : Int32) (x2 : Int32) (x3 : Int32) (F : PF) (G : PG), ag_2 x1 x2 x3 F G = some res → xn F ≤ xn res.2.1) (x1 : Int32) (x2 : Int32) (x3 : Int32) (F : PF) (G : PG) (hm : cb_X3_settle_24 fu ag_2 x1 x2 x3 F G = some res) {b : Nat} {H : Heap} {locs : List Loc} (hw : cMW s A v a b K0 F G H locs) {ls : Array Slot} (hl : lv_has ls 5 [(0, .ref (a 203)), (1, .int x1), (2, .int x2), (3, .int x3)]) : W p l e R s m args below meth c H locs (xn F - xn K0) (2 * (xn F - xn K0)) Q (F0 m 24 ls []) := by
  have hx := C.1
  have hb := C.2.1
  unfold cb_X3_settle_24 at hm
  refine lv_aload_n hx hb dX3_settle_24 rfl (lv_at hl 0 rfl) ?_
  refine cg_X3_9 C hw dX3_settle_25 ?_
  refine lv_aload_n hx hb dX3_settle_28 rfl (lv_at hl 0 rfl) ?_
  refine cg_X3_35 C hw dX3_settle_29 ?_
  refine lv_iconst (v := 1) hx hb dX3_settle_32 (by decide) ?_
  refine lv_isub hx hb dX3_settle_33 ?_
  obtain ⟨hi, hm⟩ := ix_elim hm
  refine cal_20 C hw hi dX3_settle_34 ?_
  refine lv_istore (lv' := [(4, .int (G 20 ((F 21) - (1 : Int32)).toNatClampNeg)), (0, .ref (a 203)), (1, .int x1), (2, .int x2), (3, .int x3)]) hx hb dX3_settle_35 hl (by decide) rfl (fun ls hl => ?_)
  refine lv_iload hx hb dX3_settle_37 (lv_at hl 0 rfl) ?_
  obtain ⟨⟨r1, F1, G1⟩, hc, hm⟩ := bind_elim hm
  refine ccallIS (n := 1) (As := [.int (G 20 ((F 21) - (1 : Int32)).toNatClampNeg)]) (rest := []) C hw (ck_X3_strength l v a _ _ fu (G 20 ((F 21) - (1 : Int32)).toNatClampNeg) F G r1 F1 G1 hc) (cn_X3_strength fu (G 20 ((F 21) - (1 : Int32)).toNatClampNeg) F G _ hc) (Nat.sub_le_sub_right (cn_X3_settle_42 fu ag_2 hagn_2 x1 x2 x3 (G 20 ((F 21) - (1 : Int32)).toNatClampNeg) r1 F1 G1 hm) _) cm_475 cm_476 cm_301 cm_477 (by decide +kernel) rfl (by omega) (by omega) hl.1 rfl (Nat.le_of_ble_eq_true rfl) dX3_settle_39 (fun b H locs hw => ?_)
  exact cw_X3_settle_42 fu C hret ag_2 hag_2 hagn_2 x1 x2 x3 (G 20 ((F 21) - (1 : Int32)).toNatClampNeg) r1 F1 G1 hm hw (lv_sub hl [1, 2, 3, 4, 0] rfl)
theorem cn_X3_settle_17 (fu : Nat) {res : Int32 × PF × PG} (ag_2 : Int32 → Int32 → Int32 → PF → PG → PR) (hagn_2 : ∀ (x1 : Int32) (x2 : Int32) (x3 : Int32) (F : PF) (G : PG), ag_2 x1 x2 x3 F G = some res → xn F ≤ xn res.2.1) (x1 : Int32) (x2 : Int32) (x3 : Int32) (F : PF) (G : PG) (hm : cb_X3_settle_17 fu ag_2 x1 x2 x3 F G = some res) : xn F ≤ xn res.2.1 := by
  unfold cb_X3_settle_17 at hm
  by_cases c_1 : (F 21) ≤ (0 : Int32)
  · have hm := (if_pos c_1).symm.trans hm
    exact (cn_X3_settle_138 fu F G hm)
  · have hm := (if_neg c_1).symm.trans hm
    exact (cn_X3_settle_24 fu ag_2 hagn_2 x1 x2 x3 F G hm)
theorem cw_X3_settle_17 (fu : Nat) {res : Int32 × PF × PG} (C : cMC p R s m args c A v RX3 cX3_settle 5 1 25 (xn res.2.1 - xn K0)) (hret : ∀ (b1 : Nat) (H1 : Heap) (locs1 : List Loc) (ls1 : Array Slot) (pc : Nat), cMW s A v a b1 K0 res.2.1 res.2.2 H1 locs1 → decode cX3_settle pc = .ok (.return_, 1) → W p l e R s m args below meth c H1 locs1 (xn res.2.1 - xn K0) (2 * (xn res.2.1 - xn K0)) Q (F0 m pc ls1 [])) (ag_2 : Int32 → Int32 → Int32 → PF → PG → PR) (hag_2 : ∀ (x1 : Int32) (x2 : Int32) (x3 : Int32) (F : PF) (G : PG), ag_2 x1 x2 x3 F G = some res → ∀ (b : Nat) (H : Heap) (locs : List Loc) (ls : Array Slot), cMW s A v a b K0 F G H locs → lv_has ls 5 [(0, .ref (a 203)), (1, .int x1), (2, .int x2), (3, .int x3)] → W p l e R s m args below meth c H locs (xn F - xn K0) (2 * (xn F - xn K0)) Q (F0 m 2 ls [])) (hagn_2 : ∀ (x1 : Int32) (x2 : Int32) (x3 : Int32) (F : PF) (G : PG), ag_2 x1 x2 x3 F G = some res → xn F ≤ xn res.2.1) (x1 : Int32) (x2 : Int32) (x3 : Int32) (F : PF) (G : PG) (hm : cb_X3_settle_17 fu ag_2 x1 x2 x3 F G = some res) {b : Nat} {H : Heap} {locs : List Loc} (hw : cMW s A v a b K0 F G H locs) {ls : Array Slot} (hl : lv_has ls 5 [(0, .ref (a 203)), (1, .int x1), (2, .int x2), (3, .int x3)]) : W p l e R s m args below meth c H locs (xn F - xn K0) (2 * (xn F - xn K0)) Q (F0 m 17 ls []) := by
  have hx := C.1
  have hb := C.2.1
  unfold cb_X3_settle_17 at hm
  refine lv_aload_n hx hb dX3_settle_17 rfl (lv_at hl 0 rfl) ?_
  refine cg_X3_35 C hw dX3_settle_18 ?_
  refine lv_if_le (tgt := 138) hx hb dX3_settle_21 (by decide) (fun c_1 => ?_) (fun c_1 => ?_)
  · have hm := (if_pos c_1).symm.trans hm
    exact cw_X3_settle_138 fu C hret F G hm hw (lv_sub hl [] rfl)
  · have hm := (if_neg c_1).symm.trans hm
    exact cw_X3_settle_24 fu C hret ag_2 hag_2 hagn_2 x1 x2 x3 F G hm hw (lv_sub hl [0, 1, 2, 3] rfl)
theorem cn_X3_settle_9 (fu : Nat) {res : Int32 × PF × PG} (ag_2 : Int32 → Int32 → Int32 → PF → PG → PR) (hagn_2 : ∀ (x1 : Int32) (x2 : Int32) (x3 : Int32) (F : PF) (G : PG), ag_2 x1 x2 x3 F G = some res → xn F ≤ xn res.2.1) (x1 : Int32) (x2 : Int32) (x3 : Int32) (F : PF) (G : PG) (hm : cb_X3_settle_9 fu ag_2 x1 x2 x3 F G = some res) : xn F ≤ xn res.2.1 := by
  unfold cb_X3_settle_9 at hm
  by_cases c_1 : (F 21) ≤ x1
  · have hm := (if_pos c_1).symm.trans hm
    exact (cn_X3_settle_138 fu F G hm)
  · have hm := (if_neg c_1).symm.trans hm
    exact (cn_X3_settle_17 fu ag_2 hagn_2 x1 x2 x3 F G hm)
theorem cw_X3_settle_9 (fu : Nat) {res : Int32 × PF × PG} (C : cMC p R s m args c A v RX3 cX3_settle 5 1 25 (xn res.2.1 - xn K0)) (hret : ∀ (b1 : Nat) (H1 : Heap) (locs1 : List Loc) (ls1 : Array Slot) (pc : Nat), cMW s A v a b1 K0 res.2.1 res.2.2 H1 locs1 → decode cX3_settle pc = .ok (.return_, 1) → W p l e R s m args below meth c H1 locs1 (xn res.2.1 - xn K0) (2 * (xn res.2.1 - xn K0)) Q (F0 m pc ls1 [])) (ag_2 : Int32 → Int32 → Int32 → PF → PG → PR) (hag_2 : ∀ (x1 : Int32) (x2 : Int32) (x3 : Int32) (F : PF) (G : PG), ag_2 x1 x2 x3 F G = some res → ∀ (b : Nat) (H : Heap) (locs : List Loc) (ls : Array Slot), cMW s A v a b K0 F G H locs → lv_has ls 5 [(0, .ref (a 203)), (1, .int x1), (2, .int x2), (3, .int x3)] → W p l e R s m args below meth c H locs (xn F - xn K0) (2 * (xn F - xn K0)) Q (F0 m 2 ls [])) (hagn_2 : ∀ (x1 : Int32) (x2 : Int32) (x3 : Int32) (F : PF) (G : PG), ag_2 x1 x2 x3 F G = some res → xn F ≤ xn res.2.1) (x1 : Int32) (x2 : Int32) (x3 : Int32) (F : PF) (G : PG) (hm : cb_X3_settle_9 fu ag_2 x1 x2 x3 F G = some res) {b : Nat} {H : Heap} {locs : List Loc} (hw : cMW s A v a b K0 F G H locs) {ls : Array Slot} (hl : lv_has ls 5 [(0, .ref (a 203)), (1, .int x1), (2, .int x2), (3, .int x3)]) : W p l e R s m args below meth c H locs (xn F - xn K0) (2 * (xn F - xn K0)) Q (F0 m 9 ls []) := by
  have hx := C.1
  have hb := C.2.1
  unfold cb_X3_settle_9 at hm
  refine lv_aload_n hx hb dX3_settle_9 rfl (lv_at hl 0 rfl) ?_
  refine cg_X3_35 C hw dX3_settle_10 ?_
  refine lv_iload_n hx hb dX3_settle_13 rfl (lv_at hl 1 rfl) ?_
  refine lv_icmp_le (tgt := 138) hx hb dX3_settle_14 (by decide) (fun c_1 => ?_) (fun c_1 => ?_)
  · have hm := (if_pos c_1).symm.trans hm
    exact cw_X3_settle_138 fu C hret F G hm hw (lv_sub hl [] rfl)
  · have hm := (if_neg c_1).symm.trans hm
    exact cw_X3_settle_17 fu C hret ag_2 hag_2 hagn_2 x1 x2 x3 F G hm hw (lv_sub hl [0, 1, 2, 3] rfl)
theorem cn_X3_settle_2 (fu : Nat) {res : Int32 × PF × PG} (ag_2 : Int32 → Int32 → Int32 → PF → PG → PR) (hagn_2 : ∀ (x1 : Int32) (x2 : Int32) (x3 : Int32) (F : PF) (G : PG), ag_2 x1 x2 x3 F G = some res → xn F ≤ xn res.2.1) (x1 : Int32) (x2 : Int32) (x3 : Int32) (F : PF) (G : PG) (hm : cb_X3_settle_2 fu ag_2 x1 x2 x3 F G = some res) : xn F ≤ xn res.2.1 := by
  unfold cb_X3_settle_2 at hm
  by_cases c_1 : (4001 : Int32) ≤ x3
  · have hm := (if_pos c_1).symm.trans hm
    exact (cn_X3_settle_138 fu F G hm)
  · have hm := (if_neg c_1).symm.trans hm
    exact (cn_X3_settle_9 fu ag_2 hagn_2 x1 x2 x3 F G hm)
theorem cw_X3_settle_2 (fu : Nat) {res : Int32 × PF × PG} (C : cMC p R s m args c A v RX3 cX3_settle 5 1 25 (xn res.2.1 - xn K0)) (hret : ∀ (b1 : Nat) (H1 : Heap) (locs1 : List Loc) (ls1 : Array Slot) (pc : Nat), cMW s A v a b1 K0 res.2.1 res.2.2 H1 locs1 → decode cX3_settle pc = .ok (.return_, 1) → W p l e R s m args below meth c H1 locs1 (xn res.2.1 - xn K0) (2 * (xn res.2.1 - xn K0)) Q (F0 m pc ls1 [])) (ag_2 : Int32 → Int32 → Int32 → PF → PG → PR) (hag_2 : ∀ (x1 : Int32) (x2 : Int32) (x3 : Int32) (F : PF) (G : PG), ag_2 x1 x2 x3 F G = some res → ∀ (b : Nat) (H : Heap) (locs : List Loc) (ls : Array Slot), cMW s A v a b K0 F G H locs → lv_has ls 5 [(0, .ref (a 203)), (1, .int x1), (2, .int x2), (3, .int x3)] → W p l e R s m args below meth c H locs (xn F - xn K0) (2 * (xn F - xn K0)) Q (F0 m 2 ls [])) (hagn_2 : ∀ (x1 : Int32) (x2 : Int32) (x3 : Int32) (F : PF) (G : PG), ag_2 x1 x2 x3 F G = some res → xn F ≤ xn res.2.1) (x1 : Int32) (x2 : Int32) (x3 : Int32) (F : PF) (G : PG) (hm : cb_X3_settle_2 fu ag_2 x1 x2 x3 F G = some res) {b : Nat} {H : Heap} {locs : List Loc} (hw : cMW s A v a b K0 F G H locs) {ls : Array Slot} (hl : lv_has ls 5 [(0, .ref (a 203)), (1, .int x1), (2, .int x2), (3, .int x3)]) : W p l e R s m args below meth c H locs (xn F - xn K0) (2 * (xn F - xn K0)) Q (F0 m 2 ls []) := by
  have hx := C.1
  have hb := C.2.1
  unfold cb_X3_settle_2 at hm
  refine lv_iload_n hx hb dX3_settle_2 rfl (lv_at hl 3 rfl) ?_
  refine lv_sipush (v := 4001) hx hb dX3_settle_3 (by decide) ?_
  refine lv_icmp_ge (tgt := 138) hx hb dX3_settle_6 (by decide) (fun c_1 => ?_) (fun c_1 => ?_)
  · have hm := (if_pos c_1).symm.trans hm
    exact cw_X3_settle_138 fu C hret F G hm hw (lv_sub hl [] rfl)
  · have hm := (if_neg c_1).symm.trans hm
    exact cw_X3_settle_9 fu C hret ag_2 hag_2 hagn_2 x1 x2 x3 F G hm hw (lv_sub hl [0, 1, 2, 3] rfl)
theorem cnl_X3_settle_2 (fu : Nat) {res : Int32 × PF × PG} : ∀ (n : Nat) (x1 : Int32) (x2 : Int32) (x3 : Int32) (F : PF) (G : PG) (hm : cl_X3_settle_2 fu n x1 x2 x3 F G = some res), xn F ≤ xn res.2.1 := by
  intro n
  induction n with
  | zero =>
    intro x1 x2 x3 F G hm
    exact no_elim (show (none : PR) = some res from hm)
  | succ n ih =>
    intro x1 x2 x3 F G hm
    exact cn_X3_settle_2 fu (cl_X3_settle_2 fu n) (fun x1 x2 x3 F G hm => ih x1 x2 x3 F G hm) x1 x2 x3 F G hm
theorem cwl_X3_settle_2 (fu : Nat) {res : Int32 × PF × PG} (C : cMC p R s m args c A v RX3 cX3_settle 5 1 25 (xn res.2.1 - xn K0)) (hret : ∀ (b1 : Nat) (H1 : Heap) (locs1 : List Loc) (ls1 : Array Slot) (pc : Nat), cMW s A v a b1 K0 res.2.1 res.2.2 H1 locs1 → decode cX3_settle pc = .ok (.return_, 1) → W p l e R s m args below meth c H1 locs1 (xn res.2.1 - xn K0) (2 * (xn res.2.1 - xn K0)) Q (F0 m pc ls1 [])) : ∀ (n : Nat) (x1 : Int32) (x2 : Int32) (x3 : Int32) (F : PF) (G : PG) (hm : cl_X3_settle_2 fu n x1 x2 x3 F G = some res) {b : Nat} {H : Heap} {locs : List Loc} (hw : cMW s A v a b K0 F G H locs) {ls : Array Slot} (hl : lv_has ls 5 [(0, .ref (a 203)), (1, .int x1), (2, .int x2), (3, .int x3)]), W p l e R s m args below meth c H locs (xn F - xn K0) (2 * (xn F - xn K0)) Q (F0 m 2 ls []) := by
  intro n
  induction n with
  | zero =>
    intro x1 x2 x3 F G hm
    exact no_elim (show (none : PR) = some res from hm)
  | succ n ih =>
    intro x1 x2 x3 F G hm b H locs hw ls hl
    exact cw_X3_settle_2 fu C hret (cl_X3_settle_2 fu n) (fun x1 x2 x3 F G hm b H locs ls hw hl => ih x1 x2 x3 F G hm hw hl) (fun x1 x2 x3 F G hm => cnl_X3_settle_2 fu n x1 x2 x3 F G hm) x1 x2 x3 F G hm hw hl
theorem cn_X3_settle_0 (fu : Nat) {res : Int32 × PF × PG} (x1 : Int32) (x2 : Int32) (F : PF) (G : PG) (hm : cb_X3_settle_0 fu x1 x2 F G = some res) : xn F ≤ xn res.2.1 := by
  unfold cb_X3_settle_0 at hm
  exact (cnl_X3_settle_2 fu fu x1 x2 0 F G hm)
theorem cw_X3_settle_0 (fu : Nat) {res : Int32 × PF × PG} (C : cMC p R s m args c A v RX3 cX3_settle 5 1 25 (xn res.2.1 - xn K0)) (hret : ∀ (b1 : Nat) (H1 : Heap) (locs1 : List Loc) (ls1 : Array Slot) (pc : Nat), cMW s A v a b1 K0 res.2.1 res.2.2 H1 locs1 → decode cX3_settle pc = .ok (.return_, 1) → W p l e R s m args below meth c H1 locs1 (xn res.2.1 - xn K0) (2 * (xn res.2.1 - xn K0)) Q (F0 m pc ls1 [])) (x1 : Int32) (x2 : Int32) (F : PF) (G : PG) (hm : cb_X3_settle_0 fu x1 x2 F G = some res) {b : Nat} {H : Heap} {locs : List Loc} (hw : cMW s A v a b K0 F G H locs) {ls : Array Slot} (hl : lv_has ls 5 [(0, .ref (a 203)), (1, .int x1), (2, .int x2)]) : W p l e R s m args below meth c H locs (xn F - xn K0) (2 * (xn F - xn K0)) Q (F0 m 0 ls []) := by
  have hx := C.1
  have hb := C.2.1
  unfold cb_X3_settle_0 at hm
  refine lv_iconst (v := 0) hx hb dX3_settle_0 (by decide) ?_
  refine lv_istore_n (lv' := [(3, .int 0), (0, .ref (a 203)), (1, .int x1), (2, .int x2)]) hx hb dX3_settle_1 rfl hl (by decide) rfl (fun ls hl => ?_)
  exact cwl_X3_settle_2 fu C hret fu x1 x2 0 F G hm hw (lv_sub hl [1, 2, 3, 0] rfl)
theorem cn_X3_settle (fu : Nat) (x1 : Int32) (x2 : Int32) (F : PF) (G : PG) (q : Int32 × PF × PG) (hm : cf_X3_settle fu x1 x2 F G = some q) : xn F ≤ xn q.2.1 := cn_X3_settle_0 fu x1 x2 F G hm
theorem ck_X3_settle (l : Launch) (v : EV) (a : Nat → Nat) (b sz : Nat) (fu : Nat) (x1 : Int32) (x2 : Int32) (F : PF) (G : PG) (r : Int32) (F1 : PF) (G1 : PG) (hm : cf_X3_settle fu x1 x2 F G = some (r, F1, G1)) : cMV l yX3_settle cX3_settle 5 1 25 v a b sz [.ref (a 203), .int x1, .int x2] F G F1 G1 := cMV.of (by decide) (Nat.le_of_ble_eq_true rfl) (fun p e R s m args below meth c Q A H locs ls C hw hl hret => cw_X3_settle_0 fu (res := (r, F1, G1)) C hret x1 x2 F G hm hw hl)
def cb_X3_waits_83 (fu : Nat) (F : PF) (G : PG) : PR := some (0, F, G)
def cb_X3_waits_73 (fu : Nat) (F : PF) (G : PG) : PR := cb_X3_waits_83 fu (fup F 21 ((F 21) + (1 : Int32))) G
def cb_X3_waits_63 (fu : Nat) (x1 : Int32) (F : PF) (G : PG) : PR := if ixb (F 21) 4001 = true then (cb_X3_waits_73 fu F (gup G 20 (F 21).toNatClampNeg x1)) else none
def cb_X3_waits_53 (fu : Nat) (x1 : Int32) (F : PF) (G : PG) : PR := cb_X3_waits_63 fu x1 (fup F 21 ((F 21) + (1 : Int32))) G
def cb_X3_waits_52 (fu : Nat) (x1 : Int32) (z0 : Int32) (z1 : Int32) (F : PF) (G : PG) : PR := if ixb z1 4001 = true then (cb_X3_waits_53 fu x1 F (gup G 20 z1.toNatClampNeg z0)) else none
def cb_X3_waits_48 (fu : Nat) (x1 : Int32) (z0 : Int32) (z2 : Int32) (F : PF) (G : PG) : PR := (cf_X1_addJump fu z0 (-1) F G).bind (fun q => cb_X3_waits_52 fu x1 q.1 z2 q.2.1 q.2.2)
def cb_X3_waits_46 (fu : Nat) (x1 : Int32) (z1 : Int32) (F : PF) (G : PG) : PR := cb_X3_waits_48 fu x1 88 z1 F G
def cb_X3_waits_41 (fu : Nat) (x1 : Int32) (z1 : Int32) (F : PF) (G : PG) : PR := cb_X3_waits_48 fu x1 87 z1 F G
def cb_X3_waits_23 (fu : Nat) (x1 : Int32) (F : PF) (G : PG) : PR := if x1 = (43 : Int32) then cb_X3_waits_41 fu x1 (F 21) F G else cb_X3_waits_46 fu x1 (F 21) F G
def cb_X3_waits_17 (fu : Nat) (x1 : Int32) (F : PF) (G : PG) : PR := if x1 = (44 : Int32) then cb_X3_waits_23 fu x1 F G else cb_X3_waits_63 fu x1 F G
def cb_X3_waits_11 (fu : Nat) (x1 : Int32) (F : PF) (G : PG) : PR := if x1 = (43 : Int32) then cb_X3_waits_23 fu x1 F G else cb_X3_waits_17 fu x1 F G
def cb_X3_waits_10 (fu : Nat) (F : PF) (G : PG) : PR := some (0, F, G)
def cb_X3_waits_0 (fu : Nat) (x1 : Int32) (F : PF) (G : PG) : PR := if (F 21) < (4000 : Int32) then cb_X3_waits_11 fu x1 F G else cb_X3_waits_10 fu F G
def cf_X3_waits (fu : Nat) (x1 : Int32) (F : PF) (G : PG) : PR := cb_X3_waits_0 fu x1 F G
theorem cn_X3_waits_83 (fu : Nat) {res : Int32 × PF × PG} (F : PF) (G : PG) (hm : cb_X3_waits_83 fu F G = some res) : xn F ≤ xn res.2.1 := by
  unfold cb_X3_waits_83 at hm
  obtain rfl := Option.some.inj hm
  exact Nat.le_refl _
theorem cw_X3_waits_83 (fu : Nat) {res : Int32 × PF × PG} (C : cMC p R s m args c A v RX3 cX3_waits 2 1 22 (xn res.2.1 - xn K0)) (hret : ∀ (b1 : Nat) (H1 : Heap) (locs1 : List Loc) (ls1 : Array Slot) (pc : Nat), cMW s A v a b1 K0 res.2.1 res.2.2 H1 locs1 → decode cX3_waits pc = .ok (.return_, 1) → W p l e R s m args below meth c H1 locs1 (xn res.2.1 - xn K0) (2 * (xn res.2.1 - xn K0)) Q (F0 m pc ls1 [])) (F : PF) (G : PG) (hm : cb_X3_waits_83 fu F G = some res) {b : Nat} {H : Heap} {locs : List Loc} (hw : cMW s A v a b K0 F G H locs) {ls : Array Slot} (hl : lv_has ls 2 []) : W p l e R s m args below meth c H locs (xn F - xn K0) (2 * (xn F - xn K0)) Q (F0 m 83 ls []) := by
  have hx := C.1
  have hb := C.2.1
  unfold cb_X3_waits_83 at hm
  obtain rfl := Option.some.inj hm
  exact hret _ _ _ _ _ hw dX3_waits_83
theorem cn_X3_waits_73 (fu : Nat) {res : Int32 × PF × PG} (F : PF) (G : PG) (hm : cb_X3_waits_73 fu F G = some res) : xn F ≤ xn res.2.1 := by
  unfold cb_X3_waits_73 at hm
  exact Nat.le_trans (Nat.le_of_eq (xn_fup (by decide)).symm) (cn_X3_waits_83 fu (fup F 21 ((F 21) + (1 : Int32))) G hm)
theorem cw_X3_waits_73 (fu : Nat) {res : Int32 × PF × PG} (C : cMC p R s m args c A v RX3 cX3_waits 2 1 22 (xn res.2.1 - xn K0)) (hret : ∀ (b1 : Nat) (H1 : Heap) (locs1 : List Loc) (ls1 : Array Slot) (pc : Nat), cMW s A v a b1 K0 res.2.1 res.2.2 H1 locs1 → decode cX3_waits pc = .ok (.return_, 1) → W p l e R s m args below meth c H1 locs1 (xn res.2.1 - xn K0) (2 * (xn res.2.1 - xn K0)) Q (F0 m pc ls1 [])) (F : PF) (G : PG) (hm : cb_X3_waits_73 fu F G = some res) {b : Nat} {H : Heap} {locs : List Loc} (hw : cMW s A v a b K0 F G H locs) {ls : Array Slot} (hl : lv_has ls 2 [(0, .ref (a 203))]) : W p l e R s m args below meth c H locs (xn F - xn K0) (2 * (xn F - xn K0)) Q (F0 m 73 ls []) := by
  have hx := C.1
  have hb := C.2.1
  unfold cb_X3_waits_73 at hm
  refine lv_aload_n hx hb dX3_waits_73 rfl (lv_at hl 0 rfl) ?_
  refine lv_dup hx hb dX3_waits_74 rfl ?_
  refine cg_X3_35 C hw dX3_waits_75 ?_
  refine lv_iconst (v := 1) hx hb dX3_waits_78 (by decide) ?_
  refine lv_iadd hx hb dX3_waits_79 ?_
  refine cp_X3_35 C hw dX3_waits_80 (fun H locs hw => ?_)
  exact cw_X3_waits_83 fu C hret (fup F 21 ((F 21) + (1 : Int32))) G hm hw (lv_sub hl [] rfl)
theorem cn_X3_waits_63 (fu : Nat) {res : Int32 × PF × PG} (x1 : Int32) (F : PF) (G : PG) (hm : cb_X3_waits_63 fu x1 F G = some res) : xn F ≤ xn res.2.1 := by
  unfold cb_X3_waits_63 at hm
  have hm := (ix_elim hm).2
  exact (cn_X3_waits_73 fu F (gup G 20 (F 21).toNatClampNeg x1) hm)
theorem cw_X3_waits_63 (fu : Nat) {res : Int32 × PF × PG} (C : cMC p R s m args c A v RX3 cX3_waits 2 1 22 (xn res.2.1 - xn K0)) (hret : ∀ (b1 : Nat) (H1 : Heap) (locs1 : List Loc) (ls1 : Array Slot) (pc : Nat), cMW s A v a b1 K0 res.2.1 res.2.2 H1 locs1 → decode cX3_waits pc = .ok (.return_, 1) → W p l e R s m args below meth c H1 locs1 (xn res.2.1 - xn K0) (2 * (xn res.2.1 - xn K0)) Q (F0 m pc ls1 [])) (x1 : Int32) (F : PF) (G : PG) (hm : cb_X3_waits_63 fu x1 F G = some res) {b : Nat} {H : Heap} {locs : List Loc} (hw : cMW s A v a b K0 F G H locs) {ls : Array Slot} (hl : lv_has ls 2 [(0, .ref (a 203)), (1, .int x1)]) : W p l e R s m args below meth c H locs (xn F - xn K0) (2 * (xn F - xn K0)) Q (F0 m 63 ls []) := by
  have hx := C.1
  have hb := C.2.1
  unfold cb_X3_waits_63 at hm
  refine lv_aload_n hx hb dX3_waits_63 rfl (lv_at hl 0 rfl) ?_
  refine cg_X3_9 C hw dX3_waits_64 ?_
  refine lv_aload_n hx hb dX3_waits_67 rfl (lv_at hl 0 rfl) ?_
  refine cg_X3_35 C hw dX3_waits_68 ?_
  refine lv_iload_n hx hb dX3_waits_71 rfl (lv_at hl 1 rfl) ?_
  obtain ⟨hi, hm⟩ := ix_elim hm
  refine cas_20 C hw hi dX3_waits_72 (fun H locs hw => ?_)
  exact cw_X3_waits_73 fu C hret F (gup G 20 (F 21).toNatClampNeg x1) hm hw (lv_sub hl [0] rfl)
theorem cn_X3_waits_53 (fu : Nat) {res : Int32 × PF × PG} (x1 : Int32) (F : PF) (G : PG) (hm : cb_X3_waits_53 fu x1 F G = some res) : xn F ≤ xn res.2.1 := by
  unfold cb_X3_waits_53 at hm
  exact Nat.le_trans (Nat.le_of_eq (xn_fup (by decide)).symm) (cn_X3_waits_63 fu x1 (fup F 21 ((F 21) + (1 : Int32))) G hm)
theorem cw_X3_waits_53 (fu : Nat) {res : Int32 × PF × PG} (C : cMC p R s m args c A v RX3 cX3_waits 2 1 22 (xn res.2.1 - xn K0)) (hret : ∀ (b1 : Nat) (H1 : Heap) (locs1 : List Loc) (ls1 : Array Slot) (pc : Nat), cMW s A v a b1 K0 res.2.1 res.2.2 H1 locs1 → decode cX3_waits pc = .ok (.return_, 1) → W p l e R s m args below meth c H1 locs1 (xn res.2.1 - xn K0) (2 * (xn res.2.1 - xn K0)) Q (F0 m pc ls1 [])) (x1 : Int32) (F : PF) (G : PG) (hm : cb_X3_waits_53 fu x1 F G = some res) {b : Nat} {H : Heap} {locs : List Loc} (hw : cMW s A v a b K0 F G H locs) {ls : Array Slot} (hl : lv_has ls 2 [(0, .ref (a 203)), (1, .int x1)]) : W p l e R s m args below meth c H locs (xn F - xn K0) (2 * (xn F - xn K0)) Q (F0 m 53 ls []) := by
  have hx := C.1
  have hb := C.2.1
  unfold cb_X3_waits_53 at hm
  refine lv_aload_n hx hb dX3_waits_53 rfl (lv_at hl 0 rfl) ?_
  refine lv_dup hx hb dX3_waits_54 rfl ?_
  refine cg_X3_35 C hw dX3_waits_55 ?_
  refine lv_iconst (v := 1) hx hb dX3_waits_58 (by decide) ?_
  refine lv_iadd hx hb dX3_waits_59 ?_
  refine cp_X3_35 C hw dX3_waits_60 (fun H locs hw => ?_)
  exact cw_X3_waits_63 fu C hret x1 (fup F 21 ((F 21) + (1 : Int32))) G hm hw (lv_sub hl [0, 1] rfl)
theorem cn_X3_waits_52 (fu : Nat) {res : Int32 × PF × PG} (x1 : Int32) (z0 : Int32) (z1 : Int32) (F : PF) (G : PG) (hm : cb_X3_waits_52 fu x1 z0 z1 F G = some res) : xn F ≤ xn res.2.1 := by
  unfold cb_X3_waits_52 at hm
  have hm := (ix_elim hm).2
  exact (cn_X3_waits_53 fu x1 F (gup G 20 z1.toNatClampNeg z0) hm)
theorem cw_X3_waits_52 (fu : Nat) {res : Int32 × PF × PG} (C : cMC p R s m args c A v RX3 cX3_waits 2 1 22 (xn res.2.1 - xn K0)) (hret : ∀ (b1 : Nat) (H1 : Heap) (locs1 : List Loc) (ls1 : Array Slot) (pc : Nat), cMW s A v a b1 K0 res.2.1 res.2.2 H1 locs1 → decode cX3_waits pc = .ok (.return_, 1) → W p l e R s m args below meth c H1 locs1 (xn res.2.1 - xn K0) (2 * (xn res.2.1 - xn K0)) Q (F0 m pc ls1 [])) (x1 : Int32) (z0 : Int32) (z1 : Int32) (F : PF) (G : PG) (hm : cb_X3_waits_52 fu x1 z0 z1 F G = some res) {b : Nat} {H : Heap} {locs : List Loc} (hw : cMW s A v a b K0 F G H locs) {ls : Array Slot} (hl : lv_has ls 2 [(0, .ref (a 203)), (1, .int x1)]) : W p l e R s m args below meth c H locs (xn F - xn K0) (2 * (xn F - xn K0)) Q (F0 m 52 ls [.int z0, .int z1, .ref (a 20)]) := by
  have hx := C.1
  have hb := C.2.1
  unfold cb_X3_waits_52 at hm
  obtain ⟨hi, hm⟩ := ix_elim hm
  refine cas_20 C hw hi dX3_waits_52 (fun H locs hw => ?_)
  exact cw_X3_waits_53 fu C hret x1 F (gup G 20 z1.toNatClampNeg z0) hm hw (lv_sub hl [0, 1] rfl)
theorem cn_X3_waits_48 (fu : Nat) {res : Int32 × PF × PG} (x1 : Int32) (z0 : Int32) (z2 : Int32) (F : PF) (G : PG) (hm : cb_X3_waits_48 fu x1 z0 z2 F G = some res) : xn F ≤ xn res.2.1 := by
  unfold cb_X3_waits_48 at hm
  obtain ⟨⟨r1, F1, G1⟩, hc, hm⟩ := bind_elim hm
  exact Nat.le_trans (cn_X1_addJump fu z0 (-1) F G _ hc) (cn_X3_waits_52 fu x1 r1 z2 F1 G1 hm)
theorem cw_X3_waits_48 (fu : Nat) {res : Int32 × PF × PG} (C : cMC p R s m args c A v RX3 cX3_waits 2 1 22 (xn res.2.1 - xn K0)) (hret : ∀ (b1 : Nat) (H1 : Heap) (locs1 : List Loc) (ls1 : Array Slot) (pc : Nat), cMW s A v a b1 K0 res.2.1 res.2.2 H1 locs1 → decode cX3_waits pc = .ok (.return_, 1) → W p l e R s m args below meth c H1 locs1 (xn res.2.1 - xn K0) (2 * (xn res.2.1 - xn K0)) Q (F0 m pc ls1 [])) (x1 : Int32) (z0 : Int32) (z2 : Int32) (F : PF) (G : PG) (hm : cb_X3_waits_48 fu x1 z0 z2 F G = some res) {b : Nat} {H : Heap} {locs : List Loc} (hw : cMW s A v a b K0 F G H locs) {ls : Array Slot} (hl : lv_has ls 2 [(0, .ref (a 203)), (1, .int x1)]) : W p l e R s m args below meth c H locs (xn F - xn K0) (2 * (xn F - xn K0)) Q (F0 m 48 ls [.int z0, .ref (a 201), .int z2, .ref (a 20)]) := by
  have hx := C.1
  have hb := C.2.1
  unfold cb_X3_waits_48 at hm
  refine lv_iconst (v := (-1)) hx hb dX3_waits_48 (by decide) ?_
  obtain ⟨⟨r1, F1, G1⟩, hc, hm⟩ := bind_elim hm
  refine ccallI (n := 2) (As := [.int z0, .int (-1)]) (rest := [.int z2, .ref (a 20)]) C hw (ck_X1_addJump l v a _ _ fu z0 (-1) F G r1 F1 G1 hc) (cn_X1_addJump fu z0 (-1) F G _ hc) (Nat.sub_le_sub_right (cn_X3_waits_52 fu x1 r1 z2 F1 G1 hm) _) (crecv_X1 C hw) cm_366 cm_367 cm_368 cm_369 cm_370 (by decide +kernel) rfl (by omega) (by omega) hl.1 rfl (Nat.le_of_ble_eq_true rfl) dX3_waits_49 (fun b H locs hw => ?_)
  exact cw_X3_waits_52 fu C hret x1 r1 z2 F1 G1 hm hw (lv_sub hl [0, 1] rfl)
theorem cn_X3_waits_46 (fu : Nat) {res : Int32 × PF × PG} (x1 : Int32) (z1 : Int32) (F : PF) (G : PG) (hm : cb_X3_waits_46 fu x1 z1 F G = some res) : xn F ≤ xn res.2.1 := by
  unfold cb_X3_waits_46 at hm
  exact (cn_X3_waits_48 fu x1 88 z1 F G hm)
theorem cw_X3_waits_46 (fu : Nat) {res : Int32 × PF × PG} (C : cMC p R s m args c A v RX3 cX3_waits 2 1 22 (xn res.2.1 - xn K0)) (hret : ∀ (b1 : Nat) (H1 : Heap) (locs1 : List Loc) (ls1 : Array Slot) (pc : Nat), cMW s A v a b1 K0 res.2.1 res.2.2 H1 locs1 → decode cX3_waits pc = .ok (.return_, 1) → W p l e R s m args below meth c H1 locs1 (xn res.2.1 - xn K0) (2 * (xn res.2.1 - xn K0)) Q (F0 m pc ls1 [])) (x1 : Int32) (z1 : Int32) (F : PF) (G : PG) (hm : cb_X3_waits_46 fu x1 z1 F G = some res) {b : Nat} {H : Heap} {locs : List Loc} (hw : cMW s A v a b K0 F G H locs) {ls : Array Slot} (hl : lv_has ls 2 [(0, .ref (a 203)), (1, .int x1)]) : W p l e R s m args below meth c H locs (xn F - xn K0) (2 * (xn F - xn K0)) Q (F0 m 46 ls [.ref (a 201), .int z1, .ref (a 20)]) := by
  have hx := C.1
  have hb := C.2.1
  unfold cb_X3_waits_46 at hm
  refine lv_bipush (v := 88) hx hb dX3_waits_46 (by decide) ?_
  exact cw_X3_waits_48 fu C hret x1 88 z1 F G hm hw (lv_sub hl [0, 1] rfl)
theorem cn_X3_waits_41 (fu : Nat) {res : Int32 × PF × PG} (x1 : Int32) (z1 : Int32) (F : PF) (G : PG) (hm : cb_X3_waits_41 fu x1 z1 F G = some res) : xn F ≤ xn res.2.1 := by
  unfold cb_X3_waits_41 at hm
  exact (cn_X3_waits_48 fu x1 87 z1 F G hm)
theorem cw_X3_waits_41 (fu : Nat) {res : Int32 × PF × PG} (C : cMC p R s m args c A v RX3 cX3_waits 2 1 22 (xn res.2.1 - xn K0)) (hret : ∀ (b1 : Nat) (H1 : Heap) (locs1 : List Loc) (ls1 : Array Slot) (pc : Nat), cMW s A v a b1 K0 res.2.1 res.2.2 H1 locs1 → decode cX3_waits pc = .ok (.return_, 1) → W p l e R s m args below meth c H1 locs1 (xn res.2.1 - xn K0) (2 * (xn res.2.1 - xn K0)) Q (F0 m pc ls1 [])) (x1 : Int32) (z1 : Int32) (F : PF) (G : PG) (hm : cb_X3_waits_41 fu x1 z1 F G = some res) {b : Nat} {H : Heap} {locs : List Loc} (hw : cMW s A v a b K0 F G H locs) {ls : Array Slot} (hl : lv_has ls 2 [(0, .ref (a 203)), (1, .int x1)]) : W p l e R s m args below meth c H locs (xn F - xn K0) (2 * (xn F - xn K0)) Q (F0 m 41 ls [.ref (a 201), .int z1, .ref (a 20)]) := by
  have hx := C.1
  have hb := C.2.1
  unfold cb_X3_waits_41 at hm
  refine lv_bipush (v := 87) hx hb dX3_waits_41 (by decide) ?_
  refine lv_goto (tgt := 48) hx hb dX3_waits_43 (by decide) ?_
  exact cw_X3_waits_48 fu C hret x1 87 z1 F G hm hw (lv_sub hl [0, 1] rfl)
theorem cn_X3_waits_23 (fu : Nat) {res : Int32 × PF × PG} (x1 : Int32) (F : PF) (G : PG) (hm : cb_X3_waits_23 fu x1 F G = some res) : xn F ≤ xn res.2.1 := by
  unfold cb_X3_waits_23 at hm
  by_cases c_1 : x1 = (43 : Int32)
  · have hm := (if_pos c_1).symm.trans hm
    exact (cn_X3_waits_41 fu x1 (F 21) F G hm)
  · have hm := (if_neg c_1).symm.trans hm
    exact (cn_X3_waits_46 fu x1 (F 21) F G hm)
theorem cw_X3_waits_23 (fu : Nat) {res : Int32 × PF × PG} (C : cMC p R s m args c A v RX3 cX3_waits 2 1 22 (xn res.2.1 - xn K0)) (hret : ∀ (b1 : Nat) (H1 : Heap) (locs1 : List Loc) (ls1 : Array Slot) (pc : Nat), cMW s A v a b1 K0 res.2.1 res.2.2 H1 locs1 → decode cX3_waits pc = .ok (.return_, 1) → W p l e R s m args below meth c H1 locs1 (xn res.2.1 - xn K0) (2 * (xn res.2.1 - xn K0)) Q (F0 m pc ls1 [])) (x1 : Int32) (F : PF) (G : PG) (hm : cb_X3_waits_23 fu x1 F G = some res) {b : Nat} {H : Heap} {locs : List Loc} (hw : cMW s A v a b K0 F G H locs) {ls : Array Slot} (hl : lv_has ls 2 [(0, .ref (a 203)), (1, .int x1)]) : W p l e R s m args below meth c H locs (xn F - xn K0) (2 * (xn F - xn K0)) Q (F0 m 23 ls []) := by
  have hx := C.1
  have hb := C.2.1
  unfold cb_X3_waits_23 at hm
  refine lv_aload_n hx hb dX3_waits_23 rfl (lv_at hl 0 rfl) ?_
  refine cg_X3_9 C hw dX3_waits_24 ?_
  refine lv_aload_n hx hb dX3_waits_27 rfl (lv_at hl 0 rfl) ?_
  refine cg_X3_35 C hw dX3_waits_28 ?_
  refine lv_aload_n hx hb dX3_waits_31 rfl (lv_at hl 0 rfl) ?_
  refine cg_X3_23 C hw dX3_waits_32 ?_
  refine lv_iload_n hx hb dX3_waits_35 rfl (lv_at hl 1 rfl) ?_
  refine lv_bipush (v := 43) hx hb dX3_waits_36 (by decide) ?_
  refine lv_icmp_ne (tgt := 46) hx hb dX3_waits_38 (by decide) (fun c_1 => ?_) (fun c_1 => ?_)
  · have hm := (if_neg c_1).symm.trans hm
    exact cw_X3_waits_46 fu C hret x1 (F 21) F G hm hw (lv_sub hl [0, 1] rfl)
  · have hm := (if_pos c_1).symm.trans hm
    exact cw_X3_waits_41 fu C hret x1 (F 21) F G hm hw (lv_sub hl [0, 1] rfl)
theorem cn_X3_waits_17 (fu : Nat) {res : Int32 × PF × PG} (x1 : Int32) (F : PF) (G : PG) (hm : cb_X3_waits_17 fu x1 F G = some res) : xn F ≤ xn res.2.1 := by
  unfold cb_X3_waits_17 at hm
  by_cases c_1 : x1 = (44 : Int32)
  · have hm := (if_pos c_1).symm.trans hm
    exact (cn_X3_waits_23 fu x1 F G hm)
  · have hm := (if_neg c_1).symm.trans hm
    exact (cn_X3_waits_63 fu x1 F G hm)
theorem cw_X3_waits_17 (fu : Nat) {res : Int32 × PF × PG} (C : cMC p R s m args c A v RX3 cX3_waits 2 1 22 (xn res.2.1 - xn K0)) (hret : ∀ (b1 : Nat) (H1 : Heap) (locs1 : List Loc) (ls1 : Array Slot) (pc : Nat), cMW s A v a b1 K0 res.2.1 res.2.2 H1 locs1 → decode cX3_waits pc = .ok (.return_, 1) → W p l e R s m args below meth c H1 locs1 (xn res.2.1 - xn K0) (2 * (xn res.2.1 - xn K0)) Q (F0 m pc ls1 [])) (x1 : Int32) (F : PF) (G : PG) (hm : cb_X3_waits_17 fu x1 F G = some res) {b : Nat} {H : Heap} {locs : List Loc} (hw : cMW s A v a b K0 F G H locs) {ls : Array Slot} (hl : lv_has ls 2 [(0, .ref (a 203)), (1, .int x1)]) : W p l e R s m args below meth c H locs (xn F - xn K0) (2 * (xn F - xn K0)) Q (F0 m 17 ls []) := by
  have hx := C.1
  have hb := C.2.1
  unfold cb_X3_waits_17 at hm
  refine lv_iload_n hx hb dX3_waits_17 rfl (lv_at hl 1 rfl) ?_
  refine lv_bipush (v := 44) hx hb dX3_waits_18 (by decide) ?_
  refine lv_icmp_ne (tgt := 63) hx hb dX3_waits_20 (by decide) (fun c_1 => ?_) (fun c_1 => ?_)
  · have hm := (if_neg c_1).symm.trans hm
    exact cw_X3_waits_63 fu C hret x1 F G hm hw (lv_sub hl [0, 1] rfl)
  · have hm := (if_pos c_1).symm.trans hm
    exact cw_X3_waits_23 fu C hret x1 F G hm hw (lv_sub hl [0, 1] rfl)
theorem cn_X3_waits_11 (fu : Nat) {res : Int32 × PF × PG} (x1 : Int32) (F : PF) (G : PG) (hm : cb_X3_waits_11 fu x1 F G = some res) : xn F ≤ xn res.2.1 := by
  unfold cb_X3_waits_11 at hm
  by_cases c_1 : x1 = (43 : Int32)
  · have hm := (if_pos c_1).symm.trans hm
    exact (cn_X3_waits_23 fu x1 F G hm)
  · have hm := (if_neg c_1).symm.trans hm
    exact (cn_X3_waits_17 fu x1 F G hm)
theorem cw_X3_waits_11 (fu : Nat) {res : Int32 × PF × PG} (C : cMC p R s m args c A v RX3 cX3_waits 2 1 22 (xn res.2.1 - xn K0)) (hret : ∀ (b1 : Nat) (H1 : Heap) (locs1 : List Loc) (ls1 : Array Slot) (pc : Nat), cMW s A v a b1 K0 res.2.1 res.2.2 H1 locs1 → decode cX3_waits pc = .ok (.return_, 1) → W p l e R s m args below meth c H1 locs1 (xn res.2.1 - xn K0) (2 * (xn res.2.1 - xn K0)) Q (F0 m pc ls1 [])) (x1 : Int32) (F : PF) (G : PG) (hm : cb_X3_waits_11 fu x1 F G = some res) {b : Nat} {H : Heap} {locs : List Loc} (hw : cMW s A v a b K0 F G H locs) {ls : Array Slot} (hl : lv_has ls 2 [(0, .ref (a 203)), (1, .int x1)]) : W p l e R s m args below meth c H locs (xn F - xn K0) (2 * (xn F - xn K0)) Q (F0 m 11 ls []) := by
  have hx := C.1
  have hb := C.2.1
  unfold cb_X3_waits_11 at hm
  refine lv_iload_n hx hb dX3_waits_11 rfl (lv_at hl 1 rfl) ?_
  refine lv_bipush (v := 43) hx hb dX3_waits_12 (by decide) ?_
  refine lv_icmp_eq (tgt := 23) hx hb dX3_waits_14 (by decide) (fun c_1 => ?_) (fun c_1 => ?_)
  · have hm := (if_pos c_1).symm.trans hm
    exact cw_X3_waits_23 fu C hret x1 F G hm hw (lv_sub hl [0, 1] rfl)
  · have hm := (if_neg c_1).symm.trans hm
    exact cw_X3_waits_17 fu C hret x1 F G hm hw (lv_sub hl [0, 1] rfl)
theorem cn_X3_waits_10 (fu : Nat) {res : Int32 × PF × PG} (F : PF) (G : PG) (hm : cb_X3_waits_10 fu F G = some res) : xn F ≤ xn res.2.1 := by
  unfold cb_X3_waits_10 at hm
  obtain rfl := Option.some.inj hm
  exact Nat.le_refl _
theorem cw_X3_waits_10 (fu : Nat) {res : Int32 × PF × PG} (C : cMC p R s m args c A v RX3 cX3_waits 2 1 22 (xn res.2.1 - xn K0)) (hret : ∀ (b1 : Nat) (H1 : Heap) (locs1 : List Loc) (ls1 : Array Slot) (pc : Nat), cMW s A v a b1 K0 res.2.1 res.2.2 H1 locs1 → decode cX3_waits pc = .ok (.return_, 1) → W p l e R s m args below meth c H1 locs1 (xn res.2.1 - xn K0) (2 * (xn res.2.1 - xn K0)) Q (F0 m pc ls1 [])) (F : PF) (G : PG) (hm : cb_X3_waits_10 fu F G = some res) {b : Nat} {H : Heap} {locs : List Loc} (hw : cMW s A v a b K0 F G H locs) {ls : Array Slot} (hl : lv_has ls 2 []) : W p l e R s m args below meth c H locs (xn F - xn K0) (2 * (xn F - xn K0)) Q (F0 m 10 ls []) := by
  have hx := C.1
  have hb := C.2.1
  unfold cb_X3_waits_10 at hm
  obtain rfl := Option.some.inj hm
  exact hret _ _ _ _ _ hw dX3_waits_10
theorem cn_X3_waits_0 (fu : Nat) {res : Int32 × PF × PG} (x1 : Int32) (F : PF) (G : PG) (hm : cb_X3_waits_0 fu x1 F G = some res) : xn F ≤ xn res.2.1 := by
  unfold cb_X3_waits_0 at hm
  by_cases c_1 : (F 21) < (4000 : Int32)
  · have hm := (if_pos c_1).symm.trans hm
    exact (cn_X3_waits_11 fu x1 F G hm)
  · have hm := (if_neg c_1).symm.trans hm
    exact (cn_X3_waits_10 fu F G hm)
theorem cw_X3_waits_0 (fu : Nat) {res : Int32 × PF × PG} (C : cMC p R s m args c A v RX3 cX3_waits 2 1 22 (xn res.2.1 - xn K0)) (hret : ∀ (b1 : Nat) (H1 : Heap) (locs1 : List Loc) (ls1 : Array Slot) (pc : Nat), cMW s A v a b1 K0 res.2.1 res.2.2 H1 locs1 → decode cX3_waits pc = .ok (.return_, 1) → W p l e R s m args below meth c H1 locs1 (xn res.2.1 - xn K0) (2 * (xn res.2.1 - xn K0)) Q (F0 m pc ls1 [])) (x1 : Int32) (F : PF) (G : PG) (hm : cb_X3_waits_0 fu x1 F G = some res) {b : Nat} {H : Heap} {locs : List Loc} (hw : cMW s A v a b K0 F G H locs) {ls : Array Slot} (hl : lv_has ls 2 [(0, .ref (a 203)), (1, .int x1)]) : W p l e R s m args below meth c H locs (xn F - xn K0) (2 * (xn F - xn K0)) Q (F0 m 0 ls []) := by
  have hx := C.1
  have hb := C.2.1
  unfold cb_X3_waits_0 at hm
  refine lv_aload_n hx hb dX3_waits_0 rfl (lv_at hl 0 rfl) ?_
  refine cg_X3_35 C hw dX3_waits_1 ?_
  refine lv_sipush (v := 4000) hx hb dX3_waits_4 (by decide) ?_
  refine lv_icmp_lt (tgt := 11) hx hb dX3_waits_7 (by decide) (fun c_1 => ?_) (fun c_1 => ?_)
  · have hm := (if_pos c_1).symm.trans hm
    exact cw_X3_waits_11 fu C hret x1 F G hm hw (lv_sub hl [0, 1] rfl)
  · have hm := (if_neg c_1).symm.trans hm
    exact cw_X3_waits_10 fu C hret F G hm hw (lv_sub hl [] rfl)
theorem cn_X3_waits (fu : Nat) (x1 : Int32) (F : PF) (G : PG) (q : Int32 × PF × PG) (hm : cf_X3_waits fu x1 F G = some q) : xn F ≤ xn q.2.1 := cn_X3_waits_0 fu x1 F G hm
theorem ck_X3_waits (l : Launch) (v : EV) (a : Nat → Nat) (b sz : Nat) (fu : Nat) (x1 : Int32) (F : PF) (G : PG) (r : Int32) (F1 : PF) (G1 : PG) (hm : cf_X3_waits fu x1 F G = some (r, F1, G1)) : cMV l yX3_waits cX3_waits 2 1 22 v a b sz [.ref (a 203), .int x1] F G F1 G1 := cMV.of (by decide) (Nat.le_of_ble_eq_true rfl) (fun p e R s m args below meth c Q A H locs ls C hw hl hret => cw_X3_waits_0 fu (res := (r, F1, G1)) C hret x1 F G hm hw hl)
def cb_X3_isAhead_23 (fu : Nat) (z0 : Int32) (F : PF) (G : PG) : PR := if b01 z0 = true then (some (z0, F, G)) else none
def cb_X3_isAhead_18 (fu : Nat) (F : PF) (G : PG) : PR := cb_X3_isAhead_23 fu 1 F G
def cb_X3_isAhead_22 (fu : Nat) (F : PF) (G : PG) : PR := cb_X3_isAhead_23 fu 0 F G
def cb_X3_isAhead_12 (fu : Nat) (x0 : Int32) (F : PF) (G : PG) : PR := if x0 = (63 : Int32) then cb_X3_isAhead_18 fu F G else cb_X3_isAhead_22 fu F G
def cb_X3_isAhead_6 (fu : Nat) (x0 : Int32) (F : PF) (G : PG) : PR := if x0 = (62 : Int32) then cb_X3_isAhead_18 fu F G else cb_X3_isAhead_12 fu x0 F G
def cb_X3_isAhead_0 (fu : Nat) (x0 : Int32) (F : PF) (G : PG) : PR := if x0 = (58 : Int32) then cb_X3_isAhead_18 fu F G else cb_X3_isAhead_6 fu x0 F G
def cf_X3_isAhead (fu : Nat) (x0 : Int32) (F : PF) (G : PG) : PR := cb_X3_isAhead_0 fu x0 F G
theorem cn_X3_isAhead_23 (fu : Nat) {res : Int32 × PF × PG} (z0 : Int32) (F : PF) (G : PG) (hm : cb_X3_isAhead_23 fu z0 F G = some res) : xn F ≤ xn res.2.1 := by
  unfold cb_X3_isAhead_23 at hm
  have hm := (b01_elim hm).2
  obtain rfl := Option.some.inj hm
  exact Nat.le_refl _
theorem cw_X3_isAhead_23 (fu : Nat) {res : Int32 × PF × PG} (C : cMC p R s m args c A v RX3 cX3_isAhead 1 0 0 (xn res.2.1 - xn K0)) (hret : ∀ (b1 : Nat) (H1 : Heap) (locs1 : List Loc) (ls1 : Array Slot) (pc : Nat), cMW s A v a b1 K0 res.2.1 res.2.2 H1 locs1 → narrow .boolean (.int res.1) = .int res.1 → decode cX3_isAhead pc = .ok (.ireturn, 1) → W p l e R s m args below meth c H1 locs1 (xn res.2.1 - xn K0) (2 * (xn res.2.1 - xn K0)) Q (F0 m pc ls1 [.int res.1])) (z0 : Int32) (F : PF) (G : PG) (hm : cb_X3_isAhead_23 fu z0 F G = some res) {b : Nat} {H : Heap} {locs : List Loc} (hw : cMW s A v a b K0 F G H locs) {ls : Array Slot} (hl : lv_has ls 1 []) : W p l e R s m args below meth c H locs (xn F - xn K0) (2 * (xn F - xn K0)) Q (F0 m 23 ls [.int z0]) := by
  have hx := C.1
  have hb := C.2.1
  unfold cb_X3_isAhead_23 at hm
  obtain ⟨hz, hm⟩ := b01_elim hm
  obtain rfl := Option.some.inj hm
  exact hret _ _ _ _ _ hw (b01_nar hz) dX3_isAhead_23
theorem cn_X3_isAhead_18 (fu : Nat) {res : Int32 × PF × PG} (F : PF) (G : PG) (hm : cb_X3_isAhead_18 fu F G = some res) : xn F ≤ xn res.2.1 := by
  unfold cb_X3_isAhead_18 at hm
  exact (cn_X3_isAhead_23 fu 1 F G hm)
theorem cw_X3_isAhead_18 (fu : Nat) {res : Int32 × PF × PG} (C : cMC p R s m args c A v RX3 cX3_isAhead 1 0 0 (xn res.2.1 - xn K0)) (hret : ∀ (b1 : Nat) (H1 : Heap) (locs1 : List Loc) (ls1 : Array Slot) (pc : Nat), cMW s A v a b1 K0 res.2.1 res.2.2 H1 locs1 → narrow .boolean (.int res.1) = .int res.1 → decode cX3_isAhead pc = .ok (.ireturn, 1) → W p l e R s m args below meth c H1 locs1 (xn res.2.1 - xn K0) (2 * (xn res.2.1 - xn K0)) Q (F0 m pc ls1 [.int res.1])) (F : PF) (G : PG) (hm : cb_X3_isAhead_18 fu F G = some res) {b : Nat} {H : Heap} {locs : List Loc} (hw : cMW s A v a b K0 F G H locs) {ls : Array Slot} (hl : lv_has ls 1 []) : W p l e R s m args below meth c H locs (xn F - xn K0) (2 * (xn F - xn K0)) Q (F0 m 18 ls []) := by
  have hx := C.1
  have hb := C.2.1
  unfold cb_X3_isAhead_18 at hm
  refine lv_iconst (v := 1) hx hb dX3_isAhead_18 (by decide) ?_
  refine lv_goto (tgt := 23) hx hb dX3_isAhead_19 (by decide) ?_
  exact cw_X3_isAhead_23 fu C hret 1 F G hm hw (lv_sub hl [] rfl)
theorem cn_X3_isAhead_22 (fu : Nat) {res : Int32 × PF × PG} (F : PF) (G : PG) (hm : cb_X3_isAhead_22 fu F G = some res) : xn F ≤ xn res.2.1 := by
  unfold cb_X3_isAhead_22 at hm
  exact (cn_X3_isAhead_23 fu 0 F G hm)
theorem cw_X3_isAhead_22 (fu : Nat) {res : Int32 × PF × PG} (C : cMC p R s m args c A v RX3 cX3_isAhead 1 0 0 (xn res.2.1 - xn K0)) (hret : ∀ (b1 : Nat) (H1 : Heap) (locs1 : List Loc) (ls1 : Array Slot) (pc : Nat), cMW s A v a b1 K0 res.2.1 res.2.2 H1 locs1 → narrow .boolean (.int res.1) = .int res.1 → decode cX3_isAhead pc = .ok (.ireturn, 1) → W p l e R s m args below meth c H1 locs1 (xn res.2.1 - xn K0) (2 * (xn res.2.1 - xn K0)) Q (F0 m pc ls1 [.int res.1])) (F : PF) (G : PG) (hm : cb_X3_isAhead_22 fu F G = some res) {b : Nat} {H : Heap} {locs : List Loc} (hw : cMW s A v a b K0 F G H locs) {ls : Array Slot} (hl : lv_has ls 1 []) : W p l e R s m args below meth c H locs (xn F - xn K0) (2 * (xn F - xn K0)) Q (F0 m 22 ls []) := by
  have hx := C.1
  have hb := C.2.1
  unfold cb_X3_isAhead_22 at hm
  refine lv_iconst (v := 0) hx hb dX3_isAhead_22 (by decide) ?_
  exact cw_X3_isAhead_23 fu C hret 0 F G hm hw (lv_sub hl [] rfl)
theorem cn_X3_isAhead_12 (fu : Nat) {res : Int32 × PF × PG} (x0 : Int32) (F : PF) (G : PG) (hm : cb_X3_isAhead_12 fu x0 F G = some res) : xn F ≤ xn res.2.1 := by
  unfold cb_X3_isAhead_12 at hm
  by_cases c_1 : x0 = (63 : Int32)
  · have hm := (if_pos c_1).symm.trans hm
    exact (cn_X3_isAhead_18 fu F G hm)
  · have hm := (if_neg c_1).symm.trans hm
    exact (cn_X3_isAhead_22 fu F G hm)
theorem cw_X3_isAhead_12 (fu : Nat) {res : Int32 × PF × PG} (C : cMC p R s m args c A v RX3 cX3_isAhead 1 0 0 (xn res.2.1 - xn K0)) (hret : ∀ (b1 : Nat) (H1 : Heap) (locs1 : List Loc) (ls1 : Array Slot) (pc : Nat), cMW s A v a b1 K0 res.2.1 res.2.2 H1 locs1 → narrow .boolean (.int res.1) = .int res.1 → decode cX3_isAhead pc = .ok (.ireturn, 1) → W p l e R s m args below meth c H1 locs1 (xn res.2.1 - xn K0) (2 * (xn res.2.1 - xn K0)) Q (F0 m pc ls1 [.int res.1])) (x0 : Int32) (F : PF) (G : PG) (hm : cb_X3_isAhead_12 fu x0 F G = some res) {b : Nat} {H : Heap} {locs : List Loc} (hw : cMW s A v a b K0 F G H locs) {ls : Array Slot} (hl : lv_has ls 1 [(0, .int x0)]) : W p l e R s m args below meth c H locs (xn F - xn K0) (2 * (xn F - xn K0)) Q (F0 m 12 ls []) := by
  have hx := C.1
  have hb := C.2.1
  unfold cb_X3_isAhead_12 at hm
  refine lv_iload_n hx hb dX3_isAhead_12 rfl (lv_at hl 0 rfl) ?_
  refine lv_bipush (v := 63) hx hb dX3_isAhead_13 (by decide) ?_
  refine lv_icmp_ne (tgt := 22) hx hb dX3_isAhead_15 (by decide) (fun c_1 => ?_) (fun c_1 => ?_)
  · have hm := (if_neg c_1).symm.trans hm
    exact cw_X3_isAhead_22 fu C hret F G hm hw (lv_sub hl [] rfl)
  · have hm := (if_pos c_1).symm.trans hm
    exact cw_X3_isAhead_18 fu C hret F G hm hw (lv_sub hl [] rfl)
theorem cn_X3_isAhead_6 (fu : Nat) {res : Int32 × PF × PG} (x0 : Int32) (F : PF) (G : PG) (hm : cb_X3_isAhead_6 fu x0 F G = some res) : xn F ≤ xn res.2.1 := by
  unfold cb_X3_isAhead_6 at hm
  by_cases c_1 : x0 = (62 : Int32)
  · have hm := (if_pos c_1).symm.trans hm
    exact (cn_X3_isAhead_18 fu F G hm)
  · have hm := (if_neg c_1).symm.trans hm
    exact (cn_X3_isAhead_12 fu x0 F G hm)
theorem cw_X3_isAhead_6 (fu : Nat) {res : Int32 × PF × PG} (C : cMC p R s m args c A v RX3 cX3_isAhead 1 0 0 (xn res.2.1 - xn K0)) (hret : ∀ (b1 : Nat) (H1 : Heap) (locs1 : List Loc) (ls1 : Array Slot) (pc : Nat), cMW s A v a b1 K0 res.2.1 res.2.2 H1 locs1 → narrow .boolean (.int res.1) = .int res.1 → decode cX3_isAhead pc = .ok (.ireturn, 1) → W p l e R s m args below meth c H1 locs1 (xn res.2.1 - xn K0) (2 * (xn res.2.1 - xn K0)) Q (F0 m pc ls1 [.int res.1])) (x0 : Int32) (F : PF) (G : PG) (hm : cb_X3_isAhead_6 fu x0 F G = some res) {b : Nat} {H : Heap} {locs : List Loc} (hw : cMW s A v a b K0 F G H locs) {ls : Array Slot} (hl : lv_has ls 1 [(0, .int x0)]) : W p l e R s m args below meth c H locs (xn F - xn K0) (2 * (xn F - xn K0)) Q (F0 m 6 ls []) := by
  have hx := C.1
  have hb := C.2.1
  unfold cb_X3_isAhead_6 at hm
  refine lv_iload_n hx hb dX3_isAhead_6 rfl (lv_at hl 0 rfl) ?_
  refine lv_bipush (v := 62) hx hb dX3_isAhead_7 (by decide) ?_
  refine lv_icmp_eq (tgt := 18) hx hb dX3_isAhead_9 (by decide) (fun c_1 => ?_) (fun c_1 => ?_)
  · have hm := (if_pos c_1).symm.trans hm
    exact cw_X3_isAhead_18 fu C hret F G hm hw (lv_sub hl [] rfl)
  · have hm := (if_neg c_1).symm.trans hm
    exact cw_X3_isAhead_12 fu C hret x0 F G hm hw (lv_sub hl [0] rfl)
theorem cn_X3_isAhead_0 (fu : Nat) {res : Int32 × PF × PG} (x0 : Int32) (F : PF) (G : PG) (hm : cb_X3_isAhead_0 fu x0 F G = some res) : xn F ≤ xn res.2.1 := by
  unfold cb_X3_isAhead_0 at hm
  by_cases c_1 : x0 = (58 : Int32)
  · have hm := (if_pos c_1).symm.trans hm
    exact (cn_X3_isAhead_18 fu F G hm)
  · have hm := (if_neg c_1).symm.trans hm
    exact (cn_X3_isAhead_6 fu x0 F G hm)
theorem cw_X3_isAhead_0 (fu : Nat) {res : Int32 × PF × PG} (C : cMC p R s m args c A v RX3 cX3_isAhead 1 0 0 (xn res.2.1 - xn K0)) (hret : ∀ (b1 : Nat) (H1 : Heap) (locs1 : List Loc) (ls1 : Array Slot) (pc : Nat), cMW s A v a b1 K0 res.2.1 res.2.2 H1 locs1 → narrow .boolean (.int res.1) = .int res.1 → decode cX3_isAhead pc = .ok (.ireturn, 1) → W p l e R s m args below meth c H1 locs1 (xn res.2.1 - xn K0) (2 * (xn res.2.1 - xn K0)) Q (F0 m pc ls1 [.int res.1])) (x0 : Int32) (F : PF) (G : PG) (hm : cb_X3_isAhead_0 fu x0 F G = some res) {b : Nat} {H : Heap} {locs : List Loc} (hw : cMW s A v a b K0 F G H locs) {ls : Array Slot} (hl : lv_has ls 1 [(0, .int x0)]) : W p l e R s m args below meth c H locs (xn F - xn K0) (2 * (xn F - xn K0)) Q (F0 m 0 ls []) := by
  have hx := C.1
  have hb := C.2.1
  unfold cb_X3_isAhead_0 at hm
  refine lv_iload_n hx hb dX3_isAhead_0 rfl (lv_at hl 0 rfl) ?_
  refine lv_bipush (v := 58) hx hb dX3_isAhead_1 (by decide) ?_
  refine lv_icmp_eq (tgt := 18) hx hb dX3_isAhead_3 (by decide) (fun c_1 => ?_) (fun c_1 => ?_)
  · have hm := (if_pos c_1).symm.trans hm
    exact cw_X3_isAhead_18 fu C hret F G hm hw (lv_sub hl [] rfl)
  · have hm := (if_neg c_1).symm.trans hm
    exact cw_X3_isAhead_6 fu C hret x0 F G hm hw (lv_sub hl [0] rfl)
theorem cn_X3_isAhead (fu : Nat) (x0 : Int32) (F : PF) (G : PG) (q : Int32 × PF × PG) (hm : cf_X3_isAhead fu x0 F G = some q) : xn F ≤ xn q.2.1 := cn_X3_isAhead_0 fu x0 F G hm
theorem ck_X3_isAhead (l : Launch) (v : EV) (a : Nat → Nat) (b sz : Nat) (fu : Nat) (x0 : Int32) (F : PF) (G : PG) (r : Int32) (F1 : PF) (G1 : PG) (hm : cf_X3_isAhead fu x0 F G = some (r, F1, G1)) : cMI l yX3_isAhead cX3_isAhead 1 (some .boolean) 0 0 v a b sz [.int x0] F G r F1 G1 := cMI.of (ty := .boolean) (by decide) rfl (Nat.le_of_ble_eq_true rfl) (fun p e R s m args below meth c Q A H locs ls C hw hl hret => cw_X3_isAhead_0 fu (res := (r, F1, G1)) C hret x0 F G hm hw hl)
def cb_X5_note_19 (fu : Nat) (F : PF) (G : PG) : PR := some (0, F, G)
def cb_X5_note_59 (fu : Nat) (F : PF) (G : PG) : PR := some (0, F, G)
def cb_X5_note_54 (fu : Nat) (x1 : Int32) (F : PF) (G : PG) : PR := cb_X5_note_59 fu (fup F 44 x1) G
def cb_X5_note_49 (fu : Nat) (x1 : Int32) (x2 : Int32) (F : PF) (G : PG) : PR := cb_X5_note_54 fu x1 (fup F 43 x2) G
def cb_X5_note_41 (fu : Nat) (x1 : Int32) (x2 : Int32) (F : PF) (G : PG) : PR := if (F 44) ≤ x1 then cb_X5_note_59 fu F G else cb_X5_note_49 fu x1 x2 F G
def cb_X5_note_33 (fu : Nat) (x1 : Int32) (x2 : Int32) (F : PF) (G : PG) : PR := if x2 = (F 43) then cb_X5_note_41 fu x1 x2 F G else cb_X5_note_59 fu F G
def cb_X5_note_25 (fu : Nat) (x1 : Int32) (x2 : Int32) (F : PF) (G : PG) : PR := if x2 < (F 43) then cb_X5_note_49 fu x1 x2 F G else cb_X5_note_33 fu x1 x2 F G
def cb_X5_note_20 (fu : Nat) (x1 : Int32) (x2 : Int32) (F : PF) (G : PG) : PR := cb_X5_note_25 fu x1 x2 (fup F 47 (0 : Int32)) G
def cb_X5_note_11 (fu : Nat) (x1 : Int32) (x2 : Int32) (F : PF) (G : PG) : PR := if x1 < (10 : Int32) then cb_X5_note_20 fu x1 x2 F G else cb_X5_note_19 fu F G
def cb_X5_note_7 (fu : Nat) (x1 : Int32) (x2 : Int32) (F : PF) (G : PG) : PR := if x1 < (0 : Int32) then cb_X5_note_19 fu F G else cb_X5_note_11 fu x1 x2 F G
def cb_X5_note_0 (fu : Nat) (x1 : Int32) (x2 : Int32) (F : PF) (G : PG) : PR := if (F 45) = (0 : Int32) then cb_X5_note_19 fu F G else cb_X5_note_7 fu x1 x2 F G
def cf_X5_note (fu : Nat) (x1 : Int32) (x2 : Int32) (F : PF) (G : PG) : PR := cb_X5_note_0 fu x1 x2 F G
theorem cn_X5_note_19 (fu : Nat) {res : Int32 × PF × PG} (F : PF) (G : PG) (hm : cb_X5_note_19 fu F G = some res) : xn F ≤ xn res.2.1 := by
  unfold cb_X5_note_19 at hm
  obtain rfl := Option.some.inj hm
  exact Nat.le_refl _
theorem cw_X5_note_19 (fu : Nat) {res : Int32 × PF × PG} (C : cMC p R s m args c A v RX5 cX5_note 3 0 0 (xn res.2.1 - xn K0)) (hret : ∀ (b1 : Nat) (H1 : Heap) (locs1 : List Loc) (ls1 : Array Slot) (pc : Nat), cMW s A v a b1 K0 res.2.1 res.2.2 H1 locs1 → decode cX5_note pc = .ok (.return_, 1) → W p l e R s m args below meth c H1 locs1 (xn res.2.1 - xn K0) (2 * (xn res.2.1 - xn K0)) Q (F0 m pc ls1 [])) (F : PF) (G : PG) (hm : cb_X5_note_19 fu F G = some res) {b : Nat} {H : Heap} {locs : List Loc} (hw : cMW s A v a b K0 F G H locs) {ls : Array Slot} (hl : lv_has ls 3 []) : W p l e R s m args below meth c H locs (xn F - xn K0) (2 * (xn F - xn K0)) Q (F0 m 19 ls []) := by
  have hx := C.1
  have hb := C.2.1
  unfold cb_X5_note_19 at hm
  obtain rfl := Option.some.inj hm
  exact hret _ _ _ _ _ hw dX5_note_19
theorem cn_X5_note_59 (fu : Nat) {res : Int32 × PF × PG} (F : PF) (G : PG) (hm : cb_X5_note_59 fu F G = some res) : xn F ≤ xn res.2.1 := by
  unfold cb_X5_note_59 at hm
  obtain rfl := Option.some.inj hm
  exact Nat.le_refl _
theorem cw_X5_note_59 (fu : Nat) {res : Int32 × PF × PG} (C : cMC p R s m args c A v RX5 cX5_note 3 0 0 (xn res.2.1 - xn K0)) (hret : ∀ (b1 : Nat) (H1 : Heap) (locs1 : List Loc) (ls1 : Array Slot) (pc : Nat), cMW s A v a b1 K0 res.2.1 res.2.2 H1 locs1 → decode cX5_note pc = .ok (.return_, 1) → W p l e R s m args below meth c H1 locs1 (xn res.2.1 - xn K0) (2 * (xn res.2.1 - xn K0)) Q (F0 m pc ls1 [])) (F : PF) (G : PG) (hm : cb_X5_note_59 fu F G = some res) {b : Nat} {H : Heap} {locs : List Loc} (hw : cMW s A v a b K0 F G H locs) {ls : Array Slot} (hl : lv_has ls 3 []) : W p l e R s m args below meth c H locs (xn F - xn K0) (2 * (xn F - xn K0)) Q (F0 m 59 ls []) := by
  have hx := C.1
  have hb := C.2.1
  unfold cb_X5_note_59 at hm
  obtain rfl := Option.some.inj hm
  exact hret _ _ _ _ _ hw dX5_note_59
theorem cn_X5_note_54 (fu : Nat) {res : Int32 × PF × PG} (x1 : Int32) (F : PF) (G : PG) (hm : cb_X5_note_54 fu x1 F G = some res) : xn F ≤ xn res.2.1 := by
  unfold cb_X5_note_54 at hm
  exact Nat.le_trans (Nat.le_of_eq (xn_fup (by decide)).symm) (cn_X5_note_59 fu (fup F 44 x1) G hm)
theorem cw_X5_note_54 (fu : Nat) {res : Int32 × PF × PG} (C : cMC p R s m args c A v RX5 cX5_note 3 0 0 (xn res.2.1 - xn K0)) (hret : ∀ (b1 : Nat) (H1 : Heap) (locs1 : List Loc) (ls1 : Array Slot) (pc : Nat), cMW s A v a b1 K0 res.2.1 res.2.2 H1 locs1 → decode cX5_note pc = .ok (.return_, 1) → W p l e R s m args below meth c H1 locs1 (xn res.2.1 - xn K0) (2 * (xn res.2.1 - xn K0)) Q (F0 m pc ls1 [])) (x1 : Int32) (F : PF) (G : PG) (hm : cb_X5_note_54 fu x1 F G = some res) {b : Nat} {H : Heap} {locs : List Loc} (hw : cMW s A v a b K0 F G H locs) {ls : Array Slot} (hl : lv_has ls 3 [(0, .ref (a 205)), (1, .int x1)]) : W p l e R s m args below meth c H locs (xn F - xn K0) (2 * (xn F - xn K0)) Q (F0 m 54 ls []) := by
  have hx := C.1
  have hb := C.2.1
  unfold cb_X5_note_54 at hm
  refine lv_aload_n hx hb dX5_note_54 rfl (lv_at hl 0 rfl) ?_
  refine lv_iload_n hx hb dX5_note_55 rfl (lv_at hl 1 rfl) ?_
  refine cp_X5_50 C hw dX5_note_56 (fun H locs hw => ?_)
  exact cw_X5_note_59 fu C hret (fup F 44 x1) G hm hw (lv_sub hl [] rfl)
theorem cn_X5_note_49 (fu : Nat) {res : Int32 × PF × PG} (x1 : Int32) (x2 : Int32) (F : PF) (G : PG) (hm : cb_X5_note_49 fu x1 x2 F G = some res) : xn F ≤ xn res.2.1 := by
  unfold cb_X5_note_49 at hm
  exact Nat.le_trans (Nat.le_of_eq (xn_fup (by decide)).symm) (cn_X5_note_54 fu x1 (fup F 43 x2) G hm)
theorem cw_X5_note_49 (fu : Nat) {res : Int32 × PF × PG} (C : cMC p R s m args c A v RX5 cX5_note 3 0 0 (xn res.2.1 - xn K0)) (hret : ∀ (b1 : Nat) (H1 : Heap) (locs1 : List Loc) (ls1 : Array Slot) (pc : Nat), cMW s A v a b1 K0 res.2.1 res.2.2 H1 locs1 → decode cX5_note pc = .ok (.return_, 1) → W p l e R s m args below meth c H1 locs1 (xn res.2.1 - xn K0) (2 * (xn res.2.1 - xn K0)) Q (F0 m pc ls1 [])) (x1 : Int32) (x2 : Int32) (F : PF) (G : PG) (hm : cb_X5_note_49 fu x1 x2 F G = some res) {b : Nat} {H : Heap} {locs : List Loc} (hw : cMW s A v a b K0 F G H locs) {ls : Array Slot} (hl : lv_has ls 3 [(0, .ref (a 205)), (1, .int x1), (2, .int x2)]) : W p l e R s m args below meth c H locs (xn F - xn K0) (2 * (xn F - xn K0)) Q (F0 m 49 ls []) := by
  have hx := C.1
  have hb := C.2.1
  unfold cb_X5_note_49 at hm
  refine lv_aload_n hx hb dX5_note_49 rfl (lv_at hl 0 rfl) ?_
  refine lv_iload_n hx hb dX5_note_50 rfl (lv_at hl 2 rfl) ?_
  refine cp_X5_47 C hw dX5_note_51 (fun H locs hw => ?_)
  exact cw_X5_note_54 fu C hret x1 (fup F 43 x2) G hm hw (lv_sub hl [0, 1] rfl)
theorem cn_X5_note_41 (fu : Nat) {res : Int32 × PF × PG} (x1 : Int32) (x2 : Int32) (F : PF) (G : PG) (hm : cb_X5_note_41 fu x1 x2 F G = some res) : xn F ≤ xn res.2.1 := by
  unfold cb_X5_note_41 at hm
  by_cases c_1 : (F 44) ≤ x1
  · have hm := (if_pos c_1).symm.trans hm
    exact (cn_X5_note_59 fu F G hm)
  · have hm := (if_neg c_1).symm.trans hm
    exact (cn_X5_note_49 fu x1 x2 F G hm)
theorem cw_X5_note_41 (fu : Nat) {res : Int32 × PF × PG} (C : cMC p R s m args c A v RX5 cX5_note 3 0 0 (xn res.2.1 - xn K0)) (hret : ∀ (b1 : Nat) (H1 : Heap) (locs1 : List Loc) (ls1 : Array Slot) (pc : Nat), cMW s A v a b1 K0 res.2.1 res.2.2 H1 locs1 → decode cX5_note pc = .ok (.return_, 1) → W p l e R s m args below meth c H1 locs1 (xn res.2.1 - xn K0) (2 * (xn res.2.1 - xn K0)) Q (F0 m pc ls1 [])) (x1 : Int32) (x2 : Int32) (F : PF) (G : PG) (hm : cb_X5_note_41 fu x1 x2 F G = some res) {b : Nat} {H : Heap} {locs : List Loc} (hw : cMW s A v a b K0 F G H locs) {ls : Array Slot} (hl : lv_has ls 3 [(0, .ref (a 205)), (1, .int x1), (2, .int x2)]) : W p l e R s m args below meth c H locs (xn F - xn K0) (2 * (xn F - xn K0)) Q (F0 m 41 ls []) := by
  have hx := C.1
  have hb := C.2.1
  unfold cb_X5_note_41 at hm
  refine lv_iload_n hx hb dX5_note_41 rfl (lv_at hl 1 rfl) ?_
  refine lv_aload_n hx hb dX5_note_42 rfl (lv_at hl 0 rfl) ?_
  refine cg_X5_50 C hw dX5_note_43 ?_
  refine lv_icmp_ge (tgt := 59) hx hb dX5_note_46 (by decide) (fun c_1 => ?_) (fun c_1 => ?_)
  · have hm := (if_pos c_1).symm.trans hm
    exact cw_X5_note_59 fu C hret F G hm hw (lv_sub hl [] rfl)
  · have hm := (if_neg c_1).symm.trans hm
    exact cw_X5_note_49 fu C hret x1 x2 F G hm hw (lv_sub hl [0, 1, 2] rfl)
theorem cn_X5_note_33 (fu : Nat) {res : Int32 × PF × PG} (x1 : Int32) (x2 : Int32) (F : PF) (G : PG) (hm : cb_X5_note_33 fu x1 x2 F G = some res) : xn F ≤ xn res.2.1 := by
  unfold cb_X5_note_33 at hm
  by_cases c_1 : x2 = (F 43)
  · have hm := (if_pos c_1).symm.trans hm
    exact (cn_X5_note_41 fu x1 x2 F G hm)
  · have hm := (if_neg c_1).symm.trans hm
    exact (cn_X5_note_59 fu F G hm)
theorem cw_X5_note_33 (fu : Nat) {res : Int32 × PF × PG} (C : cMC p R s m args c A v RX5 cX5_note 3 0 0 (xn res.2.1 - xn K0)) (hret : ∀ (b1 : Nat) (H1 : Heap) (locs1 : List Loc) (ls1 : Array Slot) (pc : Nat), cMW s A v a b1 K0 res.2.1 res.2.2 H1 locs1 → decode cX5_note pc = .ok (.return_, 1) → W p l e R s m args below meth c H1 locs1 (xn res.2.1 - xn K0) (2 * (xn res.2.1 - xn K0)) Q (F0 m pc ls1 [])) (x1 : Int32) (x2 : Int32) (F : PF) (G : PG) (hm : cb_X5_note_33 fu x1 x2 F G = some res) {b : Nat} {H : Heap} {locs : List Loc} (hw : cMW s A v a b K0 F G H locs) {ls : Array Slot} (hl : lv_has ls 3 [(0, .ref (a 205)), (1, .int x1), (2, .int x2)]) : W p l e R s m args below meth c H locs (xn F - xn K0) (2 * (xn F - xn K0)) Q (F0 m 33 ls []) := by
  have hx := C.1
  have hb := C.2.1
  unfold cb_X5_note_33 at hm
  refine lv_iload_n hx hb dX5_note_33 rfl (lv_at hl 2 rfl) ?_
  refine lv_aload_n hx hb dX5_note_34 rfl (lv_at hl 0 rfl) ?_
  refine cg_X5_47 C hw dX5_note_35 ?_
  refine lv_icmp_ne (tgt := 59) hx hb dX5_note_38 (by decide) (fun c_1 => ?_) (fun c_1 => ?_)
  · have hm := (if_neg c_1).symm.trans hm
    exact cw_X5_note_59 fu C hret F G hm hw (lv_sub hl [] rfl)
  · have hm := (if_pos c_1).symm.trans hm
    exact cw_X5_note_41 fu C hret x1 x2 F G hm hw (lv_sub hl [0, 1, 2] rfl)
theorem cn_X5_note_25 (fu : Nat) {res : Int32 × PF × PG} (x1 : Int32) (x2 : Int32) (F : PF) (G : PG) (hm : cb_X5_note_25 fu x1 x2 F G = some res) : xn F ≤ xn res.2.1 := by
  unfold cb_X5_note_25 at hm
  by_cases c_1 : x2 < (F 43)
  · have hm := (if_pos c_1).symm.trans hm
    exact (cn_X5_note_49 fu x1 x2 F G hm)
  · have hm := (if_neg c_1).symm.trans hm
    exact (cn_X5_note_33 fu x1 x2 F G hm)
theorem cw_X5_note_25 (fu : Nat) {res : Int32 × PF × PG} (C : cMC p R s m args c A v RX5 cX5_note 3 0 0 (xn res.2.1 - xn K0)) (hret : ∀ (b1 : Nat) (H1 : Heap) (locs1 : List Loc) (ls1 : Array Slot) (pc : Nat), cMW s A v a b1 K0 res.2.1 res.2.2 H1 locs1 → decode cX5_note pc = .ok (.return_, 1) → W p l e R s m args below meth c H1 locs1 (xn res.2.1 - xn K0) (2 * (xn res.2.1 - xn K0)) Q (F0 m pc ls1 [])) (x1 : Int32) (x2 : Int32) (F : PF) (G : PG) (hm : cb_X5_note_25 fu x1 x2 F G = some res) {b : Nat} {H : Heap} {locs : List Loc} (hw : cMW s A v a b K0 F G H locs) {ls : Array Slot} (hl : lv_has ls 3 [(0, .ref (a 205)), (1, .int x1), (2, .int x2)]) : W p l e R s m args below meth c H locs (xn F - xn K0) (2 * (xn F - xn K0)) Q (F0 m 25 ls []) := by
  have hx := C.1
  have hb := C.2.1
  unfold cb_X5_note_25 at hm
  refine lv_iload_n hx hb dX5_note_25 rfl (lv_at hl 2 rfl) ?_
  refine lv_aload_n hx hb dX5_note_26 rfl (lv_at hl 0 rfl) ?_
  refine cg_X5_47 C hw dX5_note_27 ?_
  refine lv_icmp_lt (tgt := 49) hx hb dX5_note_30 (by decide) (fun c_1 => ?_) (fun c_1 => ?_)
  · have hm := (if_pos c_1).symm.trans hm
    exact cw_X5_note_49 fu C hret x1 x2 F G hm hw (lv_sub hl [0, 1, 2] rfl)
  · have hm := (if_neg c_1).symm.trans hm
    exact cw_X5_note_33 fu C hret x1 x2 F G hm hw (lv_sub hl [0, 1, 2] rfl)
theorem cn_X5_note_20 (fu : Nat) {res : Int32 × PF × PG} (x1 : Int32) (x2 : Int32) (F : PF) (G : PG) (hm : cb_X5_note_20 fu x1 x2 F G = some res) : xn F ≤ xn res.2.1 := by
  unfold cb_X5_note_20 at hm
  exact Nat.le_trans (Nat.le_of_eq (xn_fup (by decide)).symm) (cn_X5_note_25 fu x1 x2 (fup F 47 (0 : Int32)) G hm)
theorem cw_X5_note_20 (fu : Nat) {res : Int32 × PF × PG} (C : cMC p R s m args c A v RX5 cX5_note 3 0 0 (xn res.2.1 - xn K0)) (hret : ∀ (b1 : Nat) (H1 : Heap) (locs1 : List Loc) (ls1 : Array Slot) (pc : Nat), cMW s A v a b1 K0 res.2.1 res.2.2 H1 locs1 → decode cX5_note pc = .ok (.return_, 1) → W p l e R s m args below meth c H1 locs1 (xn res.2.1 - xn K0) (2 * (xn res.2.1 - xn K0)) Q (F0 m pc ls1 [])) (x1 : Int32) (x2 : Int32) (F : PF) (G : PG) (hm : cb_X5_note_20 fu x1 x2 F G = some res) {b : Nat} {H : Heap} {locs : List Loc} (hw : cMW s A v a b K0 F G H locs) {ls : Array Slot} (hl : lv_has ls 3 [(0, .ref (a 205)), (1, .int x1), (2, .int x2)]) : W p l e R s m args below meth c H locs (xn F - xn K0) (2 * (xn F - xn K0)) Q (F0 m 20 ls []) := by
  have hx := C.1
  have hb := C.2.1
  unfold cb_X5_note_20 at hm
  refine lv_aload_n hx hb dX5_note_20 rfl (lv_at hl 0 rfl) ?_
  refine lv_iconst (v := 0) hx hb dX5_note_21 (by decide) ?_
  refine cp_X5_60 C hw (by decide) dX5_note_22 (fun H locs hw => ?_)
  exact cw_X5_note_25 fu C hret x1 x2 (fup F 47 (0 : Int32)) G hm hw (lv_sub hl [0, 1, 2] rfl)
theorem cn_X5_note_11 (fu : Nat) {res : Int32 × PF × PG} (x1 : Int32) (x2 : Int32) (F : PF) (G : PG) (hm : cb_X5_note_11 fu x1 x2 F G = some res) : xn F ≤ xn res.2.1 := by
  unfold cb_X5_note_11 at hm
  by_cases c_1 : x1 < (10 : Int32)
  · have hm := (if_pos c_1).symm.trans hm
    exact (cn_X5_note_20 fu x1 x2 F G hm)
  · have hm := (if_neg c_1).symm.trans hm
    exact (cn_X5_note_19 fu F G hm)
theorem cw_X5_note_11 (fu : Nat) {res : Int32 × PF × PG} (C : cMC p R s m args c A v RX5 cX5_note 3 0 0 (xn res.2.1 - xn K0)) (hret : ∀ (b1 : Nat) (H1 : Heap) (locs1 : List Loc) (ls1 : Array Slot) (pc : Nat), cMW s A v a b1 K0 res.2.1 res.2.2 H1 locs1 → decode cX5_note pc = .ok (.return_, 1) → W p l e R s m args below meth c H1 locs1 (xn res.2.1 - xn K0) (2 * (xn res.2.1 - xn K0)) Q (F0 m pc ls1 [])) (x1 : Int32) (x2 : Int32) (F : PF) (G : PG) (hm : cb_X5_note_11 fu x1 x2 F G = some res) {b : Nat} {H : Heap} {locs : List Loc} (hw : cMW s A v a b K0 F G H locs) {ls : Array Slot} (hl : lv_has ls 3 [(0, .ref (a 205)), (1, .int x1), (2, .int x2)]) : W p l e R s m args below meth c H locs (xn F - xn K0) (2 * (xn F - xn K0)) Q (F0 m 11 ls []) := by
  have hx := C.1
  have hb := C.2.1
  unfold cb_X5_note_11 at hm
  refine lv_iload_n hx hb dX5_note_11 rfl (lv_at hl 1 rfl) ?_
  refine cgs_X5_69 C hw dX5_note_12 ?_
  refine ctl_0 C hw dX5_note_15 ?_
  refine lv_icmp_lt (tgt := 20) hx hb dX5_note_16 (by decide) (fun c_1 => ?_) (fun c_1 => ?_)
  · have hm := (if_pos c_1).symm.trans hm
    exact cw_X5_note_20 fu C hret x1 x2 F G hm hw (lv_sub hl [0, 1, 2] rfl)
  · have hm := (if_neg c_1).symm.trans hm
    exact cw_X5_note_19 fu C hret F G hm hw (lv_sub hl [] rfl)
theorem cn_X5_note_7 (fu : Nat) {res : Int32 × PF × PG} (x1 : Int32) (x2 : Int32) (F : PF) (G : PG) (hm : cb_X5_note_7 fu x1 x2 F G = some res) : xn F ≤ xn res.2.1 := by
  unfold cb_X5_note_7 at hm
  by_cases c_1 : x1 < (0 : Int32)
  · have hm := (if_pos c_1).symm.trans hm
    exact (cn_X5_note_19 fu F G hm)
  · have hm := (if_neg c_1).symm.trans hm
    exact (cn_X5_note_11 fu x1 x2 F G hm)
theorem cw_X5_note_7 (fu : Nat) {res : Int32 × PF × PG} (C : cMC p R s m args c A v RX5 cX5_note 3 0 0 (xn res.2.1 - xn K0)) (hret : ∀ (b1 : Nat) (H1 : Heap) (locs1 : List Loc) (ls1 : Array Slot) (pc : Nat), cMW s A v a b1 K0 res.2.1 res.2.2 H1 locs1 → decode cX5_note pc = .ok (.return_, 1) → W p l e R s m args below meth c H1 locs1 (xn res.2.1 - xn K0) (2 * (xn res.2.1 - xn K0)) Q (F0 m pc ls1 [])) (x1 : Int32) (x2 : Int32) (F : PF) (G : PG) (hm : cb_X5_note_7 fu x1 x2 F G = some res) {b : Nat} {H : Heap} {locs : List Loc} (hw : cMW s A v a b K0 F G H locs) {ls : Array Slot} (hl : lv_has ls 3 [(0, .ref (a 205)), (1, .int x1), (2, .int x2)]) : W p l e R s m args below meth c H locs (xn F - xn K0) (2 * (xn F - xn K0)) Q (F0 m 7 ls []) := by
  have hx := C.1
  have hb := C.2.1
  unfold cb_X5_note_7 at hm
  refine lv_iload_n hx hb dX5_note_7 rfl (lv_at hl 1 rfl) ?_
  refine lv_if_lt (tgt := 19) hx hb dX5_note_8 (by decide) (fun c_1 => ?_) (fun c_1 => ?_)
  · have hm := (if_pos c_1).symm.trans hm
    exact cw_X5_note_19 fu C hret F G hm hw (lv_sub hl [] rfl)
  · have hm := (if_neg c_1).symm.trans hm
    exact cw_X5_note_11 fu C hret x1 x2 F G hm hw (lv_sub hl [0, 1, 2] rfl)
theorem cn_X5_note_0 (fu : Nat) {res : Int32 × PF × PG} (x1 : Int32) (x2 : Int32) (F : PF) (G : PG) (hm : cb_X5_note_0 fu x1 x2 F G = some res) : xn F ≤ xn res.2.1 := by
  unfold cb_X5_note_0 at hm
  by_cases c_1 : (F 45) = (0 : Int32)
  · have hm := (if_pos c_1).symm.trans hm
    exact (cn_X5_note_19 fu F G hm)
  · have hm := (if_neg c_1).symm.trans hm
    exact (cn_X5_note_7 fu x1 x2 F G hm)
theorem cw_X5_note_0 (fu : Nat) {res : Int32 × PF × PG} (C : cMC p R s m args c A v RX5 cX5_note 3 0 0 (xn res.2.1 - xn K0)) (hret : ∀ (b1 : Nat) (H1 : Heap) (locs1 : List Loc) (ls1 : Array Slot) (pc : Nat), cMW s A v a b1 K0 res.2.1 res.2.2 H1 locs1 → decode cX5_note pc = .ok (.return_, 1) → W p l e R s m args below meth c H1 locs1 (xn res.2.1 - xn K0) (2 * (xn res.2.1 - xn K0)) Q (F0 m pc ls1 [])) (x1 : Int32) (x2 : Int32) (F : PF) (G : PG) (hm : cb_X5_note_0 fu x1 x2 F G = some res) {b : Nat} {H : Heap} {locs : List Loc} (hw : cMW s A v a b K0 F G H locs) {ls : Array Slot} (hl : lv_has ls 3 [(0, .ref (a 205)), (1, .int x1), (2, .int x2)]) : W p l e R s m args below meth c H locs (xn F - xn K0) (2 * (xn F - xn K0)) Q (F0 m 0 ls []) := by
  have hx := C.1
  have hb := C.2.1
  unfold cb_X5_note_0 at hm
  refine lv_aload_n hx hb dX5_note_0 rfl (lv_at hl 0 rfl) ?_
  refine cg_X5_53 C hw dX5_note_1 ?_
  refine lv_if_eq (tgt := 19) hx hb dX5_note_4 (by decide) (fun c_1 => ?_) (fun c_1 => ?_)
  · have hm := (if_pos c_1).symm.trans hm
    exact cw_X5_note_19 fu C hret F G hm hw (lv_sub hl [] rfl)
  · have hm := (if_neg c_1).symm.trans hm
    exact cw_X5_note_7 fu C hret x1 x2 F G hm hw (lv_sub hl [0, 1, 2] rfl)
theorem cn_X5_note (fu : Nat) (x1 : Int32) (x2 : Int32) (F : PF) (G : PG) (q : Int32 × PF × PG) (hm : cf_X5_note fu x1 x2 F G = some q) : xn F ≤ xn q.2.1 := cn_X5_note_0 fu x1 x2 F G hm
theorem ck_X5_note (l : Launch) (v : EV) (a : Nat → Nat) (b sz : Nat) (fu : Nat) (x1 : Int32) (x2 : Int32) (F : PF) (G : PG) (r : Int32) (F1 : PF) (G1 : PG) (hm : cf_X5_note fu x1 x2 F G = some (r, F1, G1)) : cMV l yX5_note cX5_note 3 0 0 v a b sz [.ref (a 205), .int x1, .int x2] F G F1 G1 := cMV.of (by decide) (Nat.le_of_ble_eq_true rfl) (fun p e R s m args below meth c Q A H locs ls C hw hl hret => cw_X5_note_0 fu (res := (r, F1, G1)) C hret x1 x2 F G hm hw hl)
def cb_X8_has_17 (fu : Nat) (z0 : Int32) (F : PF) (G : PG) : PR := if b01 z0 = true then (some (z0, F, G)) else none
def cb_X8_has_16 (fu : Nat) (F : PF) (G : PG) : PR := cb_X8_has_17 fu 0 F G
def cb_X8_has_12 (fu : Nat) (F : PF) (G : PG) : PR := cb_X8_has_17 fu 1 F G
def cb_X8_has_4 (fu : Nat) (x1 : Int32) (F : PF) (G : PG) : PR := if (F 74) ≤ x1 then cb_X8_has_16 fu F G else cb_X8_has_12 fu F G
def cb_X8_has_0 (fu : Nat) (x1 : Int32) (F : PF) (G : PG) : PR := if x1 < (0 : Int32) then cb_X8_has_16 fu F G else cb_X8_has_4 fu x1 F G
def cf_X8_has (fu : Nat) (x1 : Int32) (F : PF) (G : PG) : PR := cb_X8_has_0 fu x1 F G
theorem cn_X8_has_17 (fu : Nat) {res : Int32 × PF × PG} (z0 : Int32) (F : PF) (G : PG) (hm : cb_X8_has_17 fu z0 F G = some res) : xn F ≤ xn res.2.1 := by
  unfold cb_X8_has_17 at hm
  have hm := (b01_elim hm).2
  obtain rfl := Option.some.inj hm
  exact Nat.le_refl _
theorem cw_X8_has_17 (fu : Nat) {res : Int32 × PF × PG} (C : cMC p R s m args c A v RX8 cX8_has 2 0 0 (xn res.2.1 - xn K0)) (hret : ∀ (b1 : Nat) (H1 : Heap) (locs1 : List Loc) (ls1 : Array Slot) (pc : Nat), cMW s A v a b1 K0 res.2.1 res.2.2 H1 locs1 → narrow .boolean (.int res.1) = .int res.1 → decode cX8_has pc = .ok (.ireturn, 1) → W p l e R s m args below meth c H1 locs1 (xn res.2.1 - xn K0) (2 * (xn res.2.1 - xn K0)) Q (F0 m pc ls1 [.int res.1])) (z0 : Int32) (F : PF) (G : PG) (hm : cb_X8_has_17 fu z0 F G = some res) {b : Nat} {H : Heap} {locs : List Loc} (hw : cMW s A v a b K0 F G H locs) {ls : Array Slot} (hl : lv_has ls 2 []) : W p l e R s m args below meth c H locs (xn F - xn K0) (2 * (xn F - xn K0)) Q (F0 m 17 ls [.int z0]) := by
  have hx := C.1
  have hb := C.2.1
  unfold cb_X8_has_17 at hm
  obtain ⟨hz, hm⟩ := b01_elim hm
  obtain rfl := Option.some.inj hm
  exact hret _ _ _ _ _ hw (b01_nar hz) dX8_has_17
theorem cn_X8_has_16 (fu : Nat) {res : Int32 × PF × PG} (F : PF) (G : PG) (hm : cb_X8_has_16 fu F G = some res) : xn F ≤ xn res.2.1 := by
  unfold cb_X8_has_16 at hm
  exact (cn_X8_has_17 fu 0 F G hm)
theorem cw_X8_has_16 (fu : Nat) {res : Int32 × PF × PG} (C : cMC p R s m args c A v RX8 cX8_has 2 0 0 (xn res.2.1 - xn K0)) (hret : ∀ (b1 : Nat) (H1 : Heap) (locs1 : List Loc) (ls1 : Array Slot) (pc : Nat), cMW s A v a b1 K0 res.2.1 res.2.2 H1 locs1 → narrow .boolean (.int res.1) = .int res.1 → decode cX8_has pc = .ok (.ireturn, 1) → W p l e R s m args below meth c H1 locs1 (xn res.2.1 - xn K0) (2 * (xn res.2.1 - xn K0)) Q (F0 m pc ls1 [.int res.1])) (F : PF) (G : PG) (hm : cb_X8_has_16 fu F G = some res) {b : Nat} {H : Heap} {locs : List Loc} (hw : cMW s A v a b K0 F G H locs) {ls : Array Slot} (hl : lv_has ls 2 []) : W p l e R s m args below meth c H locs (xn F - xn K0) (2 * (xn F - xn K0)) Q (F0 m 16 ls []) := by
  have hx := C.1
  have hb := C.2.1
  unfold cb_X8_has_16 at hm
  refine lv_iconst (v := 0) hx hb dX8_has_16 (by decide) ?_
  exact cw_X8_has_17 fu C hret 0 F G hm hw (lv_sub hl [] rfl)
theorem cn_X8_has_12 (fu : Nat) {res : Int32 × PF × PG} (F : PF) (G : PG) (hm : cb_X8_has_12 fu F G = some res) : xn F ≤ xn res.2.1 := by
  unfold cb_X8_has_12 at hm
  exact (cn_X8_has_17 fu 1 F G hm)
theorem cw_X8_has_12 (fu : Nat) {res : Int32 × PF × PG} (C : cMC p R s m args c A v RX8 cX8_has 2 0 0 (xn res.2.1 - xn K0)) (hret : ∀ (b1 : Nat) (H1 : Heap) (locs1 : List Loc) (ls1 : Array Slot) (pc : Nat), cMW s A v a b1 K0 res.2.1 res.2.2 H1 locs1 → narrow .boolean (.int res.1) = .int res.1 → decode cX8_has pc = .ok (.ireturn, 1) → W p l e R s m args below meth c H1 locs1 (xn res.2.1 - xn K0) (2 * (xn res.2.1 - xn K0)) Q (F0 m pc ls1 [.int res.1])) (F : PF) (G : PG) (hm : cb_X8_has_12 fu F G = some res) {b : Nat} {H : Heap} {locs : List Loc} (hw : cMW s A v a b K0 F G H locs) {ls : Array Slot} (hl : lv_has ls 2 []) : W p l e R s m args below meth c H locs (xn F - xn K0) (2 * (xn F - xn K0)) Q (F0 m 12 ls []) := by
  have hx := C.1
  have hb := C.2.1
  unfold cb_X8_has_12 at hm
  refine lv_iconst (v := 1) hx hb dX8_has_12 (by decide) ?_
  refine lv_goto (tgt := 17) hx hb dX8_has_13 (by decide) ?_
  exact cw_X8_has_17 fu C hret 1 F G hm hw (lv_sub hl [] rfl)
theorem cn_X8_has_4 (fu : Nat) {res : Int32 × PF × PG} (x1 : Int32) (F : PF) (G : PG) (hm : cb_X8_has_4 fu x1 F G = some res) : xn F ≤ xn res.2.1 := by
  unfold cb_X8_has_4 at hm
  by_cases c_1 : (F 74) ≤ x1
  · have hm := (if_pos c_1).symm.trans hm
    exact (cn_X8_has_16 fu F G hm)
  · have hm := (if_neg c_1).symm.trans hm
    exact (cn_X8_has_12 fu F G hm)
theorem cw_X8_has_4 (fu : Nat) {res : Int32 × PF × PG} (C : cMC p R s m args c A v RX8 cX8_has 2 0 0 (xn res.2.1 - xn K0)) (hret : ∀ (b1 : Nat) (H1 : Heap) (locs1 : List Loc) (ls1 : Array Slot) (pc : Nat), cMW s A v a b1 K0 res.2.1 res.2.2 H1 locs1 → narrow .boolean (.int res.1) = .int res.1 → decode cX8_has pc = .ok (.ireturn, 1) → W p l e R s m args below meth c H1 locs1 (xn res.2.1 - xn K0) (2 * (xn res.2.1 - xn K0)) Q (F0 m pc ls1 [.int res.1])) (x1 : Int32) (F : PF) (G : PG) (hm : cb_X8_has_4 fu x1 F G = some res) {b : Nat} {H : Heap} {locs : List Loc} (hw : cMW s A v a b K0 F G H locs) {ls : Array Slot} (hl : lv_has ls 2 [(0, .ref (a 208)), (1, .int x1)]) : W p l e R s m args below meth c H locs (xn F - xn K0) (2 * (xn F - xn K0)) Q (F0 m 4 ls []) := by
  have hx := C.1
  have hb := C.2.1
  unfold cb_X8_has_4 at hm
  refine lv_iload_n hx hb dX8_has_4 rfl (lv_at hl 1 rfl) ?_
  refine lv_aload_n hx hb dX8_has_5 rfl (lv_at hl 0 rfl) ?_
  refine cg_X8_43 C hw dX8_has_6 ?_
  refine lv_icmp_ge (tgt := 16) hx hb dX8_has_9 (by decide) (fun c_1 => ?_) (fun c_1 => ?_)
  · have hm := (if_pos c_1).symm.trans hm
    exact cw_X8_has_16 fu C hret F G hm hw (lv_sub hl [] rfl)
  · have hm := (if_neg c_1).symm.trans hm
    exact cw_X8_has_12 fu C hret F G hm hw (lv_sub hl [] rfl)
theorem cn_X8_has_0 (fu : Nat) {res : Int32 × PF × PG} (x1 : Int32) (F : PF) (G : PG) (hm : cb_X8_has_0 fu x1 F G = some res) : xn F ≤ xn res.2.1 := by
  unfold cb_X8_has_0 at hm
  by_cases c_1 : x1 < (0 : Int32)
  · have hm := (if_pos c_1).symm.trans hm
    exact (cn_X8_has_16 fu F G hm)
  · have hm := (if_neg c_1).symm.trans hm
    exact (cn_X8_has_4 fu x1 F G hm)
theorem cw_X8_has_0 (fu : Nat) {res : Int32 × PF × PG} (C : cMC p R s m args c A v RX8 cX8_has 2 0 0 (xn res.2.1 - xn K0)) (hret : ∀ (b1 : Nat) (H1 : Heap) (locs1 : List Loc) (ls1 : Array Slot) (pc : Nat), cMW s A v a b1 K0 res.2.1 res.2.2 H1 locs1 → narrow .boolean (.int res.1) = .int res.1 → decode cX8_has pc = .ok (.ireturn, 1) → W p l e R s m args below meth c H1 locs1 (xn res.2.1 - xn K0) (2 * (xn res.2.1 - xn K0)) Q (F0 m pc ls1 [.int res.1])) (x1 : Int32) (F : PF) (G : PG) (hm : cb_X8_has_0 fu x1 F G = some res) {b : Nat} {H : Heap} {locs : List Loc} (hw : cMW s A v a b K0 F G H locs) {ls : Array Slot} (hl : lv_has ls 2 [(0, .ref (a 208)), (1, .int x1)]) : W p l e R s m args below meth c H locs (xn F - xn K0) (2 * (xn F - xn K0)) Q (F0 m 0 ls []) := by
  have hx := C.1
  have hb := C.2.1
  unfold cb_X8_has_0 at hm
  refine lv_iload_n hx hb dX8_has_0 rfl (lv_at hl 1 rfl) ?_
  refine lv_if_lt (tgt := 16) hx hb dX8_has_1 (by decide) (fun c_1 => ?_) (fun c_1 => ?_)
  · have hm := (if_pos c_1).symm.trans hm
    exact cw_X8_has_16 fu C hret F G hm hw (lv_sub hl [] rfl)
  · have hm := (if_neg c_1).symm.trans hm
    exact cw_X8_has_4 fu C hret x1 F G hm hw (lv_sub hl [0, 1] rfl)
theorem cn_X8_has (fu : Nat) (x1 : Int32) (F : PF) (G : PG) (q : Int32 × PF × PG) (hm : cf_X8_has fu x1 F G = some q) : xn F ≤ xn q.2.1 := cn_X8_has_0 fu x1 F G hm
theorem ck_X8_has (l : Launch) (v : EV) (a : Nat → Nat) (b sz : Nat) (fu : Nat) (x1 : Int32) (F : PF) (G : PG) (r : Int32) (F1 : PF) (G1 : PG) (hm : cf_X8_has fu x1 F G = some (r, F1, G1)) : cMI l yX8_has cX8_has 2 (some .boolean) 0 0 v a b sz [.ref (a 208), .int x1] F G r F1 G1 := cMI.of (ty := .boolean) (by decide) rfl (Nat.le_of_ble_eq_true rfl) (fun p e R s m args below meth c Q A H locs ls C hw hl hret => cw_X8_has_0 fu (res := (r, F1, G1)) C hret x1 F G hm hw hl)
def cb_X8_formalKind_22 (fu : Nat) (F : PF) (G : PG) : PR := some ((-1), F, G)
def cb_X8_formalKind_50 (fu : Nat) (z0 : Int32) (F : PF) (G : PG) : PR := some (z0, F, G)
def cb_X8_formalKind_49 (fu : Nat) (F : PF) (G : PG) : PR := cb_X8_formalKind_50 fu (-1) F G
def cb_X8_formalKind_40 (fu : Nat) (x3 : Int32) (F : PF) (G : PG) : PR := if ixb x3 700 = true then (cb_X8_formalKind_50 fu (G 84 x3.toNatClampNeg) F G) else none
def cb_X8_formalKind_24 (fu : Nat) (x1 : Int32) (x2 : Int32) (F : PF) (G : PG) : PR := if ixb x1 450 = true then (if (700 : Int32) ≤ ((G 83 x1.toNatClampNeg) + x2) then cb_X8_formalKind_49 fu F G else cb_X8_formalKind_40 fu ((G 83 x1.toNatClampNeg) + x2) F G) else none
def cb_X8_formalKind_12 (fu : Nat) (x1 : Int32) (x2 : Int32) (F : PF) (G : PG) : PR := if ixb x1 450 = true then (if x2 < (G 78 x1.toNatClampNeg) then cb_X8_formalKind_24 fu x1 x2 F G else cb_X8_formalKind_22 fu F G) else none
def cb_X8_formalKind_8 (fu : Nat) (x1 : Int32) (x2 : Int32) (F : PF) (G : PG) : PR := if x2 < (0 : Int32) then cb_X8_formalKind_22 fu F G else cb_X8_formalKind_12 fu x1 x2 F G
def cb_X8_formalKind_5 (fu : Nat) (x1 : Int32) (x2 : Int32) (z0 : Int32) (F : PF) (G : PG) : PR := if z0 = (0 : Int32) then cb_X8_formalKind_22 fu F G else cb_X8_formalKind_8 fu x1 x2 F G
def cb_X8_formalKind_0 (fu : Nat) (x1 : Int32) (x2 : Int32) (F : PF) (G : PG) : PR := (cf_X8_has fu x1 F G).bind (fun q => cb_X8_formalKind_5 fu x1 x2 q.1 q.2.1 q.2.2)
def cf_X8_formalKind (fu : Nat) (x1 : Int32) (x2 : Int32) (F : PF) (G : PG) : PR := cb_X8_formalKind_0 fu x1 x2 F G
theorem cn_X8_formalKind_22 (fu : Nat) {res : Int32 × PF × PG} (F : PF) (G : PG) (hm : cb_X8_formalKind_22 fu F G = some res) : xn F ≤ xn res.2.1 := by
  unfold cb_X8_formalKind_22 at hm
  obtain rfl := Option.some.inj hm
  exact Nat.le_refl _
theorem cw_X8_formalKind_22 (fu : Nat) {res : Int32 × PF × PG} (C : cMC p R s m args c A v RX8 cX8_formalKind 4 1 21 (xn res.2.1 - xn K0)) (hret : ∀ (b1 : Nat) (H1 : Heap) (locs1 : List Loc) (ls1 : Array Slot) (pc : Nat), cMW s A v a b1 K0 res.2.1 res.2.2 H1 locs1 → narrow .int (.int res.1) = .int res.1 → decode cX8_formalKind pc = .ok (.ireturn, 1) → W p l e R s m args below meth c H1 locs1 (xn res.2.1 - xn K0) (2 * (xn res.2.1 - xn K0)) Q (F0 m pc ls1 [.int res.1])) (F : PF) (G : PG) (hm : cb_X8_formalKind_22 fu F G = some res) {b : Nat} {H : Heap} {locs : List Loc} (hw : cMW s A v a b K0 F G H locs) {ls : Array Slot} (hl : lv_has ls 4 []) : W p l e R s m args below meth c H locs (xn F - xn K0) (2 * (xn F - xn K0)) Q (F0 m 22 ls []) := by
  have hx := C.1
  have hb := C.2.1
  unfold cb_X8_formalKind_22 at hm
  refine lv_iconst (v := (-1)) hx hb dX8_formalKind_22 (by decide) ?_
  obtain rfl := Option.some.inj hm
  exact hret _ _ _ _ _ hw rfl dX8_formalKind_23
theorem cn_X8_formalKind_50 (fu : Nat) {res : Int32 × PF × PG} (z0 : Int32) (F : PF) (G : PG) (hm : cb_X8_formalKind_50 fu z0 F G = some res) : xn F ≤ xn res.2.1 := by
  unfold cb_X8_formalKind_50 at hm
  obtain rfl := Option.some.inj hm
  exact Nat.le_refl _
theorem cw_X8_formalKind_50 (fu : Nat) {res : Int32 × PF × PG} (C : cMC p R s m args c A v RX8 cX8_formalKind 4 1 21 (xn res.2.1 - xn K0)) (hret : ∀ (b1 : Nat) (H1 : Heap) (locs1 : List Loc) (ls1 : Array Slot) (pc : Nat), cMW s A v a b1 K0 res.2.1 res.2.2 H1 locs1 → narrow .int (.int res.1) = .int res.1 → decode cX8_formalKind pc = .ok (.ireturn, 1) → W p l e R s m args below meth c H1 locs1 (xn res.2.1 - xn K0) (2 * (xn res.2.1 - xn K0)) Q (F0 m pc ls1 [.int res.1])) (z0 : Int32) (F : PF) (G : PG) (hm : cb_X8_formalKind_50 fu z0 F G = some res) {b : Nat} {H : Heap} {locs : List Loc} (hw : cMW s A v a b K0 F G H locs) {ls : Array Slot} (hl : lv_has ls 4 []) : W p l e R s m args below meth c H locs (xn F - xn K0) (2 * (xn F - xn K0)) Q (F0 m 50 ls [.int z0]) := by
  have hx := C.1
  have hb := C.2.1
  unfold cb_X8_formalKind_50 at hm
  obtain rfl := Option.some.inj hm
  exact hret _ _ _ _ _ hw rfl dX8_formalKind_50
theorem cn_X8_formalKind_49 (fu : Nat) {res : Int32 × PF × PG} (F : PF) (G : PG) (hm : cb_X8_formalKind_49 fu F G = some res) : xn F ≤ xn res.2.1 := by
  unfold cb_X8_formalKind_49 at hm
  exact (cn_X8_formalKind_50 fu (-1) F G hm)
theorem cw_X8_formalKind_49 (fu : Nat) {res : Int32 × PF × PG} (C : cMC p R s m args c A v RX8 cX8_formalKind 4 1 21 (xn res.2.1 - xn K0)) (hret : ∀ (b1 : Nat) (H1 : Heap) (locs1 : List Loc) (ls1 : Array Slot) (pc : Nat), cMW s A v a b1 K0 res.2.1 res.2.2 H1 locs1 → narrow .int (.int res.1) = .int res.1 → decode cX8_formalKind pc = .ok (.ireturn, 1) → W p l e R s m args below meth c H1 locs1 (xn res.2.1 - xn K0) (2 * (xn res.2.1 - xn K0)) Q (F0 m pc ls1 [.int res.1])) (F : PF) (G : PG) (hm : cb_X8_formalKind_49 fu F G = some res) {b : Nat} {H : Heap} {locs : List Loc} (hw : cMW s A v a b K0 F G H locs) {ls : Array Slot} (hl : lv_has ls 4 []) : W p l e R s m args below meth c H locs (xn F - xn K0) (2 * (xn F - xn K0)) Q (F0 m 49 ls []) := by
  have hx := C.1
  have hb := C.2.1
  unfold cb_X8_formalKind_49 at hm
  refine lv_iconst (v := (-1)) hx hb dX8_formalKind_49 (by decide) ?_
  exact cw_X8_formalKind_50 fu C hret (-1) F G hm hw (lv_sub hl [] rfl)
theorem cn_X8_formalKind_40 (fu : Nat) {res : Int32 × PF × PG} (x3 : Int32) (F : PF) (G : PG) (hm : cb_X8_formalKind_40 fu x3 F G = some res) : xn F ≤ xn res.2.1 := by
  unfold cb_X8_formalKind_40 at hm
  have hm := (ix_elim hm).2
  exact (cn_X8_formalKind_50 fu (G 84 x3.toNatClampNeg) F G hm)
theorem cw_X8_formalKind_40 (fu : Nat) {res : Int32 × PF × PG} (C : cMC p R s m args c A v RX8 cX8_formalKind 4 1 21 (xn res.2.1 - xn K0)) (hret : ∀ (b1 : Nat) (H1 : Heap) (locs1 : List Loc) (ls1 : Array Slot) (pc : Nat), cMW s A v a b1 K0 res.2.1 res.2.2 H1 locs1 → narrow .int (.int res.1) = .int res.1 → decode cX8_formalKind pc = .ok (.ireturn, 1) → W p l e R s m args below meth c H1 locs1 (xn res.2.1 - xn K0) (2 * (xn res.2.1 - xn K0)) Q (F0 m pc ls1 [.int res.1])) (x3 : Int32) (F : PF) (G : PG) (hm : cb_X8_formalKind_40 fu x3 F G = some res) {b : Nat} {H : Heap} {locs : List Loc} (hw : cMW s A v a b K0 F G H locs) {ls : Array Slot} (hl : lv_has ls 4 [(0, .ref (a 208)), (3, .int x3)]) : W p l e R s m args below meth c H locs (xn F - xn K0) (2 * (xn F - xn K0)) Q (F0 m 40 ls []) := by
  have hx := C.1
  have hb := C.2.1
  unfold cb_X8_formalKind_40 at hm
  refine lv_aload_n hx hb dX8_formalKind_40 rfl (lv_at hl 0 rfl) ?_
  refine cg_X8_33 C hw dX8_formalKind_41 ?_
  refine lv_iload_n hx hb dX8_formalKind_44 rfl (lv_at hl 1 rfl) ?_
  obtain ⟨hi, hm⟩ := ix_elim hm
  refine cal_84 C hw hi dX8_formalKind_45 ?_
  refine lv_goto (tgt := 50) hx hb dX8_formalKind_46 (by decide) ?_
  exact cw_X8_formalKind_50 fu C hret (G 84 x3.toNatClampNeg) F G hm hw (lv_sub hl [] rfl)
theorem cn_X8_formalKind_24 (fu : Nat) {res : Int32 × PF × PG} (x1 : Int32) (x2 : Int32) (F : PF) (G : PG) (hm : cb_X8_formalKind_24 fu x1 x2 F G = some res) : xn F ≤ xn res.2.1 := by
  unfold cb_X8_formalKind_24 at hm
  have hm := (ix_elim hm).2
  by_cases c_1 : (700 : Int32) ≤ ((G 83 x1.toNatClampNeg) + x2)
  · have hm := (if_pos c_1).symm.trans hm
    exact (cn_X8_formalKind_49 fu F G hm)
  · have hm := (if_neg c_1).symm.trans hm
    exact (cn_X8_formalKind_40 fu ((G 83 x1.toNatClampNeg) + x2) F G hm)
theorem cw_X8_formalKind_24 (fu : Nat) {res : Int32 × PF × PG} (C : cMC p R s m args c A v RX8 cX8_formalKind 4 1 21 (xn res.2.1 - xn K0)) (hret : ∀ (b1 : Nat) (H1 : Heap) (locs1 : List Loc) (ls1 : Array Slot) (pc : Nat), cMW s A v a b1 K0 res.2.1 res.2.2 H1 locs1 → narrow .int (.int res.1) = .int res.1 → decode cX8_formalKind pc = .ok (.ireturn, 1) → W p l e R s m args below meth c H1 locs1 (xn res.2.1 - xn K0) (2 * (xn res.2.1 - xn K0)) Q (F0 m pc ls1 [.int res.1])) (x1 : Int32) (x2 : Int32) (F : PF) (G : PG) (hm : cb_X8_formalKind_24 fu x1 x2 F G = some res) {b : Nat} {H : Heap} {locs : List Loc} (hw : cMW s A v a b K0 F G H locs) {ls : Array Slot} (hl : lv_has ls 4 [(0, .ref (a 208)), (1, .int x1), (2, .int x2)]) : W p l e R s m args below meth c H locs (xn F - xn K0) (2 * (xn F - xn K0)) Q (F0 m 24 ls []) := by
  have hx := C.1
  have hb := C.2.1
  unfold cb_X8_formalKind_24 at hm
  refine lv_aload_n hx hb dX8_formalKind_24 rfl (lv_at hl 0 rfl) ?_
  refine cg_X8_30 C hw dX8_formalKind_25 ?_
  refine lv_iload_n hx hb dX8_formalKind_28 rfl (lv_at hl 1 rfl) ?_
  obtain ⟨hi, hm⟩ := ix_elim hm
  refine cal_83 C hw hi dX8_formalKind_29 ?_
  refine lv_iload_n hx hb dX8_formalKind_30 rfl (lv_at hl 2 rfl) ?_
  refine lv_iadd hx hb dX8_formalKind_31 ?_
  refine lv_istore_n (lv' := [(3, .int ((G 83 x1.toNatClampNeg) + x2)), (0, .ref (a 208)), (1, .int x1), (2, .int x2)]) hx hb dX8_formalKind_32 rfl hl (by decide) rfl (fun ls hl => ?_)
  refine lv_iload_n hx hb dX8_formalKind_33 rfl (lv_at hl 0 rfl) ?_
  refine lv_sipush (v := 700) hx hb dX8_formalKind_34 (by decide) ?_
  refine lv_icmp_ge (tgt := 49) hx hb dX8_formalKind_37 (by decide) (fun c_1 => ?_) (fun c_1 => ?_)
  · have hm := (if_pos c_1).symm.trans hm
    exact cw_X8_formalKind_49 fu C hret F G hm hw (lv_sub hl [] rfl)
  · have hm := (if_neg c_1).symm.trans hm
    exact cw_X8_formalKind_40 fu C hret ((G 83 x1.toNatClampNeg) + x2) F G hm hw (lv_sub hl [1, 0] rfl)
theorem cn_X8_formalKind_12 (fu : Nat) {res : Int32 × PF × PG} (x1 : Int32) (x2 : Int32) (F : PF) (G : PG) (hm : cb_X8_formalKind_12 fu x1 x2 F G = some res) : xn F ≤ xn res.2.1 := by
  unfold cb_X8_formalKind_12 at hm
  have hm := (ix_elim hm).2
  by_cases c_1 : x2 < (G 78 x1.toNatClampNeg)
  · have hm := (if_pos c_1).symm.trans hm
    exact (cn_X8_formalKind_24 fu x1 x2 F G hm)
  · have hm := (if_neg c_1).symm.trans hm
    exact (cn_X8_formalKind_22 fu F G hm)
theorem cw_X8_formalKind_12 (fu : Nat) {res : Int32 × PF × PG} (C : cMC p R s m args c A v RX8 cX8_formalKind 4 1 21 (xn res.2.1 - xn K0)) (hret : ∀ (b1 : Nat) (H1 : Heap) (locs1 : List Loc) (ls1 : Array Slot) (pc : Nat), cMW s A v a b1 K0 res.2.1 res.2.2 H1 locs1 → narrow .int (.int res.1) = .int res.1 → decode cX8_formalKind pc = .ok (.ireturn, 1) → W p l e R s m args below meth c H1 locs1 (xn res.2.1 - xn K0) (2 * (xn res.2.1 - xn K0)) Q (F0 m pc ls1 [.int res.1])) (x1 : Int32) (x2 : Int32) (F : PF) (G : PG) (hm : cb_X8_formalKind_12 fu x1 x2 F G = some res) {b : Nat} {H : Heap} {locs : List Loc} (hw : cMW s A v a b K0 F G H locs) {ls : Array Slot} (hl : lv_has ls 4 [(0, .ref (a 208)), (1, .int x1), (2, .int x2)]) : W p l e R s m args below meth c H locs (xn F - xn K0) (2 * (xn F - xn K0)) Q (F0 m 12 ls []) := by
  have hx := C.1
  have hb := C.2.1
  unfold cb_X8_formalKind_12 at hm
  refine lv_iload_n hx hb dX8_formalKind_12 rfl (lv_at hl 2 rfl) ?_
  refine lv_aload_n hx hb dX8_formalKind_13 rfl (lv_at hl 0 rfl) ?_
  refine cg_X8_15 C hw dX8_formalKind_14 ?_
  refine lv_iload_n hx hb dX8_formalKind_17 rfl (lv_at hl 1 rfl) ?_
  obtain ⟨hi, hm⟩ := ix_elim hm
  refine cal_78 C hw hi dX8_formalKind_18 ?_
  refine lv_icmp_lt (tgt := 24) hx hb dX8_formalKind_19 (by decide) (fun c_1 => ?_) (fun c_1 => ?_)
  · have hm := (if_pos c_1).symm.trans hm
    exact cw_X8_formalKind_24 fu C hret x1 x2 F G hm hw (lv_sub hl [0, 1, 2] rfl)
  · have hm := (if_neg c_1).symm.trans hm
    exact cw_X8_formalKind_22 fu C hret F G hm hw (lv_sub hl [] rfl)
theorem cn_X8_formalKind_8 (fu : Nat) {res : Int32 × PF × PG} (x1 : Int32) (x2 : Int32) (F : PF) (G : PG) (hm : cb_X8_formalKind_8 fu x1 x2 F G = some res) : xn F ≤ xn res.2.1 := by
  unfold cb_X8_formalKind_8 at hm
  by_cases c_1 : x2 < (0 : Int32)
  · have hm := (if_pos c_1).symm.trans hm
    exact (cn_X8_formalKind_22 fu F G hm)
  · have hm := (if_neg c_1).symm.trans hm
    exact (cn_X8_formalKind_12 fu x1 x2 F G hm)
theorem cw_X8_formalKind_8 (fu : Nat) {res : Int32 × PF × PG} (C : cMC p R s m args c A v RX8 cX8_formalKind 4 1 21 (xn res.2.1 - xn K0)) (hret : ∀ (b1 : Nat) (H1 : Heap) (locs1 : List Loc) (ls1 : Array Slot) (pc : Nat), cMW s A v a b1 K0 res.2.1 res.2.2 H1 locs1 → narrow .int (.int res.1) = .int res.1 → decode cX8_formalKind pc = .ok (.ireturn, 1) → W p l e R s m args below meth c H1 locs1 (xn res.2.1 - xn K0) (2 * (xn res.2.1 - xn K0)) Q (F0 m pc ls1 [.int res.1])) (x1 : Int32) (x2 : Int32) (F : PF) (G : PG) (hm : cb_X8_formalKind_8 fu x1 x2 F G = some res) {b : Nat} {H : Heap} {locs : List Loc} (hw : cMW s A v a b K0 F G H locs) {ls : Array Slot} (hl : lv_has ls 4 [(0, .ref (a 208)), (1, .int x1), (2, .int x2)]) : W p l e R s m args below meth c H locs (xn F - xn K0) (2 * (xn F - xn K0)) Q (F0 m 8 ls []) := by
  have hx := C.1
  have hb := C.2.1
  unfold cb_X8_formalKind_8 at hm
  refine lv_iload_n hx hb dX8_formalKind_8 rfl (lv_at hl 2 rfl) ?_
  refine lv_if_lt (tgt := 22) hx hb dX8_formalKind_9 (by decide) (fun c_1 => ?_) (fun c_1 => ?_)
  · have hm := (if_pos c_1).symm.trans hm
    exact cw_X8_formalKind_22 fu C hret F G hm hw (lv_sub hl [] rfl)
  · have hm := (if_neg c_1).symm.trans hm
    exact cw_X8_formalKind_12 fu C hret x1 x2 F G hm hw (lv_sub hl [0, 1, 2] rfl)
theorem cn_X8_formalKind_5 (fu : Nat) {res : Int32 × PF × PG} (x1 : Int32) (x2 : Int32) (z0 : Int32) (F : PF) (G : PG) (hm : cb_X8_formalKind_5 fu x1 x2 z0 F G = some res) : xn F ≤ xn res.2.1 := by
  unfold cb_X8_formalKind_5 at hm
  by_cases c_1 : z0 = (0 : Int32)
  · have hm := (if_pos c_1).symm.trans hm
    exact (cn_X8_formalKind_22 fu F G hm)
  · have hm := (if_neg c_1).symm.trans hm
    exact (cn_X8_formalKind_8 fu x1 x2 F G hm)
theorem cw_X8_formalKind_5 (fu : Nat) {res : Int32 × PF × PG} (C : cMC p R s m args c A v RX8 cX8_formalKind 4 1 21 (xn res.2.1 - xn K0)) (hret : ∀ (b1 : Nat) (H1 : Heap) (locs1 : List Loc) (ls1 : Array Slot) (pc : Nat), cMW s A v a b1 K0 res.2.1 res.2.2 H1 locs1 → narrow .int (.int res.1) = .int res.1 → decode cX8_formalKind pc = .ok (.ireturn, 1) → W p l e R s m args below meth c H1 locs1 (xn res.2.1 - xn K0) (2 * (xn res.2.1 - xn K0)) Q (F0 m pc ls1 [.int res.1])) (x1 : Int32) (x2 : Int32) (z0 : Int32) (F : PF) (G : PG) (hm : cb_X8_formalKind_5 fu x1 x2 z0 F G = some res) {b : Nat} {H : Heap} {locs : List Loc} (hw : cMW s A v a b K0 F G H locs) {ls : Array Slot} (hl : lv_has ls 4 [(0, .ref (a 208)), (1, .int x1), (2, .int x2)]) : W p l e R s m args below meth c H locs (xn F - xn K0) (2 * (xn F - xn K0)) Q (F0 m 5 ls [.int z0]) := by
  have hx := C.1
  have hb := C.2.1
  unfold cb_X8_formalKind_5 at hm
  refine lv_if_eq (tgt := 22) hx hb dX8_formalKind_5 (by decide) (fun c_1 => ?_) (fun c_1 => ?_)
  · have hm := (if_pos c_1).symm.trans hm
    exact cw_X8_formalKind_22 fu C hret F G hm hw (lv_sub hl [] rfl)
  · have hm := (if_neg c_1).symm.trans hm
    exact cw_X8_formalKind_8 fu C hret x1 x2 F G hm hw (lv_sub hl [0, 1, 2] rfl)
theorem cn_X8_formalKind_0 (fu : Nat) {res : Int32 × PF × PG} (x1 : Int32) (x2 : Int32) (F : PF) (G : PG) (hm : cb_X8_formalKind_0 fu x1 x2 F G = some res) : xn F ≤ xn res.2.1 := by
  unfold cb_X8_formalKind_0 at hm
  obtain ⟨⟨r1, F1, G1⟩, hc, hm⟩ := bind_elim hm
  exact Nat.le_trans (cn_X8_has fu x1 F G _ hc) (cn_X8_formalKind_5 fu x1 x2 r1 F1 G1 hm)
theorem cw_X8_formalKind_0 (fu : Nat) {res : Int32 × PF × PG} (C : cMC p R s m args c A v RX8 cX8_formalKind 4 1 21 (xn res.2.1 - xn K0)) (hret : ∀ (b1 : Nat) (H1 : Heap) (locs1 : List Loc) (ls1 : Array Slot) (pc : Nat), cMW s A v a b1 K0 res.2.1 res.2.2 H1 locs1 → narrow .int (.int res.1) = .int res.1 → decode cX8_formalKind pc = .ok (.ireturn, 1) → W p l e R s m args below meth c H1 locs1 (xn res.2.1 - xn K0) (2 * (xn res.2.1 - xn K0)) Q (F0 m pc ls1 [.int res.1])) (x1 : Int32) (x2 : Int32) (F : PF) (G : PG) (hm : cb_X8_formalKind_0 fu x1 x2 F G = some res) {b : Nat} {H : Heap} {locs : List Loc} (hw : cMW s A v a b K0 F G H locs) {ls : Array Slot} (hl : lv_has ls 4 [(0, .ref (a 208)), (1, .int x1), (2, .int x2)]) : W p l e R s m args below meth c H locs (xn F - xn K0) (2 * (xn F - xn K0)) Q (F0 m 0 ls []) := by
  have hx := C.1
  have hb := C.2.1
  unfold cb_X8_formalKind_0 at hm
  refine lv_aload_n hx hb dX8_formalKind_0 rfl (lv_at hl 0 rfl) ?_
  refine lv_iload_n hx hb dX8_formalKind_1 rfl (lv_at hl 1 rfl) ?_
  obtain ⟨⟨r1, F1, G1⟩, hc, hm⟩ := bind_elim hm
  refine ccallI (n := 1) (As := [.int x1]) (rest := []) C hw (ck_X8_has l v a _ _ fu x1 F G r1 F1 G1 hc) (cn_X8_has fu x1 F G _ hc) (Nat.sub_le_sub_right (cn_X8_formalKind_5 fu x1 x2 r1 F1 G1 hm) _) (crecv_X8 C hw) cm_404 cm_405 cm_406 cm_254 cm_407 (by decide +kernel) rfl (by omega) (by omega) hl.1 rfl (Nat.le_of_ble_eq_true rfl) dX8_formalKind_2 (fun b H locs hw => ?_)
  exact cw_X8_formalKind_5 fu C hret x1 x2 r1 F1 G1 hm hw (lv_sub hl [0, 1, 2] rfl)
theorem cn_X8_formalKind (fu : Nat) (x1 : Int32) (x2 : Int32) (F : PF) (G : PG) (q : Int32 × PF × PG) (hm : cf_X8_formalKind fu x1 x2 F G = some q) : xn F ≤ xn q.2.1 := cn_X8_formalKind_0 fu x1 x2 F G hm
theorem ck_X8_formalKind (l : Launch) (v : EV) (a : Nat → Nat) (b sz : Nat) (fu : Nat) (x1 : Int32) (x2 : Int32) (F : PF) (G : PG) (r : Int32) (F1 : PF) (G1 : PG) (hm : cf_X8_formalKind fu x1 x2 F G = some (r, F1, G1)) : cMI l yX8_formalKind cX8_formalKind 4 (some .int) 1 21 v a b sz [.ref (a 208), .int x1, .int x2] F G r F1 G1 := cMI.of (ty := .int) (by decide) rfl (Nat.le_of_ble_eq_true rfl) (fun p e R s m args below meth c Q A H locs ls C hw hl hret => cw_X8_formalKind_0 fu (res := (r, F1, G1)) C hret x1 x2 F G hm hw hl)
def cb_X5_kind_22 (fu : Nat) (z0 : Int32) (F : PF) (G : PG) : PR := some (z0, F, G)
def cb_X5_kind_12 (fu : Nat) (F : PF) (G : PG) : PR := cb_X5_kind_22 fu (-1) F G
def cb_X5_kind_16 (fu : Nat) (x1 : Int32) (F : PF) (G : PG) : PR := if ixb x1 700 = true then (cb_X5_kind_22 fu (G 35 x1.toNatClampNeg) F G) else none
def cb_X5_kind_4 (fu : Nat) (x1 : Int32) (F : PF) (G : PG) : PR := if x1 < (F 41) then cb_X5_kind_16 fu x1 F G else cb_X5_kind_12 fu F G
def cb_X5_kind_0 (fu : Nat) (x1 : Int32) (F : PF) (G : PG) : PR := if x1 < (0 : Int32) then cb_X5_kind_12 fu F G else cb_X5_kind_4 fu x1 F G
def cf_X5_kind (fu : Nat) (x1 : Int32) (F : PF) (G : PG) : PR := cb_X5_kind_0 fu x1 F G
theorem cn_X5_kind_22 (fu : Nat) {res : Int32 × PF × PG} (z0 : Int32) (F : PF) (G : PG) (hm : cb_X5_kind_22 fu z0 F G = some res) : xn F ≤ xn res.2.1 := by
  unfold cb_X5_kind_22 at hm
  obtain rfl := Option.some.inj hm
  exact Nat.le_refl _
theorem cw_X5_kind_22 (fu : Nat) {res : Int32 × PF × PG} (C : cMC p R s m args c A v RX5 cX5_kind 2 0 0 (xn res.2.1 - xn K0)) (hret : ∀ (b1 : Nat) (H1 : Heap) (locs1 : List Loc) (ls1 : Array Slot) (pc : Nat), cMW s A v a b1 K0 res.2.1 res.2.2 H1 locs1 → narrow .int (.int res.1) = .int res.1 → decode cX5_kind pc = .ok (.ireturn, 1) → W p l e R s m args below meth c H1 locs1 (xn res.2.1 - xn K0) (2 * (xn res.2.1 - xn K0)) Q (F0 m pc ls1 [.int res.1])) (z0 : Int32) (F : PF) (G : PG) (hm : cb_X5_kind_22 fu z0 F G = some res) {b : Nat} {H : Heap} {locs : List Loc} (hw : cMW s A v a b K0 F G H locs) {ls : Array Slot} (hl : lv_has ls 2 []) : W p l e R s m args below meth c H locs (xn F - xn K0) (2 * (xn F - xn K0)) Q (F0 m 22 ls [.int z0]) := by
  have hx := C.1
  have hb := C.2.1
  unfold cb_X5_kind_22 at hm
  obtain rfl := Option.some.inj hm
  exact hret _ _ _ _ _ hw rfl dX5_kind_22
theorem cn_X5_kind_12 (fu : Nat) {res : Int32 × PF × PG} (F : PF) (G : PG) (hm : cb_X5_kind_12 fu F G = some res) : xn F ≤ xn res.2.1 := by
  unfold cb_X5_kind_12 at hm
  exact (cn_X5_kind_22 fu (-1) F G hm)
theorem cw_X5_kind_12 (fu : Nat) {res : Int32 × PF × PG} (C : cMC p R s m args c A v RX5 cX5_kind 2 0 0 (xn res.2.1 - xn K0)) (hret : ∀ (b1 : Nat) (H1 : Heap) (locs1 : List Loc) (ls1 : Array Slot) (pc : Nat), cMW s A v a b1 K0 res.2.1 res.2.2 H1 locs1 → narrow .int (.int res.1) = .int res.1 → decode cX5_kind pc = .ok (.ireturn, 1) → W p l e R s m args below meth c H1 locs1 (xn res.2.1 - xn K0) (2 * (xn res.2.1 - xn K0)) Q (F0 m pc ls1 [.int res.1])) (F : PF) (G : PG) (hm : cb_X5_kind_12 fu F G = some res) {b : Nat} {H : Heap} {locs : List Loc} (hw : cMW s A v a b K0 F G H locs) {ls : Array Slot} (hl : lv_has ls 2 []) : W p l e R s m args below meth c H locs (xn F - xn K0) (2 * (xn F - xn K0)) Q (F0 m 12 ls []) := by
  have hx := C.1
  have hb := C.2.1
  unfold cb_X5_kind_12 at hm
  refine lv_iconst (v := (-1)) hx hb dX5_kind_12 (by decide) ?_
  refine lv_goto (tgt := 22) hx hb dX5_kind_13 (by decide) ?_
  exact cw_X5_kind_22 fu C hret (-1) F G hm hw (lv_sub hl [] rfl)
theorem cn_X5_kind_16 (fu : Nat) {res : Int32 × PF × PG} (x1 : Int32) (F : PF) (G : PG) (hm : cb_X5_kind_16 fu x1 F G = some res) : xn F ≤ xn res.2.1 := by
  unfold cb_X5_kind_16 at hm
  have hm := (ix_elim hm).2
  exact (cn_X5_kind_22 fu (G 35 x1.toNatClampNeg) F G hm)
theorem cw_X5_kind_16 (fu : Nat) {res : Int32 × PF × PG} (C : cMC p R s m args c A v RX5 cX5_kind 2 0 0 (xn res.2.1 - xn K0)) (hret : ∀ (b1 : Nat) (H1 : Heap) (locs1 : List Loc) (ls1 : Array Slot) (pc : Nat), cMW s A v a b1 K0 res.2.1 res.2.2 H1 locs1 → narrow .int (.int res.1) = .int res.1 → decode cX5_kind pc = .ok (.ireturn, 1) → W p l e R s m args below meth c H1 locs1 (xn res.2.1 - xn K0) (2 * (xn res.2.1 - xn K0)) Q (F0 m pc ls1 [.int res.1])) (x1 : Int32) (F : PF) (G : PG) (hm : cb_X5_kind_16 fu x1 F G = some res) {b : Nat} {H : Heap} {locs : List Loc} (hw : cMW s A v a b K0 F G H locs) {ls : Array Slot} (hl : lv_has ls 2 [(0, .ref (a 205)), (1, .int x1)]) : W p l e R s m args below meth c H locs (xn F - xn K0) (2 * (xn F - xn K0)) Q (F0 m 16 ls []) := by
  have hx := C.1
  have hb := C.2.1
  unfold cb_X5_kind_16 at hm
  refine lv_aload_n hx hb dX5_kind_16 rfl (lv_at hl 0 rfl) ?_
  refine cg_X5_18 C hw dX5_kind_17 ?_
  refine lv_iload_n hx hb dX5_kind_20 rfl (lv_at hl 1 rfl) ?_
  obtain ⟨hi, hm⟩ := ix_elim hm
  refine cal_35 C hw hi dX5_kind_21 ?_
  exact cw_X5_kind_22 fu C hret (G 35 x1.toNatClampNeg) F G hm hw (lv_sub hl [] rfl)
theorem cn_X5_kind_4 (fu : Nat) {res : Int32 × PF × PG} (x1 : Int32) (F : PF) (G : PG) (hm : cb_X5_kind_4 fu x1 F G = some res) : xn F ≤ xn res.2.1 := by
  unfold cb_X5_kind_4 at hm
  by_cases c_1 : x1 < (F 41)
  · have hm := (if_pos c_1).symm.trans hm
    exact (cn_X5_kind_16 fu x1 F G hm)
  · have hm := (if_neg c_1).symm.trans hm
    exact (cn_X5_kind_12 fu F G hm)
theorem cw_X5_kind_4 (fu : Nat) {res : Int32 × PF × PG} (C : cMC p R s m args c A v RX5 cX5_kind 2 0 0 (xn res.2.1 - xn K0)) (hret : ∀ (b1 : Nat) (H1 : Heap) (locs1 : List Loc) (ls1 : Array Slot) (pc : Nat), cMW s A v a b1 K0 res.2.1 res.2.2 H1 locs1 → narrow .int (.int res.1) = .int res.1 → decode cX5_kind pc = .ok (.ireturn, 1) → W p l e R s m args below meth c H1 locs1 (xn res.2.1 - xn K0) (2 * (xn res.2.1 - xn K0)) Q (F0 m pc ls1 [.int res.1])) (x1 : Int32) (F : PF) (G : PG) (hm : cb_X5_kind_4 fu x1 F G = some res) {b : Nat} {H : Heap} {locs : List Loc} (hw : cMW s A v a b K0 F G H locs) {ls : Array Slot} (hl : lv_has ls 2 [(0, .ref (a 205)), (1, .int x1)]) : W p l e R s m args below meth c H locs (xn F - xn K0) (2 * (xn F - xn K0)) Q (F0 m 4 ls []) := by
  have hx := C.1
  have hb := C.2.1
  unfold cb_X5_kind_4 at hm
  refine lv_iload_n hx hb dX5_kind_4 rfl (lv_at hl 1 rfl) ?_
  refine lv_aload_n hx hb dX5_kind_5 rfl (lv_at hl 0 rfl) ?_
  refine cg_X5_40 C hw dX5_kind_6 ?_
  refine lv_icmp_lt (tgt := 16) hx hb dX5_kind_9 (by decide) (fun c_1 => ?_) (fun c_1 => ?_)
  · have hm := (if_pos c_1).symm.trans hm
    exact cw_X5_kind_16 fu C hret x1 F G hm hw (lv_sub hl [0, 1] rfl)
  · have hm := (if_neg c_1).symm.trans hm
    exact cw_X5_kind_12 fu C hret F G hm hw (lv_sub hl [] rfl)
theorem cn_X5_kind_0 (fu : Nat) {res : Int32 × PF × PG} (x1 : Int32) (F : PF) (G : PG) (hm : cb_X5_kind_0 fu x1 F G = some res) : xn F ≤ xn res.2.1 := by
  unfold cb_X5_kind_0 at hm
  by_cases c_1 : x1 < (0 : Int32)
  · have hm := (if_pos c_1).symm.trans hm
    exact (cn_X5_kind_12 fu F G hm)
  · have hm := (if_neg c_1).symm.trans hm
    exact (cn_X5_kind_4 fu x1 F G hm)
theorem cw_X5_kind_0 (fu : Nat) {res : Int32 × PF × PG} (C : cMC p R s m args c A v RX5 cX5_kind 2 0 0 (xn res.2.1 - xn K0)) (hret : ∀ (b1 : Nat) (H1 : Heap) (locs1 : List Loc) (ls1 : Array Slot) (pc : Nat), cMW s A v a b1 K0 res.2.1 res.2.2 H1 locs1 → narrow .int (.int res.1) = .int res.1 → decode cX5_kind pc = .ok (.ireturn, 1) → W p l e R s m args below meth c H1 locs1 (xn res.2.1 - xn K0) (2 * (xn res.2.1 - xn K0)) Q (F0 m pc ls1 [.int res.1])) (x1 : Int32) (F : PF) (G : PG) (hm : cb_X5_kind_0 fu x1 F G = some res) {b : Nat} {H : Heap} {locs : List Loc} (hw : cMW s A v a b K0 F G H locs) {ls : Array Slot} (hl : lv_has ls 2 [(0, .ref (a 205)), (1, .int x1)]) : W p l e R s m args below meth c H locs (xn F - xn K0) (2 * (xn F - xn K0)) Q (F0 m 0 ls []) := by
  have hx := C.1
  have hb := C.2.1
  unfold cb_X5_kind_0 at hm
  refine lv_iload_n hx hb dX5_kind_0 rfl (lv_at hl 1 rfl) ?_
  refine lv_if_lt (tgt := 12) hx hb dX5_kind_1 (by decide) (fun c_1 => ?_) (fun c_1 => ?_)
  · have hm := (if_pos c_1).symm.trans hm
    exact cw_X5_kind_12 fu C hret F G hm hw (lv_sub hl [] rfl)
  · have hm := (if_neg c_1).symm.trans hm
    exact cw_X5_kind_4 fu C hret x1 F G hm hw (lv_sub hl [0, 1] rfl)
theorem cn_X5_kind (fu : Nat) (x1 : Int32) (F : PF) (G : PG) (q : Int32 × PF × PG) (hm : cf_X5_kind fu x1 F G = some q) : xn F ≤ xn q.2.1 := cn_X5_kind_0 fu x1 F G hm
theorem ck_X5_kind (l : Launch) (v : EV) (a : Nat → Nat) (b sz : Nat) (fu : Nat) (x1 : Int32) (F : PF) (G : PG) (r : Int32) (F1 : PF) (G1 : PG) (hm : cf_X5_kind fu x1 F G = some (r, F1, G1)) : cMI l yX5_kind cX5_kind 2 (some .int) 0 0 v a b sz [.ref (a 205), .int x1] F G r F1 G1 := cMI.of (ty := .int) (by decide) rfl (Nat.le_of_ble_eq_true rfl) (fun p e R s m args below meth c Q A H locs ls C hw hl hret => cw_X5_kind_0 fu (res := (r, F1, G1)) C hret x1 F G hm hw hl)
def cb_X5_value_22 (fu : Nat) (z0 : Int32) (F : PF) (G : PG) : PR := some (z0, F, G)
def cb_X5_value_12 (fu : Nat) (F : PF) (G : PG) : PR := cb_X5_value_22 fu 0 F G
def cb_X5_value_16 (fu : Nat) (x1 : Int32) (F : PF) (G : PG) : PR := if ixb x1 700 = true then (cb_X5_value_22 fu (G 37 x1.toNatClampNeg) F G) else none
def cb_X5_value_4 (fu : Nat) (x1 : Int32) (F : PF) (G : PG) : PR := if x1 < (F 41) then cb_X5_value_16 fu x1 F G else cb_X5_value_12 fu F G
def cb_X5_value_0 (fu : Nat) (x1 : Int32) (F : PF) (G : PG) : PR := if x1 < (0 : Int32) then cb_X5_value_12 fu F G else cb_X5_value_4 fu x1 F G
def cf_X5_value (fu : Nat) (x1 : Int32) (F : PF) (G : PG) : PR := cb_X5_value_0 fu x1 F G
theorem cn_X5_value_22 (fu : Nat) {res : Int32 × PF × PG} (z0 : Int32) (F : PF) (G : PG) (hm : cb_X5_value_22 fu z0 F G = some res) : xn F ≤ xn res.2.1 := by
  unfold cb_X5_value_22 at hm
  obtain rfl := Option.some.inj hm
  exact Nat.le_refl _
theorem cw_X5_value_22 (fu : Nat) {res : Int32 × PF × PG} (C : cMC p R s m args c A v RX5 cX5_value 2 0 0 (xn res.2.1 - xn K0)) (hret : ∀ (b1 : Nat) (H1 : Heap) (locs1 : List Loc) (ls1 : Array Slot) (pc : Nat), cMW s A v a b1 K0 res.2.1 res.2.2 H1 locs1 → narrow .int (.int res.1) = .int res.1 → decode cX5_value pc = .ok (.ireturn, 1) → W p l e R s m args below meth c H1 locs1 (xn res.2.1 - xn K0) (2 * (xn res.2.1 - xn K0)) Q (F0 m pc ls1 [.int res.1])) (z0 : Int32) (F : PF) (G : PG) (hm : cb_X5_value_22 fu z0 F G = some res) {b : Nat} {H : Heap} {locs : List Loc} (hw : cMW s A v a b K0 F G H locs) {ls : Array Slot} (hl : lv_has ls 2 []) : W p l e R s m args below meth c H locs (xn F - xn K0) (2 * (xn F - xn K0)) Q (F0 m 22 ls [.int z0]) := by
  have hx := C.1
  have hb := C.2.1
  unfold cb_X5_value_22 at hm
  obtain rfl := Option.some.inj hm
  exact hret _ _ _ _ _ hw rfl dX5_value_22
theorem cn_X5_value_12 (fu : Nat) {res : Int32 × PF × PG} (F : PF) (G : PG) (hm : cb_X5_value_12 fu F G = some res) : xn F ≤ xn res.2.1 := by
  unfold cb_X5_value_12 at hm
  exact (cn_X5_value_22 fu 0 F G hm)
theorem cw_X5_value_12 (fu : Nat) {res : Int32 × PF × PG} (C : cMC p R s m args c A v RX5 cX5_value 2 0 0 (xn res.2.1 - xn K0)) (hret : ∀ (b1 : Nat) (H1 : Heap) (locs1 : List Loc) (ls1 : Array Slot) (pc : Nat), cMW s A v a b1 K0 res.2.1 res.2.2 H1 locs1 → narrow .int (.int res.1) = .int res.1 → decode cX5_value pc = .ok (.ireturn, 1) → W p l e R s m args below meth c H1 locs1 (xn res.2.1 - xn K0) (2 * (xn res.2.1 - xn K0)) Q (F0 m pc ls1 [.int res.1])) (F : PF) (G : PG) (hm : cb_X5_value_12 fu F G = some res) {b : Nat} {H : Heap} {locs : List Loc} (hw : cMW s A v a b K0 F G H locs) {ls : Array Slot} (hl : lv_has ls 2 []) : W p l e R s m args below meth c H locs (xn F - xn K0) (2 * (xn F - xn K0)) Q (F0 m 12 ls []) := by
  have hx := C.1
  have hb := C.2.1
  unfold cb_X5_value_12 at hm
  refine lv_iconst (v := 0) hx hb dX5_value_12 (by decide) ?_
  refine lv_goto (tgt := 22) hx hb dX5_value_13 (by decide) ?_
  exact cw_X5_value_22 fu C hret 0 F G hm hw (lv_sub hl [] rfl)
theorem cn_X5_value_16 (fu : Nat) {res : Int32 × PF × PG} (x1 : Int32) (F : PF) (G : PG) (hm : cb_X5_value_16 fu x1 F G = some res) : xn F ≤ xn res.2.1 := by
  unfold cb_X5_value_16 at hm
  have hm := (ix_elim hm).2
  exact (cn_X5_value_22 fu (G 37 x1.toNatClampNeg) F G hm)
theorem cw_X5_value_16 (fu : Nat) {res : Int32 × PF × PG} (C : cMC p R s m args c A v RX5 cX5_value 2 0 0 (xn res.2.1 - xn K0)) (hret : ∀ (b1 : Nat) (H1 : Heap) (locs1 : List Loc) (ls1 : Array Slot) (pc : Nat), cMW s A v a b1 K0 res.2.1 res.2.2 H1 locs1 → narrow .int (.int res.1) = .int res.1 → decode cX5_value pc = .ok (.ireturn, 1) → W p l e R s m args below meth c H1 locs1 (xn res.2.1 - xn K0) (2 * (xn res.2.1 - xn K0)) Q (F0 m pc ls1 [.int res.1])) (x1 : Int32) (F : PF) (G : PG) (hm : cb_X5_value_16 fu x1 F G = some res) {b : Nat} {H : Heap} {locs : List Loc} (hw : cMW s A v a b K0 F G H locs) {ls : Array Slot} (hl : lv_has ls 2 [(0, .ref (a 205)), (1, .int x1)]) : W p l e R s m args below meth c H locs (xn F - xn K0) (2 * (xn F - xn K0)) Q (F0 m 16 ls []) := by
  have hx := C.1
  have hb := C.2.1
  unfold cb_X5_value_16 at hm
  refine lv_aload_n hx hb dX5_value_16 rfl (lv_at hl 0 rfl) ?_
  refine cg_X5_24 C hw dX5_value_17 ?_
  refine lv_iload_n hx hb dX5_value_20 rfl (lv_at hl 1 rfl) ?_
  obtain ⟨hi, hm⟩ := ix_elim hm
  refine cal_37 C hw hi dX5_value_21 ?_
  exact cw_X5_value_22 fu C hret (G 37 x1.toNatClampNeg) F G hm hw (lv_sub hl [] rfl)
theorem cn_X5_value_4 (fu : Nat) {res : Int32 × PF × PG} (x1 : Int32) (F : PF) (G : PG) (hm : cb_X5_value_4 fu x1 F G = some res) : xn F ≤ xn res.2.1 := by
  unfold cb_X5_value_4 at hm
  by_cases c_1 : x1 < (F 41)
  · have hm := (if_pos c_1).symm.trans hm
    exact (cn_X5_value_16 fu x1 F G hm)
  · have hm := (if_neg c_1).symm.trans hm
    exact (cn_X5_value_12 fu F G hm)
theorem cw_X5_value_4 (fu : Nat) {res : Int32 × PF × PG} (C : cMC p R s m args c A v RX5 cX5_value 2 0 0 (xn res.2.1 - xn K0)) (hret : ∀ (b1 : Nat) (H1 : Heap) (locs1 : List Loc) (ls1 : Array Slot) (pc : Nat), cMW s A v a b1 K0 res.2.1 res.2.2 H1 locs1 → narrow .int (.int res.1) = .int res.1 → decode cX5_value pc = .ok (.ireturn, 1) → W p l e R s m args below meth c H1 locs1 (xn res.2.1 - xn K0) (2 * (xn res.2.1 - xn K0)) Q (F0 m pc ls1 [.int res.1])) (x1 : Int32) (F : PF) (G : PG) (hm : cb_X5_value_4 fu x1 F G = some res) {b : Nat} {H : Heap} {locs : List Loc} (hw : cMW s A v a b K0 F G H locs) {ls : Array Slot} (hl : lv_has ls 2 [(0, .ref (a 205)), (1, .int x1)]) : W p l e R s m args below meth c H locs (xn F - xn K0) (2 * (xn F - xn K0)) Q (F0 m 4 ls []) := by
  have hx := C.1
  have hb := C.2.1
  unfold cb_X5_value_4 at hm
  refine lv_iload_n hx hb dX5_value_4 rfl (lv_at hl 1 rfl) ?_
  refine lv_aload_n hx hb dX5_value_5 rfl (lv_at hl 0 rfl) ?_
  refine cg_X5_40 C hw dX5_value_6 ?_
  refine lv_icmp_lt (tgt := 16) hx hb dX5_value_9 (by decide) (fun c_1 => ?_) (fun c_1 => ?_)
  · have hm := (if_pos c_1).symm.trans hm
    exact cw_X5_value_16 fu C hret x1 F G hm hw (lv_sub hl [0, 1] rfl)
  · have hm := (if_neg c_1).symm.trans hm
    exact cw_X5_value_12 fu C hret F G hm hw (lv_sub hl [] rfl)
theorem cn_X5_value_0 (fu : Nat) {res : Int32 × PF × PG} (x1 : Int32) (F : PF) (G : PG) (hm : cb_X5_value_0 fu x1 F G = some res) : xn F ≤ xn res.2.1 := by
  unfold cb_X5_value_0 at hm
  by_cases c_1 : x1 < (0 : Int32)
  · have hm := (if_pos c_1).symm.trans hm
    exact (cn_X5_value_12 fu F G hm)
  · have hm := (if_neg c_1).symm.trans hm
    exact (cn_X5_value_4 fu x1 F G hm)
theorem cw_X5_value_0 (fu : Nat) {res : Int32 × PF × PG} (C : cMC p R s m args c A v RX5 cX5_value 2 0 0 (xn res.2.1 - xn K0)) (hret : ∀ (b1 : Nat) (H1 : Heap) (locs1 : List Loc) (ls1 : Array Slot) (pc : Nat), cMW s A v a b1 K0 res.2.1 res.2.2 H1 locs1 → narrow .int (.int res.1) = .int res.1 → decode cX5_value pc = .ok (.ireturn, 1) → W p l e R s m args below meth c H1 locs1 (xn res.2.1 - xn K0) (2 * (xn res.2.1 - xn K0)) Q (F0 m pc ls1 [.int res.1])) (x1 : Int32) (F : PF) (G : PG) (hm : cb_X5_value_0 fu x1 F G = some res) {b : Nat} {H : Heap} {locs : List Loc} (hw : cMW s A v a b K0 F G H locs) {ls : Array Slot} (hl : lv_has ls 2 [(0, .ref (a 205)), (1, .int x1)]) : W p l e R s m args below meth c H locs (xn F - xn K0) (2 * (xn F - xn K0)) Q (F0 m 0 ls []) := by
  have hx := C.1
  have hb := C.2.1
  unfold cb_X5_value_0 at hm
  refine lv_iload_n hx hb dX5_value_0 rfl (lv_at hl 1 rfl) ?_
  refine lv_if_lt (tgt := 12) hx hb dX5_value_1 (by decide) (fun c_1 => ?_) (fun c_1 => ?_)
  · have hm := (if_pos c_1).symm.trans hm
    exact cw_X5_value_12 fu C hret F G hm hw (lv_sub hl [] rfl)
  · have hm := (if_neg c_1).symm.trans hm
    exact cw_X5_value_4 fu C hret x1 F G hm hw (lv_sub hl [0, 1] rfl)
theorem cn_X5_value (fu : Nat) (x1 : Int32) (F : PF) (G : PG) (q : Int32 × PF × PG) (hm : cf_X5_value fu x1 F G = some q) : xn F ≤ xn q.2.1 := cn_X5_value_0 fu x1 F G hm
theorem ck_X5_value (l : Launch) (v : EV) (a : Nat → Nat) (b sz : Nat) (fu : Nat) (x1 : Int32) (F : PF) (G : PG) (r : Int32) (F1 : PF) (G1 : PG) (hm : cf_X5_value fu x1 F G = some (r, F1, G1)) : cMI l yX5_value cX5_value 2 (some .int) 0 0 v a b sz [.ref (a 205), .int x1] F G r F1 G1 := cMI.of (ty := .int) (by decide) rfl (Nat.le_of_ble_eq_true rfl) (fun p e R s m args below meth c Q A H locs ls C hw hl hret => cw_X5_value_0 fu (res := (r, F1, G1)) C hret x1 F G hm hw hl)
def cb_X5_isGlobal_26 (fu : Nat) (z0 : Int32) (F : PF) (G : PG) : PR := if b01 z0 = true then (some (z0, F, G)) else none
def cb_X5_isGlobal_25 (fu : Nat) (F : PF) (G : PG) : PR := cb_X5_isGlobal_26 fu 0 F G
def cb_X5_isGlobal_21 (fu : Nat) (F : PF) (G : PG) : PR := cb_X5_isGlobal_26 fu 1 F G
def cb_X5_isGlobal_12 (fu : Nat) (x1 : Int32) (F : PF) (G : PG) : PR := if ixb x1 700 = true then (if (G 34 x1.toNatClampNeg) = (0 : Int32) then cb_X5_isGlobal_21 fu F G else cb_X5_isGlobal_25 fu F G) else none
def cb_X5_isGlobal_4 (fu : Nat) (x1 : Int32) (F : PF) (G : PG) : PR := if (F 41) ≤ x1 then cb_X5_isGlobal_25 fu F G else cb_X5_isGlobal_12 fu x1 F G
def cb_X5_isGlobal_0 (fu : Nat) (x1 : Int32) (F : PF) (G : PG) : PR := if x1 < (0 : Int32) then cb_X5_isGlobal_25 fu F G else cb_X5_isGlobal_4 fu x1 F G
def cf_X5_isGlobal (fu : Nat) (x1 : Int32) (F : PF) (G : PG) : PR := cb_X5_isGlobal_0 fu x1 F G
theorem cn_X5_isGlobal_26 (fu : Nat) {res : Int32 × PF × PG} (z0 : Int32) (F : PF) (G : PG) (hm : cb_X5_isGlobal_26 fu z0 F G = some res) : xn F ≤ xn res.2.1 := by
  unfold cb_X5_isGlobal_26 at hm
  have hm := (b01_elim hm).2
  obtain rfl := Option.some.inj hm
  exact Nat.le_refl _
theorem cw_X5_isGlobal_26 (fu : Nat) {res : Int32 × PF × PG} (C : cMC p R s m args c A v RX5 cX5_isGlobal 2 0 0 (xn res.2.1 - xn K0)) (hret : ∀ (b1 : Nat) (H1 : Heap) (locs1 : List Loc) (ls1 : Array Slot) (pc : Nat), cMW s A v a b1 K0 res.2.1 res.2.2 H1 locs1 → narrow .boolean (.int res.1) = .int res.1 → decode cX5_isGlobal pc = .ok (.ireturn, 1) → W p l e R s m args below meth c H1 locs1 (xn res.2.1 - xn K0) (2 * (xn res.2.1 - xn K0)) Q (F0 m pc ls1 [.int res.1])) (z0 : Int32) (F : PF) (G : PG) (hm : cb_X5_isGlobal_26 fu z0 F G = some res) {b : Nat} {H : Heap} {locs : List Loc} (hw : cMW s A v a b K0 F G H locs) {ls : Array Slot} (hl : lv_has ls 2 []) : W p l e R s m args below meth c H locs (xn F - xn K0) (2 * (xn F - xn K0)) Q (F0 m 26 ls [.int z0]) := by
  have hx := C.1
  have hb := C.2.1
  unfold cb_X5_isGlobal_26 at hm
  obtain ⟨hz, hm⟩ := b01_elim hm
  obtain rfl := Option.some.inj hm
  exact hret _ _ _ _ _ hw (b01_nar hz) dX5_isGlobal_26
theorem cn_X5_isGlobal_25 (fu : Nat) {res : Int32 × PF × PG} (F : PF) (G : PG) (hm : cb_X5_isGlobal_25 fu F G = some res) : xn F ≤ xn res.2.1 := by
  unfold cb_X5_isGlobal_25 at hm
  exact (cn_X5_isGlobal_26 fu 0 F G hm)
theorem cw_X5_isGlobal_25 (fu : Nat) {res : Int32 × PF × PG} (C : cMC p R s m args c A v RX5 cX5_isGlobal 2 0 0 (xn res.2.1 - xn K0)) (hret : ∀ (b1 : Nat) (H1 : Heap) (locs1 : List Loc) (ls1 : Array Slot) (pc : Nat), cMW s A v a b1 K0 res.2.1 res.2.2 H1 locs1 → narrow .boolean (.int res.1) = .int res.1 → decode cX5_isGlobal pc = .ok (.ireturn, 1) → W p l e R s m args below meth c H1 locs1 (xn res.2.1 - xn K0) (2 * (xn res.2.1 - xn K0)) Q (F0 m pc ls1 [.int res.1])) (F : PF) (G : PG) (hm : cb_X5_isGlobal_25 fu F G = some res) {b : Nat} {H : Heap} {locs : List Loc} (hw : cMW s A v a b K0 F G H locs) {ls : Array Slot} (hl : lv_has ls 2 []) : W p l e R s m args below meth c H locs (xn F - xn K0) (2 * (xn F - xn K0)) Q (F0 m 25 ls []) := by
  have hx := C.1
  have hb := C.2.1
  unfold cb_X5_isGlobal_25 at hm
  refine lv_iconst (v := 0) hx hb dX5_isGlobal_25 (by decide) ?_
  exact cw_X5_isGlobal_26 fu C hret 0 F G hm hw (lv_sub hl [] rfl)
theorem cn_X5_isGlobal_21 (fu : Nat) {res : Int32 × PF × PG} (F : PF) (G : PG) (hm : cb_X5_isGlobal_21 fu F G = some res) : xn F ≤ xn res.2.1 := by
  unfold cb_X5_isGlobal_21 at hm
  exact (cn_X5_isGlobal_26 fu 1 F G hm)
theorem cw_X5_isGlobal_21 (fu : Nat) {res : Int32 × PF × PG} (C : cMC p R s m args c A v RX5 cX5_isGlobal 2 0 0 (xn res.2.1 - xn K0)) (hret : ∀ (b1 : Nat) (H1 : Heap) (locs1 : List Loc) (ls1 : Array Slot) (pc : Nat), cMW s A v a b1 K0 res.2.1 res.2.2 H1 locs1 → narrow .boolean (.int res.1) = .int res.1 → decode cX5_isGlobal pc = .ok (.ireturn, 1) → W p l e R s m args below meth c H1 locs1 (xn res.2.1 - xn K0) (2 * (xn res.2.1 - xn K0)) Q (F0 m pc ls1 [.int res.1])) (F : PF) (G : PG) (hm : cb_X5_isGlobal_21 fu F G = some res) {b : Nat} {H : Heap} {locs : List Loc} (hw : cMW s A v a b K0 F G H locs) {ls : Array Slot} (hl : lv_has ls 2 []) : W p l e R s m args below meth c H locs (xn F - xn K0) (2 * (xn F - xn K0)) Q (F0 m 21 ls []) := by
  have hx := C.1
  have hb := C.2.1
  unfold cb_X5_isGlobal_21 at hm
  refine lv_iconst (v := 1) hx hb dX5_isGlobal_21 (by decide) ?_
  refine lv_goto (tgt := 26) hx hb dX5_isGlobal_22 (by decide) ?_
  exact cw_X5_isGlobal_26 fu C hret 1 F G hm hw (lv_sub hl [] rfl)
theorem cn_X5_isGlobal_12 (fu : Nat) {res : Int32 × PF × PG} (x1 : Int32) (F : PF) (G : PG) (hm : cb_X5_isGlobal_12 fu x1 F G = some res) : xn F ≤ xn res.2.1 := by
  unfold cb_X5_isGlobal_12 at hm
  have hm := (ix_elim hm).2
  by_cases c_1 : (G 34 x1.toNatClampNeg) = (0 : Int32)
  · have hm := (if_pos c_1).symm.trans hm
    exact (cn_X5_isGlobal_21 fu F G hm)
  · have hm := (if_neg c_1).symm.trans hm
    exact (cn_X5_isGlobal_25 fu F G hm)
theorem cw_X5_isGlobal_12 (fu : Nat) {res : Int32 × PF × PG} (C : cMC p R s m args c A v RX5 cX5_isGlobal 2 0 0 (xn res.2.1 - xn K0)) (hret : ∀ (b1 : Nat) (H1 : Heap) (locs1 : List Loc) (ls1 : Array Slot) (pc : Nat), cMW s A v a b1 K0 res.2.1 res.2.2 H1 locs1 → narrow .boolean (.int res.1) = .int res.1 → decode cX5_isGlobal pc = .ok (.ireturn, 1) → W p l e R s m args below meth c H1 locs1 (xn res.2.1 - xn K0) (2 * (xn res.2.1 - xn K0)) Q (F0 m pc ls1 [.int res.1])) (x1 : Int32) (F : PF) (G : PG) (hm : cb_X5_isGlobal_12 fu x1 F G = some res) {b : Nat} {H : Heap} {locs : List Loc} (hw : cMW s A v a b K0 F G H locs) {ls : Array Slot} (hl : lv_has ls 2 [(0, .ref (a 205)), (1, .int x1)]) : W p l e R s m args below meth c H locs (xn F - xn K0) (2 * (xn F - xn K0)) Q (F0 m 12 ls []) := by
  have hx := C.1
  have hb := C.2.1
  unfold cb_X5_isGlobal_12 at hm
  refine lv_aload_n hx hb dX5_isGlobal_12 rfl (lv_at hl 0 rfl) ?_
  refine cg_X5_15 C hw dX5_isGlobal_13 ?_
  refine lv_iload_n hx hb dX5_isGlobal_16 rfl (lv_at hl 1 rfl) ?_
  obtain ⟨hi, hm⟩ := ix_elim hm
  refine cal_34 C hw hi dX5_isGlobal_17 ?_
  refine lv_if_ne (tgt := 25) hx hb dX5_isGlobal_18 (by decide) (fun c_1 => ?_) (fun c_1 => ?_)
  · have hm := (if_neg c_1).symm.trans hm
    exact cw_X5_isGlobal_25 fu C hret F G hm hw (lv_sub hl [] rfl)
  · have hm := (if_pos c_1).symm.trans hm
    exact cw_X5_isGlobal_21 fu C hret F G hm hw (lv_sub hl [] rfl)
theorem cn_X5_isGlobal_4 (fu : Nat) {res : Int32 × PF × PG} (x1 : Int32) (F : PF) (G : PG) (hm : cb_X5_isGlobal_4 fu x1 F G = some res) : xn F ≤ xn res.2.1 := by
  unfold cb_X5_isGlobal_4 at hm
  by_cases c_1 : (F 41) ≤ x1
  · have hm := (if_pos c_1).symm.trans hm
    exact (cn_X5_isGlobal_25 fu F G hm)
  · have hm := (if_neg c_1).symm.trans hm
    exact (cn_X5_isGlobal_12 fu x1 F G hm)
theorem cw_X5_isGlobal_4 (fu : Nat) {res : Int32 × PF × PG} (C : cMC p R s m args c A v RX5 cX5_isGlobal 2 0 0 (xn res.2.1 - xn K0)) (hret : ∀ (b1 : Nat) (H1 : Heap) (locs1 : List Loc) (ls1 : Array Slot) (pc : Nat), cMW s A v a b1 K0 res.2.1 res.2.2 H1 locs1 → narrow .boolean (.int res.1) = .int res.1 → decode cX5_isGlobal pc = .ok (.ireturn, 1) → W p l e R s m args below meth c H1 locs1 (xn res.2.1 - xn K0) (2 * (xn res.2.1 - xn K0)) Q (F0 m pc ls1 [.int res.1])) (x1 : Int32) (F : PF) (G : PG) (hm : cb_X5_isGlobal_4 fu x1 F G = some res) {b : Nat} {H : Heap} {locs : List Loc} (hw : cMW s A v a b K0 F G H locs) {ls : Array Slot} (hl : lv_has ls 2 [(0, .ref (a 205)), (1, .int x1)]) : W p l e R s m args below meth c H locs (xn F - xn K0) (2 * (xn F - xn K0)) Q (F0 m 4 ls []) := by
  have hx := C.1
  have hb := C.2.1
  unfold cb_X5_isGlobal_4 at hm
  refine lv_iload_n hx hb dX5_isGlobal_4 rfl (lv_at hl 1 rfl) ?_
  refine lv_aload_n hx hb dX5_isGlobal_5 rfl (lv_at hl 0 rfl) ?_
  refine cg_X5_40 C hw dX5_isGlobal_6 ?_
  refine lv_icmp_ge (tgt := 25) hx hb dX5_isGlobal_9 (by decide) (fun c_1 => ?_) (fun c_1 => ?_)
  · have hm := (if_pos c_1).symm.trans hm
    exact cw_X5_isGlobal_25 fu C hret F G hm hw (lv_sub hl [] rfl)
  · have hm := (if_neg c_1).symm.trans hm
    exact cw_X5_isGlobal_12 fu C hret x1 F G hm hw (lv_sub hl [0, 1] rfl)
theorem cn_X5_isGlobal_0 (fu : Nat) {res : Int32 × PF × PG} (x1 : Int32) (F : PF) (G : PG) (hm : cb_X5_isGlobal_0 fu x1 F G = some res) : xn F ≤ xn res.2.1 := by
  unfold cb_X5_isGlobal_0 at hm
  by_cases c_1 : x1 < (0 : Int32)
  · have hm := (if_pos c_1).symm.trans hm
    exact (cn_X5_isGlobal_25 fu F G hm)
  · have hm := (if_neg c_1).symm.trans hm
    exact (cn_X5_isGlobal_4 fu x1 F G hm)
theorem cw_X5_isGlobal_0 (fu : Nat) {res : Int32 × PF × PG} (C : cMC p R s m args c A v RX5 cX5_isGlobal 2 0 0 (xn res.2.1 - xn K0)) (hret : ∀ (b1 : Nat) (H1 : Heap) (locs1 : List Loc) (ls1 : Array Slot) (pc : Nat), cMW s A v a b1 K0 res.2.1 res.2.2 H1 locs1 → narrow .boolean (.int res.1) = .int res.1 → decode cX5_isGlobal pc = .ok (.ireturn, 1) → W p l e R s m args below meth c H1 locs1 (xn res.2.1 - xn K0) (2 * (xn res.2.1 - xn K0)) Q (F0 m pc ls1 [.int res.1])) (x1 : Int32) (F : PF) (G : PG) (hm : cb_X5_isGlobal_0 fu x1 F G = some res) {b : Nat} {H : Heap} {locs : List Loc} (hw : cMW s A v a b K0 F G H locs) {ls : Array Slot} (hl : lv_has ls 2 [(0, .ref (a 205)), (1, .int x1)]) : W p l e R s m args below meth c H locs (xn F - xn K0) (2 * (xn F - xn K0)) Q (F0 m 0 ls []) := by
  have hx := C.1
  have hb := C.2.1
  unfold cb_X5_isGlobal_0 at hm
  refine lv_iload_n hx hb dX5_isGlobal_0 rfl (lv_at hl 1 rfl) ?_
  refine lv_if_lt (tgt := 25) hx hb dX5_isGlobal_1 (by decide) (fun c_1 => ?_) (fun c_1 => ?_)
  · have hm := (if_pos c_1).symm.trans hm
    exact cw_X5_isGlobal_25 fu C hret F G hm hw (lv_sub hl [] rfl)
  · have hm := (if_neg c_1).symm.trans hm
    exact cw_X5_isGlobal_4 fu C hret x1 F G hm hw (lv_sub hl [0, 1] rfl)
theorem cn_X5_isGlobal (fu : Nat) (x1 : Int32) (F : PF) (G : PG) (q : Int32 × PF × PG) (hm : cf_X5_isGlobal fu x1 F G = some q) : xn F ≤ xn q.2.1 := cn_X5_isGlobal_0 fu x1 F G hm
theorem ck_X5_isGlobal (l : Launch) (v : EV) (a : Nat → Nat) (b sz : Nat) (fu : Nat) (x1 : Int32) (F : PF) (G : PG) (r : Int32) (F1 : PF) (G1 : PG) (hm : cf_X5_isGlobal fu x1 F G = some (r, F1, G1)) : cMI l yX5_isGlobal cX5_isGlobal 2 (some .boolean) 0 0 v a b sz [.ref (a 205), .int x1] F G r F1 G1 := cMI.of (ty := .boolean) (by decide) rfl (Nat.le_of_ble_eq_true rfl) (fun p e R s m args below meth c Q A H locs ls C hw hl hret => cw_X5_isGlobal_0 fu (res := (r, F1, G1)) C hret x1 F G hm hw hl)
def cb_X5_size_22 (fu : Nat) (z0 : Int32) (F : PF) (G : PG) : PR := some (z0, F, G)
def cb_X5_size_12 (fu : Nat) (F : PF) (G : PG) : PR := cb_X5_size_22 fu 0 F G
def cb_X5_size_16 (fu : Nat) (x1 : Int32) (F : PF) (G : PG) : PR := if ixb x1 700 = true then (cb_X5_size_22 fu (G 38 x1.toNatClampNeg) F G) else none
def cb_X5_size_4 (fu : Nat) (x1 : Int32) (F : PF) (G : PG) : PR := if x1 < (F 41) then cb_X5_size_16 fu x1 F G else cb_X5_size_12 fu F G
def cb_X5_size_0 (fu : Nat) (x1 : Int32) (F : PF) (G : PG) : PR := if x1 < (0 : Int32) then cb_X5_size_12 fu F G else cb_X5_size_4 fu x1 F G
def cf_X5_size (fu : Nat) (x1 : Int32) (F : PF) (G : PG) : PR := cb_X5_size_0 fu x1 F G
theorem cn_X5_size_22 (fu : Nat) {res : Int32 × PF × PG} (z0 : Int32) (F : PF) (G : PG) (hm : cb_X5_size_22 fu z0 F G = some res) : xn F ≤ xn res.2.1 := by
  unfold cb_X5_size_22 at hm
  obtain rfl := Option.some.inj hm
  exact Nat.le_refl _
theorem cw_X5_size_22 (fu : Nat) {res : Int32 × PF × PG} (C : cMC p R s m args c A v RX5 cX5_size 2 0 0 (xn res.2.1 - xn K0)) (hret : ∀ (b1 : Nat) (H1 : Heap) (locs1 : List Loc) (ls1 : Array Slot) (pc : Nat), cMW s A v a b1 K0 res.2.1 res.2.2 H1 locs1 → narrow .int (.int res.1) = .int res.1 → decode cX5_size pc = .ok (.ireturn, 1) → W p l e R s m args below meth c H1 locs1 (xn res.2.1 - xn K0) (2 * (xn res.2.1 - xn K0)) Q (F0 m pc ls1 [.int res.1])) (z0 : Int32) (F : PF) (G : PG) (hm : cb_X5_size_22 fu z0 F G = some res) {b : Nat} {H : Heap} {locs : List Loc} (hw : cMW s A v a b K0 F G H locs) {ls : Array Slot} (hl : lv_has ls 2 []) : W p l e R s m args below meth c H locs (xn F - xn K0) (2 * (xn F - xn K0)) Q (F0 m 22 ls [.int z0]) := by
  have hx := C.1
  have hb := C.2.1
  unfold cb_X5_size_22 at hm
  obtain rfl := Option.some.inj hm
  exact hret _ _ _ _ _ hw rfl dX5_size_22
theorem cn_X5_size_12 (fu : Nat) {res : Int32 × PF × PG} (F : PF) (G : PG) (hm : cb_X5_size_12 fu F G = some res) : xn F ≤ xn res.2.1 := by
  unfold cb_X5_size_12 at hm
  exact (cn_X5_size_22 fu 0 F G hm)
theorem cw_X5_size_12 (fu : Nat) {res : Int32 × PF × PG} (C : cMC p R s m args c A v RX5 cX5_size 2 0 0 (xn res.2.1 - xn K0)) (hret : ∀ (b1 : Nat) (H1 : Heap) (locs1 : List Loc) (ls1 : Array Slot) (pc : Nat), cMW s A v a b1 K0 res.2.1 res.2.2 H1 locs1 → narrow .int (.int res.1) = .int res.1 → decode cX5_size pc = .ok (.ireturn, 1) → W p l e R s m args below meth c H1 locs1 (xn res.2.1 - xn K0) (2 * (xn res.2.1 - xn K0)) Q (F0 m pc ls1 [.int res.1])) (F : PF) (G : PG) (hm : cb_X5_size_12 fu F G = some res) {b : Nat} {H : Heap} {locs : List Loc} (hw : cMW s A v a b K0 F G H locs) {ls : Array Slot} (hl : lv_has ls 2 []) : W p l e R s m args below meth c H locs (xn F - xn K0) (2 * (xn F - xn K0)) Q (F0 m 12 ls []) := by
  have hx := C.1
  have hb := C.2.1
  unfold cb_X5_size_12 at hm
  refine lv_iconst (v := 0) hx hb dX5_size_12 (by decide) ?_
  refine lv_goto (tgt := 22) hx hb dX5_size_13 (by decide) ?_
  exact cw_X5_size_22 fu C hret 0 F G hm hw (lv_sub hl [] rfl)
theorem cn_X5_size_16 (fu : Nat) {res : Int32 × PF × PG} (x1 : Int32) (F : PF) (G : PG) (hm : cb_X5_size_16 fu x1 F G = some res) : xn F ≤ xn res.2.1 := by
  unfold cb_X5_size_16 at hm
  have hm := (ix_elim hm).2
  exact (cn_X5_size_22 fu (G 38 x1.toNatClampNeg) F G hm)
theorem cw_X5_size_16 (fu : Nat) {res : Int32 × PF × PG} (C : cMC p R s m args c A v RX5 cX5_size 2 0 0 (xn res.2.1 - xn K0)) (hret : ∀ (b1 : Nat) (H1 : Heap) (locs1 : List Loc) (ls1 : Array Slot) (pc : Nat), cMW s A v a b1 K0 res.2.1 res.2.2 H1 locs1 → narrow .int (.int res.1) = .int res.1 → decode cX5_size pc = .ok (.ireturn, 1) → W p l e R s m args below meth c H1 locs1 (xn res.2.1 - xn K0) (2 * (xn res.2.1 - xn K0)) Q (F0 m pc ls1 [.int res.1])) (x1 : Int32) (F : PF) (G : PG) (hm : cb_X5_size_16 fu x1 F G = some res) {b : Nat} {H : Heap} {locs : List Loc} (hw : cMW s A v a b K0 F G H locs) {ls : Array Slot} (hl : lv_has ls 2 [(0, .ref (a 205)), (1, .int x1)]) : W p l e R s m args below meth c H locs (xn F - xn K0) (2 * (xn F - xn K0)) Q (F0 m 16 ls []) := by
  have hx := C.1
  have hb := C.2.1
  unfold cb_X5_size_16 at hm
  refine lv_aload_n hx hb dX5_size_16 rfl (lv_at hl 0 rfl) ?_
  refine cg_X5_27 C hw dX5_size_17 ?_
  refine lv_iload_n hx hb dX5_size_20 rfl (lv_at hl 1 rfl) ?_
  obtain ⟨hi, hm⟩ := ix_elim hm
  refine cal_38 C hw hi dX5_size_21 ?_
  exact cw_X5_size_22 fu C hret (G 38 x1.toNatClampNeg) F G hm hw (lv_sub hl [] rfl)
theorem cn_X5_size_4 (fu : Nat) {res : Int32 × PF × PG} (x1 : Int32) (F : PF) (G : PG) (hm : cb_X5_size_4 fu x1 F G = some res) : xn F ≤ xn res.2.1 := by
  unfold cb_X5_size_4 at hm
  by_cases c_1 : x1 < (F 41)
  · have hm := (if_pos c_1).symm.trans hm
    exact (cn_X5_size_16 fu x1 F G hm)
  · have hm := (if_neg c_1).symm.trans hm
    exact (cn_X5_size_12 fu F G hm)
theorem cw_X5_size_4 (fu : Nat) {res : Int32 × PF × PG} (C : cMC p R s m args c A v RX5 cX5_size 2 0 0 (xn res.2.1 - xn K0)) (hret : ∀ (b1 : Nat) (H1 : Heap) (locs1 : List Loc) (ls1 : Array Slot) (pc : Nat), cMW s A v a b1 K0 res.2.1 res.2.2 H1 locs1 → narrow .int (.int res.1) = .int res.1 → decode cX5_size pc = .ok (.ireturn, 1) → W p l e R s m args below meth c H1 locs1 (xn res.2.1 - xn K0) (2 * (xn res.2.1 - xn K0)) Q (F0 m pc ls1 [.int res.1])) (x1 : Int32) (F : PF) (G : PG) (hm : cb_X5_size_4 fu x1 F G = some res) {b : Nat} {H : Heap} {locs : List Loc} (hw : cMW s A v a b K0 F G H locs) {ls : Array Slot} (hl : lv_has ls 2 [(0, .ref (a 205)), (1, .int x1)]) : W p l e R s m args below meth c H locs (xn F - xn K0) (2 * (xn F - xn K0)) Q (F0 m 4 ls []) := by
  have hx := C.1
  have hb := C.2.1
  unfold cb_X5_size_4 at hm
  refine lv_iload_n hx hb dX5_size_4 rfl (lv_at hl 1 rfl) ?_
  refine lv_aload_n hx hb dX5_size_5 rfl (lv_at hl 0 rfl) ?_
  refine cg_X5_40 C hw dX5_size_6 ?_
  refine lv_icmp_lt (tgt := 16) hx hb dX5_size_9 (by decide) (fun c_1 => ?_) (fun c_1 => ?_)
  · have hm := (if_pos c_1).symm.trans hm
    exact cw_X5_size_16 fu C hret x1 F G hm hw (lv_sub hl [0, 1] rfl)
  · have hm := (if_neg c_1).symm.trans hm
    exact cw_X5_size_12 fu C hret F G hm hw (lv_sub hl [] rfl)
theorem cn_X5_size_0 (fu : Nat) {res : Int32 × PF × PG} (x1 : Int32) (F : PF) (G : PG) (hm : cb_X5_size_0 fu x1 F G = some res) : xn F ≤ xn res.2.1 := by
  unfold cb_X5_size_0 at hm
  by_cases c_1 : x1 < (0 : Int32)
  · have hm := (if_pos c_1).symm.trans hm
    exact (cn_X5_size_12 fu F G hm)
  · have hm := (if_neg c_1).symm.trans hm
    exact (cn_X5_size_4 fu x1 F G hm)
theorem cw_X5_size_0 (fu : Nat) {res : Int32 × PF × PG} (C : cMC p R s m args c A v RX5 cX5_size 2 0 0 (xn res.2.1 - xn K0)) (hret : ∀ (b1 : Nat) (H1 : Heap) (locs1 : List Loc) (ls1 : Array Slot) (pc : Nat), cMW s A v a b1 K0 res.2.1 res.2.2 H1 locs1 → narrow .int (.int res.1) = .int res.1 → decode cX5_size pc = .ok (.ireturn, 1) → W p l e R s m args below meth c H1 locs1 (xn res.2.1 - xn K0) (2 * (xn res.2.1 - xn K0)) Q (F0 m pc ls1 [.int res.1])) (x1 : Int32) (F : PF) (G : PG) (hm : cb_X5_size_0 fu x1 F G = some res) {b : Nat} {H : Heap} {locs : List Loc} (hw : cMW s A v a b K0 F G H locs) {ls : Array Slot} (hl : lv_has ls 2 [(0, .ref (a 205)), (1, .int x1)]) : W p l e R s m args below meth c H locs (xn F - xn K0) (2 * (xn F - xn K0)) Q (F0 m 0 ls []) := by
  have hx := C.1
  have hb := C.2.1
  unfold cb_X5_size_0 at hm
  refine lv_iload_n hx hb dX5_size_0 rfl (lv_at hl 1 rfl) ?_
  refine lv_if_lt (tgt := 12) hx hb dX5_size_1 (by decide) (fun c_1 => ?_) (fun c_1 => ?_)
  · have hm := (if_pos c_1).symm.trans hm
    exact cw_X5_size_12 fu C hret F G hm hw (lv_sub hl [] rfl)
  · have hm := (if_neg c_1).symm.trans hm
    exact cw_X5_size_4 fu C hret x1 F G hm hw (lv_sub hl [0, 1] rfl)
theorem cn_X5_size (fu : Nat) (x1 : Int32) (F : PF) (G : PG) (q : Int32 × PF × PG) (hm : cf_X5_size fu x1 F G = some q) : xn F ≤ xn q.2.1 := cn_X5_size_0 fu x1 F G hm
theorem ck_X5_size (l : Launch) (v : EV) (a : Nat → Nat) (b sz : Nat) (fu : Nat) (x1 : Int32) (F : PF) (G : PG) (r : Int32) (F1 : PF) (G1 : PG) (hm : cf_X5_size fu x1 F G = some (r, F1, G1)) : cMI l yX5_size cX5_size 2 (some .int) 0 0 v a b sz [.ref (a 205), .int x1] F G r F1 G1 := cMI.of (ty := .int) (by decide) rfl (Nat.le_of_ble_eq_true rfl) (fun p e R s m args below meth c Q A H locs ls C hw hl hret => cw_X5_size_0 fu (res := (r, F1, G1)) C hret x1 F G hm hw hl)
def cb_X3_pass_74 (fu : Nat) (F : PF) (G : PG) : PR := some (0, F, G)
def cb_X3_pass_71 (fu : Nat) (z0 : Int32) (F : PF) (G : PG) : PR := (cf_X1_add fu z0 F G).bind (fun q => cb_X3_pass_74 fu q.2.1 q.2.2)
def cb_X3_pass_59 (fu : Nat) (x1 : Int32) (F : PF) (G : PG) : PR := (cf_X5_size fu x1 F G).bind (fun q => cb_X3_pass_71 fu q.1 q.2.1 q.2.2)
def cb_X3_pass_56 (fu : Nat) (x1 : Int32) (z0 : Int32) (z1 : Int32) (F : PF) (G : PG) : PR := (cf_X1_addPair fu z1 z0 F G).bind (fun q => cb_X3_pass_59 fu x1 q.2.1 q.2.2)
def cb_X3_pass_48 (fu : Nat) (x1 : Int32) (z0 : Int32) (F : PF) (G : PG) : PR := (cf_X5_value fu x1 F G).bind (fun q => cb_X3_pass_56 fu x1 q.1 z0 q.2.1 q.2.2)
def cb_X3_pass_46 (fu : Nat) (x1 : Int32) (F : PF) (G : PG) : PR := cb_X3_pass_48 fu x1 82 F G
def cb_X3_pass_41 (fu : Nat) (x1 : Int32) (F : PF) (G : PG) : PR := cb_X3_pass_48 fu x1 81 F G
def cb_X3_pass_38 (fu : Nat) (x1 : Int32) (z0 : Int32) (F : PF) (G : PG) : PR := if z0 = (0 : Int32) then cb_X3_pass_46 fu x1 F G else cb_X3_pass_41 fu x1 F G
def cb_X3_pass_30 (fu : Nat) (x1 : Int32) (F : PF) (G : PG) : PR := (cf_X5_isGlobal fu x1 F G).bind (fun q => cb_X3_pass_38 fu x1 q.1 q.2.1 q.2.2)
def cb_X3_pass_25 (fu : Nat) (x1 : Int32) (F : PF) (G : PG) : PR := cb_X3_pass_48 fu x1 83 F G
def cb_X3_pass_16 (fu : Nat) (x1 : Int32) (z0 : Int32) (F : PF) (G : PG) : PR := if z0 = (0 : Int32) then cb_X3_pass_30 fu x1 F G else cb_X3_pass_25 fu x1 F G
def cb_X3_pass_15 (fu : Nat) (x1 : Int32) (F : PF) (G : PG) : PR := cb_X3_pass_16 fu x1 0 F G
def cb_X3_pass_11 (fu : Nat) (x1 : Int32) (F : PF) (G : PG) : PR := cb_X3_pass_16 fu x1 1 F G
def cb_X3_pass_8 (fu : Nat) (x1 : Int32) (z0 : Int32) (F : PF) (G : PG) : PR := if z0 = (0 : Int32) then cb_X3_pass_11 fu x1 F G else cb_X3_pass_15 fu x1 F G
def cb_X3_pass_0 (fu : Nat) (x1 : Int32) (F : PF) (G : PG) : PR := (cf_X5_size fu x1 F G).bind (fun q => cb_X3_pass_8 fu x1 q.1 q.2.1 q.2.2)
def cf_X3_pass (fu : Nat) (x1 : Int32) (F : PF) (G : PG) : PR := cb_X3_pass_0 fu x1 F G
theorem cn_X3_pass_74 (fu : Nat) {res : Int32 × PF × PG} (F : PF) (G : PG) (hm : cb_X3_pass_74 fu F G = some res) : xn F ≤ xn res.2.1 := by
  unfold cb_X3_pass_74 at hm
  obtain rfl := Option.some.inj hm
  exact Nat.le_refl _
theorem cw_X3_pass_74 (fu : Nat) {res : Int32 × PF × PG} (C : cMC p R s m args c A v RX3 cX3_pass 3 1 22 (xn res.2.1 - xn K0)) (hret : ∀ (b1 : Nat) (H1 : Heap) (locs1 : List Loc) (ls1 : Array Slot) (pc : Nat), cMW s A v a b1 K0 res.2.1 res.2.2 H1 locs1 → decode cX3_pass pc = .ok (.return_, 1) → W p l e R s m args below meth c H1 locs1 (xn res.2.1 - xn K0) (2 * (xn res.2.1 - xn K0)) Q (F0 m pc ls1 [])) (F : PF) (G : PG) (hm : cb_X3_pass_74 fu F G = some res) {b : Nat} {H : Heap} {locs : List Loc} (hw : cMW s A v a b K0 F G H locs) {ls : Array Slot} (hl : lv_has ls 3 []) : W p l e R s m args below meth c H locs (xn F - xn K0) (2 * (xn F - xn K0)) Q (F0 m 74 ls []) := by
  have hx := C.1
  have hb := C.2.1
  unfold cb_X3_pass_74 at hm
  obtain rfl := Option.some.inj hm
  exact hret _ _ _ _ _ hw dX3_pass_74
theorem cn_X3_pass_71 (fu : Nat) {res : Int32 × PF × PG} (z0 : Int32) (F : PF) (G : PG) (hm : cb_X3_pass_71 fu z0 F G = some res) : xn F ≤ xn res.2.1 := by
  unfold cb_X3_pass_71 at hm
  obtain ⟨⟨r1, F1, G1⟩, hc, hm⟩ := bind_elim hm
  exact Nat.le_trans (cn_X1_add fu z0 F G _ hc) (cn_X3_pass_74 fu F1 G1 hm)
theorem cw_X3_pass_71 (fu : Nat) {res : Int32 × PF × PG} (C : cMC p R s m args c A v RX3 cX3_pass 3 1 22 (xn res.2.1 - xn K0)) (hret : ∀ (b1 : Nat) (H1 : Heap) (locs1 : List Loc) (ls1 : Array Slot) (pc : Nat), cMW s A v a b1 K0 res.2.1 res.2.2 H1 locs1 → decode cX3_pass pc = .ok (.return_, 1) → W p l e R s m args below meth c H1 locs1 (xn res.2.1 - xn K0) (2 * (xn res.2.1 - xn K0)) Q (F0 m pc ls1 [])) (z0 : Int32) (F : PF) (G : PG) (hm : cb_X3_pass_71 fu z0 F G = some res) {b : Nat} {H : Heap} {locs : List Loc} (hw : cMW s A v a b K0 F G H locs) {ls : Array Slot} (hl : lv_has ls 3 []) : W p l e R s m args below meth c H locs (xn F - xn K0) (2 * (xn F - xn K0)) Q (F0 m 71 ls [.int z0, .ref (a 201)]) := by
  have hx := C.1
  have hb := C.2.1
  unfold cb_X3_pass_71 at hm
  obtain ⟨⟨r1, F1, G1⟩, hc, hm⟩ := bind_elim hm
  refine ccallV (n := 1) (As := [.int z0]) (rest := []) C hw (ck_X1_add l v a _ _ fu z0 F G r1 F1 G1 hc) (cn_X1_add fu z0 F G _ hc) (Nat.sub_le_sub_right (cn_X3_pass_74 fu F1 G1 hm) _) (crecv_X1 C hw) cm_452 cm_453 cm_454 cm_369 cm_455 (by decide +kernel) rfl (by omega) (by omega) hl.1 rfl (Nat.le_of_ble_eq_true rfl) dX3_pass_71 (fun b H locs hw => ?_)
  exact cw_X3_pass_74 fu C hret F1 G1 hm hw (lv_sub hl [] rfl)
theorem cn_X3_pass_59 (fu : Nat) {res : Int32 × PF × PG} (x1 : Int32) (F : PF) (G : PG) (hm : cb_X3_pass_59 fu x1 F G = some res) : xn F ≤ xn res.2.1 := by
  unfold cb_X3_pass_59 at hm
  obtain ⟨⟨r1, F1, G1⟩, hc, hm⟩ := bind_elim hm
  exact Nat.le_trans (cn_X5_size fu x1 F G _ hc) (cn_X3_pass_71 fu r1 F1 G1 hm)
theorem cw_X3_pass_59 (fu : Nat) {res : Int32 × PF × PG} (C : cMC p R s m args c A v RX3 cX3_pass 3 1 22 (xn res.2.1 - xn K0)) (hret : ∀ (b1 : Nat) (H1 : Heap) (locs1 : List Loc) (ls1 : Array Slot) (pc : Nat), cMW s A v a b1 K0 res.2.1 res.2.2 H1 locs1 → decode cX3_pass pc = .ok (.return_, 1) → W p l e R s m args below meth c H1 locs1 (xn res.2.1 - xn K0) (2 * (xn res.2.1 - xn K0)) Q (F0 m pc ls1 [])) (x1 : Int32) (F : PF) (G : PG) (hm : cb_X3_pass_59 fu x1 F G = some res) {b : Nat} {H : Heap} {locs : List Loc} (hw : cMW s A v a b K0 F G H locs) {ls : Array Slot} (hl : lv_has ls 3 [(0, .ref (a 203)), (1, .int x1)]) : W p l e R s m args below meth c H locs (xn F - xn K0) (2 * (xn F - xn K0)) Q (F0 m 59 ls []) := by
  have hx := C.1
  have hb := C.2.1
  unfold cb_X3_pass_59 at hm
  refine lv_aload_n hx hb dX3_pass_59 rfl (lv_at hl 0 rfl) ?_
  refine cg_X3_23 C hw dX3_pass_60 ?_
  refine lv_aload_n hx hb dX3_pass_63 rfl (lv_at hl 0 rfl) ?_
  refine cg_X3_19 C hw dX3_pass_64 ?_
  refine lv_iload_n hx hb dX3_pass_67 rfl (lv_at hl 1 rfl) ?_
  obtain ⟨⟨r1, F1, G1⟩, hc, hm⟩ := bind_elim hm
  refine ccallI (n := 1) (As := [.int x1]) (rest := [.ref (a 201)]) C hw (ck_X5_size l v a _ _ fu x1 F G r1 F1 G1 hc) (cn_X5_size fu x1 F G _ hc) (Nat.sub_le_sub_right (cn_X3_pass_71 fu r1 F1 G1 hm) _) (crecv_X5 C hw) cm_438 cm_439 cm_440 cm_266 cm_441 (by decide +kernel) rfl (by omega) (by omega) hl.1 rfl (Nat.le_of_ble_eq_true rfl) dX3_pass_68 (fun b H locs hw => ?_)
  exact cw_X3_pass_71 fu C hret r1 F1 G1 hm hw (lv_sub hl [] rfl)
theorem cn_X3_pass_56 (fu : Nat) {res : Int32 × PF × PG} (x1 : Int32) (z0 : Int32) (z1 : Int32) (F : PF) (G : PG) (hm : cb_X3_pass_56 fu x1 z0 z1 F G = some res) : xn F ≤ xn res.2.1 := by
  unfold cb_X3_pass_56 at hm
  obtain ⟨⟨r1, F1, G1⟩, hc, hm⟩ := bind_elim hm
  exact Nat.le_trans (cn_X1_addPair fu z1 z0 F G _ hc) (cn_X3_pass_59 fu x1 F1 G1 hm)
theorem cw_X3_pass_56 (fu : Nat) {res : Int32 × PF × PG} (C : cMC p R s m args c A v RX3 cX3_pass 3 1 22 (xn res.2.1 - xn K0)) (hret : ∀ (b1 : Nat) (H1 : Heap) (locs1 : List Loc) (ls1 : Array Slot) (pc : Nat), cMW s A v a b1 K0 res.2.1 res.2.2 H1 locs1 → decode cX3_pass pc = .ok (.return_, 1) → W p l e R s m args below meth c H1 locs1 (xn res.2.1 - xn K0) (2 * (xn res.2.1 - xn K0)) Q (F0 m pc ls1 [])) (x1 : Int32) (z0 : Int32) (z1 : Int32) (F : PF) (G : PG) (hm : cb_X3_pass_56 fu x1 z0 z1 F G = some res) {b : Nat} {H : Heap} {locs : List Loc} (hw : cMW s A v a b K0 F G H locs) {ls : Array Slot} (hl : lv_has ls 3 [(0, .ref (a 203)), (1, .int x1)]) : W p l e R s m args below meth c H locs (xn F - xn K0) (2 * (xn F - xn K0)) Q (F0 m 56 ls [.int z0, .int z1, .ref (a 201)]) := by
  have hx := C.1
  have hb := C.2.1
  unfold cb_X3_pass_56 at hm
  obtain ⟨⟨r1, F1, G1⟩, hc, hm⟩ := bind_elim hm
  refine ccallV (n := 2) (As := [.int z1, .int z0]) (rest := []) C hw (ck_X1_addPair l v a _ _ fu z1 z0 F G r1 F1 G1 hc) (cn_X1_addPair fu z1 z0 F G _ hc) (Nat.sub_le_sub_right (cn_X3_pass_59 fu x1 F1 G1 hm) _) (crecv_X1 C hw) cm_448 cm_449 cm_450 cm_369 cm_451 (by decide +kernel) rfl (by omega) (by omega) hl.1 rfl (Nat.le_of_ble_eq_true rfl) dX3_pass_56 (fun b H locs hw => ?_)
  exact cw_X3_pass_59 fu C hret x1 F1 G1 hm hw (lv_sub hl [0, 1] rfl)
theorem cn_X3_pass_48 (fu : Nat) {res : Int32 × PF × PG} (x1 : Int32) (z0 : Int32) (F : PF) (G : PG) (hm : cb_X3_pass_48 fu x1 z0 F G = some res) : xn F ≤ xn res.2.1 := by
  unfold cb_X3_pass_48 at hm
  obtain ⟨⟨r1, F1, G1⟩, hc, hm⟩ := bind_elim hm
  exact Nat.le_trans (cn_X5_value fu x1 F G _ hc) (cn_X3_pass_56 fu x1 r1 z0 F1 G1 hm)
theorem cw_X3_pass_48 (fu : Nat) {res : Int32 × PF × PG} (C : cMC p R s m args c A v RX3 cX3_pass 3 1 22 (xn res.2.1 - xn K0)) (hret : ∀ (b1 : Nat) (H1 : Heap) (locs1 : List Loc) (ls1 : Array Slot) (pc : Nat), cMW s A v a b1 K0 res.2.1 res.2.2 H1 locs1 → decode cX3_pass pc = .ok (.return_, 1) → W p l e R s m args below meth c H1 locs1 (xn res.2.1 - xn K0) (2 * (xn res.2.1 - xn K0)) Q (F0 m pc ls1 [])) (x1 : Int32) (z0 : Int32) (F : PF) (G : PG) (hm : cb_X3_pass_48 fu x1 z0 F G = some res) {b : Nat} {H : Heap} {locs : List Loc} (hw : cMW s A v a b K0 F G H locs) {ls : Array Slot} (hl : lv_has ls 3 [(0, .ref (a 203)), (1, .int x1)]) : W p l e R s m args below meth c H locs (xn F - xn K0) (2 * (xn F - xn K0)) Q (F0 m 48 ls [.int z0, .ref (a 201)]) := by
  have hx := C.1
  have hb := C.2.1
  unfold cb_X3_pass_48 at hm
  refine lv_aload_n hx hb dX3_pass_48 rfl (lv_at hl 0 rfl) ?_
  refine cg_X3_19 C hw dX3_pass_49 ?_
  refine lv_iload_n hx hb dX3_pass_52 rfl (lv_at hl 1 rfl) ?_
  obtain ⟨⟨r1, F1, G1⟩, hc, hm⟩ := bind_elim hm
  refine ccallI (n := 1) (As := [.int x1]) (rest := [.int z0, .ref (a 201)]) C hw (ck_X5_value l v a _ _ fu x1 F G r1 F1 G1 hc) (cn_X5_value fu x1 F G _ hc) (Nat.sub_le_sub_right (cn_X3_pass_56 fu x1 r1 z0 F1 G1 hm) _) (crecv_X5 C hw) cm_392 cm_393 cm_394 cm_266 cm_395 (by decide +kernel) rfl (by omega) (by omega) hl.1 rfl (Nat.le_of_ble_eq_true rfl) dX3_pass_53 (fun b H locs hw => ?_)
  exact cw_X3_pass_56 fu C hret x1 r1 z0 F1 G1 hm hw (lv_sub hl [0, 1] rfl)
theorem cn_X3_pass_46 (fu : Nat) {res : Int32 × PF × PG} (x1 : Int32) (F : PF) (G : PG) (hm : cb_X3_pass_46 fu x1 F G = some res) : xn F ≤ xn res.2.1 := by
  unfold cb_X3_pass_46 at hm
  exact (cn_X3_pass_48 fu x1 82 F G hm)
theorem cw_X3_pass_46 (fu : Nat) {res : Int32 × PF × PG} (C : cMC p R s m args c A v RX3 cX3_pass 3 1 22 (xn res.2.1 - xn K0)) (hret : ∀ (b1 : Nat) (H1 : Heap) (locs1 : List Loc) (ls1 : Array Slot) (pc : Nat), cMW s A v a b1 K0 res.2.1 res.2.2 H1 locs1 → decode cX3_pass pc = .ok (.return_, 1) → W p l e R s m args below meth c H1 locs1 (xn res.2.1 - xn K0) (2 * (xn res.2.1 - xn K0)) Q (F0 m pc ls1 [])) (x1 : Int32) (F : PF) (G : PG) (hm : cb_X3_pass_46 fu x1 F G = some res) {b : Nat} {H : Heap} {locs : List Loc} (hw : cMW s A v a b K0 F G H locs) {ls : Array Slot} (hl : lv_has ls 3 [(0, .ref (a 203)), (1, .int x1)]) : W p l e R s m args below meth c H locs (xn F - xn K0) (2 * (xn F - xn K0)) Q (F0 m 46 ls [.ref (a 201)]) := by
  have hx := C.1
  have hb := C.2.1
  unfold cb_X3_pass_46 at hm
  refine lv_bipush (v := 82) hx hb dX3_pass_46 (by decide) ?_
  exact cw_X3_pass_48 fu C hret x1 82 F G hm hw (lv_sub hl [0, 1] rfl)
theorem cn_X3_pass_41 (fu : Nat) {res : Int32 × PF × PG} (x1 : Int32) (F : PF) (G : PG) (hm : cb_X3_pass_41 fu x1 F G = some res) : xn F ≤ xn res.2.1 := by
  unfold cb_X3_pass_41 at hm
  exact (cn_X3_pass_48 fu x1 81 F G hm)
theorem cw_X3_pass_41 (fu : Nat) {res : Int32 × PF × PG} (C : cMC p R s m args c A v RX3 cX3_pass 3 1 22 (xn res.2.1 - xn K0)) (hret : ∀ (b1 : Nat) (H1 : Heap) (locs1 : List Loc) (ls1 : Array Slot) (pc : Nat), cMW s A v a b1 K0 res.2.1 res.2.2 H1 locs1 → decode cX3_pass pc = .ok (.return_, 1) → W p l e R s m args below meth c H1 locs1 (xn res.2.1 - xn K0) (2 * (xn res.2.1 - xn K0)) Q (F0 m pc ls1 [])) (x1 : Int32) (F : PF) (G : PG) (hm : cb_X3_pass_41 fu x1 F G = some res) {b : Nat} {H : Heap} {locs : List Loc} (hw : cMW s A v a b K0 F G H locs) {ls : Array Slot} (hl : lv_has ls 3 [(0, .ref (a 203)), (1, .int x1)]) : W p l e R s m args below meth c H locs (xn F - xn K0) (2 * (xn F - xn K0)) Q (F0 m 41 ls [.ref (a 201)]) := by
  have hx := C.1
  have hb := C.2.1
  unfold cb_X3_pass_41 at hm
  refine lv_bipush (v := 81) hx hb dX3_pass_41 (by decide) ?_
  refine lv_goto (tgt := 48) hx hb dX3_pass_43 (by decide) ?_
  exact cw_X3_pass_48 fu C hret x1 81 F G hm hw (lv_sub hl [0, 1] rfl)
theorem cn_X3_pass_38 (fu : Nat) {res : Int32 × PF × PG} (x1 : Int32) (z0 : Int32) (F : PF) (G : PG) (hm : cb_X3_pass_38 fu x1 z0 F G = some res) : xn F ≤ xn res.2.1 := by
  unfold cb_X3_pass_38 at hm
  by_cases c_1 : z0 = (0 : Int32)
  · have hm := (if_pos c_1).symm.trans hm
    exact (cn_X3_pass_46 fu x1 F G hm)
  · have hm := (if_neg c_1).symm.trans hm
    exact (cn_X3_pass_41 fu x1 F G hm)
theorem cw_X3_pass_38 (fu : Nat) {res : Int32 × PF × PG} (C : cMC p R s m args c A v RX3 cX3_pass 3 1 22 (xn res.2.1 - xn K0)) (hret : ∀ (b1 : Nat) (H1 : Heap) (locs1 : List Loc) (ls1 : Array Slot) (pc : Nat), cMW s A v a b1 K0 res.2.1 res.2.2 H1 locs1 → decode cX3_pass pc = .ok (.return_, 1) → W p l e R s m args below meth c H1 locs1 (xn res.2.1 - xn K0) (2 * (xn res.2.1 - xn K0)) Q (F0 m pc ls1 [])) (x1 : Int32) (z0 : Int32) (F : PF) (G : PG) (hm : cb_X3_pass_38 fu x1 z0 F G = some res) {b : Nat} {H : Heap} {locs : List Loc} (hw : cMW s A v a b K0 F G H locs) {ls : Array Slot} (hl : lv_has ls 3 [(0, .ref (a 203)), (1, .int x1)]) : W p l e R s m args below meth c H locs (xn F - xn K0) (2 * (xn F - xn K0)) Q (F0 m 38 ls [.int z0, .ref (a 201)]) := by
  have hx := C.1
  have hb := C.2.1
  unfold cb_X3_pass_38 at hm
  refine lv_if_eq (tgt := 46) hx hb dX3_pass_38 (by decide) (fun c_1 => ?_) (fun c_1 => ?_)
  · have hm := (if_pos c_1).symm.trans hm
    exact cw_X3_pass_46 fu C hret x1 F G hm hw (lv_sub hl [0, 1] rfl)
  · have hm := (if_neg c_1).symm.trans hm
    exact cw_X3_pass_41 fu C hret x1 F G hm hw (lv_sub hl [0, 1] rfl)
theorem cn_X3_pass_30 (fu : Nat) {res : Int32 × PF × PG} (x1 : Int32) (F : PF) (G : PG) (hm : cb_X3_pass_30 fu x1 F G = some res) : xn F ≤ xn res.2.1 := by
  unfold cb_X3_pass_30 at hm
  obtain ⟨⟨r1, F1, G1⟩, hc, hm⟩ := bind_elim hm
  exact Nat.le_trans (cn_X5_isGlobal fu x1 F G _ hc) (cn_X3_pass_38 fu x1 r1 F1 G1 hm)
theorem cw_X3_pass_30 (fu : Nat) {res : Int32 × PF × PG} (C : cMC p R s m args c A v RX3 cX3_pass 3 1 22 (xn res.2.1 - xn K0)) (hret : ∀ (b1 : Nat) (H1 : Heap) (locs1 : List Loc) (ls1 : Array Slot) (pc : Nat), cMW s A v a b1 K0 res.2.1 res.2.2 H1 locs1 → decode cX3_pass pc = .ok (.return_, 1) → W p l e R s m args below meth c H1 locs1 (xn res.2.1 - xn K0) (2 * (xn res.2.1 - xn K0)) Q (F0 m pc ls1 [])) (x1 : Int32) (F : PF) (G : PG) (hm : cb_X3_pass_30 fu x1 F G = some res) {b : Nat} {H : Heap} {locs : List Loc} (hw : cMW s A v a b K0 F G H locs) {ls : Array Slot} (hl : lv_has ls 3 [(0, .ref (a 203)), (1, .int x1)]) : W p l e R s m args below meth c H locs (xn F - xn K0) (2 * (xn F - xn K0)) Q (F0 m 30 ls [.ref (a 201)]) := by
  have hx := C.1
  have hb := C.2.1
  unfold cb_X3_pass_30 at hm
  refine lv_aload_n hx hb dX3_pass_30 rfl (lv_at hl 0 rfl) ?_
  refine cg_X3_19 C hw dX3_pass_31 ?_
  refine lv_iload_n hx hb dX3_pass_34 rfl (lv_at hl 1 rfl) ?_
  obtain ⟨⟨r1, F1, G1⟩, hc, hm⟩ := bind_elim hm
  refine ccallI (n := 1) (As := [.int x1]) (rest := [.ref (a 201)]) C hw (ck_X5_isGlobal l v a _ _ fu x1 F G r1 F1 G1 hc) (cn_X5_isGlobal fu x1 F G _ hc) (Nat.sub_le_sub_right (cn_X3_pass_38 fu x1 r1 F1 G1 hm) _) (crecv_X5 C hw) cm_443 cm_444 cm_445 cm_266 cm_446 (by decide +kernel) rfl (by omega) (by omega) hl.1 rfl (Nat.le_of_ble_eq_true rfl) dX3_pass_35 (fun b H locs hw => ?_)
  exact cw_X3_pass_38 fu C hret x1 r1 F1 G1 hm hw (lv_sub hl [0, 1] rfl)
theorem cn_X3_pass_25 (fu : Nat) {res : Int32 × PF × PG} (x1 : Int32) (F : PF) (G : PG) (hm : cb_X3_pass_25 fu x1 F G = some res) : xn F ≤ xn res.2.1 := by
  unfold cb_X3_pass_25 at hm
  exact (cn_X3_pass_48 fu x1 83 F G hm)
theorem cw_X3_pass_25 (fu : Nat) {res : Int32 × PF × PG} (C : cMC p R s m args c A v RX3 cX3_pass 3 1 22 (xn res.2.1 - xn K0)) (hret : ∀ (b1 : Nat) (H1 : Heap) (locs1 : List Loc) (ls1 : Array Slot) (pc : Nat), cMW s A v a b1 K0 res.2.1 res.2.2 H1 locs1 → decode cX3_pass pc = .ok (.return_, 1) → W p l e R s m args below meth c H1 locs1 (xn res.2.1 - xn K0) (2 * (xn res.2.1 - xn K0)) Q (F0 m pc ls1 [])) (x1 : Int32) (F : PF) (G : PG) (hm : cb_X3_pass_25 fu x1 F G = some res) {b : Nat} {H : Heap} {locs : List Loc} (hw : cMW s A v a b K0 F G H locs) {ls : Array Slot} (hl : lv_has ls 3 [(0, .ref (a 203)), (1, .int x1)]) : W p l e R s m args below meth c H locs (xn F - xn K0) (2 * (xn F - xn K0)) Q (F0 m 25 ls [.ref (a 201)]) := by
  have hx := C.1
  have hb := C.2.1
  unfold cb_X3_pass_25 at hm
  refine lv_bipush (v := 83) hx hb dX3_pass_25 (by decide) ?_
  refine lv_goto (tgt := 48) hx hb dX3_pass_27 (by decide) ?_
  exact cw_X3_pass_48 fu C hret x1 83 F G hm hw (lv_sub hl [0, 1] rfl)
theorem cn_X3_pass_16 (fu : Nat) {res : Int32 × PF × PG} (x1 : Int32) (z0 : Int32) (F : PF) (G : PG) (hm : cb_X3_pass_16 fu x1 z0 F G = some res) : xn F ≤ xn res.2.1 := by
  unfold cb_X3_pass_16 at hm
  by_cases c_1 : z0 = (0 : Int32)
  · have hm := (if_pos c_1).symm.trans hm
    exact (cn_X3_pass_30 fu x1 F G hm)
  · have hm := (if_neg c_1).symm.trans hm
    exact (cn_X3_pass_25 fu x1 F G hm)
theorem cw_X3_pass_16 (fu : Nat) {res : Int32 × PF × PG} (C : cMC p R s m args c A v RX3 cX3_pass 3 1 22 (xn res.2.1 - xn K0)) (hret : ∀ (b1 : Nat) (H1 : Heap) (locs1 : List Loc) (ls1 : Array Slot) (pc : Nat), cMW s A v a b1 K0 res.2.1 res.2.2 H1 locs1 → decode cX3_pass pc = .ok (.return_, 1) → W p l e R s m args below meth c H1 locs1 (xn res.2.1 - xn K0) (2 * (xn res.2.1 - xn K0)) Q (F0 m pc ls1 [])) (x1 : Int32) (z0 : Int32) (F : PF) (G : PG) (hm : cb_X3_pass_16 fu x1 z0 F G = some res) {b : Nat} {H : Heap} {locs : List Loc} (hw : cMW s A v a b K0 F G H locs) {ls : Array Slot} (hl : lv_has ls 3 [(0, .ref (a 203)), (1, .int x1)]) : W p l e R s m args below meth c H locs (xn F - xn K0) (2 * (xn F - xn K0)) Q (F0 m 16 ls [.int z0]) := by
  have hx := C.1
  have hb := C.2.1
  unfold cb_X3_pass_16 at hm
  refine lv_istore_n (lv' := [(2, .int z0), (0, .ref (a 203)), (1, .int x1)]) hx hb dX3_pass_16 rfl hl (by decide) rfl (fun ls hl => ?_)
  refine lv_aload_n hx hb dX3_pass_17 rfl (lv_at hl 1 rfl) ?_
  refine cg_X3_23 C hw dX3_pass_18 ?_
  refine lv_iload_n hx hb dX3_pass_21 rfl (lv_at hl 0 rfl) ?_
  refine lv_if_eq (tgt := 30) hx hb dX3_pass_22 (by decide) (fun c_1 => ?_) (fun c_1 => ?_)
  · have hm := (if_pos c_1).symm.trans hm
    exact cw_X3_pass_30 fu C hret x1 F G hm hw (lv_sub hl [1, 2] rfl)
  · have hm := (if_neg c_1).symm.trans hm
    exact cw_X3_pass_25 fu C hret x1 F G hm hw (lv_sub hl [1, 2] rfl)
theorem cn_X3_pass_15 (fu : Nat) {res : Int32 × PF × PG} (x1 : Int32) (F : PF) (G : PG) (hm : cb_X3_pass_15 fu x1 F G = some res) : xn F ≤ xn res.2.1 := by
  unfold cb_X3_pass_15 at hm
  exact (cn_X3_pass_16 fu x1 0 F G hm)
theorem cw_X3_pass_15 (fu : Nat) {res : Int32 × PF × PG} (C : cMC p R s m args c A v RX3 cX3_pass 3 1 22 (xn res.2.1 - xn K0)) (hret : ∀ (b1 : Nat) (H1 : Heap) (locs1 : List Loc) (ls1 : Array Slot) (pc : Nat), cMW s A v a b1 K0 res.2.1 res.2.2 H1 locs1 → decode cX3_pass pc = .ok (.return_, 1) → W p l e R s m args below meth c H1 locs1 (xn res.2.1 - xn K0) (2 * (xn res.2.1 - xn K0)) Q (F0 m pc ls1 [])) (x1 : Int32) (F : PF) (G : PG) (hm : cb_X3_pass_15 fu x1 F G = some res) {b : Nat} {H : Heap} {locs : List Loc} (hw : cMW s A v a b K0 F G H locs) {ls : Array Slot} (hl : lv_has ls 3 [(0, .ref (a 203)), (1, .int x1)]) : W p l e R s m args below meth c H locs (xn F - xn K0) (2 * (xn F - xn K0)) Q (F0 m 15 ls []) := by
  have hx := C.1
  have hb := C.2.1
  unfold cb_X3_pass_15 at hm
  refine lv_iconst (v := 0) hx hb dX3_pass_15 (by decide) ?_
  exact cw_X3_pass_16 fu C hret x1 0 F G hm hw (lv_sub hl [0, 1] rfl)
theorem cn_X3_pass_11 (fu : Nat) {res : Int32 × PF × PG} (x1 : Int32) (F : PF) (G : PG) (hm : cb_X3_pass_11 fu x1 F G = some res) : xn F ≤ xn res.2.1 := by
  unfold cb_X3_pass_11 at hm
  exact (cn_X3_pass_16 fu x1 1 F G hm)
theorem cw_X3_pass_11 (fu : Nat) {res : Int32 × PF × PG} (C : cMC p R s m args c A v RX3 cX3_pass 3 1 22 (xn res.2.1 - xn K0)) (hret : ∀ (b1 : Nat) (H1 : Heap) (locs1 : List Loc) (ls1 : Array Slot) (pc : Nat), cMW s A v a b1 K0 res.2.1 res.2.2 H1 locs1 → decode cX3_pass pc = .ok (.return_, 1) → W p l e R s m args below meth c H1 locs1 (xn res.2.1 - xn K0) (2 * (xn res.2.1 - xn K0)) Q (F0 m pc ls1 [])) (x1 : Int32) (F : PF) (G : PG) (hm : cb_X3_pass_11 fu x1 F G = some res) {b : Nat} {H : Heap} {locs : List Loc} (hw : cMW s A v a b K0 F G H locs) {ls : Array Slot} (hl : lv_has ls 3 [(0, .ref (a 203)), (1, .int x1)]) : W p l e R s m args below meth c H locs (xn F - xn K0) (2 * (xn F - xn K0)) Q (F0 m 11 ls []) := by
  have hx := C.1
  have hb := C.2.1
  unfold cb_X3_pass_11 at hm
  refine lv_iconst (v := 1) hx hb dX3_pass_11 (by decide) ?_
  refine lv_goto (tgt := 16) hx hb dX3_pass_12 (by decide) ?_
  exact cw_X3_pass_16 fu C hret x1 1 F G hm hw (lv_sub hl [0, 1] rfl)
theorem cn_X3_pass_8 (fu : Nat) {res : Int32 × PF × PG} (x1 : Int32) (z0 : Int32) (F : PF) (G : PG) (hm : cb_X3_pass_8 fu x1 z0 F G = some res) : xn F ≤ xn res.2.1 := by
  unfold cb_X3_pass_8 at hm
  by_cases c_1 : z0 = (0 : Int32)
  · have hm := (if_pos c_1).symm.trans hm
    exact (cn_X3_pass_11 fu x1 F G hm)
  · have hm := (if_neg c_1).symm.trans hm
    exact (cn_X3_pass_15 fu x1 F G hm)
theorem cw_X3_pass_8 (fu : Nat) {res : Int32 × PF × PG} (C : cMC p R s m args c A v RX3 cX3_pass 3 1 22 (xn res.2.1 - xn K0)) (hret : ∀ (b1 : Nat) (H1 : Heap) (locs1 : List Loc) (ls1 : Array Slot) (pc : Nat), cMW s A v a b1 K0 res.2.1 res.2.2 H1 locs1 → decode cX3_pass pc = .ok (.return_, 1) → W p l e R s m args below meth c H1 locs1 (xn res.2.1 - xn K0) (2 * (xn res.2.1 - xn K0)) Q (F0 m pc ls1 [])) (x1 : Int32) (z0 : Int32) (F : PF) (G : PG) (hm : cb_X3_pass_8 fu x1 z0 F G = some res) {b : Nat} {H : Heap} {locs : List Loc} (hw : cMW s A v a b K0 F G H locs) {ls : Array Slot} (hl : lv_has ls 3 [(0, .ref (a 203)), (1, .int x1)]) : W p l e R s m args below meth c H locs (xn F - xn K0) (2 * (xn F - xn K0)) Q (F0 m 8 ls [.int z0]) := by
  have hx := C.1
  have hb := C.2.1
  unfold cb_X3_pass_8 at hm
  refine lv_if_ne (tgt := 15) hx hb dX3_pass_8 (by decide) (fun c_1 => ?_) (fun c_1 => ?_)
  · have hm := (if_neg c_1).symm.trans hm
    exact cw_X3_pass_15 fu C hret x1 F G hm hw (lv_sub hl [0, 1] rfl)
  · have hm := (if_pos c_1).symm.trans hm
    exact cw_X3_pass_11 fu C hret x1 F G hm hw (lv_sub hl [0, 1] rfl)
theorem cn_X3_pass_0 (fu : Nat) {res : Int32 × PF × PG} (x1 : Int32) (F : PF) (G : PG) (hm : cb_X3_pass_0 fu x1 F G = some res) : xn F ≤ xn res.2.1 := by
  unfold cb_X3_pass_0 at hm
  obtain ⟨⟨r1, F1, G1⟩, hc, hm⟩ := bind_elim hm
  exact Nat.le_trans (cn_X5_size fu x1 F G _ hc) (cn_X3_pass_8 fu x1 r1 F1 G1 hm)
theorem cw_X3_pass_0 (fu : Nat) {res : Int32 × PF × PG} (C : cMC p R s m args c A v RX3 cX3_pass 3 1 22 (xn res.2.1 - xn K0)) (hret : ∀ (b1 : Nat) (H1 : Heap) (locs1 : List Loc) (ls1 : Array Slot) (pc : Nat), cMW s A v a b1 K0 res.2.1 res.2.2 H1 locs1 → decode cX3_pass pc = .ok (.return_, 1) → W p l e R s m args below meth c H1 locs1 (xn res.2.1 - xn K0) (2 * (xn res.2.1 - xn K0)) Q (F0 m pc ls1 [])) (x1 : Int32) (F : PF) (G : PG) (hm : cb_X3_pass_0 fu x1 F G = some res) {b : Nat} {H : Heap} {locs : List Loc} (hw : cMW s A v a b K0 F G H locs) {ls : Array Slot} (hl : lv_has ls 3 [(0, .ref (a 203)), (1, .int x1)]) : W p l e R s m args below meth c H locs (xn F - xn K0) (2 * (xn F - xn K0)) Q (F0 m 0 ls []) := by
  have hx := C.1
  have hb := C.2.1
  unfold cb_X3_pass_0 at hm
  refine lv_aload_n hx hb dX3_pass_0 rfl (lv_at hl 0 rfl) ?_
  refine cg_X3_19 C hw dX3_pass_1 ?_
  refine lv_iload_n hx hb dX3_pass_4 rfl (lv_at hl 1 rfl) ?_
  obtain ⟨⟨r1, F1, G1⟩, hc, hm⟩ := bind_elim hm
  refine ccallI (n := 1) (As := [.int x1]) (rest := []) C hw (ck_X5_size l v a _ _ fu x1 F G r1 F1 G1 hc) (cn_X5_size fu x1 F G _ hc) (Nat.sub_le_sub_right (cn_X3_pass_8 fu x1 r1 F1 G1 hm) _) (crecv_X5 C hw) cm_438 cm_439 cm_440 cm_266 cm_441 (by decide +kernel) rfl (by omega) (by omega) hl.1 rfl (Nat.le_of_ble_eq_true rfl) dX3_pass_5 (fun b H locs hw => ?_)
  exact cw_X3_pass_8 fu C hret x1 r1 F1 G1 hm hw (lv_sub hl [0, 1] rfl)
theorem cn_X3_pass (fu : Nat) (x1 : Int32) (F : PF) (G : PG) (q : Int32 × PF × PG) (hm : cf_X3_pass fu x1 F G = some q) : xn F ≤ xn q.2.1 := cn_X3_pass_0 fu x1 F G hm
theorem ck_X3_pass (l : Launch) (v : EV) (a : Nat → Nat) (b sz : Nat) (fu : Nat) (x1 : Int32) (F : PF) (G : PG) (r : Int32) (F1 : PF) (G1 : PG) (hm : cf_X3_pass fu x1 F G = some (r, F1, G1)) : cMV l yX3_pass cX3_pass 3 1 22 v a b sz [.ref (a 203), .int x1] F G F1 G1 := cMV.of (by decide) (Nat.le_of_ble_eq_true rfl) (fun p e R s m args below meth c Q A H locs ls C hw hl hret => cw_X3_pass_0 fu (res := (r, F1, G1)) C hret x1 F G hm hw hl)
def cb_X5_wantArray_15 (fu : Nat) (F : PF) (G : PG) : PR := some (0, F, G)
def cb_X5_wantArray_9 (fu : Nat) (x2 : Int32) (F : PF) (G : PG) : PR := (cf_X5_note fu 2 x2 F G).bind (fun q => cb_X5_wantArray_15 fu q.2.1 q.2.2)
def cb_X5_wantArray_5 (fu : Nat) (x2 : Int32) (x3 : Int32) (z0 : Int32) (F : PF) (G : PG) : PR := if z0 = x3 then cb_X5_wantArray_15 fu F G else cb_X5_wantArray_9 fu x2 F G
def cb_X5_wantArray_0 (fu : Nat) (x1 : Int32) (x2 : Int32) (x3 : Int32) (F : PF) (G : PG) : PR := (cf_X5_kind fu x1 F G).bind (fun q => cb_X5_wantArray_5 fu x2 x3 q.1 q.2.1 q.2.2)
def cf_X5_wantArray (fu : Nat) (x1 : Int32) (x2 : Int32) (x3 : Int32) (F : PF) (G : PG) : PR := cb_X5_wantArray_0 fu x1 x2 x3 F G
theorem cn_X5_wantArray_15 (fu : Nat) {res : Int32 × PF × PG} (F : PF) (G : PG) (hm : cb_X5_wantArray_15 fu F G = some res) : xn F ≤ xn res.2.1 := by
  unfold cb_X5_wantArray_15 at hm
  obtain rfl := Option.some.inj hm
  exact Nat.le_refl _
theorem cw_X5_wantArray_15 (fu : Nat) {res : Int32 × PF × PG} (C : cMC p R s m args c A v RX5 cX5_wantArray 4 1 22 (xn res.2.1 - xn K0)) (hret : ∀ (b1 : Nat) (H1 : Heap) (locs1 : List Loc) (ls1 : Array Slot) (pc : Nat), cMW s A v a b1 K0 res.2.1 res.2.2 H1 locs1 → decode cX5_wantArray pc = .ok (.return_, 1) → W p l e R s m args below meth c H1 locs1 (xn res.2.1 - xn K0) (2 * (xn res.2.1 - xn K0)) Q (F0 m pc ls1 [])) (F : PF) (G : PG) (hm : cb_X5_wantArray_15 fu F G = some res) {b : Nat} {H : Heap} {locs : List Loc} (hw : cMW s A v a b K0 F G H locs) {ls : Array Slot} (hl : lv_has ls 4 []) : W p l e R s m args below meth c H locs (xn F - xn K0) (2 * (xn F - xn K0)) Q (F0 m 15 ls []) := by
  have hx := C.1
  have hb := C.2.1
  unfold cb_X5_wantArray_15 at hm
  obtain rfl := Option.some.inj hm
  exact hret _ _ _ _ _ hw dX5_wantArray_15
theorem cn_X5_wantArray_9 (fu : Nat) {res : Int32 × PF × PG} (x2 : Int32) (F : PF) (G : PG) (hm : cb_X5_wantArray_9 fu x2 F G = some res) : xn F ≤ xn res.2.1 := by
  unfold cb_X5_wantArray_9 at hm
  obtain ⟨⟨r1, F1, G1⟩, hc, hm⟩ := bind_elim hm
  exact Nat.le_trans (cn_X5_note fu 2 x2 F G _ hc) (cn_X5_wantArray_15 fu F1 G1 hm)
theorem cw_X5_wantArray_9 (fu : Nat) {res : Int32 × PF × PG} (C : cMC p R s m args c A v RX5 cX5_wantArray 4 1 22 (xn res.2.1 - xn K0)) (hret : ∀ (b1 : Nat) (H1 : Heap) (locs1 : List Loc) (ls1 : Array Slot) (pc : Nat), cMW s A v a b1 K0 res.2.1 res.2.2 H1 locs1 → decode cX5_wantArray pc = .ok (.return_, 1) → W p l e R s m args below meth c H1 locs1 (xn res.2.1 - xn K0) (2 * (xn res.2.1 - xn K0)) Q (F0 m pc ls1 [])) (x2 : Int32) (F : PF) (G : PG) (hm : cb_X5_wantArray_9 fu x2 F G = some res) {b : Nat} {H : Heap} {locs : List Loc} (hw : cMW s A v a b K0 F G H locs) {ls : Array Slot} (hl : lv_has ls 4 [(0, .ref (a 205)), (2, .int x2)]) : W p l e R s m args below meth c H locs (xn F - xn K0) (2 * (xn F - xn K0)) Q (F0 m 9 ls []) := by
  have hx := C.1
  have hb := C.2.1
  unfold cb_X5_wantArray_9 at hm
  refine lv_aload_n hx hb dX5_wantArray_9 rfl (lv_at hl 0 rfl) ?_
  refine lv_iconst (v := 2) hx hb dX5_wantArray_10 (by decide) ?_
  refine lv_iload_n hx hb dX5_wantArray_11 rfl (lv_at hl 1 rfl) ?_
  obtain ⟨⟨r1, F1, G1⟩, hc, hm⟩ := bind_elim hm
  refine ccallV (n := 2) (As := [.int 2, .int x2]) (rest := []) C hw (ck_X5_note l v a _ _ fu 2 x2 F G r1 F1 G1 hc) (cn_X5_note fu 2 x2 F G _ hc) (Nat.sub_le_sub_right (cn_X5_wantArray_15 fu F1 G1 hm) _) (crecv_X5 C hw) cm_424 cm_425 cm_426 cm_266 cm_427 (by decide +kernel) rfl (by omega) (by omega) hl.1 rfl (Nat.le_of_ble_eq_true rfl) dX5_wantArray_12 (fun b H locs hw => ?_)
  exact cw_X5_wantArray_15 fu C hret F1 G1 hm hw (lv_sub hl [] rfl)
theorem cn_X5_wantArray_5 (fu : Nat) {res : Int32 × PF × PG} (x2 : Int32) (x3 : Int32) (z0 : Int32) (F : PF) (G : PG) (hm : cb_X5_wantArray_5 fu x2 x3 z0 F G = some res) : xn F ≤ xn res.2.1 := by
  unfold cb_X5_wantArray_5 at hm
  by_cases c_1 : z0 = x3
  · have hm := (if_pos c_1).symm.trans hm
    exact (cn_X5_wantArray_15 fu F G hm)
  · have hm := (if_neg c_1).symm.trans hm
    exact (cn_X5_wantArray_9 fu x2 F G hm)
theorem cw_X5_wantArray_5 (fu : Nat) {res : Int32 × PF × PG} (C : cMC p R s m args c A v RX5 cX5_wantArray 4 1 22 (xn res.2.1 - xn K0)) (hret : ∀ (b1 : Nat) (H1 : Heap) (locs1 : List Loc) (ls1 : Array Slot) (pc : Nat), cMW s A v a b1 K0 res.2.1 res.2.2 H1 locs1 → decode cX5_wantArray pc = .ok (.return_, 1) → W p l e R s m args below meth c H1 locs1 (xn res.2.1 - xn K0) (2 * (xn res.2.1 - xn K0)) Q (F0 m pc ls1 [])) (x2 : Int32) (x3 : Int32) (z0 : Int32) (F : PF) (G : PG) (hm : cb_X5_wantArray_5 fu x2 x3 z0 F G = some res) {b : Nat} {H : Heap} {locs : List Loc} (hw : cMW s A v a b K0 F G H locs) {ls : Array Slot} (hl : lv_has ls 4 [(0, .ref (a 205)), (2, .int x2), (3, .int x3)]) : W p l e R s m args below meth c H locs (xn F - xn K0) (2 * (xn F - xn K0)) Q (F0 m 5 ls [.int z0]) := by
  have hx := C.1
  have hb := C.2.1
  unfold cb_X5_wantArray_5 at hm
  refine lv_iload_n hx hb dX5_wantArray_5 rfl (lv_at hl 2 rfl) ?_
  refine lv_icmp_eq (tgt := 15) hx hb dX5_wantArray_6 (by decide) (fun c_1 => ?_) (fun c_1 => ?_)
  · have hm := (if_pos c_1).symm.trans hm
    exact cw_X5_wantArray_15 fu C hret F G hm hw (lv_sub hl [] rfl)
  · have hm := (if_neg c_1).symm.trans hm
    exact cw_X5_wantArray_9 fu C hret x2 F G hm hw (lv_sub hl [0, 1] rfl)
theorem cn_X5_wantArray_0 (fu : Nat) {res : Int32 × PF × PG} (x1 : Int32) (x2 : Int32) (x3 : Int32) (F : PF) (G : PG) (hm : cb_X5_wantArray_0 fu x1 x2 x3 F G = some res) : xn F ≤ xn res.2.1 := by
  unfold cb_X5_wantArray_0 at hm
  obtain ⟨⟨r1, F1, G1⟩, hc, hm⟩ := bind_elim hm
  exact Nat.le_trans (cn_X5_kind fu x1 F G _ hc) (cn_X5_wantArray_5 fu x2 x3 r1 F1 G1 hm)
theorem cw_X5_wantArray_0 (fu : Nat) {res : Int32 × PF × PG} (C : cMC p R s m args c A v RX5 cX5_wantArray 4 1 22 (xn res.2.1 - xn K0)) (hret : ∀ (b1 : Nat) (H1 : Heap) (locs1 : List Loc) (ls1 : Array Slot) (pc : Nat), cMW s A v a b1 K0 res.2.1 res.2.2 H1 locs1 → decode cX5_wantArray pc = .ok (.return_, 1) → W p l e R s m args below meth c H1 locs1 (xn res.2.1 - xn K0) (2 * (xn res.2.1 - xn K0)) Q (F0 m pc ls1 [])) (x1 : Int32) (x2 : Int32) (x3 : Int32) (F : PF) (G : PG) (hm : cb_X5_wantArray_0 fu x1 x2 x3 F G = some res) {b : Nat} {H : Heap} {locs : List Loc} (hw : cMW s A v a b K0 F G H locs) {ls : Array Slot} (hl : lv_has ls 4 [(0, .ref (a 205)), (1, .int x1), (2, .int x2), (3, .int x3)]) : W p l e R s m args below meth c H locs (xn F - xn K0) (2 * (xn F - xn K0)) Q (F0 m 0 ls []) := by
  have hx := C.1
  have hb := C.2.1
  unfold cb_X5_wantArray_0 at hm
  refine lv_aload_n hx hb dX5_wantArray_0 rfl (lv_at hl 0 rfl) ?_
  refine lv_iload_n hx hb dX5_wantArray_1 rfl (lv_at hl 1 rfl) ?_
  obtain ⟨⟨r1, F1, G1⟩, hc, hm⟩ := bind_elim hm
  refine ccallI (n := 1) (As := [.int x1]) (rest := []) C hw (ck_X5_kind l v a _ _ fu x1 F G r1 F1 G1 hc) (cn_X5_kind fu x1 F G _ hc) (Nat.sub_le_sub_right (cn_X5_wantArray_5 fu x2 x3 r1 F1 G1 hm) _) (crecv_X5 C hw) cm_433 cm_388 cm_389 cm_266 cm_390 (by decide +kernel) rfl (by omega) (by omega) hl.1 rfl (Nat.le_of_ble_eq_true rfl) dX5_wantArray_2 (fun b H locs hw => ?_)
  exact cw_X5_wantArray_5 fu C hret x2 x3 r1 F1 G1 hm hw (lv_sub hl [0, 2, 3] rfl)
theorem cn_X5_wantArray (fu : Nat) (x1 : Int32) (x2 : Int32) (x3 : Int32) (F : PF) (G : PG) (q : Int32 × PF × PG) (hm : cf_X5_wantArray fu x1 x2 x3 F G = some q) : xn F ≤ xn q.2.1 := cn_X5_wantArray_0 fu x1 x2 x3 F G hm
theorem ck_X5_wantArray (l : Launch) (v : EV) (a : Nat → Nat) (b sz : Nat) (fu : Nat) (x1 : Int32) (x2 : Int32) (x3 : Int32) (F : PF) (G : PG) (r : Int32) (F1 : PF) (G1 : PG) (hm : cf_X5_wantArray fu x1 x2 x3 F G = some (r, F1, G1)) : cMV l yX5_wantArray cX5_wantArray 4 1 22 v a b sz [.ref (a 205), .int x1, .int x2, .int x3] F G F1 G1 := cMV.of (by decide) (Nat.le_of_ble_eq_true rfl) (fun p e R s m args below meth c Q A H locs ls C hw hl hret => cw_X5_wantArray_0 fu (res := (r, F1, G1)) C hret x1 x2 x3 F G hm hw hl)
def cb_X5_known_21 (fu : Nat) (z0 : Int32) (F : PF) (G : PG) : PR := some (z0, F, G)
def cb_X5_known_11 (fu : Nat) (F : PF) (G : PG) : PR := cb_X5_known_21 fu (-1) F G
def cb_X5_known_15 (fu : Nat) (x1 : Int32) (F : PF) (G : PG) : PR := if ixb x1 1408 = true then (cb_X5_known_21 fu (G 40 x1.toNatClampNeg) F G) else none
def cb_X5_known_4 (fu : Nat) (x1 : Int32) (F : PF) (G : PG) : PR := if x1 < (1408 : Int32) then cb_X5_known_15 fu x1 F G else cb_X5_known_11 fu F G
def cb_X5_known_0 (fu : Nat) (x1 : Int32) (F : PF) (G : PG) : PR := if x1 < (0 : Int32) then cb_X5_known_11 fu F G else cb_X5_known_4 fu x1 F G
def cf_X5_known (fu : Nat) (x1 : Int32) (F : PF) (G : PG) : PR := cb_X5_known_0 fu x1 F G
theorem cn_X5_known_21 (fu : Nat) {res : Int32 × PF × PG} (z0 : Int32) (F : PF) (G : PG) (hm : cb_X5_known_21 fu z0 F G = some res) : xn F ≤ xn res.2.1 := by
  unfold cb_X5_known_21 at hm
  obtain rfl := Option.some.inj hm
  exact Nat.le_refl _
theorem cw_X5_known_21 (fu : Nat) {res : Int32 × PF × PG} (C : cMC p R s m args c A v RX5 cX5_known 2 0 0 (xn res.2.1 - xn K0)) (hret : ∀ (b1 : Nat) (H1 : Heap) (locs1 : List Loc) (ls1 : Array Slot) (pc : Nat), cMW s A v a b1 K0 res.2.1 res.2.2 H1 locs1 → narrow .int (.int res.1) = .int res.1 → decode cX5_known pc = .ok (.ireturn, 1) → W p l e R s m args below meth c H1 locs1 (xn res.2.1 - xn K0) (2 * (xn res.2.1 - xn K0)) Q (F0 m pc ls1 [.int res.1])) (z0 : Int32) (F : PF) (G : PG) (hm : cb_X5_known_21 fu z0 F G = some res) {b : Nat} {H : Heap} {locs : List Loc} (hw : cMW s A v a b K0 F G H locs) {ls : Array Slot} (hl : lv_has ls 2 []) : W p l e R s m args below meth c H locs (xn F - xn K0) (2 * (xn F - xn K0)) Q (F0 m 21 ls [.int z0]) := by
  have hx := C.1
  have hb := C.2.1
  unfold cb_X5_known_21 at hm
  obtain rfl := Option.some.inj hm
  exact hret _ _ _ _ _ hw rfl dX5_known_21
theorem cn_X5_known_11 (fu : Nat) {res : Int32 × PF × PG} (F : PF) (G : PG) (hm : cb_X5_known_11 fu F G = some res) : xn F ≤ xn res.2.1 := by
  unfold cb_X5_known_11 at hm
  exact (cn_X5_known_21 fu (-1) F G hm)
theorem cw_X5_known_11 (fu : Nat) {res : Int32 × PF × PG} (C : cMC p R s m args c A v RX5 cX5_known 2 0 0 (xn res.2.1 - xn K0)) (hret : ∀ (b1 : Nat) (H1 : Heap) (locs1 : List Loc) (ls1 : Array Slot) (pc : Nat), cMW s A v a b1 K0 res.2.1 res.2.2 H1 locs1 → narrow .int (.int res.1) = .int res.1 → decode cX5_known pc = .ok (.ireturn, 1) → W p l e R s m args below meth c H1 locs1 (xn res.2.1 - xn K0) (2 * (xn res.2.1 - xn K0)) Q (F0 m pc ls1 [.int res.1])) (F : PF) (G : PG) (hm : cb_X5_known_11 fu F G = some res) {b : Nat} {H : Heap} {locs : List Loc} (hw : cMW s A v a b K0 F G H locs) {ls : Array Slot} (hl : lv_has ls 2 []) : W p l e R s m args below meth c H locs (xn F - xn K0) (2 * (xn F - xn K0)) Q (F0 m 11 ls []) := by
  have hx := C.1
  have hb := C.2.1
  unfold cb_X5_known_11 at hm
  refine lv_iconst (v := (-1)) hx hb dX5_known_11 (by decide) ?_
  refine lv_goto (tgt := 21) hx hb dX5_known_12 (by decide) ?_
  exact cw_X5_known_21 fu C hret (-1) F G hm hw (lv_sub hl [] rfl)
theorem cn_X5_known_15 (fu : Nat) {res : Int32 × PF × PG} (x1 : Int32) (F : PF) (G : PG) (hm : cb_X5_known_15 fu x1 F G = some res) : xn F ≤ xn res.2.1 := by
  unfold cb_X5_known_15 at hm
  have hm := (ix_elim hm).2
  exact (cn_X5_known_21 fu (G 40 x1.toNatClampNeg) F G hm)
theorem cw_X5_known_15 (fu : Nat) {res : Int32 × PF × PG} (C : cMC p R s m args c A v RX5 cX5_known 2 0 0 (xn res.2.1 - xn K0)) (hret : ∀ (b1 : Nat) (H1 : Heap) (locs1 : List Loc) (ls1 : Array Slot) (pc : Nat), cMW s A v a b1 K0 res.2.1 res.2.2 H1 locs1 → narrow .int (.int res.1) = .int res.1 → decode cX5_known pc = .ok (.ireturn, 1) → W p l e R s m args below meth c H1 locs1 (xn res.2.1 - xn K0) (2 * (xn res.2.1 - xn K0)) Q (F0 m pc ls1 [.int res.1])) (x1 : Int32) (F : PF) (G : PG) (hm : cb_X5_known_15 fu x1 F G = some res) {b : Nat} {H : Heap} {locs : List Loc} (hw : cMW s A v a b K0 F G H locs) {ls : Array Slot} (hl : lv_has ls 2 [(0, .ref (a 205)), (1, .int x1)]) : W p l e R s m args below meth c H locs (xn F - xn K0) (2 * (xn F - xn K0)) Q (F0 m 15 ls []) := by
  have hx := C.1
  have hb := C.2.1
  unfold cb_X5_known_15 at hm
  refine lv_aload_n hx hb dX5_known_15 rfl (lv_at hl 0 rfl) ?_
  refine cg_X5_33 C hw dX5_known_16 ?_
  refine lv_iload_n hx hb dX5_known_19 rfl (lv_at hl 1 rfl) ?_
  obtain ⟨hi, hm⟩ := ix_elim hm
  refine cal_40 C hw hi dX5_known_20 ?_
  exact cw_X5_known_21 fu C hret (G 40 x1.toNatClampNeg) F G hm hw (lv_sub hl [] rfl)
theorem cn_X5_known_4 (fu : Nat) {res : Int32 × PF × PG} (x1 : Int32) (F : PF) (G : PG) (hm : cb_X5_known_4 fu x1 F G = some res) : xn F ≤ xn res.2.1 := by
  unfold cb_X5_known_4 at hm
  by_cases c_1 : x1 < (1408 : Int32)
  · have hm := (if_pos c_1).symm.trans hm
    exact (cn_X5_known_15 fu x1 F G hm)
  · have hm := (if_neg c_1).symm.trans hm
    exact (cn_X5_known_11 fu F G hm)
theorem cw_X5_known_4 (fu : Nat) {res : Int32 × PF × PG} (C : cMC p R s m args c A v RX5 cX5_known 2 0 0 (xn res.2.1 - xn K0)) (hret : ∀ (b1 : Nat) (H1 : Heap) (locs1 : List Loc) (ls1 : Array Slot) (pc : Nat), cMW s A v a b1 K0 res.2.1 res.2.2 H1 locs1 → narrow .int (.int res.1) = .int res.1 → decode cX5_known pc = .ok (.ireturn, 1) → W p l e R s m args below meth c H1 locs1 (xn res.2.1 - xn K0) (2 * (xn res.2.1 - xn K0)) Q (F0 m pc ls1 [.int res.1])) (x1 : Int32) (F : PF) (G : PG) (hm : cb_X5_known_4 fu x1 F G = some res) {b : Nat} {H : Heap} {locs : List Loc} (hw : cMW s A v a b K0 F G H locs) {ls : Array Slot} (hl : lv_has ls 2 [(0, .ref (a 205)), (1, .int x1)]) : W p l e R s m args below meth c H locs (xn F - xn K0) (2 * (xn F - xn K0)) Q (F0 m 4 ls []) := by
  have hx := C.1
  have hb := C.2.1
  unfold cb_X5_known_4 at hm
  refine lv_iload_n hx hb dX5_known_4 rfl (lv_at hl 1 rfl) ?_
  refine lv_sipush (v := 1408) hx hb dX5_known_5 (by decide) ?_
  refine lv_icmp_lt (tgt := 15) hx hb dX5_known_8 (by decide) (fun c_1 => ?_) (fun c_1 => ?_)
  · have hm := (if_pos c_1).symm.trans hm
    exact cw_X5_known_15 fu C hret x1 F G hm hw (lv_sub hl [0, 1] rfl)
  · have hm := (if_neg c_1).symm.trans hm
    exact cw_X5_known_11 fu C hret F G hm hw (lv_sub hl [] rfl)
theorem cn_X5_known_0 (fu : Nat) {res : Int32 × PF × PG} (x1 : Int32) (F : PF) (G : PG) (hm : cb_X5_known_0 fu x1 F G = some res) : xn F ≤ xn res.2.1 := by
  unfold cb_X5_known_0 at hm
  by_cases c_1 : x1 < (0 : Int32)
  · have hm := (if_pos c_1).symm.trans hm
    exact (cn_X5_known_11 fu F G hm)
  · have hm := (if_neg c_1).symm.trans hm
    exact (cn_X5_known_4 fu x1 F G hm)
theorem cw_X5_known_0 (fu : Nat) {res : Int32 × PF × PG} (C : cMC p R s m args c A v RX5 cX5_known 2 0 0 (xn res.2.1 - xn K0)) (hret : ∀ (b1 : Nat) (H1 : Heap) (locs1 : List Loc) (ls1 : Array Slot) (pc : Nat), cMW s A v a b1 K0 res.2.1 res.2.2 H1 locs1 → narrow .int (.int res.1) = .int res.1 → decode cX5_known pc = .ok (.ireturn, 1) → W p l e R s m args below meth c H1 locs1 (xn res.2.1 - xn K0) (2 * (xn res.2.1 - xn K0)) Q (F0 m pc ls1 [.int res.1])) (x1 : Int32) (F : PF) (G : PG) (hm : cb_X5_known_0 fu x1 F G = some res) {b : Nat} {H : Heap} {locs : List Loc} (hw : cMW s A v a b K0 F G H locs) {ls : Array Slot} (hl : lv_has ls 2 [(0, .ref (a 205)), (1, .int x1)]) : W p l e R s m args below meth c H locs (xn F - xn K0) (2 * (xn F - xn K0)) Q (F0 m 0 ls []) := by
  have hx := C.1
  have hb := C.2.1
  unfold cb_X5_known_0 at hm
  refine lv_iload_n hx hb dX5_known_0 rfl (lv_at hl 1 rfl) ?_
  refine lv_if_lt (tgt := 11) hx hb dX5_known_1 (by decide) (fun c_1 => ?_) (fun c_1 => ?_)
  · have hm := (if_pos c_1).symm.trans hm
    exact cw_X5_known_11 fu C hret F G hm hw (lv_sub hl [] rfl)
  · have hm := (if_neg c_1).symm.trans hm
    exact cw_X5_known_4 fu C hret x1 F G hm hw (lv_sub hl [0, 1] rfl)
theorem cn_X5_known (fu : Nat) (x1 : Int32) (F : PF) (G : PG) (q : Int32 × PF × PG) (hm : cf_X5_known fu x1 F G = some q) : xn F ≤ xn q.2.1 := cn_X5_known_0 fu x1 F G hm
theorem ck_X5_known (l : Launch) (v : EV) (a : Nat → Nat) (b sz : Nat) (fu : Nat) (x1 : Int32) (F : PF) (G : PG) (r : Int32) (F1 : PF) (G1 : PG) (hm : cf_X5_known fu x1 F G = some (r, F1, G1)) : cMI l yX5_known cX5_known 2 (some .int) 0 0 v a b sz [.ref (a 205), .int x1] F G r F1 G1 := cMI.of (ty := .int) (by decide) rfl (Nat.le_of_ble_eq_true rfl) (fun p e R s m args below meth c Q A H locs ls C hw hl hret => cw_X5_known_0 fu (res := (r, F1, G1)) C hret x1 F G hm hw hl)
def cb_X5_meant_26 (fu : Nat) (x3 : Int32) (F : PF) (G : PG) : PR := some (x3, F, G)
def cb_X5_meant_20 (fu : Nat) (x2 : Int32) (x3 : Int32) (F : PF) (G : PG) : PR := (cf_X5_note fu 0 x2 F G).bind (fun q => cb_X5_meant_26 fu x3 q.2.1 q.2.2)
def cb_X5_meant_14 (fu : Nat) (x2 : Int32) (z0 : Int32) (F : PF) (G : PG) : PR := if z0 = (-1 : Int32) then cb_X5_meant_20 fu x2 z0 F G else cb_X5_meant_26 fu z0 F G
def cb_X5_meant_9 (fu : Nat) (x1 : Int32) (x2 : Int32) (F : PF) (G : PG) : PR := (cf_X5_known fu x1 F G).bind (fun q => cb_X5_meant_14 fu x2 q.1 q.2.1 q.2.2)
def cb_X5_meant_7 (fu : Nat) (F : PF) (G : PG) : PR := some ((-1), F, G)
def cb_X5_meant_0 (fu : Nat) (x1 : Int32) (x2 : Int32) (F : PF) (G : PG) : PR := if (F 45) = (0 : Int32) then cb_X5_meant_7 fu F G else cb_X5_meant_9 fu x1 x2 F G
def cf_X5_meant (fu : Nat) (x1 : Int32) (x2 : Int32) (F : PF) (G : PG) : PR := cb_X5_meant_0 fu x1 x2 F G
theorem cn_X5_meant_26 (fu : Nat) {res : Int32 × PF × PG} (x3 : Int32) (F : PF) (G : PG) (hm : cb_X5_meant_26 fu x3 F G = some res) : xn F ≤ xn res.2.1 := by
  unfold cb_X5_meant_26 at hm
  obtain rfl := Option.some.inj hm
  exact Nat.le_refl _
theorem cw_X5_meant_26 (fu : Nat) {res : Int32 × PF × PG} (C : cMC p R s m args c A v RX5 cX5_meant 4 1 22 (xn res.2.1 - xn K0)) (hret : ∀ (b1 : Nat) (H1 : Heap) (locs1 : List Loc) (ls1 : Array Slot) (pc : Nat), cMW s A v a b1 K0 res.2.1 res.2.2 H1 locs1 → narrow .int (.int res.1) = .int res.1 → decode cX5_meant pc = .ok (.ireturn, 1) → W p l e R s m args below meth c H1 locs1 (xn res.2.1 - xn K0) (2 * (xn res.2.1 - xn K0)) Q (F0 m pc ls1 [.int res.1])) (x3 : Int32) (F : PF) (G : PG) (hm : cb_X5_meant_26 fu x3 F G = some res) {b : Nat} {H : Heap} {locs : List Loc} (hw : cMW s A v a b K0 F G H locs) {ls : Array Slot} (hl : lv_has ls 4 [(3, .int x3)]) : W p l e R s m args below meth c H locs (xn F - xn K0) (2 * (xn F - xn K0)) Q (F0 m 26 ls []) := by
  have hx := C.1
  have hb := C.2.1
  unfold cb_X5_meant_26 at hm
  refine lv_iload_n hx hb dX5_meant_26 rfl (lv_at hl 0 rfl) ?_
  obtain rfl := Option.some.inj hm
  exact hret _ _ _ _ _ hw rfl dX5_meant_27
theorem cn_X5_meant_20 (fu : Nat) {res : Int32 × PF × PG} (x2 : Int32) (x3 : Int32) (F : PF) (G : PG) (hm : cb_X5_meant_20 fu x2 x3 F G = some res) : xn F ≤ xn res.2.1 := by
  unfold cb_X5_meant_20 at hm
  obtain ⟨⟨r1, F1, G1⟩, hc, hm⟩ := bind_elim hm
  exact Nat.le_trans (cn_X5_note fu 0 x2 F G _ hc) (cn_X5_meant_26 fu x3 F1 G1 hm)
theorem cw_X5_meant_20 (fu : Nat) {res : Int32 × PF × PG} (C : cMC p R s m args c A v RX5 cX5_meant 4 1 22 (xn res.2.1 - xn K0)) (hret : ∀ (b1 : Nat) (H1 : Heap) (locs1 : List Loc) (ls1 : Array Slot) (pc : Nat), cMW s A v a b1 K0 res.2.1 res.2.2 H1 locs1 → narrow .int (.int res.1) = .int res.1 → decode cX5_meant pc = .ok (.ireturn, 1) → W p l e R s m args below meth c H1 locs1 (xn res.2.1 - xn K0) (2 * (xn res.2.1 - xn K0)) Q (F0 m pc ls1 [.int res.1])) (x2 : Int32) (x3 : Int32) (F : PF) (G : PG) (hm : cb_X5_meant_20 fu x2 x3 F G = some res) {b : Nat} {H : Heap} {locs : List Loc} (hw : cMW s A v a b K0 F G H locs) {ls : Array Slot} (hl : lv_has ls 4 [(0, .ref (a 205)), (2, .int x2), (3, .int x3)]) : W p l e R s m args below meth c H locs (xn F - xn K0) (2 * (xn F - xn K0)) Q (F0 m 20 ls []) := by
  have hx := C.1
  have hb := C.2.1
  unfold cb_X5_meant_20 at hm
  refine lv_aload_n hx hb dX5_meant_20 rfl (lv_at hl 0 rfl) ?_
  refine lv_iconst (v := 0) hx hb dX5_meant_21 (by decide) ?_
  refine lv_iload_n hx hb dX5_meant_22 rfl (lv_at hl 1 rfl) ?_
  obtain ⟨⟨r1, F1, G1⟩, hc, hm⟩ := bind_elim hm
  refine ccallV (n := 2) (As := [.int 0, .int x2]) (rest := []) C hw (ck_X5_note l v a _ _ fu 0 x2 F G r1 F1 G1 hc) (cn_X5_note fu 0 x2 F G _ hc) (Nat.sub_le_sub_right (cn_X5_meant_26 fu x3 F1 G1 hm) _) (crecv_X5 C hw) cm_424 cm_425 cm_426 cm_266 cm_427 (by decide +kernel) rfl (by omega) (by omega) hl.1 rfl (Nat.le_of_ble_eq_true rfl) dX5_meant_23 (fun b H locs hw => ?_)
  exact cw_X5_meant_26 fu C hret x3 F1 G1 hm hw (lv_sub hl [2] rfl)
theorem cn_X5_meant_14 (fu : Nat) {res : Int32 × PF × PG} (x2 : Int32) (z0 : Int32) (F : PF) (G : PG) (hm : cb_X5_meant_14 fu x2 z0 F G = some res) : xn F ≤ xn res.2.1 := by
  unfold cb_X5_meant_14 at hm
  by_cases c_1 : z0 = (-1 : Int32)
  · have hm := (if_pos c_1).symm.trans hm
    exact (cn_X5_meant_20 fu x2 z0 F G hm)
  · have hm := (if_neg c_1).symm.trans hm
    exact (cn_X5_meant_26 fu z0 F G hm)
theorem cw_X5_meant_14 (fu : Nat) {res : Int32 × PF × PG} (C : cMC p R s m args c A v RX5 cX5_meant 4 1 22 (xn res.2.1 - xn K0)) (hret : ∀ (b1 : Nat) (H1 : Heap) (locs1 : List Loc) (ls1 : Array Slot) (pc : Nat), cMW s A v a b1 K0 res.2.1 res.2.2 H1 locs1 → narrow .int (.int res.1) = .int res.1 → decode cX5_meant pc = .ok (.ireturn, 1) → W p l e R s m args below meth c H1 locs1 (xn res.2.1 - xn K0) (2 * (xn res.2.1 - xn K0)) Q (F0 m pc ls1 [.int res.1])) (x2 : Int32) (z0 : Int32) (F : PF) (G : PG) (hm : cb_X5_meant_14 fu x2 z0 F G = some res) {b : Nat} {H : Heap} {locs : List Loc} (hw : cMW s A v a b K0 F G H locs) {ls : Array Slot} (hl : lv_has ls 4 [(0, .ref (a 205)), (2, .int x2)]) : W p l e R s m args below meth c H locs (xn F - xn K0) (2 * (xn F - xn K0)) Q (F0 m 14 ls [.int z0]) := by
  have hx := C.1
  have hb := C.2.1
  unfold cb_X5_meant_14 at hm
  refine lv_istore_n (lv' := [(3, .int z0), (0, .ref (a 205)), (2, .int x2)]) hx hb dX5_meant_14 rfl hl (by decide) rfl (fun ls hl => ?_)
  refine lv_iload_n hx hb dX5_meant_15 rfl (lv_at hl 0 rfl) ?_
  refine lv_iconst (v := (-1)) hx hb dX5_meant_16 (by decide) ?_
  refine lv_icmp_ne (tgt := 26) hx hb dX5_meant_17 (by decide) (fun c_1 => ?_) (fun c_1 => ?_)
  · have hm := (if_neg c_1).symm.trans hm
    exact cw_X5_meant_26 fu C hret z0 F G hm hw (lv_sub hl [0] rfl)
  · have hm := (if_pos c_1).symm.trans hm
    exact cw_X5_meant_20 fu C hret x2 z0 F G hm hw (lv_sub hl [1, 2, 0] rfl)
theorem cn_X5_meant_9 (fu : Nat) {res : Int32 × PF × PG} (x1 : Int32) (x2 : Int32) (F : PF) (G : PG) (hm : cb_X5_meant_9 fu x1 x2 F G = some res) : xn F ≤ xn res.2.1 := by
  unfold cb_X5_meant_9 at hm
  obtain ⟨⟨r1, F1, G1⟩, hc, hm⟩ := bind_elim hm
  exact Nat.le_trans (cn_X5_known fu x1 F G _ hc) (cn_X5_meant_14 fu x2 r1 F1 G1 hm)
theorem cw_X5_meant_9 (fu : Nat) {res : Int32 × PF × PG} (C : cMC p R s m args c A v RX5 cX5_meant 4 1 22 (xn res.2.1 - xn K0)) (hret : ∀ (b1 : Nat) (H1 : Heap) (locs1 : List Loc) (ls1 : Array Slot) (pc : Nat), cMW s A v a b1 K0 res.2.1 res.2.2 H1 locs1 → narrow .int (.int res.1) = .int res.1 → decode cX5_meant pc = .ok (.ireturn, 1) → W p l e R s m args below meth c H1 locs1 (xn res.2.1 - xn K0) (2 * (xn res.2.1 - xn K0)) Q (F0 m pc ls1 [.int res.1])) (x1 : Int32) (x2 : Int32) (F : PF) (G : PG) (hm : cb_X5_meant_9 fu x1 x2 F G = some res) {b : Nat} {H : Heap} {locs : List Loc} (hw : cMW s A v a b K0 F G H locs) {ls : Array Slot} (hl : lv_has ls 4 [(0, .ref (a 205)), (1, .int x1), (2, .int x2)]) : W p l e R s m args below meth c H locs (xn F - xn K0) (2 * (xn F - xn K0)) Q (F0 m 9 ls []) := by
  have hx := C.1
  have hb := C.2.1
  unfold cb_X5_meant_9 at hm
  refine lv_aload_n hx hb dX5_meant_9 rfl (lv_at hl 0 rfl) ?_
  refine lv_iload_n hx hb dX5_meant_10 rfl (lv_at hl 1 rfl) ?_
  obtain ⟨⟨r1, F1, G1⟩, hc, hm⟩ := bind_elim hm
  refine ccallI (n := 1) (As := [.int x1]) (rest := []) C hw (ck_X5_known l v a _ _ fu x1 F G r1 F1 G1 hc) (cn_X5_known fu x1 F G _ hc) (Nat.sub_le_sub_right (cn_X5_meant_14 fu x2 r1 F1 G1 hm) _) (crecv_X5 C hw) cm_420 cm_421 cm_422 cm_266 cm_423 (by decide +kernel) rfl (by omega) (by omega) hl.1 rfl (Nat.le_of_ble_eq_true rfl) dX5_meant_11 (fun b H locs hw => ?_)
  exact cw_X5_meant_14 fu C hret x2 r1 F1 G1 hm hw (lv_sub hl [0, 2] rfl)
theorem cn_X5_meant_7 (fu : Nat) {res : Int32 × PF × PG} (F : PF) (G : PG) (hm : cb_X5_meant_7 fu F G = some res) : xn F ≤ xn res.2.1 := by
  unfold cb_X5_meant_7 at hm
  obtain rfl := Option.some.inj hm
  exact Nat.le_refl _
theorem cw_X5_meant_7 (fu : Nat) {res : Int32 × PF × PG} (C : cMC p R s m args c A v RX5 cX5_meant 4 1 22 (xn res.2.1 - xn K0)) (hret : ∀ (b1 : Nat) (H1 : Heap) (locs1 : List Loc) (ls1 : Array Slot) (pc : Nat), cMW s A v a b1 K0 res.2.1 res.2.2 H1 locs1 → narrow .int (.int res.1) = .int res.1 → decode cX5_meant pc = .ok (.ireturn, 1) → W p l e R s m args below meth c H1 locs1 (xn res.2.1 - xn K0) (2 * (xn res.2.1 - xn K0)) Q (F0 m pc ls1 [.int res.1])) (F : PF) (G : PG) (hm : cb_X5_meant_7 fu F G = some res) {b : Nat} {H : Heap} {locs : List Loc} (hw : cMW s A v a b K0 F G H locs) {ls : Array Slot} (hl : lv_has ls 4 []) : W p l e R s m args below meth c H locs (xn F - xn K0) (2 * (xn F - xn K0)) Q (F0 m 7 ls []) := by
  have hx := C.1
  have hb := C.2.1
  unfold cb_X5_meant_7 at hm
  refine lv_iconst (v := (-1)) hx hb dX5_meant_7 (by decide) ?_
  obtain rfl := Option.some.inj hm
  exact hret _ _ _ _ _ hw rfl dX5_meant_8
theorem cn_X5_meant_0 (fu : Nat) {res : Int32 × PF × PG} (x1 : Int32) (x2 : Int32) (F : PF) (G : PG) (hm : cb_X5_meant_0 fu x1 x2 F G = some res) : xn F ≤ xn res.2.1 := by
  unfold cb_X5_meant_0 at hm
  by_cases c_1 : (F 45) = (0 : Int32)
  · have hm := (if_pos c_1).symm.trans hm
    exact (cn_X5_meant_7 fu F G hm)
  · have hm := (if_neg c_1).symm.trans hm
    exact (cn_X5_meant_9 fu x1 x2 F G hm)
theorem cw_X5_meant_0 (fu : Nat) {res : Int32 × PF × PG} (C : cMC p R s m args c A v RX5 cX5_meant 4 1 22 (xn res.2.1 - xn K0)) (hret : ∀ (b1 : Nat) (H1 : Heap) (locs1 : List Loc) (ls1 : Array Slot) (pc : Nat), cMW s A v a b1 K0 res.2.1 res.2.2 H1 locs1 → narrow .int (.int res.1) = .int res.1 → decode cX5_meant pc = .ok (.ireturn, 1) → W p l e R s m args below meth c H1 locs1 (xn res.2.1 - xn K0) (2 * (xn res.2.1 - xn K0)) Q (F0 m pc ls1 [.int res.1])) (x1 : Int32) (x2 : Int32) (F : PF) (G : PG) (hm : cb_X5_meant_0 fu x1 x2 F G = some res) {b : Nat} {H : Heap} {locs : List Loc} (hw : cMW s A v a b K0 F G H locs) {ls : Array Slot} (hl : lv_has ls 4 [(0, .ref (a 205)), (1, .int x1), (2, .int x2)]) : W p l e R s m args below meth c H locs (xn F - xn K0) (2 * (xn F - xn K0)) Q (F0 m 0 ls []) := by
  have hx := C.1
  have hb := C.2.1
  unfold cb_X5_meant_0 at hm
  refine lv_aload_n hx hb dX5_meant_0 rfl (lv_at hl 0 rfl) ?_
  refine cg_X5_53 C hw dX5_meant_1 ?_
  refine lv_if_ne (tgt := 9) hx hb dX5_meant_4 (by decide) (fun c_1 => ?_) (fun c_1 => ?_)
  · have hm := (if_neg c_1).symm.trans hm
    exact cw_X5_meant_9 fu C hret x1 x2 F G hm hw (lv_sub hl [0, 1, 2] rfl)
  · have hm := (if_pos c_1).symm.trans hm
    exact cw_X5_meant_7 fu C hret F G hm hw (lv_sub hl [] rfl)
theorem cn_X5_meant (fu : Nat) (x1 : Int32) (x2 : Int32) (F : PF) (G : PG) (q : Int32 × PF × PG) (hm : cf_X5_meant fu x1 x2 F G = some q) : xn F ≤ xn q.2.1 := cn_X5_meant_0 fu x1 x2 F G hm
theorem ck_X5_meant (l : Launch) (v : EV) (a : Nat → Nat) (b sz : Nat) (fu : Nat) (x1 : Int32) (x2 : Int32) (F : PF) (G : PG) (r : Int32) (F1 : PF) (G1 : PG) (hm : cf_X5_meant fu x1 x2 F G = some (r, F1, G1)) : cMI l yX5_meant cX5_meant 4 (some .int) 1 22 v a b sz [.ref (a 205), .int x1, .int x2] F G r F1 G1 := cMI.of (ty := .int) (by decide) rfl (Nat.le_of_ble_eq_true rfl) (fun p e R s m args below meth c Q A H locs ls C hw hl hret => cw_X5_meant_0 fu (res := (r, F1, G1)) C hret x1 x2 F G hm hw hl)
def cb_X8_gives_27 (fu : Nat) (z0 : Int32) (F : PF) (G : PG) : PR := if b01 z0 = true then (some (z0, F, G)) else none
def cb_X8_gives_26 (fu : Nat) (F : PF) (G : PG) : PR := cb_X8_gives_27 fu 0 F G
def cb_X8_gives_22 (fu : Nat) (F : PF) (G : PG) : PR := cb_X8_gives_27 fu 1 F G
def cb_X8_gives_12 (fu : Nat) (x1 : Int32) (F : PF) (G : PG) : PR := if ixb x1 450 = true then (if (G 82 x1.toNatClampNeg) = (1 : Int32) then cb_X8_gives_22 fu F G else cb_X8_gives_26 fu F G) else none
def cb_X8_gives_4 (fu : Nat) (x1 : Int32) (F : PF) (G : PG) : PR := if (F 74) ≤ x1 then cb_X8_gives_26 fu F G else cb_X8_gives_12 fu x1 F G
def cb_X8_gives_0 (fu : Nat) (x1 : Int32) (F : PF) (G : PG) : PR := if x1 < (0 : Int32) then cb_X8_gives_26 fu F G else cb_X8_gives_4 fu x1 F G
def cf_X8_gives (fu : Nat) (x1 : Int32) (F : PF) (G : PG) : PR := cb_X8_gives_0 fu x1 F G
theorem cn_X8_gives_27 (fu : Nat) {res : Int32 × PF × PG} (z0 : Int32) (F : PF) (G : PG) (hm : cb_X8_gives_27 fu z0 F G = some res) : xn F ≤ xn res.2.1 := by
  unfold cb_X8_gives_27 at hm
  have hm := (b01_elim hm).2
  obtain rfl := Option.some.inj hm
  exact Nat.le_refl _
theorem cw_X8_gives_27 (fu : Nat) {res : Int32 × PF × PG} (C : cMC p R s m args c A v RX8 cX8_gives 2 0 0 (xn res.2.1 - xn K0)) (hret : ∀ (b1 : Nat) (H1 : Heap) (locs1 : List Loc) (ls1 : Array Slot) (pc : Nat), cMW s A v a b1 K0 res.2.1 res.2.2 H1 locs1 → narrow .boolean (.int res.1) = .int res.1 → decode cX8_gives pc = .ok (.ireturn, 1) → W p l e R s m args below meth c H1 locs1 (xn res.2.1 - xn K0) (2 * (xn res.2.1 - xn K0)) Q (F0 m pc ls1 [.int res.1])) (z0 : Int32) (F : PF) (G : PG) (hm : cb_X8_gives_27 fu z0 F G = some res) {b : Nat} {H : Heap} {locs : List Loc} (hw : cMW s A v a b K0 F G H locs) {ls : Array Slot} (hl : lv_has ls 2 []) : W p l e R s m args below meth c H locs (xn F - xn K0) (2 * (xn F - xn K0)) Q (F0 m 27 ls [.int z0]) := by
  have hx := C.1
  have hb := C.2.1
  unfold cb_X8_gives_27 at hm
  obtain ⟨hz, hm⟩ := b01_elim hm
  obtain rfl := Option.some.inj hm
  exact hret _ _ _ _ _ hw (b01_nar hz) dX8_gives_27
theorem cn_X8_gives_26 (fu : Nat) {res : Int32 × PF × PG} (F : PF) (G : PG) (hm : cb_X8_gives_26 fu F G = some res) : xn F ≤ xn res.2.1 := by
  unfold cb_X8_gives_26 at hm
  exact (cn_X8_gives_27 fu 0 F G hm)
theorem cw_X8_gives_26 (fu : Nat) {res : Int32 × PF × PG} (C : cMC p R s m args c A v RX8 cX8_gives 2 0 0 (xn res.2.1 - xn K0)) (hret : ∀ (b1 : Nat) (H1 : Heap) (locs1 : List Loc) (ls1 : Array Slot) (pc : Nat), cMW s A v a b1 K0 res.2.1 res.2.2 H1 locs1 → narrow .boolean (.int res.1) = .int res.1 → decode cX8_gives pc = .ok (.ireturn, 1) → W p l e R s m args below meth c H1 locs1 (xn res.2.1 - xn K0) (2 * (xn res.2.1 - xn K0)) Q (F0 m pc ls1 [.int res.1])) (F : PF) (G : PG) (hm : cb_X8_gives_26 fu F G = some res) {b : Nat} {H : Heap} {locs : List Loc} (hw : cMW s A v a b K0 F G H locs) {ls : Array Slot} (hl : lv_has ls 2 []) : W p l e R s m args below meth c H locs (xn F - xn K0) (2 * (xn F - xn K0)) Q (F0 m 26 ls []) := by
  have hx := C.1
  have hb := C.2.1
  unfold cb_X8_gives_26 at hm
  refine lv_iconst (v := 0) hx hb dX8_gives_26 (by decide) ?_
  exact cw_X8_gives_27 fu C hret 0 F G hm hw (lv_sub hl [] rfl)
theorem cn_X8_gives_22 (fu : Nat) {res : Int32 × PF × PG} (F : PF) (G : PG) (hm : cb_X8_gives_22 fu F G = some res) : xn F ≤ xn res.2.1 := by
  unfold cb_X8_gives_22 at hm
  exact (cn_X8_gives_27 fu 1 F G hm)
theorem cw_X8_gives_22 (fu : Nat) {res : Int32 × PF × PG} (C : cMC p R s m args c A v RX8 cX8_gives 2 0 0 (xn res.2.1 - xn K0)) (hret : ∀ (b1 : Nat) (H1 : Heap) (locs1 : List Loc) (ls1 : Array Slot) (pc : Nat), cMW s A v a b1 K0 res.2.1 res.2.2 H1 locs1 → narrow .boolean (.int res.1) = .int res.1 → decode cX8_gives pc = .ok (.ireturn, 1) → W p l e R s m args below meth c H1 locs1 (xn res.2.1 - xn K0) (2 * (xn res.2.1 - xn K0)) Q (F0 m pc ls1 [.int res.1])) (F : PF) (G : PG) (hm : cb_X8_gives_22 fu F G = some res) {b : Nat} {H : Heap} {locs : List Loc} (hw : cMW s A v a b K0 F G H locs) {ls : Array Slot} (hl : lv_has ls 2 []) : W p l e R s m args below meth c H locs (xn F - xn K0) (2 * (xn F - xn K0)) Q (F0 m 22 ls []) := by
  have hx := C.1
  have hb := C.2.1
  unfold cb_X8_gives_22 at hm
  refine lv_iconst (v := 1) hx hb dX8_gives_22 (by decide) ?_
  refine lv_goto (tgt := 27) hx hb dX8_gives_23 (by decide) ?_
  exact cw_X8_gives_27 fu C hret 1 F G hm hw (lv_sub hl [] rfl)
theorem cn_X8_gives_12 (fu : Nat) {res : Int32 × PF × PG} (x1 : Int32) (F : PF) (G : PG) (hm : cb_X8_gives_12 fu x1 F G = some res) : xn F ≤ xn res.2.1 := by
  unfold cb_X8_gives_12 at hm
  have hm := (ix_elim hm).2
  by_cases c_1 : (G 82 x1.toNatClampNeg) = (1 : Int32)
  · have hm := (if_pos c_1).symm.trans hm
    exact (cn_X8_gives_22 fu F G hm)
  · have hm := (if_neg c_1).symm.trans hm
    exact (cn_X8_gives_26 fu F G hm)
theorem cw_X8_gives_12 (fu : Nat) {res : Int32 × PF × PG} (C : cMC p R s m args c A v RX8 cX8_gives 2 0 0 (xn res.2.1 - xn K0)) (hret : ∀ (b1 : Nat) (H1 : Heap) (locs1 : List Loc) (ls1 : Array Slot) (pc : Nat), cMW s A v a b1 K0 res.2.1 res.2.2 H1 locs1 → narrow .boolean (.int res.1) = .int res.1 → decode cX8_gives pc = .ok (.ireturn, 1) → W p l e R s m args below meth c H1 locs1 (xn res.2.1 - xn K0) (2 * (xn res.2.1 - xn K0)) Q (F0 m pc ls1 [.int res.1])) (x1 : Int32) (F : PF) (G : PG) (hm : cb_X8_gives_12 fu x1 F G = some res) {b : Nat} {H : Heap} {locs : List Loc} (hw : cMW s A v a b K0 F G H locs) {ls : Array Slot} (hl : lv_has ls 2 [(0, .ref (a 208)), (1, .int x1)]) : W p l e R s m args below meth c H locs (xn F - xn K0) (2 * (xn F - xn K0)) Q (F0 m 12 ls []) := by
  have hx := C.1
  have hb := C.2.1
  unfold cb_X8_gives_12 at hm
  refine lv_aload_n hx hb dX8_gives_12 rfl (lv_at hl 0 rfl) ?_
  refine cg_X8_27 C hw dX8_gives_13 ?_
  refine lv_iload_n hx hb dX8_gives_16 rfl (lv_at hl 1 rfl) ?_
  obtain ⟨hi, hm⟩ := ix_elim hm
  refine cal_82 C hw hi dX8_gives_17 ?_
  refine lv_iconst (v := 1) hx hb dX8_gives_18 (by decide) ?_
  refine lv_icmp_ne (tgt := 26) hx hb dX8_gives_19 (by decide) (fun c_1 => ?_) (fun c_1 => ?_)
  · have hm := (if_neg c_1).symm.trans hm
    exact cw_X8_gives_26 fu C hret F G hm hw (lv_sub hl [] rfl)
  · have hm := (if_pos c_1).symm.trans hm
    exact cw_X8_gives_22 fu C hret F G hm hw (lv_sub hl [] rfl)
theorem cn_X8_gives_4 (fu : Nat) {res : Int32 × PF × PG} (x1 : Int32) (F : PF) (G : PG) (hm : cb_X8_gives_4 fu x1 F G = some res) : xn F ≤ xn res.2.1 := by
  unfold cb_X8_gives_4 at hm
  by_cases c_1 : (F 74) ≤ x1
  · have hm := (if_pos c_1).symm.trans hm
    exact (cn_X8_gives_26 fu F G hm)
  · have hm := (if_neg c_1).symm.trans hm
    exact (cn_X8_gives_12 fu x1 F G hm)
theorem cw_X8_gives_4 (fu : Nat) {res : Int32 × PF × PG} (C : cMC p R s m args c A v RX8 cX8_gives 2 0 0 (xn res.2.1 - xn K0)) (hret : ∀ (b1 : Nat) (H1 : Heap) (locs1 : List Loc) (ls1 : Array Slot) (pc : Nat), cMW s A v a b1 K0 res.2.1 res.2.2 H1 locs1 → narrow .boolean (.int res.1) = .int res.1 → decode cX8_gives pc = .ok (.ireturn, 1) → W p l e R s m args below meth c H1 locs1 (xn res.2.1 - xn K0) (2 * (xn res.2.1 - xn K0)) Q (F0 m pc ls1 [.int res.1])) (x1 : Int32) (F : PF) (G : PG) (hm : cb_X8_gives_4 fu x1 F G = some res) {b : Nat} {H : Heap} {locs : List Loc} (hw : cMW s A v a b K0 F G H locs) {ls : Array Slot} (hl : lv_has ls 2 [(0, .ref (a 208)), (1, .int x1)]) : W p l e R s m args below meth c H locs (xn F - xn K0) (2 * (xn F - xn K0)) Q (F0 m 4 ls []) := by
  have hx := C.1
  have hb := C.2.1
  unfold cb_X8_gives_4 at hm
  refine lv_iload_n hx hb dX8_gives_4 rfl (lv_at hl 1 rfl) ?_
  refine lv_aload_n hx hb dX8_gives_5 rfl (lv_at hl 0 rfl) ?_
  refine cg_X8_43 C hw dX8_gives_6 ?_
  refine lv_icmp_ge (tgt := 26) hx hb dX8_gives_9 (by decide) (fun c_1 => ?_) (fun c_1 => ?_)
  · have hm := (if_pos c_1).symm.trans hm
    exact cw_X8_gives_26 fu C hret F G hm hw (lv_sub hl [] rfl)
  · have hm := (if_neg c_1).symm.trans hm
    exact cw_X8_gives_12 fu C hret x1 F G hm hw (lv_sub hl [0, 1] rfl)
theorem cn_X8_gives_0 (fu : Nat) {res : Int32 × PF × PG} (x1 : Int32) (F : PF) (G : PG) (hm : cb_X8_gives_0 fu x1 F G = some res) : xn F ≤ xn res.2.1 := by
  unfold cb_X8_gives_0 at hm
  by_cases c_1 : x1 < (0 : Int32)
  · have hm := (if_pos c_1).symm.trans hm
    exact (cn_X8_gives_26 fu F G hm)
  · have hm := (if_neg c_1).symm.trans hm
    exact (cn_X8_gives_4 fu x1 F G hm)
theorem cw_X8_gives_0 (fu : Nat) {res : Int32 × PF × PG} (C : cMC p R s m args c A v RX8 cX8_gives 2 0 0 (xn res.2.1 - xn K0)) (hret : ∀ (b1 : Nat) (H1 : Heap) (locs1 : List Loc) (ls1 : Array Slot) (pc : Nat), cMW s A v a b1 K0 res.2.1 res.2.2 H1 locs1 → narrow .boolean (.int res.1) = .int res.1 → decode cX8_gives pc = .ok (.ireturn, 1) → W p l e R s m args below meth c H1 locs1 (xn res.2.1 - xn K0) (2 * (xn res.2.1 - xn K0)) Q (F0 m pc ls1 [.int res.1])) (x1 : Int32) (F : PF) (G : PG) (hm : cb_X8_gives_0 fu x1 F G = some res) {b : Nat} {H : Heap} {locs : List Loc} (hw : cMW s A v a b K0 F G H locs) {ls : Array Slot} (hl : lv_has ls 2 [(0, .ref (a 208)), (1, .int x1)]) : W p l e R s m args below meth c H locs (xn F - xn K0) (2 * (xn F - xn K0)) Q (F0 m 0 ls []) := by
  have hx := C.1
  have hb := C.2.1
  unfold cb_X8_gives_0 at hm
  refine lv_iload_n hx hb dX8_gives_0 rfl (lv_at hl 1 rfl) ?_
  refine lv_if_lt (tgt := 26) hx hb dX8_gives_1 (by decide) (fun c_1 => ?_) (fun c_1 => ?_)
  · have hm := (if_pos c_1).symm.trans hm
    exact cw_X8_gives_26 fu C hret F G hm hw (lv_sub hl [] rfl)
  · have hm := (if_neg c_1).symm.trans hm
    exact cw_X8_gives_4 fu C hret x1 F G hm hw (lv_sub hl [0, 1] rfl)
theorem cn_X8_gives (fu : Nat) (x1 : Int32) (F : PF) (G : PG) (q : Int32 × PF × PG) (hm : cf_X8_gives fu x1 F G = some q) : xn F ≤ xn q.2.1 := cn_X8_gives_0 fu x1 F G hm
theorem ck_X8_gives (l : Launch) (v : EV) (a : Nat → Nat) (b sz : Nat) (fu : Nat) (x1 : Int32) (F : PF) (G : PG) (r : Int32) (F1 : PF) (G1 : PG) (hm : cf_X8_gives fu x1 F G = some (r, F1, G1)) : cMI l yX8_gives cX8_gives 2 (some .boolean) 0 0 v a b sz [.ref (a 208), .int x1] F G r F1 G1 := cMI.of (ty := .boolean) (by decide) rfl (Nat.le_of_ble_eq_true rfl) (fun p e R s m args below meth c Q A H locs ls C hw hl hret => cw_X8_gives_0 fu (res := (r, F1, G1)) C hret x1 F G hm hw hl)
def cb_X5_fits_51 (fu : Nat) (z0 : Int32) (F : PF) (G : PG) : PR := if b01 z0 = true then (some (z0, F, G)) else none
def cb_X5_fits_50 (fu : Nat) (F : PF) (G : PG) : PR := cb_X5_fits_51 fu 0 F G
def cb_X5_fits_46 (fu : Nat) (F : PF) (G : PG) : PR := cb_X5_fits_51 fu 1 F G
def cb_X5_fits_41 (fu : Nat) (x0 : Int32) (F : PF) (G : PG) : PR := if x0 = (1 : Int32) then cb_X5_fits_46 fu F G else cb_X5_fits_50 fu F G
def cb_X5_fits_33 (fu : Nat) (F : PF) (G : PG) : PR := cb_X5_fits_51 fu 1 F G
def cb_X5_fits_37 (fu : Nat) (F : PF) (G : PG) : PR := cb_X5_fits_51 fu 0 F G
def cb_X5_fits_28 (fu : Nat) (x0 : Int32) (F : PF) (G : PG) : PR := if x0 = (3 : Int32) then cb_X5_fits_33 fu F G else cb_X5_fits_37 fu F G
def cb_X5_fits_23 (fu : Nat) (x0 : Int32) (F : PF) (G : PG) : PR := if x0 = (2 : Int32) then cb_X5_fits_33 fu F G else cb_X5_fits_28 fu x0 F G
def cb_X5_fits_17 (fu : Nat) (x0 : Int32) (x1 : Int32) (F : PF) (G : PG) : PR := if x1 = (21 : Int32) then cb_X5_fits_23 fu x0 F G else cb_X5_fits_41 fu x0 F G
def cb_X5_fits_16 (fu : Nat) (z0 : Int32) (F : PF) (G : PG) : PR := if b01 z0 = true then (some (z0, F, G)) else none
def cb_X5_fits_15 (fu : Nat) (F : PF) (G : PG) : PR := cb_X5_fits_16 fu 0 F G
def cb_X5_fits_11 (fu : Nat) (F : PF) (G : PG) : PR := cb_X5_fits_16 fu 1 F G
def cb_X5_fits_6 (fu : Nat) (x0 : Int32) (F : PF) (G : PG) : PR := if x0 = (4 : Int32) then cb_X5_fits_11 fu F G else cb_X5_fits_15 fu F G
def cb_X5_fits_0 (fu : Nat) (x0 : Int32) (x1 : Int32) (F : PF) (G : PG) : PR := if x1 = (19 : Int32) then cb_X5_fits_6 fu x0 F G else cb_X5_fits_17 fu x0 x1 F G
def cf_X5_fits (fu : Nat) (x0 : Int32) (x1 : Int32) (F : PF) (G : PG) : PR := cb_X5_fits_0 fu x0 x1 F G
theorem cn_X5_fits_51 (fu : Nat) {res : Int32 × PF × PG} (z0 : Int32) (F : PF) (G : PG) (hm : cb_X5_fits_51 fu z0 F G = some res) : xn F ≤ xn res.2.1 := by
  unfold cb_X5_fits_51 at hm
  have hm := (b01_elim hm).2
  obtain rfl := Option.some.inj hm
  exact Nat.le_refl _
theorem cw_X5_fits_51 (fu : Nat) {res : Int32 × PF × PG} (C : cMC p R s m args c A v RX5 cX5_fits 2 0 0 (xn res.2.1 - xn K0)) (hret : ∀ (b1 : Nat) (H1 : Heap) (locs1 : List Loc) (ls1 : Array Slot) (pc : Nat), cMW s A v a b1 K0 res.2.1 res.2.2 H1 locs1 → narrow .boolean (.int res.1) = .int res.1 → decode cX5_fits pc = .ok (.ireturn, 1) → W p l e R s m args below meth c H1 locs1 (xn res.2.1 - xn K0) (2 * (xn res.2.1 - xn K0)) Q (F0 m pc ls1 [.int res.1])) (z0 : Int32) (F : PF) (G : PG) (hm : cb_X5_fits_51 fu z0 F G = some res) {b : Nat} {H : Heap} {locs : List Loc} (hw : cMW s A v a b K0 F G H locs) {ls : Array Slot} (hl : lv_has ls 2 []) : W p l e R s m args below meth c H locs (xn F - xn K0) (2 * (xn F - xn K0)) Q (F0 m 51 ls [.int z0]) := by
  have hx := C.1
  have hb := C.2.1
  unfold cb_X5_fits_51 at hm
  obtain ⟨hz, hm⟩ := b01_elim hm
  obtain rfl := Option.some.inj hm
  exact hret _ _ _ _ _ hw (b01_nar hz) dX5_fits_51
theorem cn_X5_fits_50 (fu : Nat) {res : Int32 × PF × PG} (F : PF) (G : PG) (hm : cb_X5_fits_50 fu F G = some res) : xn F ≤ xn res.2.1 := by
  unfold cb_X5_fits_50 at hm
  exact (cn_X5_fits_51 fu 0 F G hm)
theorem cw_X5_fits_50 (fu : Nat) {res : Int32 × PF × PG} (C : cMC p R s m args c A v RX5 cX5_fits 2 0 0 (xn res.2.1 - xn K0)) (hret : ∀ (b1 : Nat) (H1 : Heap) (locs1 : List Loc) (ls1 : Array Slot) (pc : Nat), cMW s A v a b1 K0 res.2.1 res.2.2 H1 locs1 → narrow .boolean (.int res.1) = .int res.1 → decode cX5_fits pc = .ok (.ireturn, 1) → W p l e R s m args below meth c H1 locs1 (xn res.2.1 - xn K0) (2 * (xn res.2.1 - xn K0)) Q (F0 m pc ls1 [.int res.1])) (F : PF) (G : PG) (hm : cb_X5_fits_50 fu F G = some res) {b : Nat} {H : Heap} {locs : List Loc} (hw : cMW s A v a b K0 F G H locs) {ls : Array Slot} (hl : lv_has ls 2 []) : W p l e R s m args below meth c H locs (xn F - xn K0) (2 * (xn F - xn K0)) Q (F0 m 50 ls []) := by
  have hx := C.1
  have hb := C.2.1
  unfold cb_X5_fits_50 at hm
  refine lv_iconst (v := 0) hx hb dX5_fits_50 (by decide) ?_
  exact cw_X5_fits_51 fu C hret 0 F G hm hw (lv_sub hl [] rfl)
theorem cn_X5_fits_46 (fu : Nat) {res : Int32 × PF × PG} (F : PF) (G : PG) (hm : cb_X5_fits_46 fu F G = some res) : xn F ≤ xn res.2.1 := by
  unfold cb_X5_fits_46 at hm
  exact (cn_X5_fits_51 fu 1 F G hm)
theorem cw_X5_fits_46 (fu : Nat) {res : Int32 × PF × PG} (C : cMC p R s m args c A v RX5 cX5_fits 2 0 0 (xn res.2.1 - xn K0)) (hret : ∀ (b1 : Nat) (H1 : Heap) (locs1 : List Loc) (ls1 : Array Slot) (pc : Nat), cMW s A v a b1 K0 res.2.1 res.2.2 H1 locs1 → narrow .boolean (.int res.1) = .int res.1 → decode cX5_fits pc = .ok (.ireturn, 1) → W p l e R s m args below meth c H1 locs1 (xn res.2.1 - xn K0) (2 * (xn res.2.1 - xn K0)) Q (F0 m pc ls1 [.int res.1])) (F : PF) (G : PG) (hm : cb_X5_fits_46 fu F G = some res) {b : Nat} {H : Heap} {locs : List Loc} (hw : cMW s A v a b K0 F G H locs) {ls : Array Slot} (hl : lv_has ls 2 []) : W p l e R s m args below meth c H locs (xn F - xn K0) (2 * (xn F - xn K0)) Q (F0 m 46 ls []) := by
  have hx := C.1
  have hb := C.2.1
  unfold cb_X5_fits_46 at hm
  refine lv_iconst (v := 1) hx hb dX5_fits_46 (by decide) ?_
  refine lv_goto (tgt := 51) hx hb dX5_fits_47 (by decide) ?_
  exact cw_X5_fits_51 fu C hret 1 F G hm hw (lv_sub hl [] rfl)
theorem cn_X5_fits_41 (fu : Nat) {res : Int32 × PF × PG} (x0 : Int32) (F : PF) (G : PG) (hm : cb_X5_fits_41 fu x0 F G = some res) : xn F ≤ xn res.2.1 := by
  unfold cb_X5_fits_41 at hm
  by_cases c_1 : x0 = (1 : Int32)
  · have hm := (if_pos c_1).symm.trans hm
    exact (cn_X5_fits_46 fu F G hm)
  · have hm := (if_neg c_1).symm.trans hm
    exact (cn_X5_fits_50 fu F G hm)
theorem cw_X5_fits_41 (fu : Nat) {res : Int32 × PF × PG} (C : cMC p R s m args c A v RX5 cX5_fits 2 0 0 (xn res.2.1 - xn K0)) (hret : ∀ (b1 : Nat) (H1 : Heap) (locs1 : List Loc) (ls1 : Array Slot) (pc : Nat), cMW s A v a b1 K0 res.2.1 res.2.2 H1 locs1 → narrow .boolean (.int res.1) = .int res.1 → decode cX5_fits pc = .ok (.ireturn, 1) → W p l e R s m args below meth c H1 locs1 (xn res.2.1 - xn K0) (2 * (xn res.2.1 - xn K0)) Q (F0 m pc ls1 [.int res.1])) (x0 : Int32) (F : PF) (G : PG) (hm : cb_X5_fits_41 fu x0 F G = some res) {b : Nat} {H : Heap} {locs : List Loc} (hw : cMW s A v a b K0 F G H locs) {ls : Array Slot} (hl : lv_has ls 2 [(0, .int x0)]) : W p l e R s m args below meth c H locs (xn F - xn K0) (2 * (xn F - xn K0)) Q (F0 m 41 ls []) := by
  have hx := C.1
  have hb := C.2.1
  unfold cb_X5_fits_41 at hm
  refine lv_iload_n hx hb dX5_fits_41 rfl (lv_at hl 0 rfl) ?_
  refine lv_iconst (v := 1) hx hb dX5_fits_42 (by decide) ?_
  refine lv_icmp_ne (tgt := 50) hx hb dX5_fits_43 (by decide) (fun c_1 => ?_) (fun c_1 => ?_)
  · have hm := (if_neg c_1).symm.trans hm
    exact cw_X5_fits_50 fu C hret F G hm hw (lv_sub hl [] rfl)
  · have hm := (if_pos c_1).symm.trans hm
    exact cw_X5_fits_46 fu C hret F G hm hw (lv_sub hl [] rfl)
theorem cn_X5_fits_33 (fu : Nat) {res : Int32 × PF × PG} (F : PF) (G : PG) (hm : cb_X5_fits_33 fu F G = some res) : xn F ≤ xn res.2.1 := by
  unfold cb_X5_fits_33 at hm
  exact (cn_X5_fits_51 fu 1 F G hm)
theorem cw_X5_fits_33 (fu : Nat) {res : Int32 × PF × PG} (C : cMC p R s m args c A v RX5 cX5_fits 2 0 0 (xn res.2.1 - xn K0)) (hret : ∀ (b1 : Nat) (H1 : Heap) (locs1 : List Loc) (ls1 : Array Slot) (pc : Nat), cMW s A v a b1 K0 res.2.1 res.2.2 H1 locs1 → narrow .boolean (.int res.1) = .int res.1 → decode cX5_fits pc = .ok (.ireturn, 1) → W p l e R s m args below meth c H1 locs1 (xn res.2.1 - xn K0) (2 * (xn res.2.1 - xn K0)) Q (F0 m pc ls1 [.int res.1])) (F : PF) (G : PG) (hm : cb_X5_fits_33 fu F G = some res) {b : Nat} {H : Heap} {locs : List Loc} (hw : cMW s A v a b K0 F G H locs) {ls : Array Slot} (hl : lv_has ls 2 []) : W p l e R s m args below meth c H locs (xn F - xn K0) (2 * (xn F - xn K0)) Q (F0 m 33 ls []) := by
  have hx := C.1
  have hb := C.2.1
  unfold cb_X5_fits_33 at hm
  refine lv_iconst (v := 1) hx hb dX5_fits_33 (by decide) ?_
  refine lv_goto (tgt := 51) hx hb dX5_fits_34 (by decide) ?_
  exact cw_X5_fits_51 fu C hret 1 F G hm hw (lv_sub hl [] rfl)
theorem cn_X5_fits_37 (fu : Nat) {res : Int32 × PF × PG} (F : PF) (G : PG) (hm : cb_X5_fits_37 fu F G = some res) : xn F ≤ xn res.2.1 := by
  unfold cb_X5_fits_37 at hm
  exact (cn_X5_fits_51 fu 0 F G hm)
theorem cw_X5_fits_37 (fu : Nat) {res : Int32 × PF × PG} (C : cMC p R s m args c A v RX5 cX5_fits 2 0 0 (xn res.2.1 - xn K0)) (hret : ∀ (b1 : Nat) (H1 : Heap) (locs1 : List Loc) (ls1 : Array Slot) (pc : Nat), cMW s A v a b1 K0 res.2.1 res.2.2 H1 locs1 → narrow .boolean (.int res.1) = .int res.1 → decode cX5_fits pc = .ok (.ireturn, 1) → W p l e R s m args below meth c H1 locs1 (xn res.2.1 - xn K0) (2 * (xn res.2.1 - xn K0)) Q (F0 m pc ls1 [.int res.1])) (F : PF) (G : PG) (hm : cb_X5_fits_37 fu F G = some res) {b : Nat} {H : Heap} {locs : List Loc} (hw : cMW s A v a b K0 F G H locs) {ls : Array Slot} (hl : lv_has ls 2 []) : W p l e R s m args below meth c H locs (xn F - xn K0) (2 * (xn F - xn K0)) Q (F0 m 37 ls []) := by
  have hx := C.1
  have hb := C.2.1
  unfold cb_X5_fits_37 at hm
  refine lv_iconst (v := 0) hx hb dX5_fits_37 (by decide) ?_
  refine lv_goto (tgt := 51) hx hb dX5_fits_38 (by decide) ?_
  exact cw_X5_fits_51 fu C hret 0 F G hm hw (lv_sub hl [] rfl)
theorem cn_X5_fits_28 (fu : Nat) {res : Int32 × PF × PG} (x0 : Int32) (F : PF) (G : PG) (hm : cb_X5_fits_28 fu x0 F G = some res) : xn F ≤ xn res.2.1 := by
  unfold cb_X5_fits_28 at hm
  by_cases c_1 : x0 = (3 : Int32)
  · have hm := (if_pos c_1).symm.trans hm
    exact (cn_X5_fits_33 fu F G hm)
  · have hm := (if_neg c_1).symm.trans hm
    exact (cn_X5_fits_37 fu F G hm)
theorem cw_X5_fits_28 (fu : Nat) {res : Int32 × PF × PG} (C : cMC p R s m args c A v RX5 cX5_fits 2 0 0 (xn res.2.1 - xn K0)) (hret : ∀ (b1 : Nat) (H1 : Heap) (locs1 : List Loc) (ls1 : Array Slot) (pc : Nat), cMW s A v a b1 K0 res.2.1 res.2.2 H1 locs1 → narrow .boolean (.int res.1) = .int res.1 → decode cX5_fits pc = .ok (.ireturn, 1) → W p l e R s m args below meth c H1 locs1 (xn res.2.1 - xn K0) (2 * (xn res.2.1 - xn K0)) Q (F0 m pc ls1 [.int res.1])) (x0 : Int32) (F : PF) (G : PG) (hm : cb_X5_fits_28 fu x0 F G = some res) {b : Nat} {H : Heap} {locs : List Loc} (hw : cMW s A v a b K0 F G H locs) {ls : Array Slot} (hl : lv_has ls 2 [(0, .int x0)]) : W p l e R s m args below meth c H locs (xn F - xn K0) (2 * (xn F - xn K0)) Q (F0 m 28 ls []) := by
  have hx := C.1
  have hb := C.2.1
  unfold cb_X5_fits_28 at hm
  refine lv_iload_n hx hb dX5_fits_28 rfl (lv_at hl 0 rfl) ?_
  refine lv_iconst (v := 3) hx hb dX5_fits_29 (by decide) ?_
  refine lv_icmp_ne (tgt := 37) hx hb dX5_fits_30 (by decide) (fun c_1 => ?_) (fun c_1 => ?_)
  · have hm := (if_neg c_1).symm.trans hm
    exact cw_X5_fits_37 fu C hret F G hm hw (lv_sub hl [] rfl)
  · have hm := (if_pos c_1).symm.trans hm
    exact cw_X5_fits_33 fu C hret F G hm hw (lv_sub hl [] rfl)
theorem cn_X5_fits_23 (fu : Nat) {res : Int32 × PF × PG} (x0 : Int32) (F : PF) (G : PG) (hm : cb_X5_fits_23 fu x0 F G = some res) : xn F ≤ xn res.2.1 := by
  unfold cb_X5_fits_23 at hm
  by_cases c_1 : x0 = (2 : Int32)
  · have hm := (if_pos c_1).symm.trans hm
    exact (cn_X5_fits_33 fu F G hm)
  · have hm := (if_neg c_1).symm.trans hm
    exact (cn_X5_fits_28 fu x0 F G hm)
theorem cw_X5_fits_23 (fu : Nat) {res : Int32 × PF × PG} (C : cMC p R s m args c A v RX5 cX5_fits 2 0 0 (xn res.2.1 - xn K0)) (hret : ∀ (b1 : Nat) (H1 : Heap) (locs1 : List Loc) (ls1 : Array Slot) (pc : Nat), cMW s A v a b1 K0 res.2.1 res.2.2 H1 locs1 → narrow .boolean (.int res.1) = .int res.1 → decode cX5_fits pc = .ok (.ireturn, 1) → W p l e R s m args below meth c H1 locs1 (xn res.2.1 - xn K0) (2 * (xn res.2.1 - xn K0)) Q (F0 m pc ls1 [.int res.1])) (x0 : Int32) (F : PF) (G : PG) (hm : cb_X5_fits_23 fu x0 F G = some res) {b : Nat} {H : Heap} {locs : List Loc} (hw : cMW s A v a b K0 F G H locs) {ls : Array Slot} (hl : lv_has ls 2 [(0, .int x0)]) : W p l e R s m args below meth c H locs (xn F - xn K0) (2 * (xn F - xn K0)) Q (F0 m 23 ls []) := by
  have hx := C.1
  have hb := C.2.1
  unfold cb_X5_fits_23 at hm
  refine lv_iload_n hx hb dX5_fits_23 rfl (lv_at hl 0 rfl) ?_
  refine lv_iconst (v := 2) hx hb dX5_fits_24 (by decide) ?_
  refine lv_icmp_eq (tgt := 33) hx hb dX5_fits_25 (by decide) (fun c_1 => ?_) (fun c_1 => ?_)
  · have hm := (if_pos c_1).symm.trans hm
    exact cw_X5_fits_33 fu C hret F G hm hw (lv_sub hl [] rfl)
  · have hm := (if_neg c_1).symm.trans hm
    exact cw_X5_fits_28 fu C hret x0 F G hm hw (lv_sub hl [0] rfl)
theorem cn_X5_fits_17 (fu : Nat) {res : Int32 × PF × PG} (x0 : Int32) (x1 : Int32) (F : PF) (G : PG) (hm : cb_X5_fits_17 fu x0 x1 F G = some res) : xn F ≤ xn res.2.1 := by
  unfold cb_X5_fits_17 at hm
  by_cases c_1 : x1 = (21 : Int32)
  · have hm := (if_pos c_1).symm.trans hm
    exact (cn_X5_fits_23 fu x0 F G hm)
  · have hm := (if_neg c_1).symm.trans hm
    exact (cn_X5_fits_41 fu x0 F G hm)
theorem cw_X5_fits_17 (fu : Nat) {res : Int32 × PF × PG} (C : cMC p R s m args c A v RX5 cX5_fits 2 0 0 (xn res.2.1 - xn K0)) (hret : ∀ (b1 : Nat) (H1 : Heap) (locs1 : List Loc) (ls1 : Array Slot) (pc : Nat), cMW s A v a b1 K0 res.2.1 res.2.2 H1 locs1 → narrow .boolean (.int res.1) = .int res.1 → decode cX5_fits pc = .ok (.ireturn, 1) → W p l e R s m args below meth c H1 locs1 (xn res.2.1 - xn K0) (2 * (xn res.2.1 - xn K0)) Q (F0 m pc ls1 [.int res.1])) (x0 : Int32) (x1 : Int32) (F : PF) (G : PG) (hm : cb_X5_fits_17 fu x0 x1 F G = some res) {b : Nat} {H : Heap} {locs : List Loc} (hw : cMW s A v a b K0 F G H locs) {ls : Array Slot} (hl : lv_has ls 2 [(0, .int x0), (1, .int x1)]) : W p l e R s m args below meth c H locs (xn F - xn K0) (2 * (xn F - xn K0)) Q (F0 m 17 ls []) := by
  have hx := C.1
  have hb := C.2.1
  unfold cb_X5_fits_17 at hm
  refine lv_iload_n hx hb dX5_fits_17 rfl (lv_at hl 1 rfl) ?_
  refine lv_bipush (v := 21) hx hb dX5_fits_18 (by decide) ?_
  refine lv_icmp_ne (tgt := 41) hx hb dX5_fits_20 (by decide) (fun c_1 => ?_) (fun c_1 => ?_)
  · have hm := (if_neg c_1).symm.trans hm
    exact cw_X5_fits_41 fu C hret x0 F G hm hw (lv_sub hl [0] rfl)
  · have hm := (if_pos c_1).symm.trans hm
    exact cw_X5_fits_23 fu C hret x0 F G hm hw (lv_sub hl [0] rfl)
theorem cn_X5_fits_16 (fu : Nat) {res : Int32 × PF × PG} (z0 : Int32) (F : PF) (G : PG) (hm : cb_X5_fits_16 fu z0 F G = some res) : xn F ≤ xn res.2.1 := by
  unfold cb_X5_fits_16 at hm
  have hm := (b01_elim hm).2
  obtain rfl := Option.some.inj hm
  exact Nat.le_refl _
theorem cw_X5_fits_16 (fu : Nat) {res : Int32 × PF × PG} (C : cMC p R s m args c A v RX5 cX5_fits 2 0 0 (xn res.2.1 - xn K0)) (hret : ∀ (b1 : Nat) (H1 : Heap) (locs1 : List Loc) (ls1 : Array Slot) (pc : Nat), cMW s A v a b1 K0 res.2.1 res.2.2 H1 locs1 → narrow .boolean (.int res.1) = .int res.1 → decode cX5_fits pc = .ok (.ireturn, 1) → W p l e R s m args below meth c H1 locs1 (xn res.2.1 - xn K0) (2 * (xn res.2.1 - xn K0)) Q (F0 m pc ls1 [.int res.1])) (z0 : Int32) (F : PF) (G : PG) (hm : cb_X5_fits_16 fu z0 F G = some res) {b : Nat} {H : Heap} {locs : List Loc} (hw : cMW s A v a b K0 F G H locs) {ls : Array Slot} (hl : lv_has ls 2 []) : W p l e R s m args below meth c H locs (xn F - xn K0) (2 * (xn F - xn K0)) Q (F0 m 16 ls [.int z0]) := by
  have hx := C.1
  have hb := C.2.1
  unfold cb_X5_fits_16 at hm
  obtain ⟨hz, hm⟩ := b01_elim hm
  obtain rfl := Option.some.inj hm
  exact hret _ _ _ _ _ hw (b01_nar hz) dX5_fits_16
theorem cn_X5_fits_15 (fu : Nat) {res : Int32 × PF × PG} (F : PF) (G : PG) (hm : cb_X5_fits_15 fu F G = some res) : xn F ≤ xn res.2.1 := by
  unfold cb_X5_fits_15 at hm
  exact (cn_X5_fits_16 fu 0 F G hm)
theorem cw_X5_fits_15 (fu : Nat) {res : Int32 × PF × PG} (C : cMC p R s m args c A v RX5 cX5_fits 2 0 0 (xn res.2.1 - xn K0)) (hret : ∀ (b1 : Nat) (H1 : Heap) (locs1 : List Loc) (ls1 : Array Slot) (pc : Nat), cMW s A v a b1 K0 res.2.1 res.2.2 H1 locs1 → narrow .boolean (.int res.1) = .int res.1 → decode cX5_fits pc = .ok (.ireturn, 1) → W p l e R s m args below meth c H1 locs1 (xn res.2.1 - xn K0) (2 * (xn res.2.1 - xn K0)) Q (F0 m pc ls1 [.int res.1])) (F : PF) (G : PG) (hm : cb_X5_fits_15 fu F G = some res) {b : Nat} {H : Heap} {locs : List Loc} (hw : cMW s A v a b K0 F G H locs) {ls : Array Slot} (hl : lv_has ls 2 []) : W p l e R s m args below meth c H locs (xn F - xn K0) (2 * (xn F - xn K0)) Q (F0 m 15 ls []) := by
  have hx := C.1
  have hb := C.2.1
  unfold cb_X5_fits_15 at hm
  refine lv_iconst (v := 0) hx hb dX5_fits_15 (by decide) ?_
  exact cw_X5_fits_16 fu C hret 0 F G hm hw (lv_sub hl [] rfl)
theorem cn_X5_fits_11 (fu : Nat) {res : Int32 × PF × PG} (F : PF) (G : PG) (hm : cb_X5_fits_11 fu F G = some res) : xn F ≤ xn res.2.1 := by
  unfold cb_X5_fits_11 at hm
  exact (cn_X5_fits_16 fu 1 F G hm)
theorem cw_X5_fits_11 (fu : Nat) {res : Int32 × PF × PG} (C : cMC p R s m args c A v RX5 cX5_fits 2 0 0 (xn res.2.1 - xn K0)) (hret : ∀ (b1 : Nat) (H1 : Heap) (locs1 : List Loc) (ls1 : Array Slot) (pc : Nat), cMW s A v a b1 K0 res.2.1 res.2.2 H1 locs1 → narrow .boolean (.int res.1) = .int res.1 → decode cX5_fits pc = .ok (.ireturn, 1) → W p l e R s m args below meth c H1 locs1 (xn res.2.1 - xn K0) (2 * (xn res.2.1 - xn K0)) Q (F0 m pc ls1 [.int res.1])) (F : PF) (G : PG) (hm : cb_X5_fits_11 fu F G = some res) {b : Nat} {H : Heap} {locs : List Loc} (hw : cMW s A v a b K0 F G H locs) {ls : Array Slot} (hl : lv_has ls 2 []) : W p l e R s m args below meth c H locs (xn F - xn K0) (2 * (xn F - xn K0)) Q (F0 m 11 ls []) := by
  have hx := C.1
  have hb := C.2.1
  unfold cb_X5_fits_11 at hm
  refine lv_iconst (v := 1) hx hb dX5_fits_11 (by decide) ?_
  refine lv_goto (tgt := 16) hx hb dX5_fits_12 (by decide) ?_
  exact cw_X5_fits_16 fu C hret 1 F G hm hw (lv_sub hl [] rfl)
theorem cn_X5_fits_6 (fu : Nat) {res : Int32 × PF × PG} (x0 : Int32) (F : PF) (G : PG) (hm : cb_X5_fits_6 fu x0 F G = some res) : xn F ≤ xn res.2.1 := by
  unfold cb_X5_fits_6 at hm
  by_cases c_1 : x0 = (4 : Int32)
  · have hm := (if_pos c_1).symm.trans hm
    exact (cn_X5_fits_11 fu F G hm)
  · have hm := (if_neg c_1).symm.trans hm
    exact (cn_X5_fits_15 fu F G hm)
theorem cw_X5_fits_6 (fu : Nat) {res : Int32 × PF × PG} (C : cMC p R s m args c A v RX5 cX5_fits 2 0 0 (xn res.2.1 - xn K0)) (hret : ∀ (b1 : Nat) (H1 : Heap) (locs1 : List Loc) (ls1 : Array Slot) (pc : Nat), cMW s A v a b1 K0 res.2.1 res.2.2 H1 locs1 → narrow .boolean (.int res.1) = .int res.1 → decode cX5_fits pc = .ok (.ireturn, 1) → W p l e R s m args below meth c H1 locs1 (xn res.2.1 - xn K0) (2 * (xn res.2.1 - xn K0)) Q (F0 m pc ls1 [.int res.1])) (x0 : Int32) (F : PF) (G : PG) (hm : cb_X5_fits_6 fu x0 F G = some res) {b : Nat} {H : Heap} {locs : List Loc} (hw : cMW s A v a b K0 F G H locs) {ls : Array Slot} (hl : lv_has ls 2 [(0, .int x0)]) : W p l e R s m args below meth c H locs (xn F - xn K0) (2 * (xn F - xn K0)) Q (F0 m 6 ls []) := by
  have hx := C.1
  have hb := C.2.1
  unfold cb_X5_fits_6 at hm
  refine lv_iload_n hx hb dX5_fits_6 rfl (lv_at hl 0 rfl) ?_
  refine lv_iconst (v := 4) hx hb dX5_fits_7 (by decide) ?_
  refine lv_icmp_ne (tgt := 15) hx hb dX5_fits_8 (by decide) (fun c_1 => ?_) (fun c_1 => ?_)
  · have hm := (if_neg c_1).symm.trans hm
    exact cw_X5_fits_15 fu C hret F G hm hw (lv_sub hl [] rfl)
  · have hm := (if_pos c_1).symm.trans hm
    exact cw_X5_fits_11 fu C hret F G hm hw (lv_sub hl [] rfl)
theorem cn_X5_fits_0 (fu : Nat) {res : Int32 × PF × PG} (x0 : Int32) (x1 : Int32) (F : PF) (G : PG) (hm : cb_X5_fits_0 fu x0 x1 F G = some res) : xn F ≤ xn res.2.1 := by
  unfold cb_X5_fits_0 at hm
  by_cases c_1 : x1 = (19 : Int32)
  · have hm := (if_pos c_1).symm.trans hm
    exact (cn_X5_fits_6 fu x0 F G hm)
  · have hm := (if_neg c_1).symm.trans hm
    exact (cn_X5_fits_17 fu x0 x1 F G hm)
theorem cw_X5_fits_0 (fu : Nat) {res : Int32 × PF × PG} (C : cMC p R s m args c A v RX5 cX5_fits 2 0 0 (xn res.2.1 - xn K0)) (hret : ∀ (b1 : Nat) (H1 : Heap) (locs1 : List Loc) (ls1 : Array Slot) (pc : Nat), cMW s A v a b1 K0 res.2.1 res.2.2 H1 locs1 → narrow .boolean (.int res.1) = .int res.1 → decode cX5_fits pc = .ok (.ireturn, 1) → W p l e R s m args below meth c H1 locs1 (xn res.2.1 - xn K0) (2 * (xn res.2.1 - xn K0)) Q (F0 m pc ls1 [.int res.1])) (x0 : Int32) (x1 : Int32) (F : PF) (G : PG) (hm : cb_X5_fits_0 fu x0 x1 F G = some res) {b : Nat} {H : Heap} {locs : List Loc} (hw : cMW s A v a b K0 F G H locs) {ls : Array Slot} (hl : lv_has ls 2 [(0, .int x0), (1, .int x1)]) : W p l e R s m args below meth c H locs (xn F - xn K0) (2 * (xn F - xn K0)) Q (F0 m 0 ls []) := by
  have hx := C.1
  have hb := C.2.1
  unfold cb_X5_fits_0 at hm
  refine lv_iload_n hx hb dX5_fits_0 rfl (lv_at hl 1 rfl) ?_
  refine lv_bipush (v := 19) hx hb dX5_fits_1 (by decide) ?_
  refine lv_icmp_ne (tgt := 17) hx hb dX5_fits_3 (by decide) (fun c_1 => ?_) (fun c_1 => ?_)
  · have hm := (if_neg c_1).symm.trans hm
    exact cw_X5_fits_17 fu C hret x0 x1 F G hm hw (lv_sub hl [0, 1] rfl)
  · have hm := (if_pos c_1).symm.trans hm
    exact cw_X5_fits_6 fu C hret x0 F G hm hw (lv_sub hl [0] rfl)
theorem cn_X5_fits (fu : Nat) (x0 : Int32) (x1 : Int32) (F : PF) (G : PG) (q : Int32 × PF × PG) (hm : cf_X5_fits fu x0 x1 F G = some q) : xn F ≤ xn q.2.1 := cn_X5_fits_0 fu x0 x1 F G hm
theorem ck_X5_fits (l : Launch) (v : EV) (a : Nat → Nat) (b sz : Nat) (fu : Nat) (x0 : Int32) (x1 : Int32) (F : PF) (G : PG) (r : Int32) (F1 : PF) (G1 : PG) (hm : cf_X5_fits fu x0 x1 F G = some (r, F1, G1)) : cMI l yX5_fits cX5_fits 2 (some .boolean) 0 0 v a b sz [.int x0, .int x1] F G r F1 G1 := cMI.of (ty := .boolean) (by decide) rfl (Nat.le_of_ble_eq_true rfl) (fun p e R s m args below meth c Q A H locs ls C hw hl hret => cw_X5_fits_0 fu (res := (r, F1, G1)) C hret x0 x1 F G hm hw hl)
end MB
