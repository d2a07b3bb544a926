section MB
variable {p : Program} {l : Launch} {e : Env} {R : Room} {s : State} {m : MethodId} {args : Array Value} {below : List Frame} {meth : Method} {c : Code} {H : Heap} {locs : List Loc} {Q : State → Prop} {A : Nat → Prop} {v : EV} {a : Nat → Nat} {own : String} {cc : ByteArray} {nL fr lo : Nat}
def mb_word_32 (fu : Nat) (z0 : Int32) (F : PF) (G : PG) : PR := if b01 z0 = true then (some (z0, F, G)) else none
def mb_word_31 (fu : Nat) (F : PF) (G : PG) : PR := mb_word_32 fu 0 F G
def mb_word_27 (fu : Nat) (F : PF) (G : PG) : PR := mb_word_32 fu 1 F G
def mb_word_24 (fu : Nat) (z0 : Int32) (F : PF) (G : PG) : PR := if z0 = (0 : Int32) then mb_word_31 fu F G else mb_word_27 fu F G
def mb_word_19 (fu : Nat) (F : PF) (G : PG) : PR := (mf_fails fu 2 F G).bind (fun q => mb_word_24 fu q.1 q.2.1 q.2.2)
def mb_word_15 (fu : Nat) (x2 : Int32) (F : PF) (G : PG) : PR := if x2 = (0 : Int32) then mb_word_31 fu F G else mb_word_19 fu F G
def mb_word_43 (fu : Nat) (F : PF) (G : PG) : PR := some (1, F, G)
def mb_word_33 (fu : Nat) (F : PF) (G : PG) : PR := mb_word_43 fu (fup F 42 ((F 42) + (1 : Int32))) G
def mb_word_12 (fu : Nat) (x2 : Int32) (z0 : Int32) (F : PF) (G : PG) : PR := if z0 = (0 : Int32) then mb_word_15 fu x2 F G else mb_word_33 fu F G
def mb_word_7 (fu : Nat) (x1 : Int32) (x2 : Int32) (F : PF) (G : PG) : PR := (mf_isWord fu x1 F G).bind (fun q => mb_word_12 fu x2 q.1 q.2.1 q.2.2)
def mb_word_0 (fu : Nat) (x1 : Int32) (x2 : Int32) (F : PF) (G : PG) : PR := if (0 : Int32) < (F 44) then mb_word_15 fu x2 F G else mb_word_7 fu x1 x2 F G
def mf_word (fu : Nat) (x1 : Int32) (x2 : Int32) (F : PF) (G : PG) : PR := mb_word_0 fu x1 x2 F G
theorem mw_word_32 (fu : Nat) {res : Int32 × PF × PG} (C : mMC p R s m args c A v RX12 cX12_word 3 1 22) (hret : ∀ (H1 : Heap) (locs1 : List Loc) (ls1 : Array Slot) (pc : Nat), mMW s A v a res.2.1 res.2.2 H1 locs1 → narrow .boolean (.int res.1) = .int res.1 → decode cX12_word pc = .ok (.ireturn, 1) → W p l e R s m args below meth c H1 locs1 0 0 Q (F0 m pc ls1 [.int res.1])) (z0 : Int32) (F : PF) (G : PG) (hm : mb_word_32 fu z0 F G = some res) {H : Heap} {locs : List Loc} (hw : mMW s A v a F G H locs) {ls : Array Slot} (hl : lv_has ls 3 []) : W p l e R s m args below meth c H locs 0 0 Q (F0 m 32 ls [.int z0]) := by
  have hx := C.1
  have hb := C.2.1
  unfold mb_word_32 at hm
  obtain ⟨hz, hm⟩ := b01_elim hm
  obtain rfl := Option.some.inj hm
  exact hret _ _ _ _ hw (b01_nar hz) dX12_word_32
theorem mw_word_31 (fu : Nat) {res : Int32 × PF × PG} (C : mMC p R s m args c A v RX12 cX12_word 3 1 22) (hret : ∀ (H1 : Heap) (locs1 : List Loc) (ls1 : Array Slot) (pc : Nat), mMW s A v a res.2.1 res.2.2 H1 locs1 → narrow .boolean (.int res.1) = .int res.1 → decode cX12_word pc = .ok (.ireturn, 1) → W p l e R s m args below meth c H1 locs1 0 0 Q (F0 m pc ls1 [.int res.1])) (F : PF) (G : PG) (hm : mb_word_31 fu F G = some res) {H : Heap} {locs : List Loc} (hw : mMW s A v a F G H locs) {ls : Array Slot} (hl : lv_has ls 3 []) : W p l e R s m args below meth c H locs 0 0 Q (F0 m 31 ls []) := by
  have hx := C.1
  have hb := C.2.1
  unfold mb_word_31 at hm
  refine lv_iconst (v := 0) hx hb dX12_word_31 (by decide) ?_
  exact mw_word_32 fu C hret 0 F G hm hw (lv_sub hl [] rfl)
theorem mw_word_27 (fu : Nat) {res : Int32 × PF × PG} (C : mMC p R s m args c A v RX12 cX12_word 3 1 22) (hret : ∀ (H1 : Heap) (locs1 : List Loc) (ls1 : Array Slot) (pc : Nat), mMW s A v a res.2.1 res.2.2 H1 locs1 → narrow .boolean (.int res.1) = .int res.1 → decode cX12_word pc = .ok (.ireturn, 1) → W p l e R s m args below meth c H1 locs1 0 0 Q (F0 m pc ls1 [.int res.1])) (F : PF) (G : PG) (hm : mb_word_27 fu F G = some res) {H : Heap} {locs : List Loc} (hw : mMW s A v a F G H locs) {ls : Array Slot} (hl : lv_has ls 3 []) : W p l e R s m args below meth c H locs 0 0 Q (F0 m 27 ls []) := by
  have hx := C.1
  have hb := C.2.1
  unfold mb_word_27 at hm
  refine lv_iconst (v := 1) hx hb dX12_word_27 (by decide) ?_
  refine lv_goto (tgt := 32) hx hb dX12_word_28 (by decide) ?_
  exact mw_word_32 fu C hret 1 F G hm hw (lv_sub hl [] rfl)
theorem mw_word_24 (fu : Nat) {res : Int32 × PF × PG} (C : mMC p R s m args c A v RX12 cX12_word 3 1 22) (hret : ∀ (H1 : Heap) (locs1 : List Loc) (ls1 : Array Slot) (pc : Nat), mMW s A v a res.2.1 res.2.2 H1 locs1 → narrow .boolean (.int res.1) = .int res.1 → decode cX12_word pc = .ok (.ireturn, 1) → W p l e R s m args below meth c H1 locs1 0 0 Q (F0 m pc ls1 [.int res.1])) (z0 : Int32) (F : PF) (G : PG) (hm : mb_word_24 fu z0 F G = some res) {H : Heap} {locs : List Loc} (hw : mMW s A v a F G H locs) {ls : Array Slot} (hl : lv_has ls 3 []) : W p l e R s m args below meth c H locs 0 0 Q (F0 m 24 ls [.int z0]) := by
  have hx := C.1
  have hb := C.2.1
  unfold mb_word_24 at hm
  refine lv_if_eq (tgt := 31) hx hb dX12_word_24 (by decide) (fun c_1 => ?_) (fun c_1 => ?_)
  · have hm := (if_pos c_1).symm.trans hm
    exact mw_word_31 fu C hret F G hm hw (lv_sub hl [] rfl)
  · have hm := (if_neg c_1).symm.trans hm
    exact mw_word_27 fu C hret F G hm hw (lv_sub hl [] rfl)
theorem mw_word_19 (fu : Nat) {res : Int32 × PF × PG} (C : mMC p R s m args c A v RX12 cX12_word 3 1 22) (hret : ∀ (H1 : Heap) (locs1 : List Loc) (ls1 : Array Slot) (pc : Nat), mMW s A v a res.2.1 res.2.2 H1 locs1 → narrow .boolean (.int res.1) = .int res.1 → decode cX12_word pc = .ok (.ireturn, 1) → W p l e R s m args below meth c H1 locs1 0 0 Q (F0 m pc ls1 [.int res.1])) (F : PF) (G : PG) (hm : mb_word_19 fu F G = some res) {H : Heap} {locs : List Loc} (hw : mMW s A v a F G H locs) {ls : Array Slot} (hl : lv_has ls 3 [(0, .ref (a 212))]) : W p l e R s m args below meth c H locs 0 0 Q (F0 m 19 ls []) := by
  have hx := C.1
  have hb := C.2.1
  unfold mb_word_19 at hm
  refine lv_aload_n hx hb dX12_word_19 rfl (lv_at hl 0 rfl) ?_
  refine lv_iconst (v := 2) hx hb dX12_word_20 (by decide) ?_
  obtain ⟨⟨r1, F1, G1⟩, hc, hm⟩ := bind_elim hm
  refine mcallI (n := 1) (As := [.int 2]) (rest := []) C hw (mk_fails l v a _ fu 2 F G r1 F1 G1 hc) (mrecv_X12 C hw) mm_166 mm_167 mm_168 mm_27 mm_169 (by decide +kernel) rfl (by omega) (by omega) hl.1 rfl (Nat.le_of_ble_eq_true rfl) dX12_word_21 (fun H locs hw => ?_)
  exact mw_word_24 fu C hret r1 F1 G1 hm hw (lv_sub hl [] rfl)
theorem mw_word_15 (fu : Nat) {res : Int32 × PF × PG} (C : mMC p R s m args c A v RX12 cX12_word 3 1 22) (hret : ∀ (H1 : Heap) (locs1 : List Loc) (ls1 : Array Slot) (pc : Nat), mMW s A v a res.2.1 res.2.2 H1 locs1 → narrow .boolean (.int res.1) = .int res.1 → decode cX12_word pc = .ok (.ireturn, 1) → W p l e R s m args below meth c H1 locs1 0 0 Q (F0 m pc ls1 [.int res.1])) (x2 : Int32) (F : PF) (G : PG) (hm : mb_word_15 fu x2 F G = some res) {H : Heap} {locs : List Loc} (hw : mMW s A v a F G H locs) {ls : Array Slot} (hl : lv_has ls 3 [(0, .ref (a 212)), (2, .int x2)]) : W p l e R s m args below meth c H locs 0 0 Q (F0 m 15 ls []) := by
  have hx := C.1
  have hb := C.2.1
  unfold mb_word_15 at hm
  refine lv_iload_n hx hb dX12_word_15 rfl (lv_at hl 1 rfl) ?_
  refine lv_if_eq (tgt := 31) hx hb dX12_word_16 (by decide) (fun c_1 => ?_) (fun c_1 => ?_)
  · have hm := (if_pos c_1).symm.trans hm
    exact mw_word_31 fu C hret F G hm hw (lv_sub hl [] rfl)
  · have hm := (if_neg c_1).symm.trans hm
    exact mw_word_19 fu C hret F G hm hw (lv_sub hl [0] rfl)
theorem mw_word_43 (fu : Nat) {res : Int32 × PF × PG} (C : mMC p R s m args c A v RX12 cX12_word 3 1 22) (hret : ∀ (H1 : Heap) (locs1 : List Loc) (ls1 : Array Slot) (pc : Nat), mMW s A v a res.2.1 res.2.2 H1 locs1 → narrow .boolean (.int res.1) = .int res.1 → decode cX12_word pc = .ok (.ireturn, 1) → W p l e R s m args below meth c H1 locs1 0 0 Q (F0 m pc ls1 [.int res.1])) (F : PF) (G : PG) (hm : mb_word_43 fu F G = some res) {H : Heap} {locs : List Loc} (hw : mMW s A v a F G H locs) {ls : Array Slot} (hl : lv_has ls 3 []) : W p l e R s m args below meth c H locs 0 0 Q (F0 m 43 ls []) := by
  have hx := C.1
  have hb := C.2.1
  unfold mb_word_43 at hm
  refine lv_iconst (v := 1) hx hb dX12_word_43 (by decide) ?_
  obtain rfl := Option.some.inj hm
  exact hret _ _ _ _ hw (b01_nar (v := 1) (Or.inr rfl)) dX12_word_44
theorem mw_word_33 (fu : Nat) {res : Int32 × PF × PG} (C : mMC p R s m args c A v RX12 cX12_word 3 1 22) (hret : ∀ (H1 : Heap) (locs1 : List Loc) (ls1 : Array Slot) (pc : Nat), mMW s A v a res.2.1 res.2.2 H1 locs1 → narrow .boolean (.int res.1) = .int res.1 → decode cX12_word pc = .ok (.ireturn, 1) → W p l e R s m args below meth c H1 locs1 0 0 Q (F0 m pc ls1 [.int res.1])) (F : PF) (G : PG) (hm : mb_word_33 fu F G = some res) {H : Heap} {locs : List Loc} (hw : mMW s A v a F G H locs) {ls : Array Slot} (hl : lv_has ls 3 [(0, .ref (a 212))]) : W p l e R s m args below meth c H locs 0 0 Q (F0 m 33 ls []) := by
  have hx := C.1
  have hb := C.2.1
  unfold mb_word_33 at hm
  refine lv_aload_n hx hb dX12_word_33 rfl (lv_at hl 0 rfl) ?_
  refine lv_dup hx hb dX12_word_34 rfl ?_
  refine mg_X12_233 C hw dX12_word_35 ?_
  refine lv_iconst (v := 1) hx hb dX12_word_38 (by decide) ?_
  refine lv_iadd hx hb dX12_word_39 ?_
  refine mp_X12_233 C hw dX12_word_40 (fun H locs hw => ?_)
  exact mw_word_43 fu C hret (fup F 42 ((F 42) + (1 : Int32))) G hm hw (lv_sub hl [] rfl)
theorem mw_word_12 (fu : Nat) {res : Int32 × PF × PG} (C : mMC p R s m args c A v RX12 cX12_word 3 1 22) (hret : ∀ (H1 : Heap) (locs1 : List Loc) (ls1 : Array Slot) (pc : Nat), mMW s A v a res.2.1 res.2.2 H1 locs1 → narrow .boolean (.int res.1) = .int res.1 → decode cX12_word pc = .ok (.ireturn, 1) → W p l e R s m args below meth c H1 locs1 0 0 Q (F0 m pc ls1 [.int res.1])) (x2 : Int32) (z0 : Int32) (F : PF) (G : PG) (hm : mb_word_12 fu x2 z0 F G = some res) {H : Heap} {locs : List Loc} (hw : mMW s A v a F G H locs) {ls : Array Slot} (hl : lv_has ls 3 [(0, .ref (a 212)), (2, .int x2)]) : W p l e R s m args below meth c H locs 0 0 Q (F0 m 12 ls [.int z0]) := by
  have hx := C.1
  have hb := C.2.1
  unfold mb_word_12 at hm
  refine lv_if_ne (tgt := 33) hx hb dX12_word_12 (by decide) (fun c_1 => ?_) (fun c_1 => ?_)
  · have hm := (if_neg c_1).symm.trans hm
    exact mw_word_33 fu C hret F G hm hw (lv_sub hl [0] rfl)
  · have hm := (if_pos c_1).symm.trans hm
    exact mw_word_15 fu C hret x2 F G hm hw (lv_sub hl [0, 1] rfl)
theorem mw_word_7 (fu : Nat) {res : Int32 × PF × PG} (C : mMC p R s m args c A v RX12 cX12_word 3 1 22) (hret : ∀ (H1 : Heap) (locs1 : List Loc) (ls1 : Array Slot) (pc : Nat), mMW s A v a res.2.1 res.2.2 H1 locs1 → narrow .boolean (.int res.1) = .int res.1 → decode cX12_word pc = .ok (.ireturn, 1) → W p l e R s m args below meth c H1 locs1 0 0 Q (F0 m pc ls1 [.int res.1])) (x1 : Int32) (x2 : Int32) (F : PF) (G : PG) (hm : mb_word_7 fu x1 x2 F G = some res) {H : Heap} {locs : List Loc} (hw : mMW s A v a F G H locs) {ls : Array Slot} (hl : lv_has ls 3 [(0, .ref (a 212)), (1, .int x1), (2, .int x2)]) : W p l e R s m args below meth c H locs 0 0 Q (F0 m 7 ls []) := by
  have hx := C.1
  have hb := C.2.1
  unfold mb_word_7 at hm
  refine lv_aload_n hx hb dX12_word_7 rfl (lv_at hl 0 rfl) ?_
  refine lv_iload_n hx hb dX12_word_8 rfl (lv_at hl 1 rfl) ?_
  obtain ⟨⟨r1, F1, G1⟩, hc, hm⟩ := bind_elim hm
  refine mcallI (n := 1) (As := [.int x1]) (rest := []) C hw (mk_isWord l v a _ fu x1 F G r1 F1 G1 hc) (mrecv_X12 C hw) mm_162 mm_163 mm_164 mm_27 mm_165 (by decide +kernel) rfl (by omega) (by omega) hl.1 rfl (Nat.le_of_ble_eq_true rfl) dX12_word_9 (fun H locs hw => ?_)
  exact mw_word_12 fu C hret x2 r1 F1 G1 hm hw (lv_sub hl [0, 2] rfl)
theorem mw_word_0 (fu : Nat) {res : Int32 × PF × PG} (C : mMC p R s m args c A v RX12 cX12_word 3 1 22) (hret : ∀ (H1 : Heap) (locs1 : List Loc) (ls1 : Array Slot) (pc : Nat), mMW s A v a res.2.1 res.2.2 H1 locs1 → narrow .boolean (.int res.1) = .int res.1 → decode cX12_word pc = .ok (.ireturn, 1) → W p l e R s m args below meth c H1 locs1 0 0 Q (F0 m pc ls1 [.int res.1])) (x1 : Int32) (x2 : Int32) (F : PF) (G : PG) (hm : mb_word_0 fu x1 x2 F G = some res) {H : Heap} {locs : List Loc} (hw : mMW s A v a F G H locs) {ls : Array Slot} (hl : lv_has ls 3 [(0, .ref (a 212)), (1, .int x1), (2, .int x2)]) : W p l e R s m args below meth c H locs 0 0 Q (F0 m 0 ls []) := by
  have hx := C.1
  have hb := C.2.1
  unfold mb_word_0 at hm
  refine lv_aload_n hx hb dX12_word_0 rfl (lv_at hl 0 rfl) ?_
  refine mg_X12_230 C hw dX12_word_1 ?_
  refine lv_if_gt (tgt := 15) hx hb dX12_word_4 (by decide) (fun c_1 => ?_) (fun c_1 => ?_)
  · have hm := (if_pos c_1).symm.trans hm
    exact mw_word_15 fu C hret x2 F G hm hw (lv_sub hl [0, 2] rfl)
  · have hm := (if_neg c_1).symm.trans hm
    exact mw_word_7 fu C hret x1 x2 F G hm hw (lv_sub hl [0, 1, 2] rfl)
theorem mk_word (l : Launch) (v : EV) (a : Nat → Nat) (sz : Nat) (fu : Nat) (x1 : Int32) (x2 : Int32) (F : PF) (G : PG) (r : Int32) (F1 : PF) (G1 : PG) (hm : mf_word fu x1 x2 F G = some (r, F1, G1)) : mMI l yX12_word cX12_word 3 (some .boolean) 1 22 v a sz [.ref (a 212), .int x1, .int x2] F G r F1 G1 := mMI.of (ty := .boolean) (by decide) rfl (Nat.le_of_ble_eq_true rfl) (fun p e R s m args below meth c Q A H locs ls C hw hl hret => mw_word_0 fu (res := (r, F1, G1)) C hret x1 x2 F G hm hw hl)
def mb_name_25 (fu : Nat) (z0 : Int32) (F : PF) (G : PG) : PR := some (0, F, G)
def mb_name_20 (fu : Nat) (F : PF) (G : PG) : PR := (mf_fails fu 2 F G).bind (fun q => mb_name_25 fu q.1 q.2.1 q.2.2)
def mb_name_38 (fu : Nat) (F : PF) (G : PG) : PR := some (((F 42) - (1 : Int32)), F, G)
def mb_name_28 (fu : Nat) (F : PF) (G : PG) : PR := mb_name_38 fu (fup F 42 ((F 42) + (1 : Int32))) G
def mb_name_7 (fu : Nat) (F : PF) (G : PG) : PR := if ixb (F 42) 4002 = true then (if (G 4 (F 42).toNatClampNeg) = (1 : Int32) then mb_name_28 fu F G else mb_name_20 fu F G) else none
def mb_name_0 (fu : Nat) (F : PF) (G : PG) : PR := if (0 : Int32) < (F 44) then mb_name_20 fu F G else mb_name_7 fu F G
def mf_name (fu : Nat) (F : PF) (G : PG) : PR := mb_name_0 fu F G
theorem mw_name_25 (fu : Nat) {res : Int32 × PF × PG} (C : mMC p R s m args c A v RX12 cX12_name 1 1 22) (hret : ∀ (H1 : Heap) (locs1 : List Loc) (ls1 : Array Slot) (pc : Nat), mMW s A v a res.2.1 res.2.2 H1 locs1 → narrow .int (.int res.1) = .int res.1 → decode cX12_name pc = .ok (.ireturn, 1) → W p l e R s m args below meth c H1 locs1 0 0 Q (F0 m pc ls1 [.int res.1])) (z0 : Int32) (F : PF) (G : PG) (hm : mb_name_25 fu z0 F G = some res) {H : Heap} {locs : List Loc} (hw : mMW s A v a F G H locs) {ls : Array Slot} (hl : lv_has ls 1 []) : W p l e R s m args below meth c H locs 0 0 Q (F0 m 25 ls [.int z0]) := by
  have hx := C.1
  have hb := C.2.1
  unfold mb_name_25 at hm
  refine lv_pop hx hb dX12_name_25 rfl ?_
  refine lv_iconst (v := 0) hx hb dX12_name_26 (by decide) ?_
  obtain rfl := Option.some.inj hm
  exact hret _ _ _ _ hw rfl dX12_name_27
theorem mw_name_20 (fu : Nat) {res : Int32 × PF × PG} (C : mMC p R s m args c A v RX12 cX12_name 1 1 22) (hret : ∀ (H1 : Heap) (locs1 : List Loc) (ls1 : Array Slot) (pc : Nat), mMW s A v a res.2.1 res.2.2 H1 locs1 → narrow .int (.int res.1) = .int res.1 → decode cX12_name pc = .ok (.ireturn, 1) → W p l e R s m args below meth c H1 locs1 0 0 Q (F0 m pc ls1 [.int res.1])) (F : PF) (G : PG) (hm : mb_name_20 fu F G = some res) {H : Heap} {locs : List Loc} (hw : mMW s A v a F G H locs) {ls : Array Slot} (hl : lv_has ls 1 [(0, .ref (a 212))]) : W p l e R s m args below meth c H locs 0 0 Q (F0 m 20 ls []) := by
  have hx := C.1
  have hb := C.2.1
  unfold mb_name_20 at hm
  refine lv_aload_n hx hb dX12_name_20 rfl (lv_at hl 0 rfl) ?_
  refine lv_iconst (v := 2) hx hb dX12_name_21 (by decide) ?_
  obtain ⟨⟨r1, F1, G1⟩, hc, hm⟩ := bind_elim hm
  refine mcallI (n := 1) (As := [.int 2]) (rest := []) C hw (mk_fails l v a _ fu 2 F G r1 F1 G1 hc) (mrecv_X12 C hw) mm_166 mm_167 mm_168 mm_27 mm_169 (by decide +kernel) rfl (by omega) (by omega) hl.1 rfl (Nat.le_of_ble_eq_true rfl) dX12_name_22 (fun H locs hw => ?_)
  exact mw_name_25 fu C hret r1 F1 G1 hm hw (lv_sub hl [] rfl)
theorem mw_name_38 (fu : Nat) {res : Int32 × PF × PG} (C : mMC p R s m args c A v RX12 cX12_name 1 1 22) (hret : ∀ (H1 : Heap) (locs1 : List Loc) (ls1 : Array Slot) (pc : Nat), mMW s A v a res.2.1 res.2.2 H1 locs1 → narrow .int (.int res.1) = .int res.1 → decode cX12_name pc = .ok (.ireturn, 1) → W p l e R s m args below meth c H1 locs1 0 0 Q (F0 m pc ls1 [.int res.1])) (F : PF) (G : PG) (hm : mb_name_38 fu F G = some res) {H : Heap} {locs : List Loc} (hw : mMW s A v a F G H locs) {ls : Array Slot} (hl : lv_has ls 1 [(0, .ref (a 212))]) : W p l e R s m args below meth c H locs 0 0 Q (F0 m 38 ls []) := by
  have hx := C.1
  have hb := C.2.1
  unfold mb_name_38 at hm
  refine lv_aload_n hx hb dX12_name_38 rfl (lv_at hl 0 rfl) ?_
  refine mg_X12_233 C hw dX12_name_39 ?_
  refine lv_iconst (v := 1) hx hb dX12_name_42 (by decide) ?_
  refine lv_isub hx hb dX12_name_43 ?_
  obtain rfl := Option.some.inj hm
  exact hret _ _ _ _ hw rfl dX12_name_44
theorem mw_name_28 (fu : Nat) {res : Int32 × PF × PG} (C : mMC p R s m args c A v RX12 cX12_name 1 1 22) (hret : ∀ (H1 : Heap) (locs1 : List Loc) (ls1 : Array Slot) (pc : Nat), mMW s A v a res.2.1 res.2.2 H1 locs1 → narrow .int (.int res.1) = .int res.1 → decode cX12_name pc = .ok (.ireturn, 1) → W p l e R s m args below meth c H1 locs1 0 0 Q (F0 m pc ls1 [.int res.1])) (F : PF) (G : PG) (hm : mb_name_28 fu F G = some res) {H : Heap} {locs : List Loc} (hw : mMW s A v a F G H locs) {ls : Array Slot} (hl : lv_has ls 1 [(0, .ref (a 212))]) : W p l e R s m args below meth c H locs 0 0 Q (F0 m 28 ls []) := by
  have hx := C.1
  have hb := C.2.1
  unfold mb_name_28 at hm
  refine lv_aload_n hx hb dX12_name_28 rfl (lv_at hl 0 rfl) ?_
  refine lv_dup hx hb dX12_name_29 rfl ?_
  refine mg_X12_233 C hw dX12_name_30 ?_
  refine lv_iconst (v := 1) hx hb dX12_name_33 (by decide) ?_
  refine lv_iadd hx hb dX12_name_34 ?_
  refine mp_X12_233 C hw dX12_name_35 (fun H locs hw => ?_)
  exact mw_name_38 fu C hret (fup F 42 ((F 42) + (1 : Int32))) G hm hw (lv_sub hl [0] rfl)
theorem mw_name_7 (fu : Nat) {res : Int32 × PF × PG} (C : mMC p R s m args c A v RX12 cX12_name 1 1 22) (hret : ∀ (H1 : Heap) (locs1 : List Loc) (ls1 : Array Slot) (pc : Nat), mMW s A v a res.2.1 res.2.2 H1 locs1 → narrow .int (.int res.1) = .int res.1 → decode cX12_name pc = .ok (.ireturn, 1) → W p l e R s m args below meth c H1 locs1 0 0 Q (F0 m pc ls1 [.int res.1])) (F : PF) (G : PG) (hm : mb_name_7 fu F G = some res) {H : Heap} {locs : List Loc} (hw : mMW s A v a F G H locs) {ls : Array Slot} (hl : lv_has ls 1 [(0, .ref (a 212))]) : W p l e R s m args below meth c H locs 0 0 Q (F0 m 7 ls []) := by
  have hx := C.1
  have hb := C.2.1
  unfold mb_name_7 at hm
  refine lv_aload_n hx hb dX12_name_7 rfl (lv_at hl 0 rfl) ?_
  refine mg_X12_16 C hw dX12_name_8 ?_
  refine lv_aload_n hx hb dX12_name_11 rfl (lv_at hl 0 rfl) ?_
  refine mg_X12_233 C hw dX12_name_12 ?_
  obtain ⟨hi, hm⟩ := ix_elim hm
  refine mal_4 C hw hi dX12_name_15 ?_
  refine lv_iconst (v := 1) hx hb dX12_name_16 (by decide) ?_
  refine lv_icmp_eq (tgt := 28) hx hb dX12_name_17 (by decide) (fun c_1 => ?_) (fun c_1 => ?_)
  · have hm := (if_pos c_1).symm.trans hm
    exact mw_name_28 fu C hret F G hm hw (lv_sub hl [0] rfl)
  · have hm := (if_neg c_1).symm.trans hm
    exact mw_name_20 fu C hret F G hm hw (lv_sub hl [0] rfl)
theorem mw_name_0 (fu : Nat) {res : Int32 × PF × PG} (C : mMC p R s m args c A v RX12 cX12_name 1 1 22) (hret : ∀ (H1 : Heap) (locs1 : List Loc) (ls1 : Array Slot) (pc : Nat), mMW s A v a res.2.1 res.2.2 H1 locs1 → narrow .int (.int res.1) = .int res.1 → decode cX12_name pc = .ok (.ireturn, 1) → W p l e R s m args below meth c H1 locs1 0 0 Q (F0 m pc ls1 [.int res.1])) (F : PF) (G : PG) (hm : mb_name_0 fu F G = some res) {H : Heap} {locs : List Loc} (hw : mMW s A v a F G H locs) {ls : Array Slot} (hl : lv_has ls 1 [(0, .ref (a 212))]) : W p l e R s m args below meth c H locs 0 0 Q (F0 m 0 ls []) := by
  have hx := C.1
  have hb := C.2.1
  unfold mb_name_0 at hm
  refine lv_aload_n hx hb dX12_name_0 rfl (lv_at hl 0 rfl) ?_
  refine mg_X12_230 C hw dX12_name_1 ?_
  refine lv_if_gt (tgt := 20) hx hb dX12_name_4 (by decide) (fun c_1 => ?_) (fun c_1 => ?_)
  · have hm := (if_pos c_1).symm.trans hm
    exact mw_name_20 fu C hret F G hm hw (lv_sub hl [0] rfl)
  · have hm := (if_neg c_1).symm.trans hm
    exact mw_name_7 fu C hret F G hm hw (lv_sub hl [0] rfl)
theorem mk_name (l : Launch) (v : EV) (a : Nat → Nat) (sz : Nat) (fu : Nat) (F : PF) (G : PG) (r : Int32) (F1 : PF) (G1 : PG) (hm : mf_name fu F G = some (r, F1, G1)) : mMI l yX12_name cX12_name 1 (some .int) 1 22 v a sz [.ref (a 212)] F G r F1 G1 := mMI.of (ty := .int) (by decide) rfl (Nat.le_of_ble_eq_true rfl) (fun p e R s m args below meth c Q A H locs ls C hw hl hret => mw_name_0 fu (res := (r, F1, G1)) C hret F G hm hw hl)
def mb_opens_35 (fu : Nat) (F : PF) (G : PG) : PR := some (1, F, G)
def mb_opens_25 (fu : Nat) (F : PF) (G : PG) : PR := mb_opens_35 fu (fup F 42 ((F 42) + (1 : Int32))) G
def mb_opens_15 (fu : Nat) (F : PF) (G : PG) : PR := mb_opens_25 fu (fup F 43 ((F 43) + (1 : Int32))) G
def mb_opens_14 (fu : Nat) (z0 : Int32) (F : PF) (G : PG) : PR := if b01 z0 = true then (some (z0, F, G)) else none
def mb_opens_9 (fu : Nat) (F : PF) (G : PG) : PR := (mf_fails fu 3 F G).bind (fun q => mb_opens_14 fu q.1 q.2.1 q.2.2)
def mb_opens_0 (fu : Nat) (F : PF) (G : PG) : PR := if (F 43) = (40 : Int32) then mb_opens_9 fu F G else mb_opens_15 fu F G
def mf_opens (fu : Nat) (F : PF) (G : PG) : PR := mb_opens_0 fu F G
theorem mw_opens_35 (fu : Nat) {res : Int32 × PF × PG} (C : mMC p R s m args c A v RX12 cX12_opens 1 1 22) (hret : ∀ (H1 : Heap) (locs1 : List Loc) (ls1 : Array Slot) (pc : Nat), mMW s A v a res.2.1 res.2.2 H1 locs1 → narrow .boolean (.int res.1) = .int res.1 → decode cX12_opens pc = .ok (.ireturn, 1) → W p l e R s m args below meth c H1 locs1 0 0 Q (F0 m pc ls1 [.int res.1])) (F : PF) (G : PG) (hm : mb_opens_35 fu F G = some res) {H : Heap} {locs : List Loc} (hw : mMW s A v a F G H locs) {ls : Array Slot} (hl : lv_has ls 1 []) : W p l e R s m args below meth c H locs 0 0 Q (F0 m 35 ls []) := by
  have hx := C.1
  have hb := C.2.1
  unfold mb_opens_35 at hm
  refine lv_iconst (v := 1) hx hb dX12_opens_35 (by decide) ?_
  obtain rfl := Option.some.inj hm
  exact hret _ _ _ _ hw (b01_nar (v := 1) (Or.inr rfl)) dX12_opens_36
theorem mw_opens_25 (fu : Nat) {res : Int32 × PF × PG} (C : mMC p R s m args c A v RX12 cX12_opens 1 1 22) (hret : ∀ (H1 : Heap) (locs1 : List Loc) (ls1 : Array Slot) (pc : Nat), mMW s A v a res.2.1 res.2.2 H1 locs1 → narrow .boolean (.int res.1) = .int res.1 → decode cX12_opens pc = .ok (.ireturn, 1) → W p l e R s m args below meth c H1 locs1 0 0 Q (F0 m pc ls1 [.int res.1])) (F : PF) (G : PG) (hm : mb_opens_25 fu F G = some res) {H : Heap} {locs : List Loc} (hw : mMW s A v a F G H locs) {ls : Array Slot} (hl : lv_has ls 1 [(0, .ref (a 212))]) : W p l e R s m args below meth c H locs 0 0 Q (F0 m 25 ls []) := by
  have hx := C.1
  have hb := C.2.1
  unfold mb_opens_25 at hm
  refine lv_aload_n hx hb dX12_opens_25 rfl (lv_at hl 0 rfl) ?_
  refine lv_dup hx hb dX12_opens_26 rfl ?_
  refine mg_X12_233 C hw dX12_opens_27 ?_
  refine lv_iconst (v := 1) hx hb dX12_opens_30 (by decide) ?_
  refine lv_iadd hx hb dX12_opens_31 ?_
  refine mp_X12_233 C hw dX12_opens_32 (fun H locs hw => ?_)
  exact mw_opens_35 fu C hret (fup F 42 ((F 42) + (1 : Int32))) G hm hw (lv_sub hl [] rfl)
theorem mw_opens_15 (fu : Nat) {res : Int32 × PF × PG} (C : mMC p R s m args c A v RX12 cX12_opens 1 1 22) (hret : ∀ (H1 : Heap) (locs1 : List Loc) (ls1 : Array Slot) (pc : Nat), mMW s A v a res.2.1 res.2.2 H1 locs1 → narrow .boolean (.int res.1) = .int res.1 → decode cX12_opens pc = .ok (.ireturn, 1) → W p l e R s m args below meth c H1 locs1 0 0 Q (F0 m pc ls1 [.int res.1])) (F : PF) (G : PG) (hm : mb_opens_15 fu F G = some res) {H : Heap} {locs : List Loc} (hw : mMW s A v a F G H locs) {ls : Array Slot} (hl : lv_has ls 1 [(0, .ref (a 212))]) : W p l e R s m args below meth c H locs 0 0 Q (F0 m 15 ls []) := by
  have hx := C.1
  have hb := C.2.1
  unfold mb_opens_15 at hm
  refine lv_aload_n hx hb dX12_opens_15 rfl (lv_at hl 0 rfl) ?_
  refine lv_dup hx hb dX12_opens_16 rfl ?_
  refine mg_X12_266 C hw dX12_opens_17 ?_
  refine lv_iconst (v := 1) hx hb dX12_opens_20 (by decide) ?_
  refine lv_iadd hx hb dX12_opens_21 ?_
  refine mp_X12_266 C hw dX12_opens_22 (fun H locs hw => ?_)
  exact mw_opens_25 fu C hret (fup F 43 ((F 43) + (1 : Int32))) G hm hw (lv_sub hl [0] rfl)
theorem mw_opens_14 (fu : Nat) {res : Int32 × PF × PG} (C : mMC p R s m args c A v RX12 cX12_opens 1 1 22) (hret : ∀ (H1 : Heap) (locs1 : List Loc) (ls1 : Array Slot) (pc : Nat), mMW s A v a res.2.1 res.2.2 H1 locs1 → narrow .boolean (.int res.1) = .int res.1 → decode cX12_opens pc = .ok (.ireturn, 1) → W p l e R s m args below meth c H1 locs1 0 0 Q (F0 m pc ls1 [.int res.1])) (z0 : Int32) (F : PF) (G : PG) (hm : mb_opens_14 fu z0 F G = some res) {H : Heap} {locs : List Loc} (hw : mMW s A v a F G H locs) {ls : Array Slot} (hl : lv_has ls 1 []) : W p l e R s m args below meth c H locs 0 0 Q (F0 m 14 ls [.int z0]) := by
  have hx := C.1
  have hb := C.2.1
  unfold mb_opens_14 at hm
  obtain ⟨hz, hm⟩ := b01_elim hm
  obtain rfl := Option.some.inj hm
  exact hret _ _ _ _ hw (b01_nar hz) dX12_opens_14
theorem mw_opens_9 (fu : Nat) {res : Int32 × PF × PG} (C : mMC p R s m args c A v RX12 cX12_opens 1 1 22) (hret : ∀ (H1 : Heap) (locs1 : List Loc) (ls1 : Array Slot) (pc : Nat), mMW s A v a res.2.1 res.2.2 H1 locs1 → narrow .boolean (.int res.1) = .int res.1 → decode cX12_opens pc = .ok (.ireturn, 1) → W p l e R s m args below meth c H1 locs1 0 0 Q (F0 m pc ls1 [.int res.1])) (F : PF) (G : PG) (hm : mb_opens_9 fu F G = some res) {H : Heap} {locs : List Loc} (hw : mMW s A v a F G H locs) {ls : Array Slot} (hl : lv_has ls 1 [(0, .ref (a 212))]) : W p l e R s m args below meth c H locs 0 0 Q (F0 m 9 ls []) := by
  have hx := C.1
  have hb := C.2.1
  unfold mb_opens_9 at hm
  refine lv_aload_n hx hb dX12_opens_9 rfl (lv_at hl 0 rfl) ?_
  refine lv_iconst (v := 3) hx hb dX12_opens_10 (by decide) ?_
  obtain ⟨⟨r1, F1, G1⟩, hc, hm⟩ := bind_elim hm
  refine mcallI (n := 1) (As := [.int 3]) (rest := []) C hw (mk_fails l v a _ fu 3 F G r1 F1 G1 hc) (mrecv_X12 C hw) mm_166 mm_167 mm_168 mm_27 mm_169 (by decide +kernel) rfl (by omega) (by omega) hl.1 rfl (Nat.le_of_ble_eq_true rfl) dX12_opens_11 (fun H locs hw => ?_)
  exact mw_opens_14 fu C hret r1 F1 G1 hm hw (lv_sub hl [] rfl)
theorem mw_opens_0 (fu : Nat) {res : Int32 × PF × PG} (C : mMC p R s m args c A v RX12 cX12_opens 1 1 22) (hret : ∀ (H1 : Heap) (locs1 : List Loc) (ls1 : Array Slot) (pc : Nat), mMW s A v a res.2.1 res.2.2 H1 locs1 → narrow .boolean (.int res.1) = .int res.1 → decode cX12_opens pc = .ok (.ireturn, 1) → W p l e R s m args below meth c H1 locs1 0 0 Q (F0 m pc ls1 [.int res.1])) (F : PF) (G : PG) (hm : mb_opens_0 fu F G = some res) {H : Heap} {locs : List Loc} (hw : mMW s A v a F G H locs) {ls : Array Slot} (hl : lv_has ls 1 [(0, .ref (a 212))]) : W p l e R s m args below meth c H locs 0 0 Q (F0 m 0 ls []) := by
  have hx := C.1
  have hb := C.2.1
  unfold mb_opens_0 at hm
  refine lv_aload_n hx hb dX12_opens_0 rfl (lv_at hl 0 rfl) ?_
  refine mg_X12_266 C hw dX12_opens_1 ?_
  refine lv_bipush (v := 40) hx hb dX12_opens_4 (by decide) ?_
  refine lv_icmp_ne (tgt := 15) hx hb dX12_opens_6 (by decide) (fun c_1 => ?_) (fun c_1 => ?_)
  · have hm := (if_neg c_1).symm.trans hm
    exact mw_opens_15 fu C hret F G hm hw (lv_sub hl [0] rfl)
  · have hm := (if_pos c_1).symm.trans hm
    exact mw_opens_9 fu C hret F G hm hw (lv_sub hl [0] rfl)
theorem mk_opens (l : Launch) (v : EV) (a : Nat → Nat) (sz : Nat) (fu : Nat) (F : PF) (G : PG) (r : Int32) (F1 : PF) (G1 : PG) (hm : mf_opens fu F G = some (r, F1, G1)) : mMI l yX12_opens cX12_opens 1 (some .boolean) 1 22 v a sz [.ref (a 212)] F G r F1 G1 := mMI.of (ty := .boolean) (by decide) rfl (Nat.le_of_ble_eq_true rfl) (fun p e R s m args below meth c Q A H locs ls C hw hl hret => mw_opens_0 fu (res := (r, F1, G1)) C hret F G hm hw hl)
def mb_openSign_27 (fu : Nat) (z0 : Int32) (F : PF) (G : PG) : PR := if b01 z0 = true then (some (z0, F, G)) else none
def mb_openSign_20 (fu : Nat) (z0 : Int32) (F : PF) (G : PG) : PR := mb_openSign_27 fu z0 F G
def mb_openSign_15 (fu : Nat) (F : PF) (G : PG) : PR := (mf_fails fu 2 F G).bind (fun q => mb_openSign_20 fu q.1 q.2.1 q.2.2)
def mb_openSign_23 (fu : Nat) (F : PF) (G : PG) : PR := (mf_opens fu F G).bind (fun q => mb_openSign_27 fu q.1 q.2.1 q.2.2)
def mb_openSign_12 (fu : Nat) (z0 : Int32) (F : PF) (G : PG) : PR := if z0 = (0 : Int32) then mb_openSign_15 fu F G else mb_openSign_23 fu F G
def mb_openSign_7 (fu : Nat) (x1 : Int32) (F : PF) (G : PG) : PR := (mf_isSign fu x1 F G).bind (fun q => mb_openSign_12 fu q.1 q.2.1 q.2.2)
def mb_openSign_0 (fu : Nat) (x1 : Int32) (F : PF) (G : PG) : PR := if (0 : Int32) < (F 44) then mb_openSign_15 fu F G else mb_openSign_7 fu x1 F G
def mf_openSign (fu : Nat) (x1 : Int32) (F : PF) (G : PG) : PR := mb_openSign_0 fu x1 F G
theorem mw_openSign_27 (fu : Nat) {res : Int32 × PF × PG} (C : mMC p R s m args c A v RX12 cX12_openSign 2 2 42) (hret : ∀ (H1 : Heap) (locs1 : List Loc) (ls1 : Array Slot) (pc : Nat), mMW s A v a res.2.1 res.2.2 H1 locs1 → narrow .boolean (.int res.1) = .int res.1 → decode cX12_openSign pc = .ok (.ireturn, 1) → W p l e R s m args below meth c H1 locs1 0 0 Q (F0 m pc ls1 [.int res.1])) (z0 : Int32) (F : PF) (G : PG) (hm : mb_openSign_27 fu z0 F G = some res) {H : Heap} {locs : List Loc} (hw : mMW s A v a F G H locs) {ls : Array Slot} (hl : lv_has ls 2 []) : W p l e R s m args below meth c H locs 0 0 Q (F0 m 27 ls [.int z0]) := by
  have hx := C.1
  have hb := C.2.1
  unfold mb_openSign_27 at hm
  obtain ⟨hz, hm⟩ := b01_elim hm
  obtain rfl := Option.some.inj hm
  exact hret _ _ _ _ hw (b01_nar hz) dX12_openSign_27
theorem mw_openSign_20 (fu : Nat) {res : Int32 × PF × PG} (C : mMC p R s m args c A v RX12 cX12_openSign 2 2 42) (hret : ∀ (H1 : Heap) (locs1 : List Loc) (ls1 : Array Slot) (pc : Nat), mMW s A v a res.2.1 res.2.2 H1 locs1 → narrow .boolean (.int res.1) = .int res.1 → decode cX12_openSign pc = .ok (.ireturn, 1) → W p l e R s m args below meth c H1 locs1 0 0 Q (F0 m pc ls1 [.int res.1])) (z0 : Int32) (F : PF) (G : PG) (hm : mb_openSign_20 fu z0 F G = some res) {H : Heap} {locs : List Loc} (hw : mMW s A v a F G H locs) {ls : Array Slot} (hl : lv_has ls 2 []) : W p l e R s m args below meth c H locs 0 0 Q (F0 m 20 ls [.int z0]) := by
  have hx := C.1
  have hb := C.2.1
  unfold mb_openSign_20 at hm
  refine lv_goto (tgt := 27) hx hb dX12_openSign_20 (by decide) ?_
  exact mw_openSign_27 fu C hret z0 F G hm hw (lv_sub hl [] rfl)
theorem mw_openSign_15 (fu : Nat) {res : Int32 × PF × PG} (C : mMC p R s m args c A v RX12 cX12_openSign 2 2 42) (hret : ∀ (H1 : Heap) (locs1 : List Loc) (ls1 : Array Slot) (pc : Nat), mMW s A v a res.2.1 res.2.2 H1 locs1 → narrow .boolean (.int res.1) = .int res.1 → decode cX12_openSign pc = .ok (.ireturn, 1) → W p l e R s m args below meth c H1 locs1 0 0 Q (F0 m pc ls1 [.int res.1])) (F : PF) (G : PG) (hm : mb_openSign_15 fu F G = some res) {H : Heap} {locs : List Loc} (hw : mMW s A v a F G H locs) {ls : Array Slot} (hl : lv_has ls 2 [(0, .ref (a 212))]) : W p l e R s m args below meth c H locs 0 0 Q (F0 m 15 ls []) := by
  have hx := C.1
  have hb := C.2.1
  unfold mb_openSign_15 at hm
  refine lv_aload_n hx hb dX12_openSign_15 rfl (lv_at hl 0 rfl) ?_
  refine lv_iconst (v := 2) hx hb dX12_openSign_16 (by decide) ?_
  obtain ⟨⟨r1, F1, G1⟩, hc, hm⟩ := bind_elim hm
  refine mcallI (n := 1) (As := [.int 2]) (rest := []) C hw (mk_fails l v a _ fu 2 F G r1 F1 G1 hc) (mrecv_X12 C hw) mm_166 mm_167 mm_168 mm_27 mm_169 (by decide +kernel) rfl (by omega) (by omega) hl.1 rfl (Nat.le_of_ble_eq_true rfl) dX12_openSign_17 (fun H locs hw => ?_)
  exact mw_openSign_20 fu C hret r1 F1 G1 hm hw (lv_sub hl [] rfl)
theorem mw_openSign_23 (fu : Nat) {res : Int32 × PF × PG} (C : mMC p R s m args c A v RX12 cX12_openSign 2 2 42) (hret : ∀ (H1 : Heap) (locs1 : List Loc) (ls1 : Array Slot) (pc : Nat), mMW s A v a res.2.1 res.2.2 H1 locs1 → narrow .boolean (.int res.1) = .int res.1 → decode cX12_openSign pc = .ok (.ireturn, 1) → W p l e R s m args below meth c H1 locs1 0 0 Q (F0 m pc ls1 [.int res.1])) (F : PF) (G : PG) (hm : mb_openSign_23 fu F G = some res) {H : Heap} {locs : List Loc} (hw : mMW s A v a F G H locs) {ls : Array Slot} (hl : lv_has ls 2 [(0, .ref (a 212))]) : W p l e R s m args below meth c H locs 0 0 Q (F0 m 23 ls []) := by
  have hx := C.1
  have hb := C.2.1
  unfold mb_openSign_23 at hm
  refine lv_aload_n hx hb dX12_openSign_23 rfl (lv_at hl 0 rfl) ?_
  obtain ⟨⟨r1, F1, G1⟩, hc, hm⟩ := bind_elim hm
  refine mcallI (n := 0) (As := []) (rest := []) C hw (mk_opens l v a _ fu F G r1 F1 G1 hc) (mrecv_X12 C hw) mm_199 mm_200 mm_201 mm_27 mm_202 (by decide +kernel) rfl (by omega) (by omega) hl.1 rfl (Nat.le_of_ble_eq_true rfl) dX12_openSign_24 (fun H locs hw => ?_)
  exact mw_openSign_27 fu C hret r1 F1 G1 hm hw (lv_sub hl [] rfl)
theorem mw_openSign_12 (fu : Nat) {res : Int32 × PF × PG} (C : mMC p R s m args c A v RX12 cX12_openSign 2 2 42) (hret : ∀ (H1 : Heap) (locs1 : List Loc) (ls1 : Array Slot) (pc : Nat), mMW s A v a res.2.1 res.2.2 H1 locs1 → narrow .boolean (.int res.1) = .int res.1 → decode cX12_openSign pc = .ok (.ireturn, 1) → W p l e R s m args below meth c H1 locs1 0 0 Q (F0 m pc ls1 [.int res.1])) (z0 : Int32) (F : PF) (G : PG) (hm : mb_openSign_12 fu z0 F G = some res) {H : Heap} {locs : List Loc} (hw : mMW s A v a F G H locs) {ls : Array Slot} (hl : lv_has ls 2 [(0, .ref (a 212))]) : W p l e R s m args below meth c H locs 0 0 Q (F0 m 12 ls [.int z0]) := by
  have hx := C.1
  have hb := C.2.1
  unfold mb_openSign_12 at hm
  refine lv_if_ne (tgt := 23) hx hb dX12_openSign_12 (by decide) (fun c_1 => ?_) (fun c_1 => ?_)
  · have hm := (if_neg c_1).symm.trans hm
    exact mw_openSign_23 fu C hret F G hm hw (lv_sub hl [0] rfl)
  · have hm := (if_pos c_1).symm.trans hm
    exact mw_openSign_15 fu C hret F G hm hw (lv_sub hl [0] rfl)
theorem mw_openSign_7 (fu : Nat) {res : Int32 × PF × PG} (C : mMC p R s m args c A v RX12 cX12_openSign 2 2 42) (hret : ∀ (H1 : Heap) (locs1 : List Loc) (ls1 : Array Slot) (pc : Nat), mMW s A v a res.2.1 res.2.2 H1 locs1 → narrow .boolean (.int res.1) = .int res.1 → decode cX12_openSign pc = .ok (.ireturn, 1) → W p l e R s m args below meth c H1 locs1 0 0 Q (F0 m pc ls1 [.int res.1])) (x1 : Int32) (F : PF) (G : PG) (hm : mb_openSign_7 fu x1 F G = some res) {H : Heap} {locs : List Loc} (hw : mMW s A v a F G H locs) {ls : Array Slot} (hl : lv_has ls 2 [(0, .ref (a 212)), (1, .int x1)]) : W p l e R s m args below meth c H locs 0 0 Q (F0 m 7 ls []) := by
  have hx := C.1
  have hb := C.2.1
  unfold mb_openSign_7 at hm
  refine lv_aload_n hx hb dX12_openSign_7 rfl (lv_at hl 0 rfl) ?_
  refine lv_iload_n hx hb dX12_openSign_8 rfl (lv_at hl 1 rfl) ?_
  obtain ⟨⟨r1, F1, G1⟩, hc, hm⟩ := bind_elim hm
  refine mcallI (n := 1) (As := [.int x1]) (rest := []) C hw (mk_isSign l v a _ fu x1 F G r1 F1 G1 hc) (mrecv_X12 C hw) mm_183 mm_184 mm_185 mm_27 mm_186 (by decide +kernel) rfl (by omega) (by omega) hl.1 rfl (Nat.le_of_ble_eq_true rfl) dX12_openSign_9 (fun H locs hw => ?_)
  exact mw_openSign_12 fu C hret r1 F1 G1 hm hw (lv_sub hl [0] rfl)
theorem mw_openSign_0 (fu : Nat) {res : Int32 × PF × PG} (C : mMC p R s m args c A v RX12 cX12_openSign 2 2 42) (hret : ∀ (H1 : Heap) (locs1 : List Loc) (ls1 : Array Slot) (pc : Nat), mMW s A v a res.2.1 res.2.2 H1 locs1 → narrow .boolean (.int res.1) = .int res.1 → decode cX12_openSign pc = .ok (.ireturn, 1) → W p l e R s m args below meth c H1 locs1 0 0 Q (F0 m pc ls1 [.int res.1])) (x1 : Int32) (F : PF) (G : PG) (hm : mb_openSign_0 fu x1 F G = some res) {H : Heap} {locs : List Loc} (hw : mMW s A v a F G H locs) {ls : Array Slot} (hl : lv_has ls 2 [(0, .ref (a 212)), (1, .int x1)]) : W p l e R s m args below meth c H locs 0 0 Q (F0 m 0 ls []) := by
  have hx := C.1
  have hb := C.2.1
  unfold mb_openSign_0 at hm
  refine lv_aload_n hx hb dX12_openSign_0 rfl (lv_at hl 0 rfl) ?_
  refine mg_X12_230 C hw dX12_openSign_1 ?_
  refine lv_if_gt (tgt := 15) hx hb dX12_openSign_4 (by decide) (fun c_1 => ?_) (fun c_1 => ?_)
  · have hm := (if_pos c_1).symm.trans hm
    exact mw_openSign_15 fu C hret F G hm hw (lv_sub hl [0] rfl)
  · have hm := (if_neg c_1).symm.trans hm
    exact mw_openSign_7 fu C hret x1 F G hm hw (lv_sub hl [0, 1] rfl)
theorem mk_openSign (l : Launch) (v : EV) (a : Nat → Nat) (sz : Nat) (fu : Nat) (x1 : Int32) (F : PF) (G : PG) (r : Int32) (F1 : PF) (G1 : PG) (hm : mf_openSign fu x1 F G = some (r, F1, G1)) : mMI l yX12_openSign cX12_openSign 2 (some .boolean) 2 42 v a sz [.ref (a 212), .int x1] F G r F1 G1 := mMI.of (ty := .boolean) (by decide) rfl (Nat.le_of_ble_eq_true rfl) (fun p e R s m args below meth c Q A H locs ls C hw hl hret => mw_openSign_0 fu (res := (r, F1, G1)) C hret x1 F G hm hw hl)
def mb_closeSign_20 (fu : Nat) (F : PF) (G : PG) : PR := some (1, F, G)
def mb_closeSign_10 (fu : Nat) (F : PF) (G : PG) : PR := mb_closeSign_20 fu (fup F 43 ((F 43) - (1 : Int32))) G
def mb_closeSign_8 (fu : Nat) (F : PF) (G : PG) : PR := some (0, F, G)
def mb_closeSign_5 (fu : Nat) (z0 : Int32) (F : PF) (G : PG) : PR := if z0 = (0 : Int32) then mb_closeSign_8 fu F G else mb_closeSign_10 fu F G
def mb_closeSign_0 (fu : Nat) (x1 : Int32) (F : PF) (G : PG) : PR := (mf_sign fu x1 F G).bind (fun q => mb_closeSign_5 fu q.1 q.2.1 q.2.2)
def mf_closeSign (fu : Nat) (x1 : Int32) (F : PF) (G : PG) : PR := mb_closeSign_0 fu x1 F G
theorem mw_closeSign_20 (fu : Nat) {res : Int32 × PF × PG} (C : mMC p R s m args c A v RX12 cX12_closeSign 2 2 43) (hret : ∀ (H1 : Heap) (locs1 : List Loc) (ls1 : Array Slot) (pc : Nat), mMW s A v a res.2.1 res.2.2 H1 locs1 → narrow .boolean (.int res.1) = .int res.1 → decode cX12_closeSign pc = .ok (.ireturn, 1) → W p l e R s m args below meth c H1 locs1 0 0 Q (F0 m pc ls1 [.int res.1])) (F : PF) (G : PG) (hm : mb_closeSign_20 fu F G = some res) {H : Heap} {locs : List Loc} (hw : mMW s A v a F G H locs) {ls : Array Slot} (hl : lv_has ls 2 []) : W p l e R s m args below meth c H locs 0 0 Q (F0 m 20 ls []) := by
  have hx := C.1
  have hb := C.2.1
  unfold mb_closeSign_20 at hm
  refine lv_iconst (v := 1) hx hb dX12_closeSign_20 (by decide) ?_
  obtain rfl := Option.some.inj hm
  exact hret _ _ _ _ hw (b01_nar (v := 1) (Or.inr rfl)) dX12_closeSign_21
theorem mw_closeSign_10 (fu : Nat) {res : Int32 × PF × PG} (C : mMC p R s m args c A v RX12 cX12_closeSign 2 2 43) (hret : ∀ (H1 : Heap) (locs1 : List Loc) (ls1 : Array Slot) (pc : Nat), mMW s A v a res.2.1 res.2.2 H1 locs1 → narrow .boolean (.int res.1) = .int res.1 → decode cX12_closeSign pc = .ok (.ireturn, 1) → W p l e R s m args below meth c H1 locs1 0 0 Q (F0 m pc ls1 [.int res.1])) (F : PF) (G : PG) (hm : mb_closeSign_10 fu F G = some res) {H : Heap} {locs : List Loc} (hw : mMW s A v a F G H locs) {ls : Array Slot} (hl : lv_has ls 2 [(0, .ref (a 212))]) : W p l e R s m args below meth c H locs 0 0 Q (F0 m 10 ls []) := by
  have hx := C.1
  have hb := C.2.1
  unfold mb_closeSign_10 at hm
  refine lv_aload_n hx hb dX12_closeSign_10 rfl (lv_at hl 0 rfl) ?_
  refine lv_dup hx hb dX12_closeSign_11 rfl ?_
  refine mg_X12_266 C hw dX12_closeSign_12 ?_
  refine lv_iconst (v := 1) hx hb dX12_closeSign_15 (by decide) ?_
  refine lv_isub hx hb dX12_closeSign_16 ?_
  refine mp_X12_266 C hw dX12_closeSign_17 (fun H locs hw => ?_)
  exact mw_closeSign_20 fu C hret (fup F 43 ((F 43) - (1 : Int32))) G hm hw (lv_sub hl [] rfl)
theorem mw_closeSign_8 (fu : Nat) {res : Int32 × PF × PG} (C : mMC p R s m args c A v RX12 cX12_closeSign 2 2 43) (hret : ∀ (H1 : Heap) (locs1 : List Loc) (ls1 : Array Slot) (pc : Nat), mMW s A v a res.2.1 res.2.2 H1 locs1 → narrow .boolean (.int res.1) = .int res.1 → decode cX12_closeSign pc = .ok (.ireturn, 1) → W p l e R s m args below meth c H1 locs1 0 0 Q (F0 m pc ls1 [.int res.1])) (F : PF) (G : PG) (hm : mb_closeSign_8 fu F G = some res) {H : Heap} {locs : List Loc} (hw : mMW s A v a F G H locs) {ls : Array Slot} (hl : lv_has ls 2 []) : W p l e R s m args below meth c H locs 0 0 Q (F0 m 8 ls []) := by
  have hx := C.1
  have hb := C.2.1
  unfold mb_closeSign_8 at hm
  refine lv_iconst (v := 0) hx hb dX12_closeSign_8 (by decide) ?_
  obtain rfl := Option.some.inj hm
  exact hret _ _ _ _ hw (b01_nar (v := 0) (Or.inl rfl)) dX12_closeSign_9
theorem mw_closeSign_5 (fu : Nat) {res : Int32 × PF × PG} (C : mMC p R s m args c A v RX12 cX12_closeSign 2 2 43) (hret : ∀ (H1 : Heap) (locs1 : List Loc) (ls1 : Array Slot) (pc : Nat), mMW s A v a res.2.1 res.2.2 H1 locs1 → narrow .boolean (.int res.1) = .int res.1 → decode cX12_closeSign pc = .ok (.ireturn, 1) → W p l e R s m args below meth c H1 locs1 0 0 Q (F0 m pc ls1 [.int res.1])) (z0 : Int32) (F : PF) (G : PG) (hm : mb_closeSign_5 fu z0 F G = some res) {H : Heap} {locs : List Loc} (hw : mMW s A v a F G H locs) {ls : Array Slot} (hl : lv_has ls 2 [(0, .ref (a 212))]) : W p l e R s m args below meth c H locs 0 0 Q (F0 m 5 ls [.int z0]) := by
  have hx := C.1
  have hb := C.2.1
  unfold mb_closeSign_5 at hm
  refine lv_if_ne (tgt := 10) hx hb dX12_closeSign_5 (by decide) (fun c_1 => ?_) (fun c_1 => ?_)
  · have hm := (if_neg c_1).symm.trans hm
    exact mw_closeSign_10 fu C hret F G hm hw (lv_sub hl [0] rfl)
  · have hm := (if_pos c_1).symm.trans hm
    exact mw_closeSign_8 fu C hret F G hm hw (lv_sub hl [] rfl)
theorem mw_closeSign_0 (fu : Nat) {res : Int32 × PF × PG} (C : mMC p R s m args c A v RX12 cX12_closeSign 2 2 43) (hret : ∀ (H1 : Heap) (locs1 : List Loc) (ls1 : Array Slot) (pc : Nat), mMW s A v a res.2.1 res.2.2 H1 locs1 → narrow .boolean (.int res.1) = .int res.1 → decode cX12_closeSign pc = .ok (.ireturn, 1) → W p l e R s m args below meth c H1 locs1 0 0 Q (F0 m pc ls1 [.int res.1])) (x1 : Int32) (F : PF) (G : PG) (hm : mb_closeSign_0 fu x1 F G = some res) {H : Heap} {locs : List Loc} (hw : mMW s A v a F G H locs) {ls : Array Slot} (hl : lv_has ls 2 [(0, .ref (a 212)), (1, .int x1)]) : W p l e R s m args below meth c H locs 0 0 Q (F0 m 0 ls []) := by
  have hx := C.1
  have hb := C.2.1
  unfold mb_closeSign_0 at hm
  refine lv_aload_n hx hb dX12_closeSign_0 rfl (lv_at hl 0 rfl) ?_
  refine lv_iload_n hx hb dX12_closeSign_1 rfl (lv_at hl 1 rfl) ?_
  obtain ⟨⟨r1, F1, G1⟩, hc, hm⟩ := bind_elim hm
  refine mcallI (n := 1) (As := [.int x1]) (rest := []) C hw (mk_sign l v a _ fu x1 F G r1 F1 G1 hc) (mrecv_X12 C hw) mm_179 mm_180 mm_181 mm_27 mm_182 (by decide +kernel) rfl (by omega) (by omega) hl.1 rfl (Nat.le_of_ble_eq_true rfl) dX12_closeSign_2 (fun H locs hw => ?_)
  exact mw_closeSign_5 fu C hret r1 F1 G1 hm hw (lv_sub hl [0] rfl)
theorem mk_closeSign (l : Launch) (v : EV) (a : Nat → Nat) (sz : Nat) (fu : Nat) (x1 : Int32) (F : PF) (G : PG) (r : Int32) (F1 : PF) (G1 : PG) (hm : mf_closeSign fu x1 F G = some (r, F1, G1)) : mMI l yX12_closeSign cX12_closeSign 2 (some .boolean) 2 43 v a sz [.ref (a 212), .int x1] F G r F1 G1 := mMI.of (ty := .boolean) (by decide) rfl (Nat.le_of_ble_eq_true rfl) (fun p e R s m args below meth c Q A H locs ls C hw hl hret => mw_closeSign_0 fu (res := (r, F1, G1)) C hret x1 F G hm hw hl)
def mb_step_40 (fu : Nat) (F : PF) (G : PG) : PR := some (((F 60) - (1 : Int32)), F, G)
def mb_step_30 (fu : Nat) (F : PF) (G : PG) : PR := mb_step_40 fu (fup F 60 ((F 60) + (1 : Int32))) G
def mb_step_20 (fu : Nat) (x3 : Int32) (F : PF) (G : PG) : PR := if ixb (F 60) 9000 = true then (mb_step_30 fu F (gup G 58 (F 60).toNatClampNeg x3)) else none
def mb_step_10 (fu : Nat) (x2 : Int32) (x3 : Int32) (F : PF) (G : PG) : PR := if ixb (F 60) 9000 = true then (mb_step_20 fu x3 F (gup G 57 (F 60).toNatClampNeg x2)) else none
def mb_step_0 (fu : Nat) (x1 : Int32) (x2 : Int32) (x3 : Int32) (F : PF) (G : PG) : PR := if ixb (F 60) 9000 = true then (mb_step_10 fu x2 x3 F (gup G 56 (F 60).toNatClampNeg x1)) else none
def mf_step (fu : Nat) (x1 : Int32) (x2 : Int32) (x3 : Int32) (F : PF) (G : PG) : PR := mb_step_0 fu x1 x2 x3 F G
theorem mw_step_40 (fu : Nat) {res : Int32 × PF × PG} (C : mMC p R s m args c A v RX12 cX12_step 4 0 0) (hret : ∀ (H1 : Heap) (locs1 : List Loc) (ls1 : Array Slot) (pc : Nat), mMW s A v a res.2.1 res.2.2 H1 locs1 → narrow .int (.int res.1) = .int res.1 → decode cX12_step pc = .ok (.ireturn, 1) → W p l e R s m args below meth c H1 locs1 0 0 Q (F0 m pc ls1 [.int res.1])) (F : PF) (G : PG) (hm : mb_step_40 fu F G = some res) {H : Heap} {locs : List Loc} (hw : mMW s A v a F G H locs) {ls : Array Slot} (hl : lv_has ls 4 [(0, .ref (a 212))]) : W p l e R s m args below meth c H locs 0 0 Q (F0 m 40 ls []) := by
  have hx := C.1
  have hb := C.2.1
  unfold mb_step_40 at hm
  refine lv_aload_n hx hb dX12_step_40 rfl (lv_at hl 0 rfl) ?_
  refine mg_X12_276 C hw dX12_step_41 ?_
  refine lv_iconst (v := 1) hx hb dX12_step_44 (by decide) ?_
  refine lv_isub hx hb dX12_step_45 ?_
  obtain rfl := Option.some.inj hm
  exact hret _ _ _ _ hw rfl dX12_step_46
theorem mw_step_30 (fu : Nat) {res : Int32 × PF × PG} (C : mMC p R s m args c A v RX12 cX12_step 4 0 0) (hret : ∀ (H1 : Heap) (locs1 : List Loc) (ls1 : Array Slot) (pc : Nat), mMW s A v a res.2.1 res.2.2 H1 locs1 → narrow .int (.int res.1) = .int res.1 → decode cX12_step pc = .ok (.ireturn, 1) → W p l e R s m args below meth c H1 locs1 0 0 Q (F0 m pc ls1 [.int res.1])) (F : PF) (G : PG) (hm : mb_step_30 fu F G = some res) {H : Heap} {locs : List Loc} (hw : mMW s A v a F G H locs) {ls : Array Slot} (hl : lv_has ls 4 [(0, .ref (a 212))]) : W p l e R s m args below meth c H locs 0 0 Q (F0 m 30 ls []) := by
  have hx := C.1
  have hb := C.2.1
  unfold mb_step_30 at hm
  refine lv_aload_n hx hb dX12_step_30 rfl (lv_at hl 0 rfl) ?_
  refine lv_dup hx hb dX12_step_31 rfl ?_
  refine mg_X12_276 C hw dX12_step_32 ?_
  refine lv_iconst (v := 1) hx hb dX12_step_35 (by decide) ?_
  refine lv_iadd hx hb dX12_step_36 ?_
  refine mp_X12_276 C hw dX12_step_37 (fun H locs hw => ?_)
  exact mw_step_40 fu C hret (fup F 60 ((F 60) + (1 : Int32))) G hm hw (lv_sub hl [0] rfl)
theorem mw_step_20 (fu : Nat) {res : Int32 × PF × PG} (C : mMC p R s m args c A v RX12 cX12_step 4 0 0) (hret : ∀ (H1 : Heap) (locs1 : List Loc) (ls1 : Array Slot) (pc : Nat), mMW s A v a res.2.1 res.2.2 H1 locs1 → narrow .int (.int res.1) = .int res.1 → decode cX12_step pc = .ok (.ireturn, 1) → W p l e R s m args below meth c H1 locs1 0 0 Q (F0 m pc ls1 [.int res.1])) (x3 : Int32) (F : PF) (G : PG) (hm : mb_step_20 fu x3 F G = some res) {H : Heap} {locs : List Loc} (hw : mMW s A v a F G H locs) {ls : Array Slot} (hl : lv_has ls 4 [(0, .ref (a 212)), (3, .int x3)]) : W p l e R s m args below meth c H locs 0 0 Q (F0 m 20 ls []) := by
  have hx := C.1
  have hb := C.2.1
  unfold mb_step_20 at hm
  refine lv_aload_n hx hb dX12_step_20 rfl (lv_at hl 0 rfl) ?_
  refine mg_X12_110 C hw dX12_step_21 ?_
  refine lv_aload_n hx hb dX12_step_24 rfl (lv_at hl 0 rfl) ?_
  refine mg_X12_276 C hw dX12_step_25 ?_
  refine lv_iload_n hx hb dX12_step_28 rfl (lv_at hl 1 rfl) ?_
  obtain ⟨hi, hm⟩ := ix_elim hm
  refine mas_58 C hw hi dX12_step_29 (fun H locs hw => ?_)
  exact mw_step_30 fu C hret F (gup G 58 (F 60).toNatClampNeg x3) hm hw (lv_sub hl [0] rfl)
theorem mw_step_10 (fu : Nat) {res : Int32 × PF × PG} (C : mMC p R s m args c A v RX12 cX12_step 4 0 0) (hret : ∀ (H1 : Heap) (locs1 : List Loc) (ls1 : Array Slot) (pc : Nat), mMW s A v a res.2.1 res.2.2 H1 locs1 → narrow .int (.int res.1) = .int res.1 → decode cX12_step pc = .ok (.ireturn, 1) → W p l e R s m args below meth c H1 locs1 0 0 Q (F0 m pc ls1 [.int res.1])) (x2 : Int32) (x3 : Int32) (F : PF) (G : PG) (hm : mb_step_10 fu x2 x3 F G = some res) {H : Heap} {locs : List Loc} (hw : mMW s A v a F G H locs) {ls : Array Slot} (hl : lv_has ls 4 [(0, .ref (a 212)), (2, .int x2), (3, .int x3)]) : W p l e R s m args below meth c H locs 0 0 Q (F0 m 10 ls []) := by
  have hx := C.1
  have hb := C.2.1
  unfold mb_step_10 at hm
  refine lv_aload_n hx hb dX12_step_10 rfl (lv_at hl 0 rfl) ?_
  refine mg_X12_107 C hw dX12_step_11 ?_
  refine lv_aload_n hx hb dX12_step_14 rfl (lv_at hl 0 rfl) ?_
  refine mg_X12_276 C hw dX12_step_15 ?_
  refine lv_iload_n hx hb dX12_step_18 rfl (lv_at hl 1 rfl) ?_
  obtain ⟨hi, hm⟩ := ix_elim hm
  refine mas_57 C hw hi dX12_step_19 (fun H locs hw => ?_)
  exact mw_step_20 fu C hret x3 F (gup G 57 (F 60).toNatClampNeg x2) hm hw (lv_sub hl [0, 2] rfl)
theorem mw_step_0 (fu : Nat) {res : Int32 × PF × PG} (C : mMC p R s m args c A v RX12 cX12_step 4 0 0) (hret : ∀ (H1 : Heap) (locs1 : List Loc) (ls1 : Array Slot) (pc : Nat), mMW s A v a res.2.1 res.2.2 H1 locs1 → narrow .int (.int res.1) = .int res.1 → decode cX12_step pc = .ok (.ireturn, 1) → W p l e R s m args below meth c H1 locs1 0 0 Q (F0 m pc ls1 [.int res.1])) (x1 : Int32) (x2 : Int32) (x3 : Int32) (F : PF) (G : PG) (hm : mb_step_0 fu x1 x2 x3 F G = some res) {H : Heap} {locs : List Loc} (hw : mMW s A v a F G H locs) {ls : Array Slot} (hl : lv_has ls 4 [(0, .ref (a 212)), (1, .int x1), (2, .int x2), (3, .int x3)]) : W p l e R s m args below meth c H locs 0 0 Q (F0 m 0 ls []) := by
  have hx := C.1
  have hb := C.2.1
  unfold mb_step_0 at hm
  refine lv_aload_n hx hb dX12_step_0 rfl (lv_at hl 0 rfl) ?_
  refine mg_X12_104 C hw dX12_step_1 ?_
  refine lv_aload_n hx hb dX12_step_4 rfl (lv_at hl 0 rfl) ?_
  refine mg_X12_276 C hw dX12_step_5 ?_
  refine lv_iload_n hx hb dX12_step_8 rfl (lv_at hl 1 rfl) ?_
  obtain ⟨hi, hm⟩ := ix_elim hm
  refine mas_56 C hw hi dX12_step_9 (fun H locs hw => ?_)
  exact mw_step_10 fu C hret x2 x3 F (gup G 56 (F 60).toNatClampNeg x1) hm hw (lv_sub hl [0, 2, 3] rfl)
theorem mk_step (l : Launch) (v : EV) (a : Nat → Nat) (sz : Nat) (fu : Nat) (x1 : Int32) (x2 : Int32) (x3 : Int32) (F : PF) (G : PG) (r : Int32) (F1 : PF) (G1 : PG) (hm : mf_step fu x1 x2 x3 F G = some (r, F1, G1)) : mMI l yX12_step cX12_step 4 (some .int) 0 0 v a sz [.ref (a 212), .int x1, .int x2, .int x3] F G r F1 G1 := mMI.of (ty := .int) (by decide) rfl (Nat.le_of_ble_eq_true rfl) (fun p e R s m args below meth c Q A H locs ls C hw hl hret => mw_step_0 fu (res := (r, F1, G1)) C hret x1 x2 x3 F G hm hw hl)
def mb_binds_99 (fu : Nat) (F : PF) (G : PG) : PR := some (0, F, G)
def mb_binds_88 (fu : Nat) (x2 : Int32) (z0 : Int32) (F : PF) (G : PG) : PR := if ixb x2 9000 = true then (mb_binds_99 fu F (gup G 57 x2.toNatClampNeg (F 60))) else none
def mb_binds_79 (fu : Nat) (x1 : Int32) (x2 : Int32) (F : PF) (G : PG) : PR := (mf_step fu 0 ((1 : Int32) - x1) 0 F G).bind (fun q => mb_binds_88 fu x2 q.1 q.2.1 q.2.2)
def mb_binds_60 (fu : Nat) (x1 : Int32) (z0 : Int32) (F : PF) (G : PG) : PR := if ixb (F 70) 600 = true then (if ixb (G 69 (F 70).toNatClampNeg) 9000 = true then (mb_binds_79 fu x1 z0 F (gup G 57 (G 69 (F 70).toNatClampNeg).toNatClampNeg (F 60))) else none) else none
def mb_binds_51 (fu : Nat) (x1 : Int32) (z0 : Int32) (F : PF) (G : PG) : PR := (mf_step fu 12 0 0 F G).bind (fun q => mb_binds_60 fu x1 q.1 q.2.1 q.2.2)
def mb_binds_43 (fu : Nat) (x1 : Int32) (F : PF) (G : PG) : PR := (mf_step fu 23 0 0 F G).bind (fun q => mb_binds_51 fu x1 q.1 q.2.1 q.2.2)
def mb_binds_41 (fu : Nat) (z0 : Int32) (F : PF) (G : PG) : PR := some (0, F, G)
def mb_binds_25 (fu : Nat) (F : PF) (G : PG) : PR := if ixb (F 70) 600 = true then ((mf_step fu 10 (G 67 (F 70).toNatClampNeg) 0 F G).bind (fun q => mb_binds_41 fu q.1 q.2.1 q.2.2)) else none
def mb_binds_10 (fu : Nat) (F : PF) (G : PG) : PR := if ixb (F 70) 600 = true then (if (G 68 (F 70).toNatClampNeg) ≤ (1 : Int32) then mb_binds_43 fu (G 68 (F 70).toNatClampNeg) F G else mb_binds_25 fu F G) else none
def mb_binds_0 (fu : Nat) (F : PF) (G : PG) : PR := mb_binds_10 fu (fup F 70 ((F 70) - (1 : Int32))) G
def mf_binds (fu : Nat) (F : PF) (G : PG) : PR := mb_binds_0 fu F G
theorem mw_binds_99 (fu : Nat) {res : Int32 × PF × PG} (C : mMC p R s m args c A v RX12 cX12_binds 3 1 23) (hret : ∀ (H1 : Heap) (locs1 : List Loc) (ls1 : Array Slot) (pc : Nat), mMW s A v a res.2.1 res.2.2 H1 locs1 → decode cX12_binds pc = .ok (.return_, 1) → W p l e R s m args below meth c H1 locs1 0 0 Q (F0 m pc ls1 [])) (F : PF) (G : PG) (hm : mb_binds_99 fu F G = some res) {H : Heap} {locs : List Loc} (hw : mMW s A v a F G H locs) {ls : Array Slot} (hl : lv_has ls 3 []) : W p l e R s m args below meth c H locs 0 0 Q (F0 m 99 ls []) := by
  have hx := C.1
  have hb := C.2.1
  unfold mb_binds_99 at hm
  obtain rfl := Option.some.inj hm
  exact hret _ _ _ _ hw dX12_binds_99
theorem mw_binds_88 (fu : Nat) {res : Int32 × PF × PG} (C : mMC p R s m args c A v RX12 cX12_binds 3 1 23) (hret : ∀ (H1 : Heap) (locs1 : List Loc) (ls1 : Array Slot) (pc : Nat), mMW s A v a res.2.1 res.2.2 H1 locs1 → decode cX12_binds pc = .ok (.return_, 1) → W p l e R s m args below meth c H1 locs1 0 0 Q (F0 m pc ls1 [])) (x2 : Int32) (z0 : Int32) (F : PF) (G : PG) (hm : mb_binds_88 fu x2 z0 F G = some res) {H : Heap} {locs : List Loc} (hw : mMW s A v a F G H locs) {ls : Array Slot} (hl : lv_has ls 3 [(0, .ref (a 212)), (2, .int x2)]) : W p l e R s m args below meth c H locs 0 0 Q (F0 m 88 ls [.int z0]) := by
  have hx := C.1
  have hb := C.2.1
  unfold mb_binds_88 at hm
  refine lv_pop hx hb dX12_binds_88 rfl ?_
  refine lv_aload_n hx hb dX12_binds_89 rfl (lv_at hl 0 rfl) ?_
  refine mg_X12_107 C hw dX12_binds_90 ?_
  refine lv_iload_n hx hb dX12_binds_93 rfl (lv_at hl 1 rfl) ?_
  refine lv_aload_n hx hb dX12_binds_94 rfl (lv_at hl 0 rfl) ?_
  refine mg_X12_276 C hw dX12_binds_95 ?_
  obtain ⟨hi, hm⟩ := ix_elim hm
  refine mas_57 C hw hi dX12_binds_98 (fun H locs hw => ?_)
  exact mw_binds_99 fu C hret F (gup G 57 x2.toNatClampNeg (F 60)) hm hw (lv_sub hl [] rfl)
theorem mw_binds_79 (fu : Nat) {res : Int32 × PF × PG} (C : mMC p R s m args c A v RX12 cX12_binds 3 1 23) (hret : ∀ (H1 : Heap) (locs1 : List Loc) (ls1 : Array Slot) (pc : Nat), mMW s A v a res.2.1 res.2.2 H1 locs1 → decode cX12_binds pc = .ok (.return_, 1) → W p l e R s m args below meth c H1 locs1 0 0 Q (F0 m pc ls1 [])) (x1 : Int32) (x2 : Int32) (F : PF) (G : PG) (hm : mb_binds_79 fu x1 x2 F G = some res) {H : Heap} {locs : List Loc} (hw : mMW s A v a F G H locs) {ls : Array Slot} (hl : lv_has ls 3 [(0, .ref (a 212)), (1, .int x1), (2, .int x2)]) : W p l e R s m args below meth c H locs 0 0 Q (F0 m 79 ls []) := by
  have hx := C.1
  have hb := C.2.1
  unfold mb_binds_79 at hm
  refine lv_aload_n hx hb dX12_binds_79 rfl (lv_at hl 0 rfl) ?_
  refine lv_iconst (v := 0) hx hb dX12_binds_80 (by decide) ?_
  refine lv_iconst (v := 1) hx hb dX12_binds_81 (by decide) ?_
  refine lv_iload_n hx hb dX12_binds_82 rfl (lv_at hl 1 rfl) ?_
  refine lv_isub hx hb dX12_binds_83 ?_
  refine lv_iconst (v := 0) hx hb dX12_binds_84 (by decide) ?_
  obtain ⟨⟨r1, F1, G1⟩, hc, hm⟩ := bind_elim hm
  refine mcallI (n := 3) (As := [.int 0, .int ((1 : Int32) - x1), .int 0]) (rest := []) C hw (mk_step l v a _ fu 0 ((1 : Int32) - x1) 0 F G r1 F1 G1 hc) (mrecv_X12 C hw) mm_203 mm_204 mm_205 mm_27 mm_206 (by decide +kernel) rfl (by omega) (by omega) hl.1 rfl (Nat.le_of_ble_eq_true rfl) dX12_binds_85 (fun H locs hw => ?_)
  exact mw_binds_88 fu C hret x2 r1 F1 G1 hm hw (lv_sub hl [0, 2] rfl)
theorem mw_binds_60 (fu : Nat) {res : Int32 × PF × PG} (C : mMC p R s m args c A v RX12 cX12_binds 3 1 23) (hret : ∀ (H1 : Heap) (locs1 : List Loc) (ls1 : Array Slot) (pc : Nat), mMW s A v a res.2.1 res.2.2 H1 locs1 → decode cX12_binds pc = .ok (.return_, 1) → W p l e R s m args below meth c H1 locs1 0 0 Q (F0 m pc ls1 [])) (x1 : Int32) (z0 : Int32) (F : PF) (G : PG) (hm : mb_binds_60 fu x1 z0 F G = some res) {H : Heap} {locs : List Loc} (hw : mMW s A v a F G H locs) {ls : Array Slot} (hl : lv_has ls 3 [(0, .ref (a 212)), (1, .int x1)]) : W p l e R s m args below meth c H locs 0 0 Q (F0 m 60 ls [.int z0]) := by
  have hx := C.1
  have hb := C.2.1
  unfold mb_binds_60 at hm
  refine lv_istore_n (lv' := [(2, .int z0), (0, .ref (a 212)), (1, .int x1)]) hx hb dX12_binds_60 rfl hl (by decide) rfl (fun ls hl => ?_)
  refine lv_aload_n hx hb dX12_binds_61 rfl (lv_at hl 1 rfl) ?_
  refine mg_X12_107 C hw dX12_binds_62 ?_
  refine lv_aload_n hx hb dX12_binds_65 rfl (lv_at hl 1 rfl) ?_
  refine mg_X12_122 C hw dX12_binds_66 ?_
  refine lv_aload_n hx hb dX12_binds_69 rfl (lv_at hl 1 rfl) ?_
  refine mg_X12_285 C hw dX12_binds_70 ?_
  obtain ⟨hi, hm⟩ := ix_elim hm
  refine mal_69 C hw hi dX12_binds_73 ?_
  refine lv_aload_n hx hb dX12_binds_74 rfl (lv_at hl 1 rfl) ?_
  refine mg_X12_276 C hw dX12_binds_75 ?_
  obtain ⟨hi, hm⟩ := ix_elim hm
  refine mas_57 C hw hi dX12_binds_78 (fun H locs hw => ?_)
  exact mw_binds_79 fu C hret x1 z0 F (gup G 57 (G 69 (F 70).toNatClampNeg).toNatClampNeg (F 60)) hm hw (lv_sub hl [1, 2, 0] rfl)
theorem mw_binds_51 (fu : Nat) {res : Int32 × PF × PG} (C : mMC p R s m args c A v RX12 cX12_binds 3 1 23) (hret : ∀ (H1 : Heap) (locs1 : List Loc) (ls1 : Array Slot) (pc : Nat), mMW s A v a res.2.1 res.2.2 H1 locs1 → decode cX12_binds pc = .ok (.return_, 1) → W p l e R s m args below meth c H1 locs1 0 0 Q (F0 m pc ls1 [])) (x1 : Int32) (z0 : Int32) (F : PF) (G : PG) (hm : mb_binds_51 fu x1 z0 F G = some res) {H : Heap} {locs : List Loc} (hw : mMW s A v a F G H locs) {ls : Array Slot} (hl : lv_has ls 3 [(0, .ref (a 212)), (1, .int x1)]) : W p l e R s m args below meth c H locs 0 0 Q (F0 m 51 ls [.int z0]) := by
  have hx := C.1
  have hb := C.2.1
  unfold mb_binds_51 at hm
  refine lv_pop hx hb dX12_binds_51 rfl ?_
  refine lv_aload_n hx hb dX12_binds_52 rfl (lv_at hl 0 rfl) ?_
  refine lv_bipush (v := 12) hx hb dX12_binds_53 (by decide) ?_
  refine lv_iconst (v := 0) hx hb dX12_binds_55 (by decide) ?_
  refine lv_iconst (v := 0) hx hb dX12_binds_56 (by decide) ?_
  obtain ⟨⟨r1, F1, G1⟩, hc, hm⟩ := bind_elim hm
  refine mcallI (n := 3) (As := [.int 12, .int 0, .int 0]) (rest := []) C hw (mk_step l v a _ fu 12 0 0 F G r1 F1 G1 hc) (mrecv_X12 C hw) mm_203 mm_204 mm_205 mm_27 mm_206 (by decide +kernel) rfl (by omega) (by omega) hl.1 rfl (Nat.le_of_ble_eq_true rfl) dX12_binds_57 (fun H locs hw => ?_)
  exact mw_binds_60 fu C hret x1 r1 F1 G1 hm hw (lv_sub hl [0, 1] rfl)
theorem mw_binds_43 (fu : Nat) {res : Int32 × PF × PG} (C : mMC p R s m args c A v RX12 cX12_binds 3 1 23) (hret : ∀ (H1 : Heap) (locs1 : List Loc) (ls1 : Array Slot) (pc : Nat), mMW s A v a res.2.1 res.2.2 H1 locs1 → decode cX12_binds pc = .ok (.return_, 1) → W p l e R s m args below meth c H1 locs1 0 0 Q (F0 m pc ls1 [])) (x1 : Int32) (F : PF) (G : PG) (hm : mb_binds_43 fu x1 F G = some res) {H : Heap} {locs : List Loc} (hw : mMW s A v a F G H locs) {ls : Array Slot} (hl : lv_has ls 3 [(0, .ref (a 212)), (1, .int x1)]) : W p l e R s m args below meth c H locs 0 0 Q (F0 m 43 ls []) := by
  have hx := C.1
  have hb := C.2.1
  unfold mb_binds_43 at hm
  refine lv_aload_n hx hb dX12_binds_43 rfl (lv_at hl 0 rfl) ?_
  refine lv_bipush (v := 23) hx hb dX12_binds_44 (by decide) ?_
  refine lv_iconst (v := 0) hx hb dX12_binds_46 (by decide) ?_
  refine lv_iconst (v := 0) hx hb dX12_binds_47 (by decide) ?_
  obtain ⟨⟨r1, F1, G1⟩, hc, hm⟩ := bind_elim hm
  refine mcallI (n := 3) (As := [.int 23, .int 0, .int 0]) (rest := []) C hw (mk_step l v a _ fu 23 0 0 F G r1 F1 G1 hc) (mrecv_X12 C hw) mm_203 mm_204 mm_205 mm_27 mm_206 (by decide +kernel) rfl (by omega) (by omega) hl.1 rfl (Nat.le_of_ble_eq_true rfl) dX12_binds_48 (fun H locs hw => ?_)
  exact mw_binds_51 fu C hret x1 r1 F1 G1 hm hw (lv_sub hl [0, 1] rfl)
theorem mw_binds_41 (fu : Nat) {res : Int32 × PF × PG} (C : mMC p R s m args c A v RX12 cX12_binds 3 1 23) (hret : ∀ (H1 : Heap) (locs1 : List Loc) (ls1 : Array Slot) (pc : Nat), mMW s A v a res.2.1 res.2.2 H1 locs1 → decode cX12_binds pc = .ok (.return_, 1) → W p l e R s m args below meth c H1 locs1 0 0 Q (F0 m pc ls1 [])) (z0 : Int32) (F : PF) (G : PG) (hm : mb_binds_41 fu z0 F G = some res) {H : Heap} {locs : List Loc} (hw : mMW s A v a F G H locs) {ls : Array Slot} (hl : lv_has ls 3 []) : W p l e R s m args below meth c H locs 0 0 Q (F0 m 41 ls [.int z0]) := by
  have hx := C.1
  have hb := C.2.1
  unfold mb_binds_41 at hm
  refine lv_pop hx hb dX12_binds_41 rfl ?_
  obtain rfl := Option.some.inj hm
  exact hret _ _ _ _ hw dX12_binds_42
theorem mw_binds_25 (fu : Nat) {res : Int32 × PF × PG} (C : mMC p R s m args c A v RX12 cX12_binds 3 1 23) (hret : ∀ (H1 : Heap) (locs1 : List Loc) (ls1 : Array Slot) (pc : Nat), mMW s A v a res.2.1 res.2.2 H1 locs1 → decode cX12_binds pc = .ok (.return_, 1) → W p l e R s m args below meth c H1 locs1 0 0 Q (F0 m pc ls1 [])) (F : PF) (G : PG) (hm : mb_binds_25 fu F G = some res) {H : Heap} {locs : List Loc} (hw : mMW s A v a F G H locs) {ls : Array Slot} (hl : lv_has ls 3 [(0, .ref (a 212))]) : W p l e R s m args below meth c H locs 0 0 Q (F0 m 25 ls []) := by
  have hx := C.1
  have hb := C.2.1
  unfold mb_binds_25 at hm
  refine lv_aload_n hx hb dX12_binds_25 rfl (lv_at hl 0 rfl) ?_
  refine lv_bipush (v := 10) hx hb dX12_binds_26 (by decide) ?_
  refine lv_aload_n hx hb dX12_binds_28 rfl (lv_at hl 0 rfl) ?_
  refine mg_X12_116 C hw dX12_binds_29 ?_
  refine lv_aload_n hx hb dX12_binds_32 rfl (lv_at hl 0 rfl) ?_
  refine mg_X12_285 C hw dX12_binds_33 ?_
  obtain ⟨hi, hm⟩ := ix_elim hm
  refine mal_67 C hw hi dX12_binds_36 ?_
  refine lv_iconst (v := 0) hx hb dX12_binds_37 (by decide) ?_
  obtain ⟨⟨r1, F1, G1⟩, hc, hm⟩ := bind_elim hm
  refine mcallI (n := 3) (As := [.int 10, .int (G 67 (F 70).toNatClampNeg), .int 0]) (rest := []) C hw (mk_step l v a _ fu 10 (G 67 (F 70).toNatClampNeg) 0 F G r1 F1 G1 hc) (mrecv_X12 C hw) mm_203 mm_204 mm_205 mm_27 mm_206 (by decide +kernel) rfl (by omega) (by omega) hl.1 rfl (Nat.le_of_ble_eq_true rfl) dX12_binds_38 (fun H locs hw => ?_)
  exact mw_binds_41 fu C hret r1 F1 G1 hm hw (lv_sub hl [] rfl)
theorem mw_binds_10 (fu : Nat) {res : Int32 × PF × PG} (C : mMC p R s m args c A v RX12 cX12_binds 3 1 23) (hret : ∀ (H1 : Heap) (locs1 : List Loc) (ls1 : Array Slot) (pc : Nat), mMW s A v a res.2.1 res.2.2 H1 locs1 → decode cX12_binds pc = .ok (.return_, 1) → W p l e R s m args below meth c H1 locs1 0 0 Q (F0 m pc ls1 [])) (F : PF) (G : PG) (hm : mb_binds_10 fu F G = some res) {H : Heap} {locs : List Loc} (hw : mMW s A v a F G H locs) {ls : Array Slot} (hl : lv_has ls 3 [(0, .ref (a 212))]) : W p l e R s m args below meth c H locs 0 0 Q (F0 m 10 ls []) := by
  have hx := C.1
  have hb := C.2.1
  unfold mb_binds_10 at hm
  refine lv_aload_n hx hb dX12_binds_10 rfl (lv_at hl 0 rfl) ?_
  refine mg_X12_119 C hw dX12_binds_11 ?_
  refine lv_aload_n hx hb dX12_binds_14 rfl (lv_at hl 0 rfl) ?_
  refine mg_X12_285 C hw dX12_binds_15 ?_
  obtain ⟨hi, hm⟩ := ix_elim hm
  refine mal_68 C hw hi dX12_binds_18 ?_
  refine lv_istore_n (lv' := [(1, .int (G 68 (F 70).toNatClampNeg)), (0, .ref (a 212))]) hx hb dX12_binds_19 rfl hl (by decide) rfl (fun ls hl => ?_)
  refine lv_iload_n hx hb dX12_binds_20 rfl (lv_at hl 0 rfl) ?_
  refine lv_iconst (v := 1) hx hb dX12_binds_21 (by decide) ?_
  refine lv_icmp_le (tgt := 43) hx hb dX12_binds_22 (by decide) (fun c_1 => ?_) (fun c_1 => ?_)
  · have hm := (if_pos c_1).symm.trans hm
    exact mw_binds_43 fu C hret (G 68 (F 70).toNatClampNeg) F G hm hw (lv_sub hl [1, 0] rfl)
  · have hm := (if_neg c_1).symm.trans hm
    exact mw_binds_25 fu C hret F G hm hw (lv_sub hl [1] rfl)
theorem mw_binds_0 (fu : Nat) {res : Int32 × PF × PG} (C : mMC p R s m args c A v RX12 cX12_binds 3 1 23) (hret : ∀ (H1 : Heap) (locs1 : List Loc) (ls1 : Array Slot) (pc : Nat), mMW s A v a res.2.1 res.2.2 H1 locs1 → decode cX12_binds pc = .ok (.return_, 1) → W p l e R s m args below meth c H1 locs1 0 0 Q (F0 m pc ls1 [])) (F : PF) (G : PG) (hm : mb_binds_0 fu F G = some res) {H : Heap} {locs : List Loc} (hw : mMW s A v a F G H locs) {ls : Array Slot} (hl : lv_has ls 3 [(0, .ref (a 212))]) : W p l e R s m args below meth c H locs 0 0 Q (F0 m 0 ls []) := by
  have hx := C.1
  have hb := C.2.1
  unfold mb_binds_0 at hm
  refine lv_aload_n hx hb dX12_binds_0 rfl (lv_at hl 0 rfl) ?_
  refine lv_dup hx hb dX12_binds_1 rfl ?_
  refine mg_X12_285 C hw dX12_binds_2 ?_
  refine lv_iconst (v := 1) hx hb dX12_binds_5 (by decide) ?_
  refine lv_isub hx hb dX12_binds_6 ?_
  refine mp_X12_285 C hw dX12_binds_7 (fun H locs hw => ?_)
  exact mw_binds_10 fu C hret (fup F 70 ((F 70) - (1 : Int32))) G hm hw (lv_sub hl [0] rfl)
theorem mk_binds (l : Launch) (v : EV) (a : Nat → Nat) (sz : Nat) (fu : Nat) (F : PF) (G : PG) (r : Int32) (F1 : PF) (G1 : PG) (hm : mf_binds fu F G = some (r, F1, G1)) : mMV l yX12_binds cX12_binds 3 1 23 v a sz [.ref (a 212)] F G F1 G1 := mMV.of (by decide) (Nat.le_of_ble_eq_true rfl) (fun p e R s m args below meth c Q A H locs ls C hw hl hret => mw_binds_0 fu (res := (r, F1, G1)) C hret F G hm hw hl)
def mb_meaning_167 (fu : Nat) (z0 : Int32) (F : PF) (G : PG) : PR := some (z0, F, G)
def mb_meaning_166 (fu : Nat) (x3 : Int32) (F : PF) (G : PG) : PR := mb_meaning_167 fu x3 F G
def mb_meaning_162 (fu : Nat) (F : PF) (G : PG) : PR := mb_meaning_167 fu (-1) F G
def mb_meaning_154 (fu : Nat) (x3 : Int32) (F : PF) (G : PG) : PR := if (F 62) = (-1 : Int32) then mb_meaning_166 fu x3 F G else mb_meaning_162 fu F G
def mb_meaning_149 (fu : Nat) (x3 : Int32) (F : PF) (G : PG) : PR := mb_meaning_154 fu x3 (fup F 62 (-1 : Int32)) G
def mb_meaning_131 (fu : Nat) (x3 : Int32) (F : PF) (G : PG) : PR := if ixb (F 62) 500 = true then (if ixb x3 900 = true then (if (G 26 (F 62).toNatClampNeg) ≤ (G 18 x3.toNatClampNeg) then mb_meaning_154 fu x3 F G else mb_meaning_149 fu x3 F G) else none) else none
def mb_meaning_123 (fu : Nat) (x3 : Int32) (F : PF) (G : PG) : PR := if (F 62) = (-1 : Int32) then mb_meaning_154 fu x3 F G else mb_meaning_131 fu x3 F G
def mb_meaning_118 (fu : Nat) (x3 : Int32) (F : PF) (G : PG) : PR := if x3 = (-1 : Int32) then mb_meaning_154 fu x3 F G else mb_meaning_123 fu x3 F G
def mb_meaning_112 (fu : Nat) (ag_85 : Int32 → Int32 → Int32 → PF → PG → PR) (x1 : Int32) (x3 : Int32) (x4 : Int32) (F : PF) (G : PG) : PR := ag_85 x1 x3 (x4 + (-1)) F G
def mb_meaning_106 (fu : Nat) (ag_85 : Int32 → Int32 → Int32 → PF → PG → PR) (x1 : Int32) (x3 : Int32) (x4 : Int32) (F : PF) (G : PG) : PR := mb_meaning_112 fu ag_85 x1 x3 x4 (fup F 62 x4) G
def mb_meaning_90 (fu : Nat) (ag_85 : Int32 → Int32 → Int32 → PF → PG → PR) (x1 : Int32) (x3 : Int32) (x4 : Int32) (F : PF) (G : PG) : PR := if ixb x4 500 = true then (if ixb x1 4002 = true then (if (G 25 x4.toNatClampNeg) = (G 5 x1.toNatClampNeg) then mb_meaning_106 fu ag_85 x1 x3 x4 F G else mb_meaning_112 fu ag_85 x1 x3 x4 F G) else none) else none
def mb_meaning_85 (fu : Nat) (ag_85 : Int32 → Int32 → Int32 → PF → PG → PR) (x1 : Int32) (x3 : Int32) (x4 : Int32) (F : PF) (G : PG) : PR := if x4 < (0 : Int32) then mb_meaning_118 fu x3 F G else mb_meaning_90 fu ag_85 x1 x3 x4 F G
def ml_meaning_85 (fu : Nat) : Nat → Int32 → Int32 → Int32 → PF → PG → PR
  | 0 => fun _ _ _ _ _ => none
  | n + 1 => fun x1 x3 x4 F G => mb_meaning_85 fu (ml_meaning_85 fu n) x1 x3 x4 F G
def mb_meaning_77 (fu : Nat) (x1 : Int32) (x3 : Int32) (F : PF) (G : PG) : PR := ml_meaning_85 fu fu x1 x3 ((F 24) - (1 : Int32)) F G
def mb_meaning_75 (fu : Nat) (x3 : Int32) (F : PF) (G : PG) : PR := some (x3, F, G)
def mb_meaning_66 (fu : Nat) (x1 : Int32) (x3 : Int32) (F : PF) (G : PG) : PR := if ixb x3 900 = true then (if (G 19 x3.toNatClampNeg) = (0 : Int32) then mb_meaning_77 fu x1 x3 F G else mb_meaning_75 fu x3 F G) else none
def mb_meaning_61 (fu : Nat) (x1 : Int32) (x3 : Int32) (F : PF) (G : PG) : PR := if x3 = (-1 : Int32) then mb_meaning_77 fu x1 x3 F G else mb_meaning_66 fu x1 x3 F G
def mb_meaning_55 (fu : Nat) (ag_14 : Int32 → Int32 → Int32 → PF → PG → PR) (x1 : Int32) (x2 : Int32) (x3 : Int32) (F : PF) (G : PG) : PR := ag_14 x1 (x2 + (-1)) x3 F G
def mb_meaning_53 (fu : Nat) (ag_14 : Int32 → Int32 → Int32 → PF → PG → PR) (x1 : Int32) (x2 : Int32) (F : PF) (G : PG) : PR := mb_meaning_55 fu ag_14 x1 x2 x2 F G
def mb_meaning_38 (fu : Nat) (ag_14 : Int32 → Int32 → Int32 → PF → PG → PR) (x1 : Int32) (x2 : Int32) (x3 : Int32) (F : PF) (G : PG) : PR := if ixb x2 900 = true then (if ixb x1 4002 = true then (if (G 16 x2.toNatClampNeg) = (G 5 x1.toNatClampNeg) then mb_meaning_53 fu ag_14 x1 x2 F G else mb_meaning_55 fu ag_14 x1 x2 x3 F G) else none) else none
def mb_meaning_23 (fu : Nat) (ag_14 : Int32 → Int32 → Int32 → PF → PG → PR) (x1 : Int32) (x2 : Int32) (x3 : Int32) (F : PF) (G : PG) : PR := if ixb x2 900 = true then (if ixb x3 900 = true then (if (G 19 x2.toNatClampNeg) = (G 19 x3.toNatClampNeg) then mb_meaning_38 fu ag_14 x1 x2 x3 F G else mb_meaning_61 fu x1 x3 F G) else none) else none
def mb_meaning_18 (fu : Nat) (ag_14 : Int32 → Int32 → Int32 → PF → PG → PR) (x1 : Int32) (x2 : Int32) (x3 : Int32) (F : PF) (G : PG) : PR := if x3 = (-1 : Int32) then mb_meaning_38 fu ag_14 x1 x2 x3 F G else mb_meaning_23 fu ag_14 x1 x2 x3 F G
def mb_meaning_14 (fu : Nat) (ag_14 : Int32 → Int32 → Int32 → PF → PG → PR) (x1 : Int32) (x2 : Int32) (x3 : Int32) (F : PF) (G : PG) : PR := if x2 < (0 : Int32) then mb_meaning_61 fu x1 x3 F G else mb_meaning_18 fu ag_14 x1 x2 x3 F G
def ml_meaning_14 (fu : Nat) : Nat → Int32 → Int32 → Int32 → PF → PG → PR
  | 0 => fun _ _ _ _ _ => none
  | n + 1 => fun x1 x2 x3 F G => mb_meaning_14 fu (ml_meaning_14 fu n) x1 x2 x3 F G
def mb_meaning_5 (fu : Nat) (x1 : Int32) (F : PF) (G : PG) : PR := ml_meaning_14 fu fu x1 ((F 14) - (1 : Int32)) (-1) F G
def mb_meaning_0 (fu : Nat) (x1 : Int32) (F : PF) (G : PG) : PR := mb_meaning_5 fu x1 (fup F 62 (-1 : Int32)) G
def mf_meaning (fu : Nat) (x1 : Int32) (F : PF) (G : PG) : PR := mb_meaning_0 fu x1 F G
theorem mw_meaning_167 (fu : Nat) {res : Int32 × PF × PG} (C : mMC p R s m args c A v RX12 cX12_meaning 5 0 0) (hret : ∀ (H1 : Heap) (locs1 : List Loc) (ls1 : Array Slot) (pc : Nat), mMW s A v a res.2.1 res.2.2 H1 locs1 → narrow .int (.int res.1) = .int res.1 → decode cX12_meaning pc = .ok (.ireturn, 1) → W p l e R s m args below meth c H1 locs1 0 0 Q (F0 m pc ls1 [.int res.1])) (z0 : Int32) (F : PF) (G : PG) (hm : mb_meaning_167 fu z0 F G = some res) {H : Heap} {locs : List Loc} (hw : mMW s A v a F G H locs) {ls : Array Slot} (hl : lv_has ls 5 []) : W p l e R s m args below meth c H locs 0 0 Q (F0 m 167 ls [.int z0]) := by
  have hx := C.1
  have hb := C.2.1
  unfold mb_meaning_167 at hm
  obtain rfl := Option.some.inj hm
  exact hret _ _ _ _ hw rfl dX12_meaning_167
theorem mw_meaning_166 (fu : Nat) {res : Int32 × PF × PG} (C : mMC p R s m args c A v RX12 cX12_meaning 5 0 0) (hret : ∀ (H1 : Heap) (locs1 : List Loc) (ls1 : Array Slot) (pc : Nat), mMW s A v a res.2.1 res.2.2 H1 locs1 → narrow .int (.int res.1) = .int res.1 → decode cX12_meaning pc = .ok (.ireturn, 1) → W p l e R s m args below meth c H1 locs1 0 0 Q (F0 m pc ls1 [.int res.1])) (x3 : Int32) (F : PF) (G : PG) (hm : mb_meaning_166 fu x3 F G = some res) {H : Heap} {locs : List Loc} (hw : mMW s A v a F G H locs) {ls : Array Slot} (hl : lv_has ls 5 [(3, .int x3)]) : W p l e R s m args below meth c H locs 0 0 Q (F0 m 166 ls []) := by
  have hx := C.1
  have hb := C.2.1
  unfold mb_meaning_166 at hm
  refine lv_iload_n hx hb dX12_meaning_166 rfl (lv_at hl 0 rfl) ?_
  exact mw_meaning_167 fu C hret x3 F G hm hw (lv_sub hl [] rfl)
theorem mw_meaning_162 (fu : Nat) {res : Int32 × PF × PG} (C : mMC p R s m args c A v RX12 cX12_meaning 5 0 0) (hret : ∀ (H1 : Heap) (locs1 : List Loc) (ls1 : Array Slot) (pc : Nat), mMW s A v a res.2.1 res.2.2 H1 locs1 → narrow .int (.int res.1) = .int res.1 → decode cX12_meaning pc = .ok (.ireturn, 1) → W p l e R s m args below meth c H1 locs1 0 0 Q (F0 m pc ls1 [.int res.1])) (F : PF) (G : PG) (hm : mb_meaning_162 fu F G = some res) {H : Heap} {locs : List Loc} (hw : mMW s A v a F G H locs) {ls : Array Slot} (hl : lv_has ls 5 []) : W p l e R s m args below meth c H locs 0 0 Q (F0 m 162 ls []) := by
  have hx := C.1
  have hb := C.2.1
  unfold mb_meaning_162 at hm
  refine lv_iconst (v := (-1)) hx hb dX12_meaning_162 (by decide) ?_
  refine lv_goto (tgt := 167) hx hb dX12_meaning_163 (by decide) ?_
  exact mw_meaning_167 fu C hret (-1) F G hm hw (lv_sub hl [] rfl)
theorem mw_meaning_154 (fu : Nat) {res : Int32 × PF × PG} (C : mMC p R s m args c A v RX12 cX12_meaning 5 0 0) (hret : ∀ (H1 : Heap) (locs1 : List Loc) (ls1 : Array Slot) (pc : Nat), mMW s A v a res.2.1 res.2.2 H1 locs1 → narrow .int (.int res.1) = .int res.1 → decode cX12_meaning pc = .ok (.ireturn, 1) → W p l e R s m args below meth c H1 locs1 0 0 Q (F0 m pc ls1 [.int res.1])) (x3 : Int32) (F : PF) (G : PG) (hm : mb_meaning_154 fu x3 F G = some res) {H : Heap} {locs : List Loc} (hw : mMW s A v a F G H locs) {ls : Array Slot} (hl : lv_has ls 5 [(0, .ref (a 212)), (3, .int x3)]) : W p l e R s m args below meth c H locs 0 0 Q (F0 m 154 ls []) := by
  have hx := C.1
  have hb := C.2.1
  unfold mb_meaning_154 at hm
  refine lv_aload_n hx hb dX12_meaning_154 rfl (lv_at hl 0 rfl) ?_
  refine mg_X12_374 C hw dX12_meaning_155 ?_
  refine lv_iconst (v := (-1)) hx hb dX12_meaning_158 (by decide) ?_
  refine lv_icmp_eq (tgt := 166) hx hb dX12_meaning_159 (by decide) (fun c_1 => ?_) (fun c_1 => ?_)
  · have hm := (if_pos c_1).symm.trans hm
    exact mw_meaning_166 fu C hret x3 F G hm hw (lv_sub hl [1] rfl)
  · have hm := (if_neg c_1).symm.trans hm
    exact mw_meaning_162 fu C hret F G hm hw (lv_sub hl [] rfl)
theorem mw_meaning_149 (fu : Nat) {res : Int32 × PF × PG} (C : mMC p R s m args c A v RX12 cX12_meaning 5 0 0) (hret : ∀ (H1 : Heap) (locs1 : List Loc) (ls1 : Array Slot) (pc : Nat), mMW s A v a res.2.1 res.2.2 H1 locs1 → narrow .int (.int res.1) = .int res.1 → decode cX12_meaning pc = .ok (.ireturn, 1) → W p l e R s m args below meth c H1 locs1 0 0 Q (F0 m pc ls1 [.int res.1])) (x3 : Int32) (F : PF) (G : PG) (hm : mb_meaning_149 fu x3 F G = some res) {H : Heap} {locs : List Loc} (hw : mMW s A v a F G H locs) {ls : Array Slot} (hl : lv_has ls 5 [(0, .ref (a 212)), (3, .int x3)]) : W p l e R s m args below meth c H locs 0 0 Q (F0 m 149 ls []) := by
  have hx := C.1
  have hb := C.2.1
  unfold mb_meaning_149 at hm
  refine lv_aload_n hx hb dX12_meaning_149 rfl (lv_at hl 0 rfl) ?_
  refine lv_iconst (v := (-1)) hx hb dX12_meaning_150 (by decide) ?_
  refine mp_X12_374 C hw dX12_meaning_151 (fun H locs hw => ?_)
  exact mw_meaning_154 fu C hret x3 (fup F 62 (-1 : Int32)) G hm hw (lv_sub hl [0, 1] rfl)
theorem mw_meaning_131 (fu : Nat) {res : Int32 × PF × PG} (C : mMC p R s m args c A v RX12 cX12_meaning 5 0 0) (hret : ∀ (H1 : Heap) (locs1 : List Loc) (ls1 : Array Slot) (pc : Nat), mMW s A v a res.2.1 res.2.2 H1 locs1 → narrow .int (.int res.1) = .int res.1 → decode cX12_meaning pc = .ok (.ireturn, 1) → W p l e R s m args below meth c H1 locs1 0 0 Q (F0 m pc ls1 [.int res.1])) (x3 : Int32) (F : PF) (G : PG) (hm : mb_meaning_131 fu x3 F G = some res) {H : Heap} {locs : List Loc} (hw : mMW s A v a F G H locs) {ls : Array Slot} (hl : lv_has ls 5 [(0, .ref (a 212)), (3, .int x3)]) : W p l e R s m args below meth c H locs 0 0 Q (F0 m 131 ls []) := by
  have hx := C.1
  have hb := C.2.1
  unfold mb_meaning_131 at hm
  refine lv_aload_n hx hb dX12_meaning_131 rfl (lv_at hl 0 rfl) ?_
  refine mg_X12_65 C hw dX12_meaning_132 ?_
  refine lv_aload_n hx hb dX12_meaning_135 rfl (lv_at hl 0 rfl) ?_
  refine mg_X12_374 C hw dX12_meaning_136 ?_
  obtain ⟨hi, hm⟩ := ix_elim hm
  refine mal_26 C hw hi dX12_meaning_139 ?_
  refine lv_aload_n hx hb dX12_meaning_140 rfl (lv_at hl 0 rfl) ?_
  refine mg_X12_43 C hw dX12_meaning_141 ?_
  refine lv_iload_n hx hb dX12_meaning_144 rfl (lv_at hl 1 rfl) ?_
  obtain ⟨hi, hm⟩ := ix_elim hm
  refine mal_18 C hw hi dX12_meaning_145 ?_
  refine lv_icmp_le (tgt := 154) hx hb dX12_meaning_146 (by decide) (fun c_1 => ?_) (fun c_1 => ?_)
  · have hm := (if_pos c_1).symm.trans hm
    exact mw_meaning_154 fu C hret x3 F G hm hw (lv_sub hl [0, 1] rfl)
  · have hm := (if_neg c_1).symm.trans hm
    exact mw_meaning_149 fu C hret x3 F G hm hw (lv_sub hl [0, 1] rfl)
theorem mw_meaning_123 (fu : Nat) {res : Int32 × PF × PG} (C : mMC p R s m args c A v RX12 cX12_meaning 5 0 0) (hret : ∀ (H1 : Heap) (locs1 : List Loc) (ls1 : Array Slot) (pc : Nat), mMW s A v a res.2.1 res.2.2 H1 locs1 → narrow .int (.int res.1) = .int res.1 → decode cX12_meaning pc = .ok (.ireturn, 1) → W p l e R s m args below meth c H1 locs1 0 0 Q (F0 m pc ls1 [.int res.1])) (x3 : Int32) (F : PF) (G : PG) (hm : mb_meaning_123 fu x3 F G = some res) {H : Heap} {locs : List Loc} (hw : mMW s A v a F G H locs) {ls : Array Slot} (hl : lv_has ls 5 [(0, .ref (a 212)), (3, .int x3)]) : W p l e R s m args below meth c H locs 0 0 Q (F0 m 123 ls []) := by
  have hx := C.1
  have hb := C.2.1
  unfold mb_meaning_123 at hm
  refine lv_aload_n hx hb dX12_meaning_123 rfl (lv_at hl 0 rfl) ?_
  refine mg_X12_374 C hw dX12_meaning_124 ?_
  refine lv_iconst (v := (-1)) hx hb dX12_meaning_127 (by decide) ?_
  refine lv_icmp_eq (tgt := 154) hx hb dX12_meaning_128 (by decide) (fun c_1 => ?_) (fun c_1 => ?_)
  · have hm := (if_pos c_1).symm.trans hm
    exact mw_meaning_154 fu C hret x3 F G hm hw (lv_sub hl [0, 1] rfl)
  · have hm := (if_neg c_1).symm.trans hm
    exact mw_meaning_131 fu C hret x3 F G hm hw (lv_sub hl [0, 1] rfl)
theorem mw_meaning_118 (fu : Nat) {res : Int32 × PF × PG} (C : mMC p R s m args c A v RX12 cX12_meaning 5 0 0) (hret : ∀ (H1 : Heap) (locs1 : List Loc) (ls1 : Array Slot) (pc : Nat), mMW s A v a res.2.1 res.2.2 H1 locs1 → narrow .int (.int res.1) = .int res.1 → decode cX12_meaning pc = .ok (.ireturn, 1) → W p l e R s m args below meth c H1 locs1 0 0 Q (F0 m pc ls1 [.int res.1])) (x3 : Int32) (F : PF) (G : PG) (hm : mb_meaning_118 fu x3 F G = some res) {H : Heap} {locs : List Loc} (hw : mMW s A v a F G H locs) {ls : Array Slot} (hl : lv_has ls 5 [(0, .ref (a 212)), (3, .int x3)]) : W p l e R s m args below meth c H locs 0 0 Q (F0 m 118 ls []) := by
  have hx := C.1
  have hb := C.2.1
  unfold mb_meaning_118 at hm
  refine lv_iload_n hx hb dX12_meaning_118 rfl (lv_at hl 1 rfl) ?_
  refine lv_iconst (v := (-1)) hx hb dX12_meaning_119 (by decide) ?_
  refine lv_icmp_eq (tgt := 154) hx hb dX12_meaning_120 (by decide) (fun c_1 => ?_) (fun c_1 => ?_)
  · have hm := (if_pos c_1).symm.trans hm
    exact mw_meaning_154 fu C hret x3 F G hm hw (lv_sub hl [0, 1] rfl)
  · have hm := (if_neg c_1).symm.trans hm
    exact mw_meaning_123 fu C hret x3 F G hm hw (lv_sub hl [0, 1] rfl)
theorem mw_meaning_112 (fu : Nat) {res : Int32 × PF × PG} (C : mMC p R s m args c A v RX12 cX12_meaning 5 0 0) (hret : ∀ (H1 : Heap) (locs1 : List Loc) (ls1 : Array Slot) (pc : Nat), mMW s A v a res.2.1 res.2.2 H1 locs1 → narrow .int (.int res.1) = .int res.1 → decode cX12_meaning pc = .ok (.ireturn, 1) → W p l e R s m args below meth c H1 locs1 0 0 Q (F0 m pc ls1 [.int res.1])) (ag_85 : Int32 → Int32 → Int32 → PF → PG → PR) (hag_85 : ∀ (x1 : Int32) (x3 : Int32) (x4 : Int32) (F : PF) (G : PG), ag_85 x1 x3 x4 F G = some res → ∀ (H : Heap) (locs : List Loc) (ls : Array Slot), mMW s A v a F G H locs → lv_has ls 5 [(0, .ref (a 212)), (1, .int x1), (3, .int x3), (4, .int x4)] → W p l e R s m args below meth c H locs 0 0 Q (F0 m 85 ls [])) (x1 : Int32) (x3 : Int32) (x4 : Int32) (F : PF) (G : PG) (hm : mb_meaning_112 fu ag_85 x1 x3 x4 F G = some res) {H : Heap} {locs : List Loc} (hw : mMW s A v a F G H locs) {ls : Array Slot} (hl : lv_has ls 5 [(0, .ref (a 212)), (1, .int x1), (3, .int x3), (4, .int x4)]) : W p l e R s m args below meth c H locs 0 0 Q (F0 m 112 ls []) := by
  have hx := C.1
  have hb := C.2.1
  unfold mb_meaning_112 at hm
  refine lv_iinc (v := (x4 + (-1))) (lv' := [(4, .int (x4 + (-1))), (0, .ref (a 212)), (1, .int x1), (3, .int x3)]) hx hb dX12_meaning_112 hl (k := 3) rfl (by rfl) (by decide) rfl (fun ls hl => ?_)
  refine lv_goto (tgt := 85) hx hb dX12_meaning_115 (by decide) ?_
  exact hag_85 x1 x3 (x4 + (-1)) F G hm _ _ _ hw (lv_sub hl [1, 2, 3, 0] rfl)
theorem mw_meaning_106 (fu : Nat) {res : Int32 × PF × PG} (C : mMC p R s m args c A v RX12 cX12_meaning 5 0 0) (hret : ∀ (H1 : Heap) (locs1 : List Loc) (ls1 : Array Slot) (pc : Nat), mMW s A v a res.2.1 res.2.2 H1 locs1 → narrow .int (.int res.1) = .int res.1 → decode cX12_meaning pc = .ok (.ireturn, 1) → W p l e R s m args below meth c H1 locs1 0 0 Q (F0 m pc ls1 [.int res.1])) (ag_85 : Int32 → Int32 → Int32 → PF → PG → PR) (hag_85 : ∀ (x1 : Int32) (x3 : Int32) (x4 : Int32) (F : PF) (G : PG), ag_85 x1 x3 x4 F G = some res → ∀ (H : Heap) (locs : List Loc) (ls : Array Slot), mMW s A v a F G H locs → lv_has ls 5 [(0, .ref (a 212)), (1, .int x1), (3, .int x3), (4, .int x4)] → W p l e R s m args below meth c H locs 0 0 Q (F0 m 85 ls [])) (x1 : Int32) (x3 : Int32) (x4 : Int32) (F : PF) (G : PG) (hm : mb_meaning_106 fu ag_85 x1 x3 x4 F G = some res) {H : Heap} {locs : List Loc} (hw : mMW s A v a F G H locs) {ls : Array Slot} (hl : lv_has ls 5 [(0, .ref (a 212)), (1, .int x1), (3, .int x3), (4, .int x4)]) : W p l e R s m args below meth c H locs 0 0 Q (F0 m 106 ls []) := by
  have hx := C.1
  have hb := C.2.1
  unfold mb_meaning_106 at hm
  refine lv_aload_n hx hb dX12_meaning_106 rfl (lv_at hl 0 rfl) ?_
  refine lv_iload hx hb dX12_meaning_107 (lv_at hl 3 rfl) ?_
  refine mp_X12_374 C hw dX12_meaning_109 (fun H locs hw => ?_)
  exact mw_meaning_112 fu C hret ag_85 hag_85 x1 x3 x4 (fup F 62 x4) G hm hw (lv_sub hl [0, 1, 2, 3] rfl)
theorem mw_meaning_90 (fu : Nat) {res : Int32 × PF × PG} (C : mMC p R s m args c A v RX12 cX12_meaning 5 0 0) (hret : ∀ (H1 : Heap) (locs1 : List Loc) (ls1 : Array Slot) (pc : Nat), mMW s A v a res.2.1 res.2.2 H1 locs1 → narrow .int (.int res.1) = .int res.1 → decode cX12_meaning pc = .ok (.ireturn, 1) → W p l e R s m args below meth c H1 locs1 0 0 Q (F0 m pc ls1 [.int res.1])) (ag_85 : Int32 → Int32 → Int32 → PF → PG → PR) (hag_85 : ∀ (x1 : Int32) (x3 : Int32) (x4 : Int32) (F : PF) (G : PG), ag_85 x1 x3 x4 F G = some res → ∀ (H : Heap) (locs : List Loc) (ls : Array Slot), mMW s A v a F G H locs → lv_has ls 5 [(0, .ref (a 212)), (1, .int x1), (3, .int x3), (4, .int x4)] → W p l e R s m args below meth c H locs 0 0 Q (F0 m 85 ls [])) (x1 : Int32) (x3 : Int32) (x4 : Int32) (F : PF) (G : PG) (hm : mb_meaning_90 fu ag_85 x1 x3 x4 F G = some res) {H : Heap} {locs : List Loc} (hw : mMW s A v a F G H locs) {ls : Array Slot} (hl : lv_has ls 5 [(0, .ref (a 212)), (1, .int x1), (3, .int x3), (4, .int x4)]) : W p l e R s m args below meth c H locs 0 0 Q (F0 m 90 ls []) := by
  have hx := C.1
  have hb := C.2.1
  unfold mb_meaning_90 at hm
  refine lv_aload_n hx hb dX12_meaning_90 rfl (lv_at hl 0 rfl) ?_
  refine mg_X12_62 C hw dX12_meaning_91 ?_
  refine lv_iload hx hb dX12_meaning_94 (lv_at hl 3 rfl) ?_
  obtain ⟨hi, hm⟩ := ix_elim hm
  refine mal_25 C hw hi dX12_meaning_96 ?_
  refine lv_aload_n hx hb dX12_meaning_97 rfl (lv_at hl 0 rfl) ?_
  refine mg_X12_19 C hw dX12_meaning_98 ?_
  refine lv_iload_n hx hb dX12_meaning_101 rfl (lv_at hl 1 rfl) ?_
  obtain ⟨hi, hm⟩ := ix_elim hm
  refine mal_5 C hw hi dX12_meaning_102 ?_
  refine lv_icmp_ne (tgt := 112) hx hb dX12_meaning_103 (by decide) (fun c_1 => ?_) (fun c_1 => ?_)
  · have hm := (if_neg c_1).symm.trans hm
    exact mw_meaning_112 fu C hret ag_85 hag_85 x1 x3 x4 F G hm hw (lv_sub hl [0, 1, 2, 3] rfl)
  · have hm := (if_pos c_1).symm.trans hm
    exact mw_meaning_106 fu C hret ag_85 hag_85 x1 x3 x4 F G hm hw (lv_sub hl [0, 1, 2, 3] rfl)
theorem mw_meaning_85 (fu : Nat) {res : Int32 × PF × PG} (C : mMC p R s m args c A v RX12 cX12_meaning 5 0 0) (hret : ∀ (H1 : Heap) (locs1 : List Loc) (ls1 : Array Slot) (pc : Nat), mMW s A v a res.2.1 res.2.2 H1 locs1 → narrow .int (.int res.1) = .int res.1 → decode cX12_meaning pc = .ok (.ireturn, 1) → W p l e R s m args below meth c H1 locs1 0 0 Q (F0 m pc ls1 [.int res.1])) (ag_85 : Int32 → Int32 → Int32 → PF → PG → PR) (hag_85 : ∀ (x1 : Int32) (x3 : Int32) (x4 : Int32) (F : PF) (G : PG), ag_85 x1 x3 x4 F G = some res → ∀ (H : Heap) (locs : List Loc) (ls : Array Slot), mMW s A v a F G H locs → lv_has ls 5 [(0, .ref (a 212)), (1, .int x1), (3, .int x3), (4, .int x4)] → W p l e R s m args below meth c H locs 0 0 Q (F0 m 85 ls [])) (x1 : Int32) (x3 : Int32) (x4 : Int32) (F : PF) (G : PG) (hm : mb_meaning_85 fu ag_85 x1 x3 x4 F G = some res) {H : Heap} {locs : List Loc} (hw : mMW s A v a F G H locs) {ls : Array Slot} (hl : lv_has ls 5 [(0, .ref (a 212)), (1, .int x1), (3, .int x3), (4, .int x4)]) : W p l e R s m args below meth c H locs 0 0 Q (F0 m 85 ls []) := by
  have hx := C.1
  have hb := C.2.1
  unfold mb_meaning_85 at hm
  refine lv_iload hx hb dX12_meaning_85 (lv_at hl 3 rfl) ?_
  refine lv_if_lt (tgt := 118) hx hb dX12_meaning_87 (by decide) (fun c_1 => ?_) (fun c_1 => ?_)
  · have hm := (if_pos c_1).symm.trans hm
    exact mw_meaning_118 fu C hret x3 F G hm hw (lv_sub hl [0, 2] rfl)
  · have hm := (if_neg c_1).symm.trans hm
    exact mw_meaning_90 fu C hret ag_85 hag_85 x1 x3 x4 F G hm hw (lv_sub hl [0, 1, 2, 3] rfl)
theorem mwl_meaning_85 (fu : Nat) {res : Int32 × PF × PG} (C : mMC p R s m args c A v RX12 cX12_meaning 5 0 0) (hret : ∀ (H1 : Heap) (locs1 : List Loc) (ls1 : Array Slot) (pc : Nat), mMW s A v a res.2.1 res.2.2 H1 locs1 → narrow .int (.int res.1) = .int res.1 → decode cX12_meaning pc = .ok (.ireturn, 1) → W p l e R s m args below meth c H1 locs1 0 0 Q (F0 m pc ls1 [.int res.1])) : ∀ (n : Nat) (x1 : Int32) (x3 : Int32) (x4 : Int32) (F : PF) (G : PG) (hm : ml_meaning_85 fu n x1 x3 x4 F G = some res) {H : Heap} {locs : List Loc} (hw : mMW s A v a F G H locs) {ls : Array Slot} (hl : lv_has ls 5 [(0, .ref (a 212)), (1, .int x1), (3, .int x3), (4, .int x4)]), W p l e R s m args below meth c H locs 0 0 Q (F0 m 85 ls []) := by
  intro n
  induction n with
  | zero =>
    intro x1 x3 x4 F G hm
    exact no_elim (show (none : PR) = some res from hm)
  | succ n ih =>
    intro x1 x3 x4 F G hm H locs hw ls hl
    exact mw_meaning_85 fu C hret (ml_meaning_85 fu n) (fun x1 x3 x4 F G hm H locs ls hw hl => ih x1 x3 x4 F G hm hw hl) x1 x3 x4 F G hm hw hl
theorem mw_meaning_77 (fu : Nat) {res : Int32 × PF × PG} (C : mMC p R s m args c A v RX12 cX12_meaning 5 0 0) (hret : ∀ (H1 : Heap) (locs1 : List Loc) (ls1 : Array Slot) (pc : Nat), mMW s A v a res.2.1 res.2.2 H1 locs1 → narrow .int (.int res.1) = .int res.1 → decode cX12_meaning pc = .ok (.ireturn, 1) → W p l e R s m args below meth c H1 locs1 0 0 Q (F0 m pc ls1 [.int res.1])) (x1 : Int32) (x3 : Int32) (F : PF) (G : PG) (hm : mb_meaning_77 fu x1 x3 F G = some res) {H : Heap} {locs : List Loc} (hw : mMW s A v a F G H locs) {ls : Array Slot} (hl : lv_has ls 5 [(0, .ref (a 212)), (1, .int x1), (3, .int x3)]) : W p l e R s m args below meth c H locs 0 0 Q (F0 m 77 ls []) := by
  have hx := C.1
  have hb := C.2.1
  unfold mb_meaning_77 at hm
  refine lv_aload_n hx hb dX12_meaning_77 rfl (lv_at hl 0 rfl) ?_
  refine mg_X12_297 C hw dX12_meaning_78 ?_
  refine lv_iconst (v := 1) hx hb dX12_meaning_81 (by decide) ?_
  refine lv_isub hx hb dX12_meaning_82 ?_
  refine lv_istore (lv' := [(4, .int ((F 24) - (1 : Int32))), (0, .ref (a 212)), (1, .int x1), (3, .int x3)]) hx hb dX12_meaning_83 hl (by decide) rfl (fun ls hl => ?_)
  exact mwl_meaning_85 fu C hret fu x1 x3 ((F 24) - (1 : Int32)) F G hm hw (lv_sub hl [1, 2, 3, 0] rfl)
theorem mw_meaning_75 (fu : Nat) {res : Int32 × PF × PG} (C : mMC p R s m args c A v RX12 cX12_meaning 5 0 0) (hret : ∀ (H1 : Heap) (locs1 : List Loc) (ls1 : Array Slot) (pc : Nat), mMW s A v a res.2.1 res.2.2 H1 locs1 → narrow .int (.int res.1) = .int res.1 → decode cX12_meaning pc = .ok (.ireturn, 1) → W p l e R s m args below meth c H1 locs1 0 0 Q (F0 m pc ls1 [.int res.1])) (x3 : Int32) (F : PF) (G : PG) (hm : mb_meaning_75 fu x3 F G = some res) {H : Heap} {locs : List Loc} (hw : mMW s A v a F G H locs) {ls : Array Slot} (hl : lv_has ls 5 [(3, .int x3)]) : W p l e R s m args below meth c H locs 0 0 Q (F0 m 75 ls []) := by
  have hx := C.1
  have hb := C.2.1
  unfold mb_meaning_75 at hm
  refine lv_iload_n hx hb dX12_meaning_75 rfl (lv_at hl 0 rfl) ?_
  obtain rfl := Option.some.inj hm
  exact hret _ _ _ _ hw rfl dX12_meaning_76
theorem mw_meaning_66 (fu : Nat) {res : Int32 × PF × PG} (C : mMC p R s m args c A v RX12 cX12_meaning 5 0 0) (hret : ∀ (H1 : Heap) (locs1 : List Loc) (ls1 : Array Slot) (pc : Nat), mMW s A v a res.2.1 res.2.2 H1 locs1 → narrow .int (.int res.1) = .int res.1 → decode cX12_meaning pc = .ok (.ireturn, 1) → W p l e R s m args below meth c H1 locs1 0 0 Q (F0 m pc ls1 [.int res.1])) (x1 : Int32) (x3 : Int32) (F : PF) (G : PG) (hm : mb_meaning_66 fu x1 x3 F G = some res) {H : Heap} {locs : List Loc} (hw : mMW s A v a F G H locs) {ls : Array Slot} (hl : lv_has ls 5 [(0, .ref (a 212)), (1, .int x1), (3, .int x3)]) : W p l e R s m args below meth c H locs 0 0 Q (F0 m 66 ls []) := by
  have hx := C.1
  have hb := C.2.1
  unfold mb_meaning_66 at hm
  refine lv_aload_n hx hb dX12_meaning_66 rfl (lv_at hl 0 rfl) ?_
  refine mg_X12_46 C hw dX12_meaning_67 ?_
  refine lv_iload_n hx hb dX12_meaning_70 rfl (lv_at hl 2 rfl) ?_
  obtain ⟨hi, hm⟩ := ix_elim hm
  refine mal_19 C hw hi dX12_meaning_71 ?_
  refine lv_if_eq (tgt := 77) hx hb dX12_meaning_72 (by decide) (fun c_1 => ?_) (fun c_1 => ?_)
  · have hm := (if_pos c_1).symm.trans hm
    exact mw_meaning_77 fu C hret x1 x3 F G hm hw (lv_sub hl [0, 1, 2] rfl)
  · have hm := (if_neg c_1).symm.trans hm
    exact mw_meaning_75 fu C hret x3 F G hm hw (lv_sub hl [2] rfl)
theorem mw_meaning_61 (fu : Nat) {res : Int32 × PF × PG} (C : mMC p R s m args c A v RX12 cX12_meaning 5 0 0) (hret : ∀ (H1 : Heap) (locs1 : List Loc) (ls1 : Array Slot) (pc : Nat), mMW s A v a res.2.1 res.2.2 H1 locs1 → narrow .int (.int res.1) = .int res.1 → decode cX12_meaning pc = .ok (.ireturn, 1) → W p l e R s m args below meth c H1 locs1 0 0 Q (F0 m pc ls1 [.int res.1])) (x1 : Int32) (x3 : Int32) (F : PF) (G : PG) (hm : mb_meaning_61 fu x1 x3 F G = some res) {H : Heap} {locs : List Loc} (hw : mMW s A v a F G H locs) {ls : Array Slot} (hl : lv_has ls 5 [(0, .ref (a 212)), (1, .int x1), (3, .int x3)]) : W p l e R s m args below meth c H locs 0 0 Q (F0 m 61 ls []) := by
  have hx := C.1
  have hb := C.2.1
  unfold mb_meaning_61 at hm
  refine lv_iload_n hx hb dX12_meaning_61 rfl (lv_at hl 2 rfl) ?_
  refine lv_iconst (v := (-1)) hx hb dX12_meaning_62 (by decide) ?_
  refine lv_icmp_eq (tgt := 77) hx hb dX12_meaning_63 (by decide) (fun c_1 => ?_) (fun c_1 => ?_)
  · have hm := (if_pos c_1).symm.trans hm
    exact mw_meaning_77 fu C hret x1 x3 F G hm hw (lv_sub hl [0, 1, 2] rfl)
  · have hm := (if_neg c_1).symm.trans hm
    exact mw_meaning_66 fu C hret x1 x3 F G hm hw (lv_sub hl [0, 1, 2] rfl)
theorem mw_meaning_55 (fu : Nat) {res : Int32 × PF × PG} (C : mMC p R s m args c A v RX12 cX12_meaning 5 0 0) (hret : ∀ (H1 : Heap) (locs1 : List Loc) (ls1 : Array Slot) (pc : Nat), mMW s A v a res.2.1 res.2.2 H1 locs1 → narrow .int (.int res.1) = .int res.1 → decode cX12_meaning pc = .ok (.ireturn, 1) → W p l e R s m args below meth c H1 locs1 0 0 Q (F0 m pc ls1 [.int res.1])) (ag_14 : Int32 → Int32 → Int32 → PF → PG → PR) (hag_14 : ∀ (x1 : Int32) (x2 : Int32) (x3 : Int32) (F : PF) (G : PG), ag_14 x1 x2 x3 F G = some res → ∀ (H : Heap) (locs : List Loc) (ls : Array Slot), mMW s A v a F G H locs → lv_has ls 5 [(0, .ref (a 212)), (1, .int x1), (2, .int x2), (3, .int x3)] → W p l e R s m args below meth c H locs 0 0 Q (F0 m 14 ls [])) (x1 : Int32) (x2 : Int32) (x3 : Int32) (F : PF) (G : PG) (hm : mb_meaning_55 fu ag_14 x1 x2 x3 F G = some res) {H : Heap} {locs : List Loc} (hw : mMW s A v a F G H locs) {ls : Array Slot} (hl : lv_has ls 5 [(0, .ref (a 212)), (1, .int x1), (2, .int x2), (3, .int x3)]) : W p l e R s m args below meth c H locs 0 0 Q (F0 m 55 ls []) := by
  have hx := C.1
  have hb := C.2.1
  unfold mb_meaning_55 at hm
  refine lv_iinc (v := (x2 + (-1))) (lv' := [(2, .int (x2 + (-1))), (0, .ref (a 212)), (1, .int x1), (3, .int x3)]) hx hb dX12_meaning_55 hl (k := 2) rfl (by rfl) (by decide) rfl (fun ls hl => ?_)
  refine lv_goto (tgt := 14) hx hb dX12_meaning_58 (by decide) ?_
  exact hag_14 x1 (x2 + (-1)) x3 F G hm _ _ _ hw (lv_sub hl [1, 2, 0, 3] rfl)
theorem mw_meaning_53 (fu : Nat) {res : Int32 × PF × PG} (C : mMC p R s m args c A v RX12 cX12_meaning 5 0 0) (hret : ∀ (H1 : Heap) (locs1 : List Loc) (ls1 : Array Slot) (pc : Nat), mMW s A v a res.2.1 res.2.2 H1 locs1 → narrow .int (.int res.1) = .int res.1 → decode cX12_meaning pc = .ok (.ireturn, 1) → W p l e R s m args below meth c H1 locs1 0 0 Q (F0 m pc ls1 [.int res.1])) (ag_14 : Int32 → Int32 → Int32 → PF → PG → PR) (hag_14 : ∀ (x1 : Int32) (x2 : Int32) (x3 : Int32) (F : PF) (G : PG), ag_14 x1 x2 x3 F G = some res → ∀ (H : Heap) (locs : List Loc) (ls : Array Slot), mMW s A v a F G H locs → lv_has ls 5 [(0, .ref (a 212)), (1, .int x1), (2, .int x2), (3, .int x3)] → W p l e R s m args below meth c H locs 0 0 Q (F0 m 14 ls [])) (x1 : Int32) (x2 : Int32) (F : PF) (G : PG) (hm : mb_meaning_53 fu ag_14 x1 x2 F G = some res) {H : Heap} {locs : List Loc} (hw : mMW s A v a F G H locs) {ls : Array Slot} (hl : lv_has ls 5 [(0, .ref (a 212)), (1, .int x1), (2, .int x2)]) : W p l e R s m args below meth c H locs 0 0 Q (F0 m 53 ls []) := by
  have hx := C.1
  have hb := C.2.1
  unfold mb_meaning_53 at hm
  refine lv_iload_n hx hb dX12_meaning_53 rfl (lv_at hl 2 rfl) ?_
  refine lv_istore_n (lv' := [(3, .int x2), (0, .ref (a 212)), (1, .int x1), (2, .int x2)]) hx hb dX12_meaning_54 rfl hl (by decide) rfl (fun ls hl => ?_)
  exact mw_meaning_55 fu C hret ag_14 hag_14 x1 x2 x2 F G hm hw (lv_sub hl [1, 2, 3, 0] rfl)
theorem mw_meaning_38 (fu : Nat) {res : Int32 × PF × PG} (C : mMC p R s m args c A v RX12 cX12_meaning 5 0 0) (hret : ∀ (H1 : Heap) (locs1 : List Loc) (ls1 : Array Slot) (pc : Nat), mMW s A v a res.2.1 res.2.2 H1 locs1 → narrow .int (.int res.1) = .int res.1 → decode cX12_meaning pc = .ok (.ireturn, 1) → W p l e R s m args below meth c H1 locs1 0 0 Q (F0 m pc ls1 [.int res.1])) (ag_14 : Int32 → Int32 → Int32 → PF → PG → PR) (hag_14 : ∀ (x1 : Int32) (x2 : Int32) (x3 : Int32) (F : PF) (G : PG), ag_14 x1 x2 x3 F G = some res → ∀ (H : Heap) (locs : List Loc) (ls : Array Slot), mMW s A v a F G H locs → lv_has ls 5 [(0, .ref (a 212)), (1, .int x1), (2, .int x2), (3, .int x3)] → W p l e R s m args below meth c H locs 0 0 Q (F0 m 14 ls [])) (x1 : Int32) (x2 : Int32) (x3 : Int32) (F : PF) (G : PG) (hm : mb_meaning_38 fu ag_14 x1 x2 x3 F G = some res) {H : Heap} {locs : List Loc} (hw : mMW s A v a F G H locs) {ls : Array Slot} (hl : lv_has ls 5 [(0, .ref (a 212)), (1, .int x1), (2, .int x2), (3, .int x3)]) : W p l e R s m args below meth c H locs 0 0 Q (F0 m 38 ls []) := by
  have hx := C.1
  have hb := C.2.1
  unfold mb_meaning_38 at hm
  refine lv_aload_n hx hb dX12_meaning_38 rfl (lv_at hl 0 rfl) ?_
  refine mg_X12_37 C hw dX12_meaning_39 ?_
  refine lv_iload_n hx hb dX12_meaning_42 rfl (lv_at hl 2 rfl) ?_
  obtain ⟨hi, hm⟩ := ix_elim hm
  refine mal_16 C hw hi dX12_meaning_43 ?_
  refine lv_aload_n hx hb dX12_meaning_44 rfl (lv_at hl 0 rfl) ?_
  refine mg_X12_19 C hw dX12_meaning_45 ?_
  refine lv_iload_n hx hb dX12_meaning_48 rfl (lv_at hl 1 rfl) ?_
  obtain ⟨hi, hm⟩ := ix_elim hm
  refine mal_5 C hw hi dX12_meaning_49 ?_
  refine lv_icmp_ne (tgt := 55) hx hb dX12_meaning_50 (by decide) (fun c_1 => ?_) (fun c_1 => ?_)
  · have hm := (if_neg c_1).symm.trans hm
    exact mw_meaning_55 fu C hret ag_14 hag_14 x1 x2 x3 F G hm hw (lv_sub hl [0, 1, 2, 3] rfl)
  · have hm := (if_pos c_1).symm.trans hm
    exact mw_meaning_53 fu C hret ag_14 hag_14 x1 x2 F G hm hw (lv_sub hl [0, 1, 2] rfl)
theorem mw_meaning_23 (fu : Nat) {res : Int32 × PF × PG} (C : mMC p R s m args c A v RX12 cX12_meaning 5 0 0) (hret : ∀ (H1 : Heap) (locs1 : List Loc) (ls1 : Array Slot) (pc : Nat), mMW s A v a res.2.1 res.2.2 H1 locs1 → narrow .int (.int res.1) = .int res.1 → decode cX12_meaning pc = .ok (.ireturn, 1) → W p l e R s m args below meth c H1 locs1 0 0 Q (F0 m pc ls1 [.int res.1])) (ag_14 : Int32 → Int32 → Int32 → PF → PG → PR) (hag_14 : ∀ (x1 : Int32) (x2 : Int32) (x3 : Int32) (F : PF) (G : PG), ag_14 x1 x2 x3 F G = some res → ∀ (H : Heap) (locs : List Loc) (ls : Array Slot), mMW s A v a F G H locs → lv_has ls 5 [(0, .ref (a 212)), (1, .int x1), (2, .int x2), (3, .int x3)] → W p l e R s m args below meth c H locs 0 0 Q (F0 m 14 ls [])) (x1 : Int32) (x2 : Int32) (x3 : Int32) (F : PF) (G : PG) (hm : mb_meaning_23 fu ag_14 x1 x2 x3 F G = some res) {H : Heap} {locs : List Loc} (hw : mMW s A v a F G H locs) {ls : Array Slot} (hl : lv_has ls 5 [(0, .ref (a 212)), (1, .int x1), (2, .int x2), (3, .int x3)]) : W p l e R s m args below meth c H locs 0 0 Q (F0 m 23 ls []) := by
  have hx := C.1
  have hb := C.2.1
  unfold mb_meaning_23 at hm
  refine lv_aload_n hx hb dX12_meaning_23 rfl (lv_at hl 0 rfl) ?_
  refine mg_X12_46 C hw dX12_meaning_24 ?_
  refine lv_iload_n hx hb dX12_meaning_27 rfl (lv_at hl 2 rfl) ?_
  obtain ⟨hi, hm⟩ := ix_elim hm
  refine mal_19 C hw hi dX12_meaning_28 ?_
  refine lv_aload_n hx hb dX12_meaning_29 rfl (lv_at hl 0 rfl) ?_
  refine mg_X12_46 C hw dX12_meaning_30 ?_
  refine lv_iload_n hx hb dX12_meaning_33 rfl (lv_at hl 3 rfl) ?_
  obtain ⟨hi, hm⟩ := ix_elim hm
  refine mal_19 C hw hi dX12_meaning_34 ?_
  refine lv_icmp_ne (tgt := 61) hx hb dX12_meaning_35 (by decide) (fun c_1 => ?_) (fun c_1 => ?_)
  · have hm := (if_neg c_1).symm.trans hm
    exact mw_meaning_61 fu C hret x1 x3 F G hm hw (lv_sub hl [0, 1, 3] rfl)
  · have hm := (if_pos c_1).symm.trans hm
    exact mw_meaning_38 fu C hret ag_14 hag_14 x1 x2 x3 F G hm hw (lv_sub hl [0, 1, 2, 3] rfl)
theorem mw_meaning_18 (fu : Nat) {res : Int32 × PF × PG} (C : mMC p R s m args c A v RX12 cX12_meaning 5 0 0) (hret : ∀ (H1 : Heap) (locs1 : List Loc) (ls1 : Array Slot) (pc : Nat), mMW s A v a res.2.1 res.2.2 H1 locs1 → narrow .int (.int res.1) = .int res.1 → decode cX12_meaning pc = .ok (.ireturn, 1) → W p l e R s m args below meth c H1 locs1 0 0 Q (F0 m pc ls1 [.int res.1])) (ag_14 : Int32 → Int32 → Int32 → PF → PG → PR) (hag_14 : ∀ (x1 : Int32) (x2 : Int32) (x3 : Int32) (F : PF) (G : PG), ag_14 x1 x2 x3 F G = some res → ∀ (H : Heap) (locs : List Loc) (ls : Array Slot), mMW s A v a F G H locs → lv_has ls 5 [(0, .ref (a 212)), (1, .int x1), (2, .int x2), (3, .int x3)] → W p l e R s m args below meth c H locs 0 0 Q (F0 m 14 ls [])) (x1 : Int32) (x2 : Int32) (x3 : Int32) (F : PF) (G : PG) (hm : mb_meaning_18 fu ag_14 x1 x2 x3 F G = some res) {H : Heap} {locs : List Loc} (hw : mMW s A v a F G H locs) {ls : Array Slot} (hl : lv_has ls 5 [(0, .ref (a 212)), (1, .int x1), (2, .int x2), (3, .int x3)]) : W p l e R s m args below meth c H locs 0 0 Q (F0 m 18 ls []) := by
  have hx := C.1
  have hb := C.2.1
  unfold mb_meaning_18 at hm
  refine lv_iload_n hx hb dX12_meaning_18 rfl (lv_at hl 3 rfl) ?_
  refine lv_iconst (v := (-1)) hx hb dX12_meaning_19 (by decide) ?_
  refine lv_icmp_eq (tgt := 38) hx hb dX12_meaning_20 (by decide) (fun c_1 => ?_) (fun c_1 => ?_)
  · have hm := (if_pos c_1).symm.trans hm
    exact mw_meaning_38 fu C hret ag_14 hag_14 x1 x2 x3 F G hm hw (lv_sub hl [0, 1, 2, 3] rfl)
  · have hm := (if_neg c_1).symm.trans hm
    exact mw_meaning_23 fu C hret ag_14 hag_14 x1 x2 x3 F G hm hw (lv_sub hl [0, 1, 2, 3] rfl)
theorem mw_meaning_14 (fu : Nat) {res : Int32 × PF × PG} (C : mMC p R s m args c A v RX12 cX12_meaning 5 0 0) (hret : ∀ (H1 : Heap) (locs1 : List Loc) (ls1 : Array Slot) (pc : Nat), mMW s A v a res.2.1 res.2.2 H1 locs1 → narrow .int (.int res.1) = .int res.1 → decode cX12_meaning pc = .ok (.ireturn, 1) → W p l e R s m args below meth c H1 locs1 0 0 Q (F0 m pc ls1 [.int res.1])) (ag_14 : Int32 → Int32 → Int32 → PF → PG → PR) (hag_14 : ∀ (x1 : Int32) (x2 : Int32) (x3 : Int32) (F : PF) (G : PG), ag_14 x1 x2 x3 F G = some res → ∀ (H : Heap) (locs : List Loc) (ls : Array Slot), mMW s A v a F G H locs → lv_has ls 5 [(0, .ref (a 212)), (1, .int x1), (2, .int x2), (3, .int x3)] → W p l e R s m args below meth c H locs 0 0 Q (F0 m 14 ls [])) (x1 : Int32) (x2 : Int32) (x3 : Int32) (F : PF) (G : PG) (hm : mb_meaning_14 fu ag_14 x1 x2 x3 F G = some res) {H : Heap} {locs : List Loc} (hw : mMW s A v a F G H locs) {ls : Array Slot} (hl : lv_has ls 5 [(0, .ref (a 212)), (1, .int x1), (2, .int x2), (3, .int x3)]) : W p l e R s m args below meth c H locs 0 0 Q (F0 m 14 ls []) := by
  have hx := C.1
  have hb := C.2.1
  unfold mb_meaning_14 at hm
  refine lv_iload_n hx hb dX12_meaning_14 rfl (lv_at hl 2 rfl) ?_
  refine lv_if_lt (tgt := 61) hx hb dX12_meaning_15 (by decide) (fun c_1 => ?_) (fun c_1 => ?_)
  · have hm := (if_pos c_1).symm.trans hm
    exact mw_meaning_61 fu C hret x1 x3 F G hm hw (lv_sub hl [0, 1, 3] rfl)
  · have hm := (if_neg c_1).symm.trans hm
    exact mw_meaning_18 fu C hret ag_14 hag_14 x1 x2 x3 F G hm hw (lv_sub hl [0, 1, 2, 3] rfl)
theorem mwl_meaning_14 (fu : Nat) {res : Int32 × PF × PG} (C : mMC p R s m args c A v RX12 cX12_meaning 5 0 0) (hret : ∀ (H1 : Heap) (locs1 : List Loc) (ls1 : Array Slot) (pc : Nat), mMW s A v a res.2.1 res.2.2 H1 locs1 → narrow .int (.int res.1) = .int res.1 → decode cX12_meaning pc = .ok (.ireturn, 1) → W p l e R s m args below meth c H1 locs1 0 0 Q (F0 m pc ls1 [.int res.1])) : ∀ (n : Nat) (x1 : Int32) (x2 : Int32) (x3 : Int32) (F : PF) (G : PG) (hm : ml_meaning_14 fu n x1 x2 x3 F G = some res) {H : Heap} {locs : List Loc} (hw : mMW s A v a F G H locs) {ls : Array Slot} (hl : lv_has ls 5 [(0, .ref (a 212)), (1, .int x1), (2, .int x2), (3, .int x3)]), W p l e R s m args below meth c H locs 0 0 Q (F0 m 14 ls []) := by
  intro n
  induction n with
  | zero =>
    intro x1 x2 x3 F G hm
    exact no_elim (show (none : PR) = some res from hm)
  | succ n ih =>
    intro x1 x2 x3 F G hm H locs hw ls hl
    exact mw_meaning_14 fu C hret (ml_meaning_14 fu n) (fun x1 x2 x3 F G hm H locs ls hw hl => ih x1 x2 x3 F G hm hw hl) x1 x2 x3 F G hm hw hl
theorem mw_meaning_5 (fu : Nat) {res : Int32 × PF × PG} (C : mMC p R s m args c A v RX12 cX12_meaning 5 0 0) (hret : ∀ (H1 : Heap) (locs1 : List Loc) (ls1 : Array Slot) (pc : Nat), mMW s A v a res.2.1 res.2.2 H1 locs1 → narrow .int (.int res.1) = .int res.1 → decode cX12_meaning pc = .ok (.ireturn, 1) → W p l e R s m args below meth c H1 locs1 0 0 Q (F0 m pc ls1 [.int res.1])) (x1 : Int32) (F : PF) (G : PG) (hm : mb_meaning_5 fu x1 F G = some res) {H : Heap} {locs : List Loc} (hw : mMW s A v a F G H locs) {ls : Array Slot} (hl : lv_has ls 5 [(0, .ref (a 212)), (1, .int x1)]) : W p l e R s m args below meth c H locs 0 0 Q (F0 m 5 ls []) := by
  have hx := C.1
  have hb := C.2.1
  unfold mb_meaning_5 at hm
  refine lv_aload_n hx hb dX12_meaning_5 rfl (lv_at hl 0 rfl) ?_
  refine mg_X12_279 C hw dX12_meaning_6 ?_
  refine lv_iconst (v := 1) hx hb dX12_meaning_9 (by decide) ?_
  refine lv_isub hx hb dX12_meaning_10 ?_
  refine lv_istore_n (lv' := [(2, .int ((F 14) - (1 : Int32))), (0, .ref (a 212)), (1, .int x1)]) hx hb dX12_meaning_11 rfl hl (by decide) rfl (fun ls hl => ?_)
  refine lv_iconst (v := (-1)) hx hb dX12_meaning_12 (by decide) ?_
  refine lv_istore_n (lv' := [(3, .int (-1)), (2, .int ((F 14) - (1 : Int32))), (0, .ref (a 212)), (1, .int x1)]) hx hb dX12_meaning_13 rfl hl (by decide) rfl (fun ls hl => ?_)
  exact mwl_meaning_14 fu C hret fu x1 ((F 14) - (1 : Int32)) (-1) F G hm hw (lv_sub hl [2, 3, 1, 0] rfl)
theorem mw_meaning_0 (fu : Nat) {res : Int32 × PF × PG} (C : mMC p R s m args c A v RX12 cX12_meaning 5 0 0) (hret : ∀ (H1 : Heap) (locs1 : List Loc) (ls1 : Array Slot) (pc : Nat), mMW s A v a res.2.1 res.2.2 H1 locs1 → narrow .int (.int res.1) = .int res.1 → decode cX12_meaning pc = .ok (.ireturn, 1) → W p l e R s m args below meth c H1 locs1 0 0 Q (F0 m pc ls1 [.int res.1])) (x1 : Int32) (F : PF) (G : PG) (hm : mb_meaning_0 fu x1 F G = some res) {H : Heap} {locs : List Loc} (hw : mMW s A v a F G H locs) {ls : Array Slot} (hl : lv_has ls 5 [(0, .ref (a 212)), (1, .int x1)]) : W p l e R s m args below meth c H locs 0 0 Q (F0 m 0 ls []) := by
  have hx := C.1
  have hb := C.2.1
  unfold mb_meaning_0 at hm
  refine lv_aload_n hx hb dX12_meaning_0 rfl (lv_at hl 0 rfl) ?_
  refine lv_iconst (v := (-1)) hx hb dX12_meaning_1 (by decide) ?_
  refine mp_X12_374 C hw dX12_meaning_2 (fun H locs hw => ?_)
  exact mw_meaning_5 fu C hret x1 (fup F 62 (-1 : Int32)) G hm hw (lv_sub hl [0, 1] rfl)
theorem mk_meaning (l : Launch) (v : EV) (a : Nat → Nat) (sz : Nat) (fu : Nat) (x1 : Int32) (F : PF) (G : PG) (r : Int32) (F1 : PF) (G1 : PG) (hm : mf_meaning fu x1 F G = some (r, F1, G1)) : mMI l yX12_meaning cX12_meaning 5 (some .int) 0 0 v a sz [.ref (a 212), .int x1] F G r F1 G1 := mMI.of (ty := .int) (by decide) rfl (Nat.le_of_ble_eq_true rfl) (fun p e R s m args below meth c Q A H locs ls C hw hl hret => mw_meaning_0 fu (res := (r, F1, G1)) C hret x1 F G hm hw hl)
def mb_level_208 (fu : Nat) (F : PF) (G : PG) : PR := some (0, F, G)
def mb_level_210 (fu : Nat) (F : PF) (G : PG) : PR := some (1, F, G)
def mb_level_212 (fu : Nat) (F : PF) (G : PG) : PR := some (2, F, G)
def mb_level_214 (fu : Nat) (F : PF) (G : PG) : PR := some (3, F, G)
def mb_level_216 (fu : Nat) (F : PF) (G : PG) : PR := some (4, F, G)
def mb_level_218 (fu : Nat) (F : PF) (G : PG) : PR := some (5, F, G)
def mb_level_220 (fu : Nat) (F : PF) (G : PG) : PR := some (6, F, G)
def mb_level_223 (fu : Nat) (F : PF) (G : PG) : PR := some (7, F, G)
def mb_level_226 (fu : Nat) (F : PF) (G : PG) : PR := some (8, F, G)
def mb_level_229 (fu : Nat) (F : PF) (G : PG) : PR := some (9, F, G)
def mb_level_232 (fu : Nat) (F : PF) (G : PG) : PR := some ((-1), F, G)
def mb_level_15 (fu : Nat) (F : PF) (G : PG) : PR := if ixb (F 42) 4002 = true then (if (G 5 (F 42).toNatClampNeg).toInt < 1 ∨ 42 < (G 5 (F 42).toNatClampNeg).toInt then mb_level_232 fu F G else if (G 5 (F 42).toNatClampNeg) = 1 then mb_level_223 fu F G else if (G 5 (F 42).toNatClampNeg) = 2 then mb_level_232 fu F G else if (G 5 (F 42).toNatClampNeg) = 3 then mb_level_232 fu F G else if (G 5 (F 42).toNatClampNeg) = 4 then mb_level_232 fu F G else if (G 5 (F 42).toNatClampNeg) = 5 then mb_level_232 fu F G else if (G 5 (F 42).toNatClampNeg) = 6 then mb_level_232 fu F G else if (G 5 (F 42).toNatClampNeg) = 7 then mb_level_232 fu F G else if (G 5 (F 42).toNatClampNeg) = 8 then mb_level_232 fu F G else if (G 5 (F 42).toNatClampNeg) = 9 then mb_level_232 fu F G else if (G 5 (F 42).toNatClampNeg) = 10 then mb_level_232 fu F G else if (G 5 (F 42).toNatClampNeg) = 11 then mb_level_232 fu F G else if (G 5 (F 42).toNatClampNeg) = 12 then mb_level_232 fu F G else if (G 5 (F 42).toNatClampNeg) = 13 then mb_level_232 fu F G else if (G 5 (F 42).toNatClampNeg) = 14 then mb_level_208 fu F G else if (G 5 (F 42).toNatClampNeg) = 15 then mb_level_210 fu F G else if (G 5 (F 42).toNatClampNeg) = 16 then mb_level_218 fu F G else if (G 5 (F 42).toNatClampNeg) = 17 then mb_level_218 fu F G else if (G 5 (F 42).toNatClampNeg) = 18 then mb_level_220 fu F G else if (G 5 (F 42).toNatClampNeg) = 19 then mb_level_220 fu F G else if (G 5 (F 42).toNatClampNeg) = 20 then mb_level_223 fu F G else if (G 5 (F 42).toNatClampNeg) = 21 then mb_level_223 fu F G else if (G 5 (F 42).toNatClampNeg) = 22 then mb_level_232 fu F G else if (G 5 (F 42).toNatClampNeg) = 23 then mb_level_232 fu F G else if (G 5 (F 42).toNatClampNeg) = 24 then mb_level_232 fu F G else if (G 5 (F 42).toNatClampNeg) = 25 then mb_level_232 fu F G else if (G 5 (F 42).toNatClampNeg) = 26 then mb_level_232 fu F G else if (G 5 (F 42).toNatClampNeg) = 27 then mb_level_232 fu F G else if (G 5 (F 42).toNatClampNeg) = 28 then mb_level_232 fu F G else if (G 5 (F 42).toNatClampNeg) = 29 then mb_level_232 fu F G else if (G 5 (F 42).toNatClampNeg) = 30 then mb_level_232 fu F G else if (G 5 (F 42).toNatClampNeg) = 31 then mb_level_232 fu F G else if (G 5 (F 42).toNatClampNeg) = 32 then mb_level_232 fu F G else if (G 5 (F 42).toNatClampNeg) = 33 then mb_level_212 fu F G else if (G 5 (F 42).toNatClampNeg) = 34 then mb_level_214 fu F G else if (G 5 (F 42).toNatClampNeg) = 35 then mb_level_216 fu F G else if (G 5 (F 42).toNatClampNeg) = 36 then mb_level_220 fu F G else if (G 5 (F 42).toNatClampNeg) = 37 then mb_level_220 fu F G else if (G 5 (F 42).toNatClampNeg) = 38 then mb_level_226 fu F G else if (G 5 (F 42).toNatClampNeg) = 39 then mb_level_226 fu F G else if (G 5 (F 42).toNatClampNeg) = 40 then mb_level_229 fu F G else if (G 5 (F 42).toNatClampNeg) = 41 then mb_level_229 fu F G else mb_level_229 fu F G) else none
def mb_level_13 (fu : Nat) (F : PF) (G : PG) : PR := some ((-1), F, G)
def mb_level_0 (fu : Nat) (F : PF) (G : PG) : PR := if ixb (F 42) 4002 = true then (if (G 4 (F 42).toNatClampNeg) = (4 : Int32) then mb_level_15 fu F G else mb_level_13 fu F G) else none
def mf_level (fu : Nat) (F : PF) (G : PG) : PR := mb_level_0 fu F G
theorem mw_level_208 (fu : Nat) {res : Int32 × PF × PG} (C : mMC p R s m args c A v RX12 cX12_level 1 0 0) (hret : ∀ (H1 : Heap) (locs1 : List Loc) (ls1 : Array Slot) (pc : Nat), mMW s A v a res.2.1 res.2.2 H1 locs1 → narrow .int (.int res.1) = .int res.1 → decode cX12_level pc = .ok (.ireturn, 1) → W p l e R s m args below meth c H1 locs1 0 0 Q (F0 m pc ls1 [.int res.1])) (F : PF) (G : PG) (hm : mb_level_208 fu F G = some res) {H : Heap} {locs : List Loc} (hw : mMW s A v a F G H locs) {ls : Array Slot} (hl : lv_has ls 1 []) : W p l e R s m args below meth c H locs 0 0 Q (F0 m 208 ls []) := by
  have hx := C.1
  have hb := C.2.1
  unfold mb_level_208 at hm
  refine lv_iconst (v := 0) hx hb dX12_level_208 (by decide) ?_
  obtain rfl := Option.some.inj hm
  exact hret _ _ _ _ hw rfl dX12_level_209
theorem mw_level_210 (fu : Nat) {res : Int32 × PF × PG} (C : mMC p R s m args c A v RX12 cX12_level 1 0 0) (hret : ∀ (H1 : Heap) (locs1 : List Loc) (ls1 : Array Slot) (pc : Nat), mMW s A v a res.2.1 res.2.2 H1 locs1 → narrow .int (.int res.1) = .int res.1 → decode cX12_level pc = .ok (.ireturn, 1) → W p l e R s m args below meth c H1 locs1 0 0 Q (F0 m pc ls1 [.int res.1])) (F : PF) (G : PG) (hm : mb_level_210 fu F G = some res) {H : Heap} {locs : List Loc} (hw : mMW s A v a F G H locs) {ls : Array Slot} (hl : lv_has ls 1 []) : W p l e R s m args below meth c H locs 0 0 Q (F0 m 210 ls []) := by
  have hx := C.1
  have hb := C.2.1
  unfold mb_level_210 at hm
  refine lv_iconst (v := 1) hx hb dX12_level_210 (by decide) ?_
  obtain rfl := Option.some.inj hm
  exact hret _ _ _ _ hw rfl dX12_level_211
theorem mw_level_212 (fu : Nat) {res : Int32 × PF × PG} (C : mMC p R s m args c A v RX12 cX12_level 1 0 0) (hret : ∀ (H1 : Heap) (locs1 : List Loc) (ls1 : Array Slot) (pc : Nat), mMW s A v a res.2.1 res.2.2 H1 locs1 → narrow .int (.int res.1) = .int res.1 → decode cX12_level pc = .ok (.ireturn, 1) → W p l e R s m args below meth c H1 locs1 0 0 Q (F0 m pc ls1 [.int res.1])) (F : PF) (G : PG) (hm : mb_level_212 fu F G = some res) {H : Heap} {locs : List Loc} (hw : mMW s A v a F G H locs) {ls : Array Slot} (hl : lv_has ls 1 []) : W p l e R s m args below meth c H locs 0 0 Q (F0 m 212 ls []) := by
  have hx := C.1
  have hb := C.2.1
  unfold mb_level_212 at hm
  refine lv_iconst (v := 2) hx hb dX12_level_212 (by decide) ?_
  obtain rfl := Option.some.inj hm
  exact hret _ _ _ _ hw rfl dX12_level_213
theorem mw_level_214 (fu : Nat) {res : Int32 × PF × PG} (C : mMC p R s m args c A v RX12 cX12_level 1 0 0) (hret : ∀ (H1 : Heap) (locs1 : List Loc) (ls1 : Array Slot) (pc : Nat), mMW s A v a res.2.1 res.2.2 H1 locs1 → narrow .int (.int res.1) = .int res.1 → decode cX12_level pc = .ok (.ireturn, 1) → W p l e R s m args below meth c H1 locs1 0 0 Q (F0 m pc ls1 [.int res.1])) (F : PF) (G : PG) (hm : mb_level_214 fu F G = some res) {H : Heap} {locs : List Loc} (hw : mMW s A v a F G H locs) {ls : Array Slot} (hl : lv_has ls 1 []) : W p l e R s m args below meth c H locs 0 0 Q (F0 m 214 ls []) := by
  have hx := C.1
  have hb := C.2.1
  unfold mb_level_214 at hm
  refine lv_iconst (v := 3) hx hb dX12_level_214 (by decide) ?_
  obtain rfl := Option.some.inj hm
  exact hret _ _ _ _ hw rfl dX12_level_215
theorem mw_level_216 (fu : Nat) {res : Int32 × PF × PG} (C : mMC p R s m args c A v RX12 cX12_level 1 0 0) (hret : ∀ (H1 : Heap) (locs1 : List Loc) (ls1 : Array Slot) (pc : Nat), mMW s A v a res.2.1 res.2.2 H1 locs1 → narrow .int (.int res.1) = .int res.1 → decode cX12_level pc = .ok (.ireturn, 1) → W p l e R s m args below meth c H1 locs1 0 0 Q (F0 m pc ls1 [.int res.1])) (F : PF) (G : PG) (hm : mb_level_216 fu F G = some res) {H : Heap} {locs : List Loc} (hw : mMW s A v a F G H locs) {ls : Array Slot} (hl : lv_has ls 1 []) : W p l e R s m args below meth c H locs 0 0 Q (F0 m 216 ls []) := by
  have hx := C.1
  have hb := C.2.1
  unfold mb_level_216 at hm
  refine lv_iconst (v := 4) hx hb dX12_level_216 (by decide) ?_
  obtain rfl := Option.some.inj hm
  exact hret _ _ _ _ hw rfl dX12_level_217
theorem mw_level_218 (fu : Nat) {res : Int32 × PF × PG} (C : mMC p R s m args c A v RX12 cX12_level 1 0 0) (hret : ∀ (H1 : Heap) (locs1 : List Loc) (ls1 : Array Slot) (pc : Nat), mMW s A v a res.2.1 res.2.2 H1 locs1 → narrow .int (.int res.1) = .int res.1 → decode cX12_level pc = .ok (.ireturn, 1) → W p l e R s m args below meth c H1 locs1 0 0 Q (F0 m pc ls1 [.int res.1])) (F : PF) (G : PG) (hm : mb_level_218 fu F G = some res) {H : Heap} {locs : List Loc} (hw : mMW s A v a F G H locs) {ls : Array Slot} (hl : lv_has ls 1 []) : W p l e R s m args below meth c H locs 0 0 Q (F0 m 218 ls []) := by
  have hx := C.1
  have hb := C.2.1
  unfold mb_level_218 at hm
  refine lv_iconst (v := 5) hx hb dX12_level_218 (by decide) ?_
  obtain rfl := Option.some.inj hm
  exact hret _ _ _ _ hw rfl dX12_level_219
theorem mw_level_220 (fu : Nat) {res : Int32 × PF × PG} (C : mMC p R s m args c A v RX12 cX12_level 1 0 0) (hret : ∀ (H1 : Heap) (locs1 : List Loc) (ls1 : Array Slot) (pc : Nat), mMW s A v a res.2.1 res.2.2 H1 locs1 → narrow .int (.int res.1) = .int res.1 → decode cX12_level pc = .ok (.ireturn, 1) → W p l e R s m args below meth c H1 locs1 0 0 Q (F0 m pc ls1 [.int res.1])) (F : PF) (G : PG) (hm : mb_level_220 fu F G = some res) {H : Heap} {locs : List Loc} (hw : mMW s A v a F G H locs) {ls : Array Slot} (hl : lv_has ls 1 []) : W p l e R s m args below meth c H locs 0 0 Q (F0 m 220 ls []) := by
  have hx := C.1
  have hb := C.2.1
  unfold mb_level_220 at hm
  refine lv_bipush (v := 6) hx hb dX12_level_220 (by decide) ?_
  obtain rfl := Option.some.inj hm
  exact hret _ _ _ _ hw rfl dX12_level_222
theorem mw_level_223 (fu : Nat) {res : Int32 × PF × PG} (C : mMC p R s m args c A v RX12 cX12_level 1 0 0) (hret : ∀ (H1 : Heap) (locs1 : List Loc) (ls1 : Array Slot) (pc : Nat), mMW s A v a res.2.1 res.2.2 H1 locs1 → narrow .int (.int res.1) = .int res.1 → decode cX12_level pc = .ok (.ireturn, 1) → W p l e R s m args below meth c H1 locs1 0 0 Q (F0 m pc ls1 [.int res.1])) (F : PF) (G : PG) (hm : mb_level_223 fu F G = some res) {H : Heap} {locs : List Loc} (hw : mMW s A v a F G H locs) {ls : Array Slot} (hl : lv_has ls 1 []) : W p l e R s m args below meth c H locs 0 0 Q (F0 m 223 ls []) := by
  have hx := C.1
  have hb := C.2.1
  unfold mb_level_223 at hm
  refine lv_bipush (v := 7) hx hb dX12_level_223 (by decide) ?_
  obtain rfl := Option.some.inj hm
  exact hret _ _ _ _ hw rfl dX12_level_225
theorem mw_level_226 (fu : Nat) {res : Int32 × PF × PG} (C : mMC p R s m args c A v RX12 cX12_level 1 0 0) (hret : ∀ (H1 : Heap) (locs1 : List Loc) (ls1 : Array Slot) (pc : Nat), mMW s A v a res.2.1 res.2.2 H1 locs1 → narrow .int (.int res.1) = .int res.1 → decode cX12_level pc = .ok (.ireturn, 1) → W p l e R s m args below meth c H1 locs1 0 0 Q (F0 m pc ls1 [.int res.1])) (F : PF) (G : PG) (hm : mb_level_226 fu F G = some res) {H : Heap} {locs : List Loc} (hw : mMW s A v a F G H locs) {ls : Array Slot} (hl : lv_has ls 1 []) : W p l e R s m args below meth c H locs 0 0 Q (F0 m 226 ls []) := by
  have hx := C.1
  have hb := C.2.1
  unfold mb_level_226 at hm
  refine lv_bipush (v := 8) hx hb dX12_level_226 (by decide) ?_
  obtain rfl := Option.some.inj hm
  exact hret _ _ _ _ hw rfl dX12_level_228
theorem mw_level_229 (fu : Nat) {res : Int32 × PF × PG} (C : mMC p R s m args c A v RX12 cX12_level 1 0 0) (hret : ∀ (H1 : Heap) (locs1 : List Loc) (ls1 : Array Slot) (pc : Nat), mMW s A v a res.2.1 res.2.2 H1 locs1 → narrow .int (.int res.1) = .int res.1 → decode cX12_level pc = .ok (.ireturn, 1) → W p l e R s m args below meth c H1 locs1 0 0 Q (F0 m pc ls1 [.int res.1])) (F : PF) (G : PG) (hm : mb_level_229 fu F G = some res) {H : Heap} {locs : List Loc} (hw : mMW s A v a F G H locs) {ls : Array Slot} (hl : lv_has ls 1 []) : W p l e R s m args below meth c H locs 0 0 Q (F0 m 229 ls []) := by
  have hx := C.1
  have hb := C.2.1
  unfold mb_level_229 at hm
  refine lv_bipush (v := 9) hx hb dX12_level_229 (by decide) ?_
  obtain rfl := Option.some.inj hm
  exact hret _ _ _ _ hw rfl dX12_level_231
theorem mw_level_232 (fu : Nat) {res : Int32 × PF × PG} (C : mMC p R s m args c A v RX12 cX12_level 1 0 0) (hret : ∀ (H1 : Heap) (locs1 : List Loc) (ls1 : Array Slot) (pc : Nat), mMW s A v a res.2.1 res.2.2 H1 locs1 → narrow .int (.int res.1) = .int res.1 → decode cX12_level pc = .ok (.ireturn, 1) → W p l e R s m args below meth c H1 locs1 0 0 Q (F0 m pc ls1 [.int res.1])) (F : PF) (G : PG) (hm : mb_level_232 fu F G = some res) {H : Heap} {locs : List Loc} (hw : mMW s A v a F G H locs) {ls : Array Slot} (hl : lv_has ls 1 []) : W p l e R s m args below meth c H locs 0 0 Q (F0 m 232 ls []) := by
  have hx := C.1
  have hb := C.2.1
  unfold mb_level_232 at hm
  refine lv_iconst (v := (-1)) hx hb dX12_level_232 (by decide) ?_
  obtain rfl := Option.some.inj hm
  exact hret _ _ _ _ hw rfl dX12_level_233
theorem mw_level_15 (fu : Nat) {res : Int32 × PF × PG} (C : mMC p R s m args c A v RX12 cX12_level 1 0 0) (hret : ∀ (H1 : Heap) (locs1 : List Loc) (ls1 : Array Slot) (pc : Nat), mMW s A v a res.2.1 res.2.2 H1 locs1 → narrow .int (.int res.1) = .int res.1 → decode cX12_level pc = .ok (.ireturn, 1) → W p l e R s m args below meth c H1 locs1 0 0 Q (F0 m pc ls1 [.int res.1])) (F : PF) (G : PG) (hm : mb_level_15 fu F G = some res) {H : Heap} {locs : List Loc} (hw : mMW s A v a F G H locs) {ls : Array Slot} (hl : lv_has ls 1 [(0, .ref (a 212))]) : W p l e R s m args below meth c H locs 0 0 Q (F0 m 15 ls []) := by
  have hx := C.1
  have hb := C.2.1
  unfold mb_level_15 at hm
  refine lv_aload_n hx hb dX12_level_15 rfl (lv_at hl 0 rfl) ?_
  refine mg_X12_19 C hw dX12_level_16 ?_
  refine lv_aload_n hx hb dX12_level_19 rfl (lv_at hl 0 rfl) ?_
  refine mg_X12_233 C hw dX12_level_20 ?_
  obtain ⟨hi, hm⟩ := ix_elim hm
  refine mal_5 C hw hi dX12_level_23 ?_
  by_cases c_0 : (G 5 (F 42).toNatClampNeg).toInt < 1 ∨ 42 < (G 5 (F 42).toNatClampNeg).toInt
  · have hm := (if_pos c_0).symm.trans hm
    refine lv_tableOut (tgt := 232) hx hb dX12_level_24 c_0 (by decide) ?_
    exact mw_level_232 fu C hret F G hm hw (lv_sub hl [] rfl)
  have hm := (if_neg c_0).symm.trans hm
  by_cases c_1 : (G 5 (F 42).toNatClampNeg) = 1
  · have hm := (if_pos c_1).symm.trans hm
    refine my_top 1 c_1 ?_
    refine lv_tableIn (off := 199) (tgt := 223) hx hb dX12_level_24 (by decide) (by decide) (by decide) (by decide) ?_
    exact mw_level_223 fu C hret F G hm hw (lv_sub hl [] rfl)
  have hm := (if_neg c_1).symm.trans hm
  have n_0 := c_1
  clear c_1
  by_cases c_1 : (G 5 (F 42).toNatClampNeg) = 2
  · have hm := (if_pos c_1).symm.trans hm
    refine my_top 2 c_1 ?_
    refine lv_tableIn (off := 208) (tgt := 232) hx hb dX12_level_24 (by decide) (by decide) (by decide) (by decide) ?_
    exact mw_level_232 fu C hret F G hm hw (lv_sub hl [] rfl)
  have hm := (if_neg c_1).symm.trans hm
  have n_1 := c_1
  clear c_1
  by_cases c_1 : (G 5 (F 42).toNatClampNeg) = 3
  · have hm := (if_pos c_1).symm.trans hm
    refine my_top 3 c_1 ?_
    refine lv_tableIn (off := 208) (tgt := 232) hx hb dX12_level_24 (by decide) (by decide) (by decide) (by decide) ?_
    exact mw_level_232 fu C hret F G hm hw (lv_sub hl [] rfl)
  have hm := (if_neg c_1).symm.trans hm
  have n_2 := c_1
  clear c_1
  by_cases c_1 : (G 5 (F 42).toNatClampNeg) = 4
  · have hm := (if_pos c_1).symm.trans hm
    refine my_top 4 c_1 ?_
    refine lv_tableIn (off := 208) (tgt := 232) hx hb dX12_level_24 (by decide) (by decide) (by decide) (by decide) ?_
    exact mw_level_232 fu C hret F G hm hw (lv_sub hl [] rfl)
  have hm := (if_neg c_1).symm.trans hm
  have n_3 := c_1
  clear c_1
  by_cases c_1 : (G 5 (F 42).toNatClampNeg) = 5
  · have hm := (if_pos c_1).symm.trans hm
    refine my_top 5 c_1 ?_
    refine lv_tableIn (off := 208) (tgt := 232) hx hb dX12_level_24 (by decide) (by decide) (by decide) (by decide) ?_
    exact mw_level_232 fu C hret F G hm hw (lv_sub hl [] rfl)
  have hm := (if_neg c_1).symm.trans hm
  have n_4 := c_1
  clear c_1
  by_cases c_1 : (G 5 (F 42).toNatClampNeg) = 6
  · have hm := (if_pos c_1).symm.trans hm
    refine my_top 6 c_1 ?_
    refine lv_tableIn (off := 208) (tgt := 232) hx hb dX12_level_24 (by decide) (by decide) (by decide) (by decide) ?_
    exact mw_level_232 fu C hret F G hm hw (lv_sub hl [] rfl)
  have hm := (if_neg c_1).symm.trans hm
  have n_5 := c_1
  clear c_1
  by_cases c_1 : (G 5 (F 42).toNatClampNeg) = 7
  · have hm := (if_pos c_1).symm.trans hm
    refine my_top 7 c_1 ?_
    refine lv_tableIn (off := 208) (tgt := 232) hx hb dX12_level_24 (by decide) (by decide) (by decide) (by decide) ?_
    exact mw_level_232 fu C hret F G hm hw (lv_sub hl [] rfl)
  have hm := (if_neg c_1).symm.trans hm
  have n_6 := c_1
  clear c_1
  by_cases c_1 : (G 5 (F 42).toNatClampNeg) = 8
  · have hm := (if_pos c_1).symm.trans hm
    refine my_top 8 c_1 ?_
    refine lv_tableIn (off := 208) (tgt := 232) hx hb dX12_level_24 (by decide) (by decide) (by decide) (by decide) ?_
    exact mw_level_232 fu C hret F G hm hw (lv_sub hl [] rfl)
  have hm := (if_neg c_1).symm.trans hm
  have n_7 := c_1
  clear c_1
  by_cases c_1 : (G 5 (F 42).toNatClampNeg) = 9
  · have hm := (if_pos c_1).symm.trans hm
    refine my_top 9 c_1 ?_
    refine lv_tableIn (off := 208) (tgt := 232) hx hb dX12_level_24 (by decide) (by decide) (by decide) (by decide) ?_
    exact mw_level_232 fu C hret F G hm hw (lv_sub hl [] rfl)
  have hm := (if_neg c_1).symm.trans hm
  have n_8 := c_1
  clear c_1
  by_cases c_1 : (G 5 (F 42).toNatClampNeg) = 10
  · have hm := (if_pos c_1).symm.trans hm
    refine my_top 10 c_1 ?_
    refine lv_tableIn (off := 208) (tgt := 232) hx hb dX12_level_24 (by decide) (by decide) (by decide) (by decide) ?_
    exact mw_level_232 fu C hret F G hm hw (lv_sub hl [] rfl)
  have hm := (if_neg c_1).symm.trans hm
  have n_9 := c_1
  clear c_1
  by_cases c_1 : (G 5 (F 42).toNatClampNeg) = 11
  · have hm := (if_pos c_1).symm.trans hm
    refine my_top 11 c_1 ?_
    refine lv_tableIn (off := 208) (tgt := 232) hx hb dX12_level_24 (by decide) (by decide) (by decide) (by decide) ?_
    exact mw_level_232 fu C hret F G hm hw (lv_sub hl [] rfl)
  have hm := (if_neg c_1).symm.trans hm
  have n_10 := c_1
  clear c_1
  by_cases c_1 : (G 5 (F 42).toNatClampNeg) = 12
  · have hm := (if_pos c_1).symm.trans hm
    refine my_top 12 c_1 ?_
    refine lv_tableIn (off := 208) (tgt := 232) hx hb dX12_level_24 (by decide) (by decide) (by decide) (by decide) ?_
    exact mw_level_232 fu C hret F G hm hw (lv_sub hl [] rfl)
  have hm := (if_neg c_1).symm.trans hm
  have n_11 := c_1
  clear c_1
  by_cases c_1 : (G 5 (F 42).toNatClampNeg) = 13
  · have hm := (if_pos c_1).symm.trans hm
    refine my_top 13 c_1 ?_
    refine lv_tableIn (off := 208) (tgt := 232) hx hb dX12_level_24 (by decide) (by decide) (by decide) (by decide) ?_
    exact mw_level_232 fu C hret F G hm hw (lv_sub hl [] rfl)
  have hm := (if_neg c_1).symm.trans hm
  have n_12 := c_1
  clear c_1
  by_cases c_1 : (G 5 (F 42).toNatClampNeg) = 14
  · have hm := (if_pos c_1).symm.trans hm
    refine my_top 14 c_1 ?_
    refine lv_tableIn (off := 184) (tgt := 208) hx hb dX12_level_24 (by decide) (by decide) (by decide) (by decide) ?_
    exact mw_level_208 fu C hret F G hm hw (lv_sub hl [] rfl)
  have hm := (if_neg c_1).symm.trans hm
  have n_13 := c_1
  clear c_1
  by_cases c_1 : (G 5 (F 42).toNatClampNeg) = 15
  · have hm := (if_pos c_1).symm.trans hm
    refine my_top 15 c_1 ?_
    refine lv_tableIn (off := 186) (tgt := 210) hx hb dX12_level_24 (by decide) (by decide) (by decide) (by decide) ?_
    exact mw_level_210 fu C hret F G hm hw (lv_sub hl [] rfl)
  have hm := (if_neg c_1).symm.trans hm
  have n_14 := c_1
  clear c_1
  by_cases c_1 : (G 5 (F 42).toNatClampNeg) = 16
  · have hm := (if_pos c_1).symm.trans hm
    refine my_top 16 c_1 ?_
    refine lv_tableIn (off := 194) (tgt := 218) hx hb dX12_level_24 (by decide) (by decide) (by decide) (by decide) ?_
    exact mw_level_218 fu C hret F G hm hw (lv_sub hl [] rfl)
  have hm := (if_neg c_1).symm.trans hm
  have n_15 := c_1
  clear c_1
  by_cases c_1 : (G 5 (F 42).toNatClampNeg) = 17
  · have hm := (if_pos c_1).symm.trans hm
    refine my_top 17 c_1 ?_
    refine lv_tableIn (off := 194) (tgt := 218) hx hb dX12_level_24 (by decide) (by decide) (by decide) (by decide) ?_
    exact mw_level_218 fu C hret F G hm hw (lv_sub hl [] rfl)
  have hm := (if_neg c_1).symm.trans hm
  have n_16 := c_1
  clear c_1
  by_cases c_1 : (G 5 (F 42).toNatClampNeg) = 18
  · have hm := (if_pos c_1).symm.trans hm
    refine my_top 18 c_1 ?_
    refine lv_tableIn (off := 196) (tgt := 220) hx hb dX12_level_24 (by decide) (by decide) (by decide) (by decide) ?_
    exact mw_level_220 fu C hret F G hm hw (lv_sub hl [] rfl)
  have hm := (if_neg c_1).symm.trans hm
  have n_17 := c_1
  clear c_1
  by_cases c_1 : (G 5 (F 42).toNatClampNeg) = 19
  · have hm := (if_pos c_1).symm.trans hm
    refine my_top 19 c_1 ?_
    refine lv_tableIn (off := 196) (tgt := 220) hx hb dX12_level_24 (by decide) (by decide) (by decide) (by decide) ?_
    exact mw_level_220 fu C hret F G hm hw (lv_sub hl [] rfl)
  have hm := (if_neg c_1).symm.trans hm
  have n_18 := c_1
  clear c_1
  by_cases c_1 : (G 5 (F 42).toNatClampNeg) = 20
  · have hm := (if_pos c_1).symm.trans hm
    refine my_top 20 c_1 ?_
    refine lv_tableIn (off := 199) (tgt := 223) hx hb dX12_level_24 (by decide) (by decide) (by decide) (by decide) ?_
    exact mw_level_223 fu C hret F G hm hw (lv_sub hl [] rfl)
  have hm := (if_neg c_1).symm.trans hm
  have n_19 := c_1
  clear c_1
  by_cases c_1 : (G 5 (F 42).toNatClampNeg) = 21
  · have hm := (if_pos c_1).symm.trans hm
    refine my_top 21 c_1 ?_
    refine lv_tableIn (off := 199) (tgt := 223) hx hb dX12_level_24 (by decide) (by decide) (by decide) (by decide) ?_
    exact mw_level_223 fu C hret F G hm hw (lv_sub hl [] rfl)
  have hm := (if_neg c_1).symm.trans hm
  have n_20 := c_1
  clear c_1
  by_cases c_1 : (G 5 (F 42).toNatClampNeg) = 22
  · have hm := (if_pos c_1).symm.trans hm
    refine my_top 22 c_1 ?_
    refine lv_tableIn (off := 208) (tgt := 232) hx hb dX12_level_24 (by decide) (by decide) (by decide) (by decide) ?_
    exact mw_level_232 fu C hret F G hm hw (lv_sub hl [] rfl)
  have hm := (if_neg c_1).symm.trans hm
  have n_21 := c_1
  clear c_1
  by_cases c_1 : (G 5 (F 42).toNatClampNeg) = 23
  · have hm := (if_pos c_1).symm.trans hm
    refine my_top 23 c_1 ?_
    refine lv_tableIn (off := 208) (tgt := 232) hx hb dX12_level_24 (by decide) (by decide) (by decide) (by decide) ?_
    exact mw_level_232 fu C hret F G hm hw (lv_sub hl [] rfl)
  have hm := (if_neg c_1).symm.trans hm
  have n_22 := c_1
  clear c_1
  by_cases c_1 : (G 5 (F 42).toNatClampNeg) = 24
  · have hm := (if_pos c_1).symm.trans hm
    refine my_top 24 c_1 ?_
    refine lv_tableIn (off := 208) (tgt := 232) hx hb dX12_level_24 (by decide) (by decide) (by decide) (by decide) ?_
    exact mw_level_232 fu C hret F G hm hw (lv_sub hl [] rfl)
  have hm := (if_neg c_1).symm.trans hm
  have n_23 := c_1
  clear c_1
  by_cases c_1 : (G 5 (F 42).toNatClampNeg) = 25
  · have hm := (if_pos c_1).symm.trans hm
    refine my_top 25 c_1 ?_
    refine lv_tableIn (off := 208) (tgt := 232) hx hb dX12_level_24 (by decide) (by decide) (by decide) (by decide) ?_
    exact mw_level_232 fu C hret F G hm hw (lv_sub hl [] rfl)
  have hm := (if_neg c_1).symm.trans hm
  have n_24 := c_1
  clear c_1
  by_cases c_1 : (G 5 (F 42).toNatClampNeg) = 26
  · have hm := (if_pos c_1).symm.trans hm
    refine my_top 26 c_1 ?_
    refine lv_tableIn (off := 208) (tgt := 232) hx hb dX12_level_24 (by decide) (by decide) (by decide) (by decide) ?_
    exact mw_level_232 fu C hret F G hm hw (lv_sub hl [] rfl)
  have hm := (if_neg c_1).symm.trans hm
  have n_25 := c_1
  clear c_1
  by_cases c_1 : (G 5 (F 42).toNatClampNeg) = 27
  · have hm := (if_pos c_1).symm.trans hm
    refine my_top 27 c_1 ?_
    refine lv_tableIn (off := 208) (tgt := 232) hx hb dX12_level_24 (by decide) (by decide) (by decide) (by decide) ?_
    exact mw_level_232 fu C hret F G hm hw (lv_sub hl [] rfl)
  have hm := (if_neg c_1).symm.trans hm
  have n_26 := c_1
  clear c_1
  by_cases c_1 : (G 5 (F 42).toNatClampNeg) = 28
  · have hm := (if_pos c_1).symm.trans hm
    refine my_top 28 c_1 ?_
    refine lv_tableIn (off := 208) (tgt := 232) hx hb dX12_level_24 (by decide) (by decide) (by decide) (by decide) ?_
    exact mw_level_232 fu C hret F G hm hw (lv_sub hl [] rfl)
  have hm := (if_neg c_1).symm.trans hm
  have n_27 := c_1
  clear c_1
  by_cases c_1 : (G 5 (F 42).toNatClampNeg) = 29
  · have hm := (if_pos c_1).symm.trans hm
    refine my_top 29 c_1 ?_
    refine lv_tableIn (off := 208) (tgt := 232) hx hb dX12_level_24 (by decide) (by decide) (by decide) (by decide) ?_
    exact mw_level_232 fu C hret F G hm hw (lv_sub hl [] rfl)
  have hm := (if_neg c_1).symm.trans hm
  have n_28 := c_1
  clear c_1
  by_cases c_1 : (G 5 (F 42).toNatClampNeg) = 30
  · have hm := (if_pos c_1).symm.trans hm
    refine my_top 30 c_1 ?_
    refine lv_tableIn (off := 208) (tgt := 232) hx hb dX12_level_24 (by decide) (by decide) (by decide) (by decide) ?_
    exact mw_level_232 fu C hret F G hm hw (lv_sub hl [] rfl)
  have hm := (if_neg c_1).symm.trans hm
  have n_29 := c_1
  clear c_1
  by_cases c_1 : (G 5 (F 42).toNatClampNeg) = 31
  · have hm := (if_pos c_1).symm.trans hm
    refine my_top 31 c_1 ?_
    refine lv_tableIn (off := 208) (tgt := 232) hx hb dX12_level_24 (by decide) (by decide) (by decide) (by decide) ?_
    exact mw_level_232 fu C hret F G hm hw (lv_sub hl [] rfl)
  have hm := (if_neg c_1).symm.trans hm
  have n_30 := c_1
  clear c_1
  by_cases c_1 : (G 5 (F 42).toNatClampNeg) = 32
  · have hm := (if_pos c_1).symm.trans hm
    refine my_top 32 c_1 ?_
    refine lv_tableIn (off := 208) (tgt := 232) hx hb dX12_level_24 (by decide) (by decide) (by decide) (by decide) ?_
    exact mw_level_232 fu C hret F G hm hw (lv_sub hl [] rfl)
  have hm := (if_neg c_1).symm.trans hm
  have n_31 := c_1
  clear c_1
  by_cases c_1 : (G 5 (F 42).toNatClampNeg) = 33
  · have hm := (if_pos c_1).symm.trans hm
    refine my_top 33 c_1 ?_
    refine lv_tableIn (off := 188) (tgt := 212) hx hb dX12_level_24 (by decide) (by decide) (by decide) (by decide) ?_
    exact mw_level_212 fu C hret F G hm hw (lv_sub hl [] rfl)
  have hm := (if_neg c_1).symm.trans hm
  have n_32 := c_1
  clear c_1
  by_cases c_1 : (G 5 (F 42).toNatClampNeg) = 34
  · have hm := (if_pos c_1).symm.trans hm
    refine my_top 34 c_1 ?_
    refine lv_tableIn (off := 190) (tgt := 214) hx hb dX12_level_24 (by decide) (by decide) (by decide) (by decide) ?_
    exact mw_level_214 fu C hret F G hm hw (lv_sub hl [] rfl)
  have hm := (if_neg c_1).symm.trans hm
  have n_33 := c_1
  clear c_1
  by_cases c_1 : (G 5 (F 42).toNatClampNeg) = 35
  · have hm := (if_pos c_1).symm.trans hm
    refine my_top 35 c_1 ?_
    refine lv_tableIn (off := 192) (tgt := 216) hx hb dX12_level_24 (by decide) (by decide) (by decide) (by decide) ?_
    exact mw_level_216 fu C hret F G hm hw (lv_sub hl [] rfl)
  have hm := (if_neg c_1).symm.trans hm
  have n_34 := c_1
  clear c_1
  by_cases c_1 : (G 5 (F 42).toNatClampNeg) = 36
  · have hm := (if_pos c_1).symm.trans hm
    refine my_top 36 c_1 ?_
    refine lv_tableIn (off := 196) (tgt := 220) hx hb dX12_level_24 (by decide) (by decide) (by decide) (by decide) ?_
    exact mw_level_220 fu C hret F G hm hw (lv_sub hl [] rfl)
  have hm := (if_neg c_1).symm.trans hm
  have n_35 := c_1
  clear c_1
  by_cases c_1 : (G 5 (F 42).toNatClampNeg) = 37
  · have hm := (if_pos c_1).symm.trans hm
    refine my_top 37 c_1 ?_
    refine lv_tableIn (off := 196) (tgt := 220) hx hb dX12_level_24 (by decide) (by decide) (by decide) (by decide) ?_
    exact mw_level_220 fu C hret F G hm hw (lv_sub hl [] rfl)
  have hm := (if_neg c_1).symm.trans hm
  have n_36 := c_1
  clear c_1
  by_cases c_1 : (G 5 (F 42).toNatClampNeg) = 38
  · have hm := (if_pos c_1).symm.trans hm
    refine my_top 38 c_1 ?_
    refine lv_tableIn (off := 202) (tgt := 226) hx hb dX12_level_24 (by decide) (by decide) (by decide) (by decide) ?_
    exact mw_level_226 fu C hret F G hm hw (lv_sub hl [] rfl)
  have hm := (if_neg c_1).symm.trans hm
  have n_37 := c_1
  clear c_1
  by_cases c_1 : (G 5 (F 42).toNatClampNeg) = 39
  · have hm := (if_pos c_1).symm.trans hm
    refine my_top 39 c_1 ?_
    refine lv_tableIn (off := 202) (tgt := 226) hx hb dX12_level_24 (by decide) (by decide) (by decide) (by decide) ?_
    exact mw_level_226 fu C hret F G hm hw (lv_sub hl [] rfl)
  have hm := (if_neg c_1).symm.trans hm
  have n_38 := c_1
  clear c_1
  by_cases c_1 : (G 5 (F 42).toNatClampNeg) = 40
  · have hm := (if_pos c_1).symm.trans hm
    refine my_top 40 c_1 ?_
    refine lv_tableIn (off := 205) (tgt := 229) hx hb dX12_level_24 (by decide) (by decide) (by decide) (by decide) ?_
    exact mw_level_229 fu C hret F G hm hw (lv_sub hl [] rfl)
  have hm := (if_neg c_1).symm.trans hm
  have n_39 := c_1
  clear c_1
  by_cases c_1 : (G 5 (F 42).toNatClampNeg) = 41
  · have hm := (if_pos c_1).symm.trans hm
    refine my_top 41 c_1 ?_
    refine lv_tableIn (off := 205) (tgt := 229) hx hb dX12_level_24 (by decide) (by decide) (by decide) (by decide) ?_
    exact mw_level_229 fu C hret F G hm hw (lv_sub hl [] rfl)
  have hm := (if_neg c_1).symm.trans hm
  have n_40 := c_1
  clear c_1
  have c_1 : (G 5 (F 42).toNatClampNeg) = 42 := my_last (l := 1) (k := 41) c_0 (by decide) (fun j hj => match j, hj with | 0, _ => fun h9 => n_0 (Int32.toInt_inj.mp (h9.trans (by decide))) | 1, _ => fun h9 => n_1 (Int32.toInt_inj.mp (h9.trans (by decide))) | 2, _ => fun h9 => n_2 (Int32.toInt_inj.mp (h9.trans (by decide))) | 3, _ => fun h9 => n_3 (Int32.toInt_inj.mp (h9.trans (by decide))) | 4, _ => fun h9 => n_4 (Int32.toInt_inj.mp (h9.trans (by decide))) | 5, _ => fun h9 => n_5 (Int32.toInt_inj.mp (h9.trans (by decide))) | 6, _ => fun h9 => n_6 (Int32.toInt_inj.mp (h9.trans (by decide))) | 7, _ => fun h9 => n_7 (Int32.toInt_inj.mp (h9.trans (by decide))) | 8, _ => fun h9 => n_8 (Int32.toInt_inj.mp (h9.trans (by decide))) | 9, _ => fun h9 => n_9 (Int32.toInt_inj.mp (h9.trans (by decide))) | 10, _ => fun h9 => n_10 (Int32.toInt_inj.mp (h9.trans (by decide))) | 11, _ => fun h9 => n_11 (Int32.toInt_inj.mp (h9.trans (by decide))) | 12, _ => fun h9 => n_12 (Int32.toInt_inj.mp (h9.trans (by decide))) | 13, _ => fun h9 => n_13 (Int32.toInt_inj.mp (h9.trans (by decide))) | 14, _ => fun h9 => n_14 (Int32.toInt_inj.mp (h9.trans (by decide))) | 15, _ => fun h9 => n_15 (Int32.toInt_inj.mp (h9.trans (by decide))) | 16, _ => fun h9 => n_16 (Int32.toInt_inj.mp (h9.trans (by decide))) | 17, _ => fun h9 => n_17 (Int32.toInt_inj.mp (h9.trans (by decide))) | 18, _ => fun h9 => n_18 (Int32.toInt_inj.mp (h9.trans (by decide))) | 19, _ => fun h9 => n_19 (Int32.toInt_inj.mp (h9.trans (by decide))) | 20, _ => fun h9 => n_20 (Int32.toInt_inj.mp (h9.trans (by decide))) | 21, _ => fun h9 => n_21 (Int32.toInt_inj.mp (h9.trans (by decide))) | 22, _ => fun h9 => n_22 (Int32.toInt_inj.mp (h9.trans (by decide))) | 23, _ => fun h9 => n_23 (Int32.toInt_inj.mp (h9.trans (by decide))) | 24, _ => fun h9 => n_24 (Int32.toInt_inj.mp (h9.trans (by decide))) | 25, _ => fun h9 => n_25 (Int32.toInt_inj.mp (h9.trans (by decide))) | 26, _ => fun h9 => n_26 (Int32.toInt_inj.mp (h9.trans (by decide))) | 27, _ => fun h9 => n_27 (Int32.toInt_inj.mp (h9.trans (by decide))) | 28, _ => fun h9 => n_28 (Int32.toInt_inj.mp (h9.trans (by decide))) | 29, _ => fun h9 => n_29 (Int32.toInt_inj.mp (h9.trans (by decide))) | 30, _ => fun h9 => n_30 (Int32.toInt_inj.mp (h9.trans (by decide))) | 31, _ => fun h9 => n_31 (Int32.toInt_inj.mp (h9.trans (by decide))) | 32, _ => fun h9 => n_32 (Int32.toInt_inj.mp (h9.trans (by decide))) | 33, _ => fun h9 => n_33 (Int32.toInt_inj.mp (h9.trans (by decide))) | 34, _ => fun h9 => n_34 (Int32.toInt_inj.mp (h9.trans (by decide))) | 35, _ => fun h9 => n_35 (Int32.toInt_inj.mp (h9.trans (by decide))) | 36, _ => fun h9 => n_36 (Int32.toInt_inj.mp (h9.trans (by decide))) | 37, _ => fun h9 => n_37 (Int32.toInt_inj.mp (h9.trans (by decide))) | 38, _ => fun h9 => n_38 (Int32.toInt_inj.mp (h9.trans (by decide))) | 39, _ => fun h9 => n_39 (Int32.toInt_inj.mp (h9.trans (by decide))) | 40, _ => fun h9 => n_40 (Int32.toInt_inj.mp (h9.trans (by decide))) | q + 41, h => absurd h (by omega)) (by decide)
  refine my_top 42 c_1 ?_
  refine lv_tableIn (off := 205) (tgt := 229) hx hb dX12_level_24 (by decide) (by decide) (by decide) (by decide) ?_
  exact mw_level_229 fu C hret F G hm hw (lv_sub hl [] rfl)
theorem mw_level_13 (fu : Nat) {res : Int32 × PF × PG} (C : mMC p R s m args c A v RX12 cX12_level 1 0 0) (hret : ∀ (H1 : Heap) (locs1 : List Loc) (ls1 : Array Slot) (pc : Nat), mMW s A v a res.2.1 res.2.2 H1 locs1 → narrow .int (.int res.1) = .int res.1 → decode cX12_level pc = .ok (.ireturn, 1) → W p l e R s m args below meth c H1 locs1 0 0 Q (F0 m pc ls1 [.int res.1])) (F : PF) (G : PG) (hm : mb_level_13 fu F G = some res) {H : Heap} {locs : List Loc} (hw : mMW s A v a F G H locs) {ls : Array Slot} (hl : lv_has ls 1 []) : W p l e R s m args below meth c H locs 0 0 Q (F0 m 13 ls []) := by
  have hx := C.1
  have hb := C.2.1
  unfold mb_level_13 at hm
  refine lv_iconst (v := (-1)) hx hb dX12_level_13 (by decide) ?_
  obtain rfl := Option.some.inj hm
  exact hret _ _ _ _ hw rfl dX12_level_14
theorem mw_level_0 (fu : Nat) {res : Int32 × PF × PG} (C : mMC p R s m args c A v RX12 cX12_level 1 0 0) (hret : ∀ (H1 : Heap) (locs1 : List Loc) (ls1 : Array Slot) (pc : Nat), mMW s A v a res.2.1 res.2.2 H1 locs1 → narrow .int (.int res.1) = .int res.1 → decode cX12_level pc = .ok (.ireturn, 1) → W p l e R s m args below meth c H1 locs1 0 0 Q (F0 m pc ls1 [.int res.1])) (F : PF) (G : PG) (hm : mb_level_0 fu F G = some res) {H : Heap} {locs : List Loc} (hw : mMW s A v a F G H locs) {ls : Array Slot} (hl : lv_has ls 1 [(0, .ref (a 212))]) : W p l e R s m args below meth c H locs 0 0 Q (F0 m 0 ls []) := by
  have hx := C.1
  have hb := C.2.1
  unfold mb_level_0 at hm
  refine lv_aload_n hx hb dX12_level_0 rfl (lv_at hl 0 rfl) ?_
  refine mg_X12_16 C hw dX12_level_1 ?_
  refine lv_aload_n hx hb dX12_level_4 rfl (lv_at hl 0 rfl) ?_
  refine mg_X12_233 C hw dX12_level_5 ?_
  obtain ⟨hi, hm⟩ := ix_elim hm
  refine mal_4 C hw hi dX12_level_8 ?_
  refine lv_iconst (v := 4) hx hb dX12_level_9 (by decide) ?_
  refine lv_icmp_eq (tgt := 15) hx hb dX12_level_10 (by decide) (fun c_1 => ?_) (fun c_1 => ?_)
  · have hm := (if_pos c_1).symm.trans hm
    exact mw_level_15 fu C hret F G hm hw (lv_sub hl [0] rfl)
  · have hm := (if_neg c_1).symm.trans hm
    exact mw_level_13 fu C hret F G hm hw (lv_sub hl [] rfl)
theorem mk_level (l : Launch) (v : EV) (a : Nat → Nat) (sz : Nat) (fu : Nat) (F : PF) (G : PG) (r : Int32) (F1 : PF) (G1 : PG) (hm : mf_level fu F G = some (r, F1, G1)) : mMI l yX12_level cX12_level 1 (some .int) 0 0 v a sz [.ref (a 212)] F G r F1 G1 := mMI.of (ty := .int) (by decide) rfl (Nat.le_of_ble_eq_true rfl) (fun p e R s m args below meth c Q A H locs ls C hw hl hret => mw_level_0 fu (res := (r, F1, G1)) C hret F G hm hw hl)
def mH1 (l : Launch) (v : EV) (a : Nat → Nat) (rc : RC) (dd : Nat) : Prop := (∀ (sz : Nat) (x : Int32) (y : Int32) (F : PF) (G : PG) (r : Int32) (F1 : PF) (G1 : PG), rc 0 x y F G = some (r, F1, G1) → mMI l yX12_argument cX12_argument 8 (some .boolean) (dd + 3) (60 * dd + 64) v a sz [.ref (a 212), .int x, .int y] F G r F1 G1) ∧ (∀ (sz : Nat) (x : Int32) (y : Int32) (F : PF) (G : PG) (r : Int32) (F1 : PF) (G1 : PG), rc 1 x y F G = some (r, F1, G1) → mMI l yX12_call cX12_call 7 (some .boolean) (dd + 3) (60 * dd + 64) v a sz [.ref (a 212), .int x, .int y] F G r F1 G1) ∧ (∀ (sz : Nat) (F : PF) (G : PG) (r : Int32) (F1 : PF) (G1 : PG), rc 2 0 0 F G = some (r, F1, G1) → mMI l yX12_chain cX12_chain 4 (some .boolean) (dd + 3) (60 * dd + 64) v a sz [.ref (a 212)] F G r F1 G1) ∧ (∀ (sz : Nat) (x : Int32) (F : PF) (G : PG) (r : Int32) (F1 : PF) (G1 : PG), rc 3 x 0 F G = some (r, F1, G1) → mMI l yX12_element cX12_element 7 (some .boolean) (dd + 3) (60 * dd + 64) v a sz [.ref (a 212), .int x] F G r F1 G1) ∧ (∀ (sz : Nat) (F : PF) (G : PG) (r : Int32) (F1 : PF) (G1 : PG), rc 4 0 0 F G = some (r, F1, G1) → mMI l yX12_expression cX12_expression 3 (some .boolean) (dd + 3) (60 * dd + 64) v a sz [.ref (a 212)] F G r F1 G1) ∧ (∀ (sz : Nat) (x : Int32) (F : PF) (G : PG) (r : Int32) (F1 : PF) (G1 : PG), rc 5 x 0 F G = some (r, F1, G1) → mMI l yX12_inConstant cX12_inConstant 6 (some .boolean) (dd + 3) (60 * dd + 64) v a sz [.ref (a 212), .int x] F G r F1 G1) ∧ (∀ (sz : Nat) (x : Int32) (F : PF) (G : PG) (r : Int32) (F1 : PF) (G1 : PG), rc 6 x 0 F G = some (r, F1, G1) → mMI l yX12_named cX12_named 5 (some .boolean) (dd + 3) (60 * dd + 64) v a sz [.ref (a 212), .int x] F G r F1 G1) ∧ (∀ (sz : Nat) (F : PF) (G : PG) (r : Int32) (F1 : PF) (G1 : PG), rc 7 0 0 F G = some (r, F1, G1) → mMI l yX12_operand cX12_operand 4 (some .boolean) (dd + 3) (60 * dd + 64) v a sz [.ref (a 212)] F G r F1 G1) ∧ (∀ (sz : Nat) (F : PF) (G : PG) (r : Int32) (F1 : PF) (G1 : PG), rc 8 0 0 F G = some (r, F1, G1) → mMI l yX12_plain cX12_plain 2 (some .boolean) (dd + 3) (60 * dd + 64) v a sz [.ref (a 212)] F G r F1 G1)
def mb_argument_16 (fu : Nat) (rc : RC) (z0 : Int32) (F : PF) (G : PG) : PR := if b01 z0 = true then (some (z0, F, G)) else none
def mb_argument_12 (fu : Nat) (rc : RC) (F : PF) (G : PG) : PR := (rc 4 0 0 F G).bind (fun q => mb_argument_16 fu rc q.1 q.2.1 q.2.2)
def mb_argument_315 (fu : Nat) (rc : RC) (F : PF) (G : PG) : PR := some (1, F, G)
def mb_argument_314 (fu : Nat) (rc : RC) (z0 : Int32) (z1 : Int32) (F : PF) (G : PG) : PR := if ixb z1 9000 = true then (mb_argument_315 fu rc F (gup G 59 z1.toNatClampNeg z0)) else none
def mb_argument_313 (fu : Nat) (rc : RC) (z0 : Int32) (F : PF) (G : PG) : PR := mb_argument_314 fu rc 0 z0 F G
def mb_argument_309 (fu : Nat) (rc : RC) (z0 : Int32) (F : PF) (G : PG) : PR := mb_argument_314 fu rc 1 z0 F G
def mb_argument_299 (fu : Nat) (rc : RC) (x6 : Int32) (z0 : Int32) (F : PF) (G : PG) : PR := if ixb x6 900 = true then (if (G 23 x6.toNatClampNeg) = (0 : Int32) then mb_argument_313 fu rc z0 F G else mb_argument_309 fu rc z0 F G) else none
def mb_argument_285 (fu : Nat) (rc : RC) (x6 : Int32) (z0 : Int32) (F : PF) (G : PG) : PR := if x6 = (-1 : Int32) then mb_argument_313 fu rc z0 F G else mb_argument_299 fu rc x6 z0 F G
def mb_argument_282 (fu : Nat) (rc : RC) (x6 : Int32) (z0 : Int32) (z1 : Int32) (z2 : Int32) (F : PF) (G : PG) : PR := (mf_step fu z2 z1 z0 F G).bind (fun q => mb_argument_285 fu rc x6 q.1 q.2.1 q.2.2)
def mb_argument_275 (fu : Nat) (rc : RC) (x6 : Int32) (z0 : Int32) (z1 : Int32) (F : PF) (G : PG) : PR := if ixb x6 900 = true then (mb_argument_282 fu rc x6 (G 21 x6.toNatClampNeg) z0 z1 F G) else none
def mb_argument_271 (fu : Nat) (rc : RC) (x6 : Int32) (z0 : Int32) (z1 : Int32) (F : PF) (G : PG) : PR := mb_argument_282 fu rc x6 1 z0 z1 F G
def mb_argument_265 (fu : Nat) (rc : RC) (x6 : Int32) (z0 : Int32) (z1 : Int32) (F : PF) (G : PG) : PR := if x6 = (-1 : Int32) then mb_argument_271 fu rc x6 z0 z1 F G else mb_argument_275 fu rc x6 z0 z1 F G
def mb_argument_258 (fu : Nat) (rc : RC) (x6 : Int32) (z0 : Int32) (F : PF) (G : PG) : PR := if ixb x6 900 = true then (mb_argument_265 fu rc x6 (G 20 x6.toNatClampNeg) z0 F G) else none
def mb_argument_254 (fu : Nat) (rc : RC) (x6 : Int32) (z0 : Int32) (F : PF) (G : PG) : PR := mb_argument_265 fu rc x6 0 z0 F G
def mb_argument_246 (fu : Nat) (rc : RC) (x6 : Int32) (F : PF) (G : PG) : PR := if x6 = (-1 : Int32) then mb_argument_254 fu rc x6 5 F G else mb_argument_258 fu rc x6 5 F G
def mb_argument_236 (fu : Nat) (rc : RC) (x6 : Int32) (F : PF) (G : PG) : PR := mb_argument_246 fu rc x6 (fup F 42 ((F 42) + (1 : Int32))) G
def mb_argument_229 (fu : Nat) (rc : RC) (x3 : Int32) (x6 : Int32) (F : PF) (G : PG) : PR := (mf_note fu 7 x3 F G).bind (fun q => mb_argument_236 fu rc x6 q.2.1 q.2.2)
def mb_argument_226 (fu : Nat) (rc : RC) (x3 : Int32) (x6 : Int32) (z0 : Int32) (z1 : Int32) (F : PF) (G : PG) : PR := if z1 = z0 then mb_argument_236 fu rc x6 F G else mb_argument_229 fu rc x3 x6 F G
def mb_argument_225 (fu : Nat) (rc : RC) (x3 : Int32) (x6 : Int32) (z0 : Int32) (F : PF) (G : PG) : PR := mb_argument_226 fu rc x3 x6 0 z0 F G
def mb_argument_221 (fu : Nat) (rc : RC) (x3 : Int32) (x6 : Int32) (z0 : Int32) (F : PF) (G : PG) : PR := mb_argument_226 fu rc x3 x6 1 z0 F G
def mb_argument_208 (fu : Nat) (rc : RC) (x3 : Int32) (x4 : Int32) (x6 : Int32) (F : PF) (G : PG) : PR := if ixb x6 900 = true then (if x4 = (2 : Int32) then mb_argument_221 fu rc x3 x6 (G 22 x6.toNatClampNeg) F G else mb_argument_225 fu rc x3 x6 (G 22 x6.toNatClampNeg) F G) else none
def mb_argument_197 (fu : Nat) (rc : RC) (x3 : Int32) (x4 : Int32) (x6 : Int32) (F : PF) (G : PG) : PR := if ixb x6 900 = true then (if (G 17 x6.toNatClampNeg) = (2 : Int32) then mb_argument_208 fu rc x3 x4 x6 F G else mb_argument_229 fu rc x3 x6 F G) else none
def mb_argument_191 (fu : Nat) (rc : RC) (x3 : Int32) (x4 : Int32) (x6 : Int32) (F : PF) (G : PG) : PR := if x6 = (-1 : Int32) then mb_argument_229 fu rc x3 x6 F G else mb_argument_197 fu rc x3 x4 x6 F G
def mb_argument_188 (fu : Nat) (rc : RC) (x6 : Int32) (F : PF) (G : PG) : PR := mb_argument_236 fu rc x6 F G
def mb_argument_182 (fu : Nat) (rc : RC) (x3 : Int32) (x6 : Int32) (F : PF) (G : PG) : PR := (mf_note fu 4 x3 F G).bind (fun q => mb_argument_188 fu rc x6 q.2.1 q.2.2)
def mb_argument_174 (fu : Nat) (rc : RC) (x3 : Int32) (x4 : Int32) (x6 : Int32) (F : PF) (G : PG) : PR := if (F 62) = (-1 : Int32) then mb_argument_182 fu rc x3 x6 F G else mb_argument_191 fu rc x3 x4 x6 F G
def mb_argument_166 (fu : Nat) (rc : RC) (x3 : Int32) (x4 : Int32) (z0 : Int32) (F : PF) (G : PG) : PR := if z0 = (-1 : Int32) then mb_argument_174 fu rc x3 x4 z0 F G else mb_argument_191 fu rc x3 x4 z0 F G
def mb_argument_158 (fu : Nat) (rc : RC) (x3 : Int32) (x4 : Int32) (F : PF) (G : PG) : PR := (mf_meaning fu (F 42) F G).bind (fun q => mb_argument_166 fu rc x3 x4 q.1 q.2.1 q.2.2)
def mb_argument_157 (fu : Nat) (rc : RC) (z0 : Int32) (F : PF) (G : PG) : PR := if b01 z0 = true then (some (z0, F, G)) else none
def mb_argument_153 (fu : Nat) (rc : RC) (F : PF) (G : PG) : PR := (rc 4 0 0 F G).bind (fun q => mb_argument_157 fu rc q.1 q.2.1 q.2.2)
def mb_argument_146 (fu : Nat) (rc : RC) (x3 : Int32) (F : PF) (G : PG) : PR := (mf_note fu 7 x3 F G).bind (fun q => mb_argument_153 fu rc q.2.1 q.2.2)
def mb_argument_139 (fu : Nat) (rc : RC) (x3 : Int32) (x4 : Int32) (z0 : Int32) (F : PF) (G : PG) : PR := if z0 = (0 : Int32) then mb_argument_146 fu rc x3 F G else mb_argument_158 fu rc x3 x4 F G
def mb_argument_138 (fu : Nat) (rc : RC) (x3 : Int32) (x4 : Int32) (F : PF) (G : PG) : PR := mb_argument_139 fu rc x3 x4 0 F G
def mb_argument_134 (fu : Nat) (rc : RC) (x3 : Int32) (x4 : Int32) (F : PF) (G : PG) : PR := mb_argument_139 fu rc x3 x4 1 F G
def mb_argument_118 (fu : Nat) (rc : RC) (x3 : Int32) (x4 : Int32) (F : PF) (G : PG) : PR := if ixb ((F 42) + (1 : Int32)) 4002 = true then (if (G 5 ((F 42) + (1 : Int32)).toNatClampNeg) = (23 : Int32) then mb_argument_134 fu rc x3 x4 F G else mb_argument_138 fu rc x3 x4 F G) else none
def mb_argument_102 (fu : Nat) (rc : RC) (x3 : Int32) (x4 : Int32) (F : PF) (G : PG) : PR := if ixb ((F 42) + (1 : Int32)) 4002 = true then (if (G 5 ((F 42) + (1 : Int32)).toNatClampNeg) = (28 : Int32) then mb_argument_134 fu rc x3 x4 F G else mb_argument_118 fu rc x3 x4 F G) else none
def mb_argument_87 (fu : Nat) (rc : RC) (x3 : Int32) (x4 : Int32) (F : PF) (G : PG) : PR := if ixb ((F 42) + (1 : Int32)) 4002 = true then (if (G 4 ((F 42) + (1 : Int32)).toNatClampNeg) = (4 : Int32) then mb_argument_102 fu rc x3 x4 F G else mb_argument_138 fu rc x3 x4 F G) else none
def mb_argument_74 (fu : Nat) (rc : RC) (x3 : Int32) (x4 : Int32) (F : PF) (G : PG) : PR := if ixb (F 42) 4002 = true then (if (G 4 (F 42).toNatClampNeg) = (1 : Int32) then mb_argument_87 fu rc x3 x4 F G else mb_argument_138 fu rc x3 x4 F G) else none
def mb_argument_73 (fu : Nat) (rc : RC) (z0 : Int32) (F : PF) (G : PG) : PR := if b01 z0 = true then (some (z0, F, G)) else none
def mb_argument_69 (fu : Nat) (rc : RC) (F : PF) (G : PG) : PR := (rc 4 0 0 F G).bind (fun q => mb_argument_73 fu rc q.1 q.2.1 q.2.2)
def mb_argument_49 (fu : Nat) (rc : RC) (x1 : Int32) (x2 : Int32) (x3 : Int32) (F : PF) (G : PG) : PR := if ixb x1 500 = true then (if ixb ((G 31 x1.toNatClampNeg) + x2) 900 = true then (if (G 34 ((G 31 x1.toNatClampNeg) + x2).toNatClampNeg) = (0 : Int32) then mb_argument_69 fu rc F G else mb_argument_74 fu rc x3 (G 34 ((G 31 x1.toNatClampNeg) + x2).toNatClampNeg) F G) else none) else none
def mb_argument_48 (fu : Nat) (rc : RC) (z0 : Int32) (F : PF) (G : PG) : PR := if b01 z0 = true then (some (z0, F, G)) else none
def mb_argument_44 (fu : Nat) (rc : RC) (F : PF) (G : PG) : PR := (rc 4 0 0 F G).bind (fun q => mb_argument_48 fu rc q.1 q.2.1 q.2.2)
def mb_argument_37 (fu : Nat) (rc : RC) (x3 : Int32) (F : PF) (G : PG) : PR := (mf_note fu 7 x3 F G).bind (fun q => mb_argument_44 fu rc q.2.1 q.2.2)
def mb_argument_17 (fu : Nat) (rc : RC) (x1 : Int32) (x2 : Int32) (F : PF) (G : PG) : PR := if ixb (F 42) 4002 = true then (if ixb x1 500 = true then (if x2 < (G 27 x1.toNatClampNeg) then mb_argument_49 fu rc x1 x2 (G 6 (F 42).toNatClampNeg) F G else mb_argument_37 fu rc (G 6 (F 42).toNatClampNeg) F G) else none) else none
def mb_argument_7 (fu : Nat) (rc : RC) (x1 : Int32) (x2 : Int32) (F : PF) (G : PG) : PR := if x1 = (-1 : Int32) then mb_argument_12 fu rc F G else mb_argument_17 fu rc x1 x2 F G
def mb_argument_0 (fu : Nat) (rc : RC) (x1 : Int32) (x2 : Int32) (F : PF) (G : PG) : PR := if (F 54) = (0 : Int32) then mb_argument_7 fu rc x1 x2 F G else mb_argument_12 fu rc F G
def mh_argument (fu : Nat) (rc : RC) (x1 : Int32) (x2 : Int32) (F : PF) (G : PG) : PR := mb_argument_0 fu rc x1 x2 F G
theorem mw_argument_16 (fu : Nat) (rc : RC) {dd : Nat} (hr : mH1 l v a rc dd) {res : Int32 × PF × PG} (C : mMC p R s m args c A v RX12 cX12_argument 8 (dd + 1 + 3) (60 * (dd + 1) + 64)) (hret : ∀ (H1 : Heap) (locs1 : List Loc) (ls1 : Array Slot) (pc : Nat), mMW s A v a res.2.1 res.2.2 H1 locs1 → narrow .boolean (.int res.1) = .int res.1 → decode cX12_argument pc = .ok (.ireturn, 1) → W p l e R s m args below meth c H1 locs1 0 0 Q (F0 m pc ls1 [.int res.1])) (z0 : Int32) (F : PF) (G : PG) (hm : mb_argument_16 fu rc z0 F G = some res) {H : Heap} {locs : List Loc} (hw : mMW s A v a F G H locs) {ls : Array Slot} (hl : lv_has ls 8 []) : W p l e R s m args below meth c H locs 0 0 Q (F0 m 16 ls [.int z0]) := by
  have hx := C.1
  have hb := C.2.1
  unfold mb_argument_16 at hm
  obtain ⟨hz, hm⟩ := b01_elim hm
  obtain rfl := Option.some.inj hm
  exact hret _ _ _ _ hw (b01_nar hz) dX12_argument_16
theorem mw_argument_12 (fu : Nat) (rc : RC) {dd : Nat} (hr : mH1 l v a rc dd) {res : Int32 × PF × PG} (C : mMC p R s m args c A v RX12 cX12_argument 8 (dd + 1 + 3) (60 * (dd + 1) + 64)) (hret : ∀ (H1 : Heap) (locs1 : List Loc) (ls1 : Array Slot) (pc : Nat), mMW s A v a res.2.1 res.2.2 H1 locs1 → narrow .boolean (.int res.1) = .int res.1 → decode cX12_argument pc = .ok (.ireturn, 1) → W p l e R s m args below meth c H1 locs1 0 0 Q (F0 m pc ls1 [.int res.1])) (F : PF) (G : PG) (hm : mb_argument_12 fu rc F G = some res) {H : Heap} {locs : List Loc} (hw : mMW s A v a F G H locs) {ls : Array Slot} (hl : lv_has ls 8 [(0, .ref (a 212))]) : W p l e R s m args below meth c H locs 0 0 Q (F0 m 12 ls []) := by
  have hx := C.1
  have hb := C.2.1
  unfold mb_argument_12 at hm
  refine lv_aload_n hx hb dX12_argument_12 rfl (lv_at hl 0 rfl) ?_
  obtain ⟨⟨r1, F1, G1⟩, hc, hm⟩ := bind_elim hm
  refine mcallI (n := 0) (As := []) (rest := []) C hw (hr.2.2.2.2.1 _ F G r1 F1 G1 hc) (mrecv_X12 C hw) mm_191 mm_192 mm_193 mm_27 mm_194 (by decide +kernel) rfl (by omega) (by omega) hl.1 rfl (Nat.le_of_ble_eq_true rfl) dX12_argument_13 (fun H locs hw => ?_)
  exact mw_argument_16 fu rc hr C hret r1 F1 G1 hm hw (lv_sub hl [] rfl)
theorem mw_argument_315 (fu : Nat) (rc : RC) {dd : Nat} (hr : mH1 l v a rc dd) {res : Int32 × PF × PG} (C : mMC p R s m args c A v RX12 cX12_argument 8 (dd + 1 + 3) (60 * (dd + 1) + 64)) (hret : ∀ (H1 : Heap) (locs1 : List Loc) (ls1 : Array Slot) (pc : Nat), mMW s A v a res.2.1 res.2.2 H1 locs1 → narrow .boolean (.int res.1) = .int res.1 → decode cX12_argument pc = .ok (.ireturn, 1) → W p l e R s m args below meth c H1 locs1 0 0 Q (F0 m pc ls1 [.int res.1])) (F : PF) (G : PG) (hm : mb_argument_315 fu rc F G = some res) {H : Heap} {locs : List Loc} (hw : mMW s A v a F G H locs) {ls : Array Slot} (hl : lv_has ls 8 []) : W p l e R s m args below meth c H locs 0 0 Q (F0 m 315 ls []) := by
  have hx := C.1
  have hb := C.2.1
  unfold mb_argument_315 at hm
  refine lv_iconst (v := 1) hx hb dX12_argument_315 (by decide) ?_
  obtain rfl := Option.some.inj hm
  exact hret _ _ _ _ hw (b01_nar (v := 1) (Or.inr rfl)) dX12_argument_316
theorem mw_argument_314 (fu : Nat) (rc : RC) {dd : Nat} (hr : mH1 l v a rc dd) {res : Int32 × PF × PG} (C : mMC p R s m args c A v RX12 cX12_argument 8 (dd + 1 + 3) (60 * (dd + 1) + 64)) (hret : ∀ (H1 : Heap) (locs1 : List Loc) (ls1 : Array Slot) (pc : Nat), mMW s A v a res.2.1 res.2.2 H1 locs1 → narrow .boolean (.int res.1) = .int res.1 → decode cX12_argument pc = .ok (.ireturn, 1) → W p l e R s m args below meth c H1 locs1 0 0 Q (F0 m pc ls1 [.int res.1])) (z0 : Int32) (z1 : Int32) (F : PF) (G : PG) (hm : mb_argument_314 fu rc z0 z1 F G = some res) {H : Heap} {locs : List Loc} (hw : mMW s A v a F G H locs) {ls : Array Slot} (hl : lv_has ls 8 []) : W p l e R s m args below meth c H locs 0 0 Q (F0 m 314 ls [.int z0, .int z1, .ref (a 59)]) := by
  have hx := C.1
  have hb := C.2.1
  unfold mb_argument_314 at hm
  obtain ⟨hi, hm⟩ := ix_elim hm
  refine mas_59 C hw hi dX12_argument_314 (fun H locs hw => ?_)
  exact mw_argument_315 fu rc hr C hret F (gup G 59 z1.toNatClampNeg z0) hm hw (lv_sub hl [] rfl)
theorem mw_argument_313 (fu : Nat) (rc : RC) {dd : Nat} (hr : mH1 l v a rc dd) {res : Int32 × PF × PG} (C : mMC p R s m args c A v RX12 cX12_argument 8 (dd + 1 + 3) (60 * (dd + 1) + 64)) (hret : ∀ (H1 : Heap) (locs1 : List Loc) (ls1 : Array Slot) (pc : Nat), mMW s A v a res.2.1 res.2.2 H1 locs1 → narrow .boolean (.int res.1) = .int res.1 → decode cX12_argument pc = .ok (.ireturn, 1) → W p l e R s m args below meth c H1 locs1 0 0 Q (F0 m pc ls1 [.int res.1])) (z0 : Int32) (F : PF) (G : PG) (hm : mb_argument_313 fu rc z0 F G = some res) {H : Heap} {locs : List Loc} (hw : mMW s A v a F G H locs) {ls : Array Slot} (hl : lv_has ls 8 []) : W p l e R s m args below meth c H locs 0 0 Q (F0 m 313 ls [.int z0, .ref (a 59)]) := by
  have hx := C.1
  have hb := C.2.1
  unfold mb_argument_313 at hm
  refine lv_iconst (v := 0) hx hb dX12_argument_313 (by decide) ?_
  exact mw_argument_314 fu rc hr C hret 0 z0 F G hm hw (lv_sub hl [] rfl)
theorem mw_argument_309 (fu : Nat) (rc : RC) {dd : Nat} (hr : mH1 l v a rc dd) {res : Int32 × PF × PG} (C : mMC p R s m args c A v RX12 cX12_argument 8 (dd + 1 + 3) (60 * (dd + 1) + 64)) (hret : ∀ (H1 : Heap) (locs1 : List Loc) (ls1 : Array Slot) (pc : Nat), mMW s A v a res.2.1 res.2.2 H1 locs1 → narrow .boolean (.int res.1) = .int res.1 → decode cX12_argument pc = .ok (.ireturn, 1) → W p l e R s m args below meth c H1 locs1 0 0 Q (F0 m pc ls1 [.int res.1])) (z0 : Int32) (F : PF) (G : PG) (hm : mb_argument_309 fu rc z0 F G = some res) {H : Heap} {locs : List Loc} (hw : mMW s A v a F G H locs) {ls : Array Slot} (hl : lv_has ls 8 []) : W p l e R s m args below meth c H locs 0 0 Q (F0 m 309 ls [.int z0, .ref (a 59)]) := by
  have hx := C.1
  have hb := C.2.1
  unfold mb_argument_309 at hm
  refine lv_iconst (v := 1) hx hb dX12_argument_309 (by decide) ?_
  refine lv_goto (tgt := 314) hx hb dX12_argument_310 (by decide) ?_
  exact mw_argument_314 fu rc hr C hret 1 z0 F G hm hw (lv_sub hl [] rfl)
theorem mw_argument_299 (fu : Nat) (rc : RC) {dd : Nat} (hr : mH1 l v a rc dd) {res : Int32 × PF × PG} (C : mMC p R s m args c A v RX12 cX12_argument 8 (dd + 1 + 3) (60 * (dd + 1) + 64)) (hret : ∀ (H1 : Heap) (locs1 : List Loc) (ls1 : Array Slot) (pc : Nat), mMW s A v a res.2.1 res.2.2 H1 locs1 → narrow .boolean (.int res.1) = .int res.1 → decode cX12_argument pc = .ok (.ireturn, 1) → W p l e R s m args below meth c H1 locs1 0 0 Q (F0 m pc ls1 [.int res.1])) (x6 : Int32) (z0 : Int32) (F : PF) (G : PG) (hm : mb_argument_299 fu rc x6 z0 F G = some res) {H : Heap} {locs : List Loc} (hw : mMW s A v a F G H locs) {ls : Array Slot} (hl : lv_has ls 8 [(0, .ref (a 212)), (6, .int x6)]) : W p l e R s m args below meth c H locs 0 0 Q (F0 m 299 ls [.int z0, .ref (a 59)]) := by
  have hx := C.1
  have hb := C.2.1
  unfold mb_argument_299 at hm
  refine lv_aload_n hx hb dX12_argument_299 rfl (lv_at hl 0 rfl) ?_
  refine mg_X12_59 C hw dX12_argument_300 ?_
  refine lv_iload hx hb dX12_argument_303 (lv_at hl 1 rfl) ?_
  obtain ⟨hi, hm⟩ := ix_elim hm
  refine mal_23 C hw hi dX12_argument_305 ?_
  refine lv_if_eq (tgt := 313) hx hb dX12_argument_306 (by decide) (fun c_1 => ?_) (fun c_1 => ?_)
  · have hm := (if_pos c_1).symm.trans hm
    exact mw_argument_313 fu rc hr C hret z0 F G hm hw (lv_sub hl [] rfl)
  · have hm := (if_neg c_1).symm.trans hm
    exact mw_argument_309 fu rc hr C hret z0 F G hm hw (lv_sub hl [] rfl)
theorem mw_argument_285 (fu : Nat) (rc : RC) {dd : Nat} (hr : mH1 l v a rc dd) {res : Int32 × PF × PG} (C : mMC p R s m args c A v RX12 cX12_argument 8 (dd + 1 + 3) (60 * (dd + 1) + 64)) (hret : ∀ (H1 : Heap) (locs1 : List Loc) (ls1 : Array Slot) (pc : Nat), mMW s A v a res.2.1 res.2.2 H1 locs1 → narrow .boolean (.int res.1) = .int res.1 → decode cX12_argument pc = .ok (.ireturn, 1) → W p l e R s m args below meth c H1 locs1 0 0 Q (F0 m pc ls1 [.int res.1])) (x6 : Int32) (z0 : Int32) (F : PF) (G : PG) (hm : mb_argument_285 fu rc x6 z0 F G = some res) {H : Heap} {locs : List Loc} (hw : mMW s A v a F G H locs) {ls : Array Slot} (hl : lv_has ls 8 [(0, .ref (a 212)), (6, .int x6)]) : W p l e R s m args below meth c H locs 0 0 Q (F0 m 285 ls [.int z0]) := by
  have hx := C.1
  have hb := C.2.1
  unfold mb_argument_285 at hm
  refine lv_istore (lv' := [(7, .int z0), (0, .ref (a 212)), (6, .int x6)]) hx hb dX12_argument_285 hl (by decide) rfl (fun ls hl => ?_)
  refine lv_aload_n hx hb dX12_argument_287 rfl (lv_at hl 1 rfl) ?_
  refine mg_X12_113 C hw dX12_argument_288 ?_
  refine lv_iload hx hb dX12_argument_291 (lv_at hl 0 rfl) ?_
  refine lv_iload hx hb dX12_argument_293 (lv_at hl 2 rfl) ?_
  refine lv_iconst (v := (-1)) hx hb dX12_argument_295 (by decide) ?_
  refine lv_icmp_eq (tgt := 313) hx hb dX12_argument_296 (by decide) (fun c_1 => ?_) (fun c_1 => ?_)
  · have hm := (if_pos c_1).symm.trans hm
    exact mw_argument_313 fu rc hr C hret z0 F G hm hw (lv_sub hl [] rfl)
  · have hm := (if_neg c_1).symm.trans hm
    exact mw_argument_299 fu rc hr C hret x6 z0 F G hm hw (lv_sub hl [1, 2] rfl)
theorem mw_argument_282 (fu : Nat) (rc : RC) {dd : Nat} (hr : mH1 l v a rc dd) {res : Int32 × PF × PG} (C : mMC p R s m args c A v RX12 cX12_argument 8 (dd + 1 + 3) (60 * (dd + 1) + 64)) (hret : ∀ (H1 : Heap) (locs1 : List Loc) (ls1 : Array Slot) (pc : Nat), mMW s A v a res.2.1 res.2.2 H1 locs1 → narrow .boolean (.int res.1) = .int res.1 → decode cX12_argument pc = .ok (.ireturn, 1) → W p l e R s m args below meth c H1 locs1 0 0 Q (F0 m pc ls1 [.int res.1])) (x6 : Int32) (z0 : Int32) (z1 : Int32) (z2 : Int32) (F : PF) (G : PG) (hm : mb_argument_282 fu rc x6 z0 z1 z2 F G = some res) {H : Heap} {locs : List Loc} (hw : mMW s A v a F G H locs) {ls : Array Slot} (hl : lv_has ls 8 [(0, .ref (a 212)), (6, .int x6)]) : W p l e R s m args below meth c H locs 0 0 Q (F0 m 282 ls [.int z0, .int z1, .int z2, .ref (a 212)]) := by
  have hx := C.1
  have hb := C.2.1
  unfold mb_argument_282 at hm
  obtain ⟨⟨r1, F1, G1⟩, hc, hm⟩ := bind_elim hm
  refine mcallI (n := 3) (As := [.int z2, .int z1, .int z0]) (rest := []) C hw (mk_step l v a _ fu z2 z1 z0 F G r1 F1 G1 hc) (mrecv_X12 C hw) mm_203 mm_204 mm_205 mm_27 mm_206 (by decide +kernel) rfl (by omega) (by omega) hl.1 rfl (Nat.le_of_ble_eq_true rfl) dX12_argument_282 (fun H locs hw => ?_)
  exact mw_argument_285 fu rc hr C hret x6 r1 F1 G1 hm hw (lv_sub hl [0, 1] rfl)
theorem mw_argument_275 (fu : Nat) (rc : RC) {dd : Nat} (hr : mH1 l v a rc dd) {res : Int32 × PF × PG} (C : mMC p R s m args c A v RX12 cX12_argument 8 (dd + 1 + 3) (60 * (dd + 1) + 64)) (hret : ∀ (H1 : Heap) (locs1 : List Loc) (ls1 : Array Slot) (pc : Nat), mMW s A v a res.2.1 res.2.2 H1 locs1 → narrow .boolean (.int res.1) = .int res.1 → decode cX12_argument pc = .ok (.ireturn, 1) → W p l e R s m args below meth c H1 locs1 0 0 Q (F0 m pc ls1 [.int res.1])) (x6 : Int32) (z0 : Int32) (z1 : Int32) (F : PF) (G : PG) (hm : mb_argument_275 fu rc x6 z0 z1 F G = some res) {H : Heap} {locs : List Loc} (hw : mMW s A v a F G H locs) {ls : Array Slot} (hl : lv_has ls 8 [(0, .ref (a 212)), (6, .int x6)]) : W p l e R s m args below meth c H locs 0 0 Q (F0 m 275 ls [.int z0, .int z1, .ref (a 212)]) := by
  have hx := C.1
  have hb := C.2.1
  unfold mb_argument_275 at hm
  refine lv_aload_n hx hb dX12_argument_275 rfl (lv_at hl 0 rfl) ?_
  refine mg_X12_52 C hw dX12_argument_276 ?_
  refine lv_iload hx hb dX12_argument_279 (lv_at hl 1 rfl) ?_
  obtain ⟨hi, hm⟩ := ix_elim hm
  refine mal_21 C hw hi dX12_argument_281 ?_
  exact mw_argument_282 fu rc hr C hret x6 (G 21 x6.toNatClampNeg) z0 z1 F G hm hw (lv_sub hl [0, 1] rfl)
theorem mw_argument_271 (fu : Nat) (rc : RC) {dd : Nat} (hr : mH1 l v a rc dd) {res : Int32 × PF × PG} (C : mMC p R s m args c A v RX12 cX12_argument 8 (dd + 1 + 3) (60 * (dd + 1) + 64)) (hret : ∀ (H1 : Heap) (locs1 : List Loc) (ls1 : Array Slot) (pc : Nat), mMW s A v a res.2.1 res.2.2 H1 locs1 → narrow .boolean (.int res.1) = .int res.1 → decode cX12_argument pc = .ok (.ireturn, 1) → W p l e R s m args below meth c H1 locs1 0 0 Q (F0 m pc ls1 [.int res.1])) (x6 : Int32) (z0 : Int32) (z1 : Int32) (F : PF) (G : PG) (hm : mb_argument_271 fu rc x6 z0 z1 F G = some res) {H : Heap} {locs : List Loc} (hw : mMW s A v a F G H locs) {ls : Array Slot} (hl : lv_has ls 8 [(0, .ref (a 212)), (6, .int x6)]) : W p l e R s m args below meth c H locs 0 0 Q (F0 m 271 ls [.int z0, .int z1, .ref (a 212)]) := by
  have hx := C.1
  have hb := C.2.1
  unfold mb_argument_271 at hm
  refine lv_iconst (v := 1) hx hb dX12_argument_271 (by decide) ?_
  refine lv_goto (tgt := 282) hx hb dX12_argument_272 (by decide) ?_
  exact mw_argument_282 fu rc hr C hret x6 1 z0 z1 F G hm hw (lv_sub hl [0, 1] rfl)
theorem mw_argument_265 (fu : Nat) (rc : RC) {dd : Nat} (hr : mH1 l v a rc dd) {res : Int32 × PF × PG} (C : mMC p R s m args c A v RX12 cX12_argument 8 (dd + 1 + 3) (60 * (dd + 1) + 64)) (hret : ∀ (H1 : Heap) (locs1 : List Loc) (ls1 : Array Slot) (pc : Nat), mMW s A v a res.2.1 res.2.2 H1 locs1 → narrow .boolean (.int res.1) = .int res.1 → decode cX12_argument pc = .ok (.ireturn, 1) → W p l e R s m args below meth c H1 locs1 0 0 Q (F0 m pc ls1 [.int res.1])) (x6 : Int32) (z0 : Int32) (z1 : Int32) (F : PF) (G : PG) (hm : mb_argument_265 fu rc x6 z0 z1 F G = some res) {H : Heap} {locs : List Loc} (hw : mMW s A v a F G H locs) {ls : Array Slot} (hl : lv_has ls 8 [(0, .ref (a 212)), (6, .int x6)]) : W p l e R s m args below meth c H locs 0 0 Q (F0 m 265 ls [.int z0, .int z1, .ref (a 212)]) := by
  have hx := C.1
  have hb := C.2.1
  unfold mb_argument_265 at hm
  refine lv_iload hx hb dX12_argument_265 (lv_at hl 1 rfl) ?_
  refine lv_iconst (v := (-1)) hx hb dX12_argument_267 (by decide) ?_
  refine lv_icmp_ne (tgt := 275) hx hb dX12_argument_268 (by decide) (fun c_1 => ?_) (fun c_1 => ?_)
  · have hm := (if_neg c_1).symm.trans hm
    exact mw_argument_275 fu rc hr C hret x6 z0 z1 F G hm hw (lv_sub hl [0, 1] rfl)
  · have hm := (if_pos c_1).symm.trans hm
    exact mw_argument_271 fu rc hr C hret x6 z0 z1 F G hm hw (lv_sub hl [0, 1] rfl)
theorem mw_argument_258 (fu : Nat) (rc : RC) {dd : Nat} (hr : mH1 l v a rc dd) {res : Int32 × PF × PG} (C : mMC p R s m args c A v RX12 cX12_argument 8 (dd + 1 + 3) (60 * (dd + 1) + 64)) (hret : ∀ (H1 : Heap) (locs1 : List Loc) (ls1 : Array Slot) (pc : Nat), mMW s A v a res.2.1 res.2.2 H1 locs1 → narrow .boolean (.int res.1) = .int res.1 → decode cX12_argument pc = .ok (.ireturn, 1) → W p l e R s m args below meth c H1 locs1 0 0 Q (F0 m pc ls1 [.int res.1])) (x6 : Int32) (z0 : Int32) (F : PF) (G : PG) (hm : mb_argument_258 fu rc x6 z0 F G = some res) {H : Heap} {locs : List Loc} (hw : mMW s A v a F G H locs) {ls : Array Slot} (hl : lv_has ls 8 [(0, .ref (a 212)), (6, .int x6)]) : W p l e R s m args below meth c H locs 0 0 Q (F0 m 258 ls [.int z0, .ref (a 212)]) := by
  have hx := C.1
  have hb := C.2.1
  unfold mb_argument_258 at hm
  refine lv_aload_n hx hb dX12_argument_258 rfl (lv_at hl 0 rfl) ?_
  refine mg_X12_49 C hw dX12_argument_259 ?_
  refine lv_iload hx hb dX12_argument_262 (lv_at hl 1 rfl) ?_
  obtain ⟨hi, hm⟩ := ix_elim hm
  refine mal_20 C hw hi dX12_argument_264 ?_
  exact mw_argument_265 fu rc hr C hret x6 (G 20 x6.toNatClampNeg) z0 F G hm hw (lv_sub hl [0, 1] rfl)
theorem mw_argument_254 (fu : Nat) (rc : RC) {dd : Nat} (hr : mH1 l v a rc dd) {res : Int32 × PF × PG} (C : mMC p R s m args c A v RX12 cX12_argument 8 (dd + 1 + 3) (60 * (dd + 1) + 64)) (hret : ∀ (H1 : Heap) (locs1 : List Loc) (ls1 : Array Slot) (pc : Nat), mMW s A v a res.2.1 res.2.2 H1 locs1 → narrow .boolean (.int res.1) = .int res.1 → decode cX12_argument pc = .ok (.ireturn, 1) → W p l e R s m args below meth c H1 locs1 0 0 Q (F0 m pc ls1 [.int res.1])) (x6 : Int32) (z0 : Int32) (F : PF) (G : PG) (hm : mb_argument_254 fu rc x6 z0 F G = some res) {H : Heap} {locs : List Loc} (hw : mMW s A v a F G H locs) {ls : Array Slot} (hl : lv_has ls 8 [(0, .ref (a 212)), (6, .int x6)]) : W p l e R s m args below meth c H locs 0 0 Q (F0 m 254 ls [.int z0, .ref (a 212)]) := by
  have hx := C.1
  have hb := C.2.1
  unfold mb_argument_254 at hm
  refine lv_iconst (v := 0) hx hb dX12_argument_254 (by decide) ?_
  refine lv_goto (tgt := 265) hx hb dX12_argument_255 (by decide) ?_
  exact mw_argument_265 fu rc hr C hret x6 0 z0 F G hm hw (lv_sub hl [0, 1] rfl)
theorem mw_argument_246 (fu : Nat) (rc : RC) {dd : Nat} (hr : mH1 l v a rc dd) {res : Int32 × PF × PG} (C : mMC p R s m args c A v RX12 cX12_argument 8 (dd + 1 + 3) (60 * (dd + 1) + 64)) (hret : ∀ (H1 : Heap) (locs1 : List Loc) (ls1 : Array Slot) (pc : Nat), mMW s A v a res.2.1 res.2.2 H1 locs1 → narrow .boolean (.int res.1) = .int res.1 → decode cX12_argument pc = .ok (.ireturn, 1) → W p l e R s m args below meth c H1 locs1 0 0 Q (F0 m pc ls1 [.int res.1])) (x6 : Int32) (F : PF) (G : PG) (hm : mb_argument_246 fu rc x6 F G = some res) {H : Heap} {locs : List Loc} (hw : mMW s A v a F G H locs) {ls : Array Slot} (hl : lv_has ls 8 [(0, .ref (a 212)), (6, .int x6)]) : W p l e R s m args below meth c H locs 0 0 Q (F0 m 246 ls []) := by
  have hx := C.1
  have hb := C.2.1
  unfold mb_argument_246 at hm
  refine lv_aload_n hx hb dX12_argument_246 rfl (lv_at hl 0 rfl) ?_
  refine lv_iconst (v := 5) hx hb dX12_argument_247 (by decide) ?_
  refine lv_iload hx hb dX12_argument_248 (lv_at hl 1 rfl) ?_
  refine lv_iconst (v := (-1)) hx hb dX12_argument_250 (by decide) ?_
  refine lv_icmp_ne (tgt := 258) hx hb dX12_argument_251 (by decide) (fun c_1 => ?_) (fun c_1 => ?_)
  · have hm := (if_neg c_1).symm.trans hm
    exact mw_argument_258 fu rc hr C hret x6 5 F G hm hw (lv_sub hl [0, 1] rfl)
  · have hm := (if_pos c_1).symm.trans hm
    exact mw_argument_254 fu rc hr C hret x6 5 F G hm hw (lv_sub hl [0, 1] rfl)
theorem mw_argument_236 (fu : Nat) (rc : RC) {dd : Nat} (hr : mH1 l v a rc dd) {res : Int32 × PF × PG} (C : mMC p R s m args c A v RX12 cX12_argument 8 (dd + 1 + 3) (60 * (dd + 1) + 64)) (hret : ∀ (H1 : Heap) (locs1 : List Loc) (ls1 : Array Slot) (pc : Nat), mMW s A v a res.2.1 res.2.2 H1 locs1 → narrow .boolean (.int res.1) = .int res.1 → decode cX12_argument pc = .ok (.ireturn, 1) → W p l e R s m args below meth c H1 locs1 0 0 Q (F0 m pc ls1 [.int res.1])) (x6 : Int32) (F : PF) (G : PG) (hm : mb_argument_236 fu rc x6 F G = some res) {H : Heap} {locs : List Loc} (hw : mMW s A v a F G H locs) {ls : Array Slot} (hl : lv_has ls 8 [(0, .ref (a 212)), (6, .int x6)]) : W p l e R s m args below meth c H locs 0 0 Q (F0 m 236 ls []) := by
  have hx := C.1
  have hb := C.2.1
  unfold mb_argument_236 at hm
  refine lv_aload_n hx hb dX12_argument_236 rfl (lv_at hl 0 rfl) ?_
  refine lv_dup hx hb dX12_argument_237 rfl ?_
  refine mg_X12_233 C hw dX12_argument_238 ?_
  refine lv_iconst (v := 1) hx hb dX12_argument_241 (by decide) ?_
  refine lv_iadd hx hb dX12_argument_242 ?_
  refine mp_X12_233 C hw dX12_argument_243 (fun H locs hw => ?_)
  exact mw_argument_246 fu rc hr C hret x6 (fup F 42 ((F 42) + (1 : Int32))) G hm hw (lv_sub hl [0, 1] rfl)
theorem mw_argument_229 (fu : Nat) (rc : RC) {dd : Nat} (hr : mH1 l v a rc dd) {res : Int32 × PF × PG} (C : mMC p R s m args c A v RX12 cX12_argument 8 (dd + 1 + 3) (60 * (dd + 1) + 64)) (hret : ∀ (H1 : Heap) (locs1 : List Loc) (ls1 : Array Slot) (pc : Nat), mMW s A v a res.2.1 res.2.2 H1 locs1 → narrow .boolean (.int res.1) = .int res.1 → decode cX12_argument pc = .ok (.ireturn, 1) → W p l e R s m args below meth c H1 locs1 0 0 Q (F0 m pc ls1 [.int res.1])) (x3 : Int32) (x6 : Int32) (F : PF) (G : PG) (hm : mb_argument_229 fu rc x3 x6 F G = some res) {H : Heap} {locs : List Loc} (hw : mMW s A v a F G H locs) {ls : Array Slot} (hl : lv_has ls 8 [(0, .ref (a 212)), (3, .int x3), (6, .int x6)]) : W p l e R s m args below meth c H locs 0 0 Q (F0 m 229 ls []) := by
  have hx := C.1
  have hb := C.2.1
  unfold mb_argument_229 at hm
  refine lv_aload_n hx hb dX12_argument_229 rfl (lv_at hl 0 rfl) ?_
  refine lv_bipush (v := 7) hx hb dX12_argument_230 (by decide) ?_
  refine lv_iload_n hx hb dX12_argument_232 rfl (lv_at hl 1 rfl) ?_
  obtain ⟨⟨r1, F1, G1⟩, hc, hm⟩ := bind_elim hm
  refine mcallV (n := 2) (As := [.int 7, .int x3]) (rest := []) C hw (mk_note l v a _ fu 7 x3 F G r1 F1 G1 hc) (mrecv_X12 C hw) mm_220 mm_221 mm_222 mm_27 mm_223 (by decide +kernel) rfl (by omega) (by omega) hl.1 rfl (Nat.le_of_ble_eq_true rfl) dX12_argument_233 (fun H locs hw => ?_)
  exact mw_argument_236 fu rc hr C hret x6 F1 G1 hm hw (lv_sub hl [0, 2] rfl)
theorem mw_argument_226 (fu : Nat) (rc : RC) {dd : Nat} (hr : mH1 l v a rc dd) {res : Int32 × PF × PG} (C : mMC p R s m args c A v RX12 cX12_argument 8 (dd + 1 + 3) (60 * (dd + 1) + 64)) (hret : ∀ (H1 : Heap) (locs1 : List Loc) (ls1 : Array Slot) (pc : Nat), mMW s A v a res.2.1 res.2.2 H1 locs1 → narrow .boolean (.int res.1) = .int res.1 → decode cX12_argument pc = .ok (.ireturn, 1) → W p l e R s m args below meth c H1 locs1 0 0 Q (F0 m pc ls1 [.int res.1])) (x3 : Int32) (x6 : Int32) (z0 : Int32) (z1 : Int32) (F : PF) (G : PG) (hm : mb_argument_226 fu rc x3 x6 z0 z1 F G = some res) {H : Heap} {locs : List Loc} (hw : mMW s A v a F G H locs) {ls : Array Slot} (hl : lv_has ls 8 [(0, .ref (a 212)), (3, .int x3), (6, .int x6)]) : W p l e R s m args below meth c H locs 0 0 Q (F0 m 226 ls [.int z0, .int z1]) := by
  have hx := C.1
  have hb := C.2.1
  unfold mb_argument_226 at hm
  refine lv_icmp_eq (tgt := 236) hx hb dX12_argument_226 (by decide) (fun c_1 => ?_) (fun c_1 => ?_)
  · have hm := (if_pos c_1).symm.trans hm
    exact mw_argument_236 fu rc hr C hret x6 F G hm hw (lv_sub hl [0, 2] rfl)
  · have hm := (if_neg c_1).symm.trans hm
    exact mw_argument_229 fu rc hr C hret x3 x6 F G hm hw (lv_sub hl [0, 1, 2] rfl)
theorem mw_argument_225 (fu : Nat) (rc : RC) {dd : Nat} (hr : mH1 l v a rc dd) {res : Int32 × PF × PG} (C : mMC p R s m args c A v RX12 cX12_argument 8 (dd + 1 + 3) (60 * (dd + 1) + 64)) (hret : ∀ (H1 : Heap) (locs1 : List Loc) (ls1 : Array Slot) (pc : Nat), mMW s A v a res.2.1 res.2.2 H1 locs1 → narrow .boolean (.int res.1) = .int res.1 → decode cX12_argument pc = .ok (.ireturn, 1) → W p l e R s m args below meth c H1 locs1 0 0 Q (F0 m pc ls1 [.int res.1])) (x3 : Int32) (x6 : Int32) (z0 : Int32) (F : PF) (G : PG) (hm : mb_argument_225 fu rc x3 x6 z0 F G = some res) {H : Heap} {locs : List Loc} (hw : mMW s A v a F G H locs) {ls : Array Slot} (hl : lv_has ls 8 [(0, .ref (a 212)), (3, .int x3), (6, .int x6)]) : W p l e R s m args below meth c H locs 0 0 Q (F0 m 225 ls [.int z0]) := by
  have hx := C.1
  have hb := C.2.1
  unfold mb_argument_225 at hm
  refine lv_iconst (v := 0) hx hb dX12_argument_225 (by decide) ?_
  exact mw_argument_226 fu rc hr C hret x3 x6 0 z0 F G hm hw (lv_sub hl [0, 1, 2] rfl)
theorem mw_argument_221 (fu : Nat) (rc : RC) {dd : Nat} (hr : mH1 l v a rc dd) {res : Int32 × PF × PG} (C : mMC p R s m args c A v RX12 cX12_argument 8 (dd + 1 + 3) (60 * (dd + 1) + 64)) (hret : ∀ (H1 : Heap) (locs1 : List Loc) (ls1 : Array Slot) (pc : Nat), mMW s A v a res.2.1 res.2.2 H1 locs1 → narrow .boolean (.int res.1) = .int res.1 → decode cX12_argument pc = .ok (.ireturn, 1) → W p l e R s m args below meth c H1 locs1 0 0 Q (F0 m pc ls1 [.int res.1])) (x3 : Int32) (x6 : Int32) (z0 : Int32) (F : PF) (G : PG) (hm : mb_argument_221 fu rc x3 x6 z0 F G = some res) {H : Heap} {locs : List Loc} (hw : mMW s A v a F G H locs) {ls : Array Slot} (hl : lv_has ls 8 [(0, .ref (a 212)), (3, .int x3), (6, .int x6)]) : W p l e R s m args below meth c H locs 0 0 Q (F0 m 221 ls [.int z0]) := by
  have hx := C.1
  have hb := C.2.1
  unfold mb_argument_221 at hm
  refine lv_iconst (v := 1) hx hb dX12_argument_221 (by decide) ?_
  refine lv_goto (tgt := 226) hx hb dX12_argument_222 (by decide) ?_
  exact mw_argument_226 fu rc hr C hret x3 x6 1 z0 F G hm hw (lv_sub hl [0, 1, 2] rfl)
theorem mw_argument_208 (fu : Nat) (rc : RC) {dd : Nat} (hr : mH1 l v a rc dd) {res : Int32 × PF × PG} (C : mMC p R s m args c A v RX12 cX12_argument 8 (dd + 1 + 3) (60 * (dd + 1) + 64)) (hret : ∀ (H1 : Heap) (locs1 : List Loc) (ls1 : Array Slot) (pc : Nat), mMW s A v a res.2.1 res.2.2 H1 locs1 → narrow .boolean (.int res.1) = .int res.1 → decode cX12_argument pc = .ok (.ireturn, 1) → W p l e R s m args below meth c H1 locs1 0 0 Q (F0 m pc ls1 [.int res.1])) (x3 : Int32) (x4 : Int32) (x6 : Int32) (F : PF) (G : PG) (hm : mb_argument_208 fu rc x3 x4 x6 F G = some res) {H : Heap} {locs : List Loc} (hw : mMW s A v a F G H locs) {ls : Array Slot} (hl : lv_has ls 8 [(0, .ref (a 212)), (3, .int x3), (4, .int x4), (6, .int x6)]) : W p l e R s m args below meth c H locs 0 0 Q (F0 m 208 ls []) := by
  have hx := C.1
  have hb := C.2.1
  unfold mb_argument_208 at hm
  refine lv_aload_n hx hb dX12_argument_208 rfl (lv_at hl 0 rfl) ?_
  refine mg_X12_55 C hw dX12_argument_209 ?_
  refine lv_iload hx hb dX12_argument_212 (lv_at hl 3 rfl) ?_
  obtain ⟨hi, hm⟩ := ix_elim hm
  refine mal_22 C hw hi dX12_argument_214 ?_
  refine lv_iload hx hb dX12_argument_215 (lv_at hl 2 rfl) ?_
  refine lv_iconst (v := 2) hx hb dX12_argument_217 (by decide) ?_
  refine lv_icmp_ne (tgt := 225) hx hb dX12_argument_218 (by decide) (fun c_1 => ?_) (fun c_1 => ?_)
  · have hm := (if_neg c_1).symm.trans hm
    exact mw_argument_225 fu rc hr C hret x3 x6 (G 22 x6.toNatClampNeg) F G hm hw (lv_sub hl [0, 1, 3] rfl)
  · have hm := (if_pos c_1).symm.trans hm
    exact mw_argument_221 fu rc hr C hret x3 x6 (G 22 x6.toNatClampNeg) F G hm hw (lv_sub hl [0, 1, 3] rfl)
theorem mw_argument_197 (fu : Nat) (rc : RC) {dd : Nat} (hr : mH1 l v a rc dd) {res : Int32 × PF × PG} (C : mMC p R s m args c A v RX12 cX12_argument 8 (dd + 1 + 3) (60 * (dd + 1) + 64)) (hret : ∀ (H1 : Heap) (locs1 : List Loc) (ls1 : Array Slot) (pc : Nat), mMW s A v a res.2.1 res.2.2 H1 locs1 → narrow .boolean (.int res.1) = .int res.1 → decode cX12_argument pc = .ok (.ireturn, 1) → W p l e R s m args below meth c H1 locs1 0 0 Q (F0 m pc ls1 [.int res.1])) (x3 : Int32) (x4 : Int32) (x6 : Int32) (F : PF) (G : PG) (hm : mb_argument_197 fu rc x3 x4 x6 F G = some res) {H : Heap} {locs : List Loc} (hw : mMW s A v a F G H locs) {ls : Array Slot} (hl : lv_has ls 8 [(0, .ref (a 212)), (3, .int x3), (4, .int x4), (6, .int x6)]) : W p l e R s m args below meth c H locs 0 0 Q (F0 m 197 ls []) := by
  have hx := C.1
  have hb := C.2.1
  unfold mb_argument_197 at hm
  refine lv_aload_n hx hb dX12_argument_197 rfl (lv_at hl 0 rfl) ?_
  refine mg_X12_40 C hw dX12_argument_198 ?_
  refine lv_iload hx hb dX12_argument_201 (lv_at hl 3 rfl) ?_
  obtain ⟨hi, hm⟩ := ix_elim hm
  refine mal_17 C hw hi dX12_argument_203 ?_
  refine lv_iconst (v := 2) hx hb dX12_argument_204 (by decide) ?_
  refine lv_icmp_ne (tgt := 229) hx hb dX12_argument_205 (by decide) (fun c_1 => ?_) (fun c_1 => ?_)
  · have hm := (if_neg c_1).symm.trans hm
    exact mw_argument_229 fu rc hr C hret x3 x6 F G hm hw (lv_sub hl [0, 1, 3] rfl)
  · have hm := (if_pos c_1).symm.trans hm
    exact mw_argument_208 fu rc hr C hret x3 x4 x6 F G hm hw (lv_sub hl [0, 1, 2, 3] rfl)
theorem mw_argument_191 (fu : Nat) (rc : RC) {dd : Nat} (hr : mH1 l v a rc dd) {res : Int32 × PF × PG} (C : mMC p R s m args c A v RX12 cX12_argument 8 (dd + 1 + 3) (60 * (dd + 1) + 64)) (hret : ∀ (H1 : Heap) (locs1 : List Loc) (ls1 : Array Slot) (pc : Nat), mMW s A v a res.2.1 res.2.2 H1 locs1 → narrow .boolean (.int res.1) = .int res.1 → decode cX12_argument pc = .ok (.ireturn, 1) → W p l e R s m args below meth c H1 locs1 0 0 Q (F0 m pc ls1 [.int res.1])) (x3 : Int32) (x4 : Int32) (x6 : Int32) (F : PF) (G : PG) (hm : mb_argument_191 fu rc x3 x4 x6 F G = some res) {H : Heap} {locs : List Loc} (hw : mMW s A v a F G H locs) {ls : Array Slot} (hl : lv_has ls 8 [(0, .ref (a 212)), (3, .int x3), (4, .int x4), (6, .int x6)]) : W p l e R s m args below meth c H locs 0 0 Q (F0 m 191 ls []) := by
  have hx := C.1
  have hb := C.2.1
  unfold mb_argument_191 at hm
  refine lv_iload hx hb dX12_argument_191 (lv_at hl 3 rfl) ?_
  refine lv_iconst (v := (-1)) hx hb dX12_argument_193 (by decide) ?_
  refine lv_icmp_eq (tgt := 229) hx hb dX12_argument_194 (by decide) (fun c_1 => ?_) (fun c_1 => ?_)
  · have hm := (if_pos c_1).symm.trans hm
    exact mw_argument_229 fu rc hr C hret x3 x6 F G hm hw (lv_sub hl [0, 1, 3] rfl)
  · have hm := (if_neg c_1).symm.trans hm
    exact mw_argument_197 fu rc hr C hret x3 x4 x6 F G hm hw (lv_sub hl [0, 1, 2, 3] rfl)
theorem mw_argument_188 (fu : Nat) (rc : RC) {dd : Nat} (hr : mH1 l v a rc dd) {res : Int32 × PF × PG} (C : mMC p R s m args c A v RX12 cX12_argument 8 (dd + 1 + 3) (60 * (dd + 1) + 64)) (hret : ∀ (H1 : Heap) (locs1 : List Loc) (ls1 : Array Slot) (pc : Nat), mMW s A v a res.2.1 res.2.2 H1 locs1 → narrow .boolean (.int res.1) = .int res.1 → decode cX12_argument pc = .ok (.ireturn, 1) → W p l e R s m args below meth c H1 locs1 0 0 Q (F0 m pc ls1 [.int res.1])) (x6 : Int32) (F : PF) (G : PG) (hm : mb_argument_188 fu rc x6 F G = some res) {H : Heap} {locs : List Loc} (hw : mMW s A v a F G H locs) {ls : Array Slot} (hl : lv_has ls 8 [(0, .ref (a 212)), (6, .int x6)]) : W p l e R s m args below meth c H locs 0 0 Q (F0 m 188 ls []) := by
  have hx := C.1
  have hb := C.2.1
  unfold mb_argument_188 at hm
  refine lv_goto (tgt := 236) hx hb dX12_argument_188 (by decide) ?_
  exact mw_argument_236 fu rc hr C hret x6 F G hm hw (lv_sub hl [0, 1] rfl)
theorem mw_argument_182 (fu : Nat) (rc : RC) {dd : Nat} (hr : mH1 l v a rc dd) {res : Int32 × PF × PG} (C : mMC p R s m args c A v RX12 cX12_argument 8 (dd + 1 + 3) (60 * (dd + 1) + 64)) (hret : ∀ (H1 : Heap) (locs1 : List Loc) (ls1 : Array Slot) (pc : Nat), mMW s A v a res.2.1 res.2.2 H1 locs1 → narrow .boolean (.int res.1) = .int res.1 → decode cX12_argument pc = .ok (.ireturn, 1) → W p l e R s m args below meth c H1 locs1 0 0 Q (F0 m pc ls1 [.int res.1])) (x3 : Int32) (x6 : Int32) (F : PF) (G : PG) (hm : mb_argument_182 fu rc x3 x6 F G = some res) {H : Heap} {locs : List Loc} (hw : mMW s A v a F G H locs) {ls : Array Slot} (hl : lv_has ls 8 [(0, .ref (a 212)), (3, .int x3), (6, .int x6)]) : W p l e R s m args below meth c H locs 0 0 Q (F0 m 182 ls []) := by
  have hx := C.1
  have hb := C.2.1
  unfold mb_argument_182 at hm
  refine lv_aload_n hx hb dX12_argument_182 rfl (lv_at hl 0 rfl) ?_
  refine lv_iconst (v := 4) hx hb dX12_argument_183 (by decide) ?_
  refine lv_iload_n hx hb dX12_argument_184 rfl (lv_at hl 1 rfl) ?_
  obtain ⟨⟨r1, F1, G1⟩, hc, hm⟩ := bind_elim hm
  refine mcallV (n := 2) (As := [.int 4, .int x3]) (rest := []) C hw (mk_note l v a _ fu 4 x3 F G r1 F1 G1 hc) (mrecv_X12 C hw) mm_220 mm_221 mm_222 mm_27 mm_223 (by decide +kernel) rfl (by omega) (by omega) hl.1 rfl (Nat.le_of_ble_eq_true rfl) dX12_argument_185 (fun H locs hw => ?_)
  exact mw_argument_188 fu rc hr C hret x6 F1 G1 hm hw (lv_sub hl [0, 2] rfl)
theorem mw_argument_174 (fu : Nat) (rc : RC) {dd : Nat} (hr : mH1 l v a rc dd) {res : Int32 × PF × PG} (C : mMC p R s m args c A v RX12 cX12_argument 8 (dd + 1 + 3) (60 * (dd + 1) + 64)) (hret : ∀ (H1 : Heap) (locs1 : List Loc) (ls1 : Array Slot) (pc : Nat), mMW s A v a res.2.1 res.2.2 H1 locs1 → narrow .boolean (.int res.1) = .int res.1 → decode cX12_argument pc = .ok (.ireturn, 1) → W p l e R s m args below meth c H1 locs1 0 0 Q (F0 m pc ls1 [.int res.1])) (x3 : Int32) (x4 : Int32) (x6 : Int32) (F : PF) (G : PG) (hm : mb_argument_174 fu rc x3 x4 x6 F G = some res) {H : Heap} {locs : List Loc} (hw : mMW s A v a F G H locs) {ls : Array Slot} (hl : lv_has ls 8 [(0, .ref (a 212)), (3, .int x3), (4, .int x4), (6, .int x6)]) : W p l e R s m args below meth c H locs 0 0 Q (F0 m 174 ls []) := by
  have hx := C.1
  have hb := C.2.1
  unfold mb_argument_174 at hm
  refine lv_aload_n hx hb dX12_argument_174 rfl (lv_at hl 0 rfl) ?_
  refine mg_X12_374 C hw dX12_argument_175 ?_
  refine lv_iconst (v := (-1)) hx hb dX12_argument_178 (by decide) ?_
  refine lv_icmp_ne (tgt := 191) hx hb dX12_argument_179 (by decide) (fun c_1 => ?_) (fun c_1 => ?_)
  · have hm := (if_neg c_1).symm.trans hm
    exact mw_argument_191 fu rc hr C hret x3 x4 x6 F G hm hw (lv_sub hl [0, 1, 2, 3] rfl)
  · have hm := (if_pos c_1).symm.trans hm
    exact mw_argument_182 fu rc hr C hret x3 x6 F G hm hw (lv_sub hl [0, 1, 3] rfl)
theorem mw_argument_166 (fu : Nat) (rc : RC) {dd : Nat} (hr : mH1 l v a rc dd) {res : Int32 × PF × PG} (C : mMC p R s m args c A v RX12 cX12_argument 8 (dd + 1 + 3) (60 * (dd + 1) + 64)) (hret : ∀ (H1 : Heap) (locs1 : List Loc) (ls1 : Array Slot) (pc : Nat), mMW s A v a res.2.1 res.2.2 H1 locs1 → narrow .boolean (.int res.1) = .int res.1 → decode cX12_argument pc = .ok (.ireturn, 1) → W p l e R s m args below meth c H1 locs1 0 0 Q (F0 m pc ls1 [.int res.1])) (x3 : Int32) (x4 : Int32) (z0 : Int32) (F : PF) (G : PG) (hm : mb_argument_166 fu rc x3 x4 z0 F G = some res) {H : Heap} {locs : List Loc} (hw : mMW s A v a F G H locs) {ls : Array Slot} (hl : lv_has ls 8 [(0, .ref (a 212)), (3, .int x3), (4, .int x4)]) : W p l e R s m args below meth c H locs 0 0 Q (F0 m 166 ls [.int z0]) := by
  have hx := C.1
  have hb := C.2.1
  unfold mb_argument_166 at hm
  refine lv_istore (lv' := [(6, .int z0), (0, .ref (a 212)), (3, .int x3), (4, .int x4)]) hx hb dX12_argument_166 hl (by decide) rfl (fun ls hl => ?_)
  refine lv_iload hx hb dX12_argument_168 (lv_at hl 0 rfl) ?_
  refine lv_iconst (v := (-1)) hx hb dX12_argument_170 (by decide) ?_
  refine lv_icmp_ne (tgt := 191) hx hb dX12_argument_171 (by decide) (fun c_1 => ?_) (fun c_1 => ?_)
  · have hm := (if_neg c_1).symm.trans hm
    exact mw_argument_191 fu rc hr C hret x3 x4 z0 F G hm hw (lv_sub hl [1, 2, 3, 0] rfl)
  · have hm := (if_pos c_1).symm.trans hm
    exact mw_argument_174 fu rc hr C hret x3 x4 z0 F G hm hw (lv_sub hl [1, 2, 3, 0] rfl)
theorem mw_argument_158 (fu : Nat) (rc : RC) {dd : Nat} (hr : mH1 l v a rc dd) {res : Int32 × PF × PG} (C : mMC p R s m args c A v RX12 cX12_argument 8 (dd + 1 + 3) (60 * (dd + 1) + 64)) (hret : ∀ (H1 : Heap) (locs1 : List Loc) (ls1 : Array Slot) (pc : Nat), mMW s A v a res.2.1 res.2.2 H1 locs1 → narrow .boolean (.int res.1) = .int res.1 → decode cX12_argument pc = .ok (.ireturn, 1) → W p l e R s m args below meth c H1 locs1 0 0 Q (F0 m pc ls1 [.int res.1])) (x3 : Int32) (x4 : Int32) (F : PF) (G : PG) (hm : mb_argument_158 fu rc x3 x4 F G = some res) {H : Heap} {locs : List Loc} (hw : mMW s A v a F G H locs) {ls : Array Slot} (hl : lv_has ls 8 [(0, .ref (a 212)), (3, .int x3), (4, .int x4)]) : W p l e R s m args below meth c H locs 0 0 Q (F0 m 158 ls []) := by
  have hx := C.1
  have hb := C.2.1
  unfold mb_argument_158 at hm
  refine lv_aload_n hx hb dX12_argument_158 rfl (lv_at hl 0 rfl) ?_
  refine lv_aload_n hx hb dX12_argument_159 rfl (lv_at hl 0 rfl) ?_
  refine mg_X12_233 C hw dX12_argument_160 ?_
  obtain ⟨⟨r1, F1, G1⟩, hc, hm⟩ := bind_elim hm
  refine mcallI (n := 1) (As := [.int (F 42)]) (rest := []) C hw (mk_meaning l v a _ fu (F 42) F G r1 F1 G1 hc) (mrecv_X12 C hw) mm_232 mm_233 mm_234 mm_27 mm_235 (by decide +kernel) rfl (by omega) (by omega) hl.1 rfl (Nat.le_of_ble_eq_true rfl) dX12_argument_163 (fun H locs hw => ?_)
  exact mw_argument_166 fu rc hr C hret x3 x4 r1 F1 G1 hm hw (lv_sub hl [0, 1, 2] rfl)
theorem mw_argument_157 (fu : Nat) (rc : RC) {dd : Nat} (hr : mH1 l v a rc dd) {res : Int32 × PF × PG} (C : mMC p R s m args c A v RX12 cX12_argument 8 (dd + 1 + 3) (60 * (dd + 1) + 64)) (hret : ∀ (H1 : Heap) (locs1 : List Loc) (ls1 : Array Slot) (pc : Nat), mMW s A v a res.2.1 res.2.2 H1 locs1 → narrow .boolean (.int res.1) = .int res.1 → decode cX12_argument pc = .ok (.ireturn, 1) → W p l e R s m args below meth c H1 locs1 0 0 Q (F0 m pc ls1 [.int res.1])) (z0 : Int32) (F : PF) (G : PG) (hm : mb_argument_157 fu rc z0 F G = some res) {H : Heap} {locs : List Loc} (hw : mMW s A v a F G H locs) {ls : Array Slot} (hl : lv_has ls 8 []) : W p l e R s m args below meth c H locs 0 0 Q (F0 m 157 ls [.int z0]) := by
  have hx := C.1
  have hb := C.2.1
  unfold mb_argument_157 at hm
  obtain ⟨hz, hm⟩ := b01_elim hm
  obtain rfl := Option.some.inj hm
  exact hret _ _ _ _ hw (b01_nar hz) dX12_argument_157
theorem mw_argument_153 (fu : Nat) (rc : RC) {dd : Nat} (hr : mH1 l v a rc dd) {res : Int32 × PF × PG} (C : mMC p R s m args c A v RX12 cX12_argument 8 (dd + 1 + 3) (60 * (dd + 1) + 64)) (hret : ∀ (H1 : Heap) (locs1 : List Loc) (ls1 : Array Slot) (pc : Nat), mMW s A v a res.2.1 res.2.2 H1 locs1 → narrow .boolean (.int res.1) = .int res.1 → decode cX12_argument pc = .ok (.ireturn, 1) → W p l e R s m args below meth c H1 locs1 0 0 Q (F0 m pc ls1 [.int res.1])) (F : PF) (G : PG) (hm : mb_argument_153 fu rc F G = some res) {H : Heap} {locs : List Loc} (hw : mMW s A v a F G H locs) {ls : Array Slot} (hl : lv_has ls 8 [(0, .ref (a 212))]) : W p l e R s m args below meth c H locs 0 0 Q (F0 m 153 ls []) := by
  have hx := C.1
  have hb := C.2.1
  unfold mb_argument_153 at hm
  refine lv_aload_n hx hb dX12_argument_153 rfl (lv_at hl 0 rfl) ?_
  obtain ⟨⟨r1, F1, G1⟩, hc, hm⟩ := bind_elim hm
  refine mcallI (n := 0) (As := []) (rest := []) C hw (hr.2.2.2.2.1 _ F G r1 F1 G1 hc) (mrecv_X12 C hw) mm_191 mm_192 mm_193 mm_27 mm_194 (by decide +kernel) rfl (by omega) (by omega) hl.1 rfl (Nat.le_of_ble_eq_true rfl) dX12_argument_154 (fun H locs hw => ?_)
  exact mw_argument_157 fu rc hr C hret r1 F1 G1 hm hw (lv_sub hl [] rfl)
theorem mw_argument_146 (fu : Nat) (rc : RC) {dd : Nat} (hr : mH1 l v a rc dd) {res : Int32 × PF × PG} (C : mMC p R s m args c A v RX12 cX12_argument 8 (dd + 1 + 3) (60 * (dd + 1) + 64)) (hret : ∀ (H1 : Heap) (locs1 : List Loc) (ls1 : Array Slot) (pc : Nat), mMW s A v a res.2.1 res.2.2 H1 locs1 → narrow .boolean (.int res.1) = .int res.1 → decode cX12_argument pc = .ok (.ireturn, 1) → W p l e R s m args below meth c H1 locs1 0 0 Q (F0 m pc ls1 [.int res.1])) (x3 : Int32) (F : PF) (G : PG) (hm : mb_argument_146 fu rc x3 F G = some res) {H : Heap} {locs : List Loc} (hw : mMW s A v a F G H locs) {ls : Array Slot} (hl : lv_has ls 8 [(0, .ref (a 212)), (3, .int x3)]) : W p l e R s m args below meth c H locs 0 0 Q (F0 m 146 ls []) := by
  have hx := C.1
  have hb := C.2.1
  unfold mb_argument_146 at hm
  refine lv_aload_n hx hb dX12_argument_146 rfl (lv_at hl 0 rfl) ?_
  refine lv_bipush (v := 7) hx hb dX12_argument_147 (by decide) ?_
  refine lv_iload_n hx hb dX12_argument_149 rfl (lv_at hl 1 rfl) ?_
  obtain ⟨⟨r1, F1, G1⟩, hc, hm⟩ := bind_elim hm
  refine mcallV (n := 2) (As := [.int 7, .int x3]) (rest := []) C hw (mk_note l v a _ fu 7 x3 F G r1 F1 G1 hc) (mrecv_X12 C hw) mm_220 mm_221 mm_222 mm_27 mm_223 (by decide +kernel) rfl (by omega) (by omega) hl.1 rfl (Nat.le_of_ble_eq_true rfl) dX12_argument_150 (fun H locs hw => ?_)
  exact mw_argument_153 fu rc hr C hret F1 G1 hm hw (lv_sub hl [0] rfl)
theorem mw_argument_139 (fu : Nat) (rc : RC) {dd : Nat} (hr : mH1 l v a rc dd) {res : Int32 × PF × PG} (C : mMC p R s m args c A v RX12 cX12_argument 8 (dd + 1 + 3) (60 * (dd + 1) + 64)) (hret : ∀ (H1 : Heap) (locs1 : List Loc) (ls1 : Array Slot) (pc : Nat), mMW s A v a res.2.1 res.2.2 H1 locs1 → narrow .boolean (.int res.1) = .int res.1 → decode cX12_argument pc = .ok (.ireturn, 1) → W p l e R s m args below meth c H1 locs1 0 0 Q (F0 m pc ls1 [.int res.1])) (x3 : Int32) (x4 : Int32) (z0 : Int32) (F : PF) (G : PG) (hm : mb_argument_139 fu rc x3 x4 z0 F G = some res) {H : Heap} {locs : List Loc} (hw : mMW s A v a F G H locs) {ls : Array Slot} (hl : lv_has ls 8 [(0, .ref (a 212)), (3, .int x3), (4, .int x4)]) : W p l e R s m args below meth c H locs 0 0 Q (F0 m 139 ls [.int z0]) := by
  have hx := C.1
  have hb := C.2.1
  unfold mb_argument_139 at hm
  refine lv_istore (lv' := [(5, .int z0), (0, .ref (a 212)), (3, .int x3), (4, .int x4)]) hx hb dX12_argument_139 hl (by decide) rfl (fun ls hl => ?_)
  refine lv_iload hx hb dX12_argument_141 (lv_at hl 0 rfl) ?_
  refine lv_if_ne (tgt := 158) hx hb dX12_argument_143 (by decide) (fun c_1 => ?_) (fun c_1 => ?_)
  · have hm := (if_neg c_1).symm.trans hm
    exact mw_argument_158 fu rc hr C hret x3 x4 F G hm hw (lv_sub hl [1, 2, 3] rfl)
  · have hm := (if_pos c_1).symm.trans hm
    exact mw_argument_146 fu rc hr C hret x3 F G hm hw (lv_sub hl [1, 2] rfl)
theorem mw_argument_138 (fu : Nat) (rc : RC) {dd : Nat} (hr : mH1 l v a rc dd) {res : Int32 × PF × PG} (C : mMC p R s m args c A v RX12 cX12_argument 8 (dd + 1 + 3) (60 * (dd + 1) + 64)) (hret : ∀ (H1 : Heap) (locs1 : List Loc) (ls1 : Array Slot) (pc : Nat), mMW s A v a res.2.1 res.2.2 H1 locs1 → narrow .boolean (.int res.1) = .int res.1 → decode cX12_argument pc = .ok (.ireturn, 1) → W p l e R s m args below meth c H1 locs1 0 0 Q (F0 m pc ls1 [.int res.1])) (x3 : Int32) (x4 : Int32) (F : PF) (G : PG) (hm : mb_argument_138 fu rc x3 x4 F G = some res) {H : Heap} {locs : List Loc} (hw : mMW s A v a F G H locs) {ls : Array Slot} (hl : lv_has ls 8 [(0, .ref (a 212)), (3, .int x3), (4, .int x4)]) : W p l e R s m args below meth c H locs 0 0 Q (F0 m 138 ls []) := by
  have hx := C.1
  have hb := C.2.1
  unfold mb_argument_138 at hm
  refine lv_iconst (v := 0) hx hb dX12_argument_138 (by decide) ?_
  exact mw_argument_139 fu rc hr C hret x3 x4 0 F G hm hw (lv_sub hl [0, 1, 2] rfl)
theorem mw_argument_134 (fu : Nat) (rc : RC) {dd : Nat} (hr : mH1 l v a rc dd) {res : Int32 × PF × PG} (C : mMC p R s m args c A v RX12 cX12_argument 8 (dd + 1 + 3) (60 * (dd + 1) + 64)) (hret : ∀ (H1 : Heap) (locs1 : List Loc) (ls1 : Array Slot) (pc : Nat), mMW s A v a res.2.1 res.2.2 H1 locs1 → narrow .boolean (.int res.1) = .int res.1 → decode cX12_argument pc = .ok (.ireturn, 1) → W p l e R s m args below meth c H1 locs1 0 0 Q (F0 m pc ls1 [.int res.1])) (x3 : Int32) (x4 : Int32) (F : PF) (G : PG) (hm : mb_argument_134 fu rc x3 x4 F G = some res) {H : Heap} {locs : List Loc} (hw : mMW s A v a F G H locs) {ls : Array Slot} (hl : lv_has ls 8 [(0, .ref (a 212)), (3, .int x3), (4, .int x4)]) : W p l e R s m args below meth c H locs 0 0 Q (F0 m 134 ls []) := by
  have hx := C.1
  have hb := C.2.1
  unfold mb_argument_134 at hm
  refine lv_iconst (v := 1) hx hb dX12_argument_134 (by decide) ?_
  refine lv_goto (tgt := 139) hx hb dX12_argument_135 (by decide) ?_
  exact mw_argument_139 fu rc hr C hret x3 x4 1 F G hm hw (lv_sub hl [0, 1, 2] rfl)
theorem mw_argument_118 (fu : Nat) (rc : RC) {dd : Nat} (hr : mH1 l v a rc dd) {res : Int32 × PF × PG} (C : mMC p R s m args c A v RX12 cX12_argument 8 (dd + 1 + 3) (60 * (dd + 1) + 64)) (hret : ∀ (H1 : Heap) (locs1 : List Loc) (ls1 : Array Slot) (pc : Nat), mMW s A v a res.2.1 res.2.2 H1 locs1 → narrow .boolean (.int res.1) = .int res.1 → decode cX12_argument pc = .ok (.ireturn, 1) → W p l e R s m args below meth c H1 locs1 0 0 Q (F0 m pc ls1 [.int res.1])) (x3 : Int32) (x4 : Int32) (F : PF) (G : PG) (hm : mb_argument_118 fu rc x3 x4 F G = some res) {H : Heap} {locs : List Loc} (hw : mMW s A v a F G H locs) {ls : Array Slot} (hl : lv_has ls 8 [(0, .ref (a 212)), (3, .int x3), (4, .int x4)]) : W p l e R s m args below meth c H locs 0 0 Q (F0 m 118 ls []) := by
  have hx := C.1
  have hb := C.2.1
  unfold mb_argument_118 at hm
  refine lv_aload_n hx hb dX12_argument_118 rfl (lv_at hl 0 rfl) ?_
  refine mg_X12_19 C hw dX12_argument_119 ?_
  refine lv_aload_n hx hb dX12_argument_122 rfl (lv_at hl 0 rfl) ?_
  refine mg_X12_233 C hw dX12_argument_123 ?_
  refine lv_iconst (v := 1) hx hb dX12_argument_126 (by decide) ?_
  refine lv_iadd hx hb dX12_argument_127 ?_
  obtain ⟨hi, hm⟩ := ix_elim hm
  refine mal_5 C hw hi dX12_argument_128 ?_
  refine lv_bipush (v := 23) hx hb dX12_argument_129 (by decide) ?_
  refine lv_icmp_ne (tgt := 138) hx hb dX12_argument_131 (by decide) (fun c_1 => ?_) (fun c_1 => ?_)
  · have hm := (if_neg c_1).symm.trans hm
    exact mw_argument_138 fu rc hr C hret x3 x4 F G hm hw (lv_sub hl [0, 1, 2] rfl)
  · have hm := (if_pos c_1).symm.trans hm
    exact mw_argument_134 fu rc hr C hret x3 x4 F G hm hw (lv_sub hl [0, 1, 2] rfl)
theorem mw_argument_102 (fu : Nat) (rc : RC) {dd : Nat} (hr : mH1 l v a rc dd) {res : Int32 × PF × PG} (C : mMC p R s m args c A v RX12 cX12_argument 8 (dd + 1 + 3) (60 * (dd + 1) + 64)) (hret : ∀ (H1 : Heap) (locs1 : List Loc) (ls1 : Array Slot) (pc : Nat), mMW s A v a res.2.1 res.2.2 H1 locs1 → narrow .boolean (.int res.1) = .int res.1 → decode cX12_argument pc = .ok (.ireturn, 1) → W p l e R s m args below meth c H1 locs1 0 0 Q (F0 m pc ls1 [.int res.1])) (x3 : Int32) (x4 : Int32) (F : PF) (G : PG) (hm : mb_argument_102 fu rc x3 x4 F G = some res) {H : Heap} {locs : List Loc} (hw : mMW s A v a F G H locs) {ls : Array Slot} (hl : lv_has ls 8 [(0, .ref (a 212)), (3, .int x3), (4, .int x4)]) : W p l e R s m args below meth c H locs 0 0 Q (F0 m 102 ls []) := by
  have hx := C.1
  have hb := C.2.1
  unfold mb_argument_102 at hm
  refine lv_aload_n hx hb dX12_argument_102 rfl (lv_at hl 0 rfl) ?_
  refine mg_X12_19 C hw dX12_argument_103 ?_
  refine lv_aload_n hx hb dX12_argument_106 rfl (lv_at hl 0 rfl) ?_
  refine mg_X12_233 C hw dX12_argument_107 ?_
  refine lv_iconst (v := 1) hx hb dX12_argument_110 (by decide) ?_
  refine lv_iadd hx hb dX12_argument_111 ?_
  obtain ⟨hi, hm⟩ := ix_elim hm
  refine mal_5 C hw hi dX12_argument_112 ?_
  refine lv_bipush (v := 28) hx hb dX12_argument_113 (by decide) ?_
  refine lv_icmp_eq (tgt := 134) hx hb dX12_argument_115 (by decide) (fun c_1 => ?_) (fun c_1 => ?_)
  · have hm := (if_pos c_1).symm.trans hm
    exact mw_argument_134 fu rc hr C hret x3 x4 F G hm hw (lv_sub hl [0, 1, 2] rfl)
  · have hm := (if_neg c_1).symm.trans hm
    exact mw_argument_118 fu rc hr C hret x3 x4 F G hm hw (lv_sub hl [0, 1, 2] rfl)
theorem mw_argument_87 (fu : Nat) (rc : RC) {dd : Nat} (hr : mH1 l v a rc dd) {res : Int32 × PF × PG} (C : mMC p R s m args c A v RX12 cX12_argument 8 (dd + 1 + 3) (60 * (dd + 1) + 64)) (hret : ∀ (H1 : Heap) (locs1 : List Loc) (ls1 : Array Slot) (pc : Nat), mMW s A v a res.2.1 res.2.2 H1 locs1 → narrow .boolean (.int res.1) = .int res.1 → decode cX12_argument pc = .ok (.ireturn, 1) → W p l e R s m args below meth c H1 locs1 0 0 Q (F0 m pc ls1 [.int res.1])) (x3 : Int32) (x4 : Int32) (F : PF) (G : PG) (hm : mb_argument_87 fu rc x3 x4 F G = some res) {H : Heap} {locs : List Loc} (hw : mMW s A v a F G H locs) {ls : Array Slot} (hl : lv_has ls 8 [(0, .ref (a 212)), (3, .int x3), (4, .int x4)]) : W p l e R s m args below meth c H locs 0 0 Q (F0 m 87 ls []) := by
  have hx := C.1
  have hb := C.2.1
  unfold mb_argument_87 at hm
  refine lv_aload_n hx hb dX12_argument_87 rfl (lv_at hl 0 rfl) ?_
  refine mg_X12_16 C hw dX12_argument_88 ?_
  refine lv_aload_n hx hb dX12_argument_91 rfl (lv_at hl 0 rfl) ?_
  refine mg_X12_233 C hw dX12_argument_92 ?_
  refine lv_iconst (v := 1) hx hb dX12_argument_95 (by decide) ?_
  refine lv_iadd hx hb dX12_argument_96 ?_
  obtain ⟨hi, hm⟩ := ix_elim hm
  refine mal_4 C hw hi dX12_argument_97 ?_
  refine lv_iconst (v := 4) hx hb dX12_argument_98 (by decide) ?_
  refine lv_icmp_ne (tgt := 138) hx hb dX12_argument_99 (by decide) (fun c_1 => ?_) (fun c_1 => ?_)
  · have hm := (if_neg c_1).symm.trans hm
    exact mw_argument_138 fu rc hr C hret x3 x4 F G hm hw (lv_sub hl [0, 1, 2] rfl)
  · have hm := (if_pos c_1).symm.trans hm
    exact mw_argument_102 fu rc hr C hret x3 x4 F G hm hw (lv_sub hl [0, 1, 2] rfl)
theorem mw_argument_74 (fu : Nat) (rc : RC) {dd : Nat} (hr : mH1 l v a rc dd) {res : Int32 × PF × PG} (C : mMC p R s m args c A v RX12 cX12_argument 8 (dd + 1 + 3) (60 * (dd + 1) + 64)) (hret : ∀ (H1 : Heap) (locs1 : List Loc) (ls1 : Array Slot) (pc : Nat), mMW s A v a res.2.1 res.2.2 H1 locs1 → narrow .boolean (.int res.1) = .int res.1 → decode cX12_argument pc = .ok (.ireturn, 1) → W p l e R s m args below meth c H1 locs1 0 0 Q (F0 m pc ls1 [.int res.1])) (x3 : Int32) (x4 : Int32) (F : PF) (G : PG) (hm : mb_argument_74 fu rc x3 x4 F G = some res) {H : Heap} {locs : List Loc} (hw : mMW s A v a F G H locs) {ls : Array Slot} (hl : lv_has ls 8 [(0, .ref (a 212)), (3, .int x3), (4, .int x4)]) : W p l e R s m args below meth c H locs 0 0 Q (F0 m 74 ls []) := by
  have hx := C.1
  have hb := C.2.1
  unfold mb_argument_74 at hm
  refine lv_aload_n hx hb dX12_argument_74 rfl (lv_at hl 0 rfl) ?_
  refine mg_X12_16 C hw dX12_argument_75 ?_
  refine lv_aload_n hx hb dX12_argument_78 rfl (lv_at hl 0 rfl) ?_
  refine mg_X12_233 C hw dX12_argument_79 ?_
  obtain ⟨hi, hm⟩ := ix_elim hm
  refine mal_4 C hw hi dX12_argument_82 ?_
  refine lv_iconst (v := 1) hx hb dX12_argument_83 (by decide) ?_
  refine lv_icmp_ne (tgt := 138) hx hb dX12_argument_84 (by decide) (fun c_1 => ?_) (fun c_1 => ?_)
  · have hm := (if_neg c_1).symm.trans hm
    exact mw_argument_138 fu rc hr C hret x3 x4 F G hm hw (lv_sub hl [0, 1, 2] rfl)
  · have hm := (if_pos c_1).symm.trans hm
    exact mw_argument_87 fu rc hr C hret x3 x4 F G hm hw (lv_sub hl [0, 1, 2] rfl)
theorem mw_argument_73 (fu : Nat) (rc : RC) {dd : Nat} (hr : mH1 l v a rc dd) {res : Int32 × PF × PG} (C : mMC p R s m args c A v RX12 cX12_argument 8 (dd + 1 + 3) (60 * (dd + 1) + 64)) (hret : ∀ (H1 : Heap) (locs1 : List Loc) (ls1 : Array Slot) (pc : Nat), mMW s A v a res.2.1 res.2.2 H1 locs1 → narrow .boolean (.int res.1) = .int res.1 → decode cX12_argument pc = .ok (.ireturn, 1) → W p l e R s m args below meth c H1 locs1 0 0 Q (F0 m pc ls1 [.int res.1])) (z0 : Int32) (F : PF) (G : PG) (hm : mb_argument_73 fu rc z0 F G = some res) {H : Heap} {locs : List Loc} (hw : mMW s A v a F G H locs) {ls : Array Slot} (hl : lv_has ls 8 []) : W p l e R s m args below meth c H locs 0 0 Q (F0 m 73 ls [.int z0]) := by
  have hx := C.1
  have hb := C.2.1
  unfold mb_argument_73 at hm
  obtain ⟨hz, hm⟩ := b01_elim hm
  obtain rfl := Option.some.inj hm
  exact hret _ _ _ _ hw (b01_nar hz) dX12_argument_73
theorem mw_argument_69 (fu : Nat) (rc : RC) {dd : Nat} (hr : mH1 l v a rc dd) {res : Int32 × PF × PG} (C : mMC p R s m args c A v RX12 cX12_argument 8 (dd + 1 + 3) (60 * (dd + 1) + 64)) (hret : ∀ (H1 : Heap) (locs1 : List Loc) (ls1 : Array Slot) (pc : Nat), mMW s A v a res.2.1 res.2.2 H1 locs1 → narrow .boolean (.int res.1) = .int res.1 → decode cX12_argument pc = .ok (.ireturn, 1) → W p l e R s m args below meth c H1 locs1 0 0 Q (F0 m pc ls1 [.int res.1])) (F : PF) (G : PG) (hm : mb_argument_69 fu rc F G = some res) {H : Heap} {locs : List Loc} (hw : mMW s A v a F G H locs) {ls : Array Slot} (hl : lv_has ls 8 [(0, .ref (a 212))]) : W p l e R s m args below meth c H locs 0 0 Q (F0 m 69 ls []) := by
  have hx := C.1
  have hb := C.2.1
  unfold mb_argument_69 at hm
  refine lv_aload_n hx hb dX12_argument_69 rfl (lv_at hl 0 rfl) ?_
  obtain ⟨⟨r1, F1, G1⟩, hc, hm⟩ := bind_elim hm
  refine mcallI (n := 0) (As := []) (rest := []) C hw (hr.2.2.2.2.1 _ F G r1 F1 G1 hc) (mrecv_X12 C hw) mm_191 mm_192 mm_193 mm_27 mm_194 (by decide +kernel) rfl (by omega) (by omega) hl.1 rfl (Nat.le_of_ble_eq_true rfl) dX12_argument_70 (fun H locs hw => ?_)
  exact mw_argument_73 fu rc hr C hret r1 F1 G1 hm hw (lv_sub hl [] rfl)
theorem mw_argument_49 (fu : Nat) (rc : RC) {dd : Nat} (hr : mH1 l v a rc dd) {res : Int32 × PF × PG} (C : mMC p R s m args c A v RX12 cX12_argument 8 (dd + 1 + 3) (60 * (dd + 1) + 64)) (hret : ∀ (H1 : Heap) (locs1 : List Loc) (ls1 : Array Slot) (pc : Nat), mMW s A v a res.2.1 res.2.2 H1 locs1 → narrow .boolean (.int res.1) = .int res.1 → decode cX12_argument pc = .ok (.ireturn, 1) → W p l e R s m args below meth c H1 locs1 0 0 Q (F0 m pc ls1 [.int res.1])) (x1 : Int32) (x2 : Int32) (x3 : Int32) (F : PF) (G : PG) (hm : mb_argument_49 fu rc x1 x2 x3 F G = some res) {H : Heap} {locs : List Loc} (hw : mMW s A v a F G H locs) {ls : Array Slot} (hl : lv_has ls 8 [(0, .ref (a 212)), (1, .int x1), (2, .int x2), (3, .int x3)]) : W p l e R s m args below meth c H locs 0 0 Q (F0 m 49 ls []) := by
  have hx := C.1
  have hb := C.2.1
  unfold mb_argument_49 at hm
  refine lv_aload_n hx hb dX12_argument_49 rfl (lv_at hl 0 rfl) ?_
  refine mg_X12_89 C hw dX12_argument_50 ?_
  refine lv_aload_n hx hb dX12_argument_53 rfl (lv_at hl 0 rfl) ?_
  refine mg_X12_80 C hw dX12_argument_54 ?_
  refine lv_iload_n hx hb dX12_argument_57 rfl (lv_at hl 1 rfl) ?_
  obtain ⟨hi, hm⟩ := ix_elim hm
  refine mal_31 C hw hi dX12_argument_58 ?_
  refine lv_iload_n hx hb dX12_argument_59 rfl (lv_at hl 2 rfl) ?_
  refine lv_iadd hx hb dX12_argument_60 ?_
  obtain ⟨hi, hm⟩ := ix_elim hm
  refine mal_34 C hw hi dX12_argument_61 ?_
  refine lv_istore (lv' := [(4, .int (G 34 ((G 31 x1.toNatClampNeg) + x2).toNatClampNeg)), (0, .ref (a 212)), (1, .int x1), (2, .int x2), (3, .int x3)]) hx hb dX12_argument_62 hl (by decide) rfl (fun ls hl => ?_)
  refine lv_iload hx hb dX12_argument_64 (lv_at hl 0 rfl) ?_
  refine lv_if_ne (tgt := 74) hx hb dX12_argument_66 (by decide) (fun c_1 => ?_) (fun c_1 => ?_)
  · have hm := (if_neg c_1).symm.trans hm
    exact mw_argument_74 fu rc hr C hret x3 (G 34 ((G 31 x1.toNatClampNeg) + x2).toNatClampNeg) F G hm hw (lv_sub hl [1, 4, 0] rfl)
  · have hm := (if_pos c_1).symm.trans hm
    exact mw_argument_69 fu rc hr C hret F G hm hw (lv_sub hl [1] rfl)
theorem mw_argument_48 (fu : Nat) (rc : RC) {dd : Nat} (hr : mH1 l v a rc dd) {res : Int32 × PF × PG} (C : mMC p R s m args c A v RX12 cX12_argument 8 (dd + 1 + 3) (60 * (dd + 1) + 64)) (hret : ∀ (H1 : Heap) (locs1 : List Loc) (ls1 : Array Slot) (pc : Nat), mMW s A v a res.2.1 res.2.2 H1 locs1 → narrow .boolean (.int res.1) = .int res.1 → decode cX12_argument pc = .ok (.ireturn, 1) → W p l e R s m args below meth c H1 locs1 0 0 Q (F0 m pc ls1 [.int res.1])) (z0 : Int32) (F : PF) (G : PG) (hm : mb_argument_48 fu rc z0 F G = some res) {H : Heap} {locs : List Loc} (hw : mMW s A v a F G H locs) {ls : Array Slot} (hl : lv_has ls 8 []) : W p l e R s m args below meth c H locs 0 0 Q (F0 m 48 ls [.int z0]) := by
  have hx := C.1
  have hb := C.2.1
  unfold mb_argument_48 at hm
  obtain ⟨hz, hm⟩ := b01_elim hm
  obtain rfl := Option.some.inj hm
  exact hret _ _ _ _ hw (b01_nar hz) dX12_argument_48
theorem mw_argument_44 (fu : Nat) (rc : RC) {dd : Nat} (hr : mH1 l v a rc dd) {res : Int32 × PF × PG} (C : mMC p R s m args c A v RX12 cX12_argument 8 (dd + 1 + 3) (60 * (dd + 1) + 64)) (hret : ∀ (H1 : Heap) (locs1 : List Loc) (ls1 : Array Slot) (pc : Nat), mMW s A v a res.2.1 res.2.2 H1 locs1 → narrow .boolean (.int res.1) = .int res.1 → decode cX12_argument pc = .ok (.ireturn, 1) → W p l e R s m args below meth c H1 locs1 0 0 Q (F0 m pc ls1 [.int res.1])) (F : PF) (G : PG) (hm : mb_argument_44 fu rc F G = some res) {H : Heap} {locs : List Loc} (hw : mMW s A v a F G H locs) {ls : Array Slot} (hl : lv_has ls 8 [(0, .ref (a 212))]) : W p l e R s m args below meth c H locs 0 0 Q (F0 m 44 ls []) := by
  have hx := C.1
  have hb := C.2.1
  unfold mb_argument_44 at hm
  refine lv_aload_n hx hb dX12_argument_44 rfl (lv_at hl 0 rfl) ?_
  obtain ⟨⟨r1, F1, G1⟩, hc, hm⟩ := bind_elim hm
  refine mcallI (n := 0) (As := []) (rest := []) C hw (hr.2.2.2.2.1 _ F G r1 F1 G1 hc) (mrecv_X12 C hw) mm_191 mm_192 mm_193 mm_27 mm_194 (by decide +kernel) rfl (by omega) (by omega) hl.1 rfl (Nat.le_of_ble_eq_true rfl) dX12_argument_45 (fun H locs hw => ?_)
  exact mw_argument_48 fu rc hr C hret r1 F1 G1 hm hw (lv_sub hl [] rfl)
theorem mw_argument_37 (fu : Nat) (rc : RC) {dd : Nat} (hr : mH1 l v a rc dd) {res : Int32 × PF × PG} (C : mMC p R s m args c A v RX12 cX12_argument 8 (dd + 1 + 3) (60 * (dd + 1) + 64)) (hret : ∀ (H1 : Heap) (locs1 : List Loc) (ls1 : Array Slot) (pc : Nat), mMW s A v a res.2.1 res.2.2 H1 locs1 → narrow .boolean (.int res.1) = .int res.1 → decode cX12_argument pc = .ok (.ireturn, 1) → W p l e R s m args below meth c H1 locs1 0 0 Q (F0 m pc ls1 [.int res.1])) (x3 : Int32) (F : PF) (G : PG) (hm : mb_argument_37 fu rc x3 F G = some res) {H : Heap} {locs : List Loc} (hw : mMW s A v a F G H locs) {ls : Array Slot} (hl : lv_has ls 8 [(0, .ref (a 212)), (3, .int x3)]) : W p l e R s m args below meth c H locs 0 0 Q (F0 m 37 ls []) := by
  have hx := C.1
  have hb := C.2.1
  unfold mb_argument_37 at hm
  refine lv_aload_n hx hb dX12_argument_37 rfl (lv_at hl 0 rfl) ?_
  refine lv_bipush (v := 7) hx hb dX12_argument_38 (by decide) ?_
  refine lv_iload_n hx hb dX12_argument_40 rfl (lv_at hl 1 rfl) ?_
  obtain ⟨⟨r1, F1, G1⟩, hc, hm⟩ := bind_elim hm
  refine mcallV (n := 2) (As := [.int 7, .int x3]) (rest := []) C hw (mk_note l v a _ fu 7 x3 F G r1 F1 G1 hc) (mrecv_X12 C hw) mm_220 mm_221 mm_222 mm_27 mm_223 (by decide +kernel) rfl (by omega) (by omega) hl.1 rfl (Nat.le_of_ble_eq_true rfl) dX12_argument_41 (fun H locs hw => ?_)
  exact mw_argument_44 fu rc hr C hret F1 G1 hm hw (lv_sub hl [0] rfl)
theorem mw_argument_17 (fu : Nat) (rc : RC) {dd : Nat} (hr : mH1 l v a rc dd) {res : Int32 × PF × PG} (C : mMC p R s m args c A v RX12 cX12_argument 8 (dd + 1 + 3) (60 * (dd + 1) + 64)) (hret : ∀ (H1 : Heap) (locs1 : List Loc) (ls1 : Array Slot) (pc : Nat), mMW s A v a res.2.1 res.2.2 H1 locs1 → narrow .boolean (.int res.1) = .int res.1 → decode cX12_argument pc = .ok (.ireturn, 1) → W p l e R s m args below meth c H1 locs1 0 0 Q (F0 m pc ls1 [.int res.1])) (x1 : Int32) (x2 : Int32) (F : PF) (G : PG) (hm : mb_argument_17 fu rc x1 x2 F G = some res) {H : Heap} {locs : List Loc} (hw : mMW s A v a F G H locs) {ls : Array Slot} (hl : lv_has ls 8 [(0, .ref (a 212)), (1, .int x1), (2, .int x2)]) : W p l e R s m args below meth c H locs 0 0 Q (F0 m 17 ls []) := by
  have hx := C.1
  have hb := C.2.1
  unfold mb_argument_17 at hm
  refine lv_aload_n hx hb dX12_argument_17 rfl (lv_at hl 0 rfl) ?_
  refine mg_X12_22 C hw dX12_argument_18 ?_
  refine lv_aload_n hx hb dX12_argument_21 rfl (lv_at hl 0 rfl) ?_
  refine mg_X12_233 C hw dX12_argument_22 ?_
  obtain ⟨hi, hm⟩ := ix_elim hm
  refine mal_6 C hw hi dX12_argument_25 ?_
  refine lv_istore_n (lv' := [(3, .int (G 6 (F 42).toNatClampNeg)), (0, .ref (a 212)), (1, .int x1), (2, .int x2)]) hx hb dX12_argument_26 rfl hl (by decide) rfl (fun ls hl => ?_)
  refine lv_iload_n hx hb dX12_argument_27 rfl (lv_at hl 3 rfl) ?_
  refine lv_aload_n hx hb dX12_argument_28 rfl (lv_at hl 1 rfl) ?_
  refine mg_X12_68 C hw dX12_argument_29 ?_
  refine lv_iload_n hx hb dX12_argument_32 rfl (lv_at hl 2 rfl) ?_
  obtain ⟨hi, hm⟩ := ix_elim hm
  refine mal_27 C hw hi dX12_argument_33 ?_
  refine lv_icmp_lt (tgt := 49) hx hb dX12_argument_34 (by decide) (fun c_1 => ?_) (fun c_1 => ?_)
  · have hm := (if_pos c_1).symm.trans hm
    exact mw_argument_49 fu rc hr C hret x1 x2 (G 6 (F 42).toNatClampNeg) F G hm hw (lv_sub hl [1, 2, 3, 0] rfl)
  · have hm := (if_neg c_1).symm.trans hm
    exact mw_argument_37 fu rc hr C hret (G 6 (F 42).toNatClampNeg) F G hm hw (lv_sub hl [1, 0] rfl)
theorem mw_argument_7 (fu : Nat) (rc : RC) {dd : Nat} (hr : mH1 l v a rc dd) {res : Int32 × PF × PG} (C : mMC p R s m args c A v RX12 cX12_argument 8 (dd + 1 + 3) (60 * (dd + 1) + 64)) (hret : ∀ (H1 : Heap) (locs1 : List Loc) (ls1 : Array Slot) (pc : Nat), mMW s A v a res.2.1 res.2.2 H1 locs1 → narrow .boolean (.int res.1) = .int res.1 → decode cX12_argument pc = .ok (.ireturn, 1) → W p l e R s m args below meth c H1 locs1 0 0 Q (F0 m pc ls1 [.int res.1])) (x1 : Int32) (x2 : Int32) (F : PF) (G : PG) (hm : mb_argument_7 fu rc x1 x2 F G = some res) {H : Heap} {locs : List Loc} (hw : mMW s A v a F G H locs) {ls : Array Slot} (hl : lv_has ls 8 [(0, .ref (a 212)), (1, .int x1), (2, .int x2)]) : W p l e R s m args below meth c H locs 0 0 Q (F0 m 7 ls []) := by
  have hx := C.1
  have hb := C.2.1
  unfold mb_argument_7 at hm
  refine lv_iload_n hx hb dX12_argument_7 rfl (lv_at hl 1 rfl) ?_
  refine lv_iconst (v := (-1)) hx hb dX12_argument_8 (by decide) ?_
  refine lv_icmp_ne (tgt := 17) hx hb dX12_argument_9 (by decide) (fun c_1 => ?_) (fun c_1 => ?_)
  · have hm := (if_neg c_1).symm.trans hm
    exact mw_argument_17 fu rc hr C hret x1 x2 F G hm hw (lv_sub hl [0, 1, 2] rfl)
  · have hm := (if_pos c_1).symm.trans hm
    exact mw_argument_12 fu rc hr C hret F G hm hw (lv_sub hl [0] rfl)
theorem mw_argument_0 (fu : Nat) (rc : RC) {dd : Nat} (hr : mH1 l v a rc dd) {res : Int32 × PF × PG} (C : mMC p R s m args c A v RX12 cX12_argument 8 (dd + 1 + 3) (60 * (dd + 1) + 64)) (hret : ∀ (H1 : Heap) (locs1 : List Loc) (ls1 : Array Slot) (pc : Nat), mMW s A v a res.2.1 res.2.2 H1 locs1 → narrow .boolean (.int res.1) = .int res.1 → decode cX12_argument pc = .ok (.ireturn, 1) → W p l e R s m args below meth c H1 locs1 0 0 Q (F0 m pc ls1 [.int res.1])) (x1 : Int32) (x2 : Int32) (F : PF) (G : PG) (hm : mb_argument_0 fu rc x1 x2 F G = some res) {H : Heap} {locs : List Loc} (hw : mMW s A v a F G H locs) {ls : Array Slot} (hl : lv_has ls 8 [(0, .ref (a 212)), (1, .int x1), (2, .int x2)]) : W p l e R s m args below meth c H locs 0 0 Q (F0 m 0 ls []) := by
  have hx := C.1
  have hb := C.2.1
  unfold mb_argument_0 at hm
  refine lv_aload_n hx hb dX12_argument_0 rfl (lv_at hl 0 rfl) ?_
  refine mg_X12_365 C hw dX12_argument_1 ?_
  refine lv_if_ne (tgt := 12) hx hb dX12_argument_4 (by decide) (fun c_1 => ?_) (fun c_1 => ?_)
  · have hm := (if_neg c_1).symm.trans hm
    exact mw_argument_12 fu rc hr C hret F G hm hw (lv_sub hl [0] rfl)
  · have hm := (if_pos c_1).symm.trans hm
    exact mw_argument_7 fu rc hr C hret x1 x2 F G hm hw (lv_sub hl [0, 1, 2] rfl)
theorem mq_argument (l : Launch) (v : EV) (a : Nat → Nat) (sz : Nat) (fu : Nat) (rc : RC) {dd : Nat} (hr : mH1 l v a rc dd) (x1 : Int32) (x2 : Int32) (F : PF) (G : PG) (r : Int32) (F1 : PF) (G1 : PG) (hm : mh_argument fu rc x1 x2 F G = some (r, F1, G1)) : mMI l yX12_argument cX12_argument 8 (some .boolean) (dd + 1 + 3) (60 * (dd + 1) + 64) v a sz [.ref (a 212), .int x1, .int x2] F G r F1 G1 := mMI.of (ty := .boolean) (by decide) rfl (Nat.le_of_ble_eq_true rfl) (fun p e R s m args below meth c Q A H locs ls C hw hl hret => mw_argument_0 fu rc hr (res := (r, F1, G1)) C hret x1 x2 F G hm hw hl)
def mb_call_290 (fu : Nat) (rc : RC) (z0 : Int32) (F : PF) (G : PG) : PR := some (1, F, G)
def mb_call_275 (fu : Nat) (rc : RC) (x1 : Int32) (x4 : Int32) (z0 : Int32) (F : PF) (G : PG) : PR := if ixb x1 4002 = true then ((mf_step fu 16 x4 (G 6 x1.toNatClampNeg) F G).bind (fun q => mb_call_290 fu rc q.1 q.2.1 q.2.2)) else none
def mb_call_267 (fu : Nat) (rc : RC) (x1 : Int32) (x4 : Int32) (F : PF) (G : PG) : PR := (mf_step fu 15 0 0 F G).bind (fun q => mb_call_275 fu rc x1 x4 q.1 q.2.1 q.2.2)
def mb_call_265 (fu : Nat) (rc : RC) (F : PF) (G : PG) : PR := some (0, F, G)
def mb_call_262 (fu : Nat) (rc : RC) (x1 : Int32) (x4 : Int32) (z0 : Int32) (F : PF) (G : PG) : PR := if z0 = (0 : Int32) then mb_call_265 fu rc F G else mb_call_267 fu rc x1 x4 F G
def mb_call_256 (fu : Nat) (rc : RC) (x1 : Int32) (x4 : Int32) (F : PF) (G : PG) : PR := (mf_closeSign fu 23 F G).bind (fun q => mb_call_262 fu rc x1 x4 q.1 q.2.1 q.2.2)
def mb_call_241 (fu : Nat) (rc : RC) (x1 : Int32) (x4 : Int32) (F : PF) (G : PG) : PR := if ixb (F 42) 4002 = true then ((mf_note fu 7 (G 6 (F 42).toNatClampNeg) F G).bind (fun q => mb_call_256 fu rc x1 x4 q.2.1 q.2.2)) else none
def mb_call_238 (fu : Nat) (rc : RC) (x1 : Int32) (x4 : Int32) (z0 : Int32) (F : PF) (G : PG) : PR := if z0 = (0 : Int32) then mb_call_256 fu rc x1 x4 F G else mb_call_241 fu rc x1 x4 F G
def mb_call_232 (fu : Nat) (rc : RC) (x1 : Int32) (x4 : Int32) (F : PF) (G : PG) : PR := (mf_isSign fu 23 F G).bind (fun q => mb_call_238 fu rc x1 x4 q.1 q.2.1 q.2.2)
def mb_call_220 (fu : Nat) (rc : RC) (x1 : Int32) (x4 : Int32) (x5 : Int32) (F : PF) (G : PG) : PR := if ixb x4 500 = true then (if (G 27 x4.toNatClampNeg) ≤ x5 then mb_call_256 fu rc x1 x4 F G else mb_call_232 fu rc x1 x4 F G) else none
def mb_call_214 (fu : Nat) (rc : RC) (x1 : Int32) (x4 : Int32) (x5 : Int32) (F : PF) (G : PG) : PR := if x4 = (-1 : Int32) then mb_call_256 fu rc x1 x4 F G else mb_call_220 fu rc x1 x4 x5 F G
def mb_call_207 (fu : Nat) (rc : RC) (x1 : Int32) (x4 : Int32) (x5 : Int32) (F : PF) (G : PG) : PR := if (F 54) = (0 : Int32) then mb_call_214 fu rc x1 x4 x5 F G else mb_call_256 fu rc x1 x4 F G
def mb_call_204 (fu : Nat) (rc : RC) (ag_156 : Int32 → Int32 → Int32 → Int32 → PF → PG → PR) (x1 : Int32) (x4 : Int32) (x5 : Int32) (x6 : Int32) (F : PF) (G : PG) : PR := ag_156 x1 x4 x5 x6 F G
def mb_call_200 (fu : Nat) (rc : RC) (ag_156 : Int32 → Int32 → Int32 → Int32 → PF → PG → PR) (x1 : Int32) (x4 : Int32) (x5 : Int32) (x6 : Int32) (z0 : Int32) (z1 : Int32) (F : PF) (G : PG) : PR := mb_call_204 fu rc ag_156 x1 x4 x5 x6 (fup F 42 (z1 + z0)) G
def mb_call_199 (fu : Nat) (rc : RC) (ag_156 : Int32 → Int32 → Int32 → Int32 → PF → PG → PR) (x1 : Int32) (x4 : Int32) (x5 : Int32) (x6 : Int32) (z0 : Int32) (F : PF) (G : PG) : PR := mb_call_200 fu rc ag_156 x1 x4 x5 x6 0 z0 F G
def mb_call_195 (fu : Nat) (rc : RC) (ag_156 : Int32 → Int32 → Int32 → Int32 → PF → PG → PR) (x1 : Int32) (x4 : Int32) (x5 : Int32) (x6 : Int32) (z0 : Int32) (F : PF) (G : PG) : PR := mb_call_200 fu rc ag_156 x1 x4 x5 x6 1 z0 F G
def mb_call_183 (fu : Nat) (rc : RC) (ag_156 : Int32 → Int32 → Int32 → Int32 → PF → PG → PR) (x1 : Int32) (x4 : Int32) (x5 : Int32) (z0 : Int32) (F : PF) (G : PG) : PR := if z0 = (0 : Int32) then mb_call_199 fu rc ag_156 x1 x4 x5 z0 (F 42) F G else mb_call_195 fu rc ag_156 x1 x4 x5 z0 (F 42) F G
def mb_call_174 (fu : Nat) (rc : RC) (ag_156 : Int32 → Int32 → Int32 → Int32 → PF → PG → PR) (x1 : Int32) (x4 : Int32) (x5 : Int32) (F : PF) (G : PG) : PR := (mf_isSign fu 28 F G).bind (fun q => mb_call_183 fu rc ag_156 x1 x4 (x5 + 1) q.1 q.2.1 q.2.2)
def mb_call_172 (fu : Nat) (rc : RC) (F : PF) (G : PG) : PR := some (0, F, G)
def mb_call_169 (fu : Nat) (rc : RC) (ag_156 : Int32 → Int32 → Int32 → Int32 → PF → PG → PR) (x1 : Int32) (x4 : Int32) (x5 : Int32) (z0 : Int32) (F : PF) (G : PG) : PR := if z0 = (0 : Int32) then mb_call_172 fu rc F G else mb_call_174 fu rc ag_156 x1 x4 x5 F G
def mb_call_161 (fu : Nat) (rc : RC) (ag_156 : Int32 → Int32 → Int32 → Int32 → PF → PG → PR) (x1 : Int32) (x4 : Int32) (x5 : Int32) (F : PF) (G : PG) : PR := (rc 0 x4 x5 F G).bind (fun q => mb_call_169 fu rc ag_156 x1 x4 x5 q.1 q.2.1 q.2.2)
def mb_call_156 (fu : Nat) (rc : RC) (ag_156 : Int32 → Int32 → Int32 → Int32 → PF → PG → PR) (x1 : Int32) (x4 : Int32) (x5 : Int32) (x6 : Int32) (F : PF) (G : PG) : PR := if x6 = (0 : Int32) then mb_call_207 fu rc x1 x4 x5 F G else mb_call_161 fu rc ag_156 x1 x4 x5 F G
def ml_call_156 (fu : Nat) (rc : RC) : Nat → Int32 → Int32 → Int32 → Int32 → PF → PG → PR
  | 0 => fun _ _ _ _ _ _ => none
  | n + 1 => fun x1 x4 x5 x6 F G => mb_call_156 fu rc (ml_call_156 fu rc n) x1 x4 x5 x6 F G
def mb_call_154 (fu : Nat) (rc : RC) (x1 : Int32) (x4 : Int32) (x5 : Int32) (z0 : Int32) (F : PF) (G : PG) : PR := ml_call_156 fu rc fu x1 x4 x5 z0 F G
def mb_call_153 (fu : Nat) (rc : RC) (x1 : Int32) (x4 : Int32) (x5 : Int32) (F : PF) (G : PG) : PR := mb_call_154 fu rc x1 x4 x5 0 F G
def mb_call_149 (fu : Nat) (rc : RC) (x1 : Int32) (x4 : Int32) (x5 : Int32) (F : PF) (G : PG) : PR := mb_call_154 fu rc x1 x4 x5 1 F G
def mb_call_146 (fu : Nat) (rc : RC) (x1 : Int32) (x4 : Int32) (x5 : Int32) (z0 : Int32) (F : PF) (G : PG) : PR := if z0 = (0 : Int32) then mb_call_149 fu rc x1 x4 x5 F G else mb_call_153 fu rc x1 x4 x5 F G
def mb_call_137 (fu : Nat) (rc : RC) (x1 : Int32) (x4 : Int32) (F : PF) (G : PG) : PR := (mf_isSign fu 23 F G).bind (fun q => mb_call_146 fu rc x1 x4 0 q.1 q.2.1 q.2.2)
def mb_call_135 (fu : Nat) (rc : RC) (F : PF) (G : PG) : PR := some (0, F, G)
def mb_call_132 (fu : Nat) (rc : RC) (x1 : Int32) (x4 : Int32) (z0 : Int32) (F : PF) (G : PG) : PR := if z0 = (0 : Int32) then mb_call_135 fu rc F G else mb_call_137 fu rc x1 x4 F G
def mb_call_126 (fu : Nat) (rc : RC) (x1 : Int32) (x4 : Int32) (F : PF) (G : PG) : PR := (mf_openSign fu 22 F G).bind (fun q => mb_call_132 fu rc x1 x4 q.1 q.2.1 q.2.2)
def mb_call_114 (fu : Nat) (rc : RC) (x1 : Int32) (x4 : Int32) (F : PF) (G : PG) : PR := if ixb x1 4002 = true then ((mf_note fu 8 (G 6 x1.toNatClampNeg) F G).bind (fun q => mb_call_126 fu rc x1 x4 q.2.1 q.2.2)) else none
def mb_call_104 (fu : Nat) (rc : RC) (x1 : Int32) (x4 : Int32) (F : PF) (G : PG) : PR := if ixb x4 500 = true then (if (G 33 x4.toNatClampNeg) = (0 : Int32) then mb_call_126 fu rc x1 x4 F G else mb_call_114 fu rc x1 x4 F G) else none
def mb_call_100 (fu : Nat) (rc : RC) (x1 : Int32) (x2 : Int32) (x4 : Int32) (F : PF) (G : PG) : PR := if x2 = (0 : Int32) then mb_call_126 fu rc x1 x4 F G else mb_call_104 fu rc x1 x4 F G
def mb_call_94 (fu : Nat) (rc : RC) (x1 : Int32) (x2 : Int32) (x4 : Int32) (F : PF) (G : PG) : PR := if x4 = (-1 : Int32) then mb_call_126 fu rc x1 x4 F G else mb_call_100 fu rc x1 x2 x4 F G
def mb_call_87 (fu : Nat) (rc : RC) (x1 : Int32) (x2 : Int32) (x4 : Int32) (F : PF) (G : PG) : PR := if (F 54) = (0 : Int32) then mb_call_94 fu rc x1 x2 x4 F G else mb_call_126 fu rc x1 x4 F G
def mb_call_75 (fu : Nat) (rc : RC) (x1 : Int32) (x2 : Int32) (x4 : Int32) (F : PF) (G : PG) : PR := if ixb x1 4002 = true then ((mf_note fu 6 (G 6 x1.toNatClampNeg) F G).bind (fun q => mb_call_87 fu rc x1 x2 x4 q.2.1 q.2.2)) else none
def mb_call_70 (fu : Nat) (rc : RC) (x1 : Int32) (x2 : Int32) (x3 : Int32) (x4 : Int32) (F : PF) (G : PG) : PR := if x3 = (-1 : Int32) then mb_call_87 fu rc x1 x2 x4 F G else mb_call_75 fu rc x1 x2 x4 F G
def mb_call_63 (fu : Nat) (rc : RC) (x1 : Int32) (x2 : Int32) (x3 : Int32) (x4 : Int32) (F : PF) (G : PG) : PR := if (F 54) = (0 : Int32) then mb_call_70 fu rc x1 x2 x3 x4 F G else mb_call_87 fu rc x1 x2 x4 F G
def mb_call_52 (fu : Nat) (rc : RC) (x1 : Int32) (x2 : Int32) (x3 : Int32) (x4 : Int32) (F : PF) (G : PG) : PR := if ixb x1 4002 = true then ((mf_note fu 4 (G 6 x1.toNatClampNeg) F G).bind (fun q => mb_call_63 fu rc x1 x2 x3 x4 q.2.1 q.2.2)) else none
def mb_call_46 (fu : Nat) (rc : RC) (x1 : Int32) (x2 : Int32) (x3 : Int32) (x4 : Int32) (F : PF) (G : PG) : PR := if x4 = (-1 : Int32) then mb_call_52 fu rc x1 x2 x3 x4 F G else mb_call_63 fu rc x1 x2 x3 x4 F G
def mb_call_41 (fu : Nat) (rc : RC) (x1 : Int32) (x2 : Int32) (x3 : Int32) (x4 : Int32) (F : PF) (G : PG) : PR := if x3 = (-1 : Int32) then mb_call_46 fu rc x1 x2 x3 x4 F G else mb_call_63 fu rc x1 x2 x3 x4 F G
def mb_call_32 (fu : Nat) (rc : RC) (x1 : Int32) (x2 : Int32) (x3 : Int32) (z0 : Int32) (F : PF) (G : PG) : PR := if (F 54) = (0 : Int32) then mb_call_41 fu rc x1 x2 x3 z0 F G else mb_call_63 fu rc x1 x2 x3 z0 F G
def mb_call_28 (fu : Nat) (rc : RC) (x1 : Int32) (x2 : Int32) (x3 : Int32) (F : PF) (G : PG) : PR := mb_call_32 fu rc x1 x2 x3 (F 62) F G
def mb_call_24 (fu : Nat) (rc : RC) (x1 : Int32) (x2 : Int32) (x3 : Int32) (F : PF) (G : PG) : PR := mb_call_32 fu rc x1 x2 x3 (-1) F G
def mb_call_16 (fu : Nat) (rc : RC) (x1 : Int32) (x2 : Int32) (z0 : Int32) (F : PF) (G : PG) : PR := if (F 46) = (0 : Int32) then mb_call_24 fu rc x1 x2 z0 F G else mb_call_28 fu rc x1 x2 z0 F G
def mb_call_11 (fu : Nat) (rc : RC) (x1 : Int32) (x2 : Int32) (F : PF) (G : PG) : PR := (mf_meaning fu x1 F G).bind (fun q => mb_call_16 fu rc x1 x2 q.1 q.2.1 q.2.2)
def mb_call_7 (fu : Nat) (rc : RC) (x1 : Int32) (x2 : Int32) (F : PF) (G : PG) : PR := mb_call_16 fu rc x1 x2 (-1) F G
def mb_call_0 (fu : Nat) (rc : RC) (x1 : Int32) (x2 : Int32) (F : PF) (G : PG) : PR := if (F 46) = (0 : Int32) then mb_call_7 fu rc x1 x2 F G else mb_call_11 fu rc x1 x2 F G
def mh_call (fu : Nat) (rc : RC) (x1 : Int32) (x2 : Int32) (F : PF) (G : PG) : PR := mb_call_0 fu rc x1 x2 F G
theorem mw_call_290 (fu : Nat) (rc : RC) {dd : Nat} (hr : mH1 l v a rc dd) {res : Int32 × PF × PG} (C : mMC p R s m args c A v RX12 cX12_call 7 (dd + 1 + 3) (60 * (dd + 1) + 64)) (hret : ∀ (H1 : Heap) (locs1 : List Loc) (ls1 : Array Slot) (pc : Nat), mMW s A v a res.2.1 res.2.2 H1 locs1 → narrow .boolean (.int res.1) = .int res.1 → decode cX12_call pc = .ok (.ireturn, 1) → W p l e R s m args below meth c H1 locs1 0 0 Q (F0 m pc ls1 [.int res.1])) (z0 : Int32) (F : PF) (G : PG) (hm : mb_call_290 fu rc z0 F G = some res) {H : Heap} {locs : List Loc} (hw : mMW s A v a F G H locs) {ls : Array Slot} (hl : lv_has ls 7 []) : W p l e R s m args below meth c H locs 0 0 Q (F0 m 290 ls [.int z0]) := by
  have hx := C.1
  have hb := C.2.1
  unfold mb_call_290 at hm
  refine lv_pop hx hb dX12_call_290 rfl ?_
  refine lv_iconst (v := 1) hx hb dX12_call_291 (by decide) ?_
  obtain rfl := Option.some.inj hm
  exact hret _ _ _ _ hw (b01_nar (v := 1) (Or.inr rfl)) dX12_call_292
theorem mw_call_275 (fu : Nat) (rc : RC) {dd : Nat} (hr : mH1 l v a rc dd) {res : Int32 × PF × PG} (C : mMC p R s m args c A v RX12 cX12_call 7 (dd + 1 + 3) (60 * (dd + 1) + 64)) (hret : ∀ (H1 : Heap) (locs1 : List Loc) (ls1 : Array Slot) (pc : Nat), mMW s A v a res.2.1 res.2.2 H1 locs1 → narrow .boolean (.int res.1) = .int res.1 → decode cX12_call pc = .ok (.ireturn, 1) → W p l e R s m args below meth c H1 locs1 0 0 Q (F0 m pc ls1 [.int res.1])) (x1 : Int32) (x4 : Int32) (z0 : Int32) (F : PF) (G : PG) (hm : mb_call_275 fu rc x1 x4 z0 F G = some res) {H : Heap} {locs : List Loc} (hw : mMW s A v a F G H locs) {ls : Array Slot} (hl : lv_has ls 7 [(0, .ref (a 212)), (1, .int x1), (4, .int x4)]) : W p l e R s m args below meth c H locs 0 0 Q (F0 m 275 ls [.int z0]) := by
  have hx := C.1
  have hb := C.2.1
  unfold mb_call_275 at hm
  refine lv_pop hx hb dX12_call_275 rfl ?_
  refine lv_aload_n hx hb dX12_call_276 rfl (lv_at hl 0 rfl) ?_
  refine lv_bipush (v := 16) hx hb dX12_call_277 (by decide) ?_
  refine lv_iload hx hb dX12_call_279 (lv_at hl 2 rfl) ?_
  refine lv_aload_n hx hb dX12_call_281 rfl (lv_at hl 0 rfl) ?_
  refine mg_X12_22 C hw dX12_call_282 ?_
  refine lv_iload_n hx hb dX12_call_285 rfl (lv_at hl 1 rfl) ?_
  obtain ⟨hi, hm⟩ := ix_elim hm
  refine mal_6 C hw hi dX12_call_286 ?_
  obtain ⟨⟨r1, F1, G1⟩, hc, hm⟩ := bind_elim hm
  refine mcallI (n := 3) (As := [.int 16, .int x4, .int (G 6 x1.toNatClampNeg)]) (rest := []) C hw (mk_step l v a _ fu 16 x4 (G 6 x1.toNatClampNeg) F G r1 F1 G1 hc) (mrecv_X12 C hw) mm_203 mm_204 mm_205 mm_27 mm_206 (by decide +kernel) rfl (by omega) (by omega) hl.1 rfl (Nat.le_of_ble_eq_true rfl) dX12_call_287 (fun H locs hw => ?_)
  exact mw_call_290 fu rc hr C hret r1 F1 G1 hm hw (lv_sub hl [] rfl)
theorem mw_call_267 (fu : Nat) (rc : RC) {dd : Nat} (hr : mH1 l v a rc dd) {res : Int32 × PF × PG} (C : mMC p R s m args c A v RX12 cX12_call 7 (dd + 1 + 3) (60 * (dd + 1) + 64)) (hret : ∀ (H1 : Heap) (locs1 : List Loc) (ls1 : Array Slot) (pc : Nat), mMW s A v a res.2.1 res.2.2 H1 locs1 → narrow .boolean (.int res.1) = .int res.1 → decode cX12_call pc = .ok (.ireturn, 1) → W p l e R s m args below meth c H1 locs1 0 0 Q (F0 m pc ls1 [.int res.1])) (x1 : Int32) (x4 : Int32) (F : PF) (G : PG) (hm : mb_call_267 fu rc x1 x4 F G = some res) {H : Heap} {locs : List Loc} (hw : mMW s A v a F G H locs) {ls : Array Slot} (hl : lv_has ls 7 [(0, .ref (a 212)), (1, .int x1), (4, .int x4)]) : W p l e R s m args below meth c H locs 0 0 Q (F0 m 267 ls []) := by
  have hx := C.1
  have hb := C.2.1
  unfold mb_call_267 at hm
  refine lv_aload_n hx hb dX12_call_267 rfl (lv_at hl 0 rfl) ?_
  refine lv_bipush (v := 15) hx hb dX12_call_268 (by decide) ?_
  refine lv_iconst (v := 0) hx hb dX12_call_270 (by decide) ?_
  refine lv_iconst (v := 0) hx hb dX12_call_271 (by decide) ?_
  obtain ⟨⟨r1, F1, G1⟩, hc, hm⟩ := bind_elim hm
  refine mcallI (n := 3) (As := [.int 15, .int 0, .int 0]) (rest := []) C hw (mk_step l v a _ fu 15 0 0 F G r1 F1 G1 hc) (mrecv_X12 C hw) mm_203 mm_204 mm_205 mm_27 mm_206 (by decide +kernel) rfl (by omega) (by omega) hl.1 rfl (Nat.le_of_ble_eq_true rfl) dX12_call_272 (fun H locs hw => ?_)
  exact mw_call_275 fu rc hr C hret x1 x4 r1 F1 G1 hm hw (lv_sub hl [0, 1, 2] rfl)
theorem mw_call_265 (fu : Nat) (rc : RC) {dd : Nat} (hr : mH1 l v a rc dd) {res : Int32 × PF × PG} (C : mMC p R s m args c A v RX12 cX12_call 7 (dd + 1 + 3) (60 * (dd + 1) + 64)) (hret : ∀ (H1 : Heap) (locs1 : List Loc) (ls1 : Array Slot) (pc : Nat), mMW s A v a res.2.1 res.2.2 H1 locs1 → narrow .boolean (.int res.1) = .int res.1 → decode cX12_call pc = .ok (.ireturn, 1) → W p l e R s m args below meth c H1 locs1 0 0 Q (F0 m pc ls1 [.int res.1])) (F : PF) (G : PG) (hm : mb_call_265 fu rc F G = some res) {H : Heap} {locs : List Loc} (hw : mMW s A v a F G H locs) {ls : Array Slot} (hl : lv_has ls 7 []) : W p l e R s m args below meth c H locs 0 0 Q (F0 m 265 ls []) := by
  have hx := C.1
  have hb := C.2.1
  unfold mb_call_265 at hm
  refine lv_iconst (v := 0) hx hb dX12_call_265 (by decide) ?_
  obtain rfl := Option.some.inj hm
  exact hret _ _ _ _ hw (b01_nar (v := 0) (Or.inl rfl)) dX12_call_266
theorem mw_call_262 (fu : Nat) (rc : RC) {dd : Nat} (hr : mH1 l v a rc dd) {res : Int32 × PF × PG} (C : mMC p R s m args c A v RX12 cX12_call 7 (dd + 1 + 3) (60 * (dd + 1) + 64)) (hret : ∀ (H1 : Heap) (locs1 : List Loc) (ls1 : Array Slot) (pc : Nat), mMW s A v a res.2.1 res.2.2 H1 locs1 → narrow .boolean (.int res.1) = .int res.1 → decode cX12_call pc = .ok (.ireturn, 1) → W p l e R s m args below meth c H1 locs1 0 0 Q (F0 m pc ls1 [.int res.1])) (x1 : Int32) (x4 : Int32) (z0 : Int32) (F : PF) (G : PG) (hm : mb_call_262 fu rc x1 x4 z0 F G = some res) {H : Heap} {locs : List Loc} (hw : mMW s A v a F G H locs) {ls : Array Slot} (hl : lv_has ls 7 [(0, .ref (a 212)), (1, .int x1), (4, .int x4)]) : W p l e R s m args below meth c H locs 0 0 Q (F0 m 262 ls [.int z0]) := by
  have hx := C.1
  have hb := C.2.1
  unfold mb_call_262 at hm
  refine lv_if_ne (tgt := 267) hx hb dX12_call_262 (by decide) (fun c_1 => ?_) (fun c_1 => ?_)
  · have hm := (if_neg c_1).symm.trans hm
    exact mw_call_267 fu rc hr C hret x1 x4 F G hm hw (lv_sub hl [0, 1, 2] rfl)
  · have hm := (if_pos c_1).symm.trans hm
    exact mw_call_265 fu rc hr C hret F G hm hw (lv_sub hl [] rfl)
theorem mw_call_256 (fu : Nat) (rc : RC) {dd : Nat} (hr : mH1 l v a rc dd) {res : Int32 × PF × PG} (C : mMC p R s m args c A v RX12 cX12_call 7 (dd + 1 + 3) (60 * (dd + 1) + 64)) (hret : ∀ (H1 : Heap) (locs1 : List Loc) (ls1 : Array Slot) (pc : Nat), mMW s A v a res.2.1 res.2.2 H1 locs1 → narrow .boolean (.int res.1) = .int res.1 → decode cX12_call pc = .ok (.ireturn, 1) → W p l e R s m args below meth c H1 locs1 0 0 Q (F0 m pc ls1 [.int res.1])) (x1 : Int32) (x4 : Int32) (F : PF) (G : PG) (hm : mb_call_256 fu rc x1 x4 F G = some res) {H : Heap} {locs : List Loc} (hw : mMW s A v a F G H locs) {ls : Array Slot} (hl : lv_has ls 7 [(0, .ref (a 212)), (1, .int x1), (4, .int x4)]) : W p l e R s m args below meth c H locs 0 0 Q (F0 m 256 ls []) := by
  have hx := C.1
  have hb := C.2.1
  unfold mb_call_256 at hm
  refine lv_aload_n hx hb dX12_call_256 rfl (lv_at hl 0 rfl) ?_
  refine lv_bipush (v := 23) hx hb dX12_call_257 (by decide) ?_
  obtain ⟨⟨r1, F1, G1⟩, hc, hm⟩ := bind_elim hm
  refine mcallI (n := 1) (As := [.int 23]) (rest := []) C hw (mk_closeSign l v a _ fu 23 F G r1 F1 G1 hc) (mrecv_X12 C hw) mm_248 mm_249 mm_250 mm_27 mm_251 (by decide +kernel) rfl (by omega) (by omega) hl.1 rfl (Nat.le_of_ble_eq_true rfl) dX12_call_259 (fun H locs hw => ?_)
  exact mw_call_262 fu rc hr C hret x1 x4 r1 F1 G1 hm hw (lv_sub hl [0, 1, 2] rfl)
theorem mw_call_241 (fu : Nat) (rc : RC) {dd : Nat} (hr : mH1 l v a rc dd) {res : Int32 × PF × PG} (C : mMC p R s m args c A v RX12 cX12_call 7 (dd + 1 + 3) (60 * (dd + 1) + 64)) (hret : ∀ (H1 : Heap) (locs1 : List Loc) (ls1 : Array Slot) (pc : Nat), mMW s A v a res.2.1 res.2.2 H1 locs1 → narrow .boolean (.int res.1) = .int res.1 → decode cX12_call pc = .ok (.ireturn, 1) → W p l e R s m args below meth c H1 locs1 0 0 Q (F0 m pc ls1 [.int res.1])) (x1 : Int32) (x4 : Int32) (F : PF) (G : PG) (hm : mb_call_241 fu rc x1 x4 F G = some res) {H : Heap} {locs : List Loc} (hw : mMW s A v a F G H locs) {ls : Array Slot} (hl : lv_has ls 7 [(0, .ref (a 212)), (1, .int x1), (4, .int x4)]) : W p l e R s m args below meth c H locs 0 0 Q (F0 m 241 ls []) := by
  have hx := C.1
  have hb := C.2.1
  unfold mb_call_241 at hm
  refine lv_aload_n hx hb dX12_call_241 rfl (lv_at hl 0 rfl) ?_
  refine lv_bipush (v := 7) hx hb dX12_call_242 (by decide) ?_
  refine lv_aload_n hx hb dX12_call_244 rfl (lv_at hl 0 rfl) ?_
  refine mg_X12_22 C hw dX12_call_245 ?_
  refine lv_aload_n hx hb dX12_call_248 rfl (lv_at hl 0 rfl) ?_
  refine mg_X12_233 C hw dX12_call_249 ?_
  obtain ⟨hi, hm⟩ := ix_elim hm
  refine mal_6 C hw hi dX12_call_252 ?_
  obtain ⟨⟨r1, F1, G1⟩, hc, hm⟩ := bind_elim hm
  refine mcallV (n := 2) (As := [.int 7, .int (G 6 (F 42).toNatClampNeg)]) (rest := []) C hw (mk_note l v a _ fu 7 (G 6 (F 42).toNatClampNeg) F G r1 F1 G1 hc) (mrecv_X12 C hw) mm_220 mm_221 mm_222 mm_27 mm_223 (by decide +kernel) rfl (by omega) (by omega) hl.1 rfl (Nat.le_of_ble_eq_true rfl) dX12_call_253 (fun H locs hw => ?_)
  exact mw_call_256 fu rc hr C hret x1 x4 F1 G1 hm hw (lv_sub hl [0, 1, 2] rfl)
theorem mw_call_238 (fu : Nat) (rc : RC) {dd : Nat} (hr : mH1 l v a rc dd) {res : Int32 × PF × PG} (C : mMC p R s m args c A v RX12 cX12_call 7 (dd + 1 + 3) (60 * (dd + 1) + 64)) (hret : ∀ (H1 : Heap) (locs1 : List Loc) (ls1 : Array Slot) (pc : Nat), mMW s A v a res.2.1 res.2.2 H1 locs1 → narrow .boolean (.int res.1) = .int res.1 → decode cX12_call pc = .ok (.ireturn, 1) → W p l e R s m args below meth c H1 locs1 0 0 Q (F0 m pc ls1 [.int res.1])) (x1 : Int32) (x4 : Int32) (z0 : Int32) (F : PF) (G : PG) (hm : mb_call_238 fu rc x1 x4 z0 F G = some res) {H : Heap} {locs : List Loc} (hw : mMW s A v a F G H locs) {ls : Array Slot} (hl : lv_has ls 7 [(0, .ref (a 212)), (1, .int x1), (4, .int x4)]) : W p l e R s m args below meth c H locs 0 0 Q (F0 m 238 ls [.int z0]) := by
  have hx := C.1
  have hb := C.2.1
  unfold mb_call_238 at hm
  refine lv_if_eq (tgt := 256) hx hb dX12_call_238 (by decide) (fun c_1 => ?_) (fun c_1 => ?_)
  · have hm := (if_pos c_1).symm.trans hm
    exact mw_call_256 fu rc hr C hret x1 x4 F G hm hw (lv_sub hl [0, 1, 2] rfl)
  · have hm := (if_neg c_1).symm.trans hm
    exact mw_call_241 fu rc hr C hret x1 x4 F G hm hw (lv_sub hl [0, 1, 2] rfl)
theorem mw_call_232 (fu : Nat) (rc : RC) {dd : Nat} (hr : mH1 l v a rc dd) {res : Int32 × PF × PG} (C : mMC p R s m args c A v RX12 cX12_call 7 (dd + 1 + 3) (60 * (dd + 1) + 64)) (hret : ∀ (H1 : Heap) (locs1 : List Loc) (ls1 : Array Slot) (pc : Nat), mMW s A v a res.2.1 res.2.2 H1 locs1 → narrow .boolean (.int res.1) = .int res.1 → decode cX12_call pc = .ok (.ireturn, 1) → W p l e R s m args below meth c H1 locs1 0 0 Q (F0 m pc ls1 [.int res.1])) (x1 : Int32) (x4 : Int32) (F : PF) (G : PG) (hm : mb_call_232 fu rc x1 x4 F G = some res) {H : Heap} {locs : List Loc} (hw : mMW s A v a F G H locs) {ls : Array Slot} (hl : lv_has ls 7 [(0, .ref (a 212)), (1, .int x1), (4, .int x4)]) : W p l e R s m args below meth c H locs 0 0 Q (F0 m 232 ls []) := by
  have hx := C.1
  have hb := C.2.1
  unfold mb_call_232 at hm
  refine lv_aload_n hx hb dX12_call_232 rfl (lv_at hl 0 rfl) ?_
  refine lv_bipush (v := 23) hx hb dX12_call_233 (by decide) ?_
  obtain ⟨⟨r1, F1, G1⟩, hc, hm⟩ := bind_elim hm
  refine mcallI (n := 1) (As := [.int 23]) (rest := []) C hw (mk_isSign l v a _ fu 23 F G r1 F1 G1 hc) (mrecv_X12 C hw) mm_183 mm_184 mm_185 mm_27 mm_186 (by decide +kernel) rfl (by omega) (by omega) hl.1 rfl (Nat.le_of_ble_eq_true rfl) dX12_call_235 (fun H locs hw => ?_)
  exact mw_call_238 fu rc hr C hret x1 x4 r1 F1 G1 hm hw (lv_sub hl [0, 1, 2] rfl)
theorem mw_call_220 (fu : Nat) (rc : RC) {dd : Nat} (hr : mH1 l v a rc dd) {res : Int32 × PF × PG} (C : mMC p R s m args c A v RX12 cX12_call 7 (dd + 1 + 3) (60 * (dd + 1) + 64)) (hret : ∀ (H1 : Heap) (locs1 : List Loc) (ls1 : Array Slot) (pc : Nat), mMW s A v a res.2.1 res.2.2 H1 locs1 → narrow .boolean (.int res.1) = .int res.1 → decode cX12_call pc = .ok (.ireturn, 1) → W p l e R s m args below meth c H1 locs1 0 0 Q (F0 m pc ls1 [.int res.1])) (x1 : Int32) (x4 : Int32) (x5 : Int32) (F : PF) (G : PG) (hm : mb_call_220 fu rc x1 x4 x5 F G = some res) {H : Heap} {locs : List Loc} (hw : mMW s A v a F G H locs) {ls : Array Slot} (hl : lv_has ls 7 [(0, .ref (a 212)), (1, .int x1), (4, .int x4), (5, .int x5)]) : W p l e R s m args below meth c H locs 0 0 Q (F0 m 220 ls []) := by
  have hx := C.1
  have hb := C.2.1
  unfold mb_call_220 at hm
  refine lv_iload hx hb dX12_call_220 (lv_at hl 3 rfl) ?_
  refine lv_aload_n hx hb dX12_call_222 rfl (lv_at hl 0 rfl) ?_
  refine mg_X12_68 C hw dX12_call_223 ?_
  refine lv_iload hx hb dX12_call_226 (lv_at hl 2 rfl) ?_
  obtain ⟨hi, hm⟩ := ix_elim hm
  refine mal_27 C hw hi dX12_call_228 ?_
  refine lv_icmp_ge (tgt := 256) hx hb dX12_call_229 (by decide) (fun c_1 => ?_) (fun c_1 => ?_)
  · have hm := (if_pos c_1).symm.trans hm
    exact mw_call_256 fu rc hr C hret x1 x4 F G hm hw (lv_sub hl [0, 1, 2] rfl)
  · have hm := (if_neg c_1).symm.trans hm
    exact mw_call_232 fu rc hr C hret x1 x4 F G hm hw (lv_sub hl [0, 1, 2] rfl)
theorem mw_call_214 (fu : Nat) (rc : RC) {dd : Nat} (hr : mH1 l v a rc dd) {res : Int32 × PF × PG} (C : mMC p R s m args c A v RX12 cX12_call 7 (dd + 1 + 3) (60 * (dd + 1) + 64)) (hret : ∀ (H1 : Heap) (locs1 : List Loc) (ls1 : Array Slot) (pc : Nat), mMW s A v a res.2.1 res.2.2 H1 locs1 → narrow .boolean (.int res.1) = .int res.1 → decode cX12_call pc = .ok (.ireturn, 1) → W p l e R s m args below meth c H1 locs1 0 0 Q (F0 m pc ls1 [.int res.1])) (x1 : Int32) (x4 : Int32) (x5 : Int32) (F : PF) (G : PG) (hm : mb_call_214 fu rc x1 x4 x5 F G = some res) {H : Heap} {locs : List Loc} (hw : mMW s A v a F G H locs) {ls : Array Slot} (hl : lv_has ls 7 [(0, .ref (a 212)), (1, .int x1), (4, .int x4), (5, .int x5)]) : W p l e R s m args below meth c H locs 0 0 Q (F0 m 214 ls []) := by
  have hx := C.1
  have hb := C.2.1
  unfold mb_call_214 at hm
  refine lv_iload hx hb dX12_call_214 (lv_at hl 2 rfl) ?_
  refine lv_iconst (v := (-1)) hx hb dX12_call_216 (by decide) ?_
  refine lv_icmp_eq (tgt := 256) hx hb dX12_call_217 (by decide) (fun c_1 => ?_) (fun c_1 => ?_)
  · have hm := (if_pos c_1).symm.trans hm
    exact mw_call_256 fu rc hr C hret x1 x4 F G hm hw (lv_sub hl [0, 1, 2] rfl)
  · have hm := (if_neg c_1).symm.trans hm
    exact mw_call_220 fu rc hr C hret x1 x4 x5 F G hm hw (lv_sub hl [0, 1, 2, 3] rfl)
theorem mw_call_207 (fu : Nat) (rc : RC) {dd : Nat} (hr : mH1 l v a rc dd) {res : Int32 × PF × PG} (C : mMC p R s m args c A v RX12 cX12_call 7 (dd + 1 + 3) (60 * (dd + 1) + 64)) (hret : ∀ (H1 : Heap) (locs1 : List Loc) (ls1 : Array Slot) (pc : Nat), mMW s A v a res.2.1 res.2.2 H1 locs1 → narrow .boolean (.int res.1) = .int res.1 → decode cX12_call pc = .ok (.ireturn, 1) → W p l e R s m args below meth c H1 locs1 0 0 Q (F0 m pc ls1 [.int res.1])) (x1 : Int32) (x4 : Int32) (x5 : Int32) (F : PF) (G : PG) (hm : mb_call_207 fu rc x1 x4 x5 F G = some res) {H : Heap} {locs : List Loc} (hw : mMW s A v a F G H locs) {ls : Array Slot} (hl : lv_has ls 7 [(0, .ref (a 212)), (1, .int x1), (4, .int x4), (5, .int x5)]) : W p l e R s m args below meth c H locs 0 0 Q (F0 m 207 ls []) := by
  have hx := C.1
  have hb := C.2.1
  unfold mb_call_207 at hm
  refine lv_aload_n hx hb dX12_call_207 rfl (lv_at hl 0 rfl) ?_
  refine mg_X12_365 C hw dX12_call_208 ?_
  refine lv_if_ne (tgt := 256) hx hb dX12_call_211 (by decide) (fun c_1 => ?_) (fun c_1 => ?_)
  · have hm := (if_neg c_1).symm.trans hm
    exact mw_call_256 fu rc hr C hret x1 x4 F G hm hw (lv_sub hl [0, 1, 2] rfl)
  · have hm := (if_pos c_1).symm.trans hm
    exact mw_call_214 fu rc hr C hret x1 x4 x5 F G hm hw (lv_sub hl [0, 1, 2, 3] rfl)
theorem mw_call_204 (fu : Nat) (rc : RC) {dd : Nat} (hr : mH1 l v a rc dd) {res : Int32 × PF × PG} (C : mMC p R s m args c A v RX12 cX12_call 7 (dd + 1 + 3) (60 * (dd + 1) + 64)) (hret : ∀ (H1 : Heap) (locs1 : List Loc) (ls1 : Array Slot) (pc : Nat), mMW s A v a res.2.1 res.2.2 H1 locs1 → narrow .boolean (.int res.1) = .int res.1 → decode cX12_call pc = .ok (.ireturn, 1) → W p l e R s m args below meth c H1 locs1 0 0 Q (F0 m pc ls1 [.int res.1])) (ag_156 : Int32 → Int32 → Int32 → Int32 → PF → PG → PR) (hag_156 : ∀ (x1 : Int32) (x4 : Int32) (x5 : Int32) (x6 : Int32) (F : PF) (G : PG), ag_156 x1 x4 x5 x6 F G = some res → ∀ (H : Heap) (locs : List Loc) (ls : Array Slot), mMW s A v a F G H locs → lv_has ls 7 [(0, .ref (a 212)), (1, .int x1), (4, .int x4), (5, .int x5), (6, .int x6)] → W p l e R s m args below meth c H locs 0 0 Q (F0 m 156 ls [])) (x1 : Int32) (x4 : Int32) (x5 : Int32) (x6 : Int32) (F : PF) (G : PG) (hm : mb_call_204 fu rc ag_156 x1 x4 x5 x6 F G = some res) {H : Heap} {locs : List Loc} (hw : mMW s A v a F G H locs) {ls : Array Slot} (hl : lv_has ls 7 [(0, .ref (a 212)), (1, .int x1), (4, .int x4), (5, .int x5), (6, .int x6)]) : W p l e R s m args below meth c H locs 0 0 Q (F0 m 204 ls []) := by
  have hx := C.1
  have hb := C.2.1
  unfold mb_call_204 at hm
  refine lv_goto (tgt := 156) hx hb dX12_call_204 (by decide) ?_
  exact hag_156 x1 x4 x5 x6 F G hm _ _ _ hw (lv_sub hl [0, 1, 2, 3, 4] rfl)
theorem mw_call_200 (fu : Nat) (rc : RC) {dd : Nat} (hr : mH1 l v a rc dd) {res : Int32 × PF × PG} (C : mMC p R s m args c A v RX12 cX12_call 7 (dd + 1 + 3) (60 * (dd + 1) + 64)) (hret : ∀ (H1 : Heap) (locs1 : List Loc) (ls1 : Array Slot) (pc : Nat), mMW s A v a res.2.1 res.2.2 H1 locs1 → narrow .boolean (.int res.1) = .int res.1 → decode cX12_call pc = .ok (.ireturn, 1) → W p l e R s m args below meth c H1 locs1 0 0 Q (F0 m pc ls1 [.int res.1])) (ag_156 : Int32 → Int32 → Int32 → Int32 → PF → PG → PR) (hag_156 : ∀ (x1 : Int32) (x4 : Int32) (x5 : Int32) (x6 : Int32) (F : PF) (G : PG), ag_156 x1 x4 x5 x6 F G = some res → ∀ (H : Heap) (locs : List Loc) (ls : Array Slot), mMW s A v a F G H locs → lv_has ls 7 [(0, .ref (a 212)), (1, .int x1), (4, .int x4), (5, .int x5), (6, .int x6)] → W p l e R s m args below meth c H locs 0 0 Q (F0 m 156 ls [])) (x1 : Int32) (x4 : Int32) (x5 : Int32) (x6 : Int32) (z0 : Int32) (z1 : Int32) (F : PF) (G : PG) (hm : mb_call_200 fu rc ag_156 x1 x4 x5 x6 z0 z1 F G = some res) {H : Heap} {locs : List Loc} (hw : mMW s A v a F G H locs) {ls : Array Slot} (hl : lv_has ls 7 [(0, .ref (a 212)), (1, .int x1), (4, .int x4), (5, .int x5), (6, .int x6)]) : W p l e R s m args below meth c H locs 0 0 Q (F0 m 200 ls [.int z0, .int z1, .ref (a 212)]) := by
  have hx := C.1
  have hb := C.2.1
  unfold mb_call_200 at hm
  refine lv_iadd hx hb dX12_call_200 ?_
  refine mp_X12_233 C hw dX12_call_201 (fun H locs hw => ?_)
  exact mw_call_204 fu rc hr C hret ag_156 hag_156 x1 x4 x5 x6 (fup F 42 (z1 + z0)) G hm hw (lv_sub hl [0, 1, 2, 3, 4] rfl)
theorem mw_call_199 (fu : Nat) (rc : RC) {dd : Nat} (hr : mH1 l v a rc dd) {res : Int32 × PF × PG} (C : mMC p R s m args c A v RX12 cX12_call 7 (dd + 1 + 3) (60 * (dd + 1) + 64)) (hret : ∀ (H1 : Heap) (locs1 : List Loc) (ls1 : Array Slot) (pc : Nat), mMW s A v a res.2.1 res.2.2 H1 locs1 → narrow .boolean (.int res.1) = .int res.1 → decode cX12_call pc = .ok (.ireturn, 1) → W p l e R s m args below meth c H1 locs1 0 0 Q (F0 m pc ls1 [.int res.1])) (ag_156 : Int32 → Int32 → Int32 → Int32 → PF → PG → PR) (hag_156 : ∀ (x1 : Int32) (x4 : Int32) (x5 : Int32) (x6 : Int32) (F : PF) (G : PG), ag_156 x1 x4 x5 x6 F G = some res → ∀ (H : Heap) (locs : List Loc) (ls : Array Slot), mMW s A v a F G H locs → lv_has ls 7 [(0, .ref (a 212)), (1, .int x1), (4, .int x4), (5, .int x5), (6, .int x6)] → W p l e R s m args below meth c H locs 0 0 Q (F0 m 156 ls [])) (x1 : Int32) (x4 : Int32) (x5 : Int32) (x6 : Int32) (z0 : Int32) (F : PF) (G : PG) (hm : mb_call_199 fu rc ag_156 x1 x4 x5 x6 z0 F G = some res) {H : Heap} {locs : List Loc} (hw : mMW s A v a F G H locs) {ls : Array Slot} (hl : lv_has ls 7 [(0, .ref (a 212)), (1, .int x1), (4, .int x4), (5, .int x5), (6, .int x6)]) : W p l e R s m args below meth c H locs 0 0 Q (F0 m 199 ls [.int z0, .ref (a 212)]) := by
  have hx := C.1
  have hb := C.2.1
  unfold mb_call_199 at hm
  refine lv_iconst (v := 0) hx hb dX12_call_199 (by decide) ?_
  exact mw_call_200 fu rc hr C hret ag_156 hag_156 x1 x4 x5 x6 0 z0 F G hm hw (lv_sub hl [0, 1, 2, 3, 4] rfl)
theorem mw_call_195 (fu : Nat) (rc : RC) {dd : Nat} (hr : mH1 l v a rc dd) {res : Int32 × PF × PG} (C : mMC p R s m args c A v RX12 cX12_call 7 (dd + 1 + 3) (60 * (dd + 1) + 64)) (hret : ∀ (H1 : Heap) (locs1 : List Loc) (ls1 : Array Slot) (pc : Nat), mMW s A v a res.2.1 res.2.2 H1 locs1 → narrow .boolean (.int res.1) = .int res.1 → decode cX12_call pc = .ok (.ireturn, 1) → W p l e R s m args below meth c H1 locs1 0 0 Q (F0 m pc ls1 [.int res.1])) (ag_156 : Int32 → Int32 → Int32 → Int32 → PF → PG → PR) (hag_156 : ∀ (x1 : Int32) (x4 : Int32) (x5 : Int32) (x6 : Int32) (F : PF) (G : PG), ag_156 x1 x4 x5 x6 F G = some res → ∀ (H : Heap) (locs : List Loc) (ls : Array Slot), mMW s A v a F G H locs → lv_has ls 7 [(0, .ref (a 212)), (1, .int x1), (4, .int x4), (5, .int x5), (6, .int x6)] → W p l e R s m args below meth c H locs 0 0 Q (F0 m 156 ls [])) (x1 : Int32) (x4 : Int32) (x5 : Int32) (x6 : Int32) (z0 : Int32) (F : PF) (G : PG) (hm : mb_call_195 fu rc ag_156 x1 x4 x5 x6 z0 F G = some res) {H : Heap} {locs : List Loc} (hw : mMW s A v a F G H locs) {ls : Array Slot} (hl : lv_has ls 7 [(0, .ref (a 212)), (1, .int x1), (4, .int x4), (5, .int x5), (6, .int x6)]) : W p l e R s m args below meth c H locs 0 0 Q (F0 m 195 ls [.int z0, .ref (a 212)]) := by
  have hx := C.1
  have hb := C.2.1
  unfold mb_call_195 at hm
  refine lv_iconst (v := 1) hx hb dX12_call_195 (by decide) ?_
  refine lv_goto (tgt := 200) hx hb dX12_call_196 (by decide) ?_
  exact mw_call_200 fu rc hr C hret ag_156 hag_156 x1 x4 x5 x6 1 z0 F G hm hw (lv_sub hl [0, 1, 2, 3, 4] rfl)
theorem mw_call_183 (fu : Nat) (rc : RC) {dd : Nat} (hr : mH1 l v a rc dd) {res : Int32 × PF × PG} (C : mMC p R s m args c A v RX12 cX12_call 7 (dd + 1 + 3) (60 * (dd + 1) + 64)) (hret : ∀ (H1 : Heap) (locs1 : List Loc) (ls1 : Array Slot) (pc : Nat), mMW s A v a res.2.1 res.2.2 H1 locs1 → narrow .boolean (.int res.1) = .int res.1 → decode cX12_call pc = .ok (.ireturn, 1) → W p l e R s m args below meth c H1 locs1 0 0 Q (F0 m pc ls1 [.int res.1])) (ag_156 : Int32 → Int32 → Int32 → Int32 → PF → PG → PR) (hag_156 : ∀ (x1 : Int32) (x4 : Int32) (x5 : Int32) (x6 : Int32) (F : PF) (G : PG), ag_156 x1 x4 x5 x6 F G = some res → ∀ (H : Heap) (locs : List Loc) (ls : Array Slot), mMW s A v a F G H locs → lv_has ls 7 [(0, .ref (a 212)), (1, .int x1), (4, .int x4), (5, .int x5), (6, .int x6)] → W p l e R s m args below meth c H locs 0 0 Q (F0 m 156 ls [])) (x1 : Int32) (x4 : Int32) (x5 : Int32) (z0 : Int32) (F : PF) (G : PG) (hm : mb_call_183 fu rc ag_156 x1 x4 x5 z0 F G = some res) {H : Heap} {locs : List Loc} (hw : mMW s A v a F G H locs) {ls : Array Slot} (hl : lv_has ls 7 [(0, .ref (a 212)), (1, .int x1), (4, .int x4), (5, .int x5)]) : W p l e R s m args below meth c H locs 0 0 Q (F0 m 183 ls [.int z0]) := by
  have hx := C.1
  have hb := C.2.1
  unfold mb_call_183 at hm
  refine lv_istore (lv' := [(6, .int z0), (0, .ref (a 212)), (1, .int x1), (4, .int x4), (5, .int x5)]) hx hb dX12_call_183 hl (by decide) rfl (fun ls hl => ?_)
  refine lv_aload_n hx hb dX12_call_185 rfl (lv_at hl 1 rfl) ?_
  refine lv_dup hx hb dX12_call_186 rfl ?_
  refine mg_X12_233 C hw dX12_call_187 ?_
  refine lv_iload hx hb dX12_call_190 (lv_at hl 0 rfl) ?_
  refine lv_if_eq (tgt := 199) hx hb dX12_call_192 (by decide) (fun c_1 => ?_) (fun c_1 => ?_)
  · have hm := (if_pos c_1).symm.trans hm
    exact mw_call_199 fu rc hr C hret ag_156 hag_156 x1 x4 x5 z0 (F 42) F G hm hw (lv_sub hl [1, 2, 3, 4, 0] rfl)
  · have hm := (if_neg c_1).symm.trans hm
    exact mw_call_195 fu rc hr C hret ag_156 hag_156 x1 x4 x5 z0 (F 42) F G hm hw (lv_sub hl [1, 2, 3, 4, 0] rfl)
theorem mw_call_174 (fu : Nat) (rc : RC) {dd : Nat} (hr : mH1 l v a rc dd) {res : Int32 × PF × PG} (C : mMC p R s m args c A v RX12 cX12_call 7 (dd + 1 + 3) (60 * (dd + 1) + 64)) (hret : ∀ (H1 : Heap) (locs1 : List Loc) (ls1 : Array Slot) (pc : Nat), mMW s A v a res.2.1 res.2.2 H1 locs1 → narrow .boolean (.int res.1) = .int res.1 → decode cX12_call pc = .ok (.ireturn, 1) → W p l e R s m args below meth c H1 locs1 0 0 Q (F0 m pc ls1 [.int res.1])) (ag_156 : Int32 → Int32 → Int32 → Int32 → PF → PG → PR) (hag_156 : ∀ (x1 : Int32) (x4 : Int32) (x5 : Int32) (x6 : Int32) (F : PF) (G : PG), ag_156 x1 x4 x5 x6 F G = some res → ∀ (H : Heap) (locs : List Loc) (ls : Array Slot), mMW s A v a F G H locs → lv_has ls 7 [(0, .ref (a 212)), (1, .int x1), (4, .int x4), (5, .int x5), (6, .int x6)] → W p l e R s m args below meth c H locs 0 0 Q (F0 m 156 ls [])) (x1 : Int32) (x4 : Int32) (x5 : Int32) (F : PF) (G : PG) (hm : mb_call_174 fu rc ag_156 x1 x4 x5 F G = some res) {H : Heap} {locs : List Loc} (hw : mMW s A v a F G H locs) {ls : Array Slot} (hl : lv_has ls 7 [(0, .ref (a 212)), (1, .int x1), (4, .int x4), (5, .int x5)]) : W p l e R s m args below meth c H locs 0 0 Q (F0 m 174 ls []) := by
  have hx := C.1
  have hb := C.2.1
  unfold mb_call_174 at hm
  refine lv_iinc (v := (x5 + 1)) (lv' := [(5, .int (x5 + 1)), (0, .ref (a 212)), (1, .int x1), (4, .int x4)]) hx hb dX12_call_174 hl (k := 3) rfl (by rfl) (by decide) rfl (fun ls hl => ?_)
  refine lv_aload_n hx hb dX12_call_177 rfl (lv_at hl 1 rfl) ?_
  refine lv_bipush (v := 28) hx hb dX12_call_178 (by decide) ?_
  obtain ⟨⟨r1, F1, G1⟩, hc, hm⟩ := bind_elim hm
  refine mcallI (n := 1) (As := [.int 28]) (rest := []) C hw (mk_isSign l v a _ fu 28 F G r1 F1 G1 hc) (mrecv_X12 C hw) mm_183 mm_184 mm_185 mm_27 mm_186 (by decide +kernel) rfl (by omega) (by omega) hl.1 rfl (Nat.le_of_ble_eq_true rfl) dX12_call_180 (fun H locs hw => ?_)
  exact mw_call_183 fu rc hr C hret ag_156 hag_156 x1 x4 (x5 + 1) r1 F1 G1 hm hw (lv_sub hl [1, 2, 3, 0] rfl)
theorem mw_call_172 (fu : Nat) (rc : RC) {dd : Nat} (hr : mH1 l v a rc dd) {res : Int32 × PF × PG} (C : mMC p R s m args c A v RX12 cX12_call 7 (dd + 1 + 3) (60 * (dd + 1) + 64)) (hret : ∀ (H1 : Heap) (locs1 : List Loc) (ls1 : Array Slot) (pc : Nat), mMW s A v a res.2.1 res.2.2 H1 locs1 → narrow .boolean (.int res.1) = .int res.1 → decode cX12_call pc = .ok (.ireturn, 1) → W p l e R s m args below meth c H1 locs1 0 0 Q (F0 m pc ls1 [.int res.1])) (F : PF) (G : PG) (hm : mb_call_172 fu rc F G = some res) {H : Heap} {locs : List Loc} (hw : mMW s A v a F G H locs) {ls : Array Slot} (hl : lv_has ls 7 []) : W p l e R s m args below meth c H locs 0 0 Q (F0 m 172 ls []) := by
  have hx := C.1
  have hb := C.2.1
  unfold mb_call_172 at hm
  refine lv_iconst (v := 0) hx hb dX12_call_172 (by decide) ?_
  obtain rfl := Option.some.inj hm
  exact hret _ _ _ _ hw (b01_nar (v := 0) (Or.inl rfl)) dX12_call_173
theorem mw_call_169 (fu : Nat) (rc : RC) {dd : Nat} (hr : mH1 l v a rc dd) {res : Int32 × PF × PG} (C : mMC p R s m args c A v RX12 cX12_call 7 (dd + 1 + 3) (60 * (dd + 1) + 64)) (hret : ∀ (H1 : Heap) (locs1 : List Loc) (ls1 : Array Slot) (pc : Nat), mMW s A v a res.2.1 res.2.2 H1 locs1 → narrow .boolean (.int res.1) = .int res.1 → decode cX12_call pc = .ok (.ireturn, 1) → W p l e R s m args below meth c H1 locs1 0 0 Q (F0 m pc ls1 [.int res.1])) (ag_156 : Int32 → Int32 → Int32 → Int32 → PF → PG → PR) (hag_156 : ∀ (x1 : Int32) (x4 : Int32) (x5 : Int32) (x6 : Int32) (F : PF) (G : PG), ag_156 x1 x4 x5 x6 F G = some res → ∀ (H : Heap) (locs : List Loc) (ls : Array Slot), mMW s A v a F G H locs → lv_has ls 7 [(0, .ref (a 212)), (1, .int x1), (4, .int x4), (5, .int x5), (6, .int x6)] → W p l e R s m args below meth c H locs 0 0 Q (F0 m 156 ls [])) (x1 : Int32) (x4 : Int32) (x5 : Int32) (z0 : Int32) (F : PF) (G : PG) (hm : mb_call_169 fu rc ag_156 x1 x4 x5 z0 F G = some res) {H : Heap} {locs : List Loc} (hw : mMW s A v a F G H locs) {ls : Array Slot} (hl : lv_has ls 7 [(0, .ref (a 212)), (1, .int x1), (4, .int x4), (5, .int x5)]) : W p l e R s m args below meth c H locs 0 0 Q (F0 m 169 ls [.int z0]) := by
  have hx := C.1
  have hb := C.2.1
  unfold mb_call_169 at hm
  refine lv_if_ne (tgt := 174) hx hb dX12_call_169 (by decide) (fun c_1 => ?_) (fun c_1 => ?_)
  · have hm := (if_neg c_1).symm.trans hm
    exact mw_call_174 fu rc hr C hret ag_156 hag_156 x1 x4 x5 F G hm hw (lv_sub hl [0, 1, 2, 3] rfl)
  · have hm := (if_pos c_1).symm.trans hm
    exact mw_call_172 fu rc hr C hret F G hm hw (lv_sub hl [] rfl)
theorem mw_call_161 (fu : Nat) (rc : RC) {dd : Nat} (hr : mH1 l v a rc dd) {res : Int32 × PF × PG} (C : mMC p R s m args c A v RX12 cX12_call 7 (dd + 1 + 3) (60 * (dd + 1) + 64)) (hret : ∀ (H1 : Heap) (locs1 : List Loc) (ls1 : Array Slot) (pc : Nat), mMW s A v a res.2.1 res.2.2 H1 locs1 → narrow .boolean (.int res.1) = .int res.1 → decode cX12_call pc = .ok (.ireturn, 1) → W p l e R s m args below meth c H1 locs1 0 0 Q (F0 m pc ls1 [.int res.1])) (ag_156 : Int32 → Int32 → Int32 → Int32 → PF → PG → PR) (hag_156 : ∀ (x1 : Int32) (x4 : Int32) (x5 : Int32) (x6 : Int32) (F : PF) (G : PG), ag_156 x1 x4 x5 x6 F G = some res → ∀ (H : Heap) (locs : List Loc) (ls : Array Slot), mMW s A v a F G H locs → lv_has ls 7 [(0, .ref (a 212)), (1, .int x1), (4, .int x4), (5, .int x5), (6, .int x6)] → W p l e R s m args below meth c H locs 0 0 Q (F0 m 156 ls [])) (x1 : Int32) (x4 : Int32) (x5 : Int32) (F : PF) (G : PG) (hm : mb_call_161 fu rc ag_156 x1 x4 x5 F G = some res) {H : Heap} {locs : List Loc} (hw : mMW s A v a F G H locs) {ls : Array Slot} (hl : lv_has ls 7 [(0, .ref (a 212)), (1, .int x1), (4, .int x4), (5, .int x5)]) : W p l e R s m args below meth c H locs 0 0 Q (F0 m 161 ls []) := by
  have hx := C.1
  have hb := C.2.1
  unfold mb_call_161 at hm
  refine lv_aload_n hx hb dX12_call_161 rfl (lv_at hl 0 rfl) ?_
  refine lv_iload hx hb dX12_call_162 (lv_at hl 2 rfl) ?_
  refine lv_iload hx hb dX12_call_164 (lv_at hl 3 rfl) ?_
  obtain ⟨⟨r1, F1, G1⟩, hc, hm⟩ := bind_elim hm
  refine mcallI (n := 2) (As := [.int x4, .int x5]) (rest := []) C hw (hr.1 _ x4 x5 F G r1 F1 G1 hc) (mrecv_X12 C hw) mm_245 mm_246 mm_247 mm_27 mm_209 (by decide +kernel) rfl (by omega) (by omega) hl.1 rfl (Nat.le_of_ble_eq_true rfl) dX12_call_166 (fun H locs hw => ?_)
  exact mw_call_169 fu rc hr C hret ag_156 hag_156 x1 x4 x5 r1 F1 G1 hm hw (lv_sub hl [0, 1, 2, 3] rfl)
theorem mw_call_156 (fu : Nat) (rc : RC) {dd : Nat} (hr : mH1 l v a rc dd) {res : Int32 × PF × PG} (C : mMC p R s m args c A v RX12 cX12_call 7 (dd + 1 + 3) (60 * (dd + 1) + 64)) (hret : ∀ (H1 : Heap) (locs1 : List Loc) (ls1 : Array Slot) (pc : Nat), mMW s A v a res.2.1 res.2.2 H1 locs1 → narrow .boolean (.int res.1) = .int res.1 → decode cX12_call pc = .ok (.ireturn, 1) → W p l e R s m args below meth c H1 locs1 0 0 Q (F0 m pc ls1 [.int res.1])) (ag_156 : Int32 → Int32 → Int32 → Int32 → PF → PG → PR) (hag_156 : ∀ (x1 : Int32) (x4 : Int32) (x5 : Int32) (x6 : Int32) (F : PF) (G : PG), ag_156 x1 x4 x5 x6 F G = some res → ∀ (H : Heap) (locs : List Loc) (ls : Array Slot), mMW s A v a F G H locs → lv_has ls 7 [(0, .ref (a 212)), (1, .int x1), (4, .int x4), (5, .int x5), (6, .int x6)] → W p l e R s m args below meth c H locs 0 0 Q (F0 m 156 ls [])) (x1 : Int32) (x4 : Int32) (x5 : Int32) (x6 : Int32) (F : PF) (G : PG) (hm : mb_call_156 fu rc ag_156 x1 x4 x5 x6 F G = some res) {H : Heap} {locs : List Loc} (hw : mMW s A v a F G H locs) {ls : Array Slot} (hl : lv_has ls 7 [(0, .ref (a 212)), (1, .int x1), (4, .int x4), (5, .int x5), (6, .int x6)]) : W p l e R s m args below meth c H locs 0 0 Q (F0 m 156 ls []) := by
  have hx := C.1
  have hb := C.2.1
  unfold mb_call_156 at hm
  refine lv_iload hx hb dX12_call_156 (lv_at hl 4 rfl) ?_
  refine lv_if_eq (tgt := 207) hx hb dX12_call_158 (by decide) (fun c_1 => ?_) (fun c_1 => ?_)
  · have hm := (if_pos c_1).symm.trans hm
    exact mw_call_207 fu rc hr C hret x1 x4 x5 F G hm hw (lv_sub hl [0, 1, 2, 3] rfl)
  · have hm := (if_neg c_1).symm.trans hm
    exact mw_call_161 fu rc hr C hret ag_156 hag_156 x1 x4 x5 F G hm hw (lv_sub hl [0, 1, 2, 3] rfl)
theorem mwl_call_156 (fu : Nat) (rc : RC) {dd : Nat} (hr : mH1 l v a rc dd) {res : Int32 × PF × PG} (C : mMC p R s m args c A v RX12 cX12_call 7 (dd + 1 + 3) (60 * (dd + 1) + 64)) (hret : ∀ (H1 : Heap) (locs1 : List Loc) (ls1 : Array Slot) (pc : Nat), mMW s A v a res.2.1 res.2.2 H1 locs1 → narrow .boolean (.int res.1) = .int res.1 → decode cX12_call pc = .ok (.ireturn, 1) → W p l e R s m args below meth c H1 locs1 0 0 Q (F0 m pc ls1 [.int res.1])) : ∀ (n : Nat) (x1 : Int32) (x4 : Int32) (x5 : Int32) (x6 : Int32) (F : PF) (G : PG) (hm : ml_call_156 fu rc n x1 x4 x5 x6 F G = some res) {H : Heap} {locs : List Loc} (hw : mMW s A v a F G H locs) {ls : Array Slot} (hl : lv_has ls 7 [(0, .ref (a 212)), (1, .int x1), (4, .int x4), (5, .int x5), (6, .int x6)]), W p l e R s m args below meth c H locs 0 0 Q (F0 m 156 ls []) := by
  intro n
  induction n with
  | zero =>
    intro x1 x4 x5 x6 F G hm
    exact no_elim (show (none : PR) = some res from hm)
  | succ n ih =>
    intro x1 x4 x5 x6 F G hm H locs hw ls hl
    exact mw_call_156 fu rc hr C hret (ml_call_156 fu rc n) (fun x1 x4 x5 x6 F G hm H locs ls hw hl => ih x1 x4 x5 x6 F G hm hw hl) x1 x4 x5 x6 F G hm hw hl
theorem mw_call_154 (fu : Nat) (rc : RC) {dd : Nat} (hr : mH1 l v a rc dd) {res : Int32 × PF × PG} (C : mMC p R s m args c A v RX12 cX12_call 7 (dd + 1 + 3) (60 * (dd + 1) + 64)) (hret : ∀ (H1 : Heap) (locs1 : List Loc) (ls1 : Array Slot) (pc : Nat), mMW s A v a res.2.1 res.2.2 H1 locs1 → narrow .boolean (.int res.1) = .int res.1 → decode cX12_call pc = .ok (.ireturn, 1) → W p l e R s m args below meth c H1 locs1 0 0 Q (F0 m pc ls1 [.int res.1])) (x1 : Int32) (x4 : Int32) (x5 : Int32) (z0 : Int32) (F : PF) (G : PG) (hm : mb_call_154 fu rc x1 x4 x5 z0 F G = some res) {H : Heap} {locs : List Loc} (hw : mMW s A v a F G H locs) {ls : Array Slot} (hl : lv_has ls 7 [(0, .ref (a 212)), (1, .int x1), (4, .int x4), (5, .int x5)]) : W p l e R s m args below meth c H locs 0 0 Q (F0 m 154 ls [.int z0]) := by
  have hx := C.1
  have hb := C.2.1
  unfold mb_call_154 at hm
  refine lv_istore (lv' := [(6, .int z0), (0, .ref (a 212)), (1, .int x1), (4, .int x4), (5, .int x5)]) hx hb dX12_call_154 hl (by decide) rfl (fun ls hl => ?_)
  exact mwl_call_156 fu rc hr C hret fu x1 x4 x5 z0 F G hm hw (lv_sub hl [1, 2, 3, 4, 0] rfl)
theorem mw_call_153 (fu : Nat) (rc : RC) {dd : Nat} (hr : mH1 l v a rc dd) {res : Int32 × PF × PG} (C : mMC p R s m args c A v RX12 cX12_call 7 (dd + 1 + 3) (60 * (dd + 1) + 64)) (hret : ∀ (H1 : Heap) (locs1 : List Loc) (ls1 : Array Slot) (pc : Nat), mMW s A v a res.2.1 res.2.2 H1 locs1 → narrow .boolean (.int res.1) = .int res.1 → decode cX12_call pc = .ok (.ireturn, 1) → W p l e R s m args below meth c H1 locs1 0 0 Q (F0 m pc ls1 [.int res.1])) (x1 : Int32) (x4 : Int32) (x5 : Int32) (F : PF) (G : PG) (hm : mb_call_153 fu rc x1 x4 x5 F G = some res) {H : Heap} {locs : List Loc} (hw : mMW s A v a F G H locs) {ls : Array Slot} (hl : lv_has ls 7 [(0, .ref (a 212)), (1, .int x1), (4, .int x4), (5, .int x5)]) : W p l e R s m args below meth c H locs 0 0 Q (F0 m 153 ls []) := by
  have hx := C.1
  have hb := C.2.1
  unfold mb_call_153 at hm
  refine lv_iconst (v := 0) hx hb dX12_call_153 (by decide) ?_
  exact mw_call_154 fu rc hr C hret x1 x4 x5 0 F G hm hw (lv_sub hl [0, 1, 2, 3] rfl)
theorem mw_call_149 (fu : Nat) (rc : RC) {dd : Nat} (hr : mH1 l v a rc dd) {res : Int32 × PF × PG} (C : mMC p R s m args c A v RX12 cX12_call 7 (dd + 1 + 3) (60 * (dd + 1) + 64)) (hret : ∀ (H1 : Heap) (locs1 : List Loc) (ls1 : Array Slot) (pc : Nat), mMW s A v a res.2.1 res.2.2 H1 locs1 → narrow .boolean (.int res.1) = .int res.1 → decode cX12_call pc = .ok (.ireturn, 1) → W p l e R s m args below meth c H1 locs1 0 0 Q (F0 m pc ls1 [.int res.1])) (x1 : Int32) (x4 : Int32) (x5 : Int32) (F : PF) (G : PG) (hm : mb_call_149 fu rc x1 x4 x5 F G = some res) {H : Heap} {locs : List Loc} (hw : mMW s A v a F G H locs) {ls : Array Slot} (hl : lv_has ls 7 [(0, .ref (a 212)), (1, .int x1), (4, .int x4), (5, .int x5)]) : W p l e R s m args below meth c H locs 0 0 Q (F0 m 149 ls []) := by
  have hx := C.1
  have hb := C.2.1
  unfold mb_call_149 at hm
  refine lv_iconst (v := 1) hx hb dX12_call_149 (by decide) ?_
  refine lv_goto (tgt := 154) hx hb dX12_call_150 (by decide) ?_
  exact mw_call_154 fu rc hr C hret x1 x4 x5 1 F G hm hw (lv_sub hl [0, 1, 2, 3] rfl)
theorem mw_call_146 (fu : Nat) (rc : RC) {dd : Nat} (hr : mH1 l v a rc dd) {res : Int32 × PF × PG} (C : mMC p R s m args c A v RX12 cX12_call 7 (dd + 1 + 3) (60 * (dd + 1) + 64)) (hret : ∀ (H1 : Heap) (locs1 : List Loc) (ls1 : Array Slot) (pc : Nat), mMW s A v a res.2.1 res.2.2 H1 locs1 → narrow .boolean (.int res.1) = .int res.1 → decode cX12_call pc = .ok (.ireturn, 1) → W p l e R s m args below meth c H1 locs1 0 0 Q (F0 m pc ls1 [.int res.1])) (x1 : Int32) (x4 : Int32) (x5 : Int32) (z0 : Int32) (F : PF) (G : PG) (hm : mb_call_146 fu rc x1 x4 x5 z0 F G = some res) {H : Heap} {locs : List Loc} (hw : mMW s A v a F G H locs) {ls : Array Slot} (hl : lv_has ls 7 [(0, .ref (a 212)), (1, .int x1), (4, .int x4), (5, .int x5)]) : W p l e R s m args below meth c H locs 0 0 Q (F0 m 146 ls [.int z0]) := by
  have hx := C.1
  have hb := C.2.1
  unfold mb_call_146 at hm
  refine lv_if_ne (tgt := 153) hx hb dX12_call_146 (by decide) (fun c_1 => ?_) (fun c_1 => ?_)
  · have hm := (if_neg c_1).symm.trans hm
    exact mw_call_153 fu rc hr C hret x1 x4 x5 F G hm hw (lv_sub hl [0, 1, 2, 3] rfl)
  · have hm := (if_pos c_1).symm.trans hm
    exact mw_call_149 fu rc hr C hret x1 x4 x5 F G hm hw (lv_sub hl [0, 1, 2, 3] rfl)
theorem mw_call_137 (fu : Nat) (rc : RC) {dd : Nat} (hr : mH1 l v a rc dd) {res : Int32 × PF × PG} (C : mMC p R s m args c A v RX12 cX12_call 7 (dd + 1 + 3) (60 * (dd + 1) + 64)) (hret : ∀ (H1 : Heap) (locs1 : List Loc) (ls1 : Array Slot) (pc : Nat), mMW s A v a res.2.1 res.2.2 H1 locs1 → narrow .boolean (.int res.1) = .int res.1 → decode cX12_call pc = .ok (.ireturn, 1) → W p l e R s m args below meth c H1 locs1 0 0 Q (F0 m pc ls1 [.int res.1])) (x1 : Int32) (x4 : Int32) (F : PF) (G : PG) (hm : mb_call_137 fu rc x1 x4 F G = some res) {H : Heap} {locs : List Loc} (hw : mMW s A v a F G H locs) {ls : Array Slot} (hl : lv_has ls 7 [(0, .ref (a 212)), (1, .int x1), (4, .int x4)]) : W p l e R s m args below meth c H locs 0 0 Q (F0 m 137 ls []) := by
  have hx := C.1
  have hb := C.2.1
  unfold mb_call_137 at hm
  refine lv_iconst (v := 0) hx hb dX12_call_137 (by decide) ?_
  refine lv_istore (lv' := [(5, .int 0), (0, .ref (a 212)), (1, .int x1), (4, .int x4)]) hx hb dX12_call_138 hl (by decide) rfl (fun ls hl => ?_)
  refine lv_aload_n hx hb dX12_call_140 rfl (lv_at hl 1 rfl) ?_
  refine lv_bipush (v := 23) hx hb dX12_call_141 (by decide) ?_
  obtain ⟨⟨r1, F1, G1⟩, hc, hm⟩ := bind_elim hm
  refine mcallI (n := 1) (As := [.int 23]) (rest := []) C hw (mk_isSign l v a _ fu 23 F G r1 F1 G1 hc) (mrecv_X12 C hw) mm_183 mm_184 mm_185 mm_27 mm_186 (by decide +kernel) rfl (by omega) (by omega) hl.1 rfl (Nat.le_of_ble_eq_true rfl) dX12_call_143 (fun H locs hw => ?_)
  exact mw_call_146 fu rc hr C hret x1 x4 0 r1 F1 G1 hm hw (lv_sub hl [1, 2, 3, 0] rfl)
theorem mw_call_135 (fu : Nat) (rc : RC) {dd : Nat} (hr : mH1 l v a rc dd) {res : Int32 × PF × PG} (C : mMC p R s m args c A v RX12 cX12_call 7 (dd + 1 + 3) (60 * (dd + 1) + 64)) (hret : ∀ (H1 : Heap) (locs1 : List Loc) (ls1 : Array Slot) (pc : Nat), mMW s A v a res.2.1 res.2.2 H1 locs1 → narrow .boolean (.int res.1) = .int res.1 → decode cX12_call pc = .ok (.ireturn, 1) → W p l e R s m args below meth c H1 locs1 0 0 Q (F0 m pc ls1 [.int res.1])) (F : PF) (G : PG) (hm : mb_call_135 fu rc F G = some res) {H : Heap} {locs : List Loc} (hw : mMW s A v a F G H locs) {ls : Array Slot} (hl : lv_has ls 7 []) : W p l e R s m args below meth c H locs 0 0 Q (F0 m 135 ls []) := by
  have hx := C.1
  have hb := C.2.1
  unfold mb_call_135 at hm
  refine lv_iconst (v := 0) hx hb dX12_call_135 (by decide) ?_
  obtain rfl := Option.some.inj hm
  exact hret _ _ _ _ hw (b01_nar (v := 0) (Or.inl rfl)) dX12_call_136
theorem mw_call_132 (fu : Nat) (rc : RC) {dd : Nat} (hr : mH1 l v a rc dd) {res : Int32 × PF × PG} (C : mMC p R s m args c A v RX12 cX12_call 7 (dd + 1 + 3) (60 * (dd + 1) + 64)) (hret : ∀ (H1 : Heap) (locs1 : List Loc) (ls1 : Array Slot) (pc : Nat), mMW s A v a res.2.1 res.2.2 H1 locs1 → narrow .boolean (.int res.1) = .int res.1 → decode cX12_call pc = .ok (.ireturn, 1) → W p l e R s m args below meth c H1 locs1 0 0 Q (F0 m pc ls1 [.int res.1])) (x1 : Int32) (x4 : Int32) (z0 : Int32) (F : PF) (G : PG) (hm : mb_call_132 fu rc x1 x4 z0 F G = some res) {H : Heap} {locs : List Loc} (hw : mMW s A v a F G H locs) {ls : Array Slot} (hl : lv_has ls 7 [(0, .ref (a 212)), (1, .int x1), (4, .int x4)]) : W p l e R s m args below meth c H locs 0 0 Q (F0 m 132 ls [.int z0]) := by
  have hx := C.1
  have hb := C.2.1
  unfold mb_call_132 at hm
  refine lv_if_ne (tgt := 137) hx hb dX12_call_132 (by decide) (fun c_1 => ?_) (fun c_1 => ?_)
  · have hm := (if_neg c_1).symm.trans hm
    exact mw_call_137 fu rc hr C hret x1 x4 F G hm hw (lv_sub hl [0, 1, 2] rfl)
  · have hm := (if_pos c_1).symm.trans hm
    exact mw_call_135 fu rc hr C hret F G hm hw (lv_sub hl [] rfl)
theorem mw_call_126 (fu : Nat) (rc : RC) {dd : Nat} (hr : mH1 l v a rc dd) {res : Int32 × PF × PG} (C : mMC p R s m args c A v RX12 cX12_call 7 (dd + 1 + 3) (60 * (dd + 1) + 64)) (hret : ∀ (H1 : Heap) (locs1 : List Loc) (ls1 : Array Slot) (pc : Nat), mMW s A v a res.2.1 res.2.2 H1 locs1 → narrow .boolean (.int res.1) = .int res.1 → decode cX12_call pc = .ok (.ireturn, 1) → W p l e R s m args below meth c H1 locs1 0 0 Q (F0 m pc ls1 [.int res.1])) (x1 : Int32) (x4 : Int32) (F : PF) (G : PG) (hm : mb_call_126 fu rc x1 x4 F G = some res) {H : Heap} {locs : List Loc} (hw : mMW s A v a F G H locs) {ls : Array Slot} (hl : lv_has ls 7 [(0, .ref (a 212)), (1, .int x1), (4, .int x4)]) : W p l e R s m args below meth c H locs 0 0 Q (F0 m 126 ls []) := by
  have hx := C.1
  have hb := C.2.1
  unfold mb_call_126 at hm
  refine lv_aload_n hx hb dX12_call_126 rfl (lv_at hl 0 rfl) ?_
  refine lv_bipush (v := 22) hx hb dX12_call_127 (by decide) ?_
  obtain ⟨⟨r1, F1, G1⟩, hc, hm⟩ := bind_elim hm
  refine mcallI (n := 1) (As := [.int 22]) (rest := []) C hw (mk_openSign l v a _ fu 22 F G r1 F1 G1 hc) (mrecv_X12 C hw) mm_241 mm_242 mm_243 mm_27 mm_244 (by decide +kernel) rfl (by omega) (by omega) hl.1 rfl (Nat.le_of_ble_eq_true rfl) dX12_call_129 (fun H locs hw => ?_)
  exact mw_call_132 fu rc hr C hret x1 x4 r1 F1 G1 hm hw (lv_sub hl [0, 1, 2] rfl)
theorem mw_call_114 (fu : Nat) (rc : RC) {dd : Nat} (hr : mH1 l v a rc dd) {res : Int32 × PF × PG} (C : mMC p R s m args c A v RX12 cX12_call 7 (dd + 1 + 3) (60 * (dd + 1) + 64)) (hret : ∀ (H1 : Heap) (locs1 : List Loc) (ls1 : Array Slot) (pc : Nat), mMW s A v a res.2.1 res.2.2 H1 locs1 → narrow .boolean (.int res.1) = .int res.1 → decode cX12_call pc = .ok (.ireturn, 1) → W p l e R s m args below meth c H1 locs1 0 0 Q (F0 m pc ls1 [.int res.1])) (x1 : Int32) (x4 : Int32) (F : PF) (G : PG) (hm : mb_call_114 fu rc x1 x4 F G = some res) {H : Heap} {locs : List Loc} (hw : mMW s A v a F G H locs) {ls : Array Slot} (hl : lv_has ls 7 [(0, .ref (a 212)), (1, .int x1), (4, .int x4)]) : W p l e R s m args below meth c H locs 0 0 Q (F0 m 114 ls []) := by
  have hx := C.1
  have hb := C.2.1
  unfold mb_call_114 at hm
  refine lv_aload_n hx hb dX12_call_114 rfl (lv_at hl 0 rfl) ?_
  refine lv_bipush (v := 8) hx hb dX12_call_115 (by decide) ?_
  refine lv_aload_n hx hb dX12_call_117 rfl (lv_at hl 0 rfl) ?_
  refine mg_X12_22 C hw dX12_call_118 ?_
  refine lv_iload_n hx hb dX12_call_121 rfl (lv_at hl 1 rfl) ?_
  obtain ⟨hi, hm⟩ := ix_elim hm
  refine mal_6 C hw hi dX12_call_122 ?_
  obtain ⟨⟨r1, F1, G1⟩, hc, hm⟩ := bind_elim hm
  refine mcallV (n := 2) (As := [.int 8, .int (G 6 x1.toNatClampNeg)]) (rest := []) C hw (mk_note l v a _ fu 8 (G 6 x1.toNatClampNeg) F G r1 F1 G1 hc) (mrecv_X12 C hw) mm_220 mm_221 mm_222 mm_27 mm_223 (by decide +kernel) rfl (by omega) (by omega) hl.1 rfl (Nat.le_of_ble_eq_true rfl) dX12_call_123 (fun H locs hw => ?_)
  exact mw_call_126 fu rc hr C hret x1 x4 F1 G1 hm hw (lv_sub hl [0, 1, 2] rfl)
theorem mw_call_104 (fu : Nat) (rc : RC) {dd : Nat} (hr : mH1 l v a rc dd) {res : Int32 × PF × PG} (C : mMC p R s m args c A v RX12 cX12_call 7 (dd + 1 + 3) (60 * (dd + 1) + 64)) (hret : ∀ (H1 : Heap) (locs1 : List Loc) (ls1 : Array Slot) (pc : Nat), mMW s A v a res.2.1 res.2.2 H1 locs1 → narrow .boolean (.int res.1) = .int res.1 → decode cX12_call pc = .ok (.ireturn, 1) → W p l e R s m args below meth c H1 locs1 0 0 Q (F0 m pc ls1 [.int res.1])) (x1 : Int32) (x4 : Int32) (F : PF) (G : PG) (hm : mb_call_104 fu rc x1 x4 F G = some res) {H : Heap} {locs : List Loc} (hw : mMW s A v a F G H locs) {ls : Array Slot} (hl : lv_has ls 7 [(0, .ref (a 212)), (1, .int x1), (4, .int x4)]) : W p l e R s m args below meth c H locs 0 0 Q (F0 m 104 ls []) := by
  have hx := C.1
  have hb := C.2.1
  unfold mb_call_104 at hm
  refine lv_aload_n hx hb dX12_call_104 rfl (lv_at hl 0 rfl) ?_
  refine mg_X12_86 C hw dX12_call_105 ?_
  refine lv_iload hx hb dX12_call_108 (lv_at hl 2 rfl) ?_
  obtain ⟨hi, hm⟩ := ix_elim hm
  refine mal_33 C hw hi dX12_call_110 ?_
  refine lv_if_eq (tgt := 126) hx hb dX12_call_111 (by decide) (fun c_1 => ?_) (fun c_1 => ?_)
  · have hm := (if_pos c_1).symm.trans hm
    exact mw_call_126 fu rc hr C hret x1 x4 F G hm hw (lv_sub hl [0, 1, 2] rfl)
  · have hm := (if_neg c_1).symm.trans hm
    exact mw_call_114 fu rc hr C hret x1 x4 F G hm hw (lv_sub hl [0, 1, 2] rfl)
theorem mw_call_100 (fu : Nat) (rc : RC) {dd : Nat} (hr : mH1 l v a rc dd) {res : Int32 × PF × PG} (C : mMC p R s m args c A v RX12 cX12_call 7 (dd + 1 + 3) (60 * (dd + 1) + 64)) (hret : ∀ (H1 : Heap) (locs1 : List Loc) (ls1 : Array Slot) (pc : Nat), mMW s A v a res.2.1 res.2.2 H1 locs1 → narrow .boolean (.int res.1) = .int res.1 → decode cX12_call pc = .ok (.ireturn, 1) → W p l e R s m args below meth c H1 locs1 0 0 Q (F0 m pc ls1 [.int res.1])) (x1 : Int32) (x2 : Int32) (x4 : Int32) (F : PF) (G : PG) (hm : mb_call_100 fu rc x1 x2 x4 F G = some res) {H : Heap} {locs : List Loc} (hw : mMW s A v a F G H locs) {ls : Array Slot} (hl : lv_has ls 7 [(0, .ref (a 212)), (1, .int x1), (2, .int x2), (4, .int x4)]) : W p l e R s m args below meth c H locs 0 0 Q (F0 m 100 ls []) := by
  have hx := C.1
  have hb := C.2.1
  unfold mb_call_100 at hm
  refine lv_iload_n hx hb dX12_call_100 rfl (lv_at hl 2 rfl) ?_
  refine lv_if_eq (tgt := 126) hx hb dX12_call_101 (by decide) (fun c_1 => ?_) (fun c_1 => ?_)
  · have hm := (if_pos c_1).symm.trans hm
    exact mw_call_126 fu rc hr C hret x1 x4 F G hm hw (lv_sub hl [0, 1, 3] rfl)
  · have hm := (if_neg c_1).symm.trans hm
    exact mw_call_104 fu rc hr C hret x1 x4 F G hm hw (lv_sub hl [0, 1, 3] rfl)
theorem mw_call_94 (fu : Nat) (rc : RC) {dd : Nat} (hr : mH1 l v a rc dd) {res : Int32 × PF × PG} (C : mMC p R s m args c A v RX12 cX12_call 7 (dd + 1 + 3) (60 * (dd + 1) + 64)) (hret : ∀ (H1 : Heap) (locs1 : List Loc) (ls1 : Array Slot) (pc : Nat), mMW s A v a res.2.1 res.2.2 H1 locs1 → narrow .boolean (.int res.1) = .int res.1 → decode cX12_call pc = .ok (.ireturn, 1) → W p l e R s m args below meth c H1 locs1 0 0 Q (F0 m pc ls1 [.int res.1])) (x1 : Int32) (x2 : Int32) (x4 : Int32) (F : PF) (G : PG) (hm : mb_call_94 fu rc x1 x2 x4 F G = some res) {H : Heap} {locs : List Loc} (hw : mMW s A v a F G H locs) {ls : Array Slot} (hl : lv_has ls 7 [(0, .ref (a 212)), (1, .int x1), (2, .int x2), (4, .int x4)]) : W p l e R s m args below meth c H locs 0 0 Q (F0 m 94 ls []) := by
  have hx := C.1
  have hb := C.2.1
  unfold mb_call_94 at hm
  refine lv_iload hx hb dX12_call_94 (lv_at hl 3 rfl) ?_
  refine lv_iconst (v := (-1)) hx hb dX12_call_96 (by decide) ?_
  refine lv_icmp_eq (tgt := 126) hx hb dX12_call_97 (by decide) (fun c_1 => ?_) (fun c_1 => ?_)
  · have hm := (if_pos c_1).symm.trans hm
    exact mw_call_126 fu rc hr C hret x1 x4 F G hm hw (lv_sub hl [0, 1, 3] rfl)
  · have hm := (if_neg c_1).symm.trans hm
    exact mw_call_100 fu rc hr C hret x1 x2 x4 F G hm hw (lv_sub hl [0, 1, 2, 3] rfl)
theorem mw_call_87 (fu : Nat) (rc : RC) {dd : Nat} (hr : mH1 l v a rc dd) {res : Int32 × PF × PG} (C : mMC p R s m args c A v RX12 cX12_call 7 (dd + 1 + 3) (60 * (dd + 1) + 64)) (hret : ∀ (H1 : Heap) (locs1 : List Loc) (ls1 : Array Slot) (pc : Nat), mMW s A v a res.2.1 res.2.2 H1 locs1 → narrow .boolean (.int res.1) = .int res.1 → decode cX12_call pc = .ok (.ireturn, 1) → W p l e R s m args below meth c H1 locs1 0 0 Q (F0 m pc ls1 [.int res.1])) (x1 : Int32) (x2 : Int32) (x4 : Int32) (F : PF) (G : PG) (hm : mb_call_87 fu rc x1 x2 x4 F G = some res) {H : Heap} {locs : List Loc} (hw : mMW s A v a F G H locs) {ls : Array Slot} (hl : lv_has ls 7 [(0, .ref (a 212)), (1, .int x1), (2, .int x2), (4, .int x4)]) : W p l e R s m args below meth c H locs 0 0 Q (F0 m 87 ls []) := by
  have hx := C.1
  have hb := C.2.1
  unfold mb_call_87 at hm
  refine lv_aload_n hx hb dX12_call_87 rfl (lv_at hl 0 rfl) ?_
  refine mg_X12_365 C hw dX12_call_88 ?_
  refine lv_if_ne (tgt := 126) hx hb dX12_call_91 (by decide) (fun c_1 => ?_) (fun c_1 => ?_)
  · have hm := (if_neg c_1).symm.trans hm
    exact mw_call_126 fu rc hr C hret x1 x4 F G hm hw (lv_sub hl [0, 1, 3] rfl)
  · have hm := (if_pos c_1).symm.trans hm
    exact mw_call_94 fu rc hr C hret x1 x2 x4 F G hm hw (lv_sub hl [0, 1, 2, 3] rfl)
theorem mw_call_75 (fu : Nat) (rc : RC) {dd : Nat} (hr : mH1 l v a rc dd) {res : Int32 × PF × PG} (C : mMC p R s m args c A v RX12 cX12_call 7 (dd + 1 + 3) (60 * (dd + 1) + 64)) (hret : ∀ (H1 : Heap) (locs1 : List Loc) (ls1 : Array Slot) (pc : Nat), mMW s A v a res.2.1 res.2.2 H1 locs1 → narrow .boolean (.int res.1) = .int res.1 → decode cX12_call pc = .ok (.ireturn, 1) → W p l e R s m args below meth c H1 locs1 0 0 Q (F0 m pc ls1 [.int res.1])) (x1 : Int32) (x2 : Int32) (x4 : Int32) (F : PF) (G : PG) (hm : mb_call_75 fu rc x1 x2 x4 F G = some res) {H : Heap} {locs : List Loc} (hw : mMW s A v a F G H locs) {ls : Array Slot} (hl : lv_has ls 7 [(0, .ref (a 212)), (1, .int x1), (2, .int x2), (4, .int x4)]) : W p l e R s m args below meth c H locs 0 0 Q (F0 m 75 ls []) := by
  have hx := C.1
  have hb := C.2.1
  unfold mb_call_75 at hm
  refine lv_aload_n hx hb dX12_call_75 rfl (lv_at hl 0 rfl) ?_
  refine lv_bipush (v := 6) hx hb dX12_call_76 (by decide) ?_
  refine lv_aload_n hx hb dX12_call_78 rfl (lv_at hl 0 rfl) ?_
  refine mg_X12_22 C hw dX12_call_79 ?_
  refine lv_iload_n hx hb dX12_call_82 rfl (lv_at hl 1 rfl) ?_
  obtain ⟨hi, hm⟩ := ix_elim hm
  refine mal_6 C hw hi dX12_call_83 ?_
  obtain ⟨⟨r1, F1, G1⟩, hc, hm⟩ := bind_elim hm
  refine mcallV (n := 2) (As := [.int 6, .int (G 6 x1.toNatClampNeg)]) (rest := []) C hw (mk_note l v a _ fu 6 (G 6 x1.toNatClampNeg) F G r1 F1 G1 hc) (mrecv_X12 C hw) mm_220 mm_221 mm_222 mm_27 mm_223 (by decide +kernel) rfl (by omega) (by omega) hl.1 rfl (Nat.le_of_ble_eq_true rfl) dX12_call_84 (fun H locs hw => ?_)
  exact mw_call_87 fu rc hr C hret x1 x2 x4 F1 G1 hm hw (lv_sub hl [0, 1, 2, 3] rfl)
theorem mw_call_70 (fu : Nat) (rc : RC) {dd : Nat} (hr : mH1 l v a rc dd) {res : Int32 × PF × PG} (C : mMC p R s m args c A v RX12 cX12_call 7 (dd + 1 + 3) (60 * (dd + 1) + 64)) (hret : ∀ (H1 : Heap) (locs1 : List Loc) (ls1 : Array Slot) (pc : Nat), mMW s A v a res.2.1 res.2.2 H1 locs1 → narrow .boolean (.int res.1) = .int res.1 → decode cX12_call pc = .ok (.ireturn, 1) → W p l e R s m args below meth c H1 locs1 0 0 Q (F0 m pc ls1 [.int res.1])) (x1 : Int32) (x2 : Int32) (x3 : Int32) (x4 : Int32) (F : PF) (G : PG) (hm : mb_call_70 fu rc x1 x2 x3 x4 F G = some res) {H : Heap} {locs : List Loc} (hw : mMW s A v a F G H locs) {ls : Array Slot} (hl : lv_has ls 7 [(0, .ref (a 212)), (1, .int x1), (2, .int x2), (3, .int x3), (4, .int x4)]) : W p l e R s m args below meth c H locs 0 0 Q (F0 m 70 ls []) := by
  have hx := C.1
  have hb := C.2.1
  unfold mb_call_70 at hm
  refine lv_iload_n hx hb dX12_call_70 rfl (lv_at hl 3 rfl) ?_
  refine lv_iconst (v := (-1)) hx hb dX12_call_71 (by decide) ?_
  refine lv_icmp_eq (tgt := 87) hx hb dX12_call_72 (by decide) (fun c_1 => ?_) (fun c_1 => ?_)
  · have hm := (if_pos c_1).symm.trans hm
    exact mw_call_87 fu rc hr C hret x1 x2 x4 F G hm hw (lv_sub hl [0, 1, 2, 4] rfl)
  · have hm := (if_neg c_1).symm.trans hm
    exact mw_call_75 fu rc hr C hret x1 x2 x4 F G hm hw (lv_sub hl [0, 1, 2, 4] rfl)
theorem mw_call_63 (fu : Nat) (rc : RC) {dd : Nat} (hr : mH1 l v a rc dd) {res : Int32 × PF × PG} (C : mMC p R s m args c A v RX12 cX12_call 7 (dd + 1 + 3) (60 * (dd + 1) + 64)) (hret : ∀ (H1 : Heap) (locs1 : List Loc) (ls1 : Array Slot) (pc : Nat), mMW s A v a res.2.1 res.2.2 H1 locs1 → narrow .boolean (.int res.1) = .int res.1 → decode cX12_call pc = .ok (.ireturn, 1) → W p l e R s m args below meth c H1 locs1 0 0 Q (F0 m pc ls1 [.int res.1])) (x1 : Int32) (x2 : Int32) (x3 : Int32) (x4 : Int32) (F : PF) (G : PG) (hm : mb_call_63 fu rc x1 x2 x3 x4 F G = some res) {H : Heap} {locs : List Loc} (hw : mMW s A v a F G H locs) {ls : Array Slot} (hl : lv_has ls 7 [(0, .ref (a 212)), (1, .int x1), (2, .int x2), (3, .int x3), (4, .int x4)]) : W p l e R s m args below meth c H locs 0 0 Q (F0 m 63 ls []) := by
  have hx := C.1
  have hb := C.2.1
  unfold mb_call_63 at hm
  refine lv_aload_n hx hb dX12_call_63 rfl (lv_at hl 0 rfl) ?_
  refine mg_X12_365 C hw dX12_call_64 ?_
  refine lv_if_ne (tgt := 87) hx hb dX12_call_67 (by decide) (fun c_1 => ?_) (fun c_1 => ?_)
  · have hm := (if_neg c_1).symm.trans hm
    exact mw_call_87 fu rc hr C hret x1 x2 x4 F G hm hw (lv_sub hl [0, 1, 2, 4] rfl)
  · have hm := (if_pos c_1).symm.trans hm
    exact mw_call_70 fu rc hr C hret x1 x2 x3 x4 F G hm hw (lv_sub hl [0, 1, 2, 3, 4] rfl)
theorem mw_call_52 (fu : Nat) (rc : RC) {dd : Nat} (hr : mH1 l v a rc dd) {res : Int32 × PF × PG} (C : mMC p R s m args c A v RX12 cX12_call 7 (dd + 1 + 3) (60 * (dd + 1) + 64)) (hret : ∀ (H1 : Heap) (locs1 : List Loc) (ls1 : Array Slot) (pc : Nat), mMW s A v a res.2.1 res.2.2 H1 locs1 → narrow .boolean (.int res.1) = .int res.1 → decode cX12_call pc = .ok (.ireturn, 1) → W p l e R s m args below meth c H1 locs1 0 0 Q (F0 m pc ls1 [.int res.1])) (x1 : Int32) (x2 : Int32) (x3 : Int32) (x4 : Int32) (F : PF) (G : PG) (hm : mb_call_52 fu rc x1 x2 x3 x4 F G = some res) {H : Heap} {locs : List Loc} (hw : mMW s A v a F G H locs) {ls : Array Slot} (hl : lv_has ls 7 [(0, .ref (a 212)), (1, .int x1), (2, .int x2), (3, .int x3), (4, .int x4)]) : W p l e R s m args below meth c H locs 0 0 Q (F0 m 52 ls []) := by
  have hx := C.1
  have hb := C.2.1
  unfold mb_call_52 at hm
  refine lv_aload_n hx hb dX12_call_52 rfl (lv_at hl 0 rfl) ?_
  refine lv_iconst (v := 4) hx hb dX12_call_53 (by decide) ?_
  refine lv_aload_n hx hb dX12_call_54 rfl (lv_at hl 0 rfl) ?_
  refine mg_X12_22 C hw dX12_call_55 ?_
  refine lv_iload_n hx hb dX12_call_58 rfl (lv_at hl 1 rfl) ?_
  obtain ⟨hi, hm⟩ := ix_elim hm
  refine mal_6 C hw hi dX12_call_59 ?_
  obtain ⟨⟨r1, F1, G1⟩, hc, hm⟩ := bind_elim hm
  refine mcallV (n := 2) (As := [.int 4, .int (G 6 x1.toNatClampNeg)]) (rest := []) C hw (mk_note l v a _ fu 4 (G 6 x1.toNatClampNeg) F G r1 F1 G1 hc) (mrecv_X12 C hw) mm_220 mm_221 mm_222 mm_27 mm_223 (by decide +kernel) rfl (by omega) (by omega) hl.1 rfl (Nat.le_of_ble_eq_true rfl) dX12_call_60 (fun H locs hw => ?_)
  exact mw_call_63 fu rc hr C hret x1 x2 x3 x4 F1 G1 hm hw (lv_sub hl [0, 1, 2, 3, 4] rfl)
theorem mw_call_46 (fu : Nat) (rc : RC) {dd : Nat} (hr : mH1 l v a rc dd) {res : Int32 × PF × PG} (C : mMC p R s m args c A v RX12 cX12_call 7 (dd + 1 + 3) (60 * (dd + 1) + 64)) (hret : ∀ (H1 : Heap) (locs1 : List Loc) (ls1 : Array Slot) (pc : Nat), mMW s A v a res.2.1 res.2.2 H1 locs1 → narrow .boolean (.int res.1) = .int res.1 → decode cX12_call pc = .ok (.ireturn, 1) → W p l e R s m args below meth c H1 locs1 0 0 Q (F0 m pc ls1 [.int res.1])) (x1 : Int32) (x2 : Int32) (x3 : Int32) (x4 : Int32) (F : PF) (G : PG) (hm : mb_call_46 fu rc x1 x2 x3 x4 F G = some res) {H : Heap} {locs : List Loc} (hw : mMW s A v a F G H locs) {ls : Array Slot} (hl : lv_has ls 7 [(0, .ref (a 212)), (1, .int x1), (2, .int x2), (3, .int x3), (4, .int x4)]) : W p l e R s m args below meth c H locs 0 0 Q (F0 m 46 ls []) := by
  have hx := C.1
  have hb := C.2.1
  unfold mb_call_46 at hm
  refine lv_iload hx hb dX12_call_46 (lv_at hl 4 rfl) ?_
  refine lv_iconst (v := (-1)) hx hb dX12_call_48 (by decide) ?_
  refine lv_icmp_ne (tgt := 63) hx hb dX12_call_49 (by decide) (fun c_1 => ?_) (fun c_1 => ?_)
  · have hm := (if_neg c_1).symm.trans hm
    exact mw_call_63 fu rc hr C hret x1 x2 x3 x4 F G hm hw (lv_sub hl [0, 1, 2, 3, 4] rfl)
  · have hm := (if_pos c_1).symm.trans hm
    exact mw_call_52 fu rc hr C hret x1 x2 x3 x4 F G hm hw (lv_sub hl [0, 1, 2, 3, 4] rfl)
theorem mw_call_41 (fu : Nat) (rc : RC) {dd : Nat} (hr : mH1 l v a rc dd) {res : Int32 × PF × PG} (C : mMC p R s m args c A v RX12 cX12_call 7 (dd + 1 + 3) (60 * (dd + 1) + 64)) (hret : ∀ (H1 : Heap) (locs1 : List Loc) (ls1 : Array Slot) (pc : Nat), mMW s A v a res.2.1 res.2.2 H1 locs1 → narrow .boolean (.int res.1) = .int res.1 → decode cX12_call pc = .ok (.ireturn, 1) → W p l e R s m args below meth c H1 locs1 0 0 Q (F0 m pc ls1 [.int res.1])) (x1 : Int32) (x2 : Int32) (x3 : Int32) (x4 : Int32) (F : PF) (G : PG) (hm : mb_call_41 fu rc x1 x2 x3 x4 F G = some res) {H : Heap} {locs : List Loc} (hw : mMW s A v a F G H locs) {ls : Array Slot} (hl : lv_has ls 7 [(0, .ref (a 212)), (1, .int x1), (2, .int x2), (3, .int x3), (4, .int x4)]) : W p l e R s m args below meth c H locs 0 0 Q (F0 m 41 ls []) := by
  have hx := C.1
  have hb := C.2.1
  unfold mb_call_41 at hm
  refine lv_iload_n hx hb dX12_call_41 rfl (lv_at hl 3 rfl) ?_
  refine lv_iconst (v := (-1)) hx hb dX12_call_42 (by decide) ?_
  refine lv_icmp_ne (tgt := 63) hx hb dX12_call_43 (by decide) (fun c_1 => ?_) (fun c_1 => ?_)
  · have hm := (if_neg c_1).symm.trans hm
    exact mw_call_63 fu rc hr C hret x1 x2 x3 x4 F G hm hw (lv_sub hl [0, 1, 2, 3, 4] rfl)
  · have hm := (if_pos c_1).symm.trans hm
    exact mw_call_46 fu rc hr C hret x1 x2 x3 x4 F G hm hw (lv_sub hl [0, 1, 2, 3, 4] rfl)
theorem mw_call_32 (fu : Nat) (rc : RC) {dd : Nat} (hr : mH1 l v a rc dd) {res : Int32 × PF × PG} (C : mMC p R s m args c A v RX12 cX12_call 7 (dd + 1 + 3) (60 * (dd + 1) + 64)) (hret : ∀ (H1 : Heap) (locs1 : List Loc) (ls1 : Array Slot) (pc : Nat), mMW s A v a res.2.1 res.2.2 H1 locs1 → narrow .boolean (.int res.1) = .int res.1 → decode cX12_call pc = .ok (.ireturn, 1) → W p l e R s m args below meth c H1 locs1 0 0 Q (F0 m pc ls1 [.int res.1])) (x1 : Int32) (x2 : Int32) (x3 : Int32) (z0 : Int32) (F : PF) (G : PG) (hm : mb_call_32 fu rc x1 x2 x3 z0 F G = some res) {H : Heap} {locs : List Loc} (hw : mMW s A v a F G H locs) {ls : Array Slot} (hl : lv_has ls 7 [(0, .ref (a 212)), (1, .int x1), (2, .int x2), (3, .int x3)]) : W p l e R s m args below meth c H locs 0 0 Q (F0 m 32 ls [.int z0]) := by
  have hx := C.1
  have hb := C.2.1
  unfold mb_call_32 at hm
  refine lv_istore (lv' := [(4, .int z0), (0, .ref (a 212)), (1, .int x1), (2, .int x2), (3, .int x3)]) hx hb dX12_call_32 hl (by decide) rfl (fun ls hl => ?_)
  refine lv_aload_n hx hb dX12_call_34 rfl (lv_at hl 1 rfl) ?_
  refine mg_X12_365 C hw dX12_call_35 ?_
  refine lv_if_ne (tgt := 63) hx hb dX12_call_38 (by decide) (fun c_1 => ?_) (fun c_1 => ?_)
  · have hm := (if_neg c_1).symm.trans hm
    exact mw_call_63 fu rc hr C hret x1 x2 x3 z0 F G hm hw (lv_sub hl [1, 2, 3, 4, 0] rfl)
  · have hm := (if_pos c_1).symm.trans hm
    exact mw_call_41 fu rc hr C hret x1 x2 x3 z0 F G hm hw (lv_sub hl [1, 2, 3, 4, 0] rfl)
theorem mw_call_28 (fu : Nat) (rc : RC) {dd : Nat} (hr : mH1 l v a rc dd) {res : Int32 × PF × PG} (C : mMC p R s m args c A v RX12 cX12_call 7 (dd + 1 + 3) (60 * (dd + 1) + 64)) (hret : ∀ (H1 : Heap) (locs1 : List Loc) (ls1 : Array Slot) (pc : Nat), mMW s A v a res.2.1 res.2.2 H1 locs1 → narrow .boolean (.int res.1) = .int res.1 → decode cX12_call pc = .ok (.ireturn, 1) → W p l e R s m args below meth c H1 locs1 0 0 Q (F0 m pc ls1 [.int res.1])) (x1 : Int32) (x2 : Int32) (x3 : Int32) (F : PF) (G : PG) (hm : mb_call_28 fu rc x1 x2 x3 F G = some res) {H : Heap} {locs : List Loc} (hw : mMW s A v a F G H locs) {ls : Array Slot} (hl : lv_has ls 7 [(0, .ref (a 212)), (1, .int x1), (2, .int x2), (3, .int x3)]) : W p l e R s m args below meth c H locs 0 0 Q (F0 m 28 ls []) := by
  have hx := C.1
  have hb := C.2.1
  unfold mb_call_28 at hm
  refine lv_aload_n hx hb dX12_call_28 rfl (lv_at hl 0 rfl) ?_
  refine mg_X12_374 C hw dX12_call_29 ?_
  exact mw_call_32 fu rc hr C hret x1 x2 x3 (F 62) F G hm hw (lv_sub hl [0, 1, 2, 3] rfl)
theorem mw_call_24 (fu : Nat) (rc : RC) {dd : Nat} (hr : mH1 l v a rc dd) {res : Int32 × PF × PG} (C : mMC p R s m args c A v RX12 cX12_call 7 (dd + 1 + 3) (60 * (dd + 1) + 64)) (hret : ∀ (H1 : Heap) (locs1 : List Loc) (ls1 : Array Slot) (pc : Nat), mMW s A v a res.2.1 res.2.2 H1 locs1 → narrow .boolean (.int res.1) = .int res.1 → decode cX12_call pc = .ok (.ireturn, 1) → W p l e R s m args below meth c H1 locs1 0 0 Q (F0 m pc ls1 [.int res.1])) (x1 : Int32) (x2 : Int32) (x3 : Int32) (F : PF) (G : PG) (hm : mb_call_24 fu rc x1 x2 x3 F G = some res) {H : Heap} {locs : List Loc} (hw : mMW s A v a F G H locs) {ls : Array Slot} (hl : lv_has ls 7 [(0, .ref (a 212)), (1, .int x1), (2, .int x2), (3, .int x3)]) : W p l e R s m args below meth c H locs 0 0 Q (F0 m 24 ls []) := by
  have hx := C.1
  have hb := C.2.1
  unfold mb_call_24 at hm
  refine lv_iconst (v := (-1)) hx hb dX12_call_24 (by decide) ?_
  refine lv_goto (tgt := 32) hx hb dX12_call_25 (by decide) ?_
  exact mw_call_32 fu rc hr C hret x1 x2 x3 (-1) F G hm hw (lv_sub hl [0, 1, 2, 3] rfl)
theorem mw_call_16 (fu : Nat) (rc : RC) {dd : Nat} (hr : mH1 l v a rc dd) {res : Int32 × PF × PG} (C : mMC p R s m args c A v RX12 cX12_call 7 (dd + 1 + 3) (60 * (dd + 1) + 64)) (hret : ∀ (H1 : Heap) (locs1 : List Loc) (ls1 : Array Slot) (pc : Nat), mMW s A v a res.2.1 res.2.2 H1 locs1 → narrow .boolean (.int res.1) = .int res.1 → decode cX12_call pc = .ok (.ireturn, 1) → W p l e R s m args below meth c H1 locs1 0 0 Q (F0 m pc ls1 [.int res.1])) (x1 : Int32) (x2 : Int32) (z0 : Int32) (F : PF) (G : PG) (hm : mb_call_16 fu rc x1 x2 z0 F G = some res) {H : Heap} {locs : List Loc} (hw : mMW s A v a F G H locs) {ls : Array Slot} (hl : lv_has ls 7 [(0, .ref (a 212)), (1, .int x1), (2, .int x2)]) : W p l e R s m args below meth c H locs 0 0 Q (F0 m 16 ls [.int z0]) := by
  have hx := C.1
  have hb := C.2.1
  unfold mb_call_16 at hm
  refine lv_istore_n (lv' := [(3, .int z0), (0, .ref (a 212)), (1, .int x1), (2, .int x2)]) hx hb dX12_call_16 rfl hl (by decide) rfl (fun ls hl => ?_)
  refine lv_aload_n hx hb dX12_call_17 rfl (lv_at hl 1 rfl) ?_
  refine mg_X12_245 C hw dX12_call_18 ?_
  refine lv_if_ne (tgt := 28) hx hb dX12_call_21 (by decide) (fun c_1 => ?_) (fun c_1 => ?_)
  · have hm := (if_neg c_1).symm.trans hm
    exact mw_call_28 fu rc hr C hret x1 x2 z0 F G hm hw (lv_sub hl [1, 2, 3, 0] rfl)
  · have hm := (if_pos c_1).symm.trans hm
    exact mw_call_24 fu rc hr C hret x1 x2 z0 F G hm hw (lv_sub hl [1, 2, 3, 0] rfl)
theorem mw_call_11 (fu : Nat) (rc : RC) {dd : Nat} (hr : mH1 l v a rc dd) {res : Int32 × PF × PG} (C : mMC p R s m args c A v RX12 cX12_call 7 (dd + 1 + 3) (60 * (dd + 1) + 64)) (hret : ∀ (H1 : Heap) (locs1 : List Loc) (ls1 : Array Slot) (pc : Nat), mMW s A v a res.2.1 res.2.2 H1 locs1 → narrow .boolean (.int res.1) = .int res.1 → decode cX12_call pc = .ok (.ireturn, 1) → W p l e R s m args below meth c H1 locs1 0 0 Q (F0 m pc ls1 [.int res.1])) (x1 : Int32) (x2 : Int32) (F : PF) (G : PG) (hm : mb_call_11 fu rc x1 x2 F G = some res) {H : Heap} {locs : List Loc} (hw : mMW s A v a F G H locs) {ls : Array Slot} (hl : lv_has ls 7 [(0, .ref (a 212)), (1, .int x1), (2, .int x2)]) : W p l e R s m args below meth c H locs 0 0 Q (F0 m 11 ls []) := by
  have hx := C.1
  have hb := C.2.1
  unfold mb_call_11 at hm
  refine lv_aload_n hx hb dX12_call_11 rfl (lv_at hl 0 rfl) ?_
  refine lv_iload_n hx hb dX12_call_12 rfl (lv_at hl 1 rfl) ?_
  obtain ⟨⟨r1, F1, G1⟩, hc, hm⟩ := bind_elim hm
  refine mcallI (n := 1) (As := [.int x1]) (rest := []) C hw (mk_meaning l v a _ fu x1 F G r1 F1 G1 hc) (mrecv_X12 C hw) mm_232 mm_233 mm_234 mm_27 mm_235 (by decide +kernel) rfl (by omega) (by omega) hl.1 rfl (Nat.le_of_ble_eq_true rfl) dX12_call_13 (fun H locs hw => ?_)
  exact mw_call_16 fu rc hr C hret x1 x2 r1 F1 G1 hm hw (lv_sub hl [0, 1, 2] rfl)
theorem mw_call_7 (fu : Nat) (rc : RC) {dd : Nat} (hr : mH1 l v a rc dd) {res : Int32 × PF × PG} (C : mMC p R s m args c A v RX12 cX12_call 7 (dd + 1 + 3) (60 * (dd + 1) + 64)) (hret : ∀ (H1 : Heap) (locs1 : List Loc) (ls1 : Array Slot) (pc : Nat), mMW s A v a res.2.1 res.2.2 H1 locs1 → narrow .boolean (.int res.1) = .int res.1 → decode cX12_call pc = .ok (.ireturn, 1) → W p l e R s m args below meth c H1 locs1 0 0 Q (F0 m pc ls1 [.int res.1])) (x1 : Int32) (x2 : Int32) (F : PF) (G : PG) (hm : mb_call_7 fu rc x1 x2 F G = some res) {H : Heap} {locs : List Loc} (hw : mMW s A v a F G H locs) {ls : Array Slot} (hl : lv_has ls 7 [(0, .ref (a 212)), (1, .int x1), (2, .int x2)]) : W p l e R s m args below meth c H locs 0 0 Q (F0 m 7 ls []) := by
  have hx := C.1
  have hb := C.2.1
  unfold mb_call_7 at hm
  refine lv_iconst (v := (-1)) hx hb dX12_call_7 (by decide) ?_
  refine lv_goto (tgt := 16) hx hb dX12_call_8 (by decide) ?_
  exact mw_call_16 fu rc hr C hret x1 x2 (-1) F G hm hw (lv_sub hl [0, 1, 2] rfl)
theorem mw_call_0 (fu : Nat) (rc : RC) {dd : Nat} (hr : mH1 l v a rc dd) {res : Int32 × PF × PG} (C : mMC p R s m args c A v RX12 cX12_call 7 (dd + 1 + 3) (60 * (dd + 1) + 64)) (hret : ∀ (H1 : Heap) (locs1 : List Loc) (ls1 : Array Slot) (pc : Nat), mMW s A v a res.2.1 res.2.2 H1 locs1 → narrow .boolean (.int res.1) = .int res.1 → decode cX12_call pc = .ok (.ireturn, 1) → W p l e R s m args below meth c H1 locs1 0 0 Q (F0 m pc ls1 [.int res.1])) (x1 : Int32) (x2 : Int32) (F : PF) (G : PG) (hm : mb_call_0 fu rc x1 x2 F G = some res) {H : Heap} {locs : List Loc} (hw : mMW s A v a F G H locs) {ls : Array Slot} (hl : lv_has ls 7 [(0, .ref (a 212)), (1, .int x1), (2, .int x2)]) : W p l e R s m args below meth c H locs 0 0 Q (F0 m 0 ls []) := by
  have hx := C.1
  have hb := C.2.1
  unfold mb_call_0 at hm
  refine lv_aload_n hx hb dX12_call_0 rfl (lv_at hl 0 rfl) ?_
  refine mg_X12_245 C hw dX12_call_1 ?_
  refine lv_if_ne (tgt := 11) hx hb dX12_call_4 (by decide) (fun c_1 => ?_) (fun c_1 => ?_)
  · have hm := (if_neg c_1).symm.trans hm
    exact mw_call_11 fu rc hr C hret x1 x2 F G hm hw (lv_sub hl [0, 1, 2] rfl)
  · have hm := (if_pos c_1).symm.trans hm
    exact mw_call_7 fu rc hr C hret x1 x2 F G hm hw (lv_sub hl [0, 1, 2] rfl)
theorem mq_call (l : Launch) (v : EV) (a : Nat → Nat) (sz : Nat) (fu : Nat) (rc : RC) {dd : Nat} (hr : mH1 l v a rc dd) (x1 : Int32) (x2 : Int32) (F : PF) (G : PG) (r : Int32) (F1 : PF) (G1 : PG) (hm : mh_call fu rc x1 x2 F G = some (r, F1, G1)) : mMI l yX12_call cX12_call 7 (some .boolean) (dd + 1 + 3) (60 * (dd + 1) + 64) v a sz [.ref (a 212), .int x1, .int x2] F G r F1 G1 := mMI.of (ty := .boolean) (by decide) rfl (Nat.le_of_ble_eq_true rfl) (fun p e R s m args below meth c Q A H locs ls C hw hl hret => mw_call_0 fu rc hr (res := (r, F1, G1)) C hret x1 x2 F G hm hw hl)
def mb_chain_147 (fu : Nat) (rc : RC) (F : PF) (G : PG) : PR := some (0, F, G)
def mb_chain_143 (fu : Nat) (rc : RC) (ag_10 : Int32 → Int32 → PF → PG → PR) (x1 : Int32) (z0 : Int32) (F : PF) (G : PG) : PR := ag_10 x1 z0 F G
def mb_chain_139 (fu : Nat) (rc : RC) (ag_10 : Int32 → Int32 → PF → PG → PR) (x1 : Int32) (F : PF) (G : PG) : PR := (rc 7 0 0 F G).bind (fun q => mb_chain_143 fu rc ag_10 x1 q.1 q.2.1 q.2.2)
def mb_chain_129 (fu : Nat) (rc : RC) (ag_10 : Int32 → Int32 → PF → PG → PR) (x1 : Int32) (F : PF) (G : PG) : PR := mb_chain_139 fu rc ag_10 x1 (fup F 42 ((F 42) + (1 : Int32))) G
def mb_chain_119 (fu : Nat) (rc : RC) (ag_10 : Int32 → Int32 → PF → PG → PR) (x1 : Int32) (F : PF) (G : PG) : PR := mb_chain_129 fu rc ag_10 x1 (fup F 70 ((F 70) + (1 : Int32))) G
def mb_chain_118 (fu : Nat) (rc : RC) (ag_10 : Int32 → Int32 → PF → PG → PR) (x1 : Int32) (z0 : Int32) (z1 : Int32) (F : PF) (G : PG) : PR := if ixb z1 600 = true then (mb_chain_119 fu rc ag_10 x1 F (gup G 69 z1.toNatClampNeg z0)) else none
def mb_chain_113 (fu : Nat) (rc : RC) (ag_10 : Int32 → Int32 → PF → PG → PR) (x1 : Int32) (z0 : Int32) (z2 : Int32) (F : PF) (G : PG) : PR := (mf_step fu z0 0 0 F G).bind (fun q => mb_chain_118 fu rc ag_10 x1 q.1 z2 q.2.1 q.2.2)
def mb_chain_111 (fu : Nat) (rc : RC) (ag_10 : Int32 → Int32 → PF → PG → PR) (x1 : Int32) (z1 : Int32) (F : PF) (G : PG) : PR := mb_chain_113 fu rc ag_10 x1 13 z1 F G
def mb_chain_106 (fu : Nat) (rc : RC) (ag_10 : Int32 → Int32 → PF → PG → PR) (x1 : Int32) (z1 : Int32) (F : PF) (G : PG) : PR := mb_chain_113 fu rc ag_10 x1 14 z1 F G
def mb_chain_101 (fu : Nat) (rc : RC) (ag_10 : Int32 → Int32 → PF → PG → PR) (x1 : Int32) (x3 : Int32) (z0 : Int32) (F : PF) (G : PG) : PR := if x3 = (0 : Int32) then mb_chain_106 fu rc ag_10 x1 z0 F G else mb_chain_111 fu rc ag_10 x1 z0 F G
def mb_chain_97 (fu : Nat) (rc : RC) (ag_10 : Int32 → Int32 → PF → PG → PR) (x1 : Int32) (z0 : Int32) (F : PF) (G : PG) : PR := mb_chain_118 fu rc ag_10 x1 (-1) z0 F G
def mb_chain_84 (fu : Nat) (rc : RC) (ag_10 : Int32 → Int32 → PF → PG → PR) (x1 : Int32) (x3 : Int32) (F : PF) (G : PG) : PR := if x3 ≤ (1 : Int32) then mb_chain_101 fu rc ag_10 x1 x3 (F 70) F G else mb_chain_97 fu rc ag_10 x1 (F 70) F G
def mb_chain_74 (fu : Nat) (rc : RC) (ag_10 : Int32 → Int32 → PF → PG → PR) (x1 : Int32) (x3 : Int32) (F : PF) (G : PG) : PR := if ixb (F 70) 600 = true then (mb_chain_84 fu rc ag_10 x1 x3 F (gup G 68 (F 70).toNatClampNeg x3)) else none
def mb_chain_56 (fu : Nat) (rc : RC) (ag_10 : Int32 → Int32 → PF → PG → PR) (x1 : Int32) (x3 : Int32) (F : PF) (G : PG) : PR := if ixb (F 42) 4002 = true then (if ixb (F 70) 600 = true then (mb_chain_74 fu rc ag_10 x1 x3 F (gup G 67 (F 70).toNatClampNeg (G 5 (F 42).toNatClampNeg))) else none) else none
def mb_chain_54 (fu : Nat) (rc : RC) (F : PF) (G : PG) : PR := some (1, F, G)
def mb_chain_49 (fu : Nat) (rc : RC) (ag_10 : Int32 → Int32 → PF → PG → PR) (x1 : Int32) (x3 : Int32) (F : PF) (G : PG) : PR := if x3 = (-1 : Int32) then mb_chain_54 fu rc F G else mb_chain_56 fu rc ag_10 x1 x3 F G
def mb_chain_46 (fu : Nat) (rc : RC) (ag_10 : Int32 → Int32 → PF → PG → PR) (ag_19 : Int32 → Int32 → PF → PG → PR) (x1 : Int32) (x3 : Int32) (F : PF) (G : PG) : PR := ag_19 x1 x3 F G
def mb_chain_42 (fu : Nat) (rc : RC) (ag_10 : Int32 → Int32 → PF → PG → PR) (ag_19 : Int32 → Int32 → PF → PG → PR) (x1 : Int32) (x3 : Int32) (F : PF) (G : PG) : PR := (mf_binds fu F G).bind (fun q => mb_chain_46 fu rc ag_10 ag_19 x1 x3 q.2.1 q.2.2)
def mb_chain_27 (fu : Nat) (rc : RC) (ag_10 : Int32 → Int32 → PF → PG → PR) (ag_19 : Int32 → Int32 → PF → PG → PR) (x1 : Int32) (x3 : Int32) (F : PF) (G : PG) : PR := if ixb ((F 70) - (1 : Int32)) 600 = true then (if (G 68 ((F 70) - (1 : Int32)).toNatClampNeg) < x3 then mb_chain_49 fu rc ag_10 x1 x3 F G else mb_chain_42 fu rc ag_10 ag_19 x1 x3 F G) else none
def mb_chain_19 (fu : Nat) (rc : RC) (ag_10 : Int32 → Int32 → PF → PG → PR) (ag_19 : Int32 → Int32 → PF → PG → PR) (x1 : Int32) (x3 : Int32) (F : PF) (G : PG) : PR := if (F 70) ≤ x1 then mb_chain_49 fu rc ag_10 x1 x3 F G else mb_chain_27 fu rc ag_10 ag_19 x1 x3 F G
def ml_chain_19 (fu : Nat) (rc : RC) (ag_10 : Int32 → Int32 → PF → PG → PR) : Nat → Int32 → Int32 → PF → PG → PR
  | 0 => fun _ _ _ _ => none
  | n + 1 => fun x1 x3 F G => mb_chain_19 fu rc ag_10 (ml_chain_19 fu rc ag_10 n) x1 x3 F G
def mb_chain_18 (fu : Nat) (rc : RC) (ag_10 : Int32 → Int32 → PF → PG → PR) (x1 : Int32) (z0 : Int32) (F : PF) (G : PG) : PR := ml_chain_19 fu rc ag_10 fu x1 z0 F G
def mb_chain_14 (fu : Nat) (rc : RC) (ag_10 : Int32 → Int32 → PF → PG → PR) (x1 : Int32) (F : PF) (G : PG) : PR := (mf_level fu F G).bind (fun q => mb_chain_18 fu rc ag_10 x1 q.1 q.2.1 q.2.2)
def mb_chain_10 (fu : Nat) (rc : RC) (ag_10 : Int32 → Int32 → PF → PG → PR) (x1 : Int32) (x2 : Int32) (F : PF) (G : PG) : PR := if x2 = (0 : Int32) then mb_chain_147 fu rc F G else mb_chain_14 fu rc ag_10 x1 F G
def ml_chain_10 (fu : Nat) (rc : RC) : Nat → Int32 → Int32 → PF → PG → PR
  | 0 => fun _ _ _ _ => none
  | n + 1 => fun x1 x2 F G => mb_chain_10 fu rc (ml_chain_10 fu rc n) x1 x2 F G
def mb_chain_9 (fu : Nat) (rc : RC) (x1 : Int32) (z0 : Int32) (F : PF) (G : PG) : PR := ml_chain_10 fu rc fu x1 z0 F G
def mb_chain_0 (fu : Nat) (rc : RC) (F : PF) (G : PG) : PR := (rc 7 0 0 F G).bind (fun q => mb_chain_9 fu rc (F 70) q.1 q.2.1 q.2.2)
def mh_chain (fu : Nat) (rc : RC) (F : PF) (G : PG) : PR := mb_chain_0 fu rc F G
theorem mw_chain_147 (fu : Nat) (rc : RC) {dd : Nat} (hr : mH1 l v a rc dd) {res : Int32 × PF × PG} (C : mMC p R s m args c A v RX12 cX12_chain 4 (dd + 1 + 3) (60 * (dd + 1) + 64)) (hret : ∀ (H1 : Heap) (locs1 : List Loc) (ls1 : Array Slot) (pc : Nat), mMW s A v a res.2.1 res.2.2 H1 locs1 → narrow .boolean (.int res.1) = .int res.1 → decode cX12_chain pc = .ok (.ireturn, 1) → W p l e R s m args below meth c H1 locs1 0 0 Q (F0 m pc ls1 [.int res.1])) (F : PF) (G : PG) (hm : mb_chain_147 fu rc F G = some res) {H : Heap} {locs : List Loc} (hw : mMW s A v a F G H locs) {ls : Array Slot} (hl : lv_has ls 4 []) : W p l e R s m args below meth c H locs 0 0 Q (F0 m 147 ls []) := by
  have hx := C.1
  have hb := C.2.1
  unfold mb_chain_147 at hm
  refine lv_iconst (v := 0) hx hb dX12_chain_147 (by decide) ?_
  obtain rfl := Option.some.inj hm
  exact hret _ _ _ _ hw (b01_nar (v := 0) (Or.inl rfl)) dX12_chain_148
theorem mw_chain_143 (fu : Nat) (rc : RC) {dd : Nat} (hr : mH1 l v a rc dd) {res : Int32 × PF × PG} (C : mMC p R s m args c A v RX12 cX12_chain 4 (dd + 1 + 3) (60 * (dd + 1) + 64)) (hret : ∀ (H1 : Heap) (locs1 : List Loc) (ls1 : Array Slot) (pc : Nat), mMW s A v a res.2.1 res.2.2 H1 locs1 → narrow .boolean (.int res.1) = .int res.1 → decode cX12_chain pc = .ok (.ireturn, 1) → W p l e R s m args below meth c H1 locs1 0 0 Q (F0 m pc ls1 [.int res.1])) (ag_10 : Int32 → Int32 → PF → PG → PR) (hag_10 : ∀ (x1 : Int32) (x2 : Int32) (F : PF) (G : PG), ag_10 x1 x2 F G = some res → ∀ (H : Heap) (locs : List Loc) (ls : Array Slot), mMW s A v a F G H locs → lv_has ls 4 [(0, .ref (a 212)), (1, .int x1), (2, .int x2)] → W p l e R s m args below meth c H locs 0 0 Q (F0 m 10 ls [])) (x1 : Int32) (z0 : Int32) (F : PF) (G : PG) (hm : mb_chain_143 fu rc ag_10 x1 z0 F G = some res) {H : Heap} {locs : List Loc} (hw : mMW s A v a F G H locs) {ls : Array Slot} (hl : lv_has ls 4 [(0, .ref (a 212)), (1, .int x1)]) : W p l e R s m args below meth c H locs 0 0 Q (F0 m 143 ls [.int z0]) := by
  have hx := C.1
  have hb := C.2.1
  unfold mb_chain_143 at hm
  refine lv_istore_n (lv' := [(2, .int z0), (0, .ref (a 212)), (1, .int x1)]) hx hb dX12_chain_143 rfl hl (by decide) rfl (fun ls hl => ?_)
  refine lv_goto (tgt := 10) hx hb dX12_chain_144 (by decide) ?_
  exact hag_10 x1 z0 F G hm _ _ _ hw (lv_sub hl [1, 2, 0] rfl)
theorem mw_chain_139 (fu : Nat) (rc : RC) {dd : Nat} (hr : mH1 l v a rc dd) {res : Int32 × PF × PG} (C : mMC p R s m args c A v RX12 cX12_chain 4 (dd + 1 + 3) (60 * (dd + 1) + 64)) (hret : ∀ (H1 : Heap) (locs1 : List Loc) (ls1 : Array Slot) (pc : Nat), mMW s A v a res.2.1 res.2.2 H1 locs1 → narrow .boolean (.int res.1) = .int res.1 → decode cX12_chain pc = .ok (.ireturn, 1) → W p l e R s m args below meth c H1 locs1 0 0 Q (F0 m pc ls1 [.int res.1])) (ag_10 : Int32 → Int32 → PF → PG → PR) (hag_10 : ∀ (x1 : Int32) (x2 : Int32) (F : PF) (G : PG), ag_10 x1 x2 F G = some res → ∀ (H : Heap) (locs : List Loc) (ls : Array Slot), mMW s A v a F G H locs → lv_has ls 4 [(0, .ref (a 212)), (1, .int x1), (2, .int x2)] → W p l e R s m args below meth c H locs 0 0 Q (F0 m 10 ls [])) (x1 : Int32) (F : PF) (G : PG) (hm : mb_chain_139 fu rc ag_10 x1 F G = some res) {H : Heap} {locs : List Loc} (hw : mMW s A v a F G H locs) {ls : Array Slot} (hl : lv_has ls 4 [(0, .ref (a 212)), (1, .int x1)]) : W p l e R s m args below meth c H locs 0 0 Q (F0 m 139 ls []) := by
  have hx := C.1
  have hb := C.2.1
  unfold mb_chain_139 at hm
  refine lv_aload_n hx hb dX12_chain_139 rfl (lv_at hl 0 rfl) ?_
  obtain ⟨⟨r1, F1, G1⟩, hc, hm⟩ := bind_elim hm
  refine mcallI (n := 0) (As := []) (rest := []) C hw (hr.2.2.2.2.2.2.2.1 _ F G r1 F1 G1 hc) (mrecv_X12 C hw) mm_256 mm_257 mm_258 mm_27 mm_276 (by decide +kernel) rfl (by omega) (by omega) hl.1 rfl (Nat.le_of_ble_eq_true rfl) dX12_chain_140 (fun H locs hw => ?_)
  exact mw_chain_143 fu rc hr C hret ag_10 hag_10 x1 r1 F1 G1 hm hw (lv_sub hl [0, 1] rfl)
theorem mw_chain_129 (fu : Nat) (rc : RC) {dd : Nat} (hr : mH1 l v a rc dd) {res : Int32 × PF × PG} (C : mMC p R s m args c A v RX12 cX12_chain 4 (dd + 1 + 3) (60 * (dd + 1) + 64)) (hret : ∀ (H1 : Heap) (locs1 : List Loc) (ls1 : Array Slot) (pc : Nat), mMW s A v a res.2.1 res.2.2 H1 locs1 → narrow .boolean (.int res.1) = .int res.1 → decode cX12_chain pc = .ok (.ireturn, 1) → W p l e R s m args below meth c H1 locs1 0 0 Q (F0 m pc ls1 [.int res.1])) (ag_10 : Int32 → Int32 → PF → PG → PR) (hag_10 : ∀ (x1 : Int32) (x2 : Int32) (F : PF) (G : PG), ag_10 x1 x2 F G = some res → ∀ (H : Heap) (locs : List Loc) (ls : Array Slot), mMW s A v a F G H locs → lv_has ls 4 [(0, .ref (a 212)), (1, .int x1), (2, .int x2)] → W p l e R s m args below meth c H locs 0 0 Q (F0 m 10 ls [])) (x1 : Int32) (F : PF) (G : PG) (hm : mb_chain_129 fu rc ag_10 x1 F G = some res) {H : Heap} {locs : List Loc} (hw : mMW s A v a F G H locs) {ls : Array Slot} (hl : lv_has ls 4 [(0, .ref (a 212)), (1, .int x1)]) : W p l e R s m args below meth c H locs 0 0 Q (F0 m 129 ls []) := by
  have hx := C.1
  have hb := C.2.1
  unfold mb_chain_129 at hm
  refine lv_aload_n hx hb dX12_chain_129 rfl (lv_at hl 0 rfl) ?_
  refine lv_dup hx hb dX12_chain_130 rfl ?_
  refine mg_X12_233 C hw dX12_chain_131 ?_
  refine lv_iconst (v := 1) hx hb dX12_chain_134 (by decide) ?_
  refine lv_iadd hx hb dX12_chain_135 ?_
  refine mp_X12_233 C hw dX12_chain_136 (fun H locs hw => ?_)
  exact mw_chain_139 fu rc hr C hret ag_10 hag_10 x1 (fup F 42 ((F 42) + (1 : Int32))) G hm hw (lv_sub hl [0, 1] rfl)
theorem mw_chain_119 (fu : Nat) (rc : RC) {dd : Nat} (hr : mH1 l v a rc dd) {res : Int32 × PF × PG} (C : mMC p R s m args c A v RX12 cX12_chain 4 (dd + 1 + 3) (60 * (dd + 1) + 64)) (hret : ∀ (H1 : Heap) (locs1 : List Loc) (ls1 : Array Slot) (pc : Nat), mMW s A v a res.2.1 res.2.2 H1 locs1 → narrow .boolean (.int res.1) = .int res.1 → decode cX12_chain pc = .ok (.ireturn, 1) → W p l e R s m args below meth c H1 locs1 0 0 Q (F0 m pc ls1 [.int res.1])) (ag_10 : Int32 → Int32 → PF → PG → PR) (hag_10 : ∀ (x1 : Int32) (x2 : Int32) (F : PF) (G : PG), ag_10 x1 x2 F G = some res → ∀ (H : Heap) (locs : List Loc) (ls : Array Slot), mMW s A v a F G H locs → lv_has ls 4 [(0, .ref (a 212)), (1, .int x1), (2, .int x2)] → W p l e R s m args below meth c H locs 0 0 Q (F0 m 10 ls [])) (x1 : Int32) (F : PF) (G : PG) (hm : mb_chain_119 fu rc ag_10 x1 F G = some res) {H : Heap} {locs : List Loc} (hw : mMW s A v a F G H locs) {ls : Array Slot} (hl : lv_has ls 4 [(0, .ref (a 212)), (1, .int x1)]) : W p l e R s m args below meth c H locs 0 0 Q (F0 m 119 ls []) := by
  have hx := C.1
  have hb := C.2.1
  unfold mb_chain_119 at hm
  refine lv_aload_n hx hb dX12_chain_119 rfl (lv_at hl 0 rfl) ?_
  refine lv_dup hx hb dX12_chain_120 rfl ?_
  refine mg_X12_285 C hw dX12_chain_121 ?_
  refine lv_iconst (v := 1) hx hb dX12_chain_124 (by decide) ?_
  refine lv_iadd hx hb dX12_chain_125 ?_
  refine mp_X12_285 C hw dX12_chain_126 (fun H locs hw => ?_)
  exact mw_chain_129 fu rc hr C hret ag_10 hag_10 x1 (fup F 70 ((F 70) + (1 : Int32))) G hm hw (lv_sub hl [0, 1] rfl)
theorem mw_chain_118 (fu : Nat) (rc : RC) {dd : Nat} (hr : mH1 l v a rc dd) {res : Int32 × PF × PG} (C : mMC p R s m args c A v RX12 cX12_chain 4 (dd + 1 + 3) (60 * (dd + 1) + 64)) (hret : ∀ (H1 : Heap) (locs1 : List Loc) (ls1 : Array Slot) (pc : Nat), mMW s A v a res.2.1 res.2.2 H1 locs1 → narrow .boolean (.int res.1) = .int res.1 → decode cX12_chain pc = .ok (.ireturn, 1) → W p l e R s m args below meth c H1 locs1 0 0 Q (F0 m pc ls1 [.int res.1])) (ag_10 : Int32 → Int32 → PF → PG → PR) (hag_10 : ∀ (x1 : Int32) (x2 : Int32) (F : PF) (G : PG), ag_10 x1 x2 F G = some res → ∀ (H : Heap) (locs : List Loc) (ls : Array Slot), mMW s A v a F G H locs → lv_has ls 4 [(0, .ref (a 212)), (1, .int x1), (2, .int x2)] → W p l e R s m args below meth c H locs 0 0 Q (F0 m 10 ls [])) (x1 : Int32) (z0 : Int32) (z1 : Int32) (F : PF) (G : PG) (hm : mb_chain_118 fu rc ag_10 x1 z0 z1 F G = some res) {H : Heap} {locs : List Loc} (hw : mMW s A v a F G H locs) {ls : Array Slot} (hl : lv_has ls 4 [(0, .ref (a 212)), (1, .int x1)]) : W p l e R s m args below meth c H locs 0 0 Q (F0 m 118 ls [.int z0, .int z1, .ref (a 69)]) := by
  have hx := C.1
  have hb := C.2.1
  unfold mb_chain_118 at hm
  obtain ⟨hi, hm⟩ := ix_elim hm
  refine mas_69 C hw hi dX12_chain_118 (fun H locs hw => ?_)
  exact mw_chain_119 fu rc hr C hret ag_10 hag_10 x1 F (gup G 69 z1.toNatClampNeg z0) hm hw (lv_sub hl [0, 1] rfl)
theorem mw_chain_113 (fu : Nat) (rc : RC) {dd : Nat} (hr : mH1 l v a rc dd) {res : Int32 × PF × PG} (C : mMC p R s m args c A v RX12 cX12_chain 4 (dd + 1 + 3) (60 * (dd + 1) + 64)) (hret : ∀ (H1 : Heap) (locs1 : List Loc) (ls1 : Array Slot) (pc : Nat), mMW s A v a res.2.1 res.2.2 H1 locs1 → narrow .boolean (.int res.1) = .int res.1 → decode cX12_chain pc = .ok (.ireturn, 1) → W p l e R s m args below meth c H1 locs1 0 0 Q (F0 m pc ls1 [.int res.1])) (ag_10 : Int32 → Int32 → PF → PG → PR) (hag_10 : ∀ (x1 : Int32) (x2 : Int32) (F : PF) (G : PG), ag_10 x1 x2 F G = some res → ∀ (H : Heap) (locs : List Loc) (ls : Array Slot), mMW s A v a F G H locs → lv_has ls 4 [(0, .ref (a 212)), (1, .int x1), (2, .int x2)] → W p l e R s m args below meth c H locs 0 0 Q (F0 m 10 ls [])) (x1 : Int32) (z0 : Int32) (z2 : Int32) (F : PF) (G : PG) (hm : mb_chain_113 fu rc ag_10 x1 z0 z2 F G = some res) {H : Heap} {locs : List Loc} (hw : mMW s A v a F G H locs) {ls : Array Slot} (hl : lv_has ls 4 [(0, .ref (a 212)), (1, .int x1)]) : W p l e R s m args below meth c H locs 0 0 Q (F0 m 113 ls [.int z0, .ref (a 212), .int z2, .ref (a 69)]) := by
  have hx := C.1
  have hb := C.2.1
  unfold mb_chain_113 at hm
  refine lv_iconst (v := 0) hx hb dX12_chain_113 (by decide) ?_
  refine lv_iconst (v := 0) hx hb dX12_chain_114 (by decide) ?_
  obtain ⟨⟨r1, F1, G1⟩, hc, hm⟩ := bind_elim hm
  refine mcallI (n := 3) (As := [.int z0, .int 0, .int 0]) (rest := [.int z2, .ref (a 69)]) C hw (mk_step l v a _ fu z0 0 0 F G r1 F1 G1 hc) (mrecv_X12 C hw) mm_203 mm_204 mm_205 mm_27 mm_206 (by decide +kernel) rfl (by omega) (by omega) hl.1 rfl (Nat.le_of_ble_eq_true rfl) dX12_chain_115 (fun H locs hw => ?_)
  exact mw_chain_118 fu rc hr C hret ag_10 hag_10 x1 r1 z2 F1 G1 hm hw (lv_sub hl [0, 1] rfl)
theorem mw_chain_111 (fu : Nat) (rc : RC) {dd : Nat} (hr : mH1 l v a rc dd) {res : Int32 × PF × PG} (C : mMC p R s m args c A v RX12 cX12_chain 4 (dd + 1 + 3) (60 * (dd + 1) + 64)) (hret : ∀ (H1 : Heap) (locs1 : List Loc) (ls1 : Array Slot) (pc : Nat), mMW s A v a res.2.1 res.2.2 H1 locs1 → narrow .boolean (.int res.1) = .int res.1 → decode cX12_chain pc = .ok (.ireturn, 1) → W p l e R s m args below meth c H1 locs1 0 0 Q (F0 m pc ls1 [.int res.1])) (ag_10 : Int32 → Int32 → PF → PG → PR) (hag_10 : ∀ (x1 : Int32) (x2 : Int32) (F : PF) (G : PG), ag_10 x1 x2 F G = some res → ∀ (H : Heap) (locs : List Loc) (ls : Array Slot), mMW s A v a F G H locs → lv_has ls 4 [(0, .ref (a 212)), (1, .int x1), (2, .int x2)] → W p l e R s m args below meth c H locs 0 0 Q (F0 m 10 ls [])) (x1 : Int32) (z1 : Int32) (F : PF) (G : PG) (hm : mb_chain_111 fu rc ag_10 x1 z1 F G = some res) {H : Heap} {locs : List Loc} (hw : mMW s A v a F G H locs) {ls : Array Slot} (hl : lv_has ls 4 [(0, .ref (a 212)), (1, .int x1)]) : W p l e R s m args below meth c H locs 0 0 Q (F0 m 111 ls [.ref (a 212), .int z1, .ref (a 69)]) := by
  have hx := C.1
  have hb := C.2.1
  unfold mb_chain_111 at hm
  refine lv_bipush (v := 13) hx hb dX12_chain_111 (by decide) ?_
  exact mw_chain_113 fu rc hr C hret ag_10 hag_10 x1 13 z1 F G hm hw (lv_sub hl [0, 1] rfl)
theorem mw_chain_106 (fu : Nat) (rc : RC) {dd : Nat} (hr : mH1 l v a rc dd) {res : Int32 × PF × PG} (C : mMC p R s m args c A v RX12 cX12_chain 4 (dd + 1 + 3) (60 * (dd + 1) + 64)) (hret : ∀ (H1 : Heap) (locs1 : List Loc) (ls1 : Array Slot) (pc : Nat), mMW s A v a res.2.1 res.2.2 H1 locs1 → narrow .boolean (.int res.1) = .int res.1 → decode cX12_chain pc = .ok (.ireturn, 1) → W p l e R s m args below meth c H1 locs1 0 0 Q (F0 m pc ls1 [.int res.1])) (ag_10 : Int32 → Int32 → PF → PG → PR) (hag_10 : ∀ (x1 : Int32) (x2 : Int32) (F : PF) (G : PG), ag_10 x1 x2 F G = some res → ∀ (H : Heap) (locs : List Loc) (ls : Array Slot), mMW s A v a F G H locs → lv_has ls 4 [(0, .ref (a 212)), (1, .int x1), (2, .int x2)] → W p l e R s m args below meth c H locs 0 0 Q (F0 m 10 ls [])) (x1 : Int32) (z1 : Int32) (F : PF) (G : PG) (hm : mb_chain_106 fu rc ag_10 x1 z1 F G = some res) {H : Heap} {locs : List Loc} (hw : mMW s A v a F G H locs) {ls : Array Slot} (hl : lv_has ls 4 [(0, .ref (a 212)), (1, .int x1)]) : W p l e R s m args below meth c H locs 0 0 Q (F0 m 106 ls [.ref (a 212), .int z1, .ref (a 69)]) := by
  have hx := C.1
  have hb := C.2.1
  unfold mb_chain_106 at hm
  refine lv_bipush (v := 14) hx hb dX12_chain_106 (by decide) ?_
  refine lv_goto (tgt := 113) hx hb dX12_chain_108 (by decide) ?_
  exact mw_chain_113 fu rc hr C hret ag_10 hag_10 x1 14 z1 F G hm hw (lv_sub hl [0, 1] rfl)
theorem mw_chain_101 (fu : Nat) (rc : RC) {dd : Nat} (hr : mH1 l v a rc dd) {res : Int32 × PF × PG} (C : mMC p R s m args c A v RX12 cX12_chain 4 (dd + 1 + 3) (60 * (dd + 1) + 64)) (hret : ∀ (H1 : Heap) (locs1 : List Loc) (ls1 : Array Slot) (pc : Nat), mMW s A v a res.2.1 res.2.2 H1 locs1 → narrow .boolean (.int res.1) = .int res.1 → decode cX12_chain pc = .ok (.ireturn, 1) → W p l e R s m args below meth c H1 locs1 0 0 Q (F0 m pc ls1 [.int res.1])) (ag_10 : Int32 → Int32 → PF → PG → PR) (hag_10 : ∀ (x1 : Int32) (x2 : Int32) (F : PF) (G : PG), ag_10 x1 x2 F G = some res → ∀ (H : Heap) (locs : List Loc) (ls : Array Slot), mMW s A v a F G H locs → lv_has ls 4 [(0, .ref (a 212)), (1, .int x1), (2, .int x2)] → W p l e R s m args below meth c H locs 0 0 Q (F0 m 10 ls [])) (x1 : Int32) (x3 : Int32) (z0 : Int32) (F : PF) (G : PG) (hm : mb_chain_101 fu rc ag_10 x1 x3 z0 F G = some res) {H : Heap} {locs : List Loc} (hw : mMW s A v a F G H locs) {ls : Array Slot} (hl : lv_has ls 4 [(0, .ref (a 212)), (1, .int x1), (3, .int x3)]) : W p l e R s m args below meth c H locs 0 0 Q (F0 m 101 ls [.int z0, .ref (a 69)]) := by
  have hx := C.1
  have hb := C.2.1
  unfold mb_chain_101 at hm
  refine lv_aload_n hx hb dX12_chain_101 rfl (lv_at hl 0 rfl) ?_
  refine lv_iload_n hx hb dX12_chain_102 rfl (lv_at hl 2 rfl) ?_
  refine lv_if_ne (tgt := 111) hx hb dX12_chain_103 (by decide) (fun c_1 => ?_) (fun c_1 => ?_)
  · have hm := (if_neg c_1).symm.trans hm
    exact mw_chain_111 fu rc hr C hret ag_10 hag_10 x1 z0 F G hm hw (lv_sub hl [0, 1] rfl)
  · have hm := (if_pos c_1).symm.trans hm
    exact mw_chain_106 fu rc hr C hret ag_10 hag_10 x1 z0 F G hm hw (lv_sub hl [0, 1] rfl)
theorem mw_chain_97 (fu : Nat) (rc : RC) {dd : Nat} (hr : mH1 l v a rc dd) {res : Int32 × PF × PG} (C : mMC p R s m args c A v RX12 cX12_chain 4 (dd + 1 + 3) (60 * (dd + 1) + 64)) (hret : ∀ (H1 : Heap) (locs1 : List Loc) (ls1 : Array Slot) (pc : Nat), mMW s A v a res.2.1 res.2.2 H1 locs1 → narrow .boolean (.int res.1) = .int res.1 → decode cX12_chain pc = .ok (.ireturn, 1) → W p l e R s m args below meth c H1 locs1 0 0 Q (F0 m pc ls1 [.int res.1])) (ag_10 : Int32 → Int32 → PF → PG → PR) (hag_10 : ∀ (x1 : Int32) (x2 : Int32) (F : PF) (G : PG), ag_10 x1 x2 F G = some res → ∀ (H : Heap) (locs : List Loc) (ls : Array Slot), mMW s A v a F G H locs → lv_has ls 4 [(0, .ref (a 212)), (1, .int x1), (2, .int x2)] → W p l e R s m args below meth c H locs 0 0 Q (F0 m 10 ls [])) (x1 : Int32) (z0 : Int32) (F : PF) (G : PG) (hm : mb_chain_97 fu rc ag_10 x1 z0 F G = some res) {H : Heap} {locs : List Loc} (hw : mMW s A v a F G H locs) {ls : Array Slot} (hl : lv_has ls 4 [(0, .ref (a 212)), (1, .int x1)]) : W p l e R s m args below meth c H locs 0 0 Q (F0 m 97 ls [.int z0, .ref (a 69)]) := by
  have hx := C.1
  have hb := C.2.1
  unfold mb_chain_97 at hm
  refine lv_iconst (v := (-1)) hx hb dX12_chain_97 (by decide) ?_
  refine lv_goto (tgt := 118) hx hb dX12_chain_98 (by decide) ?_
  exact mw_chain_118 fu rc hr C hret ag_10 hag_10 x1 (-1) z0 F G hm hw (lv_sub hl [0, 1] rfl)
theorem mw_chain_84 (fu : Nat) (rc : RC) {dd : Nat} (hr : mH1 l v a rc dd) {res : Int32 × PF × PG} (C : mMC p R s m args c A v RX12 cX12_chain 4 (dd + 1 + 3) (60 * (dd + 1) + 64)) (hret : ∀ (H1 : Heap) (locs1 : List Loc) (ls1 : Array Slot) (pc : Nat), mMW s A v a res.2.1 res.2.2 H1 locs1 → narrow .boolean (.int res.1) = .int res.1 → decode cX12_chain pc = .ok (.ireturn, 1) → W p l e R s m args below meth c H1 locs1 0 0 Q (F0 m pc ls1 [.int res.1])) (ag_10 : Int32 → Int32 → PF → PG → PR) (hag_10 : ∀ (x1 : Int32) (x2 : Int32) (F : PF) (G : PG), ag_10 x1 x2 F G = some res → ∀ (H : Heap) (locs : List Loc) (ls : Array Slot), mMW s A v a F G H locs → lv_has ls 4 [(0, .ref (a 212)), (1, .int x1), (2, .int x2)] → W p l e R s m args below meth c H locs 0 0 Q (F0 m 10 ls [])) (x1 : Int32) (x3 : Int32) (F : PF) (G : PG) (hm : mb_chain_84 fu rc ag_10 x1 x3 F G = some res) {H : Heap} {locs : List Loc} (hw : mMW s A v a F G H locs) {ls : Array Slot} (hl : lv_has ls 4 [(0, .ref (a 212)), (1, .int x1), (3, .int x3)]) : W p l e R s m args below meth c H locs 0 0 Q (F0 m 84 ls []) := by
  have hx := C.1
  have hb := C.2.1
  unfold mb_chain_84 at hm
  refine lv_aload_n hx hb dX12_chain_84 rfl (lv_at hl 0 rfl) ?_
  refine mg_X12_122 C hw dX12_chain_85 ?_
  refine lv_aload_n hx hb dX12_chain_88 rfl (lv_at hl 0 rfl) ?_
  refine mg_X12_285 C hw dX12_chain_89 ?_
  refine lv_iload_n hx hb dX12_chain_92 rfl (lv_at hl 2 rfl) ?_
  refine lv_iconst (v := 1) hx hb dX12_chain_93 (by decide) ?_
  refine lv_icmp_le (tgt := 101) hx hb dX12_chain_94 (by decide) (fun c_1 => ?_) (fun c_1 => ?_)
  · have hm := (if_pos c_1).symm.trans hm
    exact mw_chain_101 fu rc hr C hret ag_10 hag_10 x1 x3 (F 70) F G hm hw (lv_sub hl [0, 1, 2] rfl)
  · have hm := (if_neg c_1).symm.trans hm
    exact mw_chain_97 fu rc hr C hret ag_10 hag_10 x1 (F 70) F G hm hw (lv_sub hl [0, 1] rfl)
theorem mw_chain_74 (fu : Nat) (rc : RC) {dd : Nat} (hr : mH1 l v a rc dd) {res : Int32 × PF × PG} (C : mMC p R s m args c A v RX12 cX12_chain 4 (dd + 1 + 3) (60 * (dd + 1) + 64)) (hret : ∀ (H1 : Heap) (locs1 : List Loc) (ls1 : Array Slot) (pc : Nat), mMW s A v a res.2.1 res.2.2 H1 locs1 → narrow .boolean (.int res.1) = .int res.1 → decode cX12_chain pc = .ok (.ireturn, 1) → W p l e R s m args below meth c H1 locs1 0 0 Q (F0 m pc ls1 [.int res.1])) (ag_10 : Int32 → Int32 → PF → PG → PR) (hag_10 : ∀ (x1 : Int32) (x2 : Int32) (F : PF) (G : PG), ag_10 x1 x2 F G = some res → ∀ (H : Heap) (locs : List Loc) (ls : Array Slot), mMW s A v a F G H locs → lv_has ls 4 [(0, .ref (a 212)), (1, .int x1), (2, .int x2)] → W p l e R s m args below meth c H locs 0 0 Q (F0 m 10 ls [])) (x1 : Int32) (x3 : Int32) (F : PF) (G : PG) (hm : mb_chain_74 fu rc ag_10 x1 x3 F G = some res) {H : Heap} {locs : List Loc} (hw : mMW s A v a F G H locs) {ls : Array Slot} (hl : lv_has ls 4 [(0, .ref (a 212)), (1, .int x1), (3, .int x3)]) : W p l e R s m args below meth c H locs 0 0 Q (F0 m 74 ls []) := by
  have hx := C.1
  have hb := C.2.1
  unfold mb_chain_74 at hm
  refine lv_aload_n hx hb dX12_chain_74 rfl (lv_at hl 0 rfl) ?_
  refine mg_X12_119 C hw dX12_chain_75 ?_
  refine lv_aload_n hx hb dX12_chain_78 rfl (lv_at hl 0 rfl) ?_
  refine mg_X12_285 C hw dX12_chain_79 ?_
  refine lv_iload_n hx hb dX12_chain_82 rfl (lv_at hl 2 rfl) ?_
  obtain ⟨hi, hm⟩ := ix_elim hm
  refine mas_68 C hw hi dX12_chain_83 (fun H locs hw => ?_)
  exact mw_chain_84 fu rc hr C hret ag_10 hag_10 x1 x3 F (gup G 68 (F 70).toNatClampNeg x3) hm hw (lv_sub hl [0, 1, 2] rfl)
theorem mw_chain_56 (fu : Nat) (rc : RC) {dd : Nat} (hr : mH1 l v a rc dd) {res : Int32 × PF × PG} (C : mMC p R s m args c A v RX12 cX12_chain 4 (dd + 1 + 3) (60 * (dd + 1) + 64)) (hret : ∀ (H1 : Heap) (locs1 : List Loc) (ls1 : Array Slot) (pc : Nat), mMW s A v a res.2.1 res.2.2 H1 locs1 → narrow .boolean (.int res.1) = .int res.1 → decode cX12_chain pc = .ok (.ireturn, 1) → W p l e R s m args below meth c H1 locs1 0 0 Q (F0 m pc ls1 [.int res.1])) (ag_10 : Int32 → Int32 → PF → PG → PR) (hag_10 : ∀ (x1 : Int32) (x2 : Int32) (F : PF) (G : PG), ag_10 x1 x2 F G = some res → ∀ (H : Heap) (locs : List Loc) (ls : Array Slot), mMW s A v a F G H locs → lv_has ls 4 [(0, .ref (a 212)), (1, .int x1), (2, .int x2)] → W p l e R s m args below meth c H locs 0 0 Q (F0 m 10 ls [])) (x1 : Int32) (x3 : Int32) (F : PF) (G : PG) (hm : mb_chain_56 fu rc ag_10 x1 x3 F G = some res) {H : Heap} {locs : List Loc} (hw : mMW s A v a F G H locs) {ls : Array Slot} (hl : lv_has ls 4 [(0, .ref (a 212)), (1, .int x1), (3, .int x3)]) : W p l e R s m args below meth c H locs 0 0 Q (F0 m 56 ls []) := by
  have hx := C.1
  have hb := C.2.1
  unfold mb_chain_56 at hm
  refine lv_aload_n hx hb dX12_chain_56 rfl (lv_at hl 0 rfl) ?_
  refine mg_X12_116 C hw dX12_chain_57 ?_
  refine lv_aload_n hx hb dX12_chain_60 rfl (lv_at hl 0 rfl) ?_
  refine mg_X12_285 C hw dX12_chain_61 ?_
  refine lv_aload_n hx hb dX12_chain_64 rfl (lv_at hl 0 rfl) ?_
  refine mg_X12_19 C hw dX12_chain_65 ?_
  refine lv_aload_n hx hb dX12_chain_68 rfl (lv_at hl 0 rfl) ?_
  refine mg_X12_233 C hw dX12_chain_69 ?_
  obtain ⟨hi, hm⟩ := ix_elim hm
  refine mal_5 C hw hi dX12_chain_72 ?_
  obtain ⟨hi, hm⟩ := ix_elim hm
  refine mas_67 C hw hi dX12_chain_73 (fun H locs hw => ?_)
  exact mw_chain_74 fu rc hr C hret ag_10 hag_10 x1 x3 F (gup G 67 (F 70).toNatClampNeg (G 5 (F 42).toNatClampNeg)) hm hw (lv_sub hl [0, 1, 2] rfl)
theorem mw_chain_54 (fu : Nat) (rc : RC) {dd : Nat} (hr : mH1 l v a rc dd) {res : Int32 × PF × PG} (C : mMC p R s m args c A v RX12 cX12_chain 4 (dd + 1 + 3) (60 * (dd + 1) + 64)) (hret : ∀ (H1 : Heap) (locs1 : List Loc) (ls1 : Array Slot) (pc : Nat), mMW s A v a res.2.1 res.2.2 H1 locs1 → narrow .boolean (.int res.1) = .int res.1 → decode cX12_chain pc = .ok (.ireturn, 1) → W p l e R s m args below meth c H1 locs1 0 0 Q (F0 m pc ls1 [.int res.1])) (F : PF) (G : PG) (hm : mb_chain_54 fu rc F G = some res) {H : Heap} {locs : List Loc} (hw : mMW s A v a F G H locs) {ls : Array Slot} (hl : lv_has ls 4 []) : W p l e R s m args below meth c H locs 0 0 Q (F0 m 54 ls []) := by
  have hx := C.1
  have hb := C.2.1
  unfold mb_chain_54 at hm
  refine lv_iconst (v := 1) hx hb dX12_chain_54 (by decide) ?_
  obtain rfl := Option.some.inj hm
  exact hret _ _ _ _ hw (b01_nar (v := 1) (Or.inr rfl)) dX12_chain_55
theorem mw_chain_49 (fu : Nat) (rc : RC) {dd : Nat} (hr : mH1 l v a rc dd) {res : Int32 × PF × PG} (C : mMC p R s m args c A v RX12 cX12_chain 4 (dd + 1 + 3) (60 * (dd + 1) + 64)) (hret : ∀ (H1 : Heap) (locs1 : List Loc) (ls1 : Array Slot) (pc : Nat), mMW s A v a res.2.1 res.2.2 H1 locs1 → narrow .boolean (.int res.1) = .int res.1 → decode cX12_chain pc = .ok (.ireturn, 1) → W p l e R s m args below meth c H1 locs1 0 0 Q (F0 m pc ls1 [.int res.1])) (ag_10 : Int32 → Int32 → PF → PG → PR) (hag_10 : ∀ (x1 : Int32) (x2 : Int32) (F : PF) (G : PG), ag_10 x1 x2 F G = some res → ∀ (H : Heap) (locs : List Loc) (ls : Array Slot), mMW s A v a F G H locs → lv_has ls 4 [(0, .ref (a 212)), (1, .int x1), (2, .int x2)] → W p l e R s m args below meth c H locs 0 0 Q (F0 m 10 ls [])) (x1 : Int32) (x3 : Int32) (F : PF) (G : PG) (hm : mb_chain_49 fu rc ag_10 x1 x3 F G = some res) {H : Heap} {locs : List Loc} (hw : mMW s A v a F G H locs) {ls : Array Slot} (hl : lv_has ls 4 [(0, .ref (a 212)), (1, .int x1), (3, .int x3)]) : W p l e R s m args below meth c H locs 0 0 Q (F0 m 49 ls []) := by
  have hx := C.1
  have hb := C.2.1
  unfold mb_chain_49 at hm
  refine lv_iload_n hx hb dX12_chain_49 rfl (lv_at hl 2 rfl) ?_
  refine lv_iconst (v := (-1)) hx hb dX12_chain_50 (by decide) ?_
  refine lv_icmp_ne (tgt := 56) hx hb dX12_chain_51 (by decide) (fun c_1 => ?_) (fun c_1 => ?_)
  · have hm := (if_neg c_1).symm.trans hm
    exact mw_chain_56 fu rc hr C hret ag_10 hag_10 x1 x3 F G hm hw (lv_sub hl [0, 1, 2] rfl)
  · have hm := (if_pos c_1).symm.trans hm
    exact mw_chain_54 fu rc hr C hret F G hm hw (lv_sub hl [] rfl)
theorem mw_chain_46 (fu : Nat) (rc : RC) {dd : Nat} (hr : mH1 l v a rc dd) {res : Int32 × PF × PG} (C : mMC p R s m args c A v RX12 cX12_chain 4 (dd + 1 + 3) (60 * (dd + 1) + 64)) (hret : ∀ (H1 : Heap) (locs1 : List Loc) (ls1 : Array Slot) (pc : Nat), mMW s A v a res.2.1 res.2.2 H1 locs1 → narrow .boolean (.int res.1) = .int res.1 → decode cX12_chain pc = .ok (.ireturn, 1) → W p l e R s m args below meth c H1 locs1 0 0 Q (F0 m pc ls1 [.int res.1])) (ag_10 : Int32 → Int32 → PF → PG → PR) (hag_10 : ∀ (x1 : Int32) (x2 : Int32) (F : PF) (G : PG), ag_10 x1 x2 F G = some res → ∀ (H : Heap) (locs : List Loc) (ls : Array Slot), mMW s A v a F G H locs → lv_has ls 4 [(0, .ref (a 212)), (1, .int x1), (2, .int x2)] → W p l e R s m args below meth c H locs 0 0 Q (F0 m 10 ls [])) (ag_19 : Int32 → Int32 → PF → PG → PR) (hag_19 : ∀ (x1 : Int32) (x3 : Int32) (F : PF) (G : PG), ag_19 x1 x3 F G = some res → ∀ (H : Heap) (locs : List Loc) (ls : Array Slot), mMW s A v a F G H locs → lv_has ls 4 [(0, .ref (a 212)), (1, .int x1), (3, .int x3)] → W p l e R s m args below meth c H locs 0 0 Q (F0 m 19 ls [])) (x1 : Int32) (x3 : Int32) (F : PF) (G : PG) (hm : mb_chain_46 fu rc ag_10 ag_19 x1 x3 F G = some res) {H : Heap} {locs : List Loc} (hw : mMW s A v a F G H locs) {ls : Array Slot} (hl : lv_has ls 4 [(0, .ref (a 212)), (1, .int x1), (3, .int x3)]) : W p l e R s m args below meth c H locs 0 0 Q (F0 m 46 ls []) := by
  have hx := C.1
  have hb := C.2.1
  unfold mb_chain_46 at hm
  refine lv_goto (tgt := 19) hx hb dX12_chain_46 (by decide) ?_
  exact hag_19 x1 x3 F G hm _ _ _ hw (lv_sub hl [0, 1, 2] rfl)
theorem mw_chain_42 (fu : Nat) (rc : RC) {dd : Nat} (hr : mH1 l v a rc dd) {res : Int32 × PF × PG} (C : mMC p R s m args c A v RX12 cX12_chain 4 (dd + 1 + 3) (60 * (dd + 1) + 64)) (hret : ∀ (H1 : Heap) (locs1 : List Loc) (ls1 : Array Slot) (pc : Nat), mMW s A v a res.2.1 res.2.2 H1 locs1 → narrow .boolean (.int res.1) = .int res.1 → decode cX12_chain pc = .ok (.ireturn, 1) → W p l e R s m args below meth c H1 locs1 0 0 Q (F0 m pc ls1 [.int res.1])) (ag_10 : Int32 → Int32 → PF → PG → PR) (hag_10 : ∀ (x1 : Int32) (x2 : Int32) (F : PF) (G : PG), ag_10 x1 x2 F G = some res → ∀ (H : Heap) (locs : List Loc) (ls : Array Slot), mMW s A v a F G H locs → lv_has ls 4 [(0, .ref (a 212)), (1, .int x1), (2, .int x2)] → W p l e R s m args below meth c H locs 0 0 Q (F0 m 10 ls [])) (ag_19 : Int32 → Int32 → PF → PG → PR) (hag_19 : ∀ (x1 : Int32) (x3 : Int32) (F : PF) (G : PG), ag_19 x1 x3 F G = some res → ∀ (H : Heap) (locs : List Loc) (ls : Array Slot), mMW s A v a F G H locs → lv_has ls 4 [(0, .ref (a 212)), (1, .int x1), (3, .int x3)] → W p l e R s m args below meth c H locs 0 0 Q (F0 m 19 ls [])) (x1 : Int32) (x3 : Int32) (F : PF) (G : PG) (hm : mb_chain_42 fu rc ag_10 ag_19 x1 x3 F G = some res) {H : Heap} {locs : List Loc} (hw : mMW s A v a F G H locs) {ls : Array Slot} (hl : lv_has ls 4 [(0, .ref (a 212)), (1, .int x1), (3, .int x3)]) : W p l e R s m args below meth c H locs 0 0 Q (F0 m 42 ls []) := by
  have hx := C.1
  have hb := C.2.1
  unfold mb_chain_42 at hm
  refine lv_aload_n hx hb dX12_chain_42 rfl (lv_at hl 0 rfl) ?_
  obtain ⟨⟨r1, F1, G1⟩, hc, hm⟩ := bind_elim hm
  refine mcallV (n := 0) (As := []) (rest := []) C hw (mk_binds l v a _ fu F G r1 F1 G1 hc) (mrecv_X12 C hw) mm_263 mm_264 mm_265 mm_27 mm_266 (by decide +kernel) rfl (by omega) (by omega) hl.1 rfl (Nat.le_of_ble_eq_true rfl) dX12_chain_43 (fun H locs hw => ?_)
  exact mw_chain_46 fu rc hr C hret ag_10 hag_10 ag_19 hag_19 x1 x3 F1 G1 hm hw (lv_sub hl [0, 1, 2] rfl)
theorem mw_chain_27 (fu : Nat) (rc : RC) {dd : Nat} (hr : mH1 l v a rc dd) {res : Int32 × PF × PG} (C : mMC p R s m args c A v RX12 cX12_chain 4 (dd + 1 + 3) (60 * (dd + 1) + 64)) (hret : ∀ (H1 : Heap) (locs1 : List Loc) (ls1 : Array Slot) (pc : Nat), mMW s A v a res.2.1 res.2.2 H1 locs1 → narrow .boolean (.int res.1) = .int res.1 → decode cX12_chain pc = .ok (.ireturn, 1) → W p l e R s m args below meth c H1 locs1 0 0 Q (F0 m pc ls1 [.int res.1])) (ag_10 : Int32 → Int32 → PF → PG → PR) (hag_10 : ∀ (x1 : Int32) (x2 : Int32) (F : PF) (G : PG), ag_10 x1 x2 F G = some res → ∀ (H : Heap) (locs : List Loc) (ls : Array Slot), mMW s A v a F G H locs → lv_has ls 4 [(0, .ref (a 212)), (1, .int x1), (2, .int x2)] → W p l e R s m args below meth c H locs 0 0 Q (F0 m 10 ls [])) (ag_19 : Int32 → Int32 → PF → PG → PR) (hag_19 : ∀ (x1 : Int32) (x3 : Int32) (F : PF) (G : PG), ag_19 x1 x3 F G = some res → ∀ (H : Heap) (locs : List Loc) (ls : Array Slot), mMW s A v a F G H locs → lv_has ls 4 [(0, .ref (a 212)), (1, .int x1), (3, .int x3)] → W p l e R s m args below meth c H locs 0 0 Q (F0 m 19 ls [])) (x1 : Int32) (x3 : Int32) (F : PF) (G : PG) (hm : mb_chain_27 fu rc ag_10 ag_19 x1 x3 F G = some res) {H : Heap} {locs : List Loc} (hw : mMW s A v a F G H locs) {ls : Array Slot} (hl : lv_has ls 4 [(0, .ref (a 212)), (1, .int x1), (3, .int x3)]) : W p l e R s m args below meth c H locs 0 0 Q (F0 m 27 ls []) := by
  have hx := C.1
  have hb := C.2.1
  unfold mb_chain_27 at hm
  refine lv_aload_n hx hb dX12_chain_27 rfl (lv_at hl 0 rfl) ?_
  refine mg_X12_119 C hw dX12_chain_28 ?_
  refine lv_aload_n hx hb dX12_chain_31 rfl (lv_at hl 0 rfl) ?_
  refine mg_X12_285 C hw dX12_chain_32 ?_
  refine lv_iconst (v := 1) hx hb dX12_chain_35 (by decide) ?_
  refine lv_isub hx hb dX12_chain_36 ?_
  obtain ⟨hi, hm⟩ := ix_elim hm
  refine mal_68 C hw hi dX12_chain_37 ?_
  refine lv_iload_n hx hb dX12_chain_38 rfl (lv_at hl 2 rfl) ?_
  refine lv_icmp_lt (tgt := 49) hx hb dX12_chain_39 (by decide) (fun c_1 => ?_) (fun c_1 => ?_)
  · have hm := (if_pos c_1).symm.trans hm
    exact mw_chain_49 fu rc hr C hret ag_10 hag_10 x1 x3 F G hm hw (lv_sub hl [0, 1, 2] rfl)
  · have hm := (if_neg c_1).symm.trans hm
    exact mw_chain_42 fu rc hr C hret ag_10 hag_10 ag_19 hag_19 x1 x3 F G hm hw (lv_sub hl [0, 1, 2] rfl)
theorem mw_chain_19 (fu : Nat) (rc : RC) {dd : Nat} (hr : mH1 l v a rc dd) {res : Int32 × PF × PG} (C : mMC p R s m args c A v RX12 cX12_chain 4 (dd + 1 + 3) (60 * (dd + 1) + 64)) (hret : ∀ (H1 : Heap) (locs1 : List Loc) (ls1 : Array Slot) (pc : Nat), mMW s A v a res.2.1 res.2.2 H1 locs1 → narrow .boolean (.int res.1) = .int res.1 → decode cX12_chain pc = .ok (.ireturn, 1) → W p l e R s m args below meth c H1 locs1 0 0 Q (F0 m pc ls1 [.int res.1])) (ag_10 : Int32 → Int32 → PF → PG → PR) (hag_10 : ∀ (x1 : Int32) (x2 : Int32) (F : PF) (G : PG), ag_10 x1 x2 F G = some res → ∀ (H : Heap) (locs : List Loc) (ls : Array Slot), mMW s A v a F G H locs → lv_has ls 4 [(0, .ref (a 212)), (1, .int x1), (2, .int x2)] → W p l e R s m args below meth c H locs 0 0 Q (F0 m 10 ls [])) (ag_19 : Int32 → Int32 → PF → PG → PR) (hag_19 : ∀ (x1 : Int32) (x3 : Int32) (F : PF) (G : PG), ag_19 x1 x3 F G = some res → ∀ (H : Heap) (locs : List Loc) (ls : Array Slot), mMW s A v a F G H locs → lv_has ls 4 [(0, .ref (a 212)), (1, .int x1), (3, .int x3)] → W p l e R s m args below meth c H locs 0 0 Q (F0 m 19 ls [])) (x1 : Int32) (x3 : Int32) (F : PF) (G : PG) (hm : mb_chain_19 fu rc ag_10 ag_19 x1 x3 F G = some res) {H : Heap} {locs : List Loc} (hw : mMW s A v a F G H locs) {ls : Array Slot} (hl : lv_has ls 4 [(0, .ref (a 212)), (1, .int x1), (3, .int x3)]) : W p l e R s m args below meth c H locs 0 0 Q (F0 m 19 ls []) := by
  have hx := C.1
  have hb := C.2.1
  unfold mb_chain_19 at hm
  refine lv_aload_n hx hb dX12_chain_19 rfl (lv_at hl 0 rfl) ?_
  refine mg_X12_285 C hw dX12_chain_20 ?_
  refine lv_iload_n hx hb dX12_chain_23 rfl (lv_at hl 1 rfl) ?_
  refine lv_icmp_le (tgt := 49) hx hb dX12_chain_24 (by decide) (fun c_1 => ?_) (fun c_1 => ?_)
  · have hm := (if_pos c_1).symm.trans hm
    exact mw_chain_49 fu rc hr C hret ag_10 hag_10 x1 x3 F G hm hw (lv_sub hl [0, 1, 2] rfl)
  · have hm := (if_neg c_1).symm.trans hm
    exact mw_chain_27 fu rc hr C hret ag_10 hag_10 ag_19 hag_19 x1 x3 F G hm hw (lv_sub hl [0, 1, 2] rfl)
theorem mwl_chain_19 (fu : Nat) (rc : RC) {dd : Nat} (hr : mH1 l v a rc dd) {res : Int32 × PF × PG} (C : mMC p R s m args c A v RX12 cX12_chain 4 (dd + 1 + 3) (60 * (dd + 1) + 64)) (hret : ∀ (H1 : Heap) (locs1 : List Loc) (ls1 : Array Slot) (pc : Nat), mMW s A v a res.2.1 res.2.2 H1 locs1 → narrow .boolean (.int res.1) = .int res.1 → decode cX12_chain pc = .ok (.ireturn, 1) → W p l e R s m args below meth c H1 locs1 0 0 Q (F0 m pc ls1 [.int res.1])) (ag_10 : Int32 → Int32 → PF → PG → PR) (hag_10 : ∀ (x1 : Int32) (x2 : Int32) (F : PF) (G : PG), ag_10 x1 x2 F G = some res → ∀ (H : Heap) (locs : List Loc) (ls : Array Slot), mMW s A v a F G H locs → lv_has ls 4 [(0, .ref (a 212)), (1, .int x1), (2, .int x2)] → W p l e R s m args below meth c H locs 0 0 Q (F0 m 10 ls [])) : ∀ (n : Nat) (x1 : Int32) (x3 : Int32) (F : PF) (G : PG) (hm : ml_chain_19 fu rc ag_10 n x1 x3 F G = some res) {H : Heap} {locs : List Loc} (hw : mMW s A v a F G H locs) {ls : Array Slot} (hl : lv_has ls 4 [(0, .ref (a 212)), (1, .int x1), (3, .int x3)]), W p l e R s m args below meth c H locs 0 0 Q (F0 m 19 ls []) := by
  intro n
  induction n with
  | zero =>
    intro x1 x3 F G hm
    exact no_elim (show (none : PR) = some res from hm)
  | succ n ih =>
    intro x1 x3 F G hm H locs hw ls hl
    exact mw_chain_19 fu rc hr C hret ag_10 hag_10 (ml_chain_19 fu rc ag_10 n) (fun x1 x3 F G hm H locs ls hw hl => ih x1 x3 F G hm hw hl) x1 x3 F G hm hw hl
theorem mw_chain_18 (fu : Nat) (rc : RC) {dd : Nat} (hr : mH1 l v a rc dd) {res : Int32 × PF × PG} (C : mMC p R s m args c A v RX12 cX12_chain 4 (dd + 1 + 3) (60 * (dd + 1) + 64)) (hret : ∀ (H1 : Heap) (locs1 : List Loc) (ls1 : Array Slot) (pc : Nat), mMW s A v a res.2.1 res.2.2 H1 locs1 → narrow .boolean (.int res.1) = .int res.1 → decode cX12_chain pc = .ok (.ireturn, 1) → W p l e R s m args below meth c H1 locs1 0 0 Q (F0 m pc ls1 [.int res.1])) (ag_10 : Int32 → Int32 → PF → PG → PR) (hag_10 : ∀ (x1 : Int32) (x2 : Int32) (F : PF) (G : PG), ag_10 x1 x2 F G = some res → ∀ (H : Heap) (locs : List Loc) (ls : Array Slot), mMW s A v a F G H locs → lv_has ls 4 [(0, .ref (a 212)), (1, .int x1), (2, .int x2)] → W p l e R s m args below meth c H locs 0 0 Q (F0 m 10 ls [])) (x1 : Int32) (z0 : Int32) (F : PF) (G : PG) (hm : mb_chain_18 fu rc ag_10 x1 z0 F G = some res) {H : Heap} {locs : List Loc} (hw : mMW s A v a F G H locs) {ls : Array Slot} (hl : lv_has ls 4 [(0, .ref (a 212)), (1, .int x1)]) : W p l e R s m args below meth c H locs 0 0 Q (F0 m 18 ls [.int z0]) := by
  have hx := C.1
  have hb := C.2.1
  unfold mb_chain_18 at hm
  refine lv_istore_n (lv' := [(3, .int z0), (0, .ref (a 212)), (1, .int x1)]) hx hb dX12_chain_18 rfl hl (by decide) rfl (fun ls hl => ?_)
  exact mwl_chain_19 fu rc hr C hret ag_10 hag_10 fu x1 z0 F G hm hw (lv_sub hl [1, 2, 0] rfl)
theorem mw_chain_14 (fu : Nat) (rc : RC) {dd : Nat} (hr : mH1 l v a rc dd) {res : Int32 × PF × PG} (C : mMC p R s m args c A v RX12 cX12_chain 4 (dd + 1 + 3) (60 * (dd + 1) + 64)) (hret : ∀ (H1 : Heap) (locs1 : List Loc) (ls1 : Array Slot) (pc : Nat), mMW s A v a res.2.1 res.2.2 H1 locs1 → narrow .boolean (.int res.1) = .int res.1 → decode cX12_chain pc = .ok (.ireturn, 1) → W p l e R s m args below meth c H1 locs1 0 0 Q (F0 m pc ls1 [.int res.1])) (ag_10 : Int32 → Int32 → PF → PG → PR) (hag_10 : ∀ (x1 : Int32) (x2 : Int32) (F : PF) (G : PG), ag_10 x1 x2 F G = some res → ∀ (H : Heap) (locs : List Loc) (ls : Array Slot), mMW s A v a F G H locs → lv_has ls 4 [(0, .ref (a 212)), (1, .int x1), (2, .int x2)] → W p l e R s m args below meth c H locs 0 0 Q (F0 m 10 ls [])) (x1 : Int32) (F : PF) (G : PG) (hm : mb_chain_14 fu rc ag_10 x1 F G = some res) {H : Heap} {locs : List Loc} (hw : mMW s A v a F G H locs) {ls : Array Slot} (hl : lv_has ls 4 [(0, .ref (a 212)), (1, .int x1)]) : W p l e R s m args below meth c H locs 0 0 Q (F0 m 14 ls []) := by
  have hx := C.1
  have hb := C.2.1
  unfold mb_chain_14 at hm
  refine lv_aload_n hx hb dX12_chain_14 rfl (lv_at hl 0 rfl) ?_
  obtain ⟨⟨r1, F1, G1⟩, hc, hm⟩ := bind_elim hm
  refine mcallI (n := 0) (As := []) (rest := []) C hw (mk_level l v a _ fu F G r1 F1 G1 hc) (mrecv_X12 C hw) mm_259 mm_260 mm_261 mm_27 mm_262 (by decide +kernel) rfl (by omega) (by omega) hl.1 rfl (Nat.le_of_ble_eq_true rfl) dX12_chain_15 (fun H locs hw => ?_)
  exact mw_chain_18 fu rc hr C hret ag_10 hag_10 x1 r1 F1 G1 hm hw (lv_sub hl [0, 1] rfl)
theorem mw_chain_10 (fu : Nat) (rc : RC) {dd : Nat} (hr : mH1 l v a rc dd) {res : Int32 × PF × PG} (C : mMC p R s m args c A v RX12 cX12_chain 4 (dd + 1 + 3) (60 * (dd + 1) + 64)) (hret : ∀ (H1 : Heap) (locs1 : List Loc) (ls1 : Array Slot) (pc : Nat), mMW s A v a res.2.1 res.2.2 H1 locs1 → narrow .boolean (.int res.1) = .int res.1 → decode cX12_chain pc = .ok (.ireturn, 1) → W p l e R s m args below meth c H1 locs1 0 0 Q (F0 m pc ls1 [.int res.1])) (ag_10 : Int32 → Int32 → PF → PG → PR) (hag_10 : ∀ (x1 : Int32) (x2 : Int32) (F : PF) (G : PG), ag_10 x1 x2 F G = some res → ∀ (H : Heap) (locs : List Loc) (ls : Array Slot), mMW s A v a F G H locs → lv_has ls 4 [(0, .ref (a 212)), (1, .int x1), (2, .int x2)] → W p l e R s m args below meth c H locs 0 0 Q (F0 m 10 ls [])) (x1 : Int32) (x2 : Int32) (F : PF) (G : PG) (hm : mb_chain_10 fu rc ag_10 x1 x2 F G = some res) {H : Heap} {locs : List Loc} (hw : mMW s A v a F G H locs) {ls : Array Slot} (hl : lv_has ls 4 [(0, .ref (a 212)), (1, .int x1), (2, .int x2)]) : W p l e R s m args below meth c H locs 0 0 Q (F0 m 10 ls []) := by
  have hx := C.1
  have hb := C.2.1
  unfold mb_chain_10 at hm
  refine lv_iload_n hx hb dX12_chain_10 rfl (lv_at hl 2 rfl) ?_
  refine lv_if_eq (tgt := 147) hx hb dX12_chain_11 (by decide) (fun c_1 => ?_) (fun c_1 => ?_)
  · have hm := (if_pos c_1).symm.trans hm
    exact mw_chain_147 fu rc hr C hret F G hm hw (lv_sub hl [] rfl)
  · have hm := (if_neg c_1).symm.trans hm
    exact mw_chain_14 fu rc hr C hret ag_10 hag_10 x1 F G hm hw (lv_sub hl [0, 1] rfl)
theorem mwl_chain_10 (fu : Nat) (rc : RC) {dd : Nat} (hr : mH1 l v a rc dd) {res : Int32 × PF × PG} (C : mMC p R s m args c A v RX12 cX12_chain 4 (dd + 1 + 3) (60 * (dd + 1) + 64)) (hret : ∀ (H1 : Heap) (locs1 : List Loc) (ls1 : Array Slot) (pc : Nat), mMW s A v a res.2.1 res.2.2 H1 locs1 → narrow .boolean (.int res.1) = .int res.1 → decode cX12_chain pc = .ok (.ireturn, 1) → W p l e R s m args below meth c H1 locs1 0 0 Q (F0 m pc ls1 [.int res.1])) : ∀ (n : Nat) (x1 : Int32) (x2 : Int32) (F : PF) (G : PG) (hm : ml_chain_10 fu rc n x1 x2 F G = some res) {H : Heap} {locs : List Loc} (hw : mMW s A v a F G H locs) {ls : Array Slot} (hl : lv_has ls 4 [(0, .ref (a 212)), (1, .int x1), (2, .int x2)]), W p l e R s m args below meth c H locs 0 0 Q (F0 m 10 ls []) := by
  intro n
  induction n with
  | zero =>
    intro x1 x2 F G hm
    exact no_elim (show (none : PR) = some res from hm)
  | succ n ih =>
    intro x1 x2 F G hm H locs hw ls hl
    exact mw_chain_10 fu rc hr C hret (ml_chain_10 fu rc n) (fun x1 x2 F G hm H locs ls hw hl => ih x1 x2 F G hm hw hl) x1 x2 F G hm hw hl
theorem mw_chain_9 (fu : Nat) (rc : RC) {dd : Nat} (hr : mH1 l v a rc dd) {res : Int32 × PF × PG} (C : mMC p R s m args c A v RX12 cX12_chain 4 (dd + 1 + 3) (60 * (dd + 1) + 64)) (hret : ∀ (H1 : Heap) (locs1 : List Loc) (ls1 : Array Slot) (pc : Nat), mMW s A v a res.2.1 res.2.2 H1 locs1 → narrow .boolean (.int res.1) = .int res.1 → decode cX12_chain pc = .ok (.ireturn, 1) → W p l e R s m args below meth c H1 locs1 0 0 Q (F0 m pc ls1 [.int res.1])) (x1 : Int32) (z0 : Int32) (F : PF) (G : PG) (hm : mb_chain_9 fu rc x1 z0 F G = some res) {H : Heap} {locs : List Loc} (hw : mMW s A v a F G H locs) {ls : Array Slot} (hl : lv_has ls 4 [(0, .ref (a 212)), (1, .int x1)]) : W p l e R s m args below meth c H locs 0 0 Q (F0 m 9 ls [.int z0]) := by
  have hx := C.1
  have hb := C.2.1
  unfold mb_chain_9 at hm
  refine lv_istore_n (lv' := [(2, .int z0), (0, .ref (a 212)), (1, .int x1)]) hx hb dX12_chain_9 rfl hl (by decide) rfl (fun ls hl => ?_)
  exact mwl_chain_10 fu rc hr C hret fu x1 z0 F G hm hw (lv_sub hl [1, 2, 0] rfl)
theorem mw_chain_0 (fu : Nat) (rc : RC) {dd : Nat} (hr : mH1 l v a rc dd) {res : Int32 × PF × PG} (C : mMC p R s m args c A v RX12 cX12_chain 4 (dd + 1 + 3) (60 * (dd + 1) + 64)) (hret : ∀ (H1 : Heap) (locs1 : List Loc) (ls1 : Array Slot) (pc : Nat), mMW s A v a res.2.1 res.2.2 H1 locs1 → narrow .boolean (.int res.1) = .int res.1 → decode cX12_chain pc = .ok (.ireturn, 1) → W p l e R s m args below meth c H1 locs1 0 0 Q (F0 m pc ls1 [.int res.1])) (F : PF) (G : PG) (hm : mb_chain_0 fu rc F G = some res) {H : Heap} {locs : List Loc} (hw : mMW s A v a F G H locs) {ls : Array Slot} (hl : lv_has ls 4 [(0, .ref (a 212))]) : W p l e R s m args below meth c H locs 0 0 Q (F0 m 0 ls []) := by
  have hx := C.1
  have hb := C.2.1
  unfold mb_chain_0 at hm
  refine lv_aload_n hx hb dX12_chain_0 rfl (lv_at hl 0 rfl) ?_
  refine mg_X12_285 C hw dX12_chain_1 ?_
  refine lv_istore_n (lv' := [(1, .int (F 70)), (0, .ref (a 212))]) hx hb dX12_chain_4 rfl hl (by decide) rfl (fun ls hl => ?_)
  refine lv_aload_n hx hb dX12_chain_5 rfl (lv_at hl 1 rfl) ?_
  obtain ⟨⟨r1, F1, G1⟩, hc, hm⟩ := bind_elim hm
  refine mcallI (n := 0) (As := []) (rest := []) C hw (hr.2.2.2.2.2.2.2.1 _ F G r1 F1 G1 hc) (mrecv_X12 C hw) mm_256 mm_257 mm_258 mm_27 mm_276 (by decide +kernel) rfl (by omega) (by omega) hl.1 rfl (Nat.le_of_ble_eq_true rfl) dX12_chain_6 (fun H locs hw => ?_)
  exact mw_chain_9 fu rc hr C hret (F 70) r1 F1 G1 hm hw (lv_sub hl [1, 0] rfl)
theorem mq_chain (l : Launch) (v : EV) (a : Nat → Nat) (sz : Nat) (fu : Nat) (rc : RC) {dd : Nat} (hr : mH1 l v a rc dd) (F : PF) (G : PG) (r : Int32) (F1 : PF) (G1 : PG) (hm : mh_chain fu rc F G = some (r, F1, G1)) : mMI l yX12_chain cX12_chain 4 (some .boolean) (dd + 1 + 3) (60 * (dd + 1) + 64) v a sz [.ref (a 212)] F G r F1 G1 := mMI.of (ty := .boolean) (by decide) rfl (Nat.le_of_ble_eq_true rfl) (fun p e R s m args below meth c Q A H locs ls C hw hl hret => mw_chain_0 fu rc hr (res := (r, F1, G1)) C hret F G hm hw hl)
def mb_element_89 (fu : Nat) (rc : RC) (F : PF) (G : PG) : PR := some (0, F, G)
def mb_element_123 (fu : Nat) (rc : RC) (F : PF) (G : PG) : PR := some (1, F, G)
def mb_element_121 (fu : Nat) (rc : RC) (z0 : Int32) (z1 : Int32) (z2 : Int32) (F : PF) (G : PG) : PR := if ixb z2 9000 = true then (mb_element_123 fu rc F (gup G 59 z2.toNatClampNeg (z1 + z0))) else none
def mb_element_120 (fu : Nat) (rc : RC) (z0 : Int32) (z1 : Int32) (F : PF) (G : PG) : PR := mb_element_121 fu rc 0 z0 z1 F G
def mb_element_116 (fu : Nat) (rc : RC) (z0 : Int32) (z1 : Int32) (F : PF) (G : PG) : PR := mb_element_121 fu rc 1 z0 z1 F G
def mb_element_100 (fu : Nat) (rc : RC) (x2 : Int32) (x5 : Int32) (z0 : Int32) (F : PF) (G : PG) : PR := if x5 = (0 : Int32) then mb_element_120 fu rc ((2 : Int32) * x2) z0 F G else mb_element_116 fu rc ((2 : Int32) * x2) z0 F G
def mb_element_91 (fu : Nat) (rc : RC) (x2 : Int32) (x3 : Int32) (x4 : Int32) (x5 : Int32) (F : PF) (G : PG) : PR := (mf_step fu 6 x3 x4 F G).bind (fun q => mb_element_100 fu rc x2 x5 q.1 q.2.1 q.2.2)
def mb_element_86 (fu : Nat) (rc : RC) (x2 : Int32) (x3 : Int32) (x4 : Int32) (x5 : Int32) (z0 : Int32) (F : PF) (G : PG) : PR := if z0 = (0 : Int32) then mb_element_89 fu rc F G else mb_element_91 fu rc x2 x3 x4 x5 F G
def mb_element_80 (fu : Nat) (rc : RC) (x2 : Int32) (x3 : Int32) (x4 : Int32) (x5 : Int32) (F : PF) (G : PG) : PR := (mf_closeSign fu 25 F G).bind (fun q => mb_element_86 fu rc x2 x3 x4 x5 q.1 q.2.1 q.2.2)
def mb_element_77 (fu : Nat) (rc : RC) (x2 : Int32) (x3 : Int32) (x4 : Int32) (x5 : Int32) (z0 : Int32) (F : PF) (G : PG) : PR := if z0 = (0 : Int32) then mb_element_89 fu rc F G else mb_element_80 fu rc x2 x3 x4 x5 F G
def mb_element_73 (fu : Nat) (rc : RC) (x2 : Int32) (x3 : Int32) (x4 : Int32) (x5 : Int32) (F : PF) (G : PG) : PR := (rc 4 0 0 F G).bind (fun q => mb_element_77 fu rc x2 x3 x4 x5 q.1 q.2.1 q.2.2)
def mb_element_70 (fu : Nat) (rc : RC) (x2 : Int32) (x3 : Int32) (x4 : Int32) (x5 : Int32) (z0 : Int32) (F : PF) (G : PG) : PR := if z0 = (0 : Int32) then mb_element_89 fu rc F G else mb_element_73 fu rc x2 x3 x4 x5 F G
def mb_element_62 (fu : Nat) (rc : RC) (x2 : Int32) (x3 : Int32) (x4 : Int32) (z0 : Int32) (F : PF) (G : PG) : PR := (mf_openSign fu 24 F G).bind (fun q => mb_element_70 fu rc x2 x3 x4 z0 q.1 q.2.1 q.2.2)
def mb_element_61 (fu : Nat) (rc : RC) (x2 : Int32) (x3 : Int32) (x4 : Int32) (F : PF) (G : PG) : PR := mb_element_62 fu rc x2 x3 x4 0 F G
def mb_element_57 (fu : Nat) (rc : RC) (x2 : Int32) (x3 : Int32) (x4 : Int32) (F : PF) (G : PG) : PR := mb_element_62 fu rc x2 x3 x4 1 F G
def mb_element_48 (fu : Nat) (rc : RC) (x1 : Int32) (x2 : Int32) (x3 : Int32) (x4 : Int32) (F : PF) (G : PG) : PR := if ixb x1 900 = true then (if (G 23 x1.toNatClampNeg) = (0 : Int32) then mb_element_61 fu rc x2 x3 x4 F G else mb_element_57 fu rc x2 x3 x4 F G) else none
def mb_element_41 (fu : Nat) (rc : RC) (x1 : Int32) (x2 : Int32) (x3 : Int32) (z0 : Int32) (F : PF) (G : PG) : PR := if x1 = (-1 : Int32) then mb_element_61 fu rc x2 x3 z0 F G else mb_element_48 fu rc x1 x2 x3 z0 F G
def mb_element_35 (fu : Nat) (rc : RC) (x1 : Int32) (x2 : Int32) (x3 : Int32) (F : PF) (G : PG) : PR := if ixb x1 900 = true then (mb_element_41 fu rc x1 x2 x3 (G 21 x1.toNatClampNeg) F G) else none
def mb_element_31 (fu : Nat) (rc : RC) (x1 : Int32) (x2 : Int32) (x3 : Int32) (F : PF) (G : PG) : PR := mb_element_41 fu rc x1 x2 x3 1 F G
def mb_element_25 (fu : Nat) (rc : RC) (x1 : Int32) (x2 : Int32) (z0 : Int32) (F : PF) (G : PG) : PR := if x1 = (-1 : Int32) then mb_element_31 fu rc x1 x2 z0 F G else mb_element_35 fu rc x1 x2 z0 F G
def mb_element_19 (fu : Nat) (rc : RC) (x1 : Int32) (x2 : Int32) (F : PF) (G : PG) : PR := if ixb x1 900 = true then (mb_element_25 fu rc x1 x2 (G 20 x1.toNatClampNeg) F G) else none
def mb_element_15 (fu : Nat) (rc : RC) (x1 : Int32) (x2 : Int32) (F : PF) (G : PG) : PR := mb_element_25 fu rc x1 x2 0 F G
def mb_element_0 (fu : Nat) (rc : RC) (x1 : Int32) (F : PF) (G : PG) : PR := if ixb (F 42) 4002 = true then (if x1 = (-1 : Int32) then mb_element_15 fu rc x1 (G 6 (F 42).toNatClampNeg) F G else mb_element_19 fu rc x1 (G 6 (F 42).toNatClampNeg) F G) else none
def mh_element (fu : Nat) (rc : RC) (x1 : Int32) (F : PF) (G : PG) : PR := mb_element_0 fu rc x1 F G
theorem mw_element_89 (fu : Nat) (rc : RC) {dd : Nat} (hr : mH1 l v a rc dd) {res : Int32 × PF × PG} (C : mMC p R s m args c A v RX12 cX12_element 7 (dd + 1 + 3) (60 * (dd + 1) + 64)) (hret : ∀ (H1 : Heap) (locs1 : List Loc) (ls1 : Array Slot) (pc : Nat), mMW s A v a res.2.1 res.2.2 H1 locs1 → narrow .boolean (.int res.1) = .int res.1 → decode cX12_element pc = .ok (.ireturn, 1) → W p l e R s m args below meth c H1 locs1 0 0 Q (F0 m pc ls1 [.int res.1])) (F : PF) (G : PG) (hm : mb_element_89 fu rc F G = some res) {H : Heap} {locs : List Loc} (hw : mMW s A v a F G H locs) {ls : Array Slot} (hl : lv_has ls 7 []) : W p l e R s m args below meth c H locs 0 0 Q (F0 m 89 ls []) := by
  have hx := C.1
  have hb := C.2.1
  unfold mb_element_89 at hm
  refine lv_iconst (v := 0) hx hb dX12_element_89 (by decide) ?_
  obtain rfl := Option.some.inj hm
  exact hret _ _ _ _ hw (b01_nar (v := 0) (Or.inl rfl)) dX12_element_90
theorem mw_element_123 (fu : Nat) (rc : RC) {dd : Nat} (hr : mH1 l v a rc dd) {res : Int32 × PF × PG} (C : mMC p R s m args c A v RX12 cX12_element 7 (dd + 1 + 3) (60 * (dd + 1) + 64)) (hret : ∀ (H1 : Heap) (locs1 : List Loc) (ls1 : Array Slot) (pc : Nat), mMW s A v a res.2.1 res.2.2 H1 locs1 → narrow .boolean (.int res.1) = .int res.1 → decode cX12_element pc = .ok (.ireturn, 1) → W p l e R s m args below meth c H1 locs1 0 0 Q (F0 m pc ls1 [.int res.1])) (F : PF) (G : PG) (hm : mb_element_123 fu rc F G = some res) {H : Heap} {locs : List Loc} (hw : mMW s A v a F G H locs) {ls : Array Slot} (hl : lv_has ls 7 []) : W p l e R s m args below meth c H locs 0 0 Q (F0 m 123 ls []) := by
  have hx := C.1
  have hb := C.2.1
  unfold mb_element_123 at hm
  refine lv_iconst (v := 1) hx hb dX12_element_123 (by decide) ?_
  obtain rfl := Option.some.inj hm
  exact hret _ _ _ _ hw (b01_nar (v := 1) (Or.inr rfl)) dX12_element_124
theorem mw_element_121 (fu : Nat) (rc : RC) {dd : Nat} (hr : mH1 l v a rc dd) {res : Int32 × PF × PG} (C : mMC p R s m args c A v RX12 cX12_element 7 (dd + 1 + 3) (60 * (dd + 1) + 64)) (hret : ∀ (H1 : Heap) (locs1 : List Loc) (ls1 : Array Slot) (pc : Nat), mMW s A v a res.2.1 res.2.2 H1 locs1 → narrow .boolean (.int res.1) = .int res.1 → decode cX12_element pc = .ok (.ireturn, 1) → W p l e R s m args below meth c H1 locs1 0 0 Q (F0 m pc ls1 [.int res.1])) (z0 : Int32) (z1 : Int32) (z2 : Int32) (F : PF) (G : PG) (hm : mb_element_121 fu rc z0 z1 z2 F G = some res) {H : Heap} {locs : List Loc} (hw : mMW s A v a F G H locs) {ls : Array Slot} (hl : lv_has ls 7 []) : W p l e R s m args below meth c H locs 0 0 Q (F0 m 121 ls [.int z0, .int z1, .int z2, .ref (a 59)]) := by
  have hx := C.1
  have hb := C.2.1
  unfold mb_element_121 at hm
  refine lv_iadd hx hb dX12_element_121 ?_
  obtain ⟨hi, hm⟩ := ix_elim hm
  refine mas_59 C hw hi dX12_element_122 (fun H locs hw => ?_)
  exact mw_element_123 fu rc hr C hret F (gup G 59 z2.toNatClampNeg (z1 + z0)) hm hw (lv_sub hl [] rfl)
theorem mw_element_120 (fu : Nat) (rc : RC) {dd : Nat} (hr : mH1 l v a rc dd) {res : Int32 × PF × PG} (C : mMC p R s m args c A v RX12 cX12_element 7 (dd + 1 + 3) (60 * (dd + 1) + 64)) (hret : ∀ (H1 : Heap) (locs1 : List Loc) (ls1 : Array Slot) (pc : Nat), mMW s A v a res.2.1 res.2.2 H1 locs1 → narrow .boolean (.int res.1) = .int res.1 → decode cX12_element pc = .ok (.ireturn, 1) → W p l e R s m args below meth c H1 locs1 0 0 Q (F0 m pc ls1 [.int res.1])) (z0 : Int32) (z1 : Int32) (F : PF) (G : PG) (hm : mb_element_120 fu rc z0 z1 F G = some res) {H : Heap} {locs : List Loc} (hw : mMW s A v a F G H locs) {ls : Array Slot} (hl : lv_has ls 7 []) : W p l e R s m args below meth c H locs 0 0 Q (F0 m 120 ls [.int z0, .int z1, .ref (a 59)]) := by
  have hx := C.1
  have hb := C.2.1
  unfold mb_element_120 at hm
  refine lv_iconst (v := 0) hx hb dX12_element_120 (by decide) ?_
  exact mw_element_121 fu rc hr C hret 0 z0 z1 F G hm hw (lv_sub hl [] rfl)
theorem mw_element_116 (fu : Nat) (rc : RC) {dd : Nat} (hr : mH1 l v a rc dd) {res : Int32 × PF × PG} (C : mMC p R s m args c A v RX12 cX12_element 7 (dd + 1 + 3) (60 * (dd + 1) + 64)) (hret : ∀ (H1 : Heap) (locs1 : List Loc) (ls1 : Array Slot) (pc : Nat), mMW s A v a res.2.1 res.2.2 H1 locs1 → narrow .boolean (.int res.1) = .int res.1 → decode cX12_element pc = .ok (.ireturn, 1) → W p l e R s m args below meth c H1 locs1 0 0 Q (F0 m pc ls1 [.int res.1])) (z0 : Int32) (z1 : Int32) (F : PF) (G : PG) (hm : mb_element_116 fu rc z0 z1 F G = some res) {H : Heap} {locs : List Loc} (hw : mMW s A v a F G H locs) {ls : Array Slot} (hl : lv_has ls 7 []) : W p l e R s m args below meth c H locs 0 0 Q (F0 m 116 ls [.int z0, .int z1, .ref (a 59)]) := by
  have hx := C.1
  have hb := C.2.1
  unfold mb_element_116 at hm
  refine lv_iconst (v := 1) hx hb dX12_element_116 (by decide) ?_
  refine lv_goto (tgt := 121) hx hb dX12_element_117 (by decide) ?_
  exact mw_element_121 fu rc hr C hret 1 z0 z1 F G hm hw (lv_sub hl [] rfl)
theorem mw_element_100 (fu : Nat) (rc : RC) {dd : Nat} (hr : mH1 l v a rc dd) {res : Int32 × PF × PG} (C : mMC p R s m args c A v RX12 cX12_element 7 (dd + 1 + 3) (60 * (dd + 1) + 64)) (hret : ∀ (H1 : Heap) (locs1 : List Loc) (ls1 : Array Slot) (pc : Nat), mMW s A v a res.2.1 res.2.2 H1 locs1 → narrow .boolean (.int res.1) = .int res.1 → decode cX12_element pc = .ok (.ireturn, 1) → W p l e R s m args below meth c H1 locs1 0 0 Q (F0 m pc ls1 [.int res.1])) (x2 : Int32) (x5 : Int32) (z0 : Int32) (F : PF) (G : PG) (hm : mb_element_100 fu rc x2 x5 z0 F G = some res) {H : Heap} {locs : List Loc} (hw : mMW s A v a F G H locs) {ls : Array Slot} (hl : lv_has ls 7 [(0, .ref (a 212)), (2, .int x2), (5, .int x5)]) : W p l e R s m args below meth c H locs 0 0 Q (F0 m 100 ls [.int z0]) := by
  have hx := C.1
  have hb := C.2.1
  unfold mb_element_100 at hm
  refine lv_istore (lv' := [(6, .int z0), (0, .ref (a 212)), (2, .int x2), (5, .int x5)]) hx hb dX12_element_100 hl (by decide) rfl (fun ls hl => ?_)
  refine lv_aload_n hx hb dX12_element_102 rfl (lv_at hl 1 rfl) ?_
  refine mg_X12_113 C hw dX12_element_103 ?_
  refine lv_iload hx hb dX12_element_106 (lv_at hl 0 rfl) ?_
  refine lv_iconst (v := 2) hx hb dX12_element_108 (by decide) ?_
  refine lv_iload_n hx hb dX12_element_109 rfl (lv_at hl 2 rfl) ?_
  refine lv_imul hx hb dX12_element_110 ?_
  refine lv_iload hx hb dX12_element_111 (lv_at hl 3 rfl) ?_
  refine lv_if_eq (tgt := 120) hx hb dX12_element_113 (by decide) (fun c_1 => ?_) (fun c_1 => ?_)
  · have hm := (if_pos c_1).symm.trans hm
    exact mw_element_120 fu rc hr C hret ((2 : Int32) * x2) z0 F G hm hw (lv_sub hl [] rfl)
  · have hm := (if_neg c_1).symm.trans hm
    exact mw_element_116 fu rc hr C hret ((2 : Int32) * x2) z0 F G hm hw (lv_sub hl [] rfl)
theorem mw_element_91 (fu : Nat) (rc : RC) {dd : Nat} (hr : mH1 l v a rc dd) {res : Int32 × PF × PG} (C : mMC p R s m args c A v RX12 cX12_element 7 (dd + 1 + 3) (60 * (dd + 1) + 64)) (hret : ∀ (H1 : Heap) (locs1 : List Loc) (ls1 : Array Slot) (pc : Nat), mMW s A v a res.2.1 res.2.2 H1 locs1 → narrow .boolean (.int res.1) = .int res.1 → decode cX12_element pc = .ok (.ireturn, 1) → W p l e R s m args below meth c H1 locs1 0 0 Q (F0 m pc ls1 [.int res.1])) (x2 : Int32) (x3 : Int32) (x4 : Int32) (x5 : Int32) (F : PF) (G : PG) (hm : mb_element_91 fu rc x2 x3 x4 x5 F G = some res) {H : Heap} {locs : List Loc} (hw : mMW s A v a F G H locs) {ls : Array Slot} (hl : lv_has ls 7 [(0, .ref (a 212)), (2, .int x2), (3, .int x3), (4, .int x4), (5, .int x5)]) : W p l e R s m args below meth c H locs 0 0 Q (F0 m 91 ls []) := by
  have hx := C.1
  have hb := C.2.1
  unfold mb_element_91 at hm
  refine lv_aload_n hx hb dX12_element_91 rfl (lv_at hl 0 rfl) ?_
  refine lv_bipush (v := 6) hx hb dX12_element_92 (by decide) ?_
  refine lv_iload_n hx hb dX12_element_94 rfl (lv_at hl 2 rfl) ?_
  refine lv_iload hx hb dX12_element_95 (lv_at hl 3 rfl) ?_
  obtain ⟨⟨r1, F1, G1⟩, hc, hm⟩ := bind_elim hm
  refine mcallI (n := 3) (As := [.int 6, .int x3, .int x4]) (rest := []) C hw (mk_step l v a _ fu 6 x3 x4 F G r1 F1 G1 hc) (mrecv_X12 C hw) mm_203 mm_204 mm_205 mm_27 mm_206 (by decide +kernel) rfl (by omega) (by omega) hl.1 rfl (Nat.le_of_ble_eq_true rfl) dX12_element_97 (fun H locs hw => ?_)
  exact mw_element_100 fu rc hr C hret x2 x5 r1 F1 G1 hm hw (lv_sub hl [0, 1, 4] rfl)
theorem mw_element_86 (fu : Nat) (rc : RC) {dd : Nat} (hr : mH1 l v a rc dd) {res : Int32 × PF × PG} (C : mMC p R s m args c A v RX12 cX12_element 7 (dd + 1 + 3) (60 * (dd + 1) + 64)) (hret : ∀ (H1 : Heap) (locs1 : List Loc) (ls1 : Array Slot) (pc : Nat), mMW s A v a res.2.1 res.2.2 H1 locs1 → narrow .boolean (.int res.1) = .int res.1 → decode cX12_element pc = .ok (.ireturn, 1) → W p l e R s m args below meth c H1 locs1 0 0 Q (F0 m pc ls1 [.int res.1])) (x2 : Int32) (x3 : Int32) (x4 : Int32) (x5 : Int32) (z0 : Int32) (F : PF) (G : PG) (hm : mb_element_86 fu rc x2 x3 x4 x5 z0 F G = some res) {H : Heap} {locs : List Loc} (hw : mMW s A v a F G H locs) {ls : Array Slot} (hl : lv_has ls 7 [(0, .ref (a 212)), (2, .int x2), (3, .int x3), (4, .int x4), (5, .int x5)]) : W p l e R s m args below meth c H locs 0 0 Q (F0 m 86 ls [.int z0]) := by
  have hx := C.1
  have hb := C.2.1
  unfold mb_element_86 at hm
  refine lv_if_ne (tgt := 91) hx hb dX12_element_86 (by decide) (fun c_1 => ?_) (fun c_1 => ?_)
  · have hm := (if_neg c_1).symm.trans hm
    exact mw_element_91 fu rc hr C hret x2 x3 x4 x5 F G hm hw (lv_sub hl [0, 1, 2, 3, 4] rfl)
  · have hm := (if_pos c_1).symm.trans hm
    exact mw_element_89 fu rc hr C hret F G hm hw (lv_sub hl [] rfl)
theorem mw_element_80 (fu : Nat) (rc : RC) {dd : Nat} (hr : mH1 l v a rc dd) {res : Int32 × PF × PG} (C : mMC p R s m args c A v RX12 cX12_element 7 (dd + 1 + 3) (60 * (dd + 1) + 64)) (hret : ∀ (H1 : Heap) (locs1 : List Loc) (ls1 : Array Slot) (pc : Nat), mMW s A v a res.2.1 res.2.2 H1 locs1 → narrow .boolean (.int res.1) = .int res.1 → decode cX12_element pc = .ok (.ireturn, 1) → W p l e R s m args below meth c H1 locs1 0 0 Q (F0 m pc ls1 [.int res.1])) (x2 : Int32) (x3 : Int32) (x4 : Int32) (x5 : Int32) (F : PF) (G : PG) (hm : mb_element_80 fu rc x2 x3 x4 x5 F G = some res) {H : Heap} {locs : List Loc} (hw : mMW s A v a F G H locs) {ls : Array Slot} (hl : lv_has ls 7 [(0, .ref (a 212)), (2, .int x2), (3, .int x3), (4, .int x4), (5, .int x5)]) : W p l e R s m args below meth c H locs 0 0 Q (F0 m 80 ls []) := by
  have hx := C.1
  have hb := C.2.1
  unfold mb_element_80 at hm
  refine lv_aload_n hx hb dX12_element_80 rfl (lv_at hl 0 rfl) ?_
  refine lv_bipush (v := 25) hx hb dX12_element_81 (by decide) ?_
  obtain ⟨⟨r1, F1, G1⟩, hc, hm⟩ := bind_elim hm
  refine mcallI (n := 1) (As := [.int 25]) (rest := []) C hw (mk_closeSign l v a _ fu 25 F G r1 F1 G1 hc) (mrecv_X12 C hw) mm_248 mm_249 mm_250 mm_27 mm_251 (by decide +kernel) rfl (by omega) (by omega) hl.1 rfl (Nat.le_of_ble_eq_true rfl) dX12_element_83 (fun H locs hw => ?_)
  exact mw_element_86 fu rc hr C hret x2 x3 x4 x5 r1 F1 G1 hm hw (lv_sub hl [0, 1, 2, 3, 4] rfl)
theorem mw_element_77 (fu : Nat) (rc : RC) {dd : Nat} (hr : mH1 l v a rc dd) {res : Int32 × PF × PG} (C : mMC p R s m args c A v RX12 cX12_element 7 (dd + 1 + 3) (60 * (dd + 1) + 64)) (hret : ∀ (H1 : Heap) (locs1 : List Loc) (ls1 : Array Slot) (pc : Nat), mMW s A v a res.2.1 res.2.2 H1 locs1 → narrow .boolean (.int res.1) = .int res.1 → decode cX12_element pc = .ok (.ireturn, 1) → W p l e R s m args below meth c H1 locs1 0 0 Q (F0 m pc ls1 [.int res.1])) (x2 : Int32) (x3 : Int32) (x4 : Int32) (x5 : Int32) (z0 : Int32) (F : PF) (G : PG) (hm : mb_element_77 fu rc x2 x3 x4 x5 z0 F G = some res) {H : Heap} {locs : List Loc} (hw : mMW s A v a F G H locs) {ls : Array Slot} (hl : lv_has ls 7 [(0, .ref (a 212)), (2, .int x2), (3, .int x3), (4, .int x4), (5, .int x5)]) : W p l e R s m args below meth c H locs 0 0 Q (F0 m 77 ls [.int z0]) := by
  have hx := C.1
  have hb := C.2.1
  unfold mb_element_77 at hm
  refine lv_if_eq (tgt := 89) hx hb dX12_element_77 (by decide) (fun c_1 => ?_) (fun c_1 => ?_)
  · have hm := (if_pos c_1).symm.trans hm
    exact mw_element_89 fu rc hr C hret F G hm hw (lv_sub hl [] rfl)
  · have hm := (if_neg c_1).symm.trans hm
    exact mw_element_80 fu rc hr C hret x2 x3 x4 x5 F G hm hw (lv_sub hl [0, 1, 2, 3, 4] rfl)
theorem mw_element_73 (fu : Nat) (rc : RC) {dd : Nat} (hr : mH1 l v a rc dd) {res : Int32 × PF × PG} (C : mMC p R s m args c A v RX12 cX12_element 7 (dd + 1 + 3) (60 * (dd + 1) + 64)) (hret : ∀ (H1 : Heap) (locs1 : List Loc) (ls1 : Array Slot) (pc : Nat), mMW s A v a res.2.1 res.2.2 H1 locs1 → narrow .boolean (.int res.1) = .int res.1 → decode cX12_element pc = .ok (.ireturn, 1) → W p l e R s m args below meth c H1 locs1 0 0 Q (F0 m pc ls1 [.int res.1])) (x2 : Int32) (x3 : Int32) (x4 : Int32) (x5 : Int32) (F : PF) (G : PG) (hm : mb_element_73 fu rc x2 x3 x4 x5 F G = some res) {H : Heap} {locs : List Loc} (hw : mMW s A v a F G H locs) {ls : Array Slot} (hl : lv_has ls 7 [(0, .ref (a 212)), (2, .int x2), (3, .int x3), (4, .int x4), (5, .int x5)]) : W p l e R s m args below meth c H locs 0 0 Q (F0 m 73 ls []) := by
  have hx := C.1
  have hb := C.2.1
  unfold mb_element_73 at hm
  refine lv_aload_n hx hb dX12_element_73 rfl (lv_at hl 0 rfl) ?_
  obtain ⟨⟨r1, F1, G1⟩, hc, hm⟩ := bind_elim hm
  refine mcallI (n := 0) (As := []) (rest := []) C hw (hr.2.2.2.2.1 _ F G r1 F1 G1 hc) (mrecv_X12 C hw) mm_191 mm_192 mm_193 mm_27 mm_194 (by decide +kernel) rfl (by omega) (by omega) hl.1 rfl (Nat.le_of_ble_eq_true rfl) dX12_element_74 (fun H locs hw => ?_)
  exact mw_element_77 fu rc hr C hret x2 x3 x4 x5 r1 F1 G1 hm hw (lv_sub hl [0, 1, 2, 3, 4] rfl)
theorem mw_element_70 (fu : Nat) (rc : RC) {dd : Nat} (hr : mH1 l v a rc dd) {res : Int32 × PF × PG} (C : mMC p R s m args c A v RX12 cX12_element 7 (dd + 1 + 3) (60 * (dd + 1) + 64)) (hret : ∀ (H1 : Heap) (locs1 : List Loc) (ls1 : Array Slot) (pc : Nat), mMW s A v a res.2.1 res.2.2 H1 locs1 → narrow .boolean (.int res.1) = .int res.1 → decode cX12_element pc = .ok (.ireturn, 1) → W p l e R s m args below meth c H1 locs1 0 0 Q (F0 m pc ls1 [.int res.1])) (x2 : Int32) (x3 : Int32) (x4 : Int32) (x5 : Int32) (z0 : Int32) (F : PF) (G : PG) (hm : mb_element_70 fu rc x2 x3 x4 x5 z0 F G = some res) {H : Heap} {locs : List Loc} (hw : mMW s A v a F G H locs) {ls : Array Slot} (hl : lv_has ls 7 [(0, .ref (a 212)), (2, .int x2), (3, .int x3), (4, .int x4), (5, .int x5)]) : W p l e R s m args below meth c H locs 0 0 Q (F0 m 70 ls [.int z0]) := by
  have hx := C.1
  have hb := C.2.1
  unfold mb_element_70 at hm
  refine lv_if_eq (tgt := 89) hx hb dX12_element_70 (by decide) (fun c_1 => ?_) (fun c_1 => ?_)
  · have hm := (if_pos c_1).symm.trans hm
    exact mw_element_89 fu rc hr C hret F G hm hw (lv_sub hl [] rfl)
  · have hm := (if_neg c_1).symm.trans hm
    exact mw_element_73 fu rc hr C hret x2 x3 x4 x5 F G hm hw (lv_sub hl [0, 1, 2, 3, 4] rfl)
theorem mw_element_62 (fu : Nat) (rc : RC) {dd : Nat} (hr : mH1 l v a rc dd) {res : Int32 × PF × PG} (C : mMC p R s m args c A v RX12 cX12_element 7 (dd + 1 + 3) (60 * (dd + 1) + 64)) (hret : ∀ (H1 : Heap) (locs1 : List Loc) (ls1 : Array Slot) (pc : Nat), mMW s A v a res.2.1 res.2.2 H1 locs1 → narrow .boolean (.int res.1) = .int res.1 → decode cX12_element pc = .ok (.ireturn, 1) → W p l e R s m args below meth c H1 locs1 0 0 Q (F0 m pc ls1 [.int res.1])) (x2 : Int32) (x3 : Int32) (x4 : Int32) (z0 : Int32) (F : PF) (G : PG) (hm : mb_element_62 fu rc x2 x3 x4 z0 F G = some res) {H : Heap} {locs : List Loc} (hw : mMW s A v a F G H locs) {ls : Array Slot} (hl : lv_has ls 7 [(0, .ref (a 212)), (2, .int x2), (3, .int x3), (4, .int x4)]) : W p l e R s m args below meth c H locs 0 0 Q (F0 m 62 ls [.int z0]) := by
  have hx := C.1
  have hb := C.2.1
  unfold mb_element_62 at hm
  refine lv_istore (lv' := [(5, .int z0), (0, .ref (a 212)), (2, .int x2), (3, .int x3), (4, .int x4)]) hx hb dX12_element_62 hl (by decide) rfl (fun ls hl => ?_)
  refine lv_aload_n hx hb dX12_element_64 rfl (lv_at hl 1 rfl) ?_
  refine lv_bipush (v := 24) hx hb dX12_element_65 (by decide) ?_
  obtain ⟨⟨r1, F1, G1⟩, hc, hm⟩ := bind_elim hm
  refine mcallI (n := 1) (As := [.int 24]) (rest := []) C hw (mk_openSign l v a _ fu 24 F G r1 F1 G1 hc) (mrecv_X12 C hw) mm_241 mm_242 mm_243 mm_27 mm_244 (by decide +kernel) rfl (by omega) (by omega) hl.1 rfl (Nat.le_of_ble_eq_true rfl) dX12_element_67 (fun H locs hw => ?_)
  exact mw_element_70 fu rc hr C hret x2 x3 x4 z0 r1 F1 G1 hm hw (lv_sub hl [1, 2, 3, 4, 0] rfl)
theorem mw_element_61 (fu : Nat) (rc : RC) {dd : Nat} (hr : mH1 l v a rc dd) {res : Int32 × PF × PG} (C : mMC p R s m args c A v RX12 cX12_element 7 (dd + 1 + 3) (60 * (dd + 1) + 64)) (hret : ∀ (H1 : Heap) (locs1 : List Loc) (ls1 : Array Slot) (pc : Nat), mMW s A v a res.2.1 res.2.2 H1 locs1 → narrow .boolean (.int res.1) = .int res.1 → decode cX12_element pc = .ok (.ireturn, 1) → W p l e R s m args below meth c H1 locs1 0 0 Q (F0 m pc ls1 [.int res.1])) (x2 : Int32) (x3 : Int32) (x4 : Int32) (F : PF) (G : PG) (hm : mb_element_61 fu rc x2 x3 x4 F G = some res) {H : Heap} {locs : List Loc} (hw : mMW s A v a F G H locs) {ls : Array Slot} (hl : lv_has ls 7 [(0, .ref (a 212)), (2, .int x2), (3, .int x3), (4, .int x4)]) : W p l e R s m args below meth c H locs 0 0 Q (F0 m 61 ls []) := by
  have hx := C.1
  have hb := C.2.1
  unfold mb_element_61 at hm
  refine lv_iconst (v := 0) hx hb dX12_element_61 (by decide) ?_
  exact mw_element_62 fu rc hr C hret x2 x3 x4 0 F G hm hw (lv_sub hl [0, 1, 2, 3] rfl)
theorem mw_element_57 (fu : Nat) (rc : RC) {dd : Nat} (hr : mH1 l v a rc dd) {res : Int32 × PF × PG} (C : mMC p R s m args c A v RX12 cX12_element 7 (dd + 1 + 3) (60 * (dd + 1) + 64)) (hret : ∀ (H1 : Heap) (locs1 : List Loc) (ls1 : Array Slot) (pc : Nat), mMW s A v a res.2.1 res.2.2 H1 locs1 → narrow .boolean (.int res.1) = .int res.1 → decode cX12_element pc = .ok (.ireturn, 1) → W p l e R s m args below meth c H1 locs1 0 0 Q (F0 m pc ls1 [.int res.1])) (x2 : Int32) (x3 : Int32) (x4 : Int32) (F : PF) (G : PG) (hm : mb_element_57 fu rc x2 x3 x4 F G = some res) {H : Heap} {locs : List Loc} (hw : mMW s A v a F G H locs) {ls : Array Slot} (hl : lv_has ls 7 [(0, .ref (a 212)), (2, .int x2), (3, .int x3), (4, .int x4)]) : W p l e R s m args below meth c H locs 0 0 Q (F0 m 57 ls []) := by
  have hx := C.1
  have hb := C.2.1
  unfold mb_element_57 at hm
  refine lv_iconst (v := 1) hx hb dX12_element_57 (by decide) ?_
  refine lv_goto (tgt := 62) hx hb dX12_element_58 (by decide) ?_
  exact mw_element_62 fu rc hr C hret x2 x3 x4 1 F G hm hw (lv_sub hl [0, 1, 2, 3] rfl)
theorem mw_element_48 (fu : Nat) (rc : RC) {dd : Nat} (hr : mH1 l v a rc dd) {res : Int32 × PF × PG} (C : mMC p R s m args c A v RX12 cX12_element 7 (dd + 1 + 3) (60 * (dd + 1) + 64)) (hret : ∀ (H1 : Heap) (locs1 : List Loc) (ls1 : Array Slot) (pc : Nat), mMW s A v a res.2.1 res.2.2 H1 locs1 → narrow .boolean (.int res.1) = .int res.1 → decode cX12_element pc = .ok (.ireturn, 1) → W p l e R s m args below meth c H1 locs1 0 0 Q (F0 m pc ls1 [.int res.1])) (x1 : Int32) (x2 : Int32) (x3 : Int32) (x4 : Int32) (F : PF) (G : PG) (hm : mb_element_48 fu rc x1 x2 x3 x4 F G = some res) {H : Heap} {locs : List Loc} (hw : mMW s A v a F G H locs) {ls : Array Slot} (hl : lv_has ls 7 [(0, .ref (a 212)), (1, .int x1), (2, .int x2), (3, .int x3), (4, .int x4)]) : W p l e R s m args below meth c H locs 0 0 Q (F0 m 48 ls []) := by
  have hx := C.1
  have hb := C.2.1
  unfold mb_element_48 at hm
  refine lv_aload_n hx hb dX12_element_48 rfl (lv_at hl 0 rfl) ?_
  refine mg_X12_59 C hw dX12_element_49 ?_
  refine lv_iload_n hx hb dX12_element_52 rfl (lv_at hl 1 rfl) ?_
  obtain ⟨hi, hm⟩ := ix_elim hm
  refine mal_23 C hw hi dX12_element_53 ?_
  refine lv_if_eq (tgt := 61) hx hb dX12_element_54 (by decide) (fun c_1 => ?_) (fun c_1 => ?_)
  · have hm := (if_pos c_1).symm.trans hm
    exact mw_element_61 fu rc hr C hret x2 x3 x4 F G hm hw (lv_sub hl [0, 2, 3, 4] rfl)
  · have hm := (if_neg c_1).symm.trans hm
    exact mw_element_57 fu rc hr C hret x2 x3 x4 F G hm hw (lv_sub hl [0, 2, 3, 4] rfl)
theorem mw_element_41 (fu : Nat) (rc : RC) {dd : Nat} (hr : mH1 l v a rc dd) {res : Int32 × PF × PG} (C : mMC p R s m args c A v RX12 cX12_element 7 (dd + 1 + 3) (60 * (dd + 1) + 64)) (hret : ∀ (H1 : Heap) (locs1 : List Loc) (ls1 : Array Slot) (pc : Nat), mMW s A v a res.2.1 res.2.2 H1 locs1 → narrow .boolean (.int res.1) = .int res.1 → decode cX12_element pc = .ok (.ireturn, 1) → W p l e R s m args below meth c H1 locs1 0 0 Q (F0 m pc ls1 [.int res.1])) (x1 : Int32) (x2 : Int32) (x3 : Int32) (z0 : Int32) (F : PF) (G : PG) (hm : mb_element_41 fu rc x1 x2 x3 z0 F G = some res) {H : Heap} {locs : List Loc} (hw : mMW s A v a F G H locs) {ls : Array Slot} (hl : lv_has ls 7 [(0, .ref (a 212)), (1, .int x1), (2, .int x2), (3, .int x3)]) : W p l e R s m args below meth c H locs 0 0 Q (F0 m 41 ls [.int z0]) := by
  have hx := C.1
  have hb := C.2.1
  unfold mb_element_41 at hm
  refine lv_istore (lv' := [(4, .int z0), (0, .ref (a 212)), (1, .int x1), (2, .int x2), (3, .int x3)]) hx hb dX12_element_41 hl (by decide) rfl (fun ls hl => ?_)
  refine lv_iload_n hx hb dX12_element_43 rfl (lv_at hl 2 rfl) ?_
  refine lv_iconst (v := (-1)) hx hb dX12_element_44 (by decide) ?_
  refine lv_icmp_eq (tgt := 61) hx hb dX12_element_45 (by decide) (fun c_1 => ?_) (fun c_1 => ?_)
  · have hm := (if_pos c_1).symm.trans hm
    exact mw_element_61 fu rc hr C hret x2 x3 z0 F G hm hw (lv_sub hl [1, 3, 4, 0] rfl)
  · have hm := (if_neg c_1).symm.trans hm
    exact mw_element_48 fu rc hr C hret x1 x2 x3 z0 F G hm hw (lv_sub hl [1, 2, 3, 4, 0] rfl)
theorem mw_element_35 (fu : Nat) (rc : RC) {dd : Nat} (hr : mH1 l v a rc dd) {res : Int32 × PF × PG} (C : mMC p R s m args c A v RX12 cX12_element 7 (dd + 1 + 3) (60 * (dd + 1) + 64)) (hret : ∀ (H1 : Heap) (locs1 : List Loc) (ls1 : Array Slot) (pc : Nat), mMW s A v a res.2.1 res.2.2 H1 locs1 → narrow .boolean (.int res.1) = .int res.1 → decode cX12_element pc = .ok (.ireturn, 1) → W p l e R s m args below meth c H1 locs1 0 0 Q (F0 m pc ls1 [.int res.1])) (x1 : Int32) (x2 : Int32) (x3 : Int32) (F : PF) (G : PG) (hm : mb_element_35 fu rc x1 x2 x3 F G = some res) {H : Heap} {locs : List Loc} (hw : mMW s A v a F G H locs) {ls : Array Slot} (hl : lv_has ls 7 [(0, .ref (a 212)), (1, .int x1), (2, .int x2), (3, .int x3)]) : W p l e R s m args below meth c H locs 0 0 Q (F0 m 35 ls []) := by
  have hx := C.1
  have hb := C.2.1
  unfold mb_element_35 at hm
  refine lv_aload_n hx hb dX12_element_35 rfl (lv_at hl 0 rfl) ?_
  refine mg_X12_52 C hw dX12_element_36 ?_
  refine lv_iload_n hx hb dX12_element_39 rfl (lv_at hl 1 rfl) ?_
  obtain ⟨hi, hm⟩ := ix_elim hm
  refine mal_21 C hw hi dX12_element_40 ?_
  exact mw_element_41 fu rc hr C hret x1 x2 x3 (G 21 x1.toNatClampNeg) F G hm hw (lv_sub hl [0, 1, 2, 3] rfl)
theorem mw_element_31 (fu : Nat) (rc : RC) {dd : Nat} (hr : mH1 l v a rc dd) {res : Int32 × PF × PG} (C : mMC p R s m args c A v RX12 cX12_element 7 (dd + 1 + 3) (60 * (dd + 1) + 64)) (hret : ∀ (H1 : Heap) (locs1 : List Loc) (ls1 : Array Slot) (pc : Nat), mMW s A v a res.2.1 res.2.2 H1 locs1 → narrow .boolean (.int res.1) = .int res.1 → decode cX12_element pc = .ok (.ireturn, 1) → W p l e R s m args below meth c H1 locs1 0 0 Q (F0 m pc ls1 [.int res.1])) (x1 : Int32) (x2 : Int32) (x3 : Int32) (F : PF) (G : PG) (hm : mb_element_31 fu rc x1 x2 x3 F G = some res) {H : Heap} {locs : List Loc} (hw : mMW s A v a F G H locs) {ls : Array Slot} (hl : lv_has ls 7 [(0, .ref (a 212)), (1, .int x1), (2, .int x2), (3, .int x3)]) : W p l e R s m args below meth c H locs 0 0 Q (F0 m 31 ls []) := by
  have hx := C.1
  have hb := C.2.1
  unfold mb_element_31 at hm
  refine lv_iconst (v := 1) hx hb dX12_element_31 (by decide) ?_
  refine lv_goto (tgt := 41) hx hb dX12_element_32 (by decide) ?_
  exact mw_element_41 fu rc hr C hret x1 x2 x3 1 F G hm hw (lv_sub hl [0, 1, 2, 3] rfl)
theorem mw_element_25 (fu : Nat) (rc : RC) {dd : Nat} (hr : mH1 l v a rc dd) {res : Int32 × PF × PG} (C : mMC p R s m args c A v RX12 cX12_element 7 (dd + 1 + 3) (60 * (dd + 1) + 64)) (hret : ∀ (H1 : Heap) (locs1 : List Loc) (ls1 : Array Slot) (pc : Nat), mMW s A v a res.2.1 res.2.2 H1 locs1 → narrow .boolean (.int res.1) = .int res.1 → decode cX12_element pc = .ok (.ireturn, 1) → W p l e R s m args below meth c H1 locs1 0 0 Q (F0 m pc ls1 [.int res.1])) (x1 : Int32) (x2 : Int32) (z0 : Int32) (F : PF) (G : PG) (hm : mb_element_25 fu rc x1 x2 z0 F G = some res) {H : Heap} {locs : List Loc} (hw : mMW s A v a F G H locs) {ls : Array Slot} (hl : lv_has ls 7 [(0, .ref (a 212)), (1, .int x1), (2, .int x2)]) : W p l e R s m args below meth c H locs 0 0 Q (F0 m 25 ls [.int z0]) := by
  have hx := C.1
  have hb := C.2.1
  unfold mb_element_25 at hm
  refine lv_istore_n (lv' := [(3, .int z0), (0, .ref (a 212)), (1, .int x1), (2, .int x2)]) hx hb dX12_element_25 rfl hl (by decide) rfl (fun ls hl => ?_)
  refine lv_iload_n hx hb dX12_element_26 rfl (lv_at hl 2 rfl) ?_
  refine lv_iconst (v := (-1)) hx hb dX12_element_27 (by decide) ?_
  refine lv_icmp_ne (tgt := 35) hx hb dX12_element_28 (by decide) (fun c_1 => ?_) (fun c_1 => ?_)
  · have hm := (if_neg c_1).symm.trans hm
    exact mw_element_35 fu rc hr C hret x1 x2 z0 F G hm hw (lv_sub hl [1, 2, 3, 0] rfl)
  · have hm := (if_pos c_1).symm.trans hm
    exact mw_element_31 fu rc hr C hret x1 x2 z0 F G hm hw (lv_sub hl [1, 2, 3, 0] rfl)
theorem mw_element_19 (fu : Nat) (rc : RC) {dd : Nat} (hr : mH1 l v a rc dd) {res : Int32 × PF × PG} (C : mMC p R s m args c A v RX12 cX12_element 7 (dd + 1 + 3) (60 * (dd + 1) + 64)) (hret : ∀ (H1 : Heap) (locs1 : List Loc) (ls1 : Array Slot) (pc : Nat), mMW s A v a res.2.1 res.2.2 H1 locs1 → narrow .boolean (.int res.1) = .int res.1 → decode cX12_element pc = .ok (.ireturn, 1) → W p l e R s m args below meth c H1 locs1 0 0 Q (F0 m pc ls1 [.int res.1])) (x1 : Int32) (x2 : Int32) (F : PF) (G : PG) (hm : mb_element_19 fu rc x1 x2 F G = some res) {H : Heap} {locs : List Loc} (hw : mMW s A v a F G H locs) {ls : Array Slot} (hl : lv_has ls 7 [(0, .ref (a 212)), (1, .int x1), (2, .int x2)]) : W p l e R s m args below meth c H locs 0 0 Q (F0 m 19 ls []) := by
  have hx := C.1
  have hb := C.2.1
  unfold mb_element_19 at hm
  refine lv_aload_n hx hb dX12_element_19 rfl (lv_at hl 0 rfl) ?_
  refine mg_X12_49 C hw dX12_element_20 ?_
  refine lv_iload_n hx hb dX12_element_23 rfl (lv_at hl 1 rfl) ?_
  obtain ⟨hi, hm⟩ := ix_elim hm
  refine mal_20 C hw hi dX12_element_24 ?_
  exact mw_element_25 fu rc hr C hret x1 x2 (G 20 x1.toNatClampNeg) F G hm hw (lv_sub hl [0, 1, 2] rfl)
theorem mw_element_15 (fu : Nat) (rc : RC) {dd : Nat} (hr : mH1 l v a rc dd) {res : Int32 × PF × PG} (C : mMC p R s m args c A v RX12 cX12_element 7 (dd + 1 + 3) (60 * (dd + 1) + 64)) (hret : ∀ (H1 : Heap) (locs1 : List Loc) (ls1 : Array Slot) (pc : Nat), mMW s A v a res.2.1 res.2.2 H1 locs1 → narrow .boolean (.int res.1) = .int res.1 → decode cX12_element pc = .ok (.ireturn, 1) → W p l e R s m args below meth c H1 locs1 0 0 Q (F0 m pc ls1 [.int res.1])) (x1 : Int32) (x2 : Int32) (F : PF) (G : PG) (hm : mb_element_15 fu rc x1 x2 F G = some res) {H : Heap} {locs : List Loc} (hw : mMW s A v a F G H locs) {ls : Array Slot} (hl : lv_has ls 7 [(0, .ref (a 212)), (1, .int x1), (2, .int x2)]) : W p l e R s m args below meth c H locs 0 0 Q (F0 m 15 ls []) := by
  have hx := C.1
  have hb := C.2.1
  unfold mb_element_15 at hm
  refine lv_iconst (v := 0) hx hb dX12_element_15 (by decide) ?_
  refine lv_goto (tgt := 25) hx hb dX12_element_16 (by decide) ?_
  exact mw_element_25 fu rc hr C hret x1 x2 0 F G hm hw (lv_sub hl [0, 1, 2] rfl)
theorem mw_element_0 (fu : Nat) (rc : RC) {dd : Nat} (hr : mH1 l v a rc dd) {res : Int32 × PF × PG} (C : mMC p R s m args c A v RX12 cX12_element 7 (dd + 1 + 3) (60 * (dd + 1) + 64)) (hret : ∀ (H1 : Heap) (locs1 : List Loc) (ls1 : Array Slot) (pc : Nat), mMW s A v a res.2.1 res.2.2 H1 locs1 → narrow .boolean (.int res.1) = .int res.1 → decode cX12_element pc = .ok (.ireturn, 1) → W p l e R s m args below meth c H1 locs1 0 0 Q (F0 m pc ls1 [.int res.1])) (x1 : Int32) (F : PF) (G : PG) (hm : mb_element_0 fu rc x1 F G = some res) {H : Heap} {locs : List Loc} (hw : mMW s A v a F G H locs) {ls : Array Slot} (hl : lv_has ls 7 [(0, .ref (a 212)), (1, .int x1)]) : W p l e R s m args below meth c H locs 0 0 Q (F0 m 0 ls []) := by
  have hx := C.1
  have hb := C.2.1
  unfold mb_element_0 at hm
  refine lv_aload_n hx hb dX12_element_0 rfl (lv_at hl 0 rfl) ?_
  refine mg_X12_22 C hw dX12_element_1 ?_
  refine lv_aload_n hx hb dX12_element_4 rfl (lv_at hl 0 rfl) ?_
  refine mg_X12_233 C hw dX12_element_5 ?_
  obtain ⟨hi, hm⟩ := ix_elim hm
  refine mal_6 C hw hi dX12_element_8 ?_
  refine lv_istore_n (lv' := [(2, .int (G 6 (F 42).toNatClampNeg)), (0, .ref (a 212)), (1, .int x1)]) hx hb dX12_element_9 rfl hl (by decide) rfl (fun ls hl => ?_)
  refine lv_iload_n hx hb dX12_element_10 rfl (lv_at hl 2 rfl) ?_
  refine lv_iconst (v := (-1)) hx hb dX12_element_11 (by decide) ?_
  refine lv_icmp_ne (tgt := 19) hx hb dX12_element_12 (by decide) (fun c_1 => ?_) (fun c_1 => ?_)
  · have hm := (if_neg c_1).symm.trans hm
    exact mw_element_19 fu rc hr C hret x1 (G 6 (F 42).toNatClampNeg) F G hm hw (lv_sub hl [1, 2, 0] rfl)
  · have hm := (if_pos c_1).symm.trans hm
    exact mw_element_15 fu rc hr C hret x1 (G 6 (F 42).toNatClampNeg) F G hm hw (lv_sub hl [1, 2, 0] rfl)
theorem mq_element (l : Launch) (v : EV) (a : Nat → Nat) (sz : Nat) (fu : Nat) (rc : RC) {dd : Nat} (hr : mH1 l v a rc dd) (x1 : Int32) (F : PF) (G : PG) (r : Int32) (F1 : PF) (G1 : PG) (hm : mh_element fu rc x1 F G = some (r, F1, G1)) : mMI l yX12_element cX12_element 7 (some .boolean) (dd + 1 + 3) (60 * (dd + 1) + 64) v a sz [.ref (a 212), .int x1] F G r F1 G1 := mMI.of (ty := .boolean) (by decide) rfl (Nat.le_of_ble_eq_true rfl) (fun p e R s m args below meth c Q A H locs ls C hw hl hret => mw_element_0 fu rc hr (res := (r, F1, G1)) C hret x1 F G hm hw hl)
def mb_expression_54 (fu : Nat) (rc : RC) (F : PF) (G : PG) : PR := some (0, F, G)
def mb_expression_104 (fu : Nat) (rc : RC) (F : PF) (G : PG) : PR := some (1, F, G)
def mb_expression_94 (fu : Nat) (rc : RC) (F : PF) (G : PG) : PR := mb_expression_104 fu rc (fup F 43 ((F 43) - (1 : Int32))) G
def mb_expression_84 (fu : Nat) (rc : RC) (x2 : Int32) (F : PF) (G : PG) : PR := if ixb x2 9000 = true then (mb_expression_94 fu rc F (gup G 57 x2.toNatClampNeg (F 60))) else none
def mb_expression_82 (fu : Nat) (rc : RC) (F : PF) (G : PG) : PR := some (0, F, G)
def mb_expression_79 (fu : Nat) (rc : RC) (x2 : Int32) (z0 : Int32) (F : PF) (G : PG) : PR := if z0 = (0 : Int32) then mb_expression_82 fu rc F G else mb_expression_84 fu rc x2 F G
def mb_expression_75 (fu : Nat) (rc : RC) (x2 : Int32) (F : PF) (G : PG) : PR := (rc 4 0 0 F G).bind (fun q => mb_expression_79 fu rc x2 q.1 q.2.1 q.2.2)
def mb_expression_64 (fu : Nat) (rc : RC) (x1 : Int32) (z0 : Int32) (F : PF) (G : PG) : PR := if ixb x1 9000 = true then (mb_expression_75 fu rc z0 F (gup G 57 x1.toNatClampNeg (F 60))) else none
def mb_expression_56 (fu : Nat) (rc : RC) (x1 : Int32) (F : PF) (G : PG) : PR := (mf_step fu 12 0 0 F G).bind (fun q => mb_expression_64 fu rc x1 q.1 q.2.1 q.2.2)
def mb_expression_51 (fu : Nat) (rc : RC) (x1 : Int32) (z0 : Int32) (F : PF) (G : PG) : PR := if z0 = (0 : Int32) then mb_expression_54 fu rc F G else mb_expression_56 fu rc x1 F G
def mb_expression_45 (fu : Nat) (rc : RC) (x1 : Int32) (F : PF) (G : PG) : PR := (mf_sign fu 31 F G).bind (fun q => mb_expression_51 fu rc x1 q.1 q.2.1 q.2.2)
def mb_expression_42 (fu : Nat) (rc : RC) (x1 : Int32) (z0 : Int32) (F : PF) (G : PG) : PR := if z0 = (0 : Int32) then mb_expression_54 fu rc F G else mb_expression_45 fu rc x1 F G
def mb_expression_37 (fu : Nat) (rc : RC) (z0 : Int32) (F : PF) (G : PG) : PR := (rc 4 0 0 F G).bind (fun q => mb_expression_42 fu rc z0 q.1 q.2.1 q.2.2)
def mb_expression_29 (fu : Nat) (rc : RC) (F : PF) (G : PG) : PR := (mf_step fu 13 0 0 F G).bind (fun q => mb_expression_37 fu rc q.1 q.2.1 q.2.2)
def mb_expression_27 (fu : Nat) (rc : RC) (F : PF) (G : PG) : PR := some (0, F, G)
def mb_expression_24 (fu : Nat) (rc : RC) (z0 : Int32) (F : PF) (G : PG) : PR := if z0 = (0 : Int32) then mb_expression_27 fu rc F G else mb_expression_29 fu rc F G
def mb_expression_20 (fu : Nat) (rc : RC) (F : PF) (G : PG) : PR := (mf_opens fu F G).bind (fun q => mb_expression_24 fu rc q.1 q.2.1 q.2.2)
def mb_expression_18 (fu : Nat) (rc : RC) (F : PF) (G : PG) : PR := some (1, F, G)
def mb_expression_15 (fu : Nat) (rc : RC) (z0 : Int32) (F : PF) (G : PG) : PR := if z0 = (0 : Int32) then mb_expression_18 fu rc F G else mb_expression_20 fu rc F G
def mb_expression_9 (fu : Nat) (rc : RC) (F : PF) (G : PG) : PR := (mf_isSign fu 30 F G).bind (fun q => mb_expression_15 fu rc q.1 q.2.1 q.2.2)
def mb_expression_7 (fu : Nat) (rc : RC) (F : PF) (G : PG) : PR := some (0, F, G)
def mb_expression_4 (fu : Nat) (rc : RC) (z0 : Int32) (F : PF) (G : PG) : PR := if z0 = (0 : Int32) then mb_expression_7 fu rc F G else mb_expression_9 fu rc F G
def mb_expression_0 (fu : Nat) (rc : RC) (F : PF) (G : PG) : PR := (rc 2 0 0 F G).bind (fun q => mb_expression_4 fu rc q.1 q.2.1 q.2.2)
def mh_expression (fu : Nat) (rc : RC) (F : PF) (G : PG) : PR := mb_expression_0 fu rc F G
theorem mw_expression_54 (fu : Nat) (rc : RC) {dd : Nat} (hr : mH1 l v a rc dd) {res : Int32 × PF × PG} (C : mMC p R s m args c A v RX12 cX12_expression 3 (dd + 1 + 3) (60 * (dd + 1) + 64)) (hret : ∀ (H1 : Heap) (locs1 : List Loc) (ls1 : Array Slot) (pc : Nat), mMW s A v a res.2.1 res.2.2 H1 locs1 → narrow .boolean (.int res.1) = .int res.1 → decode cX12_expression pc = .ok (.ireturn, 1) → W p l e R s m args below meth c H1 locs1 0 0 Q (F0 m pc ls1 [.int res.1])) (F : PF) (G : PG) (hm : mb_expression_54 fu rc F G = some res) {H : Heap} {locs : List Loc} (hw : mMW s A v a F G H locs) {ls : Array Slot} (hl : lv_has ls 3 []) : W p l e R s m args below meth c H locs 0 0 Q (F0 m 54 ls []) := by
  have hx := C.1
  have hb := C.2.1
  unfold mb_expression_54 at hm
  refine lv_iconst (v := 0) hx hb dX12_expression_54 (by decide) ?_
  obtain rfl := Option.some.inj hm
  exact hret _ _ _ _ hw (b01_nar (v := 0) (Or.inl rfl)) dX12_expression_55
theorem mw_expression_104 (fu : Nat) (rc : RC) {dd : Nat} (hr : mH1 l v a rc dd) {res : Int32 × PF × PG} (C : mMC p R s m args c A v RX12 cX12_expression 3 (dd + 1 + 3) (60 * (dd + 1) + 64)) (hret : ∀ (H1 : Heap) (locs1 : List Loc) (ls1 : Array Slot) (pc : Nat), mMW s A v a res.2.1 res.2.2 H1 locs1 → narrow .boolean (.int res.1) = .int res.1 → decode cX12_expression pc = .ok (.ireturn, 1) → W p l e R s m args below meth c H1 locs1 0 0 Q (F0 m pc ls1 [.int res.1])) (F : PF) (G : PG) (hm : mb_expression_104 fu rc F G = some res) {H : Heap} {locs : List Loc} (hw : mMW s A v a F G H locs) {ls : Array Slot} (hl : lv_has ls 3 []) : W p l e R s m args below meth c H locs 0 0 Q (F0 m 104 ls []) := by
  have hx := C.1
  have hb := C.2.1
  unfold mb_expression_104 at hm
  refine lv_iconst (v := 1) hx hb dX12_expression_104 (by decide) ?_
  obtain rfl := Option.some.inj hm
  exact hret _ _ _ _ hw (b01_nar (v := 1) (Or.inr rfl)) dX12_expression_105
theorem mw_expression_94 (fu : Nat) (rc : RC) {dd : Nat} (hr : mH1 l v a rc dd) {res : Int32 × PF × PG} (C : mMC p R s m args c A v RX12 cX12_expression 3 (dd + 1 + 3) (60 * (dd + 1) + 64)) (hret : ∀ (H1 : Heap) (locs1 : List Loc) (ls1 : Array Slot) (pc : Nat), mMW s A v a res.2.1 res.2.2 H1 locs1 → narrow .boolean (.int res.1) = .int res.1 → decode cX12_expression pc = .ok (.ireturn, 1) → W p l e R s m args below meth c H1 locs1 0 0 Q (F0 m pc ls1 [.int res.1])) (F : PF) (G : PG) (hm : mb_expression_94 fu rc F G = some res) {H : Heap} {locs : List Loc} (hw : mMW s A v a F G H locs) {ls : Array Slot} (hl : lv_has ls 3 [(0, .ref (a 212))]) : W p l e R s m args below meth c H locs 0 0 Q (F0 m 94 ls []) := by
  have hx := C.1
  have hb := C.2.1
  unfold mb_expression_94 at hm
  refine lv_aload_n hx hb dX12_expression_94 rfl (lv_at hl 0 rfl) ?_
  refine lv_dup hx hb dX12_expression_95 rfl ?_
  refine mg_X12_266 C hw dX12_expression_96 ?_
  refine lv_iconst (v := 1) hx hb dX12_expression_99 (by decide) ?_
  refine lv_isub hx hb dX12_expression_100 ?_
  refine mp_X12_266 C hw dX12_expression_101 (fun H locs hw => ?_)
  exact mw_expression_104 fu rc hr C hret (fup F 43 ((F 43) - (1 : Int32))) G hm hw (lv_sub hl [] rfl)
theorem mw_expression_84 (fu : Nat) (rc : RC) {dd : Nat} (hr : mH1 l v a rc dd) {res : Int32 × PF × PG} (C : mMC p R s m args c A v RX12 cX12_expression 3 (dd + 1 + 3) (60 * (dd + 1) + 64)) (hret : ∀ (H1 : Heap) (locs1 : List Loc) (ls1 : Array Slot) (pc : Nat), mMW s A v a res.2.1 res.2.2 H1 locs1 → narrow .boolean (.int res.1) = .int res.1 → decode cX12_expression pc = .ok (.ireturn, 1) → W p l e R s m args below meth c H1 locs1 0 0 Q (F0 m pc ls1 [.int res.1])) (x2 : Int32) (F : PF) (G : PG) (hm : mb_expression_84 fu rc x2 F G = some res) {H : Heap} {locs : List Loc} (hw : mMW s A v a F G H locs) {ls : Array Slot} (hl : lv_has ls 3 [(0, .ref (a 212)), (2, .int x2)]) : W p l e R s m args below meth c H locs 0 0 Q (F0 m 84 ls []) := by
  have hx := C.1
  have hb := C.2.1
  unfold mb_expression_84 at hm
  refine lv_aload_n hx hb dX12_expression_84 rfl (lv_at hl 0 rfl) ?_
  refine mg_X12_107 C hw dX12_expression_85 ?_
  refine lv_iload_n hx hb dX12_expression_88 rfl (lv_at hl 1 rfl) ?_
  refine lv_aload_n hx hb dX12_expression_89 rfl (lv_at hl 0 rfl) ?_
  refine mg_X12_276 C hw dX12_expression_90 ?_
  obtain ⟨hi, hm⟩ := ix_elim hm
  refine mas_57 C hw hi dX12_expression_93 (fun H locs hw => ?_)
  exact mw_expression_94 fu rc hr C hret F (gup G 57 x2.toNatClampNeg (F 60)) hm hw (lv_sub hl [0] rfl)
theorem mw_expression_82 (fu : Nat) (rc : RC) {dd : Nat} (hr : mH1 l v a rc dd) {res : Int32 × PF × PG} (C : mMC p R s m args c A v RX12 cX12_expression 3 (dd + 1 + 3) (60 * (dd + 1) + 64)) (hret : ∀ (H1 : Heap) (locs1 : List Loc) (ls1 : Array Slot) (pc : Nat), mMW s A v a res.2.1 res.2.2 H1 locs1 → narrow .boolean (.int res.1) = .int res.1 → decode cX12_expression pc = .ok (.ireturn, 1) → W p l e R s m args below meth c H1 locs1 0 0 Q (F0 m pc ls1 [.int res.1])) (F : PF) (G : PG) (hm : mb_expression_82 fu rc F G = some res) {H : Heap} {locs : List Loc} (hw : mMW s A v a F G H locs) {ls : Array Slot} (hl : lv_has ls 3 []) : W p l e R s m args below meth c H locs 0 0 Q (F0 m 82 ls []) := by
  have hx := C.1
  have hb := C.2.1
  unfold mb_expression_82 at hm
  refine lv_iconst (v := 0) hx hb dX12_expression_82 (by decide) ?_
  obtain rfl := Option.some.inj hm
  exact hret _ _ _ _ hw (b01_nar (v := 0) (Or.inl rfl)) dX12_expression_83
theorem mw_expression_79 (fu : Nat) (rc : RC) {dd : Nat} (hr : mH1 l v a rc dd) {res : Int32 × PF × PG} (C : mMC p R s m args c A v RX12 cX12_expression 3 (dd + 1 + 3) (60 * (dd + 1) + 64)) (hret : ∀ (H1 : Heap) (locs1 : List Loc) (ls1 : Array Slot) (pc : Nat), mMW s A v a res.2.1 res.2.2 H1 locs1 → narrow .boolean (.int res.1) = .int res.1 → decode cX12_expression pc = .ok (.ireturn, 1) → W p l e R s m args below meth c H1 locs1 0 0 Q (F0 m pc ls1 [.int res.1])) (x2 : Int32) (z0 : Int32) (F : PF) (G : PG) (hm : mb_expression_79 fu rc x2 z0 F G = some res) {H : Heap} {locs : List Loc} (hw : mMW s A v a F G H locs) {ls : Array Slot} (hl : lv_has ls 3 [(0, .ref (a 212)), (2, .int x2)]) : W p l e R s m args below meth c H locs 0 0 Q (F0 m 79 ls [.int z0]) := by
  have hx := C.1
  have hb := C.2.1
  unfold mb_expression_79 at hm
  refine lv_if_ne (tgt := 84) hx hb dX12_expression_79 (by decide) (fun c_1 => ?_) (fun c_1 => ?_)
  · have hm := (if_neg c_1).symm.trans hm
    exact mw_expression_84 fu rc hr C hret x2 F G hm hw (lv_sub hl [0, 1] rfl)
  · have hm := (if_pos c_1).symm.trans hm
    exact mw_expression_82 fu rc hr C hret F G hm hw (lv_sub hl [] rfl)
theorem mw_expression_75 (fu : Nat) (rc : RC) {dd : Nat} (hr : mH1 l v a rc dd) {res : Int32 × PF × PG} (C : mMC p R s m args c A v RX12 cX12_expression 3 (dd + 1 + 3) (60 * (dd + 1) + 64)) (hret : ∀ (H1 : Heap) (locs1 : List Loc) (ls1 : Array Slot) (pc : Nat), mMW s A v a res.2.1 res.2.2 H1 locs1 → narrow .boolean (.int res.1) = .int res.1 → decode cX12_expression pc = .ok (.ireturn, 1) → W p l e R s m args below meth c H1 locs1 0 0 Q (F0 m pc ls1 [.int res.1])) (x2 : Int32) (F : PF) (G : PG) (hm : mb_expression_75 fu rc x2 F G = some res) {H : Heap} {locs : List Loc} (hw : mMW s A v a F G H locs) {ls : Array Slot} (hl : lv_has ls 3 [(0, .ref (a 212)), (2, .int x2)]) : W p l e R s m args below meth c H locs 0 0 Q (F0 m 75 ls []) := by
  have hx := C.1
  have hb := C.2.1
  unfold mb_expression_75 at hm
  refine lv_aload_n hx hb dX12_expression_75 rfl (lv_at hl 0 rfl) ?_
  obtain ⟨⟨r1, F1, G1⟩, hc, hm⟩ := bind_elim hm
  refine mcallI (n := 0) (As := []) (rest := []) C hw (hr.2.2.2.2.1 _ F G r1 F1 G1 hc) (mrecv_X12 C hw) mm_191 mm_192 mm_193 mm_27 mm_194 (by decide +kernel) rfl (by omega) (by omega) hl.1 rfl (Nat.le_of_ble_eq_true rfl) dX12_expression_76 (fun H locs hw => ?_)
  exact mw_expression_79 fu rc hr C hret x2 r1 F1 G1 hm hw (lv_sub hl [0, 1] rfl)
theorem mw_expression_64 (fu : Nat) (rc : RC) {dd : Nat} (hr : mH1 l v a rc dd) {res : Int32 × PF × PG} (C : mMC p R s m args c A v RX12 cX12_expression 3 (dd + 1 + 3) (60 * (dd + 1) + 64)) (hret : ∀ (H1 : Heap) (locs1 : List Loc) (ls1 : Array Slot) (pc : Nat), mMW s A v a res.2.1 res.2.2 H1 locs1 → narrow .boolean (.int res.1) = .int res.1 → decode cX12_expression pc = .ok (.ireturn, 1) → W p l e R s m args below meth c H1 locs1 0 0 Q (F0 m pc ls1 [.int res.1])) (x1 : Int32) (z0 : Int32) (F : PF) (G : PG) (hm : mb_expression_64 fu rc x1 z0 F G = some res) {H : Heap} {locs : List Loc} (hw : mMW s A v a F G H locs) {ls : Array Slot} (hl : lv_has ls 3 [(0, .ref (a 212)), (1, .int x1)]) : W p l e R s m args below meth c H locs 0 0 Q (F0 m 64 ls [.int z0]) := by
  have hx := C.1
  have hb := C.2.1
  unfold mb_expression_64 at hm
  refine lv_istore_n (lv' := [(2, .int z0), (0, .ref (a 212)), (1, .int x1)]) hx hb dX12_expression_64 rfl hl (by decide) rfl (fun ls hl => ?_)
  refine lv_aload_n hx hb dX12_expression_65 rfl (lv_at hl 1 rfl) ?_
  refine mg_X12_107 C hw dX12_expression_66 ?_
  refine lv_iload_n hx hb dX12_expression_69 rfl (lv_at hl 2 rfl) ?_
  refine lv_aload_n hx hb dX12_expression_70 rfl (lv_at hl 1 rfl) ?_
  refine mg_X12_276 C hw dX12_expression_71 ?_
  obtain ⟨hi, hm⟩ := ix_elim hm
  refine mas_57 C hw hi dX12_expression_74 (fun H locs hw => ?_)
  exact mw_expression_75 fu rc hr C hret z0 F (gup G 57 x1.toNatClampNeg (F 60)) hm hw (lv_sub hl [1, 0] rfl)
theorem mw_expression_56 (fu : Nat) (rc : RC) {dd : Nat} (hr : mH1 l v a rc dd) {res : Int32 × PF × PG} (C : mMC p R s m args c A v RX12 cX12_expression 3 (dd + 1 + 3) (60 * (dd + 1) + 64)) (hret : ∀ (H1 : Heap) (locs1 : List Loc) (ls1 : Array Slot) (pc : Nat), mMW s A v a res.2.1 res.2.2 H1 locs1 → narrow .boolean (.int res.1) = .int res.1 → decode cX12_expression pc = .ok (.ireturn, 1) → W p l e R s m args below meth c H1 locs1 0 0 Q (F0 m pc ls1 [.int res.1])) (x1 : Int32) (F : PF) (G : PG) (hm : mb_expression_56 fu rc x1 F G = some res) {H : Heap} {locs : List Loc} (hw : mMW s A v a F G H locs) {ls : Array Slot} (hl : lv_has ls 3 [(0, .ref (a 212)), (1, .int x1)]) : W p l e R s m args below meth c H locs 0 0 Q (F0 m 56 ls []) := by
  have hx := C.1
  have hb := C.2.1
  unfold mb_expression_56 at hm
  refine lv_aload_n hx hb dX12_expression_56 rfl (lv_at hl 0 rfl) ?_
  refine lv_bipush (v := 12) hx hb dX12_expression_57 (by decide) ?_
  refine lv_iconst (v := 0) hx hb dX12_expression_59 (by decide) ?_
  refine lv_iconst (v := 0) hx hb dX12_expression_60 (by decide) ?_
  obtain ⟨⟨r1, F1, G1⟩, hc, hm⟩ := bind_elim hm
  refine mcallI (n := 3) (As := [.int 12, .int 0, .int 0]) (rest := []) C hw (mk_step l v a _ fu 12 0 0 F G r1 F1 G1 hc) (mrecv_X12 C hw) mm_203 mm_204 mm_205 mm_27 mm_206 (by decide +kernel) rfl (by omega) (by omega) hl.1 rfl (Nat.le_of_ble_eq_true rfl) dX12_expression_61 (fun H locs hw => ?_)
  exact mw_expression_64 fu rc hr C hret x1 r1 F1 G1 hm hw (lv_sub hl [0, 1] rfl)
theorem mw_expression_51 (fu : Nat) (rc : RC) {dd : Nat} (hr : mH1 l v a rc dd) {res : Int32 × PF × PG} (C : mMC p R s m args c A v RX12 cX12_expression 3 (dd + 1 + 3) (60 * (dd + 1) + 64)) (hret : ∀ (H1 : Heap) (locs1 : List Loc) (ls1 : Array Slot) (pc : Nat), mMW s A v a res.2.1 res.2.2 H1 locs1 → narrow .boolean (.int res.1) = .int res.1 → decode cX12_expression pc = .ok (.ireturn, 1) → W p l e R s m args below meth c H1 locs1 0 0 Q (F0 m pc ls1 [.int res.1])) (x1 : Int32) (z0 : Int32) (F : PF) (G : PG) (hm : mb_expression_51 fu rc x1 z0 F G = some res) {H : Heap} {locs : List Loc} (hw : mMW s A v a F G H locs) {ls : Array Slot} (hl : lv_has ls 3 [(0, .ref (a 212)), (1, .int x1)]) : W p l e R s m args below meth c H locs 0 0 Q (F0 m 51 ls [.int z0]) := by
  have hx := C.1
  have hb := C.2.1
  unfold mb_expression_51 at hm
  refine lv_if_ne (tgt := 56) hx hb dX12_expression_51 (by decide) (fun c_1 => ?_) (fun c_1 => ?_)
  · have hm := (if_neg c_1).symm.trans hm
    exact mw_expression_56 fu rc hr C hret x1 F G hm hw (lv_sub hl [0, 1] rfl)
  · have hm := (if_pos c_1).symm.trans hm
    exact mw_expression_54 fu rc hr C hret F G hm hw (lv_sub hl [] rfl)
theorem mw_expression_45 (fu : Nat) (rc : RC) {dd : Nat} (hr : mH1 l v a rc dd) {res : Int32 × PF × PG} (C : mMC p R s m args c A v RX12 cX12_expression 3 (dd + 1 + 3) (60 * (dd + 1) + 64)) (hret : ∀ (H1 : Heap) (locs1 : List Loc) (ls1 : Array Slot) (pc : Nat), mMW s A v a res.2.1 res.2.2 H1 locs1 → narrow .boolean (.int res.1) = .int res.1 → decode cX12_expression pc = .ok (.ireturn, 1) → W p l e R s m args below meth c H1 locs1 0 0 Q (F0 m pc ls1 [.int res.1])) (x1 : Int32) (F : PF) (G : PG) (hm : mb_expression_45 fu rc x1 F G = some res) {H : Heap} {locs : List Loc} (hw : mMW s A v a F G H locs) {ls : Array Slot} (hl : lv_has ls 3 [(0, .ref (a 212)), (1, .int x1)]) : W p l e R s m args below meth c H locs 0 0 Q (F0 m 45 ls []) := by
  have hx := C.1
  have hb := C.2.1
  unfold mb_expression_45 at hm
  refine lv_aload_n hx hb dX12_expression_45 rfl (lv_at hl 0 rfl) ?_
  refine lv_bipush (v := 31) hx hb dX12_expression_46 (by decide) ?_
  obtain ⟨⟨r1, F1, G1⟩, hc, hm⟩ := bind_elim hm
  refine mcallI (n := 1) (As := [.int 31]) (rest := []) C hw (mk_sign l v a _ fu 31 F G r1 F1 G1 hc) (mrecv_X12 C hw) mm_179 mm_180 mm_181 mm_27 mm_182 (by decide +kernel) rfl (by omega) (by omega) hl.1 rfl (Nat.le_of_ble_eq_true rfl) dX12_expression_48 (fun H locs hw => ?_)
  exact mw_expression_51 fu rc hr C hret x1 r1 F1 G1 hm hw (lv_sub hl [0, 1] rfl)
theorem mw_expression_42 (fu : Nat) (rc : RC) {dd : Nat} (hr : mH1 l v a rc dd) {res : Int32 × PF × PG} (C : mMC p R s m args c A v RX12 cX12_expression 3 (dd + 1 + 3) (60 * (dd + 1) + 64)) (hret : ∀ (H1 : Heap) (locs1 : List Loc) (ls1 : Array Slot) (pc : Nat), mMW s A v a res.2.1 res.2.2 H1 locs1 → narrow .boolean (.int res.1) = .int res.1 → decode cX12_expression pc = .ok (.ireturn, 1) → W p l e R s m args below meth c H1 locs1 0 0 Q (F0 m pc ls1 [.int res.1])) (x1 : Int32) (z0 : Int32) (F : PF) (G : PG) (hm : mb_expression_42 fu rc x1 z0 F G = some res) {H : Heap} {locs : List Loc} (hw : mMW s A v a F G H locs) {ls : Array Slot} (hl : lv_has ls 3 [(0, .ref (a 212)), (1, .int x1)]) : W p l e R s m args below meth c H locs 0 0 Q (F0 m 42 ls [.int z0]) := by
  have hx := C.1
  have hb := C.2.1
  unfold mb_expression_42 at hm
  refine lv_if_eq (tgt := 54) hx hb dX12_expression_42 (by decide) (fun c_1 => ?_) (fun c_1 => ?_)
  · have hm := (if_pos c_1).symm.trans hm
    exact mw_expression_54 fu rc hr C hret F G hm hw (lv_sub hl [] rfl)
  · have hm := (if_neg c_1).symm.trans hm
    exact mw_expression_45 fu rc hr C hret x1 F G hm hw (lv_sub hl [0, 1] rfl)
theorem mw_expression_37 (fu : Nat) (rc : RC) {dd : Nat} (hr : mH1 l v a rc dd) {res : Int32 × PF × PG} (C : mMC p R s m args c A v RX12 cX12_expression 3 (dd + 1 + 3) (60 * (dd + 1) + 64)) (hret : ∀ (H1 : Heap) (locs1 : List Loc) (ls1 : Array Slot) (pc : Nat), mMW s A v a res.2.1 res.2.2 H1 locs1 → narrow .boolean (.int res.1) = .int res.1 → decode cX12_expression pc = .ok (.ireturn, 1) → W p l e R s m args below meth c H1 locs1 0 0 Q (F0 m pc ls1 [.int res.1])) (z0 : Int32) (F : PF) (G : PG) (hm : mb_expression_37 fu rc z0 F G = some res) {H : Heap} {locs : List Loc} (hw : mMW s A v a F G H locs) {ls : Array Slot} (hl : lv_has ls 3 [(0, .ref (a 212))]) : W p l e R s m args below meth c H locs 0 0 Q (F0 m 37 ls [.int z0]) := by
  have hx := C.1
  have hb := C.2.1
  unfold mb_expression_37 at hm
  refine lv_istore_n (lv' := [(1, .int z0), (0, .ref (a 212))]) hx hb dX12_expression_37 rfl hl (by decide) rfl (fun ls hl => ?_)
  refine lv_aload_n hx hb dX12_expression_38 rfl (lv_at hl 1 rfl) ?_
  obtain ⟨⟨r1, F1, G1⟩, hc, hm⟩ := bind_elim hm
  refine mcallI (n := 0) (As := []) (rest := []) C hw (hr.2.2.2.2.1 _ F G r1 F1 G1 hc) (mrecv_X12 C hw) mm_191 mm_192 mm_193 mm_27 mm_194 (by decide +kernel) rfl (by omega) (by omega) hl.1 rfl (Nat.le_of_ble_eq_true rfl) dX12_expression_39 (fun H locs hw => ?_)
  exact mw_expression_42 fu rc hr C hret z0 r1 F1 G1 hm hw (lv_sub hl [1, 0] rfl)
theorem mw_expression_29 (fu : Nat) (rc : RC) {dd : Nat} (hr : mH1 l v a rc dd) {res : Int32 × PF × PG} (C : mMC p R s m args c A v RX12 cX12_expression 3 (dd + 1 + 3) (60 * (dd + 1) + 64)) (hret : ∀ (H1 : Heap) (locs1 : List Loc) (ls1 : Array Slot) (pc : Nat), mMW s A v a res.2.1 res.2.2 H1 locs1 → narrow .boolean (.int res.1) = .int res.1 → decode cX12_expression pc = .ok (.ireturn, 1) → W p l e R s m args below meth c H1 locs1 0 0 Q (F0 m pc ls1 [.int res.1])) (F : PF) (G : PG) (hm : mb_expression_29 fu rc F G = some res) {H : Heap} {locs : List Loc} (hw : mMW s A v a F G H locs) {ls : Array Slot} (hl : lv_has ls 3 [(0, .ref (a 212))]) : W p l e R s m args below meth c H locs 0 0 Q (F0 m 29 ls []) := by
  have hx := C.1
  have hb := C.2.1
  unfold mb_expression_29 at hm
  refine lv_aload_n hx hb dX12_expression_29 rfl (lv_at hl 0 rfl) ?_
  refine lv_bipush (v := 13) hx hb dX12_expression_30 (by decide) ?_
  refine lv_iconst (v := 0) hx hb dX12_expression_32 (by decide) ?_
  refine lv_iconst (v := 0) hx hb dX12_expression_33 (by decide) ?_
  obtain ⟨⟨r1, F1, G1⟩, hc, hm⟩ := bind_elim hm
  refine mcallI (n := 3) (As := [.int 13, .int 0, .int 0]) (rest := []) C hw (mk_step l v a _ fu 13 0 0 F G r1 F1 G1 hc) (mrecv_X12 C hw) mm_203 mm_204 mm_205 mm_27 mm_206 (by decide +kernel) rfl (by omega) (by omega) hl.1 rfl (Nat.le_of_ble_eq_true rfl) dX12_expression_34 (fun H locs hw => ?_)
  exact mw_expression_37 fu rc hr C hret r1 F1 G1 hm hw (lv_sub hl [0] rfl)
theorem mw_expression_27 (fu : Nat) (rc : RC) {dd : Nat} (hr : mH1 l v a rc dd) {res : Int32 × PF × PG} (C : mMC p R s m args c A v RX12 cX12_expression 3 (dd + 1 + 3) (60 * (dd + 1) + 64)) (hret : ∀ (H1 : Heap) (locs1 : List Loc) (ls1 : Array Slot) (pc : Nat), mMW s A v a res.2.1 res.2.2 H1 locs1 → narrow .boolean (.int res.1) = .int res.1 → decode cX12_expression pc = .ok (.ireturn, 1) → W p l e R s m args below meth c H1 locs1 0 0 Q (F0 m pc ls1 [.int res.1])) (F : PF) (G : PG) (hm : mb_expression_27 fu rc F G = some res) {H : Heap} {locs : List Loc} (hw : mMW s A v a F G H locs) {ls : Array Slot} (hl : lv_has ls 3 []) : W p l e R s m args below meth c H locs 0 0 Q (F0 m 27 ls []) := by
  have hx := C.1
  have hb := C.2.1
  unfold mb_expression_27 at hm
  refine lv_iconst (v := 0) hx hb dX12_expression_27 (by decide) ?_
  obtain rfl := Option.some.inj hm
  exact hret _ _ _ _ hw (b01_nar (v := 0) (Or.inl rfl)) dX12_expression_28
theorem mw_expression_24 (fu : Nat) (rc : RC) {dd : Nat} (hr : mH1 l v a rc dd) {res : Int32 × PF × PG} (C : mMC p R s m args c A v RX12 cX12_expression 3 (dd + 1 + 3) (60 * (dd + 1) + 64)) (hret : ∀ (H1 : Heap) (locs1 : List Loc) (ls1 : Array Slot) (pc : Nat), mMW s A v a res.2.1 res.2.2 H1 locs1 → narrow .boolean (.int res.1) = .int res.1 → decode cX12_expression pc = .ok (.ireturn, 1) → W p l e R s m args below meth c H1 locs1 0 0 Q (F0 m pc ls1 [.int res.1])) (z0 : Int32) (F : PF) (G : PG) (hm : mb_expression_24 fu rc z0 F G = some res) {H : Heap} {locs : List Loc} (hw : mMW s A v a F G H locs) {ls : Array Slot} (hl : lv_has ls 3 [(0, .ref (a 212))]) : W p l e R s m args below meth c H locs 0 0 Q (F0 m 24 ls [.int z0]) := by
  have hx := C.1
  have hb := C.2.1
  unfold mb_expression_24 at hm
  refine lv_if_ne (tgt := 29) hx hb dX12_expression_24 (by decide) (fun c_1 => ?_) (fun c_1 => ?_)
  · have hm := (if_neg c_1).symm.trans hm
    exact mw_expression_29 fu rc hr C hret F G hm hw (lv_sub hl [0] rfl)
  · have hm := (if_pos c_1).symm.trans hm
    exact mw_expression_27 fu rc hr C hret F G hm hw (lv_sub hl [] rfl)
theorem mw_expression_20 (fu : Nat) (rc : RC) {dd : Nat} (hr : mH1 l v a rc dd) {res : Int32 × PF × PG} (C : mMC p R s m args c A v RX12 cX12_expression 3 (dd + 1 + 3) (60 * (dd + 1) + 64)) (hret : ∀ (H1 : Heap) (locs1 : List Loc) (ls1 : Array Slot) (pc : Nat), mMW s A v a res.2.1 res.2.2 H1 locs1 → narrow .boolean (.int res.1) = .int res.1 → decode cX12_expression pc = .ok (.ireturn, 1) → W p l e R s m args below meth c H1 locs1 0 0 Q (F0 m pc ls1 [.int res.1])) (F : PF) (G : PG) (hm : mb_expression_20 fu rc F G = some res) {H : Heap} {locs : List Loc} (hw : mMW s A v a F G H locs) {ls : Array Slot} (hl : lv_has ls 3 [(0, .ref (a 212))]) : W p l e R s m args below meth c H locs 0 0 Q (F0 m 20 ls []) := by
  have hx := C.1
  have hb := C.2.1
  unfold mb_expression_20 at hm
  refine lv_aload_n hx hb dX12_expression_20 rfl (lv_at hl 0 rfl) ?_
  obtain ⟨⟨r1, F1, G1⟩, hc, hm⟩ := bind_elim hm
  refine mcallI (n := 0) (As := []) (rest := []) C hw (mk_opens l v a _ fu F G r1 F1 G1 hc) (mrecv_X12 C hw) mm_199 mm_200 mm_201 mm_27 mm_202 (by decide +kernel) rfl (by omega) (by omega) hl.1 rfl (Nat.le_of_ble_eq_true rfl) dX12_expression_21 (fun H locs hw => ?_)
  exact mw_expression_24 fu rc hr C hret r1 F1 G1 hm hw (lv_sub hl [0] rfl)
theorem mw_expression_18 (fu : Nat) (rc : RC) {dd : Nat} (hr : mH1 l v a rc dd) {res : Int32 × PF × PG} (C : mMC p R s m args c A v RX12 cX12_expression 3 (dd + 1 + 3) (60 * (dd + 1) + 64)) (hret : ∀ (H1 : Heap) (locs1 : List Loc) (ls1 : Array Slot) (pc : Nat), mMW s A v a res.2.1 res.2.2 H1 locs1 → narrow .boolean (.int res.1) = .int res.1 → decode cX12_expression pc = .ok (.ireturn, 1) → W p l e R s m args below meth c H1 locs1 0 0 Q (F0 m pc ls1 [.int res.1])) (F : PF) (G : PG) (hm : mb_expression_18 fu rc F G = some res) {H : Heap} {locs : List Loc} (hw : mMW s A v a F G H locs) {ls : Array Slot} (hl : lv_has ls 3 []) : W p l e R s m args below meth c H locs 0 0 Q (F0 m 18 ls []) := by
  have hx := C.1
  have hb := C.2.1
  unfold mb_expression_18 at hm
  refine lv_iconst (v := 1) hx hb dX12_expression_18 (by decide) ?_
  obtain rfl := Option.some.inj hm
  exact hret _ _ _ _ hw (b01_nar (v := 1) (Or.inr rfl)) dX12_expression_19
theorem mw_expression_15 (fu : Nat) (rc : RC) {dd : Nat} (hr : mH1 l v a rc dd) {res : Int32 × PF × PG} (C : mMC p R s m args c A v RX12 cX12_expression 3 (dd + 1 + 3) (60 * (dd + 1) + 64)) (hret : ∀ (H1 : Heap) (locs1 : List Loc) (ls1 : Array Slot) (pc : Nat), mMW s A v a res.2.1 res.2.2 H1 locs1 → narrow .boolean (.int res.1) = .int res.1 → decode cX12_expression pc = .ok (.ireturn, 1) → W p l e R s m args below meth c H1 locs1 0 0 Q (F0 m pc ls1 [.int res.1])) (z0 : Int32) (F : PF) (G : PG) (hm : mb_expression_15 fu rc z0 F G = some res) {H : Heap} {locs : List Loc} (hw : mMW s A v a F G H locs) {ls : Array Slot} (hl : lv_has ls 3 [(0, .ref (a 212))]) : W p l e R s m args below meth c H locs 0 0 Q (F0 m 15 ls [.int z0]) := by
  have hx := C.1
  have hb := C.2.1
  unfold mb_expression_15 at hm
  refine lv_if_ne (tgt := 20) hx hb dX12_expression_15 (by decide) (fun c_1 => ?_) (fun c_1 => ?_)
  · have hm := (if_neg c_1).symm.trans hm
    exact mw_expression_20 fu rc hr C hret F G hm hw (lv_sub hl [0] rfl)
  · have hm := (if_pos c_1).symm.trans hm
    exact mw_expression_18 fu rc hr C hret F G hm hw (lv_sub hl [] rfl)
theorem mw_expression_9 (fu : Nat) (rc : RC) {dd : Nat} (hr : mH1 l v a rc dd) {res : Int32 × PF × PG} (C : mMC p R s m args c A v RX12 cX12_expression 3 (dd + 1 + 3) (60 * (dd + 1) + 64)) (hret : ∀ (H1 : Heap) (locs1 : List Loc) (ls1 : Array Slot) (pc : Nat), mMW s A v a res.2.1 res.2.2 H1 locs1 → narrow .boolean (.int res.1) = .int res.1 → decode cX12_expression pc = .ok (.ireturn, 1) → W p l e R s m args below meth c H1 locs1 0 0 Q (F0 m pc ls1 [.int res.1])) (F : PF) (G : PG) (hm : mb_expression_9 fu rc F G = some res) {H : Heap} {locs : List Loc} (hw : mMW s A v a F G H locs) {ls : Array Slot} (hl : lv_has ls 3 [(0, .ref (a 212))]) : W p l e R s m args below meth c H locs 0 0 Q (F0 m 9 ls []) := by
  have hx := C.1
  have hb := C.2.1
  unfold mb_expression_9 at hm
  refine lv_aload_n hx hb dX12_expression_9 rfl (lv_at hl 0 rfl) ?_
  refine lv_bipush (v := 30) hx hb dX12_expression_10 (by decide) ?_
  obtain ⟨⟨r1, F1, G1⟩, hc, hm⟩ := bind_elim hm
  refine mcallI (n := 1) (As := [.int 30]) (rest := []) C hw (mk_isSign l v a _ fu 30 F G r1 F1 G1 hc) (mrecv_X12 C hw) mm_183 mm_184 mm_185 mm_27 mm_186 (by decide +kernel) rfl (by omega) (by omega) hl.1 rfl (Nat.le_of_ble_eq_true rfl) dX12_expression_12 (fun H locs hw => ?_)
  exact mw_expression_15 fu rc hr C hret r1 F1 G1 hm hw (lv_sub hl [0] rfl)
theorem mw_expression_7 (fu : Nat) (rc : RC) {dd : Nat} (hr : mH1 l v a rc dd) {res : Int32 × PF × PG} (C : mMC p R s m args c A v RX12 cX12_expression 3 (dd + 1 + 3) (60 * (dd + 1) + 64)) (hret : ∀ (H1 : Heap) (locs1 : List Loc) (ls1 : Array Slot) (pc : Nat), mMW s A v a res.2.1 res.2.2 H1 locs1 → narrow .boolean (.int res.1) = .int res.1 → decode cX12_expression pc = .ok (.ireturn, 1) → W p l e R s m args below meth c H1 locs1 0 0 Q (F0 m pc ls1 [.int res.1])) (F : PF) (G : PG) (hm : mb_expression_7 fu rc F G = some res) {H : Heap} {locs : List Loc} (hw : mMW s A v a F G H locs) {ls : Array Slot} (hl : lv_has ls 3 []) : W p l e R s m args below meth c H locs 0 0 Q (F0 m 7 ls []) := by
  have hx := C.1
  have hb := C.2.1
  unfold mb_expression_7 at hm
  refine lv_iconst (v := 0) hx hb dX12_expression_7 (by decide) ?_
  obtain rfl := Option.some.inj hm
  exact hret _ _ _ _ hw (b01_nar (v := 0) (Or.inl rfl)) dX12_expression_8
theorem mw_expression_4 (fu : Nat) (rc : RC) {dd : Nat} (hr : mH1 l v a rc dd) {res : Int32 × PF × PG} (C : mMC p R s m args c A v RX12 cX12_expression 3 (dd + 1 + 3) (60 * (dd + 1) + 64)) (hret : ∀ (H1 : Heap) (locs1 : List Loc) (ls1 : Array Slot) (pc : Nat), mMW s A v a res.2.1 res.2.2 H1 locs1 → narrow .boolean (.int res.1) = .int res.1 → decode cX12_expression pc = .ok (.ireturn, 1) → W p l e R s m args below meth c H1 locs1 0 0 Q (F0 m pc ls1 [.int res.1])) (z0 : Int32) (F : PF) (G : PG) (hm : mb_expression_4 fu rc z0 F G = some res) {H : Heap} {locs : List Loc} (hw : mMW s A v a F G H locs) {ls : Array Slot} (hl : lv_has ls 3 [(0, .ref (a 212))]) : W p l e R s m args below meth c H locs 0 0 Q (F0 m 4 ls [.int z0]) := by
  have hx := C.1
  have hb := C.2.1
  unfold mb_expression_4 at hm
  refine lv_if_ne (tgt := 9) hx hb dX12_expression_4 (by decide) (fun c_1 => ?_) (fun c_1 => ?_)
  · have hm := (if_neg c_1).symm.trans hm
    exact mw_expression_9 fu rc hr C hret F G hm hw (lv_sub hl [0] rfl)
  · have hm := (if_pos c_1).symm.trans hm
    exact mw_expression_7 fu rc hr C hret F G hm hw (lv_sub hl [] rfl)
theorem mw_expression_0 (fu : Nat) (rc : RC) {dd : Nat} (hr : mH1 l v a rc dd) {res : Int32 × PF × PG} (C : mMC p R s m args c A v RX12 cX12_expression 3 (dd + 1 + 3) (60 * (dd + 1) + 64)) (hret : ∀ (H1 : Heap) (locs1 : List Loc) (ls1 : Array Slot) (pc : Nat), mMW s A v a res.2.1 res.2.2 H1 locs1 → narrow .boolean (.int res.1) = .int res.1 → decode cX12_expression pc = .ok (.ireturn, 1) → W p l e R s m args below meth c H1 locs1 0 0 Q (F0 m pc ls1 [.int res.1])) (F : PF) (G : PG) (hm : mb_expression_0 fu rc F G = some res) {H : Heap} {locs : List Loc} (hw : mMW s A v a F G H locs) {ls : Array Slot} (hl : lv_has ls 3 [(0, .ref (a 212))]) : W p l e R s m args below meth c H locs 0 0 Q (F0 m 0 ls []) := by
  have hx := C.1
  have hb := C.2.1
  unfold mb_expression_0 at hm
  refine lv_aload_n hx hb dX12_expression_0 rfl (lv_at hl 0 rfl) ?_
  obtain ⟨⟨r1, F1, G1⟩, hc, hm⟩ := bind_elim hm
  refine mcallI (n := 0) (As := []) (rest := []) C hw (hr.2.2.1 _ F G r1 F1 G1 hc) (mrecv_X12 C hw) mm_196 mm_197 mm_198 mm_27 mm_252 (by decide +kernel) rfl (by omega) (by omega) hl.1 rfl (Nat.le_of_ble_eq_true rfl) dX12_expression_1 (fun H locs hw => ?_)
  exact mw_expression_4 fu rc hr C hret r1 F1 G1 hm hw (lv_sub hl [0] rfl)
theorem mq_expression (l : Launch) (v : EV) (a : Nat → Nat) (sz : Nat) (fu : Nat) (rc : RC) {dd : Nat} (hr : mH1 l v a rc dd) (F : PF) (G : PG) (r : Int32) (F1 : PF) (G1 : PG) (hm : mh_expression fu rc F G = some (r, F1, G1)) : mMI l yX12_expression cX12_expression 3 (some .boolean) (dd + 1 + 3) (60 * (dd + 1) + 64) v a sz [.ref (a 212)] F G r F1 G1 := mMI.of (ty := .boolean) (by decide) rfl (Nat.le_of_ble_eq_true rfl) (fun p e R s m args below meth c Q A H locs ls C hw hl hret => mw_expression_0 fu rc hr (res := (r, F1, G1)) C hret F G hm hw hl)
def mb_inConstant_248 (fu : Nat) (rc : RC) (F : PF) (G : PG) : PR := some (1, F, G)
def mb_inConstant_247 (fu : Nat) (rc : RC) (z0 : Int32) (F : PF) (G : PG) : PR := mb_inConstant_248 fu rc F G
def mb_inConstant_243 (fu : Nat) (rc : RC) (z0 : Int32) (z1 : Int32) (F : PF) (G : PG) : PR := (mf_step fu z1 z0 0 F G).bind (fun q => mb_inConstant_247 fu rc q.1 q.2.1 q.2.2)
def mb_inConstant_242 (fu : Nat) (rc : RC) (z0 : Int32) (F : PF) (G : PG) : PR := mb_inConstant_243 fu rc 0 z0 F G
def mb_inConstant_233 (fu : Nat) (rc : RC) (x2 : Int32) (z0 : Int32) (F : PF) (G : PG) : PR := if ixb x2 900 = true then (mb_inConstant_243 fu rc (G 20 x2.toNatClampNeg) z0 F G) else none
def mb_inConstant_226 (fu : Nat) (rc : RC) (x2 : Int32) (x5 : Int32) (F : PF) (G : PG) : PR := if x5 = (0 : Int32) then mb_inConstant_242 fu rc 0 F G else mb_inConstant_233 fu rc x2 0 F G
def mb_inConstant_221 (fu : Nat) (rc : RC) (x2 : Int32) (x4 : Int32) (x5 : Int32) (F : PF) (G : PG) : PR := if x4 = (0 : Int32) then mb_inConstant_226 fu rc x2 x5 F G else mb_inConstant_248 fu rc F G
def mb_inConstant_219 (fu : Nat) (rc : RC) (F : PF) (G : PG) : PR := some (0, F, G)
def mb_inConstant_216 (fu : Nat) (rc : RC) (x2 : Int32) (x4 : Int32) (x5 : Int32) (z0 : Int32) (F : PF) (G : PG) : PR := if z0 = (0 : Int32) then mb_inConstant_219 fu rc F G else mb_inConstant_221 fu rc x2 x4 x5 F G
def mb_inConstant_211 (fu : Nat) (rc : RC) (x2 : Int32) (x4 : Int32) (x5 : Int32) (F : PF) (G : PG) : PR := (rc 3 (-1) 0 F G).bind (fun q => mb_inConstant_216 fu rc x2 x4 x5 q.1 q.2.1 q.2.2)
def mb_inConstant_196 (fu : Nat) (rc : RC) (x2 : Int32) (x4 : Int32) (x5 : Int32) (F : PF) (G : PG) : PR := if ixb ((F 42) - (1 : Int32)) 4002 = true then (if (G 4 ((F 42) - (1 : Int32)).toNatClampNeg) = (1 : Int32) then mb_inConstant_211 fu rc x2 x4 x5 F G else mb_inConstant_221 fu rc x2 x4 x5 F G) else none
def mb_inConstant_191 (fu : Nat) (rc : RC) (x2 : Int32) (x4 : Int32) (x5 : Int32) (F : PF) (G : PG) : PR := if x4 = (0 : Int32) then mb_inConstant_221 fu rc x2 x4 x5 F G else mb_inConstant_196 fu rc x2 x4 x5 F G
def mb_inConstant_188 (fu : Nat) (rc : RC) (x2 : Int32) (x4 : Int32) (x5 : Int32) (z0 : Int32) (F : PF) (G : PG) : PR := if z0 = (0 : Int32) then mb_inConstant_221 fu rc x2 x4 x5 F G else mb_inConstant_191 fu rc x2 x4 x5 F G
def mb_inConstant_182 (fu : Nat) (rc : RC) (x2 : Int32) (x4 : Int32) (x5 : Int32) (F : PF) (G : PG) : PR := (mf_isSign fu 24 F G).bind (fun q => mb_inConstant_188 fu rc x2 x4 x5 q.1 q.2.1 q.2.2)
def mb_inConstant_180 (fu : Nat) (rc : RC) (F : PF) (G : PG) : PR := some (0, F, G)
def mb_inConstant_177 (fu : Nat) (rc : RC) (x2 : Int32) (x4 : Int32) (x5 : Int32) (z0 : Int32) (F : PF) (G : PG) : PR := if z0 = (0 : Int32) then mb_inConstant_180 fu rc F G else mb_inConstant_182 fu rc x2 x4 x5 F G
def mb_inConstant_171 (fu : Nat) (rc : RC) (x1 : Int32) (x2 : Int32) (x4 : Int32) (x5 : Int32) (F : PF) (G : PG) : PR := (rc 1 x1 0 F G).bind (fun q => mb_inConstant_177 fu rc x2 x4 x5 q.1 q.2.1 q.2.2)
def mb_inConstant_168 (fu : Nat) (rc : RC) (x1 : Int32) (x2 : Int32) (x4 : Int32) (x5 : Int32) (z0 : Int32) (F : PF) (G : PG) : PR := if z0 = (0 : Int32) then mb_inConstant_182 fu rc x2 x4 x5 F G else mb_inConstant_171 fu rc x1 x2 x4 x5 F G
def mb_inConstant_162 (fu : Nat) (rc : RC) (x1 : Int32) (x2 : Int32) (x4 : Int32) (x5 : Int32) (F : PF) (G : PG) : PR := (mf_isSign fu 22 F G).bind (fun q => mb_inConstant_168 fu rc x1 x2 x4 x5 q.1 q.2.1 q.2.2)
def mb_inConstant_157 (fu : Nat) (rc : RC) (x1 : Int32) (x2 : Int32) (x4 : Int32) (x5 : Int32) (F : PF) (G : PG) : PR := mb_inConstant_162 fu rc x1 x2 x4 x5 (fup F 55 (1 : Int32)) G
def mb_inConstant_147 (fu : Nat) (rc : RC) (x1 : Int32) (x2 : Int32) (x4 : Int32) (x5 : Int32) (F : PF) (G : PG) : PR := if ixb x2 900 = true then (if (G 21 x2.toNatClampNeg) = (-1 : Int32) then mb_inConstant_157 fu rc x1 x2 x4 x5 F G else mb_inConstant_162 fu rc x1 x2 x4 x5 F G) else none
def mb_inConstant_142 (fu : Nat) (rc : RC) (x1 : Int32) (x2 : Int32) (x4 : Int32) (x5 : Int32) (F : PF) (G : PG) : PR := if x4 = (0 : Int32) then mb_inConstant_147 fu rc x1 x2 x4 x5 F G else mb_inConstant_157 fu rc x1 x2 x4 x5 F G
def mb_inConstant_137 (fu : Nat) (rc : RC) (x1 : Int32) (x2 : Int32) (x4 : Int32) (x5 : Int32) (F : PF) (G : PG) : PR := if x5 = (0 : Int32) then mb_inConstant_157 fu rc x1 x2 x4 x5 F G else mb_inConstant_142 fu rc x1 x2 x4 x5 F G
def mb_inConstant_125 (fu : Nat) (rc : RC) (x1 : Int32) (x2 : Int32) (x4 : Int32) (x5 : Int32) (F : PF) (G : PG) : PR := if ixb x1 4002 = true then ((mf_note fu 10 (G 6 x1.toNatClampNeg) F G).bind (fun q => mb_inConstant_137 fu rc x1 x2 x4 x5 q.2.1 q.2.2)) else none
def mb_inConstant_120 (fu : Nat) (rc : RC) (x1 : Int32) (x2 : Int32) (x4 : Int32) (x5 : Int32) (F : PF) (G : PG) : PR := if x4 = (0 : Int32) then mb_inConstant_137 fu rc x1 x2 x4 x5 F G else mb_inConstant_125 fu rc x1 x2 x4 x5 F G
def mb_inConstant_115 (fu : Nat) (rc : RC) (x1 : Int32) (x2 : Int32) (x4 : Int32) (x5 : Int32) (F : PF) (G : PG) : PR := if x5 = (0 : Int32) then mb_inConstant_125 fu rc x1 x2 x4 x5 F G else mb_inConstant_120 fu rc x1 x2 x4 x5 F G
def mb_inConstant_111 (fu : Nat) (rc : RC) (x1 : Int32) (x2 : Int32) (x3 : Int32) (x4 : Int32) (x5 : Int32) (F : PF) (G : PG) : PR := if x3 = (0 : Int32) then mb_inConstant_115 fu rc x1 x2 x4 x5 F G else mb_inConstant_137 fu rc x1 x2 x4 x5 F G
def mb_inConstant_104 (fu : Nat) (rc : RC) (x1 : Int32) (x2 : Int32) (x3 : Int32) (x4 : Int32) (x5 : Int32) (F : PF) (G : PG) : PR := if (F 46) ≤ (0 : Int32) then mb_inConstant_137 fu rc x1 x2 x4 x5 F G else mb_inConstant_111 fu rc x1 x2 x3 x4 x5 F G
def mb_inConstant_93 (fu : Nat) (rc : RC) (x1 : Int32) (x2 : Int32) (x3 : Int32) (x4 : Int32) (x5 : Int32) (F : PF) (G : PG) : PR := if ixb x1 4002 = true then ((mf_note fu 4 (G 6 x1.toNatClampNeg) F G).bind (fun q => mb_inConstant_104 fu rc x1 x2 x3 x4 x5 q.2.1 q.2.2)) else none
def mb_inConstant_89 (fu : Nat) (rc : RC) (x1 : Int32) (x2 : Int32) (x3 : Int32) (x4 : Int32) (x5 : Int32) (F : PF) (G : PG) : PR := if x3 = (0 : Int32) then mb_inConstant_104 fu rc x1 x2 x3 x4 x5 F G else mb_inConstant_93 fu rc x1 x2 x3 x4 x5 F G
def mb_inConstant_80 (fu : Nat) (rc : RC) (x1 : Int32) (x2 : Int32) (x3 : Int32) (x4 : Int32) (z0 : Int32) (F : PF) (G : PG) : PR := if (F 46) ≤ (0 : Int32) then mb_inConstant_104 fu rc x1 x2 x3 x4 z0 F G else mb_inConstant_89 fu rc x1 x2 x3 x4 z0 F G
def mb_inConstant_79 (fu : Nat) (rc : RC) (x1 : Int32) (x2 : Int32) (x3 : Int32) (x4 : Int32) (F : PF) (G : PG) : PR := mb_inConstant_80 fu rc x1 x2 x3 x4 0 F G
def mb_inConstant_75 (fu : Nat) (rc : RC) (x1 : Int32) (x2 : Int32) (x3 : Int32) (x4 : Int32) (F : PF) (G : PG) : PR := mb_inConstant_80 fu rc x1 x2 x3 x4 1 F G
def mb_inConstant_66 (fu : Nat) (rc : RC) (x1 : Int32) (x2 : Int32) (x3 : Int32) (x4 : Int32) (F : PF) (G : PG) : PR := if ixb x2 900 = true then (if (G 17 x2.toNatClampNeg) = (0 : Int32) then mb_inConstant_75 fu rc x1 x2 x3 x4 F G else mb_inConstant_79 fu rc x1 x2 x3 x4 F G) else none
def mb_inConstant_59 (fu : Nat) (rc : RC) (x1 : Int32) (x2 : Int32) (x3 : Int32) (z0 : Int32) (F : PF) (G : PG) : PR := if x2 = (-1 : Int32) then mb_inConstant_79 fu rc x1 x2 x3 z0 F G else mb_inConstant_66 fu rc x1 x2 x3 z0 F G
def mb_inConstant_54 (fu : Nat) (rc : RC) (x1 : Int32) (x2 : Int32) (x3 : Int32) (F : PF) (G : PG) : PR := mb_inConstant_59 fu rc x1 x2 x3 1 F G
def mb_inConstant_58 (fu : Nat) (rc : RC) (x1 : Int32) (x2 : Int32) (x3 : Int32) (F : PF) (G : PG) : PR := mb_inConstant_59 fu rc x1 x2 x3 0 F G
def mb_inConstant_51 (fu : Nat) (rc : RC) (x1 : Int32) (x2 : Int32) (x3 : Int32) (z0 : Int32) (F : PF) (G : PG) : PR := if z0 = (0 : Int32) then mb_inConstant_58 fu rc x1 x2 x3 F G else mb_inConstant_54 fu rc x1 x2 x3 F G
def mb_inConstant_45 (fu : Nat) (rc : RC) (x1 : Int32) (x2 : Int32) (x3 : Int32) (F : PF) (G : PG) : PR := (mf_isSign fu 22 F G).bind (fun q => mb_inConstant_51 fu rc x1 x2 x3 q.1 q.2.1 q.2.2)
def mb_inConstant_42 (fu : Nat) (rc : RC) (x1 : Int32) (x2 : Int32) (x3 : Int32) (z0 : Int32) (F : PF) (G : PG) : PR := if z0 = (0 : Int32) then mb_inConstant_45 fu rc x1 x2 x3 F G else mb_inConstant_54 fu rc x1 x2 x3 F G
def mb_inConstant_35 (fu : Nat) (rc : RC) (x1 : Int32) (x2 : Int32) (z0 : Int32) (F : PF) (G : PG) : PR := (mf_isSign fu 24 F G).bind (fun q => mb_inConstant_42 fu rc x1 x2 z0 q.1 q.2.1 q.2.2)
def mb_inConstant_34 (fu : Nat) (rc : RC) (x1 : Int32) (x2 : Int32) (F : PF) (G : PG) : PR := mb_inConstant_35 fu rc x1 x2 0 F G
def mb_inConstant_30 (fu : Nat) (rc : RC) (x1 : Int32) (x2 : Int32) (F : PF) (G : PG) : PR := mb_inConstant_35 fu rc x1 x2 1 F G
def mb_inConstant_22 (fu : Nat) (rc : RC) (x1 : Int32) (x2 : Int32) (F : PF) (G : PG) : PR := if (F 62) = (-1 : Int32) then mb_inConstant_30 fu rc x1 x2 F G else mb_inConstant_34 fu rc x1 x2 F G
def mb_inConstant_16 (fu : Nat) (rc : RC) (x1 : Int32) (z0 : Int32) (F : PF) (G : PG) : PR := if z0 = (-1 : Int32) then mb_inConstant_22 fu rc x1 z0 F G else mb_inConstant_34 fu rc x1 z0 F G
def mb_inConstant_11 (fu : Nat) (rc : RC) (x1 : Int32) (F : PF) (G : PG) : PR := (mf_meaning fu x1 F G).bind (fun q => mb_inConstant_16 fu rc x1 q.1 q.2.1 q.2.2)
def mb_inConstant_7 (fu : Nat) (rc : RC) (x1 : Int32) (F : PF) (G : PG) : PR := mb_inConstant_16 fu rc x1 (-1) F G
def mb_inConstant_0 (fu : Nat) (rc : RC) (x1 : Int32) (F : PF) (G : PG) : PR := if (F 46) = (0 : Int32) then mb_inConstant_7 fu rc x1 F G else mb_inConstant_11 fu rc x1 F G
def mh_inConstant (fu : Nat) (rc : RC) (x1 : Int32) (F : PF) (G : PG) : PR := mb_inConstant_0 fu rc x1 F G
theorem mw_inConstant_248 (fu : Nat) (rc : RC) {dd : Nat} (hr : mH1 l v a rc dd) {res : Int32 × PF × PG} (C : mMC p R s m args c A v RX12 cX12_inConstant 6 (dd + 1 + 3) (60 * (dd + 1) + 64)) (hret : ∀ (H1 : Heap) (locs1 : List Loc) (ls1 : Array Slot) (pc : Nat), mMW s A v a res.2.1 res.2.2 H1 locs1 → narrow .boolean (.int res.1) = .int res.1 → decode cX12_inConstant pc = .ok (.ireturn, 1) → W p l e R s m args below meth c H1 locs1 0 0 Q (F0 m pc ls1 [.int res.1])) (F : PF) (G : PG) (hm : mb_inConstant_248 fu rc F G = some res) {H : Heap} {locs : List Loc} (hw : mMW s A v a F G H locs) {ls : Array Slot} (hl : lv_has ls 6 []) : W p l e R s m args below meth c H locs 0 0 Q (F0 m 248 ls []) := by
  have hx := C.1
  have hb := C.2.1
  unfold mb_inConstant_248 at hm
  refine lv_iconst (v := 1) hx hb dX12_inConstant_248 (by decide) ?_
  obtain rfl := Option.some.inj hm
  exact hret _ _ _ _ hw (b01_nar (v := 1) (Or.inr rfl)) dX12_inConstant_249
theorem mw_inConstant_247 (fu : Nat) (rc : RC) {dd : Nat} (hr : mH1 l v a rc dd) {res : Int32 × PF × PG} (C : mMC p R s m args c A v RX12 cX12_inConstant 6 (dd + 1 + 3) (60 * (dd + 1) + 64)) (hret : ∀ (H1 : Heap) (locs1 : List Loc) (ls1 : Array Slot) (pc : Nat), mMW s A v a res.2.1 res.2.2 H1 locs1 → narrow .boolean (.int res.1) = .int res.1 → decode cX12_inConstant pc = .ok (.ireturn, 1) → W p l e R s m args below meth c H1 locs1 0 0 Q (F0 m pc ls1 [.int res.1])) (z0 : Int32) (F : PF) (G : PG) (hm : mb_inConstant_247 fu rc z0 F G = some res) {H : Heap} {locs : List Loc} (hw : mMW s A v a F G H locs) {ls : Array Slot} (hl : lv_has ls 6 []) : W p l e R s m args below meth c H locs 0 0 Q (F0 m 247 ls [.int z0]) := by
  have hx := C.1
  have hb := C.2.1
  unfold mb_inConstant_247 at hm
  refine lv_pop hx hb dX12_inConstant_247 rfl ?_
  exact mw_inConstant_248 fu rc hr C hret F G hm hw (lv_sub hl [] rfl)
theorem mw_inConstant_243 (fu : Nat) (rc : RC) {dd : Nat} (hr : mH1 l v a rc dd) {res : Int32 × PF × PG} (C : mMC p R s m args c A v RX12 cX12_inConstant 6 (dd + 1 + 3) (60 * (dd + 1) + 64)) (hret : ∀ (H1 : Heap) (locs1 : List Loc) (ls1 : Array Slot) (pc : Nat), mMW s A v a res.2.1 res.2.2 H1 locs1 → narrow .boolean (.int res.1) = .int res.1 → decode cX12_inConstant pc = .ok (.ireturn, 1) → W p l e R s m args below meth c H1 locs1 0 0 Q (F0 m pc ls1 [.int res.1])) (z0 : Int32) (z1 : Int32) (F : PF) (G : PG) (hm : mb_inConstant_243 fu rc z0 z1 F G = some res) {H : Heap} {locs : List Loc} (hw : mMW s A v a F G H locs) {ls : Array Slot} (hl : lv_has ls 6 []) : W p l e R s m args below meth c H locs 0 0 Q (F0 m 243 ls [.int z0, .int z1, .ref (a 212)]) := by
  have hx := C.1
  have hb := C.2.1
  unfold mb_inConstant_243 at hm
  refine lv_iconst (v := 0) hx hb dX12_inConstant_243 (by decide) ?_
  obtain ⟨⟨r1, F1, G1⟩, hc, hm⟩ := bind_elim hm
  refine mcallI (n := 3) (As := [.int z1, .int z0, .int 0]) (rest := []) C hw (mk_step l v a _ fu z1 z0 0 F G r1 F1 G1 hc) (mrecv_X12 C hw) mm_203 mm_204 mm_205 mm_27 mm_206 (by decide +kernel) rfl (by omega) (by omega) hl.1 rfl (Nat.le_of_ble_eq_true rfl) dX12_inConstant_244 (fun H locs hw => ?_)
  exact mw_inConstant_247 fu rc hr C hret r1 F1 G1 hm hw (lv_sub hl [] rfl)
theorem mw_inConstant_242 (fu : Nat) (rc : RC) {dd : Nat} (hr : mH1 l v a rc dd) {res : Int32 × PF × PG} (C : mMC p R s m args c A v RX12 cX12_inConstant 6 (dd + 1 + 3) (60 * (dd + 1) + 64)) (hret : ∀ (H1 : Heap) (locs1 : List Loc) (ls1 : Array Slot) (pc : Nat), mMW s A v a res.2.1 res.2.2 H1 locs1 → narrow .boolean (.int res.1) = .int res.1 → decode cX12_inConstant pc = .ok (.ireturn, 1) → W p l e R s m args below meth c H1 locs1 0 0 Q (F0 m pc ls1 [.int res.1])) (z0 : Int32) (F : PF) (G : PG) (hm : mb_inConstant_242 fu rc z0 F G = some res) {H : Heap} {locs : List Loc} (hw : mMW s A v a F G H locs) {ls : Array Slot} (hl : lv_has ls 6 []) : W p l e R s m args below meth c H locs 0 0 Q (F0 m 242 ls [.int z0, .ref (a 212)]) := by
  have hx := C.1
  have hb := C.2.1
  unfold mb_inConstant_242 at hm
  refine lv_iconst (v := 0) hx hb dX12_inConstant_242 (by decide) ?_
  exact mw_inConstant_243 fu rc hr C hret 0 z0 F G hm hw (lv_sub hl [] rfl)
theorem mw_inConstant_233 (fu : Nat) (rc : RC) {dd : Nat} (hr : mH1 l v a rc dd) {res : Int32 × PF × PG} (C : mMC p R s m args c A v RX12 cX12_inConstant 6 (dd + 1 + 3) (60 * (dd + 1) + 64)) (hret : ∀ (H1 : Heap) (locs1 : List Loc) (ls1 : Array Slot) (pc : Nat), mMW s A v a res.2.1 res.2.2 H1 locs1 → narrow .boolean (.int res.1) = .int res.1 → decode cX12_inConstant pc = .ok (.ireturn, 1) → W p l e R s m args below meth c H1 locs1 0 0 Q (F0 m pc ls1 [.int res.1])) (x2 : Int32) (z0 : Int32) (F : PF) (G : PG) (hm : mb_inConstant_233 fu rc x2 z0 F G = some res) {H : Heap} {locs : List Loc} (hw : mMW s A v a F G H locs) {ls : Array Slot} (hl : lv_has ls 6 [(0, .ref (a 212)), (2, .int x2)]) : W p l e R s m args below meth c H locs 0 0 Q (F0 m 233 ls [.int z0, .ref (a 212)]) := by
  have hx := C.1
  have hb := C.2.1
  unfold mb_inConstant_233 at hm
  refine lv_aload_n hx hb dX12_inConstant_233 rfl (lv_at hl 0 rfl) ?_
  refine mg_X12_49 C hw dX12_inConstant_234 ?_
  refine lv_iload_n hx hb dX12_inConstant_237 rfl (lv_at hl 1 rfl) ?_
  obtain ⟨hi, hm⟩ := ix_elim hm
  refine mal_20 C hw hi dX12_inConstant_238 ?_
  refine lv_goto (tgt := 243) hx hb dX12_inConstant_239 (by decide) ?_
  exact mw_inConstant_243 fu rc hr C hret (G 20 x2.toNatClampNeg) z0 F G hm hw (lv_sub hl [] rfl)
theorem mw_inConstant_226 (fu : Nat) (rc : RC) {dd : Nat} (hr : mH1 l v a rc dd) {res : Int32 × PF × PG} (C : mMC p R s m args c A v RX12 cX12_inConstant 6 (dd + 1 + 3) (60 * (dd + 1) + 64)) (hret : ∀ (H1 : Heap) (locs1 : List Loc) (ls1 : Array Slot) (pc : Nat), mMW s A v a res.2.1 res.2.2 H1 locs1 → narrow .boolean (.int res.1) = .int res.1 → decode cX12_inConstant pc = .ok (.ireturn, 1) → W p l e R s m args below meth c H1 locs1 0 0 Q (F0 m pc ls1 [.int res.1])) (x2 : Int32) (x5 : Int32) (F : PF) (G : PG) (hm : mb_inConstant_226 fu rc x2 x5 F G = some res) {H : Heap} {locs : List Loc} (hw : mMW s A v a F G H locs) {ls : Array Slot} (hl : lv_has ls 6 [(0, .ref (a 212)), (2, .int x2), (5, .int x5)]) : W p l e R s m args below meth c H locs 0 0 Q (F0 m 226 ls []) := by
  have hx := C.1
  have hb := C.2.1
  unfold mb_inConstant_226 at hm
  refine lv_aload_n hx hb dX12_inConstant_226 rfl (lv_at hl 0 rfl) ?_
  refine lv_iconst (v := 0) hx hb dX12_inConstant_227 (by decide) ?_
  refine lv_iload hx hb dX12_inConstant_228 (lv_at hl 2 rfl) ?_
  refine lv_if_eq (tgt := 242) hx hb dX12_inConstant_230 (by decide) (fun c_1 => ?_) (fun c_1 => ?_)
  · have hm := (if_pos c_1).symm.trans hm
    exact mw_inConstant_242 fu rc hr C hret 0 F G hm hw (lv_sub hl [] rfl)
  · have hm := (if_neg c_1).symm.trans hm
    exact mw_inConstant_233 fu rc hr C hret x2 0 F G hm hw (lv_sub hl [0, 1] rfl)
theorem mw_inConstant_221 (fu : Nat) (rc : RC) {dd : Nat} (hr : mH1 l v a rc dd) {res : Int32 × PF × PG} (C : mMC p R s m args c A v RX12 cX12_inConstant 6 (dd + 1 + 3) (60 * (dd + 1) + 64)) (hret : ∀ (H1 : Heap) (locs1 : List Loc) (ls1 : Array Slot) (pc : Nat), mMW s A v a res.2.1 res.2.2 H1 locs1 → narrow .boolean (.int res.1) = .int res.1 → decode cX12_inConstant pc = .ok (.ireturn, 1) → W p l e R s m args below meth c H1 locs1 0 0 Q (F0 m pc ls1 [.int res.1])) (x2 : Int32) (x4 : Int32) (x5 : Int32) (F : PF) (G : PG) (hm : mb_inConstant_221 fu rc x2 x4 x5 F G = some res) {H : Heap} {locs : List Loc} (hw : mMW s A v a F G H locs) {ls : Array Slot} (hl : lv_has ls 6 [(0, .ref (a 212)), (2, .int x2), (4, .int x4), (5, .int x5)]) : W p l e R s m args below meth c H locs 0 0 Q (F0 m 221 ls []) := by
  have hx := C.1
  have hb := C.2.1
  unfold mb_inConstant_221 at hm
  refine lv_iload hx hb dX12_inConstant_221 (lv_at hl 2 rfl) ?_
  refine lv_if_ne (tgt := 248) hx hb dX12_inConstant_223 (by decide) (fun c_1 => ?_) (fun c_1 => ?_)
  · have hm := (if_neg c_1).symm.trans hm
    exact mw_inConstant_248 fu rc hr C hret F G hm hw (lv_sub hl [] rfl)
  · have hm := (if_pos c_1).symm.trans hm
    exact mw_inConstant_226 fu rc hr C hret x2 x5 F G hm hw (lv_sub hl [0, 1, 3] rfl)
theorem mw_inConstant_219 (fu : Nat) (rc : RC) {dd : Nat} (hr : mH1 l v a rc dd) {res : Int32 × PF × PG} (C : mMC p R s m args c A v RX12 cX12_inConstant 6 (dd + 1 + 3) (60 * (dd + 1) + 64)) (hret : ∀ (H1 : Heap) (locs1 : List Loc) (ls1 : Array Slot) (pc : Nat), mMW s A v a res.2.1 res.2.2 H1 locs1 → narrow .boolean (.int res.1) = .int res.1 → decode cX12_inConstant pc = .ok (.ireturn, 1) → W p l e R s m args below meth c H1 locs1 0 0 Q (F0 m pc ls1 [.int res.1])) (F : PF) (G : PG) (hm : mb_inConstant_219 fu rc F G = some res) {H : Heap} {locs : List Loc} (hw : mMW s A v a F G H locs) {ls : Array Slot} (hl : lv_has ls 6 []) : W p l e R s m args below meth c H locs 0 0 Q (F0 m 219 ls []) := by
  have hx := C.1
  have hb := C.2.1
  unfold mb_inConstant_219 at hm
  refine lv_iconst (v := 0) hx hb dX12_inConstant_219 (by decide) ?_
  obtain rfl := Option.some.inj hm
  exact hret _ _ _ _ hw (b01_nar (v := 0) (Or.inl rfl)) dX12_inConstant_220
theorem mw_inConstant_216 (fu : Nat) (rc : RC) {dd : Nat} (hr : mH1 l v a rc dd) {res : Int32 × PF × PG} (C : mMC p R s m args c A v RX12 cX12_inConstant 6 (dd + 1 + 3) (60 * (dd + 1) + 64)) (hret : ∀ (H1 : Heap) (locs1 : List Loc) (ls1 : Array Slot) (pc : Nat), mMW s A v a res.2.1 res.2.2 H1 locs1 → narrow .boolean (.int res.1) = .int res.1 → decode cX12_inConstant pc = .ok (.ireturn, 1) → W p l e R s m args below meth c H1 locs1 0 0 Q (F0 m pc ls1 [.int res.1])) (x2 : Int32) (x4 : Int32) (x5 : Int32) (z0 : Int32) (F : PF) (G : PG) (hm : mb_inConstant_216 fu rc x2 x4 x5 z0 F G = some res) {H : Heap} {locs : List Loc} (hw : mMW s A v a F G H locs) {ls : Array Slot} (hl : lv_has ls 6 [(0, .ref (a 212)), (2, .int x2), (4, .int x4), (5, .int x5)]) : W p l e R s m args below meth c H locs 0 0 Q (F0 m 216 ls [.int z0]) := by
  have hx := C.1
  have hb := C.2.1
  unfold mb_inConstant_216 at hm
  refine lv_if_ne (tgt := 221) hx hb dX12_inConstant_216 (by decide) (fun c_1 => ?_) (fun c_1 => ?_)
  · have hm := (if_neg c_1).symm.trans hm
    exact mw_inConstant_221 fu rc hr C hret x2 x4 x5 F G hm hw (lv_sub hl [0, 1, 2, 3] rfl)
  · have hm := (if_pos c_1).symm.trans hm
    exact mw_inConstant_219 fu rc hr C hret F G hm hw (lv_sub hl [] rfl)
theorem mw_inConstant_211 (fu : Nat) (rc : RC) {dd : Nat} (hr : mH1 l v a rc dd) {res : Int32 × PF × PG} (C : mMC p R s m args c A v RX12 cX12_inConstant 6 (dd + 1 + 3) (60 * (dd + 1) + 64)) (hret : ∀ (H1 : Heap) (locs1 : List Loc) (ls1 : Array Slot) (pc : Nat), mMW s A v a res.2.1 res.2.2 H1 locs1 → narrow .boolean (.int res.1) = .int res.1 → decode cX12_inConstant pc = .ok (.ireturn, 1) → W p l e R s m args below meth c H1 locs1 0 0 Q (F0 m pc ls1 [.int res.1])) (x2 : Int32) (x4 : Int32) (x5 : Int32) (F : PF) (G : PG) (hm : mb_inConstant_211 fu rc x2 x4 x5 F G = some res) {H : Heap} {locs : List Loc} (hw : mMW s A v a F G H locs) {ls : Array Slot} (hl : lv_has ls 6 [(0, .ref (a 212)), (2, .int x2), (4, .int x4), (5, .int x5)]) : W p l e R s m args below meth c H locs 0 0 Q (F0 m 211 ls []) := by
  have hx := C.1
  have hb := C.2.1
  unfold mb_inConstant_211 at hm
  refine lv_aload_n hx hb dX12_inConstant_211 rfl (lv_at hl 0 rfl) ?_
  refine lv_iconst (v := (-1)) hx hb dX12_inConstant_212 (by decide) ?_
  obtain ⟨⟨r1, F1, G1⟩, hc, hm⟩ := bind_elim hm
  refine mcallI (n := 1) (As := [.int (-1)]) (rest := []) C hw (hr.2.2.2.1 _ (-1) F G r1 F1 G1 hc) (mrecv_X12 C hw) mm_272 mm_273 mm_274 mm_27 mm_267 (by decide +kernel) rfl (by omega) (by omega) hl.1 rfl (Nat.le_of_ble_eq_true rfl) dX12_inConstant_213 (fun H locs hw => ?_)
  exact mw_inConstant_216 fu rc hr C hret x2 x4 x5 r1 F1 G1 hm hw (lv_sub hl [0, 1, 2, 3] rfl)
theorem mw_inConstant_196 (fu : Nat) (rc : RC) {dd : Nat} (hr : mH1 l v a rc dd) {res : Int32 × PF × PG} (C : mMC p R s m args c A v RX12 cX12_inConstant 6 (dd + 1 + 3) (60 * (dd + 1) + 64)) (hret : ∀ (H1 : Heap) (locs1 : List Loc) (ls1 : Array Slot) (pc : Nat), mMW s A v a res.2.1 res.2.2 H1 locs1 → narrow .boolean (.int res.1) = .int res.1 → decode cX12_inConstant pc = .ok (.ireturn, 1) → W p l e R s m args below meth c H1 locs1 0 0 Q (F0 m pc ls1 [.int res.1])) (x2 : Int32) (x4 : Int32) (x5 : Int32) (F : PF) (G : PG) (hm : mb_inConstant_196 fu rc x2 x4 x5 F G = some res) {H : Heap} {locs : List Loc} (hw : mMW s A v a F G H locs) {ls : Array Slot} (hl : lv_has ls 6 [(0, .ref (a 212)), (2, .int x2), (4, .int x4), (5, .int x5)]) : W p l e R s m args below meth c H locs 0 0 Q (F0 m 196 ls []) := by
  have hx := C.1
  have hb := C.2.1
  unfold mb_inConstant_196 at hm
  refine lv_aload_n hx hb dX12_inConstant_196 rfl (lv_at hl 0 rfl) ?_
  refine mg_X12_16 C hw dX12_inConstant_197 ?_
  refine lv_aload_n hx hb dX12_inConstant_200 rfl (lv_at hl 0 rfl) ?_
  refine mg_X12_233 C hw dX12_inConstant_201 ?_
  refine lv_iconst (v := 1) hx hb dX12_inConstant_204 (by decide) ?_
  refine lv_isub hx hb dX12_inConstant_205 ?_
  obtain ⟨hi, hm⟩ := ix_elim hm
  refine mal_4 C hw hi dX12_inConstant_206 ?_
  refine lv_iconst (v := 1) hx hb dX12_inConstant_207 (by decide) ?_
  refine lv_icmp_ne (tgt := 221) hx hb dX12_inConstant_208 (by decide) (fun c_1 => ?_) (fun c_1 => ?_)
  · have hm := (if_neg c_1).symm.trans hm
    exact mw_inConstant_221 fu rc hr C hret x2 x4 x5 F G hm hw (lv_sub hl [0, 1, 2, 3] rfl)
  · have hm := (if_pos c_1).symm.trans hm
    exact mw_inConstant_211 fu rc hr C hret x2 x4 x5 F G hm hw (lv_sub hl [0, 1, 2, 3] rfl)
theorem mw_inConstant_191 (fu : Nat) (rc : RC) {dd : Nat} (hr : mH1 l v a rc dd) {res : Int32 × PF × PG} (C : mMC p R s m args c A v RX12 cX12_inConstant 6 (dd + 1 + 3) (60 * (dd + 1) + 64)) (hret : ∀ (H1 : Heap) (locs1 : List Loc) (ls1 : Array Slot) (pc : Nat), mMW s A v a res.2.1 res.2.2 H1 locs1 → narrow .boolean (.int res.1) = .int res.1 → decode cX12_inConstant pc = .ok (.ireturn, 1) → W p l e R s m args below meth c H1 locs1 0 0 Q (F0 m pc ls1 [.int res.1])) (x2 : Int32) (x4 : Int32) (x5 : Int32) (F : PF) (G : PG) (hm : mb_inConstant_191 fu rc x2 x4 x5 F G = some res) {H : Heap} {locs : List Loc} (hw : mMW s A v a F G H locs) {ls : Array Slot} (hl : lv_has ls 6 [(0, .ref (a 212)), (2, .int x2), (4, .int x4), (5, .int x5)]) : W p l e R s m args below meth c H locs 0 0 Q (F0 m 191 ls []) := by
  have hx := C.1
  have hb := C.2.1
  unfold mb_inConstant_191 at hm
  refine lv_iload hx hb dX12_inConstant_191 (lv_at hl 2 rfl) ?_
  refine lv_if_eq (tgt := 221) hx hb dX12_inConstant_193 (by decide) (fun c_1 => ?_) (fun c_1 => ?_)
  · have hm := (if_pos c_1).symm.trans hm
    exact mw_inConstant_221 fu rc hr C hret x2 x4 x5 F G hm hw (lv_sub hl [0, 1, 2, 3] rfl)
  · have hm := (if_neg c_1).symm.trans hm
    exact mw_inConstant_196 fu rc hr C hret x2 x4 x5 F G hm hw (lv_sub hl [0, 1, 2, 3] rfl)
theorem mw_inConstant_188 (fu : Nat) (rc : RC) {dd : Nat} (hr : mH1 l v a rc dd) {res : Int32 × PF × PG} (C : mMC p R s m args c A v RX12 cX12_inConstant 6 (dd + 1 + 3) (60 * (dd + 1) + 64)) (hret : ∀ (H1 : Heap) (locs1 : List Loc) (ls1 : Array Slot) (pc : Nat), mMW s A v a res.2.1 res.2.2 H1 locs1 → narrow .boolean (.int res.1) = .int res.1 → decode cX12_inConstant pc = .ok (.ireturn, 1) → W p l e R s m args below meth c H1 locs1 0 0 Q (F0 m pc ls1 [.int res.1])) (x2 : Int32) (x4 : Int32) (x5 : Int32) (z0 : Int32) (F : PF) (G : PG) (hm : mb_inConstant_188 fu rc x2 x4 x5 z0 F G = some res) {H : Heap} {locs : List Loc} (hw : mMW s A v a F G H locs) {ls : Array Slot} (hl : lv_has ls 6 [(0, .ref (a 212)), (2, .int x2), (4, .int x4), (5, .int x5)]) : W p l e R s m args below meth c H locs 0 0 Q (F0 m 188 ls [.int z0]) := by
  have hx := C.1
  have hb := C.2.1
  unfold mb_inConstant_188 at hm
  refine lv_if_eq (tgt := 221) hx hb dX12_inConstant_188 (by decide) (fun c_1 => ?_) (fun c_1 => ?_)
  · have hm := (if_pos c_1).symm.trans hm
    exact mw_inConstant_221 fu rc hr C hret x2 x4 x5 F G hm hw (lv_sub hl [0, 1, 2, 3] rfl)
  · have hm := (if_neg c_1).symm.trans hm
    exact mw_inConstant_191 fu rc hr C hret x2 x4 x5 F G hm hw (lv_sub hl [0, 1, 2, 3] rfl)
theorem mw_inConstant_182 (fu : Nat) (rc : RC) {dd : Nat} (hr : mH1 l v a rc dd) {res : Int32 × PF × PG} (C : mMC p R s m args c A v RX12 cX12_inConstant 6 (dd + 1 + 3) (60 * (dd + 1) + 64)) (hret : ∀ (H1 : Heap) (locs1 : List Loc) (ls1 : Array Slot) (pc : Nat), mMW s A v a res.2.1 res.2.2 H1 locs1 → narrow .boolean (.int res.1) = .int res.1 → decode cX12_inConstant pc = .ok (.ireturn, 1) → W p l e R s m args below meth c H1 locs1 0 0 Q (F0 m pc ls1 [.int res.1])) (x2 : Int32) (x4 : Int32) (x5 : Int32) (F : PF) (G : PG) (hm : mb_inConstant_182 fu rc x2 x4 x5 F G = some res) {H : Heap} {locs : List Loc} (hw : mMW s A v a F G H locs) {ls : Array Slot} (hl : lv_has ls 6 [(0, .ref (a 212)), (2, .int x2), (4, .int x4), (5, .int x5)]) : W p l e R s m args below meth c H locs 0 0 Q (F0 m 182 ls []) := by
  have hx := C.1
  have hb := C.2.1
  unfold mb_inConstant_182 at hm
  refine lv_aload_n hx hb dX12_inConstant_182 rfl (lv_at hl 0 rfl) ?_
  refine lv_bipush (v := 24) hx hb dX12_inConstant_183 (by decide) ?_
  obtain ⟨⟨r1, F1, G1⟩, hc, hm⟩ := bind_elim hm
  refine mcallI (n := 1) (As := [.int 24]) (rest := []) C hw (mk_isSign l v a _ fu 24 F G r1 F1 G1 hc) (mrecv_X12 C hw) mm_183 mm_184 mm_185 mm_27 mm_186 (by decide +kernel) rfl (by omega) (by omega) hl.1 rfl (Nat.le_of_ble_eq_true rfl) dX12_inConstant_185 (fun H locs hw => ?_)
  exact mw_inConstant_188 fu rc hr C hret x2 x4 x5 r1 F1 G1 hm hw (lv_sub hl [0, 1, 2, 3] rfl)
theorem mw_inConstant_180 (fu : Nat) (rc : RC) {dd : Nat} (hr : mH1 l v a rc dd) {res : Int32 × PF × PG} (C : mMC p R s m args c A v RX12 cX12_inConstant 6 (dd + 1 + 3) (60 * (dd + 1) + 64)) (hret : ∀ (H1 : Heap) (locs1 : List Loc) (ls1 : Array Slot) (pc : Nat), mMW s A v a res.2.1 res.2.2 H1 locs1 → narrow .boolean (.int res.1) = .int res.1 → decode cX12_inConstant pc = .ok (.ireturn, 1) → W p l e R s m args below meth c H1 locs1 0 0 Q (F0 m pc ls1 [.int res.1])) (F : PF) (G : PG) (hm : mb_inConstant_180 fu rc F G = some res) {H : Heap} {locs : List Loc} (hw : mMW s A v a F G H locs) {ls : Array Slot} (hl : lv_has ls 6 []) : W p l e R s m args below meth c H locs 0 0 Q (F0 m 180 ls []) := by
  have hx := C.1
  have hb := C.2.1
  unfold mb_inConstant_180 at hm
  refine lv_iconst (v := 0) hx hb dX12_inConstant_180 (by decide) ?_
  obtain rfl := Option.some.inj hm
  exact hret _ _ _ _ hw (b01_nar (v := 0) (Or.inl rfl)) dX12_inConstant_181
theorem mw_inConstant_177 (fu : Nat) (rc : RC) {dd : Nat} (hr : mH1 l v a rc dd) {res : Int32 × PF × PG} (C : mMC p R s m args c A v RX12 cX12_inConstant 6 (dd + 1 + 3) (60 * (dd + 1) + 64)) (hret : ∀ (H1 : Heap) (locs1 : List Loc) (ls1 : Array Slot) (pc : Nat), mMW s A v a res.2.1 res.2.2 H1 locs1 → narrow .boolean (.int res.1) = .int res.1 → decode cX12_inConstant pc = .ok (.ireturn, 1) → W p l e R s m args below meth c H1 locs1 0 0 Q (F0 m pc ls1 [.int res.1])) (x2 : Int32) (x4 : Int32) (x5 : Int32) (z0 : Int32) (F : PF) (G : PG) (hm : mb_inConstant_177 fu rc x2 x4 x5 z0 F G = some res) {H : Heap} {locs : List Loc} (hw : mMW s A v a F G H locs) {ls : Array Slot} (hl : lv_has ls 6 [(0, .ref (a 212)), (2, .int x2), (4, .int x4), (5, .int x5)]) : W p l e R s m args below meth c H locs 0 0 Q (F0 m 177 ls [.int z0]) := by
  have hx := C.1
  have hb := C.2.1
  unfold mb_inConstant_177 at hm
  refine lv_if_ne (tgt := 182) hx hb dX12_inConstant_177 (by decide) (fun c_1 => ?_) (fun c_1 => ?_)
  · have hm := (if_neg c_1).symm.trans hm
    exact mw_inConstant_182 fu rc hr C hret x2 x4 x5 F G hm hw (lv_sub hl [0, 1, 2, 3] rfl)
  · have hm := (if_pos c_1).symm.trans hm
    exact mw_inConstant_180 fu rc hr C hret F G hm hw (lv_sub hl [] rfl)
theorem mw_inConstant_171 (fu : Nat) (rc : RC) {dd : Nat} (hr : mH1 l v a rc dd) {res : Int32 × PF × PG} (C : mMC p R s m args c A v RX12 cX12_inConstant 6 (dd + 1 + 3) (60 * (dd + 1) + 64)) (hret : ∀ (H1 : Heap) (locs1 : List Loc) (ls1 : Array Slot) (pc : Nat), mMW s A v a res.2.1 res.2.2 H1 locs1 → narrow .boolean (.int res.1) = .int res.1 → decode cX12_inConstant pc = .ok (.ireturn, 1) → W p l e R s m args below meth c H1 locs1 0 0 Q (F0 m pc ls1 [.int res.1])) (x1 : Int32) (x2 : Int32) (x4 : Int32) (x5 : Int32) (F : PF) (G : PG) (hm : mb_inConstant_171 fu rc x1 x2 x4 x5 F G = some res) {H : Heap} {locs : List Loc} (hw : mMW s A v a F G H locs) {ls : Array Slot} (hl : lv_has ls 6 [(0, .ref (a 212)), (1, .int x1), (2, .int x2), (4, .int x4), (5, .int x5)]) : W p l e R s m args below meth c H locs 0 0 Q (F0 m 171 ls []) := by
  have hx := C.1
  have hb := C.2.1
  unfold mb_inConstant_171 at hm
  refine lv_aload_n hx hb dX12_inConstant_171 rfl (lv_at hl 0 rfl) ?_
  refine lv_iload_n hx hb dX12_inConstant_172 rfl (lv_at hl 1 rfl) ?_
  refine lv_iconst (v := 0) hx hb dX12_inConstant_173 (by decide) ?_
  obtain ⟨⟨r1, F1, G1⟩, hc, hm⟩ := bind_elim hm
  refine mcallI (n := 2) (As := [.int x1, .int 0]) (rest := []) C hw (hr.2.1 _ x1 0 F G r1 F1 G1 hc) (mrecv_X12 C hw) mm_269 mm_270 mm_271 mm_27 mm_239 (by decide +kernel) rfl (by omega) (by omega) hl.1 rfl (Nat.le_of_ble_eq_true rfl) dX12_inConstant_174 (fun H locs hw => ?_)
  exact mw_inConstant_177 fu rc hr C hret x2 x4 x5 r1 F1 G1 hm hw (lv_sub hl [0, 2, 3, 4] rfl)
theorem mw_inConstant_168 (fu : Nat) (rc : RC) {dd : Nat} (hr : mH1 l v a rc dd) {res : Int32 × PF × PG} (C : mMC p R s m args c A v RX12 cX12_inConstant 6 (dd + 1 + 3) (60 * (dd + 1) + 64)) (hret : ∀ (H1 : Heap) (locs1 : List Loc) (ls1 : Array Slot) (pc : Nat), mMW s A v a res.2.1 res.2.2 H1 locs1 → narrow .boolean (.int res.1) = .int res.1 → decode cX12_inConstant pc = .ok (.ireturn, 1) → W p l e R s m args below meth c H1 locs1 0 0 Q (F0 m pc ls1 [.int res.1])) (x1 : Int32) (x2 : Int32) (x4 : Int32) (x5 : Int32) (z0 : Int32) (F : PF) (G : PG) (hm : mb_inConstant_168 fu rc x1 x2 x4 x5 z0 F G = some res) {H : Heap} {locs : List Loc} (hw : mMW s A v a F G H locs) {ls : Array Slot} (hl : lv_has ls 6 [(0, .ref (a 212)), (1, .int x1), (2, .int x2), (4, .int x4), (5, .int x5)]) : W p l e R s m args below meth c H locs 0 0 Q (F0 m 168 ls [.int z0]) := by
  have hx := C.1
  have hb := C.2.1
  unfold mb_inConstant_168 at hm
  refine lv_if_eq (tgt := 182) hx hb dX12_inConstant_168 (by decide) (fun c_1 => ?_) (fun c_1 => ?_)
  · have hm := (if_pos c_1).symm.trans hm
    exact mw_inConstant_182 fu rc hr C hret x2 x4 x5 F G hm hw (lv_sub hl [0, 2, 3, 4] rfl)
  · have hm := (if_neg c_1).symm.trans hm
    exact mw_inConstant_171 fu rc hr C hret x1 x2 x4 x5 F G hm hw (lv_sub hl [0, 1, 2, 3, 4] rfl)
theorem mw_inConstant_162 (fu : Nat) (rc : RC) {dd : Nat} (hr : mH1 l v a rc dd) {res : Int32 × PF × PG} (C : mMC p R s m args c A v RX12 cX12_inConstant 6 (dd + 1 + 3) (60 * (dd + 1) + 64)) (hret : ∀ (H1 : Heap) (locs1 : List Loc) (ls1 : Array Slot) (pc : Nat), mMW s A v a res.2.1 res.2.2 H1 locs1 → narrow .boolean (.int res.1) = .int res.1 → decode cX12_inConstant pc = .ok (.ireturn, 1) → W p l e R s m args below meth c H1 locs1 0 0 Q (F0 m pc ls1 [.int res.1])) (x1 : Int32) (x2 : Int32) (x4 : Int32) (x5 : Int32) (F : PF) (G : PG) (hm : mb_inConstant_162 fu rc x1 x2 x4 x5 F G = some res) {H : Heap} {locs : List Loc} (hw : mMW s A v a F G H locs) {ls : Array Slot} (hl : lv_has ls 6 [(0, .ref (a 212)), (1, .int x1), (2, .int x2), (4, .int x4), (5, .int x5)]) : W p l e R s m args below meth c H locs 0 0 Q (F0 m 162 ls []) := by
  have hx := C.1
  have hb := C.2.1
  unfold mb_inConstant_162 at hm
  refine lv_aload_n hx hb dX12_inConstant_162 rfl (lv_at hl 0 rfl) ?_
  refine lv_bipush (v := 22) hx hb dX12_inConstant_163 (by decide) ?_
  obtain ⟨⟨r1, F1, G1⟩, hc, hm⟩ := bind_elim hm
  refine mcallI (n := 1) (As := [.int 22]) (rest := []) C hw (mk_isSign l v a _ fu 22 F G r1 F1 G1 hc) (mrecv_X12 C hw) mm_183 mm_184 mm_185 mm_27 mm_186 (by decide +kernel) rfl (by omega) (by omega) hl.1 rfl (Nat.le_of_ble_eq_true rfl) dX12_inConstant_165 (fun H locs hw => ?_)
  exact mw_inConstant_168 fu rc hr C hret x1 x2 x4 x5 r1 F1 G1 hm hw (lv_sub hl [0, 1, 2, 3, 4] rfl)
theorem mw_inConstant_157 (fu : Nat) (rc : RC) {dd : Nat} (hr : mH1 l v a rc dd) {res : Int32 × PF × PG} (C : mMC p R s m args c A v RX12 cX12_inConstant 6 (dd + 1 + 3) (60 * (dd + 1) + 64)) (hret : ∀ (H1 : Heap) (locs1 : List Loc) (ls1 : Array Slot) (pc : Nat), mMW s A v a res.2.1 res.2.2 H1 locs1 → narrow .boolean (.int res.1) = .int res.1 → decode cX12_inConstant pc = .ok (.ireturn, 1) → W p l e R s m args below meth c H1 locs1 0 0 Q (F0 m pc ls1 [.int res.1])) (x1 : Int32) (x2 : Int32) (x4 : Int32) (x5 : Int32) (F : PF) (G : PG) (hm : mb_inConstant_157 fu rc x1 x2 x4 x5 F G = some res) {H : Heap} {locs : List Loc} (hw : mMW s A v a F G H locs) {ls : Array Slot} (hl : lv_has ls 6 [(0, .ref (a 212)), (1, .int x1), (2, .int x2), (4, .int x4), (5, .int x5)]) : W p l e R s m args below meth c H locs 0 0 Q (F0 m 157 ls []) := by
  have hx := C.1
  have hb := C.2.1
  unfold mb_inConstant_157 at hm
  refine lv_aload_n hx hb dX12_inConstant_157 rfl (lv_at hl 0 rfl) ?_
  refine lv_iconst (v := 1) hx hb dX12_inConstant_158 (by decide) ?_
  refine mp_X12_345 C hw (by decide) dX12_inConstant_159 (fun H locs hw => ?_)
  exact mw_inConstant_162 fu rc hr C hret x1 x2 x4 x5 (fup F 55 (1 : Int32)) G hm hw (lv_sub hl [0, 1, 2, 3, 4] rfl)
theorem mw_inConstant_147 (fu : Nat) (rc : RC) {dd : Nat} (hr : mH1 l v a rc dd) {res : Int32 × PF × PG} (C : mMC p R s m args c A v RX12 cX12_inConstant 6 (dd + 1 + 3) (60 * (dd + 1) + 64)) (hret : ∀ (H1 : Heap) (locs1 : List Loc) (ls1 : Array Slot) (pc : Nat), mMW s A v a res.2.1 res.2.2 H1 locs1 → narrow .boolean (.int res.1) = .int res.1 → decode cX12_inConstant pc = .ok (.ireturn, 1) → W p l e R s m args below meth c H1 locs1 0 0 Q (F0 m pc ls1 [.int res.1])) (x1 : Int32) (x2 : Int32) (x4 : Int32) (x5 : Int32) (F : PF) (G : PG) (hm : mb_inConstant_147 fu rc x1 x2 x4 x5 F G = some res) {H : Heap} {locs : List Loc} (hw : mMW s A v a F G H locs) {ls : Array Slot} (hl : lv_has ls 6 [(0, .ref (a 212)), (1, .int x1), (2, .int x2), (4, .int x4), (5, .int x5)]) : W p l e R s m args below meth c H locs 0 0 Q (F0 m 147 ls []) := by
  have hx := C.1
  have hb := C.2.1
  unfold mb_inConstant_147 at hm
  refine lv_aload_n hx hb dX12_inConstant_147 rfl (lv_at hl 0 rfl) ?_
  refine mg_X12_52 C hw dX12_inConstant_148 ?_
  refine lv_iload_n hx hb dX12_inConstant_151 rfl (lv_at hl 2 rfl) ?_
  obtain ⟨hi, hm⟩ := ix_elim hm
  refine mal_21 C hw hi dX12_inConstant_152 ?_
  refine lv_iconst (v := (-1)) hx hb dX12_inConstant_153 (by decide) ?_
  refine lv_icmp_ne (tgt := 162) hx hb dX12_inConstant_154 (by decide) (fun c_1 => ?_) (fun c_1 => ?_)
  · have hm := (if_neg c_1).symm.trans hm
    exact mw_inConstant_162 fu rc hr C hret x1 x2 x4 x5 F G hm hw (lv_sub hl [0, 1, 2, 3, 4] rfl)
  · have hm := (if_pos c_1).symm.trans hm
    exact mw_inConstant_157 fu rc hr C hret x1 x2 x4 x5 F G hm hw (lv_sub hl [0, 1, 2, 3, 4] rfl)
theorem mw_inConstant_142 (fu : Nat) (rc : RC) {dd : Nat} (hr : mH1 l v a rc dd) {res : Int32 × PF × PG} (C : mMC p R s m args c A v RX12 cX12_inConstant 6 (dd + 1 + 3) (60 * (dd + 1) + 64)) (hret : ∀ (H1 : Heap) (locs1 : List Loc) (ls1 : Array Slot) (pc : Nat), mMW s A v a res.2.1 res.2.2 H1 locs1 → narrow .boolean (.int res.1) = .int res.1 → decode cX12_inConstant pc = .ok (.ireturn, 1) → W p l e R s m args below meth c H1 locs1 0 0 Q (F0 m pc ls1 [.int res.1])) (x1 : Int32) (x2 : Int32) (x4 : Int32) (x5 : Int32) (F : PF) (G : PG) (hm : mb_inConstant_142 fu rc x1 x2 x4 x5 F G = some res) {H : Heap} {locs : List Loc} (hw : mMW s A v a F G H locs) {ls : Array Slot} (hl : lv_has ls 6 [(0, .ref (a 212)), (1, .int x1), (2, .int x2), (4, .int x4), (5, .int x5)]) : W p l e R s m args below meth c H locs 0 0 Q (F0 m 142 ls []) := by
  have hx := C.1
  have hb := C.2.1
  unfold mb_inConstant_142 at hm
  refine lv_iload hx hb dX12_inConstant_142 (lv_at hl 3 rfl) ?_
  refine lv_if_ne (tgt := 157) hx hb dX12_inConstant_144 (by decide) (fun c_1 => ?_) (fun c_1 => ?_)
  · have hm := (if_neg c_1).symm.trans hm
    exact mw_inConstant_157 fu rc hr C hret x1 x2 x4 x5 F G hm hw (lv_sub hl [0, 1, 2, 3, 4] rfl)
  · have hm := (if_pos c_1).symm.trans hm
    exact mw_inConstant_147 fu rc hr C hret x1 x2 x4 x5 F G hm hw (lv_sub hl [0, 1, 2, 3, 4] rfl)
theorem mw_inConstant_137 (fu : Nat) (rc : RC) {dd : Nat} (hr : mH1 l v a rc dd) {res : Int32 × PF × PG} (C : mMC p R s m args c A v RX12 cX12_inConstant 6 (dd + 1 + 3) (60 * (dd + 1) + 64)) (hret : ∀ (H1 : Heap) (locs1 : List Loc) (ls1 : Array Slot) (pc : Nat), mMW s A v a res.2.1 res.2.2 H1 locs1 → narrow .boolean (.int res.1) = .int res.1 → decode cX12_inConstant pc = .ok (.ireturn, 1) → W p l e R s m args below meth c H1 locs1 0 0 Q (F0 m pc ls1 [.int res.1])) (x1 : Int32) (x2 : Int32) (x4 : Int32) (x5 : Int32) (F : PF) (G : PG) (hm : mb_inConstant_137 fu rc x1 x2 x4 x5 F G = some res) {H : Heap} {locs : List Loc} (hw : mMW s A v a F G H locs) {ls : Array Slot} (hl : lv_has ls 6 [(0, .ref (a 212)), (1, .int x1), (2, .int x2), (4, .int x4), (5, .int x5)]) : W p l e R s m args below meth c H locs 0 0 Q (F0 m 137 ls []) := by
  have hx := C.1
  have hb := C.2.1
  unfold mb_inConstant_137 at hm
  refine lv_iload hx hb dX12_inConstant_137 (lv_at hl 4 rfl) ?_
  refine lv_if_eq (tgt := 157) hx hb dX12_inConstant_139 (by decide) (fun c_1 => ?_) (fun c_1 => ?_)
  · have hm := (if_pos c_1).symm.trans hm
    exact mw_inConstant_157 fu rc hr C hret x1 x2 x4 x5 F G hm hw (lv_sub hl [0, 1, 2, 3, 4] rfl)
  · have hm := (if_neg c_1).symm.trans hm
    exact mw_inConstant_142 fu rc hr C hret x1 x2 x4 x5 F G hm hw (lv_sub hl [0, 1, 2, 3, 4] rfl)
theorem mw_inConstant_125 (fu : Nat) (rc : RC) {dd : Nat} (hr : mH1 l v a rc dd) {res : Int32 × PF × PG} (C : mMC p R s m args c A v RX12 cX12_inConstant 6 (dd + 1 + 3) (60 * (dd + 1) + 64)) (hret : ∀ (H1 : Heap) (locs1 : List Loc) (ls1 : Array Slot) (pc : Nat), mMW s A v a res.2.1 res.2.2 H1 locs1 → narrow .boolean (.int res.1) = .int res.1 → decode cX12_inConstant pc = .ok (.ireturn, 1) → W p l e R s m args below meth c H1 locs1 0 0 Q (F0 m pc ls1 [.int res.1])) (x1 : Int32) (x2 : Int32) (x4 : Int32) (x5 : Int32) (F : PF) (G : PG) (hm : mb_inConstant_125 fu rc x1 x2 x4 x5 F G = some res) {H : Heap} {locs : List Loc} (hw : mMW s A v a F G H locs) {ls : Array Slot} (hl : lv_has ls 6 [(0, .ref (a 212)), (1, .int x1), (2, .int x2), (4, .int x4), (5, .int x5)]) : W p l e R s m args below meth c H locs 0 0 Q (F0 m 125 ls []) := by
  have hx := C.1
  have hb := C.2.1
  unfold mb_inConstant_125 at hm
  refine lv_aload_n hx hb dX12_inConstant_125 rfl (lv_at hl 0 rfl) ?_
  refine lv_bipush (v := 10) hx hb dX12_inConstant_126 (by decide) ?_
  refine lv_aload_n hx hb dX12_inConstant_128 rfl (lv_at hl 0 rfl) ?_
  refine mg_X12_22 C hw dX12_inConstant_129 ?_
  refine lv_iload_n hx hb dX12_inConstant_132 rfl (lv_at hl 1 rfl) ?_
  obtain ⟨hi, hm⟩ := ix_elim hm
  refine mal_6 C hw hi dX12_inConstant_133 ?_
  obtain ⟨⟨r1, F1, G1⟩, hc, hm⟩ := bind_elim hm
  refine mcallV (n := 2) (As := [.int 10, .int (G 6 x1.toNatClampNeg)]) (rest := []) C hw (mk_note l v a _ fu 10 (G 6 x1.toNatClampNeg) F G r1 F1 G1 hc) (mrecv_X12 C hw) mm_220 mm_221 mm_222 mm_27 mm_223 (by decide +kernel) rfl (by omega) (by omega) hl.1 rfl (Nat.le_of_ble_eq_true rfl) dX12_inConstant_134 (fun H locs hw => ?_)
  exact mw_inConstant_137 fu rc hr C hret x1 x2 x4 x5 F1 G1 hm hw (lv_sub hl [0, 1, 2, 3, 4] rfl)
theorem mw_inConstant_120 (fu : Nat) (rc : RC) {dd : Nat} (hr : mH1 l v a rc dd) {res : Int32 × PF × PG} (C : mMC p R s m args c A v RX12 cX12_inConstant 6 (dd + 1 + 3) (60 * (dd + 1) + 64)) (hret : ∀ (H1 : Heap) (locs1 : List Loc) (ls1 : Array Slot) (pc : Nat), mMW s A v a res.2.1 res.2.2 H1 locs1 → narrow .boolean (.int res.1) = .int res.1 → decode cX12_inConstant pc = .ok (.ireturn, 1) → W p l e R s m args below meth c H1 locs1 0 0 Q (F0 m pc ls1 [.int res.1])) (x1 : Int32) (x2 : Int32) (x4 : Int32) (x5 : Int32) (F : PF) (G : PG) (hm : mb_inConstant_120 fu rc x1 x2 x4 x5 F G = some res) {H : Heap} {locs : List Loc} (hw : mMW s A v a F G H locs) {ls : Array Slot} (hl : lv_has ls 6 [(0, .ref (a 212)), (1, .int x1), (2, .int x2), (4, .int x4), (5, .int x5)]) : W p l e R s m args below meth c H locs 0 0 Q (F0 m 120 ls []) := by
  have hx := C.1
  have hb := C.2.1
  unfold mb_inConstant_120 at hm
  refine lv_iload hx hb dX12_inConstant_120 (lv_at hl 3 rfl) ?_
  refine lv_if_eq (tgt := 137) hx hb dX12_inConstant_122 (by decide) (fun c_1 => ?_) (fun c_1 => ?_)
  · have hm := (if_pos c_1).symm.trans hm
    exact mw_inConstant_137 fu rc hr C hret x1 x2 x4 x5 F G hm hw (lv_sub hl [0, 1, 2, 3, 4] rfl)
  · have hm := (if_neg c_1).symm.trans hm
    exact mw_inConstant_125 fu rc hr C hret x1 x2 x4 x5 F G hm hw (lv_sub hl [0, 1, 2, 3, 4] rfl)
theorem mw_inConstant_115 (fu : Nat) (rc : RC) {dd : Nat} (hr : mH1 l v a rc dd) {res : Int32 × PF × PG} (C : mMC p R s m args c A v RX12 cX12_inConstant 6 (dd + 1 + 3) (60 * (dd + 1) + 64)) (hret : ∀ (H1 : Heap) (locs1 : List Loc) (ls1 : Array Slot) (pc : Nat), mMW s A v a res.2.1 res.2.2 H1 locs1 → narrow .boolean (.int res.1) = .int res.1 → decode cX12_inConstant pc = .ok (.ireturn, 1) → W p l e R s m args below meth c H1 locs1 0 0 Q (F0 m pc ls1 [.int res.1])) (x1 : Int32) (x2 : Int32) (x4 : Int32) (x5 : Int32) (F : PF) (G : PG) (hm : mb_inConstant_115 fu rc x1 x2 x4 x5 F G = some res) {H : Heap} {locs : List Loc} (hw : mMW s A v a F G H locs) {ls : Array Slot} (hl : lv_has ls 6 [(0, .ref (a 212)), (1, .int x1), (2, .int x2), (4, .int x4), (5, .int x5)]) : W p l e R s m args below meth c H locs 0 0 Q (F0 m 115 ls []) := by
  have hx := C.1
  have hb := C.2.1
  unfold mb_inConstant_115 at hm
  refine lv_iload hx hb dX12_inConstant_115 (lv_at hl 4 rfl) ?_
  refine lv_if_eq (tgt := 125) hx hb dX12_inConstant_117 (by decide) (fun c_1 => ?_) (fun c_1 => ?_)
  · have hm := (if_pos c_1).symm.trans hm
    exact mw_inConstant_125 fu rc hr C hret x1 x2 x4 x5 F G hm hw (lv_sub hl [0, 1, 2, 3, 4] rfl)
  · have hm := (if_neg c_1).symm.trans hm
    exact mw_inConstant_120 fu rc hr C hret x1 x2 x4 x5 F G hm hw (lv_sub hl [0, 1, 2, 3, 4] rfl)
theorem mw_inConstant_111 (fu : Nat) (rc : RC) {dd : Nat} (hr : mH1 l v a rc dd) {res : Int32 × PF × PG} (C : mMC p R s m args c A v RX12 cX12_inConstant 6 (dd + 1 + 3) (60 * (dd + 1) + 64)) (hret : ∀ (H1 : Heap) (locs1 : List Loc) (ls1 : Array Slot) (pc : Nat), mMW s A v a res.2.1 res.2.2 H1 locs1 → narrow .boolean (.int res.1) = .int res.1 → decode cX12_inConstant pc = .ok (.ireturn, 1) → W p l e R s m args below meth c H1 locs1 0 0 Q (F0 m pc ls1 [.int res.1])) (x1 : Int32) (x2 : Int32) (x3 : Int32) (x4 : Int32) (x5 : Int32) (F : PF) (G : PG) (hm : mb_inConstant_111 fu rc x1 x2 x3 x4 x5 F G = some res) {H : Heap} {locs : List Loc} (hw : mMW s A v a F G H locs) {ls : Array Slot} (hl : lv_has ls 6 [(0, .ref (a 212)), (1, .int x1), (2, .int x2), (3, .int x3), (4, .int x4), (5, .int x5)]) : W p l e R s m args below meth c H locs 0 0 Q (F0 m 111 ls []) := by
  have hx := C.1
  have hb := C.2.1
  unfold mb_inConstant_111 at hm
  refine lv_iload_n hx hb dX12_inConstant_111 rfl (lv_at hl 3 rfl) ?_
  refine lv_if_ne (tgt := 137) hx hb dX12_inConstant_112 (by decide) (fun c_1 => ?_) (fun c_1 => ?_)
  · have hm := (if_neg c_1).symm.trans hm
    exact mw_inConstant_137 fu rc hr C hret x1 x2 x4 x5 F G hm hw (lv_sub hl [0, 1, 2, 4, 5] rfl)
  · have hm := (if_pos c_1).symm.trans hm
    exact mw_inConstant_115 fu rc hr C hret x1 x2 x4 x5 F G hm hw (lv_sub hl [0, 1, 2, 4, 5] rfl)
theorem mw_inConstant_104 (fu : Nat) (rc : RC) {dd : Nat} (hr : mH1 l v a rc dd) {res : Int32 × PF × PG} (C : mMC p R s m args c A v RX12 cX12_inConstant 6 (dd + 1 + 3) (60 * (dd + 1) + 64)) (hret : ∀ (H1 : Heap) (locs1 : List Loc) (ls1 : Array Slot) (pc : Nat), mMW s A v a res.2.1 res.2.2 H1 locs1 → narrow .boolean (.int res.1) = .int res.1 → decode cX12_inConstant pc = .ok (.ireturn, 1) → W p l e R s m args below meth c H1 locs1 0 0 Q (F0 m pc ls1 [.int res.1])) (x1 : Int32) (x2 : Int32) (x3 : Int32) (x4 : Int32) (x5 : Int32) (F : PF) (G : PG) (hm : mb_inConstant_104 fu rc x1 x2 x3 x4 x5 F G = some res) {H : Heap} {locs : List Loc} (hw : mMW s A v a F G H locs) {ls : Array Slot} (hl : lv_has ls 6 [(0, .ref (a 212)), (1, .int x1), (2, .int x2), (3, .int x3), (4, .int x4), (5, .int x5)]) : W p l e R s m args below meth c H locs 0 0 Q (F0 m 104 ls []) := by
  have hx := C.1
  have hb := C.2.1
  unfold mb_inConstant_104 at hm
  refine lv_aload_n hx hb dX12_inConstant_104 rfl (lv_at hl 0 rfl) ?_
  refine mg_X12_245 C hw dX12_inConstant_105 ?_
  refine lv_if_le (tgt := 137) hx hb dX12_inConstant_108 (by decide) (fun c_1 => ?_) (fun c_1 => ?_)
  · have hm := (if_pos c_1).symm.trans hm
    exact mw_inConstant_137 fu rc hr C hret x1 x2 x4 x5 F G hm hw (lv_sub hl [0, 1, 2, 4, 5] rfl)
  · have hm := (if_neg c_1).symm.trans hm
    exact mw_inConstant_111 fu rc hr C hret x1 x2 x3 x4 x5 F G hm hw (lv_sub hl [0, 1, 2, 3, 4, 5] rfl)
theorem mw_inConstant_93 (fu : Nat) (rc : RC) {dd : Nat} (hr : mH1 l v a rc dd) {res : Int32 × PF × PG} (C : mMC p R s m args c A v RX12 cX12_inConstant 6 (dd + 1 + 3) (60 * (dd + 1) + 64)) (hret : ∀ (H1 : Heap) (locs1 : List Loc) (ls1 : Array Slot) (pc : Nat), mMW s A v a res.2.1 res.2.2 H1 locs1 → narrow .boolean (.int res.1) = .int res.1 → decode cX12_inConstant pc = .ok (.ireturn, 1) → W p l e R s m args below meth c H1 locs1 0 0 Q (F0 m pc ls1 [.int res.1])) (x1 : Int32) (x2 : Int32) (x3 : Int32) (x4 : Int32) (x5 : Int32) (F : PF) (G : PG) (hm : mb_inConstant_93 fu rc x1 x2 x3 x4 x5 F G = some res) {H : Heap} {locs : List Loc} (hw : mMW s A v a F G H locs) {ls : Array Slot} (hl : lv_has ls 6 [(0, .ref (a 212)), (1, .int x1), (2, .int x2), (3, .int x3), (4, .int x4), (5, .int x5)]) : W p l e R s m args below meth c H locs 0 0 Q (F0 m 93 ls []) := by
  have hx := C.1
  have hb := C.2.1
  unfold mb_inConstant_93 at hm
  refine lv_aload_n hx hb dX12_inConstant_93 rfl (lv_at hl 0 rfl) ?_
  refine lv_iconst (v := 4) hx hb dX12_inConstant_94 (by decide) ?_
  refine lv_aload_n hx hb dX12_inConstant_95 rfl (lv_at hl 0 rfl) ?_
  refine mg_X12_22 C hw dX12_inConstant_96 ?_
  refine lv_iload_n hx hb dX12_inConstant_99 rfl (lv_at hl 1 rfl) ?_
  obtain ⟨hi, hm⟩ := ix_elim hm
  refine mal_6 C hw hi dX12_inConstant_100 ?_
  obtain ⟨⟨r1, F1, G1⟩, hc, hm⟩ := bind_elim hm
  refine mcallV (n := 2) (As := [.int 4, .int (G 6 x1.toNatClampNeg)]) (rest := []) C hw (mk_note l v a _ fu 4 (G 6 x1.toNatClampNeg) F G r1 F1 G1 hc) (mrecv_X12 C hw) mm_220 mm_221 mm_222 mm_27 mm_223 (by decide +kernel) rfl (by omega) (by omega) hl.1 rfl (Nat.le_of_ble_eq_true rfl) dX12_inConstant_101 (fun H locs hw => ?_)
  exact mw_inConstant_104 fu rc hr C hret x1 x2 x3 x4 x5 F1 G1 hm hw (lv_sub hl [0, 1, 2, 3, 4, 5] rfl)
theorem mw_inConstant_89 (fu : Nat) (rc : RC) {dd : Nat} (hr : mH1 l v a rc dd) {res : Int32 × PF × PG} (C : mMC p R s m args c A v RX12 cX12_inConstant 6 (dd + 1 + 3) (60 * (dd + 1) + 64)) (hret : ∀ (H1 : Heap) (locs1 : List Loc) (ls1 : Array Slot) (pc : Nat), mMW s A v a res.2.1 res.2.2 H1 locs1 → narrow .boolean (.int res.1) = .int res.1 → decode cX12_inConstant pc = .ok (.ireturn, 1) → W p l e R s m args below meth c H1 locs1 0 0 Q (F0 m pc ls1 [.int res.1])) (x1 : Int32) (x2 : Int32) (x3 : Int32) (x4 : Int32) (x5 : Int32) (F : PF) (G : PG) (hm : mb_inConstant_89 fu rc x1 x2 x3 x4 x5 F G = some res) {H : Heap} {locs : List Loc} (hw : mMW s A v a F G H locs) {ls : Array Slot} (hl : lv_has ls 6 [(0, .ref (a 212)), (1, .int x1), (2, .int x2), (3, .int x3), (4, .int x4), (5, .int x5)]) : W p l e R s m args below meth c H locs 0 0 Q (F0 m 89 ls []) := by
  have hx := C.1
  have hb := C.2.1
  unfold mb_inConstant_89 at hm
  refine lv_iload_n hx hb dX12_inConstant_89 rfl (lv_at hl 3 rfl) ?_
  refine lv_if_eq (tgt := 104) hx hb dX12_inConstant_90 (by decide) (fun c_1 => ?_) (fun c_1 => ?_)
  · have hm := (if_pos c_1).symm.trans hm
    exact mw_inConstant_104 fu rc hr C hret x1 x2 x3 x4 x5 F G hm hw (lv_sub hl [0, 1, 2, 3, 4, 5] rfl)
  · have hm := (if_neg c_1).symm.trans hm
    exact mw_inConstant_93 fu rc hr C hret x1 x2 x3 x4 x5 F G hm hw (lv_sub hl [0, 1, 2, 3, 4, 5] rfl)
theorem mw_inConstant_80 (fu : Nat) (rc : RC) {dd : Nat} (hr : mH1 l v a rc dd) {res : Int32 × PF × PG} (C : mMC p R s m args c A v RX12 cX12_inConstant 6 (dd + 1 + 3) (60 * (dd + 1) + 64)) (hret : ∀ (H1 : Heap) (locs1 : List Loc) (ls1 : Array Slot) (pc : Nat), mMW s A v a res.2.1 res.2.2 H1 locs1 → narrow .boolean (.int res.1) = .int res.1 → decode cX12_inConstant pc = .ok (.ireturn, 1) → W p l e R s m args below meth c H1 locs1 0 0 Q (F0 m pc ls1 [.int res.1])) (x1 : Int32) (x2 : Int32) (x3 : Int32) (x4 : Int32) (z0 : Int32) (F : PF) (G : PG) (hm : mb_inConstant_80 fu rc x1 x2 x3 x4 z0 F G = some res) {H : Heap} {locs : List Loc} (hw : mMW s A v a F G H locs) {ls : Array Slot} (hl : lv_has ls 6 [(0, .ref (a 212)), (1, .int x1), (2, .int x2), (3, .int x3), (4, .int x4)]) : W p l e R s m args below meth c H locs 0 0 Q (F0 m 80 ls [.int z0]) := by
  have hx := C.1
  have hb := C.2.1
  unfold mb_inConstant_80 at hm
  refine lv_istore (lv' := [(5, .int z0), (0, .ref (a 212)), (1, .int x1), (2, .int x2), (3, .int x3), (4, .int x4)]) hx hb dX12_inConstant_80 hl (by decide) rfl (fun ls hl => ?_)
  refine lv_aload_n hx hb dX12_inConstant_82 rfl (lv_at hl 1 rfl) ?_
  refine mg_X12_245 C hw dX12_inConstant_83 ?_
  refine lv_if_le (tgt := 104) hx hb dX12_inConstant_86 (by decide) (fun c_1 => ?_) (fun c_1 => ?_)
  · have hm := (if_pos c_1).symm.trans hm
    exact mw_inConstant_104 fu rc hr C hret x1 x2 x3 x4 z0 F G hm hw (lv_sub hl [1, 2, 3, 4, 5, 0] rfl)
  · have hm := (if_neg c_1).symm.trans hm
    exact mw_inConstant_89 fu rc hr C hret x1 x2 x3 x4 z0 F G hm hw (lv_sub hl [1, 2, 3, 4, 5, 0] rfl)
theorem mw_inConstant_79 (fu : Nat) (rc : RC) {dd : Nat} (hr : mH1 l v a rc dd) {res : Int32 × PF × PG} (C : mMC p R s m args c A v RX12 cX12_inConstant 6 (dd + 1 + 3) (60 * (dd + 1) + 64)) (hret : ∀ (H1 : Heap) (locs1 : List Loc) (ls1 : Array Slot) (pc : Nat), mMW s A v a res.2.1 res.2.2 H1 locs1 → narrow .boolean (.int res.1) = .int res.1 → decode cX12_inConstant pc = .ok (.ireturn, 1) → W p l e R s m args below meth c H1 locs1 0 0 Q (F0 m pc ls1 [.int res.1])) (x1 : Int32) (x2 : Int32) (x3 : Int32) (x4 : Int32) (F : PF) (G : PG) (hm : mb_inConstant_79 fu rc x1 x2 x3 x4 F G = some res) {H : Heap} {locs : List Loc} (hw : mMW s A v a F G H locs) {ls : Array Slot} (hl : lv_has ls 6 [(0, .ref (a 212)), (1, .int x1), (2, .int x2), (3, .int x3), (4, .int x4)]) : W p l e R s m args below meth c H locs 0 0 Q (F0 m 79 ls []) := by
  have hx := C.1
  have hb := C.2.1
  unfold mb_inConstant_79 at hm
  refine lv_iconst (v := 0) hx hb dX12_inConstant_79 (by decide) ?_
  exact mw_inConstant_80 fu rc hr C hret x1 x2 x3 x4 0 F G hm hw (lv_sub hl [0, 1, 2, 3, 4] rfl)
theorem mw_inConstant_75 (fu : Nat) (rc : RC) {dd : Nat} (hr : mH1 l v a rc dd) {res : Int32 × PF × PG} (C : mMC p R s m args c A v RX12 cX12_inConstant 6 (dd + 1 + 3) (60 * (dd + 1) + 64)) (hret : ∀ (H1 : Heap) (locs1 : List Loc) (ls1 : Array Slot) (pc : Nat), mMW s A v a res.2.1 res.2.2 H1 locs1 → narrow .boolean (.int res.1) = .int res.1 → decode cX12_inConstant pc = .ok (.ireturn, 1) → W p l e R s m args below meth c H1 locs1 0 0 Q (F0 m pc ls1 [.int res.1])) (x1 : Int32) (x2 : Int32) (x3 : Int32) (x4 : Int32) (F : PF) (G : PG) (hm : mb_inConstant_75 fu rc x1 x2 x3 x4 F G = some res) {H : Heap} {locs : List Loc} (hw : mMW s A v a F G H locs) {ls : Array Slot} (hl : lv_has ls 6 [(0, .ref (a 212)), (1, .int x1), (2, .int x2), (3, .int x3), (4, .int x4)]) : W p l e R s m args below meth c H locs 0 0 Q (F0 m 75 ls []) := by
  have hx := C.1
  have hb := C.2.1
  unfold mb_inConstant_75 at hm
  refine lv_iconst (v := 1) hx hb dX12_inConstant_75 (by decide) ?_
  refine lv_goto (tgt := 80) hx hb dX12_inConstant_76 (by decide) ?_
  exact mw_inConstant_80 fu rc hr C hret x1 x2 x3 x4 1 F G hm hw (lv_sub hl [0, 1, 2, 3, 4] rfl)
theorem mw_inConstant_66 (fu : Nat) (rc : RC) {dd : Nat} (hr : mH1 l v a rc dd) {res : Int32 × PF × PG} (C : mMC p R s m args c A v RX12 cX12_inConstant 6 (dd + 1 + 3) (60 * (dd + 1) + 64)) (hret : ∀ (H1 : Heap) (locs1 : List Loc) (ls1 : Array Slot) (pc : Nat), mMW s A v a res.2.1 res.2.2 H1 locs1 → narrow .boolean (.int res.1) = .int res.1 → decode cX12_inConstant pc = .ok (.ireturn, 1) → W p l e R s m args below meth c H1 locs1 0 0 Q (F0 m pc ls1 [.int res.1])) (x1 : Int32) (x2 : Int32) (x3 : Int32) (x4 : Int32) (F : PF) (G : PG) (hm : mb_inConstant_66 fu rc x1 x2 x3 x4 F G = some res) {H : Heap} {locs : List Loc} (hw : mMW s A v a F G H locs) {ls : Array Slot} (hl : lv_has ls 6 [(0, .ref (a 212)), (1, .int x1), (2, .int x2), (3, .int x3), (4, .int x4)]) : W p l e R s m args below meth c H locs 0 0 Q (F0 m 66 ls []) := by
  have hx := C.1
  have hb := C.2.1
  unfold mb_inConstant_66 at hm
  refine lv_aload_n hx hb dX12_inConstant_66 rfl (lv_at hl 0 rfl) ?_
  refine mg_X12_40 C hw dX12_inConstant_67 ?_
  refine lv_iload_n hx hb dX12_inConstant_70 rfl (lv_at hl 2 rfl) ?_
  obtain ⟨hi, hm⟩ := ix_elim hm
  refine mal_17 C hw hi dX12_inConstant_71 ?_
  refine lv_if_ne (tgt := 79) hx hb dX12_inConstant_72 (by decide) (fun c_1 => ?_) (fun c_1 => ?_)
  · have hm := (if_neg c_1).symm.trans hm
    exact mw_inConstant_79 fu rc hr C hret x1 x2 x3 x4 F G hm hw (lv_sub hl [0, 1, 2, 3, 4] rfl)
  · have hm := (if_pos c_1).symm.trans hm
    exact mw_inConstant_75 fu rc hr C hret x1 x2 x3 x4 F G hm hw (lv_sub hl [0, 1, 2, 3, 4] rfl)
theorem mw_inConstant_59 (fu : Nat) (rc : RC) {dd : Nat} (hr : mH1 l v a rc dd) {res : Int32 × PF × PG} (C : mMC p R s m args c A v RX12 cX12_inConstant 6 (dd + 1 + 3) (60 * (dd + 1) + 64)) (hret : ∀ (H1 : Heap) (locs1 : List Loc) (ls1 : Array Slot) (pc : Nat), mMW s A v a res.2.1 res.2.2 H1 locs1 → narrow .boolean (.int res.1) = .int res.1 → decode cX12_inConstant pc = .ok (.ireturn, 1) → W p l e R s m args below meth c H1 locs1 0 0 Q (F0 m pc ls1 [.int res.1])) (x1 : Int32) (x2 : Int32) (x3 : Int32) (z0 : Int32) (F : PF) (G : PG) (hm : mb_inConstant_59 fu rc x1 x2 x3 z0 F G = some res) {H : Heap} {locs : List Loc} (hw : mMW s A v a F G H locs) {ls : Array Slot} (hl : lv_has ls 6 [(0, .ref (a 212)), (1, .int x1), (2, .int x2), (3, .int x3)]) : W p l e R s m args below meth c H locs 0 0 Q (F0 m 59 ls [.int z0]) := by
  have hx := C.1
  have hb := C.2.1
  unfold mb_inConstant_59 at hm
  refine lv_istore (lv' := [(4, .int z0), (0, .ref (a 212)), (1, .int x1), (2, .int x2), (3, .int x3)]) hx hb dX12_inConstant_59 hl (by decide) rfl (fun ls hl => ?_)
  refine lv_iload_n hx hb dX12_inConstant_61 rfl (lv_at hl 3 rfl) ?_
  refine lv_iconst (v := (-1)) hx hb dX12_inConstant_62 (by decide) ?_
  refine lv_icmp_eq (tgt := 79) hx hb dX12_inConstant_63 (by decide) (fun c_1 => ?_) (fun c_1 => ?_)
  · have hm := (if_pos c_1).symm.trans hm
    exact mw_inConstant_79 fu rc hr C hret x1 x2 x3 z0 F G hm hw (lv_sub hl [1, 2, 3, 4, 0] rfl)
  · have hm := (if_neg c_1).symm.trans hm
    exact mw_inConstant_66 fu rc hr C hret x1 x2 x3 z0 F G hm hw (lv_sub hl [1, 2, 3, 4, 0] rfl)
theorem mw_inConstant_54 (fu : Nat) (rc : RC) {dd : Nat} (hr : mH1 l v a rc dd) {res : Int32 × PF × PG} (C : mMC p R s m args c A v RX12 cX12_inConstant 6 (dd + 1 + 3) (60 * (dd + 1) + 64)) (hret : ∀ (H1 : Heap) (locs1 : List Loc) (ls1 : Array Slot) (pc : Nat), mMW s A v a res.2.1 res.2.2 H1 locs1 → narrow .boolean (.int res.1) = .int res.1 → decode cX12_inConstant pc = .ok (.ireturn, 1) → W p l e R s m args below meth c H1 locs1 0 0 Q (F0 m pc ls1 [.int res.1])) (x1 : Int32) (x2 : Int32) (x3 : Int32) (F : PF) (G : PG) (hm : mb_inConstant_54 fu rc x1 x2 x3 F G = some res) {H : Heap} {locs : List Loc} (hw : mMW s A v a F G H locs) {ls : Array Slot} (hl : lv_has ls 6 [(0, .ref (a 212)), (1, .int x1), (2, .int x2), (3, .int x3)]) : W p l e R s m args below meth c H locs 0 0 Q (F0 m 54 ls []) := by
  have hx := C.1
  have hb := C.2.1
  unfold mb_inConstant_54 at hm
  refine lv_iconst (v := 1) hx hb dX12_inConstant_54 (by decide) ?_
  refine lv_goto (tgt := 59) hx hb dX12_inConstant_55 (by decide) ?_
  exact mw_inConstant_59 fu rc hr C hret x1 x2 x3 1 F G hm hw (lv_sub hl [0, 1, 2, 3] rfl)
theorem mw_inConstant_58 (fu : Nat) (rc : RC) {dd : Nat} (hr : mH1 l v a rc dd) {res : Int32 × PF × PG} (C : mMC p R s m args c A v RX12 cX12_inConstant 6 (dd + 1 + 3) (60 * (dd + 1) + 64)) (hret : ∀ (H1 : Heap) (locs1 : List Loc) (ls1 : Array Slot) (pc : Nat), mMW s A v a res.2.1 res.2.2 H1 locs1 → narrow .boolean (.int res.1) = .int res.1 → decode cX12_inConstant pc = .ok (.ireturn, 1) → W p l e R s m args below meth c H1 locs1 0 0 Q (F0 m pc ls1 [.int res.1])) (x1 : Int32) (x2 : Int32) (x3 : Int32) (F : PF) (G : PG) (hm : mb_inConstant_58 fu rc x1 x2 x3 F G = some res) {H : Heap} {locs : List Loc} (hw : mMW s A v a F G H locs) {ls : Array Slot} (hl : lv_has ls 6 [(0, .ref (a 212)), (1, .int x1), (2, .int x2), (3, .int x3)]) : W p l e R s m args below meth c H locs 0 0 Q (F0 m 58 ls []) := by
  have hx := C.1
  have hb := C.2.1
  unfold mb_inConstant_58 at hm
  refine lv_iconst (v := 0) hx hb dX12_inConstant_58 (by decide) ?_
  exact mw_inConstant_59 fu rc hr C hret x1 x2 x3 0 F G hm hw (lv_sub hl [0, 1, 2, 3] rfl)
theorem mw_inConstant_51 (fu : Nat) (rc : RC) {dd : Nat} (hr : mH1 l v a rc dd) {res : Int32 × PF × PG} (C : mMC p R s m args c A v RX12 cX12_inConstant 6 (dd + 1 + 3) (60 * (dd + 1) + 64)) (hret : ∀ (H1 : Heap) (locs1 : List Loc) (ls1 : Array Slot) (pc : Nat), mMW s A v a res.2.1 res.2.2 H1 locs1 → narrow .boolean (.int res.1) = .int res.1 → decode cX12_inConstant pc = .ok (.ireturn, 1) → W p l e R s m args below meth c H1 locs1 0 0 Q (F0 m pc ls1 [.int res.1])) (x1 : Int32) (x2 : Int32) (x3 : Int32) (z0 : Int32) (F : PF) (G : PG) (hm : mb_inConstant_51 fu rc x1 x2 x3 z0 F G = some res) {H : Heap} {locs : List Loc} (hw : mMW s A v a F G H locs) {ls : Array Slot} (hl : lv_has ls 6 [(0, .ref (a 212)), (1, .int x1), (2, .int x2), (3, .int x3)]) : W p l e R s m args below meth c H locs 0 0 Q (F0 m 51 ls [.int z0]) := by
  have hx := C.1
  have hb := C.2.1
  unfold mb_inConstant_51 at hm
  refine lv_if_eq (tgt := 58) hx hb dX12_inConstant_51 (by decide) (fun c_1 => ?_) (fun c_1 => ?_)
  · have hm := (if_pos c_1).symm.trans hm
    exact mw_inConstant_58 fu rc hr C hret x1 x2 x3 F G hm hw (lv_sub hl [0, 1, 2, 3] rfl)
  · have hm := (if_neg c_1).symm.trans hm
    exact mw_inConstant_54 fu rc hr C hret x1 x2 x3 F G hm hw (lv_sub hl [0, 1, 2, 3] rfl)
theorem mw_inConstant_45 (fu : Nat) (rc : RC) {dd : Nat} (hr : mH1 l v a rc dd) {res : Int32 × PF × PG} (C : mMC p R s m args c A v RX12 cX12_inConstant 6 (dd + 1 + 3) (60 * (dd + 1) + 64)) (hret : ∀ (H1 : Heap) (locs1 : List Loc) (ls1 : Array Slot) (pc : Nat), mMW s A v a res.2.1 res.2.2 H1 locs1 → narrow .boolean (.int res.1) = .int res.1 → decode cX12_inConstant pc = .ok (.ireturn, 1) → W p l e R s m args below meth c H1 locs1 0 0 Q (F0 m pc ls1 [.int res.1])) (x1 : Int32) (x2 : Int32) (x3 : Int32) (F : PF) (G : PG) (hm : mb_inConstant_45 fu rc x1 x2 x3 F G = some res) {H : Heap} {locs : List Loc} (hw : mMW s A v a F G H locs) {ls : Array Slot} (hl : lv_has ls 6 [(0, .ref (a 212)), (1, .int x1), (2, .int x2), (3, .int x3)]) : W p l e R s m args below meth c H locs 0 0 Q (F0 m 45 ls []) := by
  have hx := C.1
  have hb := C.2.1
  unfold mb_inConstant_45 at hm
  refine lv_aload_n hx hb dX12_inConstant_45 rfl (lv_at hl 0 rfl) ?_
  refine lv_bipush (v := 22) hx hb dX12_inConstant_46 (by decide) ?_
  obtain ⟨⟨r1, F1, G1⟩, hc, hm⟩ := bind_elim hm
  refine mcallI (n := 1) (As := [.int 22]) (rest := []) C hw (mk_isSign l v a _ fu 22 F G r1 F1 G1 hc) (mrecv_X12 C hw) mm_183 mm_184 mm_185 mm_27 mm_186 (by decide +kernel) rfl (by omega) (by omega) hl.1 rfl (Nat.le_of_ble_eq_true rfl) dX12_inConstant_48 (fun H locs hw => ?_)
  exact mw_inConstant_51 fu rc hr C hret x1 x2 x3 r1 F1 G1 hm hw (lv_sub hl [0, 1, 2, 3] rfl)
theorem mw_inConstant_42 (fu : Nat) (rc : RC) {dd : Nat} (hr : mH1 l v a rc dd) {res : Int32 × PF × PG} (C : mMC p R s m args c A v RX12 cX12_inConstant 6 (dd + 1 + 3) (60 * (dd + 1) + 64)) (hret : ∀ (H1 : Heap) (locs1 : List Loc) (ls1 : Array Slot) (pc : Nat), mMW s A v a res.2.1 res.2.2 H1 locs1 → narrow .boolean (.int res.1) = .int res.1 → decode cX12_inConstant pc = .ok (.ireturn, 1) → W p l e R s m args below meth c H1 locs1 0 0 Q (F0 m pc ls1 [.int res.1])) (x1 : Int32) (x2 : Int32) (x3 : Int32) (z0 : Int32) (F : PF) (G : PG) (hm : mb_inConstant_42 fu rc x1 x2 x3 z0 F G = some res) {H : Heap} {locs : List Loc} (hw : mMW s A v a F G H locs) {ls : Array Slot} (hl : lv_has ls 6 [(0, .ref (a 212)), (1, .int x1), (2, .int x2), (3, .int x3)]) : W p l e R s m args below meth c H locs 0 0 Q (F0 m 42 ls [.int z0]) := by
  have hx := C.1
  have hb := C.2.1
  unfold mb_inConstant_42 at hm
  refine lv_if_ne (tgt := 54) hx hb dX12_inConstant_42 (by decide) (fun c_1 => ?_) (fun c_1 => ?_)
  · have hm := (if_neg c_1).symm.trans hm
    exact mw_inConstant_54 fu rc hr C hret x1 x2 x3 F G hm hw (lv_sub hl [0, 1, 2, 3] rfl)
  · have hm := (if_pos c_1).symm.trans hm
    exact mw_inConstant_45 fu rc hr C hret x1 x2 x3 F G hm hw (lv_sub hl [0, 1, 2, 3] rfl)
theorem mw_inConstant_35 (fu : Nat) (rc : RC) {dd : Nat} (hr : mH1 l v a rc dd) {res : Int32 × PF × PG} (C : mMC p R s m args c A v RX12 cX12_inConstant 6 (dd + 1 + 3) (60 * (dd + 1) + 64)) (hret : ∀ (H1 : Heap) (locs1 : List Loc) (ls1 : Array Slot) (pc : Nat), mMW s A v a res.2.1 res.2.2 H1 locs1 → narrow .boolean (.int res.1) = .int res.1 → decode cX12_inConstant pc = .ok (.ireturn, 1) → W p l e R s m args below meth c H1 locs1 0 0 Q (F0 m pc ls1 [.int res.1])) (x1 : Int32) (x2 : Int32) (z0 : Int32) (F : PF) (G : PG) (hm : mb_inConstant_35 fu rc x1 x2 z0 F G = some res) {H : Heap} {locs : List Loc} (hw : mMW s A v a F G H locs) {ls : Array Slot} (hl : lv_has ls 6 [(0, .ref (a 212)), (1, .int x1), (2, .int x2)]) : W p l e R s m args below meth c H locs 0 0 Q (F0 m 35 ls [.int z0]) := by
  have hx := C.1
  have hb := C.2.1
  unfold mb_inConstant_35 at hm
  refine lv_istore_n (lv' := [(3, .int z0), (0, .ref (a 212)), (1, .int x1), (2, .int x2)]) hx hb dX12_inConstant_35 rfl hl (by decide) rfl (fun ls hl => ?_)
  refine lv_aload_n hx hb dX12_inConstant_36 rfl (lv_at hl 1 rfl) ?_
  refine lv_bipush (v := 24) hx hb dX12_inConstant_37 (by decide) ?_
  obtain ⟨⟨r1, F1, G1⟩, hc, hm⟩ := bind_elim hm
  refine mcallI (n := 1) (As := [.int 24]) (rest := []) C hw (mk_isSign l v a _ fu 24 F G r1 F1 G1 hc) (mrecv_X12 C hw) mm_183 mm_184 mm_185 mm_27 mm_186 (by decide +kernel) rfl (by omega) (by omega) hl.1 rfl (Nat.le_of_ble_eq_true rfl) dX12_inConstant_39 (fun H locs hw => ?_)
  exact mw_inConstant_42 fu rc hr C hret x1 x2 z0 r1 F1 G1 hm hw (lv_sub hl [1, 2, 3, 0] rfl)
theorem mw_inConstant_34 (fu : Nat) (rc : RC) {dd : Nat} (hr : mH1 l v a rc dd) {res : Int32 × PF × PG} (C : mMC p R s m args c A v RX12 cX12_inConstant 6 (dd + 1 + 3) (60 * (dd + 1) + 64)) (hret : ∀ (H1 : Heap) (locs1 : List Loc) (ls1 : Array Slot) (pc : Nat), mMW s A v a res.2.1 res.2.2 H1 locs1 → narrow .boolean (.int res.1) = .int res.1 → decode cX12_inConstant pc = .ok (.ireturn, 1) → W p l e R s m args below meth c H1 locs1 0 0 Q (F0 m pc ls1 [.int res.1])) (x1 : Int32) (x2 : Int32) (F : PF) (G : PG) (hm : mb_inConstant_34 fu rc x1 x2 F G = some res) {H : Heap} {locs : List Loc} (hw : mMW s A v a F G H locs) {ls : Array Slot} (hl : lv_has ls 6 [(0, .ref (a 212)), (1, .int x1), (2, .int x2)]) : W p l e R s m args below meth c H locs 0 0 Q (F0 m 34 ls []) := by
  have hx := C.1
  have hb := C.2.1
  unfold mb_inConstant_34 at hm
  refine lv_iconst (v := 0) hx hb dX12_inConstant_34 (by decide) ?_
  exact mw_inConstant_35 fu rc hr C hret x1 x2 0 F G hm hw (lv_sub hl [0, 1, 2] rfl)
theorem mw_inConstant_30 (fu : Nat) (rc : RC) {dd : Nat} (hr : mH1 l v a rc dd) {res : Int32 × PF × PG} (C : mMC p R s m args c A v RX12 cX12_inConstant 6 (dd + 1 + 3) (60 * (dd + 1) + 64)) (hret : ∀ (H1 : Heap) (locs1 : List Loc) (ls1 : Array Slot) (pc : Nat), mMW s A v a res.2.1 res.2.2 H1 locs1 → narrow .boolean (.int res.1) = .int res.1 → decode cX12_inConstant pc = .ok (.ireturn, 1) → W p l e R s m args below meth c H1 locs1 0 0 Q (F0 m pc ls1 [.int res.1])) (x1 : Int32) (x2 : Int32) (F : PF) (G : PG) (hm : mb_inConstant_30 fu rc x1 x2 F G = some res) {H : Heap} {locs : List Loc} (hw : mMW s A v a F G H locs) {ls : Array Slot} (hl : lv_has ls 6 [(0, .ref (a 212)), (1, .int x1), (2, .int x2)]) : W p l e R s m args below meth c H locs 0 0 Q (F0 m 30 ls []) := by
  have hx := C.1
  have hb := C.2.1
  unfold mb_inConstant_30 at hm
  refine lv_iconst (v := 1) hx hb dX12_inConstant_30 (by decide) ?_
  refine lv_goto (tgt := 35) hx hb dX12_inConstant_31 (by decide) ?_
  exact mw_inConstant_35 fu rc hr C hret x1 x2 1 F G hm hw (lv_sub hl [0, 1, 2] rfl)
theorem mw_inConstant_22 (fu : Nat) (rc : RC) {dd : Nat} (hr : mH1 l v a rc dd) {res : Int32 × PF × PG} (C : mMC p R s m args c A v RX12 cX12_inConstant 6 (dd + 1 + 3) (60 * (dd + 1) + 64)) (hret : ∀ (H1 : Heap) (locs1 : List Loc) (ls1 : Array Slot) (pc : Nat), mMW s A v a res.2.1 res.2.2 H1 locs1 → narrow .boolean (.int res.1) = .int res.1 → decode cX12_inConstant pc = .ok (.ireturn, 1) → W p l e R s m args below meth c H1 locs1 0 0 Q (F0 m pc ls1 [.int res.1])) (x1 : Int32) (x2 : Int32) (F : PF) (G : PG) (hm : mb_inConstant_22 fu rc x1 x2 F G = some res) {H : Heap} {locs : List Loc} (hw : mMW s A v a F G H locs) {ls : Array Slot} (hl : lv_has ls 6 [(0, .ref (a 212)), (1, .int x1), (2, .int x2)]) : W p l e R s m args below meth c H locs 0 0 Q (F0 m 22 ls []) := by
  have hx := C.1
  have hb := C.2.1
  unfold mb_inConstant_22 at hm
  refine lv_aload_n hx hb dX12_inConstant_22 rfl (lv_at hl 0 rfl) ?_
  refine mg_X12_374 C hw dX12_inConstant_23 ?_
  refine lv_iconst (v := (-1)) hx hb dX12_inConstant_26 (by decide) ?_
  refine lv_icmp_ne (tgt := 34) hx hb dX12_inConstant_27 (by decide) (fun c_1 => ?_) (fun c_1 => ?_)
  · have hm := (if_neg c_1).symm.trans hm
    exact mw_inConstant_34 fu rc hr C hret x1 x2 F G hm hw (lv_sub hl [0, 1, 2] rfl)
  · have hm := (if_pos c_1).symm.trans hm
    exact mw_inConstant_30 fu rc hr C hret x1 x2 F G hm hw (lv_sub hl [0, 1, 2] rfl)
theorem mw_inConstant_16 (fu : Nat) (rc : RC) {dd : Nat} (hr : mH1 l v a rc dd) {res : Int32 × PF × PG} (C : mMC p R s m args c A v RX12 cX12_inConstant 6 (dd + 1 + 3) (60 * (dd + 1) + 64)) (hret : ∀ (H1 : Heap) (locs1 : List Loc) (ls1 : Array Slot) (pc : Nat), mMW s A v a res.2.1 res.2.2 H1 locs1 → narrow .boolean (.int res.1) = .int res.1 → decode cX12_inConstant pc = .ok (.ireturn, 1) → W p l e R s m args below meth c H1 locs1 0 0 Q (F0 m pc ls1 [.int res.1])) (x1 : Int32) (z0 : Int32) (F : PF) (G : PG) (hm : mb_inConstant_16 fu rc x1 z0 F G = some res) {H : Heap} {locs : List Loc} (hw : mMW s A v a F G H locs) {ls : Array Slot} (hl : lv_has ls 6 [(0, .ref (a 212)), (1, .int x1)]) : W p l e R s m args below meth c H locs 0 0 Q (F0 m 16 ls [.int z0]) := by
  have hx := C.1
  have hb := C.2.1
  unfold mb_inConstant_16 at hm
  refine lv_istore_n (lv' := [(2, .int z0), (0, .ref (a 212)), (1, .int x1)]) hx hb dX12_inConstant_16 rfl hl (by decide) rfl (fun ls hl => ?_)
  refine lv_iload_n hx hb dX12_inConstant_17 rfl (lv_at hl 0 rfl) ?_
  refine lv_iconst (v := (-1)) hx hb dX12_inConstant_18 (by decide) ?_
  refine lv_icmp_ne (tgt := 34) hx hb dX12_inConstant_19 (by decide) (fun c_1 => ?_) (fun c_1 => ?_)
  · have hm := (if_neg c_1).symm.trans hm
    exact mw_inConstant_34 fu rc hr C hret x1 z0 F G hm hw (lv_sub hl [1, 2, 0] rfl)
  · have hm := (if_pos c_1).symm.trans hm
    exact mw_inConstant_22 fu rc hr C hret x1 z0 F G hm hw (lv_sub hl [1, 2, 0] rfl)
theorem mw_inConstant_11 (fu : Nat) (rc : RC) {dd : Nat} (hr : mH1 l v a rc dd) {res : Int32 × PF × PG} (C : mMC p R s m args c A v RX12 cX12_inConstant 6 (dd + 1 + 3) (60 * (dd + 1) + 64)) (hret : ∀ (H1 : Heap) (locs1 : List Loc) (ls1 : Array Slot) (pc : Nat), mMW s A v a res.2.1 res.2.2 H1 locs1 → narrow .boolean (.int res.1) = .int res.1 → decode cX12_inConstant pc = .ok (.ireturn, 1) → W p l e R s m args below meth c H1 locs1 0 0 Q (F0 m pc ls1 [.int res.1])) (x1 : Int32) (F : PF) (G : PG) (hm : mb_inConstant_11 fu rc x1 F G = some res) {H : Heap} {locs : List Loc} (hw : mMW s A v a F G H locs) {ls : Array Slot} (hl : lv_has ls 6 [(0, .ref (a 212)), (1, .int x1)]) : W p l e R s m args below meth c H locs 0 0 Q (F0 m 11 ls []) := by
  have hx := C.1
  have hb := C.2.1
  unfold mb_inConstant_11 at hm
  refine lv_aload_n hx hb dX12_inConstant_11 rfl (lv_at hl 0 rfl) ?_
  refine lv_iload_n hx hb dX12_inConstant_12 rfl (lv_at hl 1 rfl) ?_
  obtain ⟨⟨r1, F1, G1⟩, hc, hm⟩ := bind_elim hm
  refine mcallI (n := 1) (As := [.int x1]) (rest := []) C hw (mk_meaning l v a _ fu x1 F G r1 F1 G1 hc) (mrecv_X12 C hw) mm_232 mm_233 mm_234 mm_27 mm_235 (by decide +kernel) rfl (by omega) (by omega) hl.1 rfl (Nat.le_of_ble_eq_true rfl) dX12_inConstant_13 (fun H locs hw => ?_)
  exact mw_inConstant_16 fu rc hr C hret x1 r1 F1 G1 hm hw (lv_sub hl [0, 1] rfl)
theorem mw_inConstant_7 (fu : Nat) (rc : RC) {dd : Nat} (hr : mH1 l v a rc dd) {res : Int32 × PF × PG} (C : mMC p R s m args c A v RX12 cX12_inConstant 6 (dd + 1 + 3) (60 * (dd + 1) + 64)) (hret : ∀ (H1 : Heap) (locs1 : List Loc) (ls1 : Array Slot) (pc : Nat), mMW s A v a res.2.1 res.2.2 H1 locs1 → narrow .boolean (.int res.1) = .int res.1 → decode cX12_inConstant pc = .ok (.ireturn, 1) → W p l e R s m args below meth c H1 locs1 0 0 Q (F0 m pc ls1 [.int res.1])) (x1 : Int32) (F : PF) (G : PG) (hm : mb_inConstant_7 fu rc x1 F G = some res) {H : Heap} {locs : List Loc} (hw : mMW s A v a F G H locs) {ls : Array Slot} (hl : lv_has ls 6 [(0, .ref (a 212)), (1, .int x1)]) : W p l e R s m args below meth c H locs 0 0 Q (F0 m 7 ls []) := by
  have hx := C.1
  have hb := C.2.1
  unfold mb_inConstant_7 at hm
  refine lv_iconst (v := (-1)) hx hb dX12_inConstant_7 (by decide) ?_
  refine lv_goto (tgt := 16) hx hb dX12_inConstant_8 (by decide) ?_
  exact mw_inConstant_16 fu rc hr C hret x1 (-1) F G hm hw (lv_sub hl [0, 1] rfl)
theorem mw_inConstant_0 (fu : Nat) (rc : RC) {dd : Nat} (hr : mH1 l v a rc dd) {res : Int32 × PF × PG} (C : mMC p R s m args c A v RX12 cX12_inConstant 6 (dd + 1 + 3) (60 * (dd + 1) + 64)) (hret : ∀ (H1 : Heap) (locs1 : List Loc) (ls1 : Array Slot) (pc : Nat), mMW s A v a res.2.1 res.2.2 H1 locs1 → narrow .boolean (.int res.1) = .int res.1 → decode cX12_inConstant pc = .ok (.ireturn, 1) → W p l e R s m args below meth c H1 locs1 0 0 Q (F0 m pc ls1 [.int res.1])) (x1 : Int32) (F : PF) (G : PG) (hm : mb_inConstant_0 fu rc x1 F G = some res) {H : Heap} {locs : List Loc} (hw : mMW s A v a F G H locs) {ls : Array Slot} (hl : lv_has ls 6 [(0, .ref (a 212)), (1, .int x1)]) : W p l e R s m args below meth c H locs 0 0 Q (F0 m 0 ls []) := by
  have hx := C.1
  have hb := C.2.1
  unfold mb_inConstant_0 at hm
  refine lv_aload_n hx hb dX12_inConstant_0 rfl (lv_at hl 0 rfl) ?_
  refine mg_X12_245 C hw dX12_inConstant_1 ?_
  refine lv_if_ne (tgt := 11) hx hb dX12_inConstant_4 (by decide) (fun c_1 => ?_) (fun c_1 => ?_)
  · have hm := (if_neg c_1).symm.trans hm
    exact mw_inConstant_11 fu rc hr C hret x1 F G hm hw (lv_sub hl [0, 1] rfl)
  · have hm := (if_pos c_1).symm.trans hm
    exact mw_inConstant_7 fu rc hr C hret x1 F G hm hw (lv_sub hl [0, 1] rfl)
theorem mq_inConstant (l : Launch) (v : EV) (a : Nat → Nat) (sz : Nat) (fu : Nat) (rc : RC) {dd : Nat} (hr : mH1 l v a rc dd) (x1 : Int32) (F : PF) (G : PG) (r : Int32) (F1 : PF) (G1 : PG) (hm : mh_inConstant fu rc x1 F G = some (r, F1, G1)) : mMI l yX12_inConstant cX12_inConstant 6 (some .boolean) (dd + 1 + 3) (60 * (dd + 1) + 64) v a sz [.ref (a 212), .int x1] F G r F1 G1 := mMI.of (ty := .boolean) (by decide) rfl (Nat.le_of_ble_eq_true rfl) (fun p e R s m args below meth c Q A H locs ls C hw hl hret => mw_inConstant_0 fu rc hr (res := (r, F1, G1)) C hret x1 F G hm hw hl)
end MB
