section MB
variable {p : Program} {l : Launch} {e : Env} {R : Room} {s : State} {m : MethodId} {args : Array Value} {below : List Frame} {meth : Method} {c : Code} {H : Heap} {locs : List Loc} {Q : State → Prop} {A : Nat → Prop} {v : EV} {a : Nat → Nat} {own : String} {cc : ByteArray} {nL fr lo : Nat}
def mb_isOut_16 (fu : Nat) (z0 : Int32) (F : PF) (G : PG) : PR := if b01 z0 = true then (some (z0, F, G)) else none
def mb_isOut_11 (fu : Nat) (F : PF) (G : PG) : PR := mb_isOut_16 fu 1 F G
def mb_isOut_15 (fu : Nat) (F : PF) (G : PG) : PR := mb_isOut_16 fu 0 F G
def mb_isOut_4 (fu : Nat) (x0 : Int32) (F : PF) (G : PG) : PR := if x0 ≤ (16383 : Int32) then mb_isOut_15 fu F G else mb_isOut_11 fu F G
def mb_isOut_0 (fu : Nat) (x0 : Int32) (F : PF) (G : PG) : PR := if x0 < (0 : Int32) then mb_isOut_11 fu F G else mb_isOut_4 fu x0 F G
def mf_isOut (fu : Nat) (x0 : Int32) (F : PF) (G : PG) : PR := mb_isOut_0 fu x0 F G
theorem mw_isOut_16 (fu : Nat) {res : Int32 × PF × PG} (C : mMC p R s m args c A v RX12 cX12_isOut 1 0 0) (hret : ∀ (H1 : Heap) (locs1 : List Loc) (ls1 : Array Slot) (pc : Nat), mMW s A v a res.2.1 res.2.2 H1 locs1 → narrow .boolean (.int res.1) = .int res.1 → decode cX12_isOut pc = .ok (.ireturn, 1) → W p l e R s m args below meth c H1 locs1 0 0 Q (F0 m pc ls1 [.int res.1])) (z0 : Int32) (F : PF) (G : PG) (hm : mb_isOut_16 fu z0 F G = some res) {H : Heap} {locs : List Loc} (hw : mMW s A v a F G H locs) {ls : Array Slot} (hl : lv_has ls 1 []) : W p l e R s m args below meth c H locs 0 0 Q (F0 m 16 ls [.int z0]) := by
  have hx := C.1
  have hb := C.2.1
  unfold mb_isOut_16 at hm
  obtain ⟨hz, hm⟩ := b01_elim hm
  obtain rfl := Option.some.inj hm
  exact hret _ _ _ _ hw (b01_nar hz) dX12_isOut_16
theorem mw_isOut_11 (fu : Nat) {res : Int32 × PF × PG} (C : mMC p R s m args c A v RX12 cX12_isOut 1 0 0) (hret : ∀ (H1 : Heap) (locs1 : List Loc) (ls1 : Array Slot) (pc : Nat), mMW s A v a res.2.1 res.2.2 H1 locs1 → narrow .boolean (.int res.1) = .int res.1 → decode cX12_isOut pc = .ok (.ireturn, 1) → W p l e R s m args below meth c H1 locs1 0 0 Q (F0 m pc ls1 [.int res.1])) (F : PF) (G : PG) (hm : mb_isOut_11 fu F G = some res) {H : Heap} {locs : List Loc} (hw : mMW s A v a F G H locs) {ls : Array Slot} (hl : lv_has ls 1 []) : W p l e R s m args below meth c H locs 0 0 Q (F0 m 11 ls []) := by
  have hx := C.1
  have hb := C.2.1
  unfold mb_isOut_11 at hm
  refine lv_iconst (v := 1) hx hb dX12_isOut_11 (by decide) ?_
  refine lv_goto (tgt := 16) hx hb dX12_isOut_12 (by decide) ?_
  exact mw_isOut_16 fu C hret 1 F G hm hw (lv_sub hl [] rfl)
theorem mw_isOut_15 (fu : Nat) {res : Int32 × PF × PG} (C : mMC p R s m args c A v RX12 cX12_isOut 1 0 0) (hret : ∀ (H1 : Heap) (locs1 : List Loc) (ls1 : Array Slot) (pc : Nat), mMW s A v a res.2.1 res.2.2 H1 locs1 → narrow .boolean (.int res.1) = .int res.1 → decode cX12_isOut pc = .ok (.ireturn, 1) → W p l e R s m args below meth c H1 locs1 0 0 Q (F0 m pc ls1 [.int res.1])) (F : PF) (G : PG) (hm : mb_isOut_15 fu F G = some res) {H : Heap} {locs : List Loc} (hw : mMW s A v a F G H locs) {ls : Array Slot} (hl : lv_has ls 1 []) : W p l e R s m args below meth c H locs 0 0 Q (F0 m 15 ls []) := by
  have hx := C.1
  have hb := C.2.1
  unfold mb_isOut_15 at hm
  refine lv_iconst (v := 0) hx hb dX12_isOut_15 (by decide) ?_
  exact mw_isOut_16 fu C hret 0 F G hm hw (lv_sub hl [] rfl)
theorem mw_isOut_4 (fu : Nat) {res : Int32 × PF × PG} (C : mMC p R s m args c A v RX12 cX12_isOut 1 0 0) (hret : ∀ (H1 : Heap) (locs1 : List Loc) (ls1 : Array Slot) (pc : Nat), mMW s A v a res.2.1 res.2.2 H1 locs1 → narrow .boolean (.int res.1) = .int res.1 → decode cX12_isOut pc = .ok (.ireturn, 1) → W p l e R s m args below meth c H1 locs1 0 0 Q (F0 m pc ls1 [.int res.1])) (x0 : Int32) (F : PF) (G : PG) (hm : mb_isOut_4 fu x0 F G = some res) {H : Heap} {locs : List Loc} (hw : mMW s A v a F G H locs) {ls : Array Slot} (hl : lv_has ls 1 [(0, .int x0)]) : W p l e R s m args below meth c H locs 0 0 Q (F0 m 4 ls []) := by
  have hx := C.1
  have hb := C.2.1
  unfold mb_isOut_4 at hm
  refine lv_iload_n hx hb dX12_isOut_4 rfl (lv_at hl 0 rfl) ?_
  refine lv_sipush (v := 16383) hx hb dX12_isOut_5 (by decide) ?_
  refine lv_icmp_le (tgt := 15) hx hb dX12_isOut_8 (by decide) (fun c_1 => ?_) (fun c_1 => ?_)
  · have hm := (if_pos c_1).symm.trans hm
    exact mw_isOut_15 fu C hret F G hm hw (lv_sub hl [] rfl)
  · have hm := (if_neg c_1).symm.trans hm
    exact mw_isOut_11 fu C hret F G hm hw (lv_sub hl [] rfl)
theorem mw_isOut_0 (fu : Nat) {res : Int32 × PF × PG} (C : mMC p R s m args c A v RX12 cX12_isOut 1 0 0) (hret : ∀ (H1 : Heap) (locs1 : List Loc) (ls1 : Array Slot) (pc : Nat), mMW s A v a res.2.1 res.2.2 H1 locs1 → narrow .boolean (.int res.1) = .int res.1 → decode cX12_isOut pc = .ok (.ireturn, 1) → W p l e R s m args below meth c H1 locs1 0 0 Q (F0 m pc ls1 [.int res.1])) (x0 : Int32) (F : PF) (G : PG) (hm : mb_isOut_0 fu x0 F G = some res) {H : Heap} {locs : List Loc} (hw : mMW s A v a F G H locs) {ls : Array Slot} (hl : lv_has ls 1 [(0, .int x0)]) : W p l e R s m args below meth c H locs 0 0 Q (F0 m 0 ls []) := by
  have hx := C.1
  have hb := C.2.1
  unfold mb_isOut_0 at hm
  refine lv_iload_n hx hb dX12_isOut_0 rfl (lv_at hl 0 rfl) ?_
  refine lv_if_lt (tgt := 11) hx hb dX12_isOut_1 (by decide) (fun c_1 => ?_) (fun c_1 => ?_)
  · have hm := (if_pos c_1).symm.trans hm
    exact mw_isOut_11 fu C hret F G hm hw (lv_sub hl [] rfl)
  · have hm := (if_neg c_1).symm.trans hm
    exact mw_isOut_4 fu C hret x0 F G hm hw (lv_sub hl [0] rfl)
theorem mk_isOut (l : Launch) (v : EV) (a : Nat → Nat) (sz : Nat) (fu : Nat) (x0 : Int32) (F : PF) (G : PG) (r : Int32) (F1 : PF) (G1 : PG) (hm : mf_isOut fu x0 F G = some (r, F1, G1)) : mMI l yX12_isOut cX12_isOut 1 (some .boolean) 0 0 v a sz [.int x0] F G r F1 G1 := mMI.of (ty := .boolean) (by decide) rfl (Nat.le_of_ble_eq_true rfl) (fun p e R s m args below meth c Q A H locs ls C hw hl hret => mw_isOut_0 fu (res := (r, F1, G1)) C hret x0 F G hm hw hl)
def mb_part_0 (fu : Nat) (x0 : Int32) (x1 : Int32) (x2 : Int32) (F : PF) (G : PG) : PR := some ((((x0.toUInt32 >>> (x1.toUInt32 &&& Int32.toUInt32 31)).toInt32) &&& (((1 : Int32) <<< (x2 &&& 31)) - (1 : Int32))), F, G)
def mf_part (fu : Nat) (x0 : Int32) (x1 : Int32) (x2 : Int32) (F : PF) (G : PG) : PR := mb_part_0 fu x0 x1 x2 F G
theorem mw_part_0 (fu : Nat) {res : Int32 × PF × PG} (C : mMC p R s m args c A v RX12 cX12_part 3 0 0) (hret : ∀ (H1 : Heap) (locs1 : List Loc) (ls1 : Array Slot) (pc : Nat), mMW s A v a res.2.1 res.2.2 H1 locs1 → narrow .int (.int res.1) = .int res.1 → decode cX12_part pc = .ok (.ireturn, 1) → W p l e R s m args below meth c H1 locs1 0 0 Q (F0 m pc ls1 [.int res.1])) (x0 : Int32) (x1 : Int32) (x2 : Int32) (F : PF) (G : PG) (hm : mb_part_0 fu x0 x1 x2 F G = some res) {H : Heap} {locs : List Loc} (hw : mMW s A v a F G H locs) {ls : Array Slot} (hl : lv_has ls 3 [(0, .int x0), (1, .int x1), (2, .int x2)]) : W p l e R s m args below meth c H locs 0 0 Q (F0 m 0 ls []) := by
  have hx := C.1
  have hb := C.2.1
  unfold mb_part_0 at hm
  refine lv_iload_n hx hb dX12_part_0 rfl (lv_at hl 0 rfl) ?_
  refine lv_iload_n hx hb dX12_part_1 rfl (lv_at hl 1 rfl) ?_
  refine lv_iushr hx hb dX12_part_2 rfl ?_
  refine lv_iconst (v := 1) hx hb dX12_part_3 (by decide) ?_
  refine lv_iload_n hx hb dX12_part_4 rfl (lv_at hl 2 rfl) ?_
  refine lv_ishl hx hb dX12_part_5 ?_
  refine lv_iconst (v := 1) hx hb dX12_part_6 (by decide) ?_
  refine lv_isub hx hb dX12_part_7 ?_
  refine lv_iand hx hb dX12_part_8 ?_
  obtain rfl := Option.some.inj hm
  exact hret _ _ _ _ hw rfl dX12_part_9
theorem mk_part (l : Launch) (v : EV) (a : Nat → Nat) (sz : Nat) (fu : Nat) (x0 : Int32) (x1 : Int32) (x2 : Int32) (F : PF) (G : PG) (r : Int32) (F1 : PF) (G1 : PG) (hm : mf_part fu x0 x1 x2 F G = some (r, F1, G1)) : mMI l yX12_part cX12_part 3 (some .int) 0 0 v a sz [.int x0, .int x1, .int x2] F G r F1 G1 := mMI.of (ty := .int) (by decide) rfl (Nat.le_of_ble_eq_true rfl) (fun p e R s m args below meth c Q A H locs ls C hw hl hret => mw_part_0 fu (res := (r, F1, G1)) C hret x0 x1 x2 F G hm hw hl)
def mb_putByte_39 (fu : Nat) (F : PF) (G : PG) : PR := some (0, F, G)
def mb_putByte_0 (fu : Nat) (x1 : Int32) (x2 : Int32) (F : PF) (G : PG) : PR := if ixb (x1 >>> ((2 : Int32) &&& 31)) 4096 = true then (if ixb (x1 >>> ((2 : Int32) &&& 31)) 4096 = true then (mb_putByte_39 fu F (gup G 94 (x1 >>> ((2 : Int32) &&& 31)).toNatClampNeg (((G 94 (x1 >>> ((2 : Int32) &&& 31)).toNatClampNeg) &&& (((255 : Int32) <<< (((8 : Int32) * (x1 &&& (3 : Int32))) &&& 31)) ^^^ (-1 : Int32))) ||| ((x2 &&& (255 : Int32)) <<< (((8 : Int32) * (x1 &&& (3 : Int32))) &&& 31))))) else none) else none
def mf_putByte (fu : Nat) (x1 : Int32) (x2 : Int32) (F : PF) (G : PG) : PR := mb_putByte_0 fu x1 x2 F G
theorem mw_putByte_39 (fu : Nat) {res : Int32 × PF × PG} (C : mMC p R s m args c A v RX12 cX12_putByte 4 0 0) (hret : ∀ (H1 : Heap) (locs1 : List Loc) (ls1 : Array Slot) (pc : Nat), mMW s A v a res.2.1 res.2.2 H1 locs1 → decode cX12_putByte pc = .ok (.return_, 1) → W p l e R s m args below meth c H1 locs1 0 0 Q (F0 m pc ls1 [])) (F : PF) (G : PG) (hm : mb_putByte_39 fu F G = some res) {H : Heap} {locs : List Loc} (hw : mMW s A v a F G H locs) {ls : Array Slot} (hl : lv_has ls 4 []) : W p l e R s m args below meth c H locs 0 0 Q (F0 m 39 ls []) := by
  have hx := C.1
  have hb := C.2.1
  unfold mb_putByte_39 at hm
  obtain rfl := Option.some.inj hm
  exact hret _ _ _ _ hw dX12_putByte_39
theorem mw_putByte_0 (fu : Nat) {res : Int32 × PF × PG} (C : mMC p R s m args c A v RX12 cX12_putByte 4 0 0) (hret : ∀ (H1 : Heap) (locs1 : List Loc) (ls1 : Array Slot) (pc : Nat), mMW s A v a res.2.1 res.2.2 H1 locs1 → decode cX12_putByte pc = .ok (.return_, 1) → W p l e R s m args below meth c H1 locs1 0 0 Q (F0 m pc ls1 [])) (x1 : Int32) (x2 : Int32) (F : PF) (G : PG) (hm : mb_putByte_0 fu x1 x2 F G = some res) {H : Heap} {locs : List Loc} (hw : mMW s A v a F G H locs) {ls : Array Slot} (hl : lv_has ls 4 [(0, .ref (a 212)), (1, .int x1), (2, .int x2)]) : W p l e R s m args below meth c H locs 0 0 Q (F0 m 0 ls []) := by
  have hx := C.1
  have hb := C.2.1
  unfold mb_putByte_0 at hm
  refine lv_bipush (v := 8) hx hb dX12_putByte_0 (by decide) ?_
  refine lv_iload_n hx hb dX12_putByte_2 rfl (lv_at hl 1 rfl) ?_
  refine lv_iconst (v := 3) hx hb dX12_putByte_3 (by decide) ?_
  refine lv_iand hx hb dX12_putByte_4 ?_
  refine lv_imul hx hb dX12_putByte_5 ?_
  refine lv_istore_n (lv' := [(3, .int ((8 : Int32) * (x1 &&& (3 : Int32)))), (0, .ref (a 212)), (1, .int x1), (2, .int x2)]) hx hb dX12_putByte_6 rfl hl (by decide) rfl (fun ls hl => ?_)
  refine lv_aload_n hx hb dX12_putByte_7 rfl (lv_at hl 1 rfl) ?_
  refine mg_X12_147 C hw dX12_putByte_8 ?_
  refine lv_iload_n hx hb dX12_putByte_11 rfl (lv_at hl 2 rfl) ?_
  refine lv_iconst (v := 2) hx hb dX12_putByte_12 (by decide) ?_
  refine lv_ishr hx hb dX12_putByte_13 ?_
  refine lv_aload_n hx hb dX12_putByte_14 rfl (lv_at hl 1 rfl) ?_
  refine mg_X12_147 C hw dX12_putByte_15 ?_
  refine lv_iload_n hx hb dX12_putByte_18 rfl (lv_at hl 2 rfl) ?_
  refine lv_iconst (v := 2) hx hb dX12_putByte_19 (by decide) ?_
  refine lv_ishr hx hb dX12_putByte_20 ?_
  obtain ⟨hi, hm⟩ := ix_elim hm
  refine mal_94 C hw hi dX12_putByte_21 ?_
  refine lv_sipush (v := 255) hx hb dX12_putByte_22 (by decide) ?_
  refine lv_iload_n hx hb dX12_putByte_25 rfl (lv_at hl 0 rfl) ?_
  refine lv_ishl hx hb dX12_putByte_26 ?_
  refine lv_iconst (v := (-1)) hx hb dX12_putByte_27 (by decide) ?_
  refine lv_ixor hx hb dX12_putByte_28 ?_
  refine lv_iand hx hb dX12_putByte_29 ?_
  refine lv_iload_n hx hb dX12_putByte_30 rfl (lv_at hl 3 rfl) ?_
  refine lv_sipush (v := 255) hx hb dX12_putByte_31 (by decide) ?_
  refine lv_iand hx hb dX12_putByte_34 ?_
  refine lv_iload_n hx hb dX12_putByte_35 rfl (lv_at hl 0 rfl) ?_
  refine lv_ishl hx hb dX12_putByte_36 ?_
  refine lv_ior hx hb dX12_putByte_37 ?_
  obtain ⟨hi, hm⟩ := ix_elim hm
  refine mas_94 C hw hi dX12_putByte_38 (fun H locs hw => ?_)
  exact mw_putByte_39 fu C hret F (gup G 94 (x1 >>> ((2 : Int32) &&& 31)).toNatClampNeg (((G 94 (x1 >>> ((2 : Int32) &&& 31)).toNatClampNeg) &&& (((255 : Int32) <<< (((8 : Int32) * (x1 &&& (3 : Int32))) &&& 31)) ^^^ (-1 : Int32))) ||| ((x2 &&& (255 : Int32)) <<< (((8 : Int32) * (x1 &&& (3 : Int32))) &&& 31)))) hm hw (lv_sub hl [] rfl)
theorem mk_putByte (l : Launch) (v : EV) (a : Nat → Nat) (sz : Nat) (fu : Nat) (x1 : Int32) (x2 : Int32) (F : PF) (G : PG) (r : Int32) (F1 : PF) (G1 : PG) (hm : mf_putByte fu x1 x2 F G = some (r, F1, G1)) : mMV l yX12_putByte cX12_putByte 4 0 0 v a sz [.ref (a 212), .int x1, .int x2] F G F1 G1 := mMV.of (by decide) (Nat.le_of_ble_eq_true rfl) (fun p e R s m args below meth c Q A H locs ls C hw hl hret => mw_putByte_0 fu (res := (r, F1, G1)) C hret x1 x2 F G hm hw hl)
def mb_stores_71 (fu : Nat) (z0 : Int32) (F : PF) (G : PG) : PR := some (z0, F, G)
def mb_stores_63 (fu : Nat) (x4 : Int32) (F : PF) (G : PG) : PR := (mf_goesOn fu (x4 + (4 : Int32)) F G).bind (fun q => mb_stores_71 fu q.1 q.2.1 q.2.2)
def mb_stores_57 (fu : Nat) (ag_35 : Int32 → Int32 → Int32 → Int32 → Int32 → PF → PG → PR) (x2 : Int32) (x3 : Int32) (x4 : Int32) (x5 : Int32) (x6 : Int32) (F : PF) (G : PG) : PR := ag_35 x2 x3 x4 x5 (x6 + 1) F G
def mb_stores_42 (fu : Nat) (ag_35 : Int32 → Int32 → Int32 → Int32 → Int32 → PF → PG → PR) (x2 : Int32) (x3 : Int32) (x4 : Int32) (x5 : Int32) (x6 : Int32) (F : PF) (G : PG) : PR := (mf_putByte fu (x2 + x6) (x3 >>> (((8 : Int32) * x6) &&& 31)) F G).bind (fun q => mb_stores_57 fu ag_35 x2 x3 x4 x5 x6 q.2.1 q.2.2)
def mb_stores_35 (fu : Nat) (ag_35 : Int32 → Int32 → Int32 → Int32 → Int32 → PF → PG → PR) (x2 : Int32) (x3 : Int32) (x4 : Int32) (x5 : Int32) (x6 : Int32) (F : PF) (G : PG) : PR := if x5 ≤ x6 then mb_stores_63 fu x4 F G else mb_stores_42 fu ag_35 x2 x3 x4 x5 x6 F G
def ml_stores_35 (fu : Nat) : Nat → Int32 → Int32 → Int32 → Int32 → Int32 → PF → PG → PR
  | 0 => fun _ _ _ _ _ _ _ => none
  | n + 1 => fun x2 x3 x4 x5 x6 F G => mb_stores_35 fu (ml_stores_35 fu n) x2 x3 x4 x5 x6 F G
def mb_stores_32 (fu : Nat) (x2 : Int32) (x3 : Int32) (x4 : Int32) (x5 : Int32) (F : PF) (G : PG) : PR := ml_stores_35 fu fu x2 x3 x4 x5 0 F G
def mb_stores_30 (fu : Nat) (F : PF) (G : PG) : PR := some (5, F, G)
def mb_stores_27 (fu : Nat) (x2 : Int32) (x3 : Int32) (x4 : Int32) (x5 : Int32) (z0 : Int32) (F : PF) (G : PG) : PR := if z0 = (0 : Int32) then mb_stores_32 fu x2 x3 x4 x5 F G else mb_stores_30 fu F G
def mb_stores_23 (fu : Nat) (x2 : Int32) (x3 : Int32) (x4 : Int32) (x5 : Int32) (F : PF) (G : PG) : PR := (mf_isOut fu x2 F G).bind (fun q => mb_stores_27 fu x2 x3 x4 x5 q.1 q.2.1 q.2.2)
def mb_stores_21 (fu : Nat) (F : PF) (G : PG) : PR := some (4, F, G)
def mb_stores_7 (fu : Nat) (x1 : Int32) (x2 : Int32) (x3 : Int32) (x4 : Int32) (F : PF) (G : PG) : PR := if (x2 &&& (((1 : Int32) <<< (x1 &&& 31)) - (1 : Int32))) = (0 : Int32) then mb_stores_23 fu x2 x3 x4 ((1 : Int32) <<< (x1 &&& 31)) F G else mb_stores_21 fu F G
def mb_stores_5 (fu : Nat) (F : PF) (G : PG) : PR := some (2, F, G)
def mb_stores_0 (fu : Nat) (x1 : Int32) (x2 : Int32) (x3 : Int32) (x4 : Int32) (F : PF) (G : PG) : PR := if x1 ≤ (2 : Int32) then mb_stores_7 fu x1 x2 x3 x4 F G else mb_stores_5 fu F G
def mf_stores (fu : Nat) (x1 : Int32) (x2 : Int32) (x3 : Int32) (x4 : Int32) (F : PF) (G : PG) : PR := mb_stores_0 fu x1 x2 x3 x4 F G
theorem mw_stores_71 (fu : Nat) {res : Int32 × PF × PG} (C : mMC p R s m args c A v RX12 cX12_stores 7 1 23) (hret : ∀ (H1 : Heap) (locs1 : List Loc) (ls1 : Array Slot) (pc : Nat), mMW s A v a res.2.1 res.2.2 H1 locs1 → narrow .int (.int res.1) = .int res.1 → decode cX12_stores pc = .ok (.ireturn, 1) → W p l e R s m args below meth c H1 locs1 0 0 Q (F0 m pc ls1 [.int res.1])) (z0 : Int32) (F : PF) (G : PG) (hm : mb_stores_71 fu z0 F G = some res) {H : Heap} {locs : List Loc} (hw : mMW s A v a F G H locs) {ls : Array Slot} (hl : lv_has ls 7 []) : W p l e R s m args below meth c H locs 0 0 Q (F0 m 71 ls [.int z0]) := by
  have hx := C.1
  have hb := C.2.1
  unfold mb_stores_71 at hm
  obtain rfl := Option.some.inj hm
  exact hret _ _ _ _ hw rfl dX12_stores_71
theorem mw_stores_63 (fu : Nat) {res : Int32 × PF × PG} (C : mMC p R s m args c A v RX12 cX12_stores 7 1 23) (hret : ∀ (H1 : Heap) (locs1 : List Loc) (ls1 : Array Slot) (pc : Nat), mMW s A v a res.2.1 res.2.2 H1 locs1 → narrow .int (.int res.1) = .int res.1 → decode cX12_stores pc = .ok (.ireturn, 1) → W p l e R s m args below meth c H1 locs1 0 0 Q (F0 m pc ls1 [.int res.1])) (x4 : Int32) (F : PF) (G : PG) (hm : mb_stores_63 fu x4 F G = some res) {H : Heap} {locs : List Loc} (hw : mMW s A v a F G H locs) {ls : Array Slot} (hl : lv_has ls 7 [(0, .ref (a 212)), (4, .int x4)]) : W p l e R s m args below meth c H locs 0 0 Q (F0 m 63 ls []) := by
  have hx := C.1
  have hb := C.2.1
  unfold mb_stores_63 at hm
  refine lv_aload_n hx hb dX12_stores_63 rfl (lv_at hl 0 rfl) ?_
  refine lv_iload hx hb dX12_stores_64 (lv_at hl 1 rfl) ?_
  refine lv_iconst (v := 4) hx hb dX12_stores_66 (by decide) ?_
  refine lv_iadd hx hb dX12_stores_67 ?_
  obtain ⟨⟨r1, F1, G1⟩, hc, hm⟩ := bind_elim hm
  refine mcallI (n := 1) (As := [.int (x4 + (4 : Int32))]) (rest := []) C hw (mk_goesOn l v a _ fu (x4 + (4 : Int32)) F G r1 F1 G1 hc) (mrecv_X12 C hw) mm_474 mm_475 mm_476 mm_27 mm_477 (by decide +kernel) rfl (by omega) (by omega) hl.1 rfl (Nat.le_of_ble_eq_true rfl) dX12_stores_68 (fun H locs hw => ?_)
  exact mw_stores_71 fu C hret r1 F1 G1 hm hw (lv_sub hl [] rfl)
theorem mw_stores_57 (fu : Nat) {res : Int32 × PF × PG} (C : mMC p R s m args c A v RX12 cX12_stores 7 1 23) (hret : ∀ (H1 : Heap) (locs1 : List Loc) (ls1 : Array Slot) (pc : Nat), mMW s A v a res.2.1 res.2.2 H1 locs1 → narrow .int (.int res.1) = .int res.1 → decode cX12_stores pc = .ok (.ireturn, 1) → W p l e R s m args below meth c H1 locs1 0 0 Q (F0 m pc ls1 [.int res.1])) (ag_35 : Int32 → Int32 → Int32 → Int32 → Int32 → PF → PG → PR) (hag_35 : ∀ (x2 : Int32) (x3 : Int32) (x4 : Int32) (x5 : Int32) (x6 : Int32) (F : PF) (G : PG), ag_35 x2 x3 x4 x5 x6 F G = some res → ∀ (H : Heap) (locs : List Loc) (ls : Array Slot), mMW s A v a F G H locs → lv_has ls 7 [(0, .ref (a 212)), (2, .int x2), (3, .int x3), (4, .int x4), (5, .int x5), (6, .int x6)] → W p l e R s m args below meth c H locs 0 0 Q (F0 m 35 ls [])) (x2 : Int32) (x3 : Int32) (x4 : Int32) (x5 : Int32) (x6 : Int32) (F : PF) (G : PG) (hm : mb_stores_57 fu ag_35 x2 x3 x4 x5 x6 F G = some res) {H : Heap} {locs : List Loc} (hw : mMW s A v a F G H locs) {ls : Array Slot} (hl : lv_has ls 7 [(0, .ref (a 212)), (2, .int x2), (3, .int x3), (4, .int x4), (5, .int x5), (6, .int x6)]) : W p l e R s m args below meth c H locs 0 0 Q (F0 m 57 ls []) := by
  have hx := C.1
  have hb := C.2.1
  unfold mb_stores_57 at hm
  refine lv_iinc (v := (x6 + 1)) (lv' := [(6, .int (x6 + 1)), (0, .ref (a 212)), (2, .int x2), (3, .int x3), (4, .int x4), (5, .int x5)]) hx hb dX12_stores_57 hl (k := 5) rfl (by rfl) (by decide) rfl (fun ls hl => ?_)
  refine lv_goto (tgt := 35) hx hb dX12_stores_60 (by decide) ?_
  exact hag_35 x2 x3 x4 x5 (x6 + 1) F G hm _ _ _ hw (lv_sub hl [1, 2, 3, 4, 5, 0] rfl)
theorem mw_stores_42 (fu : Nat) {res : Int32 × PF × PG} (C : mMC p R s m args c A v RX12 cX12_stores 7 1 23) (hret : ∀ (H1 : Heap) (locs1 : List Loc) (ls1 : Array Slot) (pc : Nat), mMW s A v a res.2.1 res.2.2 H1 locs1 → narrow .int (.int res.1) = .int res.1 → decode cX12_stores pc = .ok (.ireturn, 1) → W p l e R s m args below meth c H1 locs1 0 0 Q (F0 m pc ls1 [.int res.1])) (ag_35 : Int32 → Int32 → Int32 → Int32 → Int32 → PF → PG → PR) (hag_35 : ∀ (x2 : Int32) (x3 : Int32) (x4 : Int32) (x5 : Int32) (x6 : Int32) (F : PF) (G : PG), ag_35 x2 x3 x4 x5 x6 F G = some res → ∀ (H : Heap) (locs : List Loc) (ls : Array Slot), mMW s A v a F G H locs → lv_has ls 7 [(0, .ref (a 212)), (2, .int x2), (3, .int x3), (4, .int x4), (5, .int x5), (6, .int x6)] → W p l e R s m args below meth c H locs 0 0 Q (F0 m 35 ls [])) (x2 : Int32) (x3 : Int32) (x4 : Int32) (x5 : Int32) (x6 : Int32) (F : PF) (G : PG) (hm : mb_stores_42 fu ag_35 x2 x3 x4 x5 x6 F G = some res) {H : Heap} {locs : List Loc} (hw : mMW s A v a F G H locs) {ls : Array Slot} (hl : lv_has ls 7 [(0, .ref (a 212)), (2, .int x2), (3, .int x3), (4, .int x4), (5, .int x5), (6, .int x6)]) : W p l e R s m args below meth c H locs 0 0 Q (F0 m 42 ls []) := by
  have hx := C.1
  have hb := C.2.1
  unfold mb_stores_42 at hm
  refine lv_aload_n hx hb dX12_stores_42 rfl (lv_at hl 0 rfl) ?_
  refine lv_iload_n hx hb dX12_stores_43 rfl (lv_at hl 1 rfl) ?_
  refine lv_iload hx hb dX12_stores_44 (lv_at hl 5 rfl) ?_
  refine lv_iadd hx hb dX12_stores_46 ?_
  refine lv_iload_n hx hb dX12_stores_47 rfl (lv_at hl 2 rfl) ?_
  refine lv_bipush (v := 8) hx hb dX12_stores_48 (by decide) ?_
  refine lv_iload hx hb dX12_stores_50 (lv_at hl 5 rfl) ?_
  refine lv_imul hx hb dX12_stores_52 ?_
  refine lv_ishr hx hb dX12_stores_53 ?_
  obtain ⟨⟨r1, F1, G1⟩, hc, hm⟩ := bind_elim hm
  refine mcallV (n := 2) (As := [.int (x2 + x6), .int (x3 >>> (((8 : Int32) * x6) &&& 31))]) (rest := []) C hw (mk_putByte l v a _ fu (x2 + x6) (x3 >>> (((8 : Int32) * x6) &&& 31)) F G r1 F1 G1 hc) (mrecv_X12 C hw) mm_499 mm_500 mm_501 mm_27 mm_502 (by decide +kernel) rfl (by omega) (by omega) hl.1 rfl (Nat.le_of_ble_eq_true rfl) dX12_stores_54 (fun H locs hw => ?_)
  exact mw_stores_57 fu C hret ag_35 hag_35 x2 x3 x4 x5 x6 F1 G1 hm hw (lv_sub hl [0, 1, 2, 3, 4, 5] rfl)
theorem mw_stores_35 (fu : Nat) {res : Int32 × PF × PG} (C : mMC p R s m args c A v RX12 cX12_stores 7 1 23) (hret : ∀ (H1 : Heap) (locs1 : List Loc) (ls1 : Array Slot) (pc : Nat), mMW s A v a res.2.1 res.2.2 H1 locs1 → narrow .int (.int res.1) = .int res.1 → decode cX12_stores pc = .ok (.ireturn, 1) → W p l e R s m args below meth c H1 locs1 0 0 Q (F0 m pc ls1 [.int res.1])) (ag_35 : Int32 → Int32 → Int32 → Int32 → Int32 → PF → PG → PR) (hag_35 : ∀ (x2 : Int32) (x3 : Int32) (x4 : Int32) (x5 : Int32) (x6 : Int32) (F : PF) (G : PG), ag_35 x2 x3 x4 x5 x6 F G = some res → ∀ (H : Heap) (locs : List Loc) (ls : Array Slot), mMW s A v a F G H locs → lv_has ls 7 [(0, .ref (a 212)), (2, .int x2), (3, .int x3), (4, .int x4), (5, .int x5), (6, .int x6)] → W p l e R s m args below meth c H locs 0 0 Q (F0 m 35 ls [])) (x2 : Int32) (x3 : Int32) (x4 : Int32) (x5 : Int32) (x6 : Int32) (F : PF) (G : PG) (hm : mb_stores_35 fu ag_35 x2 x3 x4 x5 x6 F G = some res) {H : Heap} {locs : List Loc} (hw : mMW s A v a F G H locs) {ls : Array Slot} (hl : lv_has ls 7 [(0, .ref (a 212)), (2, .int x2), (3, .int x3), (4, .int x4), (5, .int x5), (6, .int x6)]) : W p l e R s m args below meth c H locs 0 0 Q (F0 m 35 ls []) := by
  have hx := C.1
  have hb := C.2.1
  unfold mb_stores_35 at hm
  refine lv_iload hx hb dX12_stores_35 (lv_at hl 5 rfl) ?_
  refine lv_iload hx hb dX12_stores_37 (lv_at hl 4 rfl) ?_
  refine lv_icmp_ge (tgt := 63) hx hb dX12_stores_39 (by decide) (fun c_1 => ?_) (fun c_1 => ?_)
  · have hm := (if_pos c_1).symm.trans hm
    exact mw_stores_63 fu C hret x4 F G hm hw (lv_sub hl [0, 3] rfl)
  · have hm := (if_neg c_1).symm.trans hm
    exact mw_stores_42 fu C hret ag_35 hag_35 x2 x3 x4 x5 x6 F G hm hw (lv_sub hl [0, 1, 2, 3, 4, 5] rfl)
theorem mwl_stores_35 (fu : Nat) {res : Int32 × PF × PG} (C : mMC p R s m args c A v RX12 cX12_stores 7 1 23) (hret : ∀ (H1 : Heap) (locs1 : List Loc) (ls1 : Array Slot) (pc : Nat), mMW s A v a res.2.1 res.2.2 H1 locs1 → narrow .int (.int res.1) = .int res.1 → decode cX12_stores pc = .ok (.ireturn, 1) → W p l e R s m args below meth c H1 locs1 0 0 Q (F0 m pc ls1 [.int res.1])) : ∀ (n : Nat) (x2 : Int32) (x3 : Int32) (x4 : Int32) (x5 : Int32) (x6 : Int32) (F : PF) (G : PG) (hm : ml_stores_35 fu n x2 x3 x4 x5 x6 F G = some res) {H : Heap} {locs : List Loc} (hw : mMW s A v a F G H locs) {ls : Array Slot} (hl : lv_has ls 7 [(0, .ref (a 212)), (2, .int x2), (3, .int x3), (4, .int x4), (5, .int x5), (6, .int x6)]), W p l e R s m args below meth c H locs 0 0 Q (F0 m 35 ls []) := by
  intro n
  induction n with
  | zero =>
    intro x2 x3 x4 x5 x6 F G hm
    exact no_elim (show (none : PR) = some res from hm)
  | succ n ih =>
    intro x2 x3 x4 x5 x6 F G hm H locs hw ls hl
    exact mw_stores_35 fu C hret (ml_stores_35 fu n) (fun x2 x3 x4 x5 x6 F G hm H locs ls hw hl => ih x2 x3 x4 x5 x6 F G hm hw hl) x2 x3 x4 x5 x6 F G hm hw hl
theorem mw_stores_32 (fu : Nat) {res : Int32 × PF × PG} (C : mMC p R s m args c A v RX12 cX12_stores 7 1 23) (hret : ∀ (H1 : Heap) (locs1 : List Loc) (ls1 : Array Slot) (pc : Nat), mMW s A v a res.2.1 res.2.2 H1 locs1 → narrow .int (.int res.1) = .int res.1 → decode cX12_stores pc = .ok (.ireturn, 1) → W p l e R s m args below meth c H1 locs1 0 0 Q (F0 m pc ls1 [.int res.1])) (x2 : Int32) (x3 : Int32) (x4 : Int32) (x5 : Int32) (F : PF) (G : PG) (hm : mb_stores_32 fu x2 x3 x4 x5 F G = some res) {H : Heap} {locs : List Loc} (hw : mMW s A v a F G H locs) {ls : Array Slot} (hl : lv_has ls 7 [(0, .ref (a 212)), (2, .int x2), (3, .int x3), (4, .int x4), (5, .int x5)]) : W p l e R s m args below meth c H locs 0 0 Q (F0 m 32 ls []) := by
  have hx := C.1
  have hb := C.2.1
  unfold mb_stores_32 at hm
  refine lv_iconst (v := 0) hx hb dX12_stores_32 (by decide) ?_
  refine lv_istore (lv' := [(6, .int 0), (0, .ref (a 212)), (2, .int x2), (3, .int x3), (4, .int x4), (5, .int x5)]) hx hb dX12_stores_33 hl (by decide) rfl (fun ls hl => ?_)
  exact mwl_stores_35 fu C hret fu x2 x3 x4 x5 0 F G hm hw (lv_sub hl [1, 2, 3, 4, 5, 0] rfl)
theorem mw_stores_30 (fu : Nat) {res : Int32 × PF × PG} (C : mMC p R s m args c A v RX12 cX12_stores 7 1 23) (hret : ∀ (H1 : Heap) (locs1 : List Loc) (ls1 : Array Slot) (pc : Nat), mMW s A v a res.2.1 res.2.2 H1 locs1 → narrow .int (.int res.1) = .int res.1 → decode cX12_stores pc = .ok (.ireturn, 1) → W p l e R s m args below meth c H1 locs1 0 0 Q (F0 m pc ls1 [.int res.1])) (F : PF) (G : PG) (hm : mb_stores_30 fu F G = some res) {H : Heap} {locs : List Loc} (hw : mMW s A v a F G H locs) {ls : Array Slot} (hl : lv_has ls 7 []) : W p l e R s m args below meth c H locs 0 0 Q (F0 m 30 ls []) := by
  have hx := C.1
  have hb := C.2.1
  unfold mb_stores_30 at hm
  refine lv_iconst (v := 5) hx hb dX12_stores_30 (by decide) ?_
  obtain rfl := Option.some.inj hm
  exact hret _ _ _ _ hw rfl dX12_stores_31
theorem mw_stores_27 (fu : Nat) {res : Int32 × PF × PG} (C : mMC p R s m args c A v RX12 cX12_stores 7 1 23) (hret : ∀ (H1 : Heap) (locs1 : List Loc) (ls1 : Array Slot) (pc : Nat), mMW s A v a res.2.1 res.2.2 H1 locs1 → narrow .int (.int res.1) = .int res.1 → decode cX12_stores pc = .ok (.ireturn, 1) → W p l e R s m args below meth c H1 locs1 0 0 Q (F0 m pc ls1 [.int res.1])) (x2 : Int32) (x3 : Int32) (x4 : Int32) (x5 : Int32) (z0 : Int32) (F : PF) (G : PG) (hm : mb_stores_27 fu x2 x3 x4 x5 z0 F G = some res) {H : Heap} {locs : List Loc} (hw : mMW s A v a F G H locs) {ls : Array Slot} (hl : lv_has ls 7 [(0, .ref (a 212)), (2, .int x2), (3, .int x3), (4, .int x4), (5, .int x5)]) : W p l e R s m args below meth c H locs 0 0 Q (F0 m 27 ls [.int z0]) := by
  have hx := C.1
  have hb := C.2.1
  unfold mb_stores_27 at hm
  refine lv_if_eq (tgt := 32) hx hb dX12_stores_27 (by decide) (fun c_1 => ?_) (fun c_1 => ?_)
  · have hm := (if_pos c_1).symm.trans hm
    exact mw_stores_32 fu C hret x2 x3 x4 x5 F G hm hw (lv_sub hl [0, 1, 2, 3, 4] rfl)
  · have hm := (if_neg c_1).symm.trans hm
    exact mw_stores_30 fu C hret F G hm hw (lv_sub hl [] rfl)
theorem mw_stores_23 (fu : Nat) {res : Int32 × PF × PG} (C : mMC p R s m args c A v RX12 cX12_stores 7 1 23) (hret : ∀ (H1 : Heap) (locs1 : List Loc) (ls1 : Array Slot) (pc : Nat), mMW s A v a res.2.1 res.2.2 H1 locs1 → narrow .int (.int res.1) = .int res.1 → decode cX12_stores pc = .ok (.ireturn, 1) → W p l e R s m args below meth c H1 locs1 0 0 Q (F0 m pc ls1 [.int res.1])) (x2 : Int32) (x3 : Int32) (x4 : Int32) (x5 : Int32) (F : PF) (G : PG) (hm : mb_stores_23 fu x2 x3 x4 x5 F G = some res) {H : Heap} {locs : List Loc} (hw : mMW s A v a F G H locs) {ls : Array Slot} (hl : lv_has ls 7 [(0, .ref (a 212)), (2, .int x2), (3, .int x3), (4, .int x4), (5, .int x5)]) : W p l e R s m args below meth c H locs 0 0 Q (F0 m 23 ls []) := by
  have hx := C.1
  have hb := C.2.1
  unfold mb_stores_23 at hm
  refine lv_iload_n hx hb dX12_stores_23 rfl (lv_at hl 1 rfl) ?_
  obtain ⟨⟨r1, F1, G1⟩, hc, hm⟩ := bind_elim hm
  refine mcallIS (n := 1) (As := [.int x2]) (rest := []) C hw (mk_isOut l v a _ fu x2 F G r1 F1 G1 hc) mm_464 mm_465 mm_27 mm_466 (by decide +kernel) rfl (by omega) (by omega) hl.1 rfl (Nat.le_of_ble_eq_true rfl) dX12_stores_24 (fun H locs hw => ?_)
  exact mw_stores_27 fu C hret x2 x3 x4 x5 r1 F1 G1 hm hw (lv_sub hl [0, 1, 2, 3, 4] rfl)
theorem mw_stores_21 (fu : Nat) {res : Int32 × PF × PG} (C : mMC p R s m args c A v RX12 cX12_stores 7 1 23) (hret : ∀ (H1 : Heap) (locs1 : List Loc) (ls1 : Array Slot) (pc : Nat), mMW s A v a res.2.1 res.2.2 H1 locs1 → narrow .int (.int res.1) = .int res.1 → decode cX12_stores pc = .ok (.ireturn, 1) → W p l e R s m args below meth c H1 locs1 0 0 Q (F0 m pc ls1 [.int res.1])) (F : PF) (G : PG) (hm : mb_stores_21 fu F G = some res) {H : Heap} {locs : List Loc} (hw : mMW s A v a F G H locs) {ls : Array Slot} (hl : lv_has ls 7 []) : W p l e R s m args below meth c H locs 0 0 Q (F0 m 21 ls []) := by
  have hx := C.1
  have hb := C.2.1
  unfold mb_stores_21 at hm
  refine lv_iconst (v := 4) hx hb dX12_stores_21 (by decide) ?_
  obtain rfl := Option.some.inj hm
  exact hret _ _ _ _ hw rfl dX12_stores_22
theorem mw_stores_7 (fu : Nat) {res : Int32 × PF × PG} (C : mMC p R s m args c A v RX12 cX12_stores 7 1 23) (hret : ∀ (H1 : Heap) (locs1 : List Loc) (ls1 : Array Slot) (pc : Nat), mMW s A v a res.2.1 res.2.2 H1 locs1 → narrow .int (.int res.1) = .int res.1 → decode cX12_stores pc = .ok (.ireturn, 1) → W p l e R s m args below meth c H1 locs1 0 0 Q (F0 m pc ls1 [.int res.1])) (x1 : Int32) (x2 : Int32) (x3 : Int32) (x4 : Int32) (F : PF) (G : PG) (hm : mb_stores_7 fu x1 x2 x3 x4 F G = some res) {H : Heap} {locs : List Loc} (hw : mMW s A v a F G H locs) {ls : Array Slot} (hl : lv_has ls 7 [(0, .ref (a 212)), (1, .int x1), (2, .int x2), (3, .int x3), (4, .int x4)]) : W p l e R s m args below meth c H locs 0 0 Q (F0 m 7 ls []) := by
  have hx := C.1
  have hb := C.2.1
  unfold mb_stores_7 at hm
  refine lv_iconst (v := 1) hx hb dX12_stores_7 (by decide) ?_
  refine lv_iload_n hx hb dX12_stores_8 rfl (lv_at hl 1 rfl) ?_
  refine lv_ishl hx hb dX12_stores_9 ?_
  refine lv_istore (lv' := [(5, .int ((1 : Int32) <<< (x1 &&& 31))), (0, .ref (a 212)), (1, .int x1), (2, .int x2), (3, .int x3), (4, .int x4)]) hx hb dX12_stores_10 hl (by decide) rfl (fun ls hl => ?_)
  refine lv_iload_n hx hb dX12_stores_12 rfl (lv_at hl 3 rfl) ?_
  refine lv_iload hx hb dX12_stores_13 (lv_at hl 0 rfl) ?_
  refine lv_iconst (v := 1) hx hb dX12_stores_15 (by decide) ?_
  refine lv_isub hx hb dX12_stores_16 ?_
  refine lv_iand hx hb dX12_stores_17 ?_
  refine lv_if_eq (tgt := 23) hx hb dX12_stores_18 (by decide) (fun c_1 => ?_) (fun c_1 => ?_)
  · have hm := (if_pos c_1).symm.trans hm
    exact mw_stores_23 fu C hret x2 x3 x4 ((1 : Int32) <<< (x1 &&& 31)) F G hm hw (lv_sub hl [1, 3, 4, 5, 0] rfl)
  · have hm := (if_neg c_1).symm.trans hm
    exact mw_stores_21 fu C hret F G hm hw (lv_sub hl [] rfl)
theorem mw_stores_5 (fu : Nat) {res : Int32 × PF × PG} (C : mMC p R s m args c A v RX12 cX12_stores 7 1 23) (hret : ∀ (H1 : Heap) (locs1 : List Loc) (ls1 : Array Slot) (pc : Nat), mMW s A v a res.2.1 res.2.2 H1 locs1 → narrow .int (.int res.1) = .int res.1 → decode cX12_stores pc = .ok (.ireturn, 1) → W p l e R s m args below meth c H1 locs1 0 0 Q (F0 m pc ls1 [.int res.1])) (F : PF) (G : PG) (hm : mb_stores_5 fu F G = some res) {H : Heap} {locs : List Loc} (hw : mMW s A v a F G H locs) {ls : Array Slot} (hl : lv_has ls 7 []) : W p l e R s m args below meth c H locs 0 0 Q (F0 m 5 ls []) := by
  have hx := C.1
  have hb := C.2.1
  unfold mb_stores_5 at hm
  refine lv_iconst (v := 2) hx hb dX12_stores_5 (by decide) ?_
  obtain rfl := Option.some.inj hm
  exact hret _ _ _ _ hw rfl dX12_stores_6
theorem mw_stores_0 (fu : Nat) {res : Int32 × PF × PG} (C : mMC p R s m args c A v RX12 cX12_stores 7 1 23) (hret : ∀ (H1 : Heap) (locs1 : List Loc) (ls1 : Array Slot) (pc : Nat), mMW s A v a res.2.1 res.2.2 H1 locs1 → narrow .int (.int res.1) = .int res.1 → decode cX12_stores pc = .ok (.ireturn, 1) → W p l e R s m args below meth c H1 locs1 0 0 Q (F0 m pc ls1 [.int res.1])) (x1 : Int32) (x2 : Int32) (x3 : Int32) (x4 : Int32) (F : PF) (G : PG) (hm : mb_stores_0 fu x1 x2 x3 x4 F G = some res) {H : Heap} {locs : List Loc} (hw : mMW s A v a F G H locs) {ls : Array Slot} (hl : lv_has ls 7 [(0, .ref (a 212)), (1, .int x1), (2, .int x2), (3, .int x3), (4, .int x4)]) : W p l e R s m args below meth c H locs 0 0 Q (F0 m 0 ls []) := by
  have hx := C.1
  have hb := C.2.1
  unfold mb_stores_0 at hm
  refine lv_iload_n hx hb dX12_stores_0 rfl (lv_at hl 1 rfl) ?_
  refine lv_iconst (v := 2) hx hb dX12_stores_1 (by decide) ?_
  refine lv_icmp_le (tgt := 7) hx hb dX12_stores_2 (by decide) (fun c_1 => ?_) (fun c_1 => ?_)
  · have hm := (if_pos c_1).symm.trans hm
    exact mw_stores_7 fu C hret x1 x2 x3 x4 F G hm hw (lv_sub hl [0, 1, 2, 3, 4] rfl)
  · have hm := (if_neg c_1).symm.trans hm
    exact mw_stores_5 fu C hret F G hm hw (lv_sub hl [] rfl)
theorem mk_stores (l : Launch) (v : EV) (a : Nat → Nat) (sz : Nat) (fu : Nat) (x1 : Int32) (x2 : Int32) (x3 : Int32) (x4 : Int32) (F : PF) (G : PG) (r : Int32) (F1 : PF) (G1 : PG) (hm : mf_stores fu x1 x2 x3 x4 F G = some (r, F1, G1)) : mMI l yX12_stores cX12_stores 7 (some .int) 1 23 v a sz [.ref (a 212), .int x1, .int x2, .int x3, .int x4] F G r F1 G1 := mMI.of (ty := .int) (by decide) rfl (Nat.le_of_ble_eq_true rfl) (fun p e R s m args below meth c Q A H locs ls C hw hl hret => mw_stores_0 fu (res := (r, F1, G1)) C hret x1 x2 x3 x4 F G hm hw hl)
def mb_product_64 (fu : Nat) (x1 : Int32) (x2 : Int32) (F : PF) (G : PG) : PR := some ((x1 * x2), F, G)
def mb_product_68 (fu : Nat) (x3 : Int64) (x5 : Int64) (F : PF) (G : PG) : PR := some ((((x3 * x5) >>> ((32 : Int32).toInt64 &&& 63)).toInt32), F, G)
def mb_product_77 (fu : Nat) (x3 : Int64) (x9 : Int64) (F : PF) (G : PG) : PR := some ((((x3 * x9) >>> ((32 : Int32).toInt64 &&& 63)).toInt32), F, G)
def mb_product_86 (fu : Nat) (x7 : Int64) (x9 : Int64) (F : PF) (G : PG) : PR := some (((((x7 * x9).toUInt64 >>> ((32 : Int32).toInt64.toUInt64 &&& Int64.toUInt64 63)).toInt64).toInt32), F, G)
def mb_product_101 (fu : Nat) (z0 : Int32) (F : PF) (G : PG) : PR := some (z0, F, G)
def mb_product_96 (fu : Nat) (x1 : Int32) (x2 : Int32) (F : PF) (G : PG) : PR := (mf_over fu x1 x2 F G).bind (fun q => mb_product_101 fu q.1 q.2.1 q.2.2)
def mb_product_116 (fu : Nat) (z0 : Int32) (F : PF) (G : PG) : PR := some (z0, F, G)
def mb_product_110 (fu : Nat) (x7 : Int64) (x9 : Int64) (F : PF) (G : PG) : PR := if x9 = 0 then none else (mb_product_116 fu ((x7 / x9).toInt32) F G)
def mb_product_106 (fu : Nat) (F : PF) (G : PG) : PR := mb_product_116 fu (-1) F G
def mb_product_102 (fu : Nat) (x2 : Int32) (x7 : Int64) (x9 : Int64) (F : PF) (G : PG) : PR := if x2 = (0 : Int32) then mb_product_106 fu F G else mb_product_110 fu x7 x9 F G
def mb_product_122 (fu : Nat) (z0 : Int32) (F : PF) (G : PG) : PR := some (z0, F, G)
def mb_product_117 (fu : Nat) (x1 : Int32) (x2 : Int32) (F : PF) (G : PG) : PR := (mf_rest fu x1 x2 F G).bind (fun q => mb_product_122 fu q.1 q.2.1 q.2.2)
def mb_product_137 (fu : Nat) (z0 : Int32) (F : PF) (G : PG) : PR := some (z0, F, G)
def mb_product_131 (fu : Nat) (x7 : Int64) (x9 : Int64) (F : PF) (G : PG) : PR := if x9 = 0 then none else (mb_product_137 fu ((x7 - x7 / x9 * x9).toInt32) F G)
def mb_product_127 (fu : Nat) (x1 : Int32) (F : PF) (G : PG) : PR := mb_product_137 fu x1 F G
def mb_product_123 (fu : Nat) (x1 : Int32) (x2 : Int32) (x7 : Int64) (x9 : Int64) (F : PF) (G : PG) : PR := if x2 = (0 : Int32) then mb_product_127 fu x1 F G else mb_product_131 fu x7 x9 F G
def mb_product_0 (fu : Nat) (x0 : Int32) (x1 : Int32) (x2 : Int32) (F : PF) (G : PG) : PR := if x0.toInt < 0 ∨ 6 < x0.toInt then mb_product_123 fu x1 x2 ((x1.toInt64) &&& (4294967295 : Int64)) ((x2.toInt64) &&& (4294967295 : Int64)) F G else if x0 = 0 then mb_product_64 fu x1 x2 F G else if x0 = 1 then mb_product_68 fu (x1.toInt64) (x2.toInt64) F G else if x0 = 2 then mb_product_77 fu (x1.toInt64) ((x2.toInt64) &&& (4294967295 : Int64)) F G else if x0 = 3 then mb_product_86 fu ((x1.toInt64) &&& (4294967295 : Int64)) ((x2.toInt64) &&& (4294967295 : Int64)) F G else if x0 = 4 then mb_product_96 fu x1 x2 F G else if x0 = 5 then mb_product_102 fu x2 ((x1.toInt64) &&& (4294967295 : Int64)) ((x2.toInt64) &&& (4294967295 : Int64)) F G else mb_product_117 fu x1 x2 F G
def mf_product (fu : Nat) (x0 : Int32) (x1 : Int32) (x2 : Int32) (F : PF) (G : PG) : PR := mb_product_0 fu x0 x1 x2 F G
theorem mw_product_64 (fu : Nat) {res : Int32 × PF × PG} (C : mMC p R s m args c A v RX12 cX12_product 11 1 21) (hret : ∀ (H1 : Heap) (locs1 : List Loc) (ls1 : Array Slot) (pc : Nat), mMW s A v a res.2.1 res.2.2 H1 locs1 → narrow .int (.int res.1) = .int res.1 → decode cX12_product pc = .ok (.ireturn, 1) → W p l e R s m args below meth c H1 locs1 0 0 Q (F0 m pc ls1 [.int res.1])) (x1 : Int32) (x2 : Int32) (F : PF) (G : PG) (hm : mb_product_64 fu x1 x2 F G = some res) {H : Heap} {locs : List Loc} (hw : mMW s A v a F G H locs) {ls : Array Slot} (hl : lv_has ls 11 [(1, .int x1), (2, .int x2)]) : W p l e R s m args below meth c H locs 0 0 Q (F0 m 64 ls []) := by
  have hx := C.1
  have hb := C.2.1
  unfold mb_product_64 at hm
  refine lv_iload_n hx hb dX12_product_64 rfl (lv_at hl 0 rfl) ?_
  refine lv_iload_n hx hb dX12_product_65 rfl (lv_at hl 1 rfl) ?_
  refine lv_imul hx hb dX12_product_66 ?_
  obtain rfl := Option.some.inj hm
  exact hret _ _ _ _ hw rfl dX12_product_67
theorem mw_product_68 (fu : Nat) {res : Int32 × PF × PG} (C : mMC p R s m args c A v RX12 cX12_product 11 1 21) (hret : ∀ (H1 : Heap) (locs1 : List Loc) (ls1 : Array Slot) (pc : Nat), mMW s A v a res.2.1 res.2.2 H1 locs1 → narrow .int (.int res.1) = .int res.1 → decode cX12_product pc = .ok (.ireturn, 1) → W p l e R s m args below meth c H1 locs1 0 0 Q (F0 m pc ls1 [.int res.1])) (x3 : Int64) (x5 : Int64) (F : PF) (G : PG) (hm : mb_product_68 fu x3 x5 F G = some res) {H : Heap} {locs : List Loc} (hw : mMW s A v a F G H locs) {ls : Array Slot} (hl : lv_has ls 11 [(3, .long x3), (5, .long x5)]) : W p l e R s m args below meth c H locs 0 0 Q (F0 m 68 ls []) := by
  have hx := C.1
  have hb := C.2.1
  unfold mb_product_68 at hm
  refine lv_lload_n hx hb dX12_product_68 rfl (lv_at hl 0 rfl) ?_
  refine lv_lload hx hb dX12_product_69 (lv_at hl 1 rfl) ?_
  refine lv_lmul hx hb dX12_product_71 ?_
  refine lv_bipush (v := 32) hx hb dX12_product_72 (by decide) ?_
  refine lv_lshr hx hb dX12_product_74 rfl ?_
  refine lv_l2i hx hb dX12_product_75 rfl ?_
  obtain rfl := Option.some.inj hm
  exact hret _ _ _ _ hw rfl dX12_product_76
theorem mw_product_77 (fu : Nat) {res : Int32 × PF × PG} (C : mMC p R s m args c A v RX12 cX12_product 11 1 21) (hret : ∀ (H1 : Heap) (locs1 : List Loc) (ls1 : Array Slot) (pc : Nat), mMW s A v a res.2.1 res.2.2 H1 locs1 → narrow .int (.int res.1) = .int res.1 → decode cX12_product pc = .ok (.ireturn, 1) → W p l e R s m args below meth c H1 locs1 0 0 Q (F0 m pc ls1 [.int res.1])) (x3 : Int64) (x9 : Int64) (F : PF) (G : PG) (hm : mb_product_77 fu x3 x9 F G = some res) {H : Heap} {locs : List Loc} (hw : mMW s A v a F G H locs) {ls : Array Slot} (hl : lv_has ls 11 [(3, .long x3), (9, .long x9)]) : W p l e R s m args below meth c H locs 0 0 Q (F0 m 77 ls []) := by
  have hx := C.1
  have hb := C.2.1
  unfold mb_product_77 at hm
  refine lv_lload_n hx hb dX12_product_77 rfl (lv_at hl 0 rfl) ?_
  refine lv_lload hx hb dX12_product_78 (lv_at hl 1 rfl) ?_
  refine lv_lmul hx hb dX12_product_80 ?_
  refine lv_bipush (v := 32) hx hb dX12_product_81 (by decide) ?_
  refine lv_lshr hx hb dX12_product_83 rfl ?_
  refine lv_l2i hx hb dX12_product_84 rfl ?_
  obtain rfl := Option.some.inj hm
  exact hret _ _ _ _ hw rfl dX12_product_85
theorem mw_product_86 (fu : Nat) {res : Int32 × PF × PG} (C : mMC p R s m args c A v RX12 cX12_product 11 1 21) (hret : ∀ (H1 : Heap) (locs1 : List Loc) (ls1 : Array Slot) (pc : Nat), mMW s A v a res.2.1 res.2.2 H1 locs1 → narrow .int (.int res.1) = .int res.1 → decode cX12_product pc = .ok (.ireturn, 1) → W p l e R s m args below meth c H1 locs1 0 0 Q (F0 m pc ls1 [.int res.1])) (x7 : Int64) (x9 : Int64) (F : PF) (G : PG) (hm : mb_product_86 fu x7 x9 F G = some res) {H : Heap} {locs : List Loc} (hw : mMW s A v a F G H locs) {ls : Array Slot} (hl : lv_has ls 11 [(7, .long x7), (9, .long x9)]) : W p l e R s m args below meth c H locs 0 0 Q (F0 m 86 ls []) := by
  have hx := C.1
  have hb := C.2.1
  unfold mb_product_86 at hm
  refine lv_lload hx hb dX12_product_86 (lv_at hl 0 rfl) ?_
  refine lv_lload hx hb dX12_product_88 (lv_at hl 1 rfl) ?_
  refine lv_lmul hx hb dX12_product_90 ?_
  refine lv_bipush (v := 32) hx hb dX12_product_91 (by decide) ?_
  refine lv_lushr hx hb dX12_product_93 rfl ?_
  refine lv_l2i hx hb dX12_product_94 rfl ?_
  obtain rfl := Option.some.inj hm
  exact hret _ _ _ _ hw rfl dX12_product_95
theorem mw_product_101 (fu : Nat) {res : Int32 × PF × PG} (C : mMC p R s m args c A v RX12 cX12_product 11 1 21) (hret : ∀ (H1 : Heap) (locs1 : List Loc) (ls1 : Array Slot) (pc : Nat), mMW s A v a res.2.1 res.2.2 H1 locs1 → narrow .int (.int res.1) = .int res.1 → decode cX12_product pc = .ok (.ireturn, 1) → W p l e R s m args below meth c H1 locs1 0 0 Q (F0 m pc ls1 [.int res.1])) (z0 : Int32) (F : PF) (G : PG) (hm : mb_product_101 fu z0 F G = some res) {H : Heap} {locs : List Loc} (hw : mMW s A v a F G H locs) {ls : Array Slot} (hl : lv_has ls 11 []) : W p l e R s m args below meth c H locs 0 0 Q (F0 m 101 ls [.int z0]) := by
  have hx := C.1
  have hb := C.2.1
  unfold mb_product_101 at hm
  obtain rfl := Option.some.inj hm
  exact hret _ _ _ _ hw rfl dX12_product_101
theorem mw_product_96 (fu : Nat) {res : Int32 × PF × PG} (C : mMC p R s m args c A v RX12 cX12_product 11 1 21) (hret : ∀ (H1 : Heap) (locs1 : List Loc) (ls1 : Array Slot) (pc : Nat), mMW s A v a res.2.1 res.2.2 H1 locs1 → narrow .int (.int res.1) = .int res.1 → decode cX12_product pc = .ok (.ireturn, 1) → W p l e R s m args below meth c H1 locs1 0 0 Q (F0 m pc ls1 [.int res.1])) (x1 : Int32) (x2 : Int32) (F : PF) (G : PG) (hm : mb_product_96 fu x1 x2 F G = some res) {H : Heap} {locs : List Loc} (hw : mMW s A v a F G H locs) {ls : Array Slot} (hl : lv_has ls 11 [(1, .int x1), (2, .int x2)]) : W p l e R s m args below meth c H locs 0 0 Q (F0 m 96 ls []) := by
  have hx := C.1
  have hb := C.2.1
  unfold mb_product_96 at hm
  refine lv_iload_n hx hb dX12_product_96 rfl (lv_at hl 0 rfl) ?_
  refine lv_iload_n hx hb dX12_product_97 rfl (lv_at hl 1 rfl) ?_
  obtain ⟨⟨r1, F1, G1⟩, hc, hm⟩ := bind_elim hm
  refine mcallIS (n := 2) (As := [.int x1, .int x2]) (rest := []) C hw (mk_over l v a _ fu x1 x2 F G r1 F1 G1 hc) mm_300 mm_301 mm_27 mm_302 (by decide +kernel) rfl (by omega) (by omega) hl.1 rfl (Nat.le_of_ble_eq_true rfl) dX12_product_98 (fun H locs hw => ?_)
  exact mw_product_101 fu C hret r1 F1 G1 hm hw (lv_sub hl [] rfl)
theorem mw_product_116 (fu : Nat) {res : Int32 × PF × PG} (C : mMC p R s m args c A v RX12 cX12_product 11 1 21) (hret : ∀ (H1 : Heap) (locs1 : List Loc) (ls1 : Array Slot) (pc : Nat), mMW s A v a res.2.1 res.2.2 H1 locs1 → narrow .int (.int res.1) = .int res.1 → decode cX12_product pc = .ok (.ireturn, 1) → W p l e R s m args below meth c H1 locs1 0 0 Q (F0 m pc ls1 [.int res.1])) (z0 : Int32) (F : PF) (G : PG) (hm : mb_product_116 fu z0 F G = some res) {H : Heap} {locs : List Loc} (hw : mMW s A v a F G H locs) {ls : Array Slot} (hl : lv_has ls 11 []) : W p l e R s m args below meth c H locs 0 0 Q (F0 m 116 ls [.int z0]) := by
  have hx := C.1
  have hb := C.2.1
  unfold mb_product_116 at hm
  obtain rfl := Option.some.inj hm
  exact hret _ _ _ _ hw rfl dX12_product_116
theorem mw_product_110 (fu : Nat) {res : Int32 × PF × PG} (C : mMC p R s m args c A v RX12 cX12_product 11 1 21) (hret : ∀ (H1 : Heap) (locs1 : List Loc) (ls1 : Array Slot) (pc : Nat), mMW s A v a res.2.1 res.2.2 H1 locs1 → narrow .int (.int res.1) = .int res.1 → decode cX12_product pc = .ok (.ireturn, 1) → W p l e R s m args below meth c H1 locs1 0 0 Q (F0 m pc ls1 [.int res.1])) (x7 : Int64) (x9 : Int64) (F : PF) (G : PG) (hm : mb_product_110 fu x7 x9 F G = some res) {H : Heap} {locs : List Loc} (hw : mMW s A v a F G H locs) {ls : Array Slot} (hl : lv_has ls 11 [(7, .long x7), (9, .long x9)]) : W p l e R s m args below meth c H locs 0 0 Q (F0 m 110 ls []) := by
  have hx := C.1
  have hb := C.2.1
  unfold mb_product_110 at hm
  refine lv_lload hx hb dX12_product_110 (lv_at hl 0 rfl) ?_
  refine lv_lload hx hb dX12_product_112 (lv_at hl 1 rfl) ?_
  obtain ⟨hne, hm⟩ := nz_elim hm
  refine lv_ldiv hx hb dX12_product_114 hne ?_
  refine lv_l2i hx hb dX12_product_115 rfl ?_
  exact mw_product_116 fu C hret ((x7 / x9).toInt32) F G hm hw (lv_sub hl [] rfl)
theorem mw_product_106 (fu : Nat) {res : Int32 × PF × PG} (C : mMC p R s m args c A v RX12 cX12_product 11 1 21) (hret : ∀ (H1 : Heap) (locs1 : List Loc) (ls1 : Array Slot) (pc : Nat), mMW s A v a res.2.1 res.2.2 H1 locs1 → narrow .int (.int res.1) = .int res.1 → decode cX12_product pc = .ok (.ireturn, 1) → W p l e R s m args below meth c H1 locs1 0 0 Q (F0 m pc ls1 [.int res.1])) (F : PF) (G : PG) (hm : mb_product_106 fu F G = some res) {H : Heap} {locs : List Loc} (hw : mMW s A v a F G H locs) {ls : Array Slot} (hl : lv_has ls 11 []) : W p l e R s m args below meth c H locs 0 0 Q (F0 m 106 ls []) := by
  have hx := C.1
  have hb := C.2.1
  unfold mb_product_106 at hm
  refine lv_iconst (v := (-1)) hx hb dX12_product_106 (by decide) ?_
  refine lv_goto (tgt := 116) hx hb dX12_product_107 (by decide) ?_
  exact mw_product_116 fu C hret (-1) F G hm hw (lv_sub hl [] rfl)
theorem mw_product_102 (fu : Nat) {res : Int32 × PF × PG} (C : mMC p R s m args c A v RX12 cX12_product 11 1 21) (hret : ∀ (H1 : Heap) (locs1 : List Loc) (ls1 : Array Slot) (pc : Nat), mMW s A v a res.2.1 res.2.2 H1 locs1 → narrow .int (.int res.1) = .int res.1 → decode cX12_product pc = .ok (.ireturn, 1) → W p l e R s m args below meth c H1 locs1 0 0 Q (F0 m pc ls1 [.int res.1])) (x2 : Int32) (x7 : Int64) (x9 : Int64) (F : PF) (G : PG) (hm : mb_product_102 fu x2 x7 x9 F G = some res) {H : Heap} {locs : List Loc} (hw : mMW s A v a F G H locs) {ls : Array Slot} (hl : lv_has ls 11 [(2, .int x2), (7, .long x7), (9, .long x9)]) : W p l e R s m args below meth c H locs 0 0 Q (F0 m 102 ls []) := by
  have hx := C.1
  have hb := C.2.1
  unfold mb_product_102 at hm
  refine lv_iload_n hx hb dX12_product_102 rfl (lv_at hl 0 rfl) ?_
  refine lv_if_ne (tgt := 110) hx hb dX12_product_103 (by decide) (fun c_1 => ?_) (fun c_1 => ?_)
  · have hm := (if_neg c_1).symm.trans hm
    exact mw_product_110 fu C hret x7 x9 F G hm hw (lv_sub hl [1, 2] rfl)
  · have hm := (if_pos c_1).symm.trans hm
    exact mw_product_106 fu C hret F G hm hw (lv_sub hl [] rfl)
theorem mw_product_122 (fu : Nat) {res : Int32 × PF × PG} (C : mMC p R s m args c A v RX12 cX12_product 11 1 21) (hret : ∀ (H1 : Heap) (locs1 : List Loc) (ls1 : Array Slot) (pc : Nat), mMW s A v a res.2.1 res.2.2 H1 locs1 → narrow .int (.int res.1) = .int res.1 → decode cX12_product pc = .ok (.ireturn, 1) → W p l e R s m args below meth c H1 locs1 0 0 Q (F0 m pc ls1 [.int res.1])) (z0 : Int32) (F : PF) (G : PG) (hm : mb_product_122 fu z0 F G = some res) {H : Heap} {locs : List Loc} (hw : mMW s A v a F G H locs) {ls : Array Slot} (hl : lv_has ls 11 []) : W p l e R s m args below meth c H locs 0 0 Q (F0 m 122 ls [.int z0]) := by
  have hx := C.1
  have hb := C.2.1
  unfold mb_product_122 at hm
  obtain rfl := Option.some.inj hm
  exact hret _ _ _ _ hw rfl dX12_product_122
theorem mw_product_117 (fu : Nat) {res : Int32 × PF × PG} (C : mMC p R s m args c A v RX12 cX12_product 11 1 21) (hret : ∀ (H1 : Heap) (locs1 : List Loc) (ls1 : Array Slot) (pc : Nat), mMW s A v a res.2.1 res.2.2 H1 locs1 → narrow .int (.int res.1) = .int res.1 → decode cX12_product pc = .ok (.ireturn, 1) → W p l e R s m args below meth c H1 locs1 0 0 Q (F0 m pc ls1 [.int res.1])) (x1 : Int32) (x2 : Int32) (F : PF) (G : PG) (hm : mb_product_117 fu x1 x2 F G = some res) {H : Heap} {locs : List Loc} (hw : mMW s A v a F G H locs) {ls : Array Slot} (hl : lv_has ls 11 [(1, .int x1), (2, .int x2)]) : W p l e R s m args below meth c H locs 0 0 Q (F0 m 117 ls []) := by
  have hx := C.1
  have hb := C.2.1
  unfold mb_product_117 at hm
  refine lv_iload_n hx hb dX12_product_117 rfl (lv_at hl 0 rfl) ?_
  refine lv_iload_n hx hb dX12_product_118 rfl (lv_at hl 1 rfl) ?_
  obtain ⟨⟨r1, F1, G1⟩, hc, hm⟩ := bind_elim hm
  refine mcallIS (n := 2) (As := [.int x1, .int x2]) (rest := []) C hw (mk_rest l v a _ fu x1 x2 F G r1 F1 G1 hc) mm_304 mm_305 mm_27 mm_306 (by decide +kernel) rfl (by omega) (by omega) hl.1 rfl (Nat.le_of_ble_eq_true rfl) dX12_product_119 (fun H locs hw => ?_)
  exact mw_product_122 fu C hret r1 F1 G1 hm hw (lv_sub hl [] rfl)
theorem mw_product_137 (fu : Nat) {res : Int32 × PF × PG} (C : mMC p R s m args c A v RX12 cX12_product 11 1 21) (hret : ∀ (H1 : Heap) (locs1 : List Loc) (ls1 : Array Slot) (pc : Nat), mMW s A v a res.2.1 res.2.2 H1 locs1 → narrow .int (.int res.1) = .int res.1 → decode cX12_product pc = .ok (.ireturn, 1) → W p l e R s m args below meth c H1 locs1 0 0 Q (F0 m pc ls1 [.int res.1])) (z0 : Int32) (F : PF) (G : PG) (hm : mb_product_137 fu z0 F G = some res) {H : Heap} {locs : List Loc} (hw : mMW s A v a F G H locs) {ls : Array Slot} (hl : lv_has ls 11 []) : W p l e R s m args below meth c H locs 0 0 Q (F0 m 137 ls [.int z0]) := by
  have hx := C.1
  have hb := C.2.1
  unfold mb_product_137 at hm
  obtain rfl := Option.some.inj hm
  exact hret _ _ _ _ hw rfl dX12_product_137
theorem mw_product_131 (fu : Nat) {res : Int32 × PF × PG} (C : mMC p R s m args c A v RX12 cX12_product 11 1 21) (hret : ∀ (H1 : Heap) (locs1 : List Loc) (ls1 : Array Slot) (pc : Nat), mMW s A v a res.2.1 res.2.2 H1 locs1 → narrow .int (.int res.1) = .int res.1 → decode cX12_product pc = .ok (.ireturn, 1) → W p l e R s m args below meth c H1 locs1 0 0 Q (F0 m pc ls1 [.int res.1])) (x7 : Int64) (x9 : Int64) (F : PF) (G : PG) (hm : mb_product_131 fu x7 x9 F G = some res) {H : Heap} {locs : List Loc} (hw : mMW s A v a F G H locs) {ls : Array Slot} (hl : lv_has ls 11 [(7, .long x7), (9, .long x9)]) : W p l e R s m args below meth c H locs 0 0 Q (F0 m 131 ls []) := by
  have hx := C.1
  have hb := C.2.1
  unfold mb_product_131 at hm
  refine lv_lload hx hb dX12_product_131 (lv_at hl 0 rfl) ?_
  refine lv_lload hx hb dX12_product_133 (lv_at hl 1 rfl) ?_
  obtain ⟨hne, hm⟩ := nz_elim hm
  refine lv_lrem hx hb dX12_product_135 hne ?_
  refine lv_l2i hx hb dX12_product_136 rfl ?_
  exact mw_product_137 fu C hret ((x7 - x7 / x9 * x9).toInt32) F G hm hw (lv_sub hl [] rfl)
theorem mw_product_127 (fu : Nat) {res : Int32 × PF × PG} (C : mMC p R s m args c A v RX12 cX12_product 11 1 21) (hret : ∀ (H1 : Heap) (locs1 : List Loc) (ls1 : Array Slot) (pc : Nat), mMW s A v a res.2.1 res.2.2 H1 locs1 → narrow .int (.int res.1) = .int res.1 → decode cX12_product pc = .ok (.ireturn, 1) → W p l e R s m args below meth c H1 locs1 0 0 Q (F0 m pc ls1 [.int res.1])) (x1 : Int32) (F : PF) (G : PG) (hm : mb_product_127 fu x1 F G = some res) {H : Heap} {locs : List Loc} (hw : mMW s A v a F G H locs) {ls : Array Slot} (hl : lv_has ls 11 [(1, .int x1)]) : W p l e R s m args below meth c H locs 0 0 Q (F0 m 127 ls []) := by
  have hx := C.1
  have hb := C.2.1
  unfold mb_product_127 at hm
  refine lv_iload_n hx hb dX12_product_127 rfl (lv_at hl 0 rfl) ?_
  refine lv_goto (tgt := 137) hx hb dX12_product_128 (by decide) ?_
  exact mw_product_137 fu C hret x1 F G hm hw (lv_sub hl [] rfl)
theorem mw_product_123 (fu : Nat) {res : Int32 × PF × PG} (C : mMC p R s m args c A v RX12 cX12_product 11 1 21) (hret : ∀ (H1 : Heap) (locs1 : List Loc) (ls1 : Array Slot) (pc : Nat), mMW s A v a res.2.1 res.2.2 H1 locs1 → narrow .int (.int res.1) = .int res.1 → decode cX12_product pc = .ok (.ireturn, 1) → W p l e R s m args below meth c H1 locs1 0 0 Q (F0 m pc ls1 [.int res.1])) (x1 : Int32) (x2 : Int32) (x7 : Int64) (x9 : Int64) (F : PF) (G : PG) (hm : mb_product_123 fu x1 x2 x7 x9 F G = some res) {H : Heap} {locs : List Loc} (hw : mMW s A v a F G H locs) {ls : Array Slot} (hl : lv_has ls 11 [(1, .int x1), (2, .int x2), (7, .long x7), (9, .long x9)]) : W p l e R s m args below meth c H locs 0 0 Q (F0 m 123 ls []) := by
  have hx := C.1
  have hb := C.2.1
  unfold mb_product_123 at hm
  refine lv_iload_n hx hb dX12_product_123 rfl (lv_at hl 1 rfl) ?_
  refine lv_if_ne (tgt := 131) hx hb dX12_product_124 (by decide) (fun c_1 => ?_) (fun c_1 => ?_)
  · have hm := (if_neg c_1).symm.trans hm
    exact mw_product_131 fu C hret x7 x9 F G hm hw (lv_sub hl [2, 3] rfl)
  · have hm := (if_pos c_1).symm.trans hm
    exact mw_product_127 fu C hret x1 F G hm hw (lv_sub hl [0] rfl)
theorem mw_product_0 (fu : Nat) {res : Int32 × PF × PG} (C : mMC p R s m args c A v RX12 cX12_product 11 1 21) (hret : ∀ (H1 : Heap) (locs1 : List Loc) (ls1 : Array Slot) (pc : Nat), mMW s A v a res.2.1 res.2.2 H1 locs1 → narrow .int (.int res.1) = .int res.1 → decode cX12_product pc = .ok (.ireturn, 1) → W p l e R s m args below meth c H1 locs1 0 0 Q (F0 m pc ls1 [.int res.1])) (x0 : Int32) (x1 : Int32) (x2 : Int32) (F : PF) (G : PG) (hm : mb_product_0 fu x0 x1 x2 F G = some res) {H : Heap} {locs : List Loc} (hw : mMW s A v a F G H locs) {ls : Array Slot} (hl : lv_has ls 11 [(0, .int x0), (1, .int x1), (2, .int x2)]) : W p l e R s m args below meth c H locs 0 0 Q (F0 m 0 ls []) := by
  have hx := C.1
  have hb := C.2.1
  unfold mb_product_0 at hm
  refine lv_iload_n hx hb dX12_product_0 rfl (lv_at hl 1 rfl) ?_
  refine lv_i2l hx hb dX12_product_1 rfl ?_
  refine lv_lstore_n (lv' := [(3, .long (x1.toInt64)), (0, .int x0), (1, .int x1), (2, .int x2)]) hx hb dX12_product_2 rfl hl (by decide) rfl (fun ls hl => ?_)
  refine lv_iload_n hx hb dX12_product_3 rfl (lv_at hl 3 rfl) ?_
  refine lv_i2l hx hb dX12_product_4 rfl ?_
  refine lv_lstore (lv' := [(5, .long (x2.toInt64)), (3, .long (x1.toInt64)), (0, .int x0), (1, .int x1), (2, .int x2)]) hx hb dX12_product_5 hl (by decide) rfl (fun ls hl => ?_)
  refine lv_lload_n hx hb dX12_product_7 rfl (lv_at hl 1 rfl) ?_
  refine lv_ldc2 (v := 4294967295) hx hb C.2.2.2.1 (C.2.2.2.2.1 _ mm_129) dX12_product_8 ?_
  refine lv_land hx hb dX12_product_11 ?_
  refine lv_lstore (lv' := [(7, .long ((x1.toInt64) &&& (4294967295 : Int64))), (5, .long (x2.toInt64)), (3, .long (x1.toInt64)), (0, .int x0), (1, .int x1), (2, .int x2)]) hx hb dX12_product_12 hl (by decide) rfl (fun ls hl => ?_)
  refine lv_lload hx hb dX12_product_14 (lv_at hl 1 rfl) ?_
  refine lv_ldc2 (v := 4294967295) hx hb C.2.2.2.1 (C.2.2.2.2.1 _ mm_129) dX12_product_16 ?_
  refine lv_land hx hb dX12_product_19 ?_
  refine lv_lstore (lv' := [(9, .long ((x2.toInt64) &&& (4294967295 : Int64))), (7, .long ((x1.toInt64) &&& (4294967295 : Int64))), (5, .long (x2.toInt64)), (3, .long (x1.toInt64)), (0, .int x0), (1, .int x1), (2, .int x2)]) hx hb dX12_product_20 hl (by decide) rfl (fun ls hl => ?_)
  refine lv_iload_n hx hb dX12_product_22 rfl (lv_at hl 4 rfl) ?_
  by_cases c_0 : x0.toInt < 0 ∨ 6 < x0.toInt
  · have hm := (if_pos c_0).symm.trans hm
    refine lv_tableOut (tgt := 123) hx hb dX12_product_23 c_0 (by decide) ?_
    exact mw_product_123 fu C hret x1 x2 ((x1.toInt64) &&& (4294967295 : Int64)) ((x2.toInt64) &&& (4294967295 : Int64)) F G hm hw (lv_sub hl [5, 6, 1, 0] rfl)
  have hm := (if_neg c_0).symm.trans hm
  by_cases c_1 : x0 = 0
  · have hm := (if_pos c_1).symm.trans hm
    refine my_top 0 c_1 ?_
    refine lv_tableIn (off := 41) (tgt := 64) hx hb dX12_product_23 (by decide) (by decide) (by decide) (by decide) ?_
    exact mw_product_64 fu C hret x1 x2 F G hm hw (lv_sub hl [5, 6] rfl)
  have hm := (if_neg c_1).symm.trans hm
  have n_0 := c_1
  clear c_1
  by_cases c_1 : x0 = 1
  · have hm := (if_pos c_1).symm.trans hm
    refine my_top 1 c_1 ?_
    refine lv_tableIn (off := 45) (tgt := 68) hx hb dX12_product_23 (by decide) (by decide) (by decide) (by decide) ?_
    exact mw_product_68 fu C hret (x1.toInt64) (x2.toInt64) F G hm hw (lv_sub hl [3, 2] rfl)
  have hm := (if_neg c_1).symm.trans hm
  have n_1 := c_1
  clear c_1
  by_cases c_1 : x0 = 2
  · have hm := (if_pos c_1).symm.trans hm
    refine my_top 2 c_1 ?_
    refine lv_tableIn (off := 54) (tgt := 77) hx hb dX12_product_23 (by decide) (by decide) (by decide) (by decide) ?_
    exact mw_product_77 fu C hret (x1.toInt64) ((x2.toInt64) &&& (4294967295 : Int64)) F G hm hw (lv_sub hl [3, 0] rfl)
  have hm := (if_neg c_1).symm.trans hm
  have n_2 := c_1
  clear c_1
  by_cases c_1 : x0 = 3
  · have hm := (if_pos c_1).symm.trans hm
    refine my_top 3 c_1 ?_
    refine lv_tableIn (off := 63) (tgt := 86) hx hb dX12_product_23 (by decide) (by decide) (by decide) (by decide) ?_
    exact mw_product_86 fu C hret ((x1.toInt64) &&& (4294967295 : Int64)) ((x2.toInt64) &&& (4294967295 : Int64)) F G hm hw (lv_sub hl [1, 0] rfl)
  have hm := (if_neg c_1).symm.trans hm
  have n_3 := c_1
  clear c_1
  by_cases c_1 : x0 = 4
  · have hm := (if_pos c_1).symm.trans hm
    refine my_top 4 c_1 ?_
    refine lv_tableIn (off := 73) (tgt := 96) hx hb dX12_product_23 (by decide) (by decide) (by decide) (by decide) ?_
    exact mw_product_96 fu C hret x1 x2 F G hm hw (lv_sub hl [5, 6] rfl)
  have hm := (if_neg c_1).symm.trans hm
  have n_4 := c_1
  clear c_1
  by_cases c_1 : x0 = 5
  · have hm := (if_pos c_1).symm.trans hm
    refine my_top 5 c_1 ?_
    refine lv_tableIn (off := 79) (tgt := 102) hx hb dX12_product_23 (by decide) (by decide) (by decide) (by decide) ?_
    exact mw_product_102 fu C hret x2 ((x1.toInt64) &&& (4294967295 : Int64)) ((x2.toInt64) &&& (4294967295 : Int64)) F G hm hw (lv_sub hl [6, 1, 0] rfl)
  have hm := (if_neg c_1).symm.trans hm
  have n_5 := c_1
  clear c_1
  have c_1 : x0 = 6 := my_last (l := 0) (k := 6) c_0 (by decide) (fun j hj => match j, hj with | 0, _ => fun h9 => n_0 (Int32.toInt_inj.mp (h9.trans (by decide))) | 1, _ => fun h9 => n_1 (Int32.toInt_inj.mp (h9.trans (by decide))) | 2, _ => fun h9 => n_2 (Int32.toInt_inj.mp (h9.trans (by decide))) | 3, _ => fun h9 => n_3 (Int32.toInt_inj.mp (h9.trans (by decide))) | 4, _ => fun h9 => n_4 (Int32.toInt_inj.mp (h9.trans (by decide))) | 5, _ => fun h9 => n_5 (Int32.toInt_inj.mp (h9.trans (by decide))) | q + 6, h => absurd h (by omega)) (by decide)
  refine my_top 6 c_1 ?_
  refine lv_tableIn (off := 94) (tgt := 117) hx hb dX12_product_23 (by decide) (by decide) (by decide) (by decide) ?_
  exact mw_product_117 fu C hret x1 x2 F G hm hw (lv_sub hl [5, 6] rfl)
theorem mk_product (l : Launch) (v : EV) (a : Nat → Nat) (sz : Nat) (fu : Nat) (x0 : Int32) (x1 : Int32) (x2 : Int32) (F : PF) (G : PG) (r : Int32) (F1 : PF) (G1 : PG) (hm : mf_product fu x0 x1 x2 F G = some (r, F1, G1)) : mMI l yX12_product cX12_product 11 (some .int) 1 21 v a sz [.int x0, .int x1, .int x2] F G r F1 G1 := mMI.of (ty := .int) (by decide) rfl (Nat.le_of_ble_eq_true rfl) (fun p e R s m args below meth c Q A H locs ls C hw hl hret => mw_product_0 fu (res := (r, F1, G1)) C hret x0 x1 x2 F G hm hw hl)
def mb_both_202 (fu : Nat) (z0 : Int32) (F : PF) (G : PG) : PR := some (z0, F, G)
def mb_both_194 (fu : Nat) (x6 : Int32) (F : PF) (G : PG) : PR := (mf_goesOn fu (x6 + (4 : Int32)) F G).bind (fun q => mb_both_202 fu q.1 q.2.1 q.2.2)
def mb_both_191 (fu : Nat) (x6 : Int32) (z0 : Int32) (z1 : Int32) (F : PF) (G : PG) : PR := (mf_gives fu z1 z0 F G).bind (fun q => mb_both_194 fu x6 q.2.1 q.2.2)
def mb_both_186 (fu : Nat) (x4 : Int32) (x5 : Int32) (x6 : Int32) (z0 : Int32) (F : PF) (G : PG) : PR := mb_both_191 fu x6 (x4 &&& x5) z0 F G
def mb_both_178 (fu : Nat) (x4 : Int32) (x5 : Int32) (x6 : Int32) (z0 : Int32) (F : PF) (G : PG) : PR := mb_both_191 fu x6 (x4 ||| x5) z0 F G
def mb_both_172 (fu : Nat) (x1 : Int32) (x4 : Int32) (x5 : Int32) (x6 : Int32) (z0 : Int32) (F : PF) (G : PG) : PR := if x1 = (6 : Int32) then mb_both_178 fu x4 x5 x6 z0 F G else mb_both_186 fu x4 x5 x6 z0 F G
def mb_both_161 (fu : Nat) (x4 : Int32) (x5 : Int32) (x6 : Int32) (z0 : Int32) (F : PF) (G : PG) : PR := mb_both_191 fu x6 ((x4.toUInt32 >>> ((x5 &&& (31 : Int32)).toUInt32 &&& Int32.toUInt32 31)).toInt32) z0 F G
def mb_both_156 (fu : Nat) (x1 : Int32) (x4 : Int32) (x5 : Int32) (x6 : Int32) (z0 : Int32) (F : PF) (G : PG) : PR := if x1 = (5 : Int32) then mb_both_161 fu x4 x5 x6 z0 F G else mb_both_172 fu x1 x4 x5 x6 z0 F G
def mb_both_148 (fu : Nat) (x4 : Int32) (x5 : Int32) (x6 : Int32) (z0 : Int32) (F : PF) (G : PG) : PR := mb_both_191 fu x6 (x4 ^^^ x5) z0 F G
def mb_both_143 (fu : Nat) (x1 : Int32) (x4 : Int32) (x5 : Int32) (x6 : Int32) (z0 : Int32) (F : PF) (G : PG) : PR := if x1 = (4 : Int32) then mb_both_148 fu x4 x5 x6 z0 F G else mb_both_156 fu x1 x4 x5 x6 z0 F G
def mb_both_140 (fu : Nat) (x6 : Int32) (z0 : Int32) (z1 : Int32) (F : PF) (G : PG) : PR := mb_both_191 fu x6 z0 z1 F G
def mb_both_123 (fu : Nat) (x4 : Int32) (x5 : Int32) (x6 : Int32) (z0 : Int32) (F : PF) (G : PG) : PR := (mf_doing fu 36 (x4 + (-2147483648 : Int32)) (x5 + (-2147483648 : Int32)) F G).bind (fun q => mb_both_140 fu x6 q.1 z0 q.2.1 q.2.2)
def mb_both_118 (fu : Nat) (x1 : Int32) (x4 : Int32) (x5 : Int32) (x6 : Int32) (z0 : Int32) (F : PF) (G : PG) : PR := if x1 = (3 : Int32) then mb_both_123 fu x4 x5 x6 z0 F G else mb_both_143 fu x1 x4 x5 x6 z0 F G
def mb_both_115 (fu : Nat) (x6 : Int32) (z0 : Int32) (z1 : Int32) (F : PF) (G : PG) : PR := mb_both_191 fu x6 z0 z1 F G
def mb_both_106 (fu : Nat) (x4 : Int32) (x5 : Int32) (x6 : Int32) (z0 : Int32) (F : PF) (G : PG) : PR := (mf_doing fu 36 x4 x5 F G).bind (fun q => mb_both_115 fu x6 q.1 z0 q.2.1 q.2.2)
def mb_both_101 (fu : Nat) (x1 : Int32) (x4 : Int32) (x5 : Int32) (x6 : Int32) (z0 : Int32) (F : PF) (G : PG) : PR := if x1 = (2 : Int32) then mb_both_106 fu x4 x5 x6 z0 F G else mb_both_118 fu x1 x4 x5 x6 z0 F G
def mb_both_90 (fu : Nat) (x4 : Int32) (x5 : Int32) (x6 : Int32) (z0 : Int32) (F : PF) (G : PG) : PR := mb_both_191 fu x6 (x4 <<< ((x5 &&& (31 : Int32)) &&& 31)) z0 F G
def mb_both_85 (fu : Nat) (x1 : Int32) (x4 : Int32) (x5 : Int32) (x6 : Int32) (z0 : Int32) (F : PF) (G : PG) : PR := if x1 = (1 : Int32) then mb_both_90 fu x4 x5 x6 z0 F G else mb_both_101 fu x1 x4 x5 x6 z0 F G
def mb_both_77 (fu : Nat) (x4 : Int32) (x5 : Int32) (x6 : Int32) (z0 : Int32) (F : PF) (G : PG) : PR := mb_both_191 fu x6 (x4 + x5) z0 F G
def mb_both_73 (fu : Nat) (x1 : Int32) (x4 : Int32) (x5 : Int32) (x6 : Int32) (z0 : Int32) (F : PF) (G : PG) : PR := if x1 = (0 : Int32) then mb_both_77 fu x4 x5 x6 z0 F G else mb_both_85 fu x1 x4 x5 x6 z0 F G
def mb_both_62 (fu : Nat) (x4 : Int32) (x5 : Int32) (x6 : Int32) (z0 : Int32) (F : PF) (G : PG) : PR := mb_both_191 fu x6 (x4 >>> ((x5 &&& (31 : Int32)) &&& 31)) z0 F G
def mb_both_54 (fu : Nat) (x4 : Int32) (x5 : Int32) (x6 : Int32) (z0 : Int32) (F : PF) (G : PG) : PR := mb_both_191 fu x6 (x4 - x5) z0 F G
def mb_both_50 (fu : Nat) (x1 : Int32) (x4 : Int32) (x5 : Int32) (x6 : Int32) (z0 : Int32) (F : PF) (G : PG) : PR := if x1 = (0 : Int32) then mb_both_54 fu x4 x5 x6 z0 F G else mb_both_62 fu x4 x5 x6 z0 F G
def mb_both_44 (fu : Nat) (x1 : Int32) (x2 : Int32) (x4 : Int32) (x5 : Int32) (x6 : Int32) (z0 : Int32) (F : PF) (G : PG) : PR := if x2 = (32 : Int32) then mb_both_50 fu x1 x4 x5 x6 z0 F G else mb_both_73 fu x1 x4 x5 x6 z0 F G
def mb_both_41 (fu : Nat) (x6 : Int32) (z0 : Int32) (z1 : Int32) (F : PF) (G : PG) : PR := mb_both_191 fu x6 z0 z1 F G
def mb_both_33 (fu : Nat) (x1 : Int32) (x4 : Int32) (x5 : Int32) (x6 : Int32) (z0 : Int32) (F : PF) (G : PG) : PR := (mf_product fu x1 x4 x5 F G).bind (fun q => mb_both_41 fu x6 q.1 z0 q.2.1 q.2.2)
def mb_both_26 (fu : Nat) (x1 : Int32) (x2 : Int32) (x3 : Int32) (x4 : Int32) (x5 : Int32) (x6 : Int32) (F : PF) (G : PG) : PR := if x2 = (1 : Int32) then mb_both_33 fu x1 x4 x5 x6 x3 F G else mb_both_44 fu x1 x2 x4 x5 x6 x3 F G
def mb_both_24 (fu : Nat) (F : PF) (G : PG) : PR := some (2, F, G)
def mb_both_19 (fu : Nat) (x1 : Int32) (x2 : Int32) (x3 : Int32) (x4 : Int32) (x5 : Int32) (x6 : Int32) (F : PF) (G : PG) : PR := if x1 = (5 : Int32) then mb_both_26 fu x1 x2 x3 x4 x5 x6 F G else mb_both_24 fu F G
def mb_both_15 (fu : Nat) (x1 : Int32) (x2 : Int32) (x3 : Int32) (x4 : Int32) (x5 : Int32) (x6 : Int32) (F : PF) (G : PG) : PR := if x1 = (0 : Int32) then mb_both_26 fu x1 x2 x3 x4 x5 x6 F G else mb_both_19 fu x1 x2 x3 x4 x5 x6 F G
def mb_both_9 (fu : Nat) (x1 : Int32) (x2 : Int32) (x3 : Int32) (x4 : Int32) (x5 : Int32) (x6 : Int32) (F : PF) (G : PG) : PR := if x2 = (32 : Int32) then mb_both_15 fu x1 x2 x3 x4 x5 x6 F G else mb_both_24 fu F G
def mb_both_4 (fu : Nat) (x1 : Int32) (x2 : Int32) (x3 : Int32) (x4 : Int32) (x5 : Int32) (x6 : Int32) (F : PF) (G : PG) : PR := if x2 = (1 : Int32) then mb_both_26 fu x1 x2 x3 x4 x5 x6 F G else mb_both_9 fu x1 x2 x3 x4 x5 x6 F G
def mb_both_0 (fu : Nat) (x1 : Int32) (x2 : Int32) (x3 : Int32) (x4 : Int32) (x5 : Int32) (x6 : Int32) (F : PF) (G : PG) : PR := if x2 = (0 : Int32) then mb_both_26 fu x1 x2 x3 x4 x5 x6 F G else mb_both_4 fu x1 x2 x3 x4 x5 x6 F G
def mf_both (fu : Nat) (x1 : Int32) (x2 : Int32) (x3 : Int32) (x4 : Int32) (x5 : Int32) (x6 : Int32) (F : PF) (G : PG) : PR := mb_both_0 fu x1 x2 x3 x4 x5 x6 F G
theorem mw_both_202 (fu : Nat) {res : Int32 × PF × PG} (C : mMC p R s m args c A v RX12 cX12_both 7 2 51) (hret : ∀ (H1 : Heap) (locs1 : List Loc) (ls1 : Array Slot) (pc : Nat), mMW s A v a res.2.1 res.2.2 H1 locs1 → narrow .int (.int res.1) = .int res.1 → decode cX12_both pc = .ok (.ireturn, 1) → W p l e R s m args below meth c H1 locs1 0 0 Q (F0 m pc ls1 [.int res.1])) (z0 : Int32) (F : PF) (G : PG) (hm : mb_both_202 fu z0 F G = some res) {H : Heap} {locs : List Loc} (hw : mMW s A v a F G H locs) {ls : Array Slot} (hl : lv_has ls 7 []) : W p l e R s m args below meth c H locs 0 0 Q (F0 m 202 ls [.int z0]) := by
  have hx := C.1
  have hb := C.2.1
  unfold mb_both_202 at hm
  obtain rfl := Option.some.inj hm
  exact hret _ _ _ _ hw rfl dX12_both_202
theorem mw_both_194 (fu : Nat) {res : Int32 × PF × PG} (C : mMC p R s m args c A v RX12 cX12_both 7 2 51) (hret : ∀ (H1 : Heap) (locs1 : List Loc) (ls1 : Array Slot) (pc : Nat), mMW s A v a res.2.1 res.2.2 H1 locs1 → narrow .int (.int res.1) = .int res.1 → decode cX12_both pc = .ok (.ireturn, 1) → W p l e R s m args below meth c H1 locs1 0 0 Q (F0 m pc ls1 [.int res.1])) (x6 : Int32) (F : PF) (G : PG) (hm : mb_both_194 fu x6 F G = some res) {H : Heap} {locs : List Loc} (hw : mMW s A v a F G H locs) {ls : Array Slot} (hl : lv_has ls 7 [(0, .ref (a 212)), (6, .int x6)]) : W p l e R s m args below meth c H locs 0 0 Q (F0 m 194 ls []) := by
  have hx := C.1
  have hb := C.2.1
  unfold mb_both_194 at hm
  refine lv_aload_n hx hb dX12_both_194 rfl (lv_at hl 0 rfl) ?_
  refine lv_iload hx hb dX12_both_195 (lv_at hl 1 rfl) ?_
  refine lv_iconst (v := 4) hx hb dX12_both_197 (by decide) ?_
  refine lv_iadd hx hb dX12_both_198 ?_
  obtain ⟨⟨r1, F1, G1⟩, hc, hm⟩ := bind_elim hm
  refine mcallI (n := 1) (As := [.int (x6 + (4 : Int32))]) (rest := []) C hw (mk_goesOn l v a _ fu (x6 + (4 : Int32)) F G r1 F1 G1 hc) (mrecv_X12 C hw) mm_474 mm_475 mm_476 mm_27 mm_477 (by decide +kernel) rfl (by omega) (by omega) hl.1 rfl (Nat.le_of_ble_eq_true rfl) dX12_both_199 (fun H locs hw => ?_)
  exact mw_both_202 fu C hret r1 F1 G1 hm hw (lv_sub hl [] rfl)
theorem mw_both_191 (fu : Nat) {res : Int32 × PF × PG} (C : mMC p R s m args c A v RX12 cX12_both 7 2 51) (hret : ∀ (H1 : Heap) (locs1 : List Loc) (ls1 : Array Slot) (pc : Nat), mMW s A v a res.2.1 res.2.2 H1 locs1 → narrow .int (.int res.1) = .int res.1 → decode cX12_both pc = .ok (.ireturn, 1) → W p l e R s m args below meth c H1 locs1 0 0 Q (F0 m pc ls1 [.int res.1])) (x6 : Int32) (z0 : Int32) (z1 : Int32) (F : PF) (G : PG) (hm : mb_both_191 fu x6 z0 z1 F G = some res) {H : Heap} {locs : List Loc} (hw : mMW s A v a F G H locs) {ls : Array Slot} (hl : lv_has ls 7 [(0, .ref (a 212)), (6, .int x6)]) : W p l e R s m args below meth c H locs 0 0 Q (F0 m 191 ls [.int z0, .int z1, .ref (a 212)]) := by
  have hx := C.1
  have hb := C.2.1
  unfold mb_both_191 at hm
  obtain ⟨⟨r1, F1, G1⟩, hc, hm⟩ := bind_elim hm
  refine mcallV (n := 2) (As := [.int z1, .int z0]) (rest := []) C hw (mk_gives l v a _ fu z1 z0 F G r1 F1 G1 hc) (mrecv_X12 C hw) mm_470 mm_471 mm_472 mm_27 mm_473 (by decide +kernel) rfl (by omega) (by omega) hl.1 rfl (Nat.le_of_ble_eq_true rfl) dX12_both_191 (fun H locs hw => ?_)
  exact mw_both_194 fu C hret x6 F1 G1 hm hw (lv_sub hl [0, 1] rfl)
theorem mw_both_186 (fu : Nat) {res : Int32 × PF × PG} (C : mMC p R s m args c A v RX12 cX12_both 7 2 51) (hret : ∀ (H1 : Heap) (locs1 : List Loc) (ls1 : Array Slot) (pc : Nat), mMW s A v a res.2.1 res.2.2 H1 locs1 → narrow .int (.int res.1) = .int res.1 → decode cX12_both pc = .ok (.ireturn, 1) → W p l e R s m args below meth c H1 locs1 0 0 Q (F0 m pc ls1 [.int res.1])) (x4 : Int32) (x5 : Int32) (x6 : Int32) (z0 : Int32) (F : PF) (G : PG) (hm : mb_both_186 fu x4 x5 x6 z0 F G = some res) {H : Heap} {locs : List Loc} (hw : mMW s A v a F G H locs) {ls : Array Slot} (hl : lv_has ls 7 [(0, .ref (a 212)), (4, .int x4), (5, .int x5), (6, .int x6)]) : W p l e R s m args below meth c H locs 0 0 Q (F0 m 186 ls [.int z0, .ref (a 212)]) := by
  have hx := C.1
  have hb := C.2.1
  unfold mb_both_186 at hm
  refine lv_iload hx hb dX12_both_186 (lv_at hl 1 rfl) ?_
  refine lv_iload hx hb dX12_both_188 (lv_at hl 2 rfl) ?_
  refine lv_iand hx hb dX12_both_190 ?_
  exact mw_both_191 fu C hret x6 (x4 &&& x5) z0 F G hm hw (lv_sub hl [0, 3] rfl)
theorem mw_both_178 (fu : Nat) {res : Int32 × PF × PG} (C : mMC p R s m args c A v RX12 cX12_both 7 2 51) (hret : ∀ (H1 : Heap) (locs1 : List Loc) (ls1 : Array Slot) (pc : Nat), mMW s A v a res.2.1 res.2.2 H1 locs1 → narrow .int (.int res.1) = .int res.1 → decode cX12_both pc = .ok (.ireturn, 1) → W p l e R s m args below meth c H1 locs1 0 0 Q (F0 m pc ls1 [.int res.1])) (x4 : Int32) (x5 : Int32) (x6 : Int32) (z0 : Int32) (F : PF) (G : PG) (hm : mb_both_178 fu x4 x5 x6 z0 F G = some res) {H : Heap} {locs : List Loc} (hw : mMW s A v a F G H locs) {ls : Array Slot} (hl : lv_has ls 7 [(0, .ref (a 212)), (4, .int x4), (5, .int x5), (6, .int x6)]) : W p l e R s m args below meth c H locs 0 0 Q (F0 m 178 ls [.int z0, .ref (a 212)]) := by
  have hx := C.1
  have hb := C.2.1
  unfold mb_both_178 at hm
  refine lv_iload hx hb dX12_both_178 (lv_at hl 1 rfl) ?_
  refine lv_iload hx hb dX12_both_180 (lv_at hl 2 rfl) ?_
  refine lv_ior hx hb dX12_both_182 ?_
  refine lv_goto (tgt := 191) hx hb dX12_both_183 (by decide) ?_
  exact mw_both_191 fu C hret x6 (x4 ||| x5) z0 F G hm hw (lv_sub hl [0, 3] rfl)
theorem mw_both_172 (fu : Nat) {res : Int32 × PF × PG} (C : mMC p R s m args c A v RX12 cX12_both 7 2 51) (hret : ∀ (H1 : Heap) (locs1 : List Loc) (ls1 : Array Slot) (pc : Nat), mMW s A v a res.2.1 res.2.2 H1 locs1 → narrow .int (.int res.1) = .int res.1 → decode cX12_both pc = .ok (.ireturn, 1) → W p l e R s m args below meth c H1 locs1 0 0 Q (F0 m pc ls1 [.int res.1])) (x1 : Int32) (x4 : Int32) (x5 : Int32) (x6 : Int32) (z0 : Int32) (F : PF) (G : PG) (hm : mb_both_172 fu x1 x4 x5 x6 z0 F G = some res) {H : Heap} {locs : List Loc} (hw : mMW s A v a F G H locs) {ls : Array Slot} (hl : lv_has ls 7 [(0, .ref (a 212)), (1, .int x1), (4, .int x4), (5, .int x5), (6, .int x6)]) : W p l e R s m args below meth c H locs 0 0 Q (F0 m 172 ls [.int z0, .ref (a 212)]) := by
  have hx := C.1
  have hb := C.2.1
  unfold mb_both_172 at hm
  refine lv_iload_n hx hb dX12_both_172 rfl (lv_at hl 1 rfl) ?_
  refine lv_bipush (v := 6) hx hb dX12_both_173 (by decide) ?_
  refine lv_icmp_ne (tgt := 186) hx hb dX12_both_175 (by decide) (fun c_1 => ?_) (fun c_1 => ?_)
  · have hm := (if_neg c_1).symm.trans hm
    exact mw_both_186 fu C hret x4 x5 x6 z0 F G hm hw (lv_sub hl [0, 2, 3, 4] rfl)
  · have hm := (if_pos c_1).symm.trans hm
    exact mw_both_178 fu C hret x4 x5 x6 z0 F G hm hw (lv_sub hl [0, 2, 3, 4] rfl)
theorem mw_both_161 (fu : Nat) {res : Int32 × PF × PG} (C : mMC p R s m args c A v RX12 cX12_both 7 2 51) (hret : ∀ (H1 : Heap) (locs1 : List Loc) (ls1 : Array Slot) (pc : Nat), mMW s A v a res.2.1 res.2.2 H1 locs1 → narrow .int (.int res.1) = .int res.1 → decode cX12_both pc = .ok (.ireturn, 1) → W p l e R s m args below meth c H1 locs1 0 0 Q (F0 m pc ls1 [.int res.1])) (x4 : Int32) (x5 : Int32) (x6 : Int32) (z0 : Int32) (F : PF) (G : PG) (hm : mb_both_161 fu x4 x5 x6 z0 F G = some res) {H : Heap} {locs : List Loc} (hw : mMW s A v a F G H locs) {ls : Array Slot} (hl : lv_has ls 7 [(0, .ref (a 212)), (4, .int x4), (5, .int x5), (6, .int x6)]) : W p l e R s m args below meth c H locs 0 0 Q (F0 m 161 ls [.int z0, .ref (a 212)]) := by
  have hx := C.1
  have hb := C.2.1
  unfold mb_both_161 at hm
  refine lv_iload hx hb dX12_both_161 (lv_at hl 1 rfl) ?_
  refine lv_iload hx hb dX12_both_163 (lv_at hl 2 rfl) ?_
  refine lv_bipush (v := 31) hx hb dX12_both_165 (by decide) ?_
  refine lv_iand hx hb dX12_both_167 ?_
  refine lv_iushr hx hb dX12_both_168 rfl ?_
  refine lv_goto (tgt := 191) hx hb dX12_both_169 (by decide) ?_
  exact mw_both_191 fu C hret x6 ((x4.toUInt32 >>> ((x5 &&& (31 : Int32)).toUInt32 &&& Int32.toUInt32 31)).toInt32) z0 F G hm hw (lv_sub hl [0, 3] rfl)
theorem mw_both_156 (fu : Nat) {res : Int32 × PF × PG} (C : mMC p R s m args c A v RX12 cX12_both 7 2 51) (hret : ∀ (H1 : Heap) (locs1 : List Loc) (ls1 : Array Slot) (pc : Nat), mMW s A v a res.2.1 res.2.2 H1 locs1 → narrow .int (.int res.1) = .int res.1 → decode cX12_both pc = .ok (.ireturn, 1) → W p l e R s m args below meth c H1 locs1 0 0 Q (F0 m pc ls1 [.int res.1])) (x1 : Int32) (x4 : Int32) (x5 : Int32) (x6 : Int32) (z0 : Int32) (F : PF) (G : PG) (hm : mb_both_156 fu x1 x4 x5 x6 z0 F G = some res) {H : Heap} {locs : List Loc} (hw : mMW s A v a F G H locs) {ls : Array Slot} (hl : lv_has ls 7 [(0, .ref (a 212)), (1, .int x1), (4, .int x4), (5, .int x5), (6, .int x6)]) : W p l e R s m args below meth c H locs 0 0 Q (F0 m 156 ls [.int z0, .ref (a 212)]) := by
  have hx := C.1
  have hb := C.2.1
  unfold mb_both_156 at hm
  refine lv_iload_n hx hb dX12_both_156 rfl (lv_at hl 1 rfl) ?_
  refine lv_iconst (v := 5) hx hb dX12_both_157 (by decide) ?_
  refine lv_icmp_ne (tgt := 172) hx hb dX12_both_158 (by decide) (fun c_1 => ?_) (fun c_1 => ?_)
  · have hm := (if_neg c_1).symm.trans hm
    exact mw_both_172 fu C hret x1 x4 x5 x6 z0 F G hm hw (lv_sub hl [0, 1, 2, 3, 4] rfl)
  · have hm := (if_pos c_1).symm.trans hm
    exact mw_both_161 fu C hret x4 x5 x6 z0 F G hm hw (lv_sub hl [0, 2, 3, 4] rfl)
theorem mw_both_148 (fu : Nat) {res : Int32 × PF × PG} (C : mMC p R s m args c A v RX12 cX12_both 7 2 51) (hret : ∀ (H1 : Heap) (locs1 : List Loc) (ls1 : Array Slot) (pc : Nat), mMW s A v a res.2.1 res.2.2 H1 locs1 → narrow .int (.int res.1) = .int res.1 → decode cX12_both pc = .ok (.ireturn, 1) → W p l e R s m args below meth c H1 locs1 0 0 Q (F0 m pc ls1 [.int res.1])) (x4 : Int32) (x5 : Int32) (x6 : Int32) (z0 : Int32) (F : PF) (G : PG) (hm : mb_both_148 fu x4 x5 x6 z0 F G = some res) {H : Heap} {locs : List Loc} (hw : mMW s A v a F G H locs) {ls : Array Slot} (hl : lv_has ls 7 [(0, .ref (a 212)), (4, .int x4), (5, .int x5), (6, .int x6)]) : W p l e R s m args below meth c H locs 0 0 Q (F0 m 148 ls [.int z0, .ref (a 212)]) := by
  have hx := C.1
  have hb := C.2.1
  unfold mb_both_148 at hm
  refine lv_iload hx hb dX12_both_148 (lv_at hl 1 rfl) ?_
  refine lv_iload hx hb dX12_both_150 (lv_at hl 2 rfl) ?_
  refine lv_ixor hx hb dX12_both_152 ?_
  refine lv_goto (tgt := 191) hx hb dX12_both_153 (by decide) ?_
  exact mw_both_191 fu C hret x6 (x4 ^^^ x5) z0 F G hm hw (lv_sub hl [0, 3] rfl)
theorem mw_both_143 (fu : Nat) {res : Int32 × PF × PG} (C : mMC p R s m args c A v RX12 cX12_both 7 2 51) (hret : ∀ (H1 : Heap) (locs1 : List Loc) (ls1 : Array Slot) (pc : Nat), mMW s A v a res.2.1 res.2.2 H1 locs1 → narrow .int (.int res.1) = .int res.1 → decode cX12_both pc = .ok (.ireturn, 1) → W p l e R s m args below meth c H1 locs1 0 0 Q (F0 m pc ls1 [.int res.1])) (x1 : Int32) (x4 : Int32) (x5 : Int32) (x6 : Int32) (z0 : Int32) (F : PF) (G : PG) (hm : mb_both_143 fu x1 x4 x5 x6 z0 F G = some res) {H : Heap} {locs : List Loc} (hw : mMW s A v a F G H locs) {ls : Array Slot} (hl : lv_has ls 7 [(0, .ref (a 212)), (1, .int x1), (4, .int x4), (5, .int x5), (6, .int x6)]) : W p l e R s m args below meth c H locs 0 0 Q (F0 m 143 ls [.int z0, .ref (a 212)]) := by
  have hx := C.1
  have hb := C.2.1
  unfold mb_both_143 at hm
  refine lv_iload_n hx hb dX12_both_143 rfl (lv_at hl 1 rfl) ?_
  refine lv_iconst (v := 4) hx hb dX12_both_144 (by decide) ?_
  refine lv_icmp_ne (tgt := 156) hx hb dX12_both_145 (by decide) (fun c_1 => ?_) (fun c_1 => ?_)
  · have hm := (if_neg c_1).symm.trans hm
    exact mw_both_156 fu C hret x1 x4 x5 x6 z0 F G hm hw (lv_sub hl [0, 1, 2, 3, 4] rfl)
  · have hm := (if_pos c_1).symm.trans hm
    exact mw_both_148 fu C hret x4 x5 x6 z0 F G hm hw (lv_sub hl [0, 2, 3, 4] rfl)
theorem mw_both_140 (fu : Nat) {res : Int32 × PF × PG} (C : mMC p R s m args c A v RX12 cX12_both 7 2 51) (hret : ∀ (H1 : Heap) (locs1 : List Loc) (ls1 : Array Slot) (pc : Nat), mMW s A v a res.2.1 res.2.2 H1 locs1 → narrow .int (.int res.1) = .int res.1 → decode cX12_both pc = .ok (.ireturn, 1) → W p l e R s m args below meth c H1 locs1 0 0 Q (F0 m pc ls1 [.int res.1])) (x6 : Int32) (z0 : Int32) (z1 : Int32) (F : PF) (G : PG) (hm : mb_both_140 fu x6 z0 z1 F G = some res) {H : Heap} {locs : List Loc} (hw : mMW s A v a F G H locs) {ls : Array Slot} (hl : lv_has ls 7 [(0, .ref (a 212)), (6, .int x6)]) : W p l e R s m args below meth c H locs 0 0 Q (F0 m 140 ls [.int z0, .int z1, .ref (a 212)]) := by
  have hx := C.1
  have hb := C.2.1
  unfold mb_both_140 at hm
  refine lv_goto (tgt := 191) hx hb dX12_both_140 (by decide) ?_
  exact mw_both_191 fu C hret x6 z0 z1 F G hm hw (lv_sub hl [0, 1] rfl)
theorem mw_both_123 (fu : Nat) {res : Int32 × PF × PG} (C : mMC p R s m args c A v RX12 cX12_both 7 2 51) (hret : ∀ (H1 : Heap) (locs1 : List Loc) (ls1 : Array Slot) (pc : Nat), mMW s A v a res.2.1 res.2.2 H1 locs1 → narrow .int (.int res.1) = .int res.1 → decode cX12_both pc = .ok (.ireturn, 1) → W p l e R s m args below meth c H1 locs1 0 0 Q (F0 m pc ls1 [.int res.1])) (x4 : Int32) (x5 : Int32) (x6 : Int32) (z0 : Int32) (F : PF) (G : PG) (hm : mb_both_123 fu x4 x5 x6 z0 F G = some res) {H : Heap} {locs : List Loc} (hw : mMW s A v a F G H locs) {ls : Array Slot} (hl : lv_has ls 7 [(0, .ref (a 212)), (4, .int x4), (5, .int x5), (6, .int x6)]) : W p l e R s m args below meth c H locs 0 0 Q (F0 m 123 ls [.int z0, .ref (a 212)]) := by
  have hx := C.1
  have hb := C.2.1
  unfold mb_both_123 at hm
  refine lv_bipush (v := 36) hx hb dX12_both_123 (by decide) ?_
  refine lv_iload hx hb dX12_both_125 (lv_at hl 1 rfl) ?_
  refine lv_ldcw (v := (-2147483648)) hx hb C.2.2.2.1 (C.2.2.2.2.1 _ mm_303) dX12_both_127 ?_
  refine lv_iadd hx hb dX12_both_130 ?_
  refine lv_iload hx hb dX12_both_131 (lv_at hl 2 rfl) ?_
  refine lv_ldcw (v := (-2147483648)) hx hb C.2.2.2.1 (C.2.2.2.2.1 _ mm_303) dX12_both_133 ?_
  refine lv_iadd hx hb dX12_both_136 ?_
  obtain ⟨⟨r1, F1, G1⟩, hc, hm⟩ := bind_elim hm
  refine mcallIS (n := 3) (As := [.int 36, .int (x4 + (-2147483648 : Int32)), .int (x5 + (-2147483648 : Int32))]) (rest := [.int z0, .ref (a 212)]) C hw (mk_doing l v a _ fu 36 (x4 + (-2147483648 : Int32)) (x5 + (-2147483648 : Int32)) F G r1 F1 G1 hc) mm_297 mm_298 mm_27 mm_299 (by decide +kernel) rfl (by omega) (by omega) hl.1 rfl (Nat.le_of_ble_eq_true rfl) dX12_both_137 (fun H locs hw => ?_)
  exact mw_both_140 fu C hret x6 r1 z0 F1 G1 hm hw (lv_sub hl [0, 3] rfl)
theorem mw_both_118 (fu : Nat) {res : Int32 × PF × PG} (C : mMC p R s m args c A v RX12 cX12_both 7 2 51) (hret : ∀ (H1 : Heap) (locs1 : List Loc) (ls1 : Array Slot) (pc : Nat), mMW s A v a res.2.1 res.2.2 H1 locs1 → narrow .int (.int res.1) = .int res.1 → decode cX12_both pc = .ok (.ireturn, 1) → W p l e R s m args below meth c H1 locs1 0 0 Q (F0 m pc ls1 [.int res.1])) (x1 : Int32) (x4 : Int32) (x5 : Int32) (x6 : Int32) (z0 : Int32) (F : PF) (G : PG) (hm : mb_both_118 fu x1 x4 x5 x6 z0 F G = some res) {H : Heap} {locs : List Loc} (hw : mMW s A v a F G H locs) {ls : Array Slot} (hl : lv_has ls 7 [(0, .ref (a 212)), (1, .int x1), (4, .int x4), (5, .int x5), (6, .int x6)]) : W p l e R s m args below meth c H locs 0 0 Q (F0 m 118 ls [.int z0, .ref (a 212)]) := by
  have hx := C.1
  have hb := C.2.1
  unfold mb_both_118 at hm
  refine lv_iload_n hx hb dX12_both_118 rfl (lv_at hl 1 rfl) ?_
  refine lv_iconst (v := 3) hx hb dX12_both_119 (by decide) ?_
  refine lv_icmp_ne (tgt := 143) hx hb dX12_both_120 (by decide) (fun c_1 => ?_) (fun c_1 => ?_)
  · have hm := (if_neg c_1).symm.trans hm
    exact mw_both_143 fu C hret x1 x4 x5 x6 z0 F G hm hw (lv_sub hl [0, 1, 2, 3, 4] rfl)
  · have hm := (if_pos c_1).symm.trans hm
    exact mw_both_123 fu C hret x4 x5 x6 z0 F G hm hw (lv_sub hl [0, 2, 3, 4] rfl)
theorem mw_both_115 (fu : Nat) {res : Int32 × PF × PG} (C : mMC p R s m args c A v RX12 cX12_both 7 2 51) (hret : ∀ (H1 : Heap) (locs1 : List Loc) (ls1 : Array Slot) (pc : Nat), mMW s A v a res.2.1 res.2.2 H1 locs1 → narrow .int (.int res.1) = .int res.1 → decode cX12_both pc = .ok (.ireturn, 1) → W p l e R s m args below meth c H1 locs1 0 0 Q (F0 m pc ls1 [.int res.1])) (x6 : Int32) (z0 : Int32) (z1 : Int32) (F : PF) (G : PG) (hm : mb_both_115 fu x6 z0 z1 F G = some res) {H : Heap} {locs : List Loc} (hw : mMW s A v a F G H locs) {ls : Array Slot} (hl : lv_has ls 7 [(0, .ref (a 212)), (6, .int x6)]) : W p l e R s m args below meth c H locs 0 0 Q (F0 m 115 ls [.int z0, .int z1, .ref (a 212)]) := by
  have hx := C.1
  have hb := C.2.1
  unfold mb_both_115 at hm
  refine lv_goto (tgt := 191) hx hb dX12_both_115 (by decide) ?_
  exact mw_both_191 fu C hret x6 z0 z1 F G hm hw (lv_sub hl [0, 1] rfl)
theorem mw_both_106 (fu : Nat) {res : Int32 × PF × PG} (C : mMC p R s m args c A v RX12 cX12_both 7 2 51) (hret : ∀ (H1 : Heap) (locs1 : List Loc) (ls1 : Array Slot) (pc : Nat), mMW s A v a res.2.1 res.2.2 H1 locs1 → narrow .int (.int res.1) = .int res.1 → decode cX12_both pc = .ok (.ireturn, 1) → W p l e R s m args below meth c H1 locs1 0 0 Q (F0 m pc ls1 [.int res.1])) (x4 : Int32) (x5 : Int32) (x6 : Int32) (z0 : Int32) (F : PF) (G : PG) (hm : mb_both_106 fu x4 x5 x6 z0 F G = some res) {H : Heap} {locs : List Loc} (hw : mMW s A v a F G H locs) {ls : Array Slot} (hl : lv_has ls 7 [(0, .ref (a 212)), (4, .int x4), (5, .int x5), (6, .int x6)]) : W p l e R s m args below meth c H locs 0 0 Q (F0 m 106 ls [.int z0, .ref (a 212)]) := by
  have hx := C.1
  have hb := C.2.1
  unfold mb_both_106 at hm
  refine lv_bipush (v := 36) hx hb dX12_both_106 (by decide) ?_
  refine lv_iload hx hb dX12_both_108 (lv_at hl 1 rfl) ?_
  refine lv_iload hx hb dX12_both_110 (lv_at hl 2 rfl) ?_
  obtain ⟨⟨r1, F1, G1⟩, hc, hm⟩ := bind_elim hm
  refine mcallIS (n := 3) (As := [.int 36, .int x4, .int x5]) (rest := [.int z0, .ref (a 212)]) C hw (mk_doing l v a _ fu 36 x4 x5 F G r1 F1 G1 hc) mm_297 mm_298 mm_27 mm_299 (by decide +kernel) rfl (by omega) (by omega) hl.1 rfl (Nat.le_of_ble_eq_true rfl) dX12_both_112 (fun H locs hw => ?_)
  exact mw_both_115 fu C hret x6 r1 z0 F1 G1 hm hw (lv_sub hl [0, 3] rfl)
theorem mw_both_101 (fu : Nat) {res : Int32 × PF × PG} (C : mMC p R s m args c A v RX12 cX12_both 7 2 51) (hret : ∀ (H1 : Heap) (locs1 : List Loc) (ls1 : Array Slot) (pc : Nat), mMW s A v a res.2.1 res.2.2 H1 locs1 → narrow .int (.int res.1) = .int res.1 → decode cX12_both pc = .ok (.ireturn, 1) → W p l e R s m args below meth c H1 locs1 0 0 Q (F0 m pc ls1 [.int res.1])) (x1 : Int32) (x4 : Int32) (x5 : Int32) (x6 : Int32) (z0 : Int32) (F : PF) (G : PG) (hm : mb_both_101 fu x1 x4 x5 x6 z0 F G = some res) {H : Heap} {locs : List Loc} (hw : mMW s A v a F G H locs) {ls : Array Slot} (hl : lv_has ls 7 [(0, .ref (a 212)), (1, .int x1), (4, .int x4), (5, .int x5), (6, .int x6)]) : W p l e R s m args below meth c H locs 0 0 Q (F0 m 101 ls [.int z0, .ref (a 212)]) := by
  have hx := C.1
  have hb := C.2.1
  unfold mb_both_101 at hm
  refine lv_iload_n hx hb dX12_both_101 rfl (lv_at hl 1 rfl) ?_
  refine lv_iconst (v := 2) hx hb dX12_both_102 (by decide) ?_
  refine lv_icmp_ne (tgt := 118) hx hb dX12_both_103 (by decide) (fun c_1 => ?_) (fun c_1 => ?_)
  · have hm := (if_neg c_1).symm.trans hm
    exact mw_both_118 fu C hret x1 x4 x5 x6 z0 F G hm hw (lv_sub hl [0, 1, 2, 3, 4] rfl)
  · have hm := (if_pos c_1).symm.trans hm
    exact mw_both_106 fu C hret x4 x5 x6 z0 F G hm hw (lv_sub hl [0, 2, 3, 4] rfl)
theorem mw_both_90 (fu : Nat) {res : Int32 × PF × PG} (C : mMC p R s m args c A v RX12 cX12_both 7 2 51) (hret : ∀ (H1 : Heap) (locs1 : List Loc) (ls1 : Array Slot) (pc : Nat), mMW s A v a res.2.1 res.2.2 H1 locs1 → narrow .int (.int res.1) = .int res.1 → decode cX12_both pc = .ok (.ireturn, 1) → W p l e R s m args below meth c H1 locs1 0 0 Q (F0 m pc ls1 [.int res.1])) (x4 : Int32) (x5 : Int32) (x6 : Int32) (z0 : Int32) (F : PF) (G : PG) (hm : mb_both_90 fu x4 x5 x6 z0 F G = some res) {H : Heap} {locs : List Loc} (hw : mMW s A v a F G H locs) {ls : Array Slot} (hl : lv_has ls 7 [(0, .ref (a 212)), (4, .int x4), (5, .int x5), (6, .int x6)]) : W p l e R s m args below meth c H locs 0 0 Q (F0 m 90 ls [.int z0, .ref (a 212)]) := by
  have hx := C.1
  have hb := C.2.1
  unfold mb_both_90 at hm
  refine lv_iload hx hb dX12_both_90 (lv_at hl 1 rfl) ?_
  refine lv_iload hx hb dX12_both_92 (lv_at hl 2 rfl) ?_
  refine lv_bipush (v := 31) hx hb dX12_both_94 (by decide) ?_
  refine lv_iand hx hb dX12_both_96 ?_
  refine lv_ishl hx hb dX12_both_97 ?_
  refine lv_goto (tgt := 191) hx hb dX12_both_98 (by decide) ?_
  exact mw_both_191 fu C hret x6 (x4 <<< ((x5 &&& (31 : Int32)) &&& 31)) z0 F G hm hw (lv_sub hl [0, 3] rfl)
theorem mw_both_85 (fu : Nat) {res : Int32 × PF × PG} (C : mMC p R s m args c A v RX12 cX12_both 7 2 51) (hret : ∀ (H1 : Heap) (locs1 : List Loc) (ls1 : Array Slot) (pc : Nat), mMW s A v a res.2.1 res.2.2 H1 locs1 → narrow .int (.int res.1) = .int res.1 → decode cX12_both pc = .ok (.ireturn, 1) → W p l e R s m args below meth c H1 locs1 0 0 Q (F0 m pc ls1 [.int res.1])) (x1 : Int32) (x4 : Int32) (x5 : Int32) (x6 : Int32) (z0 : Int32) (F : PF) (G : PG) (hm : mb_both_85 fu x1 x4 x5 x6 z0 F G = some res) {H : Heap} {locs : List Loc} (hw : mMW s A v a F G H locs) {ls : Array Slot} (hl : lv_has ls 7 [(0, .ref (a 212)), (1, .int x1), (4, .int x4), (5, .int x5), (6, .int x6)]) : W p l e R s m args below meth c H locs 0 0 Q (F0 m 85 ls [.int z0, .ref (a 212)]) := by
  have hx := C.1
  have hb := C.2.1
  unfold mb_both_85 at hm
  refine lv_iload_n hx hb dX12_both_85 rfl (lv_at hl 1 rfl) ?_
  refine lv_iconst (v := 1) hx hb dX12_both_86 (by decide) ?_
  refine lv_icmp_ne (tgt := 101) hx hb dX12_both_87 (by decide) (fun c_1 => ?_) (fun c_1 => ?_)
  · have hm := (if_neg c_1).symm.trans hm
    exact mw_both_101 fu C hret x1 x4 x5 x6 z0 F G hm hw (lv_sub hl [0, 1, 2, 3, 4] rfl)
  · have hm := (if_pos c_1).symm.trans hm
    exact mw_both_90 fu C hret x4 x5 x6 z0 F G hm hw (lv_sub hl [0, 2, 3, 4] rfl)
theorem mw_both_77 (fu : Nat) {res : Int32 × PF × PG} (C : mMC p R s m args c A v RX12 cX12_both 7 2 51) (hret : ∀ (H1 : Heap) (locs1 : List Loc) (ls1 : Array Slot) (pc : Nat), mMW s A v a res.2.1 res.2.2 H1 locs1 → narrow .int (.int res.1) = .int res.1 → decode cX12_both pc = .ok (.ireturn, 1) → W p l e R s m args below meth c H1 locs1 0 0 Q (F0 m pc ls1 [.int res.1])) (x4 : Int32) (x5 : Int32) (x6 : Int32) (z0 : Int32) (F : PF) (G : PG) (hm : mb_both_77 fu x4 x5 x6 z0 F G = some res) {H : Heap} {locs : List Loc} (hw : mMW s A v a F G H locs) {ls : Array Slot} (hl : lv_has ls 7 [(0, .ref (a 212)), (4, .int x4), (5, .int x5), (6, .int x6)]) : W p l e R s m args below meth c H locs 0 0 Q (F0 m 77 ls [.int z0, .ref (a 212)]) := by
  have hx := C.1
  have hb := C.2.1
  unfold mb_both_77 at hm
  refine lv_iload hx hb dX12_both_77 (lv_at hl 1 rfl) ?_
  refine lv_iload hx hb dX12_both_79 (lv_at hl 2 rfl) ?_
  refine lv_iadd hx hb dX12_both_81 ?_
  refine lv_goto (tgt := 191) hx hb dX12_both_82 (by decide) ?_
  exact mw_both_191 fu C hret x6 (x4 + x5) z0 F G hm hw (lv_sub hl [0, 3] rfl)
theorem mw_both_73 (fu : Nat) {res : Int32 × PF × PG} (C : mMC p R s m args c A v RX12 cX12_both 7 2 51) (hret : ∀ (H1 : Heap) (locs1 : List Loc) (ls1 : Array Slot) (pc : Nat), mMW s A v a res.2.1 res.2.2 H1 locs1 → narrow .int (.int res.1) = .int res.1 → decode cX12_both pc = .ok (.ireturn, 1) → W p l e R s m args below meth c H1 locs1 0 0 Q (F0 m pc ls1 [.int res.1])) (x1 : Int32) (x4 : Int32) (x5 : Int32) (x6 : Int32) (z0 : Int32) (F : PF) (G : PG) (hm : mb_both_73 fu x1 x4 x5 x6 z0 F G = some res) {H : Heap} {locs : List Loc} (hw : mMW s A v a F G H locs) {ls : Array Slot} (hl : lv_has ls 7 [(0, .ref (a 212)), (1, .int x1), (4, .int x4), (5, .int x5), (6, .int x6)]) : W p l e R s m args below meth c H locs 0 0 Q (F0 m 73 ls [.int z0, .ref (a 212)]) := by
  have hx := C.1
  have hb := C.2.1
  unfold mb_both_73 at hm
  refine lv_iload_n hx hb dX12_both_73 rfl (lv_at hl 1 rfl) ?_
  refine lv_if_ne (tgt := 85) hx hb dX12_both_74 (by decide) (fun c_1 => ?_) (fun c_1 => ?_)
  · have hm := (if_neg c_1).symm.trans hm
    exact mw_both_85 fu C hret x1 x4 x5 x6 z0 F G hm hw (lv_sub hl [0, 1, 2, 3, 4] rfl)
  · have hm := (if_pos c_1).symm.trans hm
    exact mw_both_77 fu C hret x4 x5 x6 z0 F G hm hw (lv_sub hl [0, 2, 3, 4] rfl)
theorem mw_both_62 (fu : Nat) {res : Int32 × PF × PG} (C : mMC p R s m args c A v RX12 cX12_both 7 2 51) (hret : ∀ (H1 : Heap) (locs1 : List Loc) (ls1 : Array Slot) (pc : Nat), mMW s A v a res.2.1 res.2.2 H1 locs1 → narrow .int (.int res.1) = .int res.1 → decode cX12_both pc = .ok (.ireturn, 1) → W p l e R s m args below meth c H1 locs1 0 0 Q (F0 m pc ls1 [.int res.1])) (x4 : Int32) (x5 : Int32) (x6 : Int32) (z0 : Int32) (F : PF) (G : PG) (hm : mb_both_62 fu x4 x5 x6 z0 F G = some res) {H : Heap} {locs : List Loc} (hw : mMW s A v a F G H locs) {ls : Array Slot} (hl : lv_has ls 7 [(0, .ref (a 212)), (4, .int x4), (5, .int x5), (6, .int x6)]) : W p l e R s m args below meth c H locs 0 0 Q (F0 m 62 ls [.int z0, .ref (a 212)]) := by
  have hx := C.1
  have hb := C.2.1
  unfold mb_both_62 at hm
  refine lv_iload hx hb dX12_both_62 (lv_at hl 1 rfl) ?_
  refine lv_iload hx hb dX12_both_64 (lv_at hl 2 rfl) ?_
  refine lv_bipush (v := 31) hx hb dX12_both_66 (by decide) ?_
  refine lv_iand hx hb dX12_both_68 ?_
  refine lv_ishr hx hb dX12_both_69 ?_
  refine lv_goto (tgt := 191) hx hb dX12_both_70 (by decide) ?_
  exact mw_both_191 fu C hret x6 (x4 >>> ((x5 &&& (31 : Int32)) &&& 31)) z0 F G hm hw (lv_sub hl [0, 3] rfl)
theorem mw_both_54 (fu : Nat) {res : Int32 × PF × PG} (C : mMC p R s m args c A v RX12 cX12_both 7 2 51) (hret : ∀ (H1 : Heap) (locs1 : List Loc) (ls1 : Array Slot) (pc : Nat), mMW s A v a res.2.1 res.2.2 H1 locs1 → narrow .int (.int res.1) = .int res.1 → decode cX12_both pc = .ok (.ireturn, 1) → W p l e R s m args below meth c H1 locs1 0 0 Q (F0 m pc ls1 [.int res.1])) (x4 : Int32) (x5 : Int32) (x6 : Int32) (z0 : Int32) (F : PF) (G : PG) (hm : mb_both_54 fu x4 x5 x6 z0 F G = some res) {H : Heap} {locs : List Loc} (hw : mMW s A v a F G H locs) {ls : Array Slot} (hl : lv_has ls 7 [(0, .ref (a 212)), (4, .int x4), (5, .int x5), (6, .int x6)]) : W p l e R s m args below meth c H locs 0 0 Q (F0 m 54 ls [.int z0, .ref (a 212)]) := by
  have hx := C.1
  have hb := C.2.1
  unfold mb_both_54 at hm
  refine lv_iload hx hb dX12_both_54 (lv_at hl 1 rfl) ?_
  refine lv_iload hx hb dX12_both_56 (lv_at hl 2 rfl) ?_
  refine lv_isub hx hb dX12_both_58 ?_
  refine lv_goto (tgt := 191) hx hb dX12_both_59 (by decide) ?_
  exact mw_both_191 fu C hret x6 (x4 - x5) z0 F G hm hw (lv_sub hl [0, 3] rfl)
theorem mw_both_50 (fu : Nat) {res : Int32 × PF × PG} (C : mMC p R s m args c A v RX12 cX12_both 7 2 51) (hret : ∀ (H1 : Heap) (locs1 : List Loc) (ls1 : Array Slot) (pc : Nat), mMW s A v a res.2.1 res.2.2 H1 locs1 → narrow .int (.int res.1) = .int res.1 → decode cX12_both pc = .ok (.ireturn, 1) → W p l e R s m args below meth c H1 locs1 0 0 Q (F0 m pc ls1 [.int res.1])) (x1 : Int32) (x4 : Int32) (x5 : Int32) (x6 : Int32) (z0 : Int32) (F : PF) (G : PG) (hm : mb_both_50 fu x1 x4 x5 x6 z0 F G = some res) {H : Heap} {locs : List Loc} (hw : mMW s A v a F G H locs) {ls : Array Slot} (hl : lv_has ls 7 [(0, .ref (a 212)), (1, .int x1), (4, .int x4), (5, .int x5), (6, .int x6)]) : W p l e R s m args below meth c H locs 0 0 Q (F0 m 50 ls [.int z0, .ref (a 212)]) := by
  have hx := C.1
  have hb := C.2.1
  unfold mb_both_50 at hm
  refine lv_iload_n hx hb dX12_both_50 rfl (lv_at hl 1 rfl) ?_
  refine lv_if_ne (tgt := 62) hx hb dX12_both_51 (by decide) (fun c_1 => ?_) (fun c_1 => ?_)
  · have hm := (if_neg c_1).symm.trans hm
    exact mw_both_62 fu C hret x4 x5 x6 z0 F G hm hw (lv_sub hl [0, 2, 3, 4] rfl)
  · have hm := (if_pos c_1).symm.trans hm
    exact mw_both_54 fu C hret x4 x5 x6 z0 F G hm hw (lv_sub hl [0, 2, 3, 4] rfl)
theorem mw_both_44 (fu : Nat) {res : Int32 × PF × PG} (C : mMC p R s m args c A v RX12 cX12_both 7 2 51) (hret : ∀ (H1 : Heap) (locs1 : List Loc) (ls1 : Array Slot) (pc : Nat), mMW s A v a res.2.1 res.2.2 H1 locs1 → narrow .int (.int res.1) = .int res.1 → decode cX12_both pc = .ok (.ireturn, 1) → W p l e R s m args below meth c H1 locs1 0 0 Q (F0 m pc ls1 [.int res.1])) (x1 : Int32) (x2 : Int32) (x4 : Int32) (x5 : Int32) (x6 : Int32) (z0 : Int32) (F : PF) (G : PG) (hm : mb_both_44 fu x1 x2 x4 x5 x6 z0 F G = some res) {H : Heap} {locs : List Loc} (hw : mMW s A v a F G H locs) {ls : Array Slot} (hl : lv_has ls 7 [(0, .ref (a 212)), (1, .int x1), (2, .int x2), (4, .int x4), (5, .int x5), (6, .int x6)]) : W p l e R s m args below meth c H locs 0 0 Q (F0 m 44 ls [.int z0, .ref (a 212)]) := by
  have hx := C.1
  have hb := C.2.1
  unfold mb_both_44 at hm
  refine lv_iload_n hx hb dX12_both_44 rfl (lv_at hl 2 rfl) ?_
  refine lv_bipush (v := 32) hx hb dX12_both_45 (by decide) ?_
  refine lv_icmp_ne (tgt := 73) hx hb dX12_both_47 (by decide) (fun c_1 => ?_) (fun c_1 => ?_)
  · have hm := (if_neg c_1).symm.trans hm
    exact mw_both_73 fu C hret x1 x4 x5 x6 z0 F G hm hw (lv_sub hl [0, 1, 3, 4, 5] rfl)
  · have hm := (if_pos c_1).symm.trans hm
    exact mw_both_50 fu C hret x1 x4 x5 x6 z0 F G hm hw (lv_sub hl [0, 1, 3, 4, 5] rfl)
theorem mw_both_41 (fu : Nat) {res : Int32 × PF × PG} (C : mMC p R s m args c A v RX12 cX12_both 7 2 51) (hret : ∀ (H1 : Heap) (locs1 : List Loc) (ls1 : Array Slot) (pc : Nat), mMW s A v a res.2.1 res.2.2 H1 locs1 → narrow .int (.int res.1) = .int res.1 → decode cX12_both pc = .ok (.ireturn, 1) → W p l e R s m args below meth c H1 locs1 0 0 Q (F0 m pc ls1 [.int res.1])) (x6 : Int32) (z0 : Int32) (z1 : Int32) (F : PF) (G : PG) (hm : mb_both_41 fu x6 z0 z1 F G = some res) {H : Heap} {locs : List Loc} (hw : mMW s A v a F G H locs) {ls : Array Slot} (hl : lv_has ls 7 [(0, .ref (a 212)), (6, .int x6)]) : W p l e R s m args below meth c H locs 0 0 Q (F0 m 41 ls [.int z0, .int z1, .ref (a 212)]) := by
  have hx := C.1
  have hb := C.2.1
  unfold mb_both_41 at hm
  refine lv_goto (tgt := 191) hx hb dX12_both_41 (by decide) ?_
  exact mw_both_191 fu C hret x6 z0 z1 F G hm hw (lv_sub hl [0, 1] rfl)
theorem mw_both_33 (fu : Nat) {res : Int32 × PF × PG} (C : mMC p R s m args c A v RX12 cX12_both 7 2 51) (hret : ∀ (H1 : Heap) (locs1 : List Loc) (ls1 : Array Slot) (pc : Nat), mMW s A v a res.2.1 res.2.2 H1 locs1 → narrow .int (.int res.1) = .int res.1 → decode cX12_both pc = .ok (.ireturn, 1) → W p l e R s m args below meth c H1 locs1 0 0 Q (F0 m pc ls1 [.int res.1])) (x1 : Int32) (x4 : Int32) (x5 : Int32) (x6 : Int32) (z0 : Int32) (F : PF) (G : PG) (hm : mb_both_33 fu x1 x4 x5 x6 z0 F G = some res) {H : Heap} {locs : List Loc} (hw : mMW s A v a F G H locs) {ls : Array Slot} (hl : lv_has ls 7 [(0, .ref (a 212)), (1, .int x1), (4, .int x4), (5, .int x5), (6, .int x6)]) : W p l e R s m args below meth c H locs 0 0 Q (F0 m 33 ls [.int z0, .ref (a 212)]) := by
  have hx := C.1
  have hb := C.2.1
  unfold mb_both_33 at hm
  refine lv_iload_n hx hb dX12_both_33 rfl (lv_at hl 1 rfl) ?_
  refine lv_iload hx hb dX12_both_34 (lv_at hl 2 rfl) ?_
  refine lv_iload hx hb dX12_both_36 (lv_at hl 3 rfl) ?_
  obtain ⟨⟨r1, F1, G1⟩, hc, hm⟩ := bind_elim hm
  refine mcallIS (n := 3) (As := [.int x1, .int x4, .int x5]) (rest := [.int z0, .ref (a 212)]) C hw (mk_product l v a _ fu x1 x4 x5 F G r1 F1 G1 hc) mm_511 mm_512 mm_27 mm_513 (by decide +kernel) rfl (by omega) (by omega) hl.1 rfl (Nat.le_of_ble_eq_true rfl) dX12_both_38 (fun H locs hw => ?_)
  exact mw_both_41 fu C hret x6 r1 z0 F1 G1 hm hw (lv_sub hl [0, 4] rfl)
theorem mw_both_26 (fu : Nat) {res : Int32 × PF × PG} (C : mMC p R s m args c A v RX12 cX12_both 7 2 51) (hret : ∀ (H1 : Heap) (locs1 : List Loc) (ls1 : Array Slot) (pc : Nat), mMW s A v a res.2.1 res.2.2 H1 locs1 → narrow .int (.int res.1) = .int res.1 → decode cX12_both pc = .ok (.ireturn, 1) → W p l e R s m args below meth c H1 locs1 0 0 Q (F0 m pc ls1 [.int res.1])) (x1 : Int32) (x2 : Int32) (x3 : Int32) (x4 : Int32) (x5 : Int32) (x6 : Int32) (F : PF) (G : PG) (hm : mb_both_26 fu x1 x2 x3 x4 x5 x6 F G = some res) {H : Heap} {locs : List Loc} (hw : mMW s A v a F G H locs) {ls : Array Slot} (hl : lv_has ls 7 [(0, .ref (a 212)), (1, .int x1), (2, .int x2), (3, .int x3), (4, .int x4), (5, .int x5), (6, .int x6)]) : W p l e R s m args below meth c H locs 0 0 Q (F0 m 26 ls []) := by
  have hx := C.1
  have hb := C.2.1
  unfold mb_both_26 at hm
  refine lv_aload_n hx hb dX12_both_26 rfl (lv_at hl 0 rfl) ?_
  refine lv_iload_n hx hb dX12_both_27 rfl (lv_at hl 3 rfl) ?_
  refine lv_iload_n hx hb dX12_both_28 rfl (lv_at hl 2 rfl) ?_
  refine lv_iconst (v := 1) hx hb dX12_both_29 (by decide) ?_
  refine lv_icmp_ne (tgt := 44) hx hb dX12_both_30 (by decide) (fun c_1 => ?_) (fun c_1 => ?_)
  · have hm := (if_neg c_1).symm.trans hm
    exact mw_both_44 fu C hret x1 x2 x4 x5 x6 x3 F G hm hw (lv_sub hl [0, 1, 2, 4, 5, 6] rfl)
  · have hm := (if_pos c_1).symm.trans hm
    exact mw_both_33 fu C hret x1 x4 x5 x6 x3 F G hm hw (lv_sub hl [0, 1, 4, 5, 6] rfl)
theorem mw_both_24 (fu : Nat) {res : Int32 × PF × PG} (C : mMC p R s m args c A v RX12 cX12_both 7 2 51) (hret : ∀ (H1 : Heap) (locs1 : List Loc) (ls1 : Array Slot) (pc : Nat), mMW s A v a res.2.1 res.2.2 H1 locs1 → narrow .int (.int res.1) = .int res.1 → decode cX12_both pc = .ok (.ireturn, 1) → W p l e R s m args below meth c H1 locs1 0 0 Q (F0 m pc ls1 [.int res.1])) (F : PF) (G : PG) (hm : mb_both_24 fu F G = some res) {H : Heap} {locs : List Loc} (hw : mMW s A v a F G H locs) {ls : Array Slot} (hl : lv_has ls 7 []) : W p l e R s m args below meth c H locs 0 0 Q (F0 m 24 ls []) := by
  have hx := C.1
  have hb := C.2.1
  unfold mb_both_24 at hm
  refine lv_iconst (v := 2) hx hb dX12_both_24 (by decide) ?_
  obtain rfl := Option.some.inj hm
  exact hret _ _ _ _ hw rfl dX12_both_25
theorem mw_both_19 (fu : Nat) {res : Int32 × PF × PG} (C : mMC p R s m args c A v RX12 cX12_both 7 2 51) (hret : ∀ (H1 : Heap) (locs1 : List Loc) (ls1 : Array Slot) (pc : Nat), mMW s A v a res.2.1 res.2.2 H1 locs1 → narrow .int (.int res.1) = .int res.1 → decode cX12_both pc = .ok (.ireturn, 1) → W p l e R s m args below meth c H1 locs1 0 0 Q (F0 m pc ls1 [.int res.1])) (x1 : Int32) (x2 : Int32) (x3 : Int32) (x4 : Int32) (x5 : Int32) (x6 : Int32) (F : PF) (G : PG) (hm : mb_both_19 fu x1 x2 x3 x4 x5 x6 F G = some res) {H : Heap} {locs : List Loc} (hw : mMW s A v a F G H locs) {ls : Array Slot} (hl : lv_has ls 7 [(0, .ref (a 212)), (1, .int x1), (2, .int x2), (3, .int x3), (4, .int x4), (5, .int x5), (6, .int x6)]) : W p l e R s m args below meth c H locs 0 0 Q (F0 m 19 ls []) := by
  have hx := C.1
  have hb := C.2.1
  unfold mb_both_19 at hm
  refine lv_iload_n hx hb dX12_both_19 rfl (lv_at hl 1 rfl) ?_
  refine lv_iconst (v := 5) hx hb dX12_both_20 (by decide) ?_
  refine lv_icmp_eq (tgt := 26) hx hb dX12_both_21 (by decide) (fun c_1 => ?_) (fun c_1 => ?_)
  · have hm := (if_pos c_1).symm.trans hm
    exact mw_both_26 fu C hret x1 x2 x3 x4 x5 x6 F G hm hw (lv_sub hl [0, 1, 2, 3, 4, 5, 6] rfl)
  · have hm := (if_neg c_1).symm.trans hm
    exact mw_both_24 fu C hret F G hm hw (lv_sub hl [] rfl)
theorem mw_both_15 (fu : Nat) {res : Int32 × PF × PG} (C : mMC p R s m args c A v RX12 cX12_both 7 2 51) (hret : ∀ (H1 : Heap) (locs1 : List Loc) (ls1 : Array Slot) (pc : Nat), mMW s A v a res.2.1 res.2.2 H1 locs1 → narrow .int (.int res.1) = .int res.1 → decode cX12_both pc = .ok (.ireturn, 1) → W p l e R s m args below meth c H1 locs1 0 0 Q (F0 m pc ls1 [.int res.1])) (x1 : Int32) (x2 : Int32) (x3 : Int32) (x4 : Int32) (x5 : Int32) (x6 : Int32) (F : PF) (G : PG) (hm : mb_both_15 fu x1 x2 x3 x4 x5 x6 F G = some res) {H : Heap} {locs : List Loc} (hw : mMW s A v a F G H locs) {ls : Array Slot} (hl : lv_has ls 7 [(0, .ref (a 212)), (1, .int x1), (2, .int x2), (3, .int x3), (4, .int x4), (5, .int x5), (6, .int x6)]) : W p l e R s m args below meth c H locs 0 0 Q (F0 m 15 ls []) := by
  have hx := C.1
  have hb := C.2.1
  unfold mb_both_15 at hm
  refine lv_iload_n hx hb dX12_both_15 rfl (lv_at hl 1 rfl) ?_
  refine lv_if_eq (tgt := 26) hx hb dX12_both_16 (by decide) (fun c_1 => ?_) (fun c_1 => ?_)
  · have hm := (if_pos c_1).symm.trans hm
    exact mw_both_26 fu C hret x1 x2 x3 x4 x5 x6 F G hm hw (lv_sub hl [0, 1, 2, 3, 4, 5, 6] rfl)
  · have hm := (if_neg c_1).symm.trans hm
    exact mw_both_19 fu C hret x1 x2 x3 x4 x5 x6 F G hm hw (lv_sub hl [0, 1, 2, 3, 4, 5, 6] rfl)
theorem mw_both_9 (fu : Nat) {res : Int32 × PF × PG} (C : mMC p R s m args c A v RX12 cX12_both 7 2 51) (hret : ∀ (H1 : Heap) (locs1 : List Loc) (ls1 : Array Slot) (pc : Nat), mMW s A v a res.2.1 res.2.2 H1 locs1 → narrow .int (.int res.1) = .int res.1 → decode cX12_both pc = .ok (.ireturn, 1) → W p l e R s m args below meth c H1 locs1 0 0 Q (F0 m pc ls1 [.int res.1])) (x1 : Int32) (x2 : Int32) (x3 : Int32) (x4 : Int32) (x5 : Int32) (x6 : Int32) (F : PF) (G : PG) (hm : mb_both_9 fu x1 x2 x3 x4 x5 x6 F G = some res) {H : Heap} {locs : List Loc} (hw : mMW s A v a F G H locs) {ls : Array Slot} (hl : lv_has ls 7 [(0, .ref (a 212)), (1, .int x1), (2, .int x2), (3, .int x3), (4, .int x4), (5, .int x5), (6, .int x6)]) : W p l e R s m args below meth c H locs 0 0 Q (F0 m 9 ls []) := by
  have hx := C.1
  have hb := C.2.1
  unfold mb_both_9 at hm
  refine lv_iload_n hx hb dX12_both_9 rfl (lv_at hl 2 rfl) ?_
  refine lv_bipush (v := 32) hx hb dX12_both_10 (by decide) ?_
  refine lv_icmp_ne (tgt := 24) hx hb dX12_both_12 (by decide) (fun c_1 => ?_) (fun c_1 => ?_)
  · have hm := (if_neg c_1).symm.trans hm
    exact mw_both_24 fu C hret F G hm hw (lv_sub hl [] rfl)
  · have hm := (if_pos c_1).symm.trans hm
    exact mw_both_15 fu C hret x1 x2 x3 x4 x5 x6 F G hm hw (lv_sub hl [0, 1, 2, 3, 4, 5, 6] rfl)
theorem mw_both_4 (fu : Nat) {res : Int32 × PF × PG} (C : mMC p R s m args c A v RX12 cX12_both 7 2 51) (hret : ∀ (H1 : Heap) (locs1 : List Loc) (ls1 : Array Slot) (pc : Nat), mMW s A v a res.2.1 res.2.2 H1 locs1 → narrow .int (.int res.1) = .int res.1 → decode cX12_both pc = .ok (.ireturn, 1) → W p l e R s m args below meth c H1 locs1 0 0 Q (F0 m pc ls1 [.int res.1])) (x1 : Int32) (x2 : Int32) (x3 : Int32) (x4 : Int32) (x5 : Int32) (x6 : Int32) (F : PF) (G : PG) (hm : mb_both_4 fu x1 x2 x3 x4 x5 x6 F G = some res) {H : Heap} {locs : List Loc} (hw : mMW s A v a F G H locs) {ls : Array Slot} (hl : lv_has ls 7 [(0, .ref (a 212)), (1, .int x1), (2, .int x2), (3, .int x3), (4, .int x4), (5, .int x5), (6, .int x6)]) : W p l e R s m args below meth c H locs 0 0 Q (F0 m 4 ls []) := by
  have hx := C.1
  have hb := C.2.1
  unfold mb_both_4 at hm
  refine lv_iload_n hx hb dX12_both_4 rfl (lv_at hl 2 rfl) ?_
  refine lv_iconst (v := 1) hx hb dX12_both_5 (by decide) ?_
  refine lv_icmp_eq (tgt := 26) hx hb dX12_both_6 (by decide) (fun c_1 => ?_) (fun c_1 => ?_)
  · have hm := (if_pos c_1).symm.trans hm
    exact mw_both_26 fu C hret x1 x2 x3 x4 x5 x6 F G hm hw (lv_sub hl [0, 1, 2, 3, 4, 5, 6] rfl)
  · have hm := (if_neg c_1).symm.trans hm
    exact mw_both_9 fu C hret x1 x2 x3 x4 x5 x6 F G hm hw (lv_sub hl [0, 1, 2, 3, 4, 5, 6] rfl)
theorem mw_both_0 (fu : Nat) {res : Int32 × PF × PG} (C : mMC p R s m args c A v RX12 cX12_both 7 2 51) (hret : ∀ (H1 : Heap) (locs1 : List Loc) (ls1 : Array Slot) (pc : Nat), mMW s A v a res.2.1 res.2.2 H1 locs1 → narrow .int (.int res.1) = .int res.1 → decode cX12_both pc = .ok (.ireturn, 1) → W p l e R s m args below meth c H1 locs1 0 0 Q (F0 m pc ls1 [.int res.1])) (x1 : Int32) (x2 : Int32) (x3 : Int32) (x4 : Int32) (x5 : Int32) (x6 : Int32) (F : PF) (G : PG) (hm : mb_both_0 fu x1 x2 x3 x4 x5 x6 F G = some res) {H : Heap} {locs : List Loc} (hw : mMW s A v a F G H locs) {ls : Array Slot} (hl : lv_has ls 7 [(0, .ref (a 212)), (1, .int x1), (2, .int x2), (3, .int x3), (4, .int x4), (5, .int x5), (6, .int x6)]) : W p l e R s m args below meth c H locs 0 0 Q (F0 m 0 ls []) := by
  have hx := C.1
  have hb := C.2.1
  unfold mb_both_0 at hm
  refine lv_iload_n hx hb dX12_both_0 rfl (lv_at hl 2 rfl) ?_
  refine lv_if_eq (tgt := 26) hx hb dX12_both_1 (by decide) (fun c_1 => ?_) (fun c_1 => ?_)
  · have hm := (if_pos c_1).symm.trans hm
    exact mw_both_26 fu C hret x1 x2 x3 x4 x5 x6 F G hm hw (lv_sub hl [0, 1, 2, 3, 4, 5, 6] rfl)
  · have hm := (if_neg c_1).symm.trans hm
    exact mw_both_4 fu C hret x1 x2 x3 x4 x5 x6 F G hm hw (lv_sub hl [0, 1, 2, 3, 4, 5, 6] rfl)
theorem mk_both (l : Launch) (v : EV) (a : Nat → Nat) (sz : Nat) (fu : Nat) (x1 : Int32) (x2 : Int32) (x3 : Int32) (x4 : Int32) (x5 : Int32) (x6 : Int32) (F : PF) (G : PG) (r : Int32) (F1 : PF) (G1 : PG) (hm : mf_both fu x1 x2 x3 x4 x5 x6 F G = some (r, F1, G1)) : mMI l yX12_both cX12_both 7 (some .int) 2 51 v a sz [.ref (a 212), .int x1, .int x2, .int x3, .int x4, .int x5, .int x6] F G r F1 G1 := mMI.of (ty := .int) (by decide) rfl (Nat.le_of_ble_eq_true rfl) (fun p e R s m args below meth c Q A H locs ls C hw hl hret => mw_both_0 fu (res := (r, F1, G1)) C hret x1 x2 x3 x4 x5 x6 F G hm hw hl)
def mb_byteAt_0 (fu : Nat) (x1 : Int32) (F : PF) (G : PG) : PR := if ixb (x1 >>> ((2 : Int32) &&& 31)) 4096 = true then (some (((((G 94 (x1 >>> ((2 : Int32) &&& 31)).toNatClampNeg).toUInt32 >>> (((8 : Int32) * (x1 &&& (3 : Int32))).toUInt32 &&& Int32.toUInt32 31)).toInt32) &&& (255 : Int32)), F, G)) else none
def mf_byteAt (fu : Nat) (x1 : Int32) (F : PF) (G : PG) : PR := mb_byteAt_0 fu x1 F G
theorem mw_byteAt_0 (fu : Nat) {res : Int32 × PF × PG} (C : mMC p R s m args c A v RX12 cX12_byteAt 2 0 0) (hret : ∀ (H1 : Heap) (locs1 : List Loc) (ls1 : Array Slot) (pc : Nat), mMW s A v a res.2.1 res.2.2 H1 locs1 → narrow .int (.int res.1) = .int res.1 → decode cX12_byteAt pc = .ok (.ireturn, 1) → W p l e R s m args below meth c H1 locs1 0 0 Q (F0 m pc ls1 [.int res.1])) (x1 : Int32) (F : PF) (G : PG) (hm : mb_byteAt_0 fu x1 F G = some res) {H : Heap} {locs : List Loc} (hw : mMW s A v a F G H locs) {ls : Array Slot} (hl : lv_has ls 2 [(0, .ref (a 212)), (1, .int x1)]) : W p l e R s m args below meth c H locs 0 0 Q (F0 m 0 ls []) := by
  have hx := C.1
  have hb := C.2.1
  unfold mb_byteAt_0 at hm
  refine lv_aload_n hx hb dX12_byteAt_0 rfl (lv_at hl 0 rfl) ?_
  refine mg_X12_147 C hw dX12_byteAt_1 ?_
  refine lv_iload_n hx hb dX12_byteAt_4 rfl (lv_at hl 1 rfl) ?_
  refine lv_iconst (v := 2) hx hb dX12_byteAt_5 (by decide) ?_
  refine lv_ishr hx hb dX12_byteAt_6 ?_
  obtain ⟨hi, hm⟩ := ix_elim hm
  refine mal_94 C hw hi dX12_byteAt_7 ?_
  refine lv_bipush (v := 8) hx hb dX12_byteAt_8 (by decide) ?_
  refine lv_iload_n hx hb dX12_byteAt_10 rfl (lv_at hl 1 rfl) ?_
  refine lv_iconst (v := 3) hx hb dX12_byteAt_11 (by decide) ?_
  refine lv_iand hx hb dX12_byteAt_12 ?_
  refine lv_imul hx hb dX12_byteAt_13 ?_
  refine lv_iushr hx hb dX12_byteAt_14 rfl ?_
  refine lv_sipush (v := 255) hx hb dX12_byteAt_15 (by decide) ?_
  refine lv_iand hx hb dX12_byteAt_18 ?_
  obtain rfl := Option.some.inj hm
  exact hret _ _ _ _ hw rfl dX12_byteAt_19
theorem mk_byteAt (l : Launch) (v : EV) (a : Nat → Nat) (sz : Nat) (fu : Nat) (x1 : Int32) (F : PF) (G : PG) (r : Int32) (F1 : PF) (G1 : PG) (hm : mf_byteAt fu x1 F G = some (r, F1, G1)) : mMI l yX12_byteAt cX12_byteAt 2 (some .int) 0 0 v a sz [.ref (a 212), .int x1] F G r F1 G1 := mMI.of (ty := .int) (by decide) rfl (Nat.le_of_ble_eq_true rfl) (fun p e R s m args below meth c Q A H locs ls C hw hl hret => mw_byteAt_0 fu (res := (r, F1, G1)) C hret x1 F G hm hw hl)
def mb_loads_10 (fu : Nat) (F : PF) (G : PG) : PR := some (2, F, G)
def mb_loads_127 (fu : Nat) (z0 : Int32) (F : PF) (G : PG) : PR := some (z0, F, G)
def mb_loads_119 (fu : Nat) (x4 : Int32) (F : PF) (G : PG) : PR := (mf_goesOn fu (x4 + (4 : Int32)) F G).bind (fun q => mb_loads_127 fu q.1 q.2.1 q.2.2)
def mb_loads_116 (fu : Nat) (x4 : Int32) (z0 : Int32) (z1 : Int32) (F : PF) (G : PG) : PR := (mf_gives fu z1 z0 F G).bind (fun q => mb_loads_119 fu x4 q.2.1 q.2.2)
def mb_loads_114 (fu : Nat) (x4 : Int32) (x6 : Int32) (z0 : Int32) (F : PF) (G : PG) : PR := mb_loads_116 fu x4 x6 z0 F G
def mb_loads_108 (fu : Nat) (x4 : Int32) (x6 : Int32) (z0 : Int32) (F : PF) (G : PG) : PR := mb_loads_116 fu x4 (x6.toInt16.toInt32) z0 F G
def mb_loads_103 (fu : Nat) (x1 : Int32) (x4 : Int32) (x6 : Int32) (z0 : Int32) (F : PF) (G : PG) : PR := if x1 = (1 : Int32) then mb_loads_108 fu x4 x6 z0 F G else mb_loads_114 fu x4 x6 z0 F G
def mb_loads_97 (fu : Nat) (x4 : Int32) (x6 : Int32) (z0 : Int32) (F : PF) (G : PG) : PR := mb_loads_116 fu x4 (x6.toInt8.toInt32) z0 F G
def mb_loads_91 (fu : Nat) (x1 : Int32) (x2 : Int32) (x4 : Int32) (x6 : Int32) (F : PF) (G : PG) : PR := if x1 = (0 : Int32) then mb_loads_97 fu x4 x6 x2 F G else mb_loads_103 fu x1 x4 x6 x2 F G
def mb_loads_82 (fu : Nat) (ag_64 : Int32 → Int32 → Int32 → Int32 → Int32 → Int32 → PF → PG → PR) (x1 : Int32) (x2 : Int32) (x3 : Int32) (x4 : Int32) (x7 : Int32) (z0 : Int32) (z1 : Int32) (F : PF) (G : PG) : PR := ag_64 x1 x2 x3 x4 (z1 ||| z0) (x7 + (-1)) F G
def mb_loads_69 (fu : Nat) (ag_64 : Int32 → Int32 → Int32 → Int32 → Int32 → Int32 → PF → PG → PR) (x1 : Int32) (x2 : Int32) (x3 : Int32) (x4 : Int32) (x6 : Int32) (x7 : Int32) (F : PF) (G : PG) : PR := (mf_byteAt fu (x3 + x7) F G).bind (fun q => mb_loads_82 fu ag_64 x1 x2 x3 x4 x7 q.1 (x6 <<< ((8 : Int32) &&& 31)) q.2.1 q.2.2)
def mb_loads_64 (fu : Nat) (ag_64 : Int32 → Int32 → Int32 → Int32 → Int32 → Int32 → PF → PG → PR) (x1 : Int32) (x2 : Int32) (x3 : Int32) (x4 : Int32) (x6 : Int32) (x7 : Int32) (F : PF) (G : PG) : PR := if x7 < (0 : Int32) then mb_loads_91 fu x1 x2 x4 x6 F G else mb_loads_69 fu ag_64 x1 x2 x3 x4 x6 x7 F G
def ml_loads_64 (fu : Nat) : Nat → Int32 → Int32 → Int32 → Int32 → Int32 → Int32 → PF → PG → PR
  | 0 => fun _ _ _ _ _ _ _ _ => none
  | n + 1 => fun x1 x2 x3 x4 x6 x7 F G => mb_loads_64 fu (ml_loads_64 fu n) x1 x2 x3 x4 x6 x7 F G
def mb_loads_55 (fu : Nat) (x1 : Int32) (x2 : Int32) (x3 : Int32) (x4 : Int32) (x5 : Int32) (F : PF) (G : PG) : PR := ml_loads_64 fu fu x1 x2 x3 x4 0 (x5 - (1 : Int32)) F G
def mb_loads_53 (fu : Nat) (F : PF) (G : PG) : PR := some (5, F, G)
def mb_loads_50 (fu : Nat) (x1 : Int32) (x2 : Int32) (x3 : Int32) (x4 : Int32) (x5 : Int32) (z0 : Int32) (F : PF) (G : PG) : PR := if z0 = (0 : Int32) then mb_loads_55 fu x1 x2 x3 x4 x5 F G else mb_loads_53 fu F G
def mb_loads_46 (fu : Nat) (x1 : Int32) (x2 : Int32) (x3 : Int32) (x4 : Int32) (x5 : Int32) (F : PF) (G : PG) : PR := (mf_isOut fu x3 F G).bind (fun q => mb_loads_50 fu x1 x2 x3 x4 x5 q.1 q.2.1 q.2.2)
def mb_loads_44 (fu : Nat) (F : PF) (G : PG) : PR := some (4, F, G)
def mb_loads_33 (fu : Nat) (x1 : Int32) (x2 : Int32) (x3 : Int32) (x4 : Int32) (z0 : Int32) (F : PF) (G : PG) : PR := if (x3 &&& (z0 - (1 : Int32))) = (0 : Int32) then mb_loads_46 fu x1 x2 x3 x4 z0 F G else mb_loads_44 fu F G
def mb_loads_32 (fu : Nat) (x1 : Int32) (x2 : Int32) (x3 : Int32) (x4 : Int32) (F : PF) (G : PG) : PR := mb_loads_33 fu x1 x2 x3 x4 1 F G
def mb_loads_28 (fu : Nat) (x1 : Int32) (x2 : Int32) (x3 : Int32) (x4 : Int32) (F : PF) (G : PG) : PR := mb_loads_33 fu x1 x2 x3 x4 2 F G
def mb_loads_21 (fu : Nat) (x1 : Int32) (x2 : Int32) (x3 : Int32) (x4 : Int32) (F : PF) (G : PG) : PR := if (x1 &&& (3 : Int32)) = (1 : Int32) then mb_loads_28 fu x1 x2 x3 x4 F G else mb_loads_32 fu x1 x2 x3 x4 F G
def mb_loads_17 (fu : Nat) (x1 : Int32) (x2 : Int32) (x3 : Int32) (x4 : Int32) (F : PF) (G : PG) : PR := mb_loads_33 fu x1 x2 x3 x4 4 F G
def mb_loads_12 (fu : Nat) (x1 : Int32) (x2 : Int32) (x3 : Int32) (x4 : Int32) (F : PF) (G : PG) : PR := if x1 = (2 : Int32) then mb_loads_17 fu x1 x2 x3 x4 F G else mb_loads_21 fu x1 x2 x3 x4 F G
def mb_loads_5 (fu : Nat) (x1 : Int32) (x2 : Int32) (x3 : Int32) (x4 : Int32) (F : PF) (G : PG) : PR := if x1 ≤ (5 : Int32) then mb_loads_12 fu x1 x2 x3 x4 F G else mb_loads_10 fu F G
def mb_loads_0 (fu : Nat) (x1 : Int32) (x2 : Int32) (x3 : Int32) (x4 : Int32) (F : PF) (G : PG) : PR := if x1 = (3 : Int32) then mb_loads_10 fu F G else mb_loads_5 fu x1 x2 x3 x4 F G
def mf_loads (fu : Nat) (x1 : Int32) (x2 : Int32) (x3 : Int32) (x4 : Int32) (F : PF) (G : PG) : PR := mb_loads_0 fu x1 x2 x3 x4 F G
theorem mw_loads_10 (fu : Nat) {res : Int32 × PF × PG} (C : mMC p R s m args c A v RX12 cX12_loads 8 1 22) (hret : ∀ (H1 : Heap) (locs1 : List Loc) (ls1 : Array Slot) (pc : Nat), mMW s A v a res.2.1 res.2.2 H1 locs1 → narrow .int (.int res.1) = .int res.1 → decode cX12_loads pc = .ok (.ireturn, 1) → W p l e R s m args below meth c H1 locs1 0 0 Q (F0 m pc ls1 [.int res.1])) (F : PF) (G : PG) (hm : mb_loads_10 fu F G = some res) {H : Heap} {locs : List Loc} (hw : mMW s A v a F G H locs) {ls : Array Slot} (hl : lv_has ls 8 []) : W p l e R s m args below meth c H locs 0 0 Q (F0 m 10 ls []) := by
  have hx := C.1
  have hb := C.2.1
  unfold mb_loads_10 at hm
  refine lv_iconst (v := 2) hx hb dX12_loads_10 (by decide) ?_
  obtain rfl := Option.some.inj hm
  exact hret _ _ _ _ hw rfl dX12_loads_11
theorem mw_loads_127 (fu : Nat) {res : Int32 × PF × PG} (C : mMC p R s m args c A v RX12 cX12_loads 8 1 22) (hret : ∀ (H1 : Heap) (locs1 : List Loc) (ls1 : Array Slot) (pc : Nat), mMW s A v a res.2.1 res.2.2 H1 locs1 → narrow .int (.int res.1) = .int res.1 → decode cX12_loads pc = .ok (.ireturn, 1) → W p l e R s m args below meth c H1 locs1 0 0 Q (F0 m pc ls1 [.int res.1])) (z0 : Int32) (F : PF) (G : PG) (hm : mb_loads_127 fu z0 F G = some res) {H : Heap} {locs : List Loc} (hw : mMW s A v a F G H locs) {ls : Array Slot} (hl : lv_has ls 8 []) : W p l e R s m args below meth c H locs 0 0 Q (F0 m 127 ls [.int z0]) := by
  have hx := C.1
  have hb := C.2.1
  unfold mb_loads_127 at hm
  obtain rfl := Option.some.inj hm
  exact hret _ _ _ _ hw rfl dX12_loads_127
theorem mw_loads_119 (fu : Nat) {res : Int32 × PF × PG} (C : mMC p R s m args c A v RX12 cX12_loads 8 1 22) (hret : ∀ (H1 : Heap) (locs1 : List Loc) (ls1 : Array Slot) (pc : Nat), mMW s A v a res.2.1 res.2.2 H1 locs1 → narrow .int (.int res.1) = .int res.1 → decode cX12_loads pc = .ok (.ireturn, 1) → W p l e R s m args below meth c H1 locs1 0 0 Q (F0 m pc ls1 [.int res.1])) (x4 : Int32) (F : PF) (G : PG) (hm : mb_loads_119 fu x4 F G = some res) {H : Heap} {locs : List Loc} (hw : mMW s A v a F G H locs) {ls : Array Slot} (hl : lv_has ls 8 [(0, .ref (a 212)), (4, .int x4)]) : W p l e R s m args below meth c H locs 0 0 Q (F0 m 119 ls []) := by
  have hx := C.1
  have hb := C.2.1
  unfold mb_loads_119 at hm
  refine lv_aload_n hx hb dX12_loads_119 rfl (lv_at hl 0 rfl) ?_
  refine lv_iload hx hb dX12_loads_120 (lv_at hl 1 rfl) ?_
  refine lv_iconst (v := 4) hx hb dX12_loads_122 (by decide) ?_
  refine lv_iadd hx hb dX12_loads_123 ?_
  obtain ⟨⟨r1, F1, G1⟩, hc, hm⟩ := bind_elim hm
  refine mcallI (n := 1) (As := [.int (x4 + (4 : Int32))]) (rest := []) C hw (mk_goesOn l v a _ fu (x4 + (4 : Int32)) F G r1 F1 G1 hc) (mrecv_X12 C hw) mm_474 mm_475 mm_476 mm_27 mm_477 (by decide +kernel) rfl (by omega) (by omega) hl.1 rfl (Nat.le_of_ble_eq_true rfl) dX12_loads_124 (fun H locs hw => ?_)
  exact mw_loads_127 fu C hret r1 F1 G1 hm hw (lv_sub hl [] rfl)
theorem mw_loads_116 (fu : Nat) {res : Int32 × PF × PG} (C : mMC p R s m args c A v RX12 cX12_loads 8 1 22) (hret : ∀ (H1 : Heap) (locs1 : List Loc) (ls1 : Array Slot) (pc : Nat), mMW s A v a res.2.1 res.2.2 H1 locs1 → narrow .int (.int res.1) = .int res.1 → decode cX12_loads pc = .ok (.ireturn, 1) → W p l e R s m args below meth c H1 locs1 0 0 Q (F0 m pc ls1 [.int res.1])) (x4 : Int32) (z0 : Int32) (z1 : Int32) (F : PF) (G : PG) (hm : mb_loads_116 fu x4 z0 z1 F G = some res) {H : Heap} {locs : List Loc} (hw : mMW s A v a F G H locs) {ls : Array Slot} (hl : lv_has ls 8 [(0, .ref (a 212)), (4, .int x4)]) : W p l e R s m args below meth c H locs 0 0 Q (F0 m 116 ls [.int z0, .int z1, .ref (a 212)]) := by
  have hx := C.1
  have hb := C.2.1
  unfold mb_loads_116 at hm
  obtain ⟨⟨r1, F1, G1⟩, hc, hm⟩ := bind_elim hm
  refine mcallV (n := 2) (As := [.int z1, .int z0]) (rest := []) C hw (mk_gives l v a _ fu z1 z0 F G r1 F1 G1 hc) (mrecv_X12 C hw) mm_470 mm_471 mm_472 mm_27 mm_473 (by decide +kernel) rfl (by omega) (by omega) hl.1 rfl (Nat.le_of_ble_eq_true rfl) dX12_loads_116 (fun H locs hw => ?_)
  exact mw_loads_119 fu C hret x4 F1 G1 hm hw (lv_sub hl [0, 1] rfl)
theorem mw_loads_114 (fu : Nat) {res : Int32 × PF × PG} (C : mMC p R s m args c A v RX12 cX12_loads 8 1 22) (hret : ∀ (H1 : Heap) (locs1 : List Loc) (ls1 : Array Slot) (pc : Nat), mMW s A v a res.2.1 res.2.2 H1 locs1 → narrow .int (.int res.1) = .int res.1 → decode cX12_loads pc = .ok (.ireturn, 1) → W p l e R s m args below meth c H1 locs1 0 0 Q (F0 m pc ls1 [.int res.1])) (x4 : Int32) (x6 : Int32) (z0 : Int32) (F : PF) (G : PG) (hm : mb_loads_114 fu x4 x6 z0 F G = some res) {H : Heap} {locs : List Loc} (hw : mMW s A v a F G H locs) {ls : Array Slot} (hl : lv_has ls 8 [(0, .ref (a 212)), (4, .int x4), (6, .int x6)]) : W p l e R s m args below meth c H locs 0 0 Q (F0 m 114 ls [.int z0, .ref (a 212)]) := by
  have hx := C.1
  have hb := C.2.1
  unfold mb_loads_114 at hm
  refine lv_iload hx hb dX12_loads_114 (lv_at hl 2 rfl) ?_
  exact mw_loads_116 fu C hret x4 x6 z0 F G hm hw (lv_sub hl [0, 1] rfl)
theorem mw_loads_108 (fu : Nat) {res : Int32 × PF × PG} (C : mMC p R s m args c A v RX12 cX12_loads 8 1 22) (hret : ∀ (H1 : Heap) (locs1 : List Loc) (ls1 : Array Slot) (pc : Nat), mMW s A v a res.2.1 res.2.2 H1 locs1 → narrow .int (.int res.1) = .int res.1 → decode cX12_loads pc = .ok (.ireturn, 1) → W p l e R s m args below meth c H1 locs1 0 0 Q (F0 m pc ls1 [.int res.1])) (x4 : Int32) (x6 : Int32) (z0 : Int32) (F : PF) (G : PG) (hm : mb_loads_108 fu x4 x6 z0 F G = some res) {H : Heap} {locs : List Loc} (hw : mMW s A v a F G H locs) {ls : Array Slot} (hl : lv_has ls 8 [(0, .ref (a 212)), (4, .int x4), (6, .int x6)]) : W p l e R s m args below meth c H locs 0 0 Q (F0 m 108 ls [.int z0, .ref (a 212)]) := by
  have hx := C.1
  have hb := C.2.1
  unfold mb_loads_108 at hm
  refine lv_iload hx hb dX12_loads_108 (lv_at hl 2 rfl) ?_
  refine lv_i2s hx hb dX12_loads_110 rfl ?_
  refine lv_goto (tgt := 116) hx hb dX12_loads_111 (by decide) ?_
  exact mw_loads_116 fu C hret x4 (x6.toInt16.toInt32) z0 F G hm hw (lv_sub hl [0, 1] rfl)
theorem mw_loads_103 (fu : Nat) {res : Int32 × PF × PG} (C : mMC p R s m args c A v RX12 cX12_loads 8 1 22) (hret : ∀ (H1 : Heap) (locs1 : List Loc) (ls1 : Array Slot) (pc : Nat), mMW s A v a res.2.1 res.2.2 H1 locs1 → narrow .int (.int res.1) = .int res.1 → decode cX12_loads pc = .ok (.ireturn, 1) → W p l e R s m args below meth c H1 locs1 0 0 Q (F0 m pc ls1 [.int res.1])) (x1 : Int32) (x4 : Int32) (x6 : Int32) (z0 : Int32) (F : PF) (G : PG) (hm : mb_loads_103 fu x1 x4 x6 z0 F G = some res) {H : Heap} {locs : List Loc} (hw : mMW s A v a F G H locs) {ls : Array Slot} (hl : lv_has ls 8 [(0, .ref (a 212)), (1, .int x1), (4, .int x4), (6, .int x6)]) : W p l e R s m args below meth c H locs 0 0 Q (F0 m 103 ls [.int z0, .ref (a 212)]) := by
  have hx := C.1
  have hb := C.2.1
  unfold mb_loads_103 at hm
  refine lv_iload_n hx hb dX12_loads_103 rfl (lv_at hl 1 rfl) ?_
  refine lv_iconst (v := 1) hx hb dX12_loads_104 (by decide) ?_
  refine lv_icmp_ne (tgt := 114) hx hb dX12_loads_105 (by decide) (fun c_1 => ?_) (fun c_1 => ?_)
  · have hm := (if_neg c_1).symm.trans hm
    exact mw_loads_114 fu C hret x4 x6 z0 F G hm hw (lv_sub hl [0, 2, 3] rfl)
  · have hm := (if_pos c_1).symm.trans hm
    exact mw_loads_108 fu C hret x4 x6 z0 F G hm hw (lv_sub hl [0, 2, 3] rfl)
theorem mw_loads_97 (fu : Nat) {res : Int32 × PF × PG} (C : mMC p R s m args c A v RX12 cX12_loads 8 1 22) (hret : ∀ (H1 : Heap) (locs1 : List Loc) (ls1 : Array Slot) (pc : Nat), mMW s A v a res.2.1 res.2.2 H1 locs1 → narrow .int (.int res.1) = .int res.1 → decode cX12_loads pc = .ok (.ireturn, 1) → W p l e R s m args below meth c H1 locs1 0 0 Q (F0 m pc ls1 [.int res.1])) (x4 : Int32) (x6 : Int32) (z0 : Int32) (F : PF) (G : PG) (hm : mb_loads_97 fu x4 x6 z0 F G = some res) {H : Heap} {locs : List Loc} (hw : mMW s A v a F G H locs) {ls : Array Slot} (hl : lv_has ls 8 [(0, .ref (a 212)), (4, .int x4), (6, .int x6)]) : W p l e R s m args below meth c H locs 0 0 Q (F0 m 97 ls [.int z0, .ref (a 212)]) := by
  have hx := C.1
  have hb := C.2.1
  unfold mb_loads_97 at hm
  refine lv_iload hx hb dX12_loads_97 (lv_at hl 2 rfl) ?_
  refine lv_i2b hx hb dX12_loads_99 rfl ?_
  refine lv_goto (tgt := 116) hx hb dX12_loads_100 (by decide) ?_
  exact mw_loads_116 fu C hret x4 (x6.toInt8.toInt32) z0 F G hm hw (lv_sub hl [0, 1] rfl)
theorem mw_loads_91 (fu : Nat) {res : Int32 × PF × PG} (C : mMC p R s m args c A v RX12 cX12_loads 8 1 22) (hret : ∀ (H1 : Heap) (locs1 : List Loc) (ls1 : Array Slot) (pc : Nat), mMW s A v a res.2.1 res.2.2 H1 locs1 → narrow .int (.int res.1) = .int res.1 → decode cX12_loads pc = .ok (.ireturn, 1) → W p l e R s m args below meth c H1 locs1 0 0 Q (F0 m pc ls1 [.int res.1])) (x1 : Int32) (x2 : Int32) (x4 : Int32) (x6 : Int32) (F : PF) (G : PG) (hm : mb_loads_91 fu x1 x2 x4 x6 F G = some res) {H : Heap} {locs : List Loc} (hw : mMW s A v a F G H locs) {ls : Array Slot} (hl : lv_has ls 8 [(0, .ref (a 212)), (1, .int x1), (2, .int x2), (4, .int x4), (6, .int x6)]) : W p l e R s m args below meth c H locs 0 0 Q (F0 m 91 ls []) := by
  have hx := C.1
  have hb := C.2.1
  unfold mb_loads_91 at hm
  refine lv_aload_n hx hb dX12_loads_91 rfl (lv_at hl 0 rfl) ?_
  refine lv_iload_n hx hb dX12_loads_92 rfl (lv_at hl 2 rfl) ?_
  refine lv_iload_n hx hb dX12_loads_93 rfl (lv_at hl 1 rfl) ?_
  refine lv_if_ne (tgt := 103) hx hb dX12_loads_94 (by decide) (fun c_1 => ?_) (fun c_1 => ?_)
  · have hm := (if_neg c_1).symm.trans hm
    exact mw_loads_103 fu C hret x1 x4 x6 x2 F G hm hw (lv_sub hl [0, 1, 3, 4] rfl)
  · have hm := (if_pos c_1).symm.trans hm
    exact mw_loads_97 fu C hret x4 x6 x2 F G hm hw (lv_sub hl [0, 3, 4] rfl)
theorem mw_loads_82 (fu : Nat) {res : Int32 × PF × PG} (C : mMC p R s m args c A v RX12 cX12_loads 8 1 22) (hret : ∀ (H1 : Heap) (locs1 : List Loc) (ls1 : Array Slot) (pc : Nat), mMW s A v a res.2.1 res.2.2 H1 locs1 → narrow .int (.int res.1) = .int res.1 → decode cX12_loads pc = .ok (.ireturn, 1) → W p l e R s m args below meth c H1 locs1 0 0 Q (F0 m pc ls1 [.int res.1])) (ag_64 : Int32 → Int32 → Int32 → Int32 → Int32 → Int32 → PF → PG → PR) (hag_64 : ∀ (x1 : Int32) (x2 : Int32) (x3 : Int32) (x4 : Int32) (x6 : Int32) (x7 : Int32) (F : PF) (G : PG), ag_64 x1 x2 x3 x4 x6 x7 F G = some res → ∀ (H : Heap) (locs : List Loc) (ls : Array Slot), mMW s A v a F G H locs → lv_has ls 8 [(0, .ref (a 212)), (1, .int x1), (2, .int x2), (3, .int x3), (4, .int x4), (6, .int x6), (7, .int x7)] → W p l e R s m args below meth c H locs 0 0 Q (F0 m 64 ls [])) (x1 : Int32) (x2 : Int32) (x3 : Int32) (x4 : Int32) (x7 : Int32) (z0 : Int32) (z1 : Int32) (F : PF) (G : PG) (hm : mb_loads_82 fu ag_64 x1 x2 x3 x4 x7 z0 z1 F G = some res) {H : Heap} {locs : List Loc} (hw : mMW s A v a F G H locs) {ls : Array Slot} (hl : lv_has ls 8 [(0, .ref (a 212)), (1, .int x1), (2, .int x2), (3, .int x3), (4, .int x4), (7, .int x7)]) : W p l e R s m args below meth c H locs 0 0 Q (F0 m 82 ls [.int z0, .int z1]) := by
  have hx := C.1
  have hb := C.2.1
  unfold mb_loads_82 at hm
  refine lv_ior hx hb dX12_loads_82 ?_
  refine lv_istore (lv' := [(6, .int (z1 ||| z0)), (0, .ref (a 212)), (1, .int x1), (2, .int x2), (3, .int x3), (4, .int x4), (7, .int x7)]) hx hb dX12_loads_83 hl (by decide) rfl (fun ls hl => ?_)
  refine lv_iinc (v := (x7 + (-1))) (lv' := [(7, .int (x7 + (-1))), (6, .int (z1 ||| z0)), (0, .ref (a 212)), (1, .int x1), (2, .int x2), (3, .int x3), (4, .int x4)]) hx hb dX12_loads_85 hl (k := 6) rfl (by rfl) (by decide) rfl (fun ls hl => ?_)
  refine lv_goto (tgt := 64) hx hb dX12_loads_88 (by decide) ?_
  exact hag_64 x1 x2 x3 x4 (z1 ||| z0) (x7 + (-1)) F G hm _ _ _ hw (lv_sub hl [2, 3, 4, 5, 6, 1, 0] rfl)
theorem mw_loads_69 (fu : Nat) {res : Int32 × PF × PG} (C : mMC p R s m args c A v RX12 cX12_loads 8 1 22) (hret : ∀ (H1 : Heap) (locs1 : List Loc) (ls1 : Array Slot) (pc : Nat), mMW s A v a res.2.1 res.2.2 H1 locs1 → narrow .int (.int res.1) = .int res.1 → decode cX12_loads pc = .ok (.ireturn, 1) → W p l e R s m args below meth c H1 locs1 0 0 Q (F0 m pc ls1 [.int res.1])) (ag_64 : Int32 → Int32 → Int32 → Int32 → Int32 → Int32 → PF → PG → PR) (hag_64 : ∀ (x1 : Int32) (x2 : Int32) (x3 : Int32) (x4 : Int32) (x6 : Int32) (x7 : Int32) (F : PF) (G : PG), ag_64 x1 x2 x3 x4 x6 x7 F G = some res → ∀ (H : Heap) (locs : List Loc) (ls : Array Slot), mMW s A v a F G H locs → lv_has ls 8 [(0, .ref (a 212)), (1, .int x1), (2, .int x2), (3, .int x3), (4, .int x4), (6, .int x6), (7, .int x7)] → W p l e R s m args below meth c H locs 0 0 Q (F0 m 64 ls [])) (x1 : Int32) (x2 : Int32) (x3 : Int32) (x4 : Int32) (x6 : Int32) (x7 : Int32) (F : PF) (G : PG) (hm : mb_loads_69 fu ag_64 x1 x2 x3 x4 x6 x7 F G = some res) {H : Heap} {locs : List Loc} (hw : mMW s A v a F G H locs) {ls : Array Slot} (hl : lv_has ls 8 [(0, .ref (a 212)), (1, .int x1), (2, .int x2), (3, .int x3), (4, .int x4), (6, .int x6), (7, .int x7)]) : W p l e R s m args below meth c H locs 0 0 Q (F0 m 69 ls []) := by
  have hx := C.1
  have hb := C.2.1
  unfold mb_loads_69 at hm
  refine lv_iload hx hb dX12_loads_69 (lv_at hl 5 rfl) ?_
  refine lv_bipush (v := 8) hx hb dX12_loads_71 (by decide) ?_
  refine lv_ishl hx hb dX12_loads_73 ?_
  refine lv_aload_n hx hb dX12_loads_74 rfl (lv_at hl 0 rfl) ?_
  refine lv_iload_n hx hb dX12_loads_75 rfl (lv_at hl 3 rfl) ?_
  refine lv_iload hx hb dX12_loads_76 (lv_at hl 6 rfl) ?_
  refine lv_iadd hx hb dX12_loads_78 ?_
  obtain ⟨⟨r1, F1, G1⟩, hc, hm⟩ := bind_elim hm
  refine mcallI (n := 1) (As := [.int (x3 + x7)]) (rest := [.int (x6 <<< ((8 : Int32) &&& 31))]) C hw (mk_byteAt l v a _ fu (x3 + x7) F G r1 F1 G1 hc) (mrecv_X12 C hw) mm_491 mm_492 mm_493 mm_27 mm_494 (by decide +kernel) rfl (by omega) (by omega) hl.1 rfl (Nat.le_of_ble_eq_true rfl) dX12_loads_79 (fun H locs hw => ?_)
  exact mw_loads_82 fu C hret ag_64 hag_64 x1 x2 x3 x4 x7 r1 (x6 <<< ((8 : Int32) &&& 31)) F1 G1 hm hw (lv_sub hl [0, 1, 2, 3, 4, 6] rfl)
theorem mw_loads_64 (fu : Nat) {res : Int32 × PF × PG} (C : mMC p R s m args c A v RX12 cX12_loads 8 1 22) (hret : ∀ (H1 : Heap) (locs1 : List Loc) (ls1 : Array Slot) (pc : Nat), mMW s A v a res.2.1 res.2.2 H1 locs1 → narrow .int (.int res.1) = .int res.1 → decode cX12_loads pc = .ok (.ireturn, 1) → W p l e R s m args below meth c H1 locs1 0 0 Q (F0 m pc ls1 [.int res.1])) (ag_64 : Int32 → Int32 → Int32 → Int32 → Int32 → Int32 → PF → PG → PR) (hag_64 : ∀ (x1 : Int32) (x2 : Int32) (x3 : Int32) (x4 : Int32) (x6 : Int32) (x7 : Int32) (F : PF) (G : PG), ag_64 x1 x2 x3 x4 x6 x7 F G = some res → ∀ (H : Heap) (locs : List Loc) (ls : Array Slot), mMW s A v a F G H locs → lv_has ls 8 [(0, .ref (a 212)), (1, .int x1), (2, .int x2), (3, .int x3), (4, .int x4), (6, .int x6), (7, .int x7)] → W p l e R s m args below meth c H locs 0 0 Q (F0 m 64 ls [])) (x1 : Int32) (x2 : Int32) (x3 : Int32) (x4 : Int32) (x6 : Int32) (x7 : Int32) (F : PF) (G : PG) (hm : mb_loads_64 fu ag_64 x1 x2 x3 x4 x6 x7 F G = some res) {H : Heap} {locs : List Loc} (hw : mMW s A v a F G H locs) {ls : Array Slot} (hl : lv_has ls 8 [(0, .ref (a 212)), (1, .int x1), (2, .int x2), (3, .int x3), (4, .int x4), (6, .int x6), (7, .int x7)]) : W p l e R s m args below meth c H locs 0 0 Q (F0 m 64 ls []) := by
  have hx := C.1
  have hb := C.2.1
  unfold mb_loads_64 at hm
  refine lv_iload hx hb dX12_loads_64 (lv_at hl 6 rfl) ?_
  refine lv_if_lt (tgt := 91) hx hb dX12_loads_66 (by decide) (fun c_1 => ?_) (fun c_1 => ?_)
  · have hm := (if_pos c_1).symm.trans hm
    exact mw_loads_91 fu C hret x1 x2 x4 x6 F G hm hw (lv_sub hl [0, 1, 2, 4, 5] rfl)
  · have hm := (if_neg c_1).symm.trans hm
    exact mw_loads_69 fu C hret ag_64 hag_64 x1 x2 x3 x4 x6 x7 F G hm hw (lv_sub hl [0, 1, 2, 3, 4, 5, 6] rfl)
theorem mwl_loads_64 (fu : Nat) {res : Int32 × PF × PG} (C : mMC p R s m args c A v RX12 cX12_loads 8 1 22) (hret : ∀ (H1 : Heap) (locs1 : List Loc) (ls1 : Array Slot) (pc : Nat), mMW s A v a res.2.1 res.2.2 H1 locs1 → narrow .int (.int res.1) = .int res.1 → decode cX12_loads pc = .ok (.ireturn, 1) → W p l e R s m args below meth c H1 locs1 0 0 Q (F0 m pc ls1 [.int res.1])) : ∀ (n : Nat) (x1 : Int32) (x2 : Int32) (x3 : Int32) (x4 : Int32) (x6 : Int32) (x7 : Int32) (F : PF) (G : PG) (hm : ml_loads_64 fu n x1 x2 x3 x4 x6 x7 F G = some res) {H : Heap} {locs : List Loc} (hw : mMW s A v a F G H locs) {ls : Array Slot} (hl : lv_has ls 8 [(0, .ref (a 212)), (1, .int x1), (2, .int x2), (3, .int x3), (4, .int x4), (6, .int x6), (7, .int x7)]), W p l e R s m args below meth c H locs 0 0 Q (F0 m 64 ls []) := by
  intro n
  induction n with
  | zero =>
    intro x1 x2 x3 x4 x6 x7 F G hm
    exact no_elim (show (none : PR) = some res from hm)
  | succ n ih =>
    intro x1 x2 x3 x4 x6 x7 F G hm H locs hw ls hl
    exact mw_loads_64 fu C hret (ml_loads_64 fu n) (fun x1 x2 x3 x4 x6 x7 F G hm H locs ls hw hl => ih x1 x2 x3 x4 x6 x7 F G hm hw hl) x1 x2 x3 x4 x6 x7 F G hm hw hl
theorem mw_loads_55 (fu : Nat) {res : Int32 × PF × PG} (C : mMC p R s m args c A v RX12 cX12_loads 8 1 22) (hret : ∀ (H1 : Heap) (locs1 : List Loc) (ls1 : Array Slot) (pc : Nat), mMW s A v a res.2.1 res.2.2 H1 locs1 → narrow .int (.int res.1) = .int res.1 → decode cX12_loads pc = .ok (.ireturn, 1) → W p l e R s m args below meth c H1 locs1 0 0 Q (F0 m pc ls1 [.int res.1])) (x1 : Int32) (x2 : Int32) (x3 : Int32) (x4 : Int32) (x5 : Int32) (F : PF) (G : PG) (hm : mb_loads_55 fu x1 x2 x3 x4 x5 F G = some res) {H : Heap} {locs : List Loc} (hw : mMW s A v a F G H locs) {ls : Array Slot} (hl : lv_has ls 8 [(0, .ref (a 212)), (1, .int x1), (2, .int x2), (3, .int x3), (4, .int x4), (5, .int x5)]) : W p l e R s m args below meth c H locs 0 0 Q (F0 m 55 ls []) := by
  have hx := C.1
  have hb := C.2.1
  unfold mb_loads_55 at hm
  refine lv_iconst (v := 0) hx hb dX12_loads_55 (by decide) ?_
  refine lv_istore (lv' := [(6, .int 0), (0, .ref (a 212)), (1, .int x1), (2, .int x2), (3, .int x3), (4, .int x4), (5, .int x5)]) hx hb dX12_loads_56 hl (by decide) rfl (fun ls hl => ?_)
  refine lv_iload hx hb dX12_loads_58 (lv_at hl 6 rfl) ?_
  refine lv_iconst (v := 1) hx hb dX12_loads_60 (by decide) ?_
  refine lv_isub hx hb dX12_loads_61 ?_
  refine lv_istore (lv' := [(7, .int (x5 - (1 : Int32))), (6, .int 0), (0, .ref (a 212)), (1, .int x1), (2, .int x2), (3, .int x3), (4, .int x4), (5, .int x5)]) hx hb dX12_loads_62 hl (by decide) rfl (fun ls hl => ?_)
  exact mwl_loads_64 fu C hret fu x1 x2 x3 x4 0 (x5 - (1 : Int32)) F G hm hw (lv_sub hl [2, 3, 4, 5, 6, 1, 0] rfl)
theorem mw_loads_53 (fu : Nat) {res : Int32 × PF × PG} (C : mMC p R s m args c A v RX12 cX12_loads 8 1 22) (hret : ∀ (H1 : Heap) (locs1 : List Loc) (ls1 : Array Slot) (pc : Nat), mMW s A v a res.2.1 res.2.2 H1 locs1 → narrow .int (.int res.1) = .int res.1 → decode cX12_loads pc = .ok (.ireturn, 1) → W p l e R s m args below meth c H1 locs1 0 0 Q (F0 m pc ls1 [.int res.1])) (F : PF) (G : PG) (hm : mb_loads_53 fu F G = some res) {H : Heap} {locs : List Loc} (hw : mMW s A v a F G H locs) {ls : Array Slot} (hl : lv_has ls 8 []) : W p l e R s m args below meth c H locs 0 0 Q (F0 m 53 ls []) := by
  have hx := C.1
  have hb := C.2.1
  unfold mb_loads_53 at hm
  refine lv_iconst (v := 5) hx hb dX12_loads_53 (by decide) ?_
  obtain rfl := Option.some.inj hm
  exact hret _ _ _ _ hw rfl dX12_loads_54
theorem mw_loads_50 (fu : Nat) {res : Int32 × PF × PG} (C : mMC p R s m args c A v RX12 cX12_loads 8 1 22) (hret : ∀ (H1 : Heap) (locs1 : List Loc) (ls1 : Array Slot) (pc : Nat), mMW s A v a res.2.1 res.2.2 H1 locs1 → narrow .int (.int res.1) = .int res.1 → decode cX12_loads pc = .ok (.ireturn, 1) → W p l e R s m args below meth c H1 locs1 0 0 Q (F0 m pc ls1 [.int res.1])) (x1 : Int32) (x2 : Int32) (x3 : Int32) (x4 : Int32) (x5 : Int32) (z0 : Int32) (F : PF) (G : PG) (hm : mb_loads_50 fu x1 x2 x3 x4 x5 z0 F G = some res) {H : Heap} {locs : List Loc} (hw : mMW s A v a F G H locs) {ls : Array Slot} (hl : lv_has ls 8 [(0, .ref (a 212)), (1, .int x1), (2, .int x2), (3, .int x3), (4, .int x4), (5, .int x5)]) : W p l e R s m args below meth c H locs 0 0 Q (F0 m 50 ls [.int z0]) := by
  have hx := C.1
  have hb := C.2.1
  unfold mb_loads_50 at hm
  refine lv_if_eq (tgt := 55) hx hb dX12_loads_50 (by decide) (fun c_1 => ?_) (fun c_1 => ?_)
  · have hm := (if_pos c_1).symm.trans hm
    exact mw_loads_55 fu C hret x1 x2 x3 x4 x5 F G hm hw (lv_sub hl [0, 1, 2, 3, 4, 5] rfl)
  · have hm := (if_neg c_1).symm.trans hm
    exact mw_loads_53 fu C hret F G hm hw (lv_sub hl [] rfl)
theorem mw_loads_46 (fu : Nat) {res : Int32 × PF × PG} (C : mMC p R s m args c A v RX12 cX12_loads 8 1 22) (hret : ∀ (H1 : Heap) (locs1 : List Loc) (ls1 : Array Slot) (pc : Nat), mMW s A v a res.2.1 res.2.2 H1 locs1 → narrow .int (.int res.1) = .int res.1 → decode cX12_loads pc = .ok (.ireturn, 1) → W p l e R s m args below meth c H1 locs1 0 0 Q (F0 m pc ls1 [.int res.1])) (x1 : Int32) (x2 : Int32) (x3 : Int32) (x4 : Int32) (x5 : Int32) (F : PF) (G : PG) (hm : mb_loads_46 fu x1 x2 x3 x4 x5 F G = some res) {H : Heap} {locs : List Loc} (hw : mMW s A v a F G H locs) {ls : Array Slot} (hl : lv_has ls 8 [(0, .ref (a 212)), (1, .int x1), (2, .int x2), (3, .int x3), (4, .int x4), (5, .int x5)]) : W p l e R s m args below meth c H locs 0 0 Q (F0 m 46 ls []) := by
  have hx := C.1
  have hb := C.2.1
  unfold mb_loads_46 at hm
  refine lv_iload_n hx hb dX12_loads_46 rfl (lv_at hl 3 rfl) ?_
  obtain ⟨⟨r1, F1, G1⟩, hc, hm⟩ := bind_elim hm
  refine mcallIS (n := 1) (As := [.int x3]) (rest := []) C hw (mk_isOut l v a _ fu x3 F G r1 F1 G1 hc) mm_464 mm_465 mm_27 mm_466 (by decide +kernel) rfl (by omega) (by omega) hl.1 rfl (Nat.le_of_ble_eq_true rfl) dX12_loads_47 (fun H locs hw => ?_)
  exact mw_loads_50 fu C hret x1 x2 x3 x4 x5 r1 F1 G1 hm hw (lv_sub hl [0, 1, 2, 3, 4, 5] rfl)
theorem mw_loads_44 (fu : Nat) {res : Int32 × PF × PG} (C : mMC p R s m args c A v RX12 cX12_loads 8 1 22) (hret : ∀ (H1 : Heap) (locs1 : List Loc) (ls1 : Array Slot) (pc : Nat), mMW s A v a res.2.1 res.2.2 H1 locs1 → narrow .int (.int res.1) = .int res.1 → decode cX12_loads pc = .ok (.ireturn, 1) → W p l e R s m args below meth c H1 locs1 0 0 Q (F0 m pc ls1 [.int res.1])) (F : PF) (G : PG) (hm : mb_loads_44 fu F G = some res) {H : Heap} {locs : List Loc} (hw : mMW s A v a F G H locs) {ls : Array Slot} (hl : lv_has ls 8 []) : W p l e R s m args below meth c H locs 0 0 Q (F0 m 44 ls []) := by
  have hx := C.1
  have hb := C.2.1
  unfold mb_loads_44 at hm
  refine lv_iconst (v := 4) hx hb dX12_loads_44 (by decide) ?_
  obtain rfl := Option.some.inj hm
  exact hret _ _ _ _ hw rfl dX12_loads_45
theorem mw_loads_33 (fu : Nat) {res : Int32 × PF × PG} (C : mMC p R s m args c A v RX12 cX12_loads 8 1 22) (hret : ∀ (H1 : Heap) (locs1 : List Loc) (ls1 : Array Slot) (pc : Nat), mMW s A v a res.2.1 res.2.2 H1 locs1 → narrow .int (.int res.1) = .int res.1 → decode cX12_loads pc = .ok (.ireturn, 1) → W p l e R s m args below meth c H1 locs1 0 0 Q (F0 m pc ls1 [.int res.1])) (x1 : Int32) (x2 : Int32) (x3 : Int32) (x4 : Int32) (z0 : Int32) (F : PF) (G : PG) (hm : mb_loads_33 fu x1 x2 x3 x4 z0 F G = some res) {H : Heap} {locs : List Loc} (hw : mMW s A v a F G H locs) {ls : Array Slot} (hl : lv_has ls 8 [(0, .ref (a 212)), (1, .int x1), (2, .int x2), (3, .int x3), (4, .int x4)]) : W p l e R s m args below meth c H locs 0 0 Q (F0 m 33 ls [.int z0]) := by
  have hx := C.1
  have hb := C.2.1
  unfold mb_loads_33 at hm
  refine lv_istore (lv' := [(5, .int z0), (0, .ref (a 212)), (1, .int x1), (2, .int x2), (3, .int x3), (4, .int x4)]) hx hb dX12_loads_33 hl (by decide) rfl (fun ls hl => ?_)
  refine lv_iload_n hx hb dX12_loads_35 rfl (lv_at hl 4 rfl) ?_
  refine lv_iload hx hb dX12_loads_36 (lv_at hl 0 rfl) ?_
  refine lv_iconst (v := 1) hx hb dX12_loads_38 (by decide) ?_
  refine lv_isub hx hb dX12_loads_39 ?_
  refine lv_iand hx hb dX12_loads_40 ?_
  refine lv_if_eq (tgt := 46) hx hb dX12_loads_41 (by decide) (fun c_1 => ?_) (fun c_1 => ?_)
  · have hm := (if_pos c_1).symm.trans hm
    exact mw_loads_46 fu C hret x1 x2 x3 x4 z0 F G hm hw (lv_sub hl [1, 2, 3, 4, 5, 0] rfl)
  · have hm := (if_neg c_1).symm.trans hm
    exact mw_loads_44 fu C hret F G hm hw (lv_sub hl [] rfl)
theorem mw_loads_32 (fu : Nat) {res : Int32 × PF × PG} (C : mMC p R s m args c A v RX12 cX12_loads 8 1 22) (hret : ∀ (H1 : Heap) (locs1 : List Loc) (ls1 : Array Slot) (pc : Nat), mMW s A v a res.2.1 res.2.2 H1 locs1 → narrow .int (.int res.1) = .int res.1 → decode cX12_loads pc = .ok (.ireturn, 1) → W p l e R s m args below meth c H1 locs1 0 0 Q (F0 m pc ls1 [.int res.1])) (x1 : Int32) (x2 : Int32) (x3 : Int32) (x4 : Int32) (F : PF) (G : PG) (hm : mb_loads_32 fu x1 x2 x3 x4 F G = some res) {H : Heap} {locs : List Loc} (hw : mMW s A v a F G H locs) {ls : Array Slot} (hl : lv_has ls 8 [(0, .ref (a 212)), (1, .int x1), (2, .int x2), (3, .int x3), (4, .int x4)]) : W p l e R s m args below meth c H locs 0 0 Q (F0 m 32 ls []) := by
  have hx := C.1
  have hb := C.2.1
  unfold mb_loads_32 at hm
  refine lv_iconst (v := 1) hx hb dX12_loads_32 (by decide) ?_
  exact mw_loads_33 fu C hret x1 x2 x3 x4 1 F G hm hw (lv_sub hl [0, 1, 2, 3, 4] rfl)
theorem mw_loads_28 (fu : Nat) {res : Int32 × PF × PG} (C : mMC p R s m args c A v RX12 cX12_loads 8 1 22) (hret : ∀ (H1 : Heap) (locs1 : List Loc) (ls1 : Array Slot) (pc : Nat), mMW s A v a res.2.1 res.2.2 H1 locs1 → narrow .int (.int res.1) = .int res.1 → decode cX12_loads pc = .ok (.ireturn, 1) → W p l e R s m args below meth c H1 locs1 0 0 Q (F0 m pc ls1 [.int res.1])) (x1 : Int32) (x2 : Int32) (x3 : Int32) (x4 : Int32) (F : PF) (G : PG) (hm : mb_loads_28 fu x1 x2 x3 x4 F G = some res) {H : Heap} {locs : List Loc} (hw : mMW s A v a F G H locs) {ls : Array Slot} (hl : lv_has ls 8 [(0, .ref (a 212)), (1, .int x1), (2, .int x2), (3, .int x3), (4, .int x4)]) : W p l e R s m args below meth c H locs 0 0 Q (F0 m 28 ls []) := by
  have hx := C.1
  have hb := C.2.1
  unfold mb_loads_28 at hm
  refine lv_iconst (v := 2) hx hb dX12_loads_28 (by decide) ?_
  refine lv_goto (tgt := 33) hx hb dX12_loads_29 (by decide) ?_
  exact mw_loads_33 fu C hret x1 x2 x3 x4 2 F G hm hw (lv_sub hl [0, 1, 2, 3, 4] rfl)
theorem mw_loads_21 (fu : Nat) {res : Int32 × PF × PG} (C : mMC p R s m args c A v RX12 cX12_loads 8 1 22) (hret : ∀ (H1 : Heap) (locs1 : List Loc) (ls1 : Array Slot) (pc : Nat), mMW s A v a res.2.1 res.2.2 H1 locs1 → narrow .int (.int res.1) = .int res.1 → decode cX12_loads pc = .ok (.ireturn, 1) → W p l e R s m args below meth c H1 locs1 0 0 Q (F0 m pc ls1 [.int res.1])) (x1 : Int32) (x2 : Int32) (x3 : Int32) (x4 : Int32) (F : PF) (G : PG) (hm : mb_loads_21 fu x1 x2 x3 x4 F G = some res) {H : Heap} {locs : List Loc} (hw : mMW s A v a F G H locs) {ls : Array Slot} (hl : lv_has ls 8 [(0, .ref (a 212)), (1, .int x1), (2, .int x2), (3, .int x3), (4, .int x4)]) : W p l e R s m args below meth c H locs 0 0 Q (F0 m 21 ls []) := by
  have hx := C.1
  have hb := C.2.1
  unfold mb_loads_21 at hm
  refine lv_iload_n hx hb dX12_loads_21 rfl (lv_at hl 1 rfl) ?_
  refine lv_iconst (v := 3) hx hb dX12_loads_22 (by decide) ?_
  refine lv_iand hx hb dX12_loads_23 ?_
  refine lv_iconst (v := 1) hx hb dX12_loads_24 (by decide) ?_
  refine lv_icmp_ne (tgt := 32) hx hb dX12_loads_25 (by decide) (fun c_1 => ?_) (fun c_1 => ?_)
  · have hm := (if_neg c_1).symm.trans hm
    exact mw_loads_32 fu C hret x1 x2 x3 x4 F G hm hw (lv_sub hl [0, 1, 2, 3, 4] rfl)
  · have hm := (if_pos c_1).symm.trans hm
    exact mw_loads_28 fu C hret x1 x2 x3 x4 F G hm hw (lv_sub hl [0, 1, 2, 3, 4] rfl)
theorem mw_loads_17 (fu : Nat) {res : Int32 × PF × PG} (C : mMC p R s m args c A v RX12 cX12_loads 8 1 22) (hret : ∀ (H1 : Heap) (locs1 : List Loc) (ls1 : Array Slot) (pc : Nat), mMW s A v a res.2.1 res.2.2 H1 locs1 → narrow .int (.int res.1) = .int res.1 → decode cX12_loads pc = .ok (.ireturn, 1) → W p l e R s m args below meth c H1 locs1 0 0 Q (F0 m pc ls1 [.int res.1])) (x1 : Int32) (x2 : Int32) (x3 : Int32) (x4 : Int32) (F : PF) (G : PG) (hm : mb_loads_17 fu x1 x2 x3 x4 F G = some res) {H : Heap} {locs : List Loc} (hw : mMW s A v a F G H locs) {ls : Array Slot} (hl : lv_has ls 8 [(0, .ref (a 212)), (1, .int x1), (2, .int x2), (3, .int x3), (4, .int x4)]) : W p l e R s m args below meth c H locs 0 0 Q (F0 m 17 ls []) := by
  have hx := C.1
  have hb := C.2.1
  unfold mb_loads_17 at hm
  refine lv_iconst (v := 4) hx hb dX12_loads_17 (by decide) ?_
  refine lv_goto (tgt := 33) hx hb dX12_loads_18 (by decide) ?_
  exact mw_loads_33 fu C hret x1 x2 x3 x4 4 F G hm hw (lv_sub hl [0, 1, 2, 3, 4] rfl)
theorem mw_loads_12 (fu : Nat) {res : Int32 × PF × PG} (C : mMC p R s m args c A v RX12 cX12_loads 8 1 22) (hret : ∀ (H1 : Heap) (locs1 : List Loc) (ls1 : Array Slot) (pc : Nat), mMW s A v a res.2.1 res.2.2 H1 locs1 → narrow .int (.int res.1) = .int res.1 → decode cX12_loads pc = .ok (.ireturn, 1) → W p l e R s m args below meth c H1 locs1 0 0 Q (F0 m pc ls1 [.int res.1])) (x1 : Int32) (x2 : Int32) (x3 : Int32) (x4 : Int32) (F : PF) (G : PG) (hm : mb_loads_12 fu x1 x2 x3 x4 F G = some res) {H : Heap} {locs : List Loc} (hw : mMW s A v a F G H locs) {ls : Array Slot} (hl : lv_has ls 8 [(0, .ref (a 212)), (1, .int x1), (2, .int x2), (3, .int x3), (4, .int x4)]) : W p l e R s m args below meth c H locs 0 0 Q (F0 m 12 ls []) := by
  have hx := C.1
  have hb := C.2.1
  unfold mb_loads_12 at hm
  refine lv_iload_n hx hb dX12_loads_12 rfl (lv_at hl 1 rfl) ?_
  refine lv_iconst (v := 2) hx hb dX12_loads_13 (by decide) ?_
  refine lv_icmp_ne (tgt := 21) hx hb dX12_loads_14 (by decide) (fun c_1 => ?_) (fun c_1 => ?_)
  · have hm := (if_neg c_1).symm.trans hm
    exact mw_loads_21 fu C hret x1 x2 x3 x4 F G hm hw (lv_sub hl [0, 1, 2, 3, 4] rfl)
  · have hm := (if_pos c_1).symm.trans hm
    exact mw_loads_17 fu C hret x1 x2 x3 x4 F G hm hw (lv_sub hl [0, 1, 2, 3, 4] rfl)
theorem mw_loads_5 (fu : Nat) {res : Int32 × PF × PG} (C : mMC p R s m args c A v RX12 cX12_loads 8 1 22) (hret : ∀ (H1 : Heap) (locs1 : List Loc) (ls1 : Array Slot) (pc : Nat), mMW s A v a res.2.1 res.2.2 H1 locs1 → narrow .int (.int res.1) = .int res.1 → decode cX12_loads pc = .ok (.ireturn, 1) → W p l e R s m args below meth c H1 locs1 0 0 Q (F0 m pc ls1 [.int res.1])) (x1 : Int32) (x2 : Int32) (x3 : Int32) (x4 : Int32) (F : PF) (G : PG) (hm : mb_loads_5 fu x1 x2 x3 x4 F G = some res) {H : Heap} {locs : List Loc} (hw : mMW s A v a F G H locs) {ls : Array Slot} (hl : lv_has ls 8 [(0, .ref (a 212)), (1, .int x1), (2, .int x2), (3, .int x3), (4, .int x4)]) : W p l e R s m args below meth c H locs 0 0 Q (F0 m 5 ls []) := by
  have hx := C.1
  have hb := C.2.1
  unfold mb_loads_5 at hm
  refine lv_iload_n hx hb dX12_loads_5 rfl (lv_at hl 1 rfl) ?_
  refine lv_iconst (v := 5) hx hb dX12_loads_6 (by decide) ?_
  refine lv_icmp_le (tgt := 12) hx hb dX12_loads_7 (by decide) (fun c_1 => ?_) (fun c_1 => ?_)
  · have hm := (if_pos c_1).symm.trans hm
    exact mw_loads_12 fu C hret x1 x2 x3 x4 F G hm hw (lv_sub hl [0, 1, 2, 3, 4] rfl)
  · have hm := (if_neg c_1).symm.trans hm
    exact mw_loads_10 fu C hret F G hm hw (lv_sub hl [] rfl)
theorem mw_loads_0 (fu : Nat) {res : Int32 × PF × PG} (C : mMC p R s m args c A v RX12 cX12_loads 8 1 22) (hret : ∀ (H1 : Heap) (locs1 : List Loc) (ls1 : Array Slot) (pc : Nat), mMW s A v a res.2.1 res.2.2 H1 locs1 → narrow .int (.int res.1) = .int res.1 → decode cX12_loads pc = .ok (.ireturn, 1) → W p l e R s m args below meth c H1 locs1 0 0 Q (F0 m pc ls1 [.int res.1])) (x1 : Int32) (x2 : Int32) (x3 : Int32) (x4 : Int32) (F : PF) (G : PG) (hm : mb_loads_0 fu x1 x2 x3 x4 F G = some res) {H : Heap} {locs : List Loc} (hw : mMW s A v a F G H locs) {ls : Array Slot} (hl : lv_has ls 8 [(0, .ref (a 212)), (1, .int x1), (2, .int x2), (3, .int x3), (4, .int x4)]) : W p l e R s m args below meth c H locs 0 0 Q (F0 m 0 ls []) := by
  have hx := C.1
  have hb := C.2.1
  unfold mb_loads_0 at hm
  refine lv_iload_n hx hb dX12_loads_0 rfl (lv_at hl 1 rfl) ?_
  refine lv_iconst (v := 3) hx hb dX12_loads_1 (by decide) ?_
  refine lv_icmp_eq (tgt := 10) hx hb dX12_loads_2 (by decide) (fun c_1 => ?_) (fun c_1 => ?_)
  · have hm := (if_pos c_1).symm.trans hm
    exact mw_loads_10 fu C hret F G hm hw (lv_sub hl [] rfl)
  · have hm := (if_neg c_1).symm.trans hm
    exact mw_loads_5 fu C hret x1 x2 x3 x4 F G hm hw (lv_sub hl [0, 1, 2, 3, 4] rfl)
theorem mk_loads (l : Launch) (v : EV) (a : Nat → Nat) (sz : Nat) (fu : Nat) (x1 : Int32) (x2 : Int32) (x3 : Int32) (x4 : Int32) (F : PF) (G : PG) (r : Int32) (F1 : PF) (G1 : PG) (hm : mf_loads fu x1 x2 x3 x4 F G = some (r, F1, G1)) : mMI l yX12_loads cX12_loads 8 (some .int) 1 22 v a sz [.ref (a 212), .int x1, .int x2, .int x3, .int x4] F G r F1 G1 := mMI.of (ty := .int) (by decide) rfl (Nat.le_of_ble_eq_true rfl) (fun p e R s m args below meth c Q A H locs ls C hw hl hret => mw_loads_0 fu (res := (r, F1, G1)) C hret x1 x2 x3 x4 F G hm hw hl)
def mb_immediate_194 (fu : Nat) (z0 : Int32) (F : PF) (G : PG) : PR := some (z0, F, G)
def mb_immediate_186 (fu : Nat) (x7 : Int32) (F : PF) (G : PG) : PR := (mf_goesOn fu (x7 + (4 : Int32)) F G).bind (fun q => mb_immediate_194 fu q.1 q.2.1 q.2.2)
def mb_immediate_179 (fu : Nat) (x3 : Int32) (x7 : Int32) (x8 : Int32) (F : PF) (G : PG) : PR := (mf_gives fu x3 x8 F G).bind (fun q => mb_immediate_186 fu x7 q.2.1 q.2.2)
def mb_immediate_68 (fu : Nat) (x3 : Int32) (x4 : Int32) (x5 : Int32) (x7 : Int32) (F : PF) (G : PG) : PR := mb_immediate_179 fu x3 x7 (x4 + x5) F G
def mb_immediate_78 (fu : Nat) (x3 : Int32) (x4 : Int32) (x6 : Int32) (x7 : Int32) (F : PF) (G : PG) : PR := mb_immediate_179 fu x3 x7 (x4 <<< (x6 &&& 31)) F G
def mb_immediate_100 (fu : Nat) (x3 : Int32) (x7 : Int32) (z0 : Int32) (F : PF) (G : PG) : PR := mb_immediate_179 fu x3 x7 z0 F G
def mb_immediate_99 (fu : Nat) (x3 : Int32) (x7 : Int32) (F : PF) (G : PG) : PR := mb_immediate_100 fu x3 x7 0 F G
def mb_immediate_95 (fu : Nat) (x3 : Int32) (x7 : Int32) (F : PF) (G : PG) : PR := mb_immediate_100 fu x3 x7 1 F G
def mb_immediate_88 (fu : Nat) (x3 : Int32) (x4 : Int32) (x5 : Int32) (x7 : Int32) (F : PF) (G : PG) : PR := if x5 ≤ x4 then mb_immediate_99 fu x3 x7 F G else mb_immediate_95 fu x3 x7 F G
def mb_immediate_125 (fu : Nat) (x3 : Int32) (x7 : Int32) (z0 : Int32) (F : PF) (G : PG) : PR := mb_immediate_179 fu x3 x7 z0 F G
def mb_immediate_124 (fu : Nat) (x3 : Int32) (x7 : Int32) (F : PF) (G : PG) : PR := mb_immediate_125 fu x3 x7 0 F G
def mb_immediate_120 (fu : Nat) (x3 : Int32) (x7 : Int32) (F : PF) (G : PG) : PR := mb_immediate_125 fu x3 x7 1 F G
def mb_immediate_105 (fu : Nat) (x3 : Int32) (x4 : Int32) (x5 : Int32) (x7 : Int32) (F : PF) (G : PG) : PR := if (x5 + (-2147483648 : Int32)) ≤ (x4 + (-2147483648 : Int32)) then mb_immediate_124 fu x3 x7 F G else mb_immediate_120 fu x3 x7 F G
def mb_immediate_130 (fu : Nat) (x3 : Int32) (x4 : Int32) (x5 : Int32) (x7 : Int32) (F : PF) (G : PG) : PR := mb_immediate_179 fu x3 x7 (x4 ^^^ x5) F G
def mb_immediate_157 (fu : Nat) (x3 : Int32) (x7 : Int32) (z0 : Int32) (F : PF) (G : PG) : PR := mb_immediate_179 fu x3 x7 z0 F G
def mb_immediate_152 (fu : Nat) (x3 : Int32) (x4 : Int32) (x6 : Int32) (x7 : Int32) (F : PF) (G : PG) : PR := mb_immediate_157 fu x3 x7 (x4 >>> (x6 &&& 31)) F G
def mb_immediate_144 (fu : Nat) (x3 : Int32) (x4 : Int32) (x6 : Int32) (x7 : Int32) (F : PF) (G : PG) : PR := mb_immediate_157 fu x3 x7 ((x4.toUInt32 >>> (x6.toUInt32 &&& Int32.toUInt32 31)).toInt32) F G
def mb_immediate_140 (fu : Nat) (x2 : Int32) (x3 : Int32) (x4 : Int32) (x6 : Int32) (x7 : Int32) (F : PF) (G : PG) : PR := if x2 = (0 : Int32) then mb_immediate_144 fu x3 x4 x6 x7 F G else mb_immediate_152 fu x3 x4 x6 x7 F G
def mb_immediate_162 (fu : Nat) (x3 : Int32) (x4 : Int32) (x5 : Int32) (x7 : Int32) (F : PF) (G : PG) : PR := mb_immediate_179 fu x3 x7 (x4 ||| x5) F G
def mb_immediate_172 (fu : Nat) (x3 : Int32) (x4 : Int32) (x5 : Int32) (x7 : Int32) (F : PF) (G : PG) : PR := mb_immediate_179 fu x3 x7 (x4 &&& x5) F G
def mb_immediate_26 (fu : Nat) (x1 : Int32) (x2 : Int32) (x3 : Int32) (x4 : Int32) (x5 : Int32) (x6 : Int32) (x7 : Int32) (F : PF) (G : PG) : PR := if x1.toInt < 0 ∨ 6 < x1.toInt then mb_immediate_172 fu x3 x4 x5 x7 F G else if x1 = 0 then mb_immediate_68 fu x3 x4 x5 x7 F G else if x1 = 1 then mb_immediate_78 fu x3 x4 x6 x7 F G else if x1 = 2 then mb_immediate_88 fu x3 x4 x5 x7 F G else if x1 = 3 then mb_immediate_105 fu x3 x4 x5 x7 F G else if x1 = 4 then mb_immediate_130 fu x3 x4 x5 x7 F G else if x1 = 5 then mb_immediate_140 fu x2 x3 x4 x6 x7 F G else mb_immediate_162 fu x3 x4 x5 x7 F G
def mb_immediate_24 (fu : Nat) (F : PF) (G : PG) : PR := some (2, F, G)
def mb_immediate_18 (fu : Nat) (x1 : Int32) (x2 : Int32) (x3 : Int32) (x4 : Int32) (x5 : Int32) (x6 : Int32) (x7 : Int32) (F : PF) (G : PG) : PR := if x2 = (32 : Int32) then mb_immediate_26 fu x1 x2 x3 x4 x5 x6 x7 F G else mb_immediate_24 fu F G
def mb_immediate_14 (fu : Nat) (x1 : Int32) (x2 : Int32) (x3 : Int32) (x4 : Int32) (x5 : Int32) (x6 : Int32) (x7 : Int32) (F : PF) (G : PG) : PR := if x2 = (0 : Int32) then mb_immediate_26 fu x1 x2 x3 x4 x5 x6 x7 F G else mb_immediate_18 fu x1 x2 x3 x4 x5 x6 x7 F G
def mb_immediate_9 (fu : Nat) (x1 : Int32) (x2 : Int32) (x3 : Int32) (x4 : Int32) (x5 : Int32) (x6 : Int32) (x7 : Int32) (F : PF) (G : PG) : PR := if x1 = (5 : Int32) then mb_immediate_14 fu x1 x2 x3 x4 x5 x6 x7 F G else mb_immediate_26 fu x1 x2 x3 x4 x5 x6 x7 F G
def mb_immediate_5 (fu : Nat) (x1 : Int32) (x2 : Int32) (x3 : Int32) (x4 : Int32) (x5 : Int32) (x6 : Int32) (x7 : Int32) (F : PF) (G : PG) : PR := if x2 = (0 : Int32) then mb_immediate_9 fu x1 x2 x3 x4 x5 x6 x7 F G else mb_immediate_24 fu F G
def mb_immediate_0 (fu : Nat) (x1 : Int32) (x2 : Int32) (x3 : Int32) (x4 : Int32) (x5 : Int32) (x6 : Int32) (x7 : Int32) (F : PF) (G : PG) : PR := if x1 = (1 : Int32) then mb_immediate_5 fu x1 x2 x3 x4 x5 x6 x7 F G else mb_immediate_9 fu x1 x2 x3 x4 x5 x6 x7 F G
def mf_immediate (fu : Nat) (x1 : Int32) (x2 : Int32) (x3 : Int32) (x4 : Int32) (x5 : Int32) (x6 : Int32) (x7 : Int32) (F : PF) (G : PG) : PR := mb_immediate_0 fu x1 x2 x3 x4 x5 x6 x7 F G
theorem mw_immediate_194 (fu : Nat) {res : Int32 × PF × PG} (C : mMC p R s m args c A v RX12 cX12_immediate 9 1 22) (hret : ∀ (H1 : Heap) (locs1 : List Loc) (ls1 : Array Slot) (pc : Nat), mMW s A v a res.2.1 res.2.2 H1 locs1 → narrow .int (.int res.1) = .int res.1 → decode cX12_immediate pc = .ok (.ireturn, 1) → W p l e R s m args below meth c H1 locs1 0 0 Q (F0 m pc ls1 [.int res.1])) (z0 : Int32) (F : PF) (G : PG) (hm : mb_immediate_194 fu z0 F G = some res) {H : Heap} {locs : List Loc} (hw : mMW s A v a F G H locs) {ls : Array Slot} (hl : lv_has ls 9 []) : W p l e R s m args below meth c H locs 0 0 Q (F0 m 194 ls [.int z0]) := by
  have hx := C.1
  have hb := C.2.1
  unfold mb_immediate_194 at hm
  obtain rfl := Option.some.inj hm
  exact hret _ _ _ _ hw rfl dX12_immediate_194
theorem mw_immediate_186 (fu : Nat) {res : Int32 × PF × PG} (C : mMC p R s m args c A v RX12 cX12_immediate 9 1 22) (hret : ∀ (H1 : Heap) (locs1 : List Loc) (ls1 : Array Slot) (pc : Nat), mMW s A v a res.2.1 res.2.2 H1 locs1 → narrow .int (.int res.1) = .int res.1 → decode cX12_immediate pc = .ok (.ireturn, 1) → W p l e R s m args below meth c H1 locs1 0 0 Q (F0 m pc ls1 [.int res.1])) (x7 : Int32) (F : PF) (G : PG) (hm : mb_immediate_186 fu x7 F G = some res) {H : Heap} {locs : List Loc} (hw : mMW s A v a F G H locs) {ls : Array Slot} (hl : lv_has ls 9 [(0, .ref (a 212)), (7, .int x7)]) : W p l e R s m args below meth c H locs 0 0 Q (F0 m 186 ls []) := by
  have hx := C.1
  have hb := C.2.1
  unfold mb_immediate_186 at hm
  refine lv_aload_n hx hb dX12_immediate_186 rfl (lv_at hl 0 rfl) ?_
  refine lv_iload hx hb dX12_immediate_187 (lv_at hl 1 rfl) ?_
  refine lv_iconst (v := 4) hx hb dX12_immediate_189 (by decide) ?_
  refine lv_iadd hx hb dX12_immediate_190 ?_
  obtain ⟨⟨r1, F1, G1⟩, hc, hm⟩ := bind_elim hm
  refine mcallI (n := 1) (As := [.int (x7 + (4 : Int32))]) (rest := []) C hw (mk_goesOn l v a _ fu (x7 + (4 : Int32)) F G r1 F1 G1 hc) (mrecv_X12 C hw) mm_474 mm_475 mm_476 mm_27 mm_477 (by decide +kernel) rfl (by omega) (by omega) hl.1 rfl (Nat.le_of_ble_eq_true rfl) dX12_immediate_191 (fun H locs hw => ?_)
  exact mw_immediate_194 fu C hret r1 F1 G1 hm hw (lv_sub hl [] rfl)
theorem mw_immediate_179 (fu : Nat) {res : Int32 × PF × PG} (C : mMC p R s m args c A v RX12 cX12_immediate 9 1 22) (hret : ∀ (H1 : Heap) (locs1 : List Loc) (ls1 : Array Slot) (pc : Nat), mMW s A v a res.2.1 res.2.2 H1 locs1 → narrow .int (.int res.1) = .int res.1 → decode cX12_immediate pc = .ok (.ireturn, 1) → W p l e R s m args below meth c H1 locs1 0 0 Q (F0 m pc ls1 [.int res.1])) (x3 : Int32) (x7 : Int32) (x8 : Int32) (F : PF) (G : PG) (hm : mb_immediate_179 fu x3 x7 x8 F G = some res) {H : Heap} {locs : List Loc} (hw : mMW s A v a F G H locs) {ls : Array Slot} (hl : lv_has ls 9 [(0, .ref (a 212)), (3, .int x3), (7, .int x7), (8, .int x8)]) : W p l e R s m args below meth c H locs 0 0 Q (F0 m 179 ls []) := by
  have hx := C.1
  have hb := C.2.1
  unfold mb_immediate_179 at hm
  refine lv_aload_n hx hb dX12_immediate_179 rfl (lv_at hl 0 rfl) ?_
  refine lv_iload_n hx hb dX12_immediate_180 rfl (lv_at hl 1 rfl) ?_
  refine lv_iload hx hb dX12_immediate_181 (lv_at hl 3 rfl) ?_
  obtain ⟨⟨r1, F1, G1⟩, hc, hm⟩ := bind_elim hm
  refine mcallV (n := 2) (As := [.int x3, .int x8]) (rest := []) C hw (mk_gives l v a _ fu x3 x8 F G r1 F1 G1 hc) (mrecv_X12 C hw) mm_470 mm_471 mm_472 mm_27 mm_473 (by decide +kernel) rfl (by omega) (by omega) hl.1 rfl (Nat.le_of_ble_eq_true rfl) dX12_immediate_183 (fun H locs hw => ?_)
  exact mw_immediate_186 fu C hret x7 F1 G1 hm hw (lv_sub hl [0, 2] rfl)
theorem mw_immediate_68 (fu : Nat) {res : Int32 × PF × PG} (C : mMC p R s m args c A v RX12 cX12_immediate 9 1 22) (hret : ∀ (H1 : Heap) (locs1 : List Loc) (ls1 : Array Slot) (pc : Nat), mMW s A v a res.2.1 res.2.2 H1 locs1 → narrow .int (.int res.1) = .int res.1 → decode cX12_immediate pc = .ok (.ireturn, 1) → W p l e R s m args below meth c H1 locs1 0 0 Q (F0 m pc ls1 [.int res.1])) (x3 : Int32) (x4 : Int32) (x5 : Int32) (x7 : Int32) (F : PF) (G : PG) (hm : mb_immediate_68 fu x3 x4 x5 x7 F G = some res) {H : Heap} {locs : List Loc} (hw : mMW s A v a F G H locs) {ls : Array Slot} (hl : lv_has ls 9 [(0, .ref (a 212)), (3, .int x3), (4, .int x4), (5, .int x5), (7, .int x7)]) : W p l e R s m args below meth c H locs 0 0 Q (F0 m 68 ls []) := by
  have hx := C.1
  have hb := C.2.1
  unfold mb_immediate_68 at hm
  refine lv_iload hx hb dX12_immediate_68 (lv_at hl 2 rfl) ?_
  refine lv_iload hx hb dX12_immediate_70 (lv_at hl 3 rfl) ?_
  refine lv_iadd hx hb dX12_immediate_72 ?_
  refine lv_istore (lv' := [(8, .int (x4 + x5)), (0, .ref (a 212)), (3, .int x3), (4, .int x4), (5, .int x5), (7, .int x7)]) hx hb dX12_immediate_73 hl (by decide) rfl (fun ls hl => ?_)
  refine lv_goto (tgt := 179) hx hb dX12_immediate_75 (by decide) ?_
  exact mw_immediate_179 fu C hret x3 x7 (x4 + x5) F G hm hw (lv_sub hl [1, 2, 5, 0] rfl)
theorem mw_immediate_78 (fu : Nat) {res : Int32 × PF × PG} (C : mMC p R s m args c A v RX12 cX12_immediate 9 1 22) (hret : ∀ (H1 : Heap) (locs1 : List Loc) (ls1 : Array Slot) (pc : Nat), mMW s A v a res.2.1 res.2.2 H1 locs1 → narrow .int (.int res.1) = .int res.1 → decode cX12_immediate pc = .ok (.ireturn, 1) → W p l e R s m args below meth c H1 locs1 0 0 Q (F0 m pc ls1 [.int res.1])) (x3 : Int32) (x4 : Int32) (x6 : Int32) (x7 : Int32) (F : PF) (G : PG) (hm : mb_immediate_78 fu x3 x4 x6 x7 F G = some res) {H : Heap} {locs : List Loc} (hw : mMW s A v a F G H locs) {ls : Array Slot} (hl : lv_has ls 9 [(0, .ref (a 212)), (3, .int x3), (4, .int x4), (6, .int x6), (7, .int x7)]) : W p l e R s m args below meth c H locs 0 0 Q (F0 m 78 ls []) := by
  have hx := C.1
  have hb := C.2.1
  unfold mb_immediate_78 at hm
  refine lv_iload hx hb dX12_immediate_78 (lv_at hl 2 rfl) ?_
  refine lv_iload hx hb dX12_immediate_80 (lv_at hl 3 rfl) ?_
  refine lv_ishl hx hb dX12_immediate_82 ?_
  refine lv_istore (lv' := [(8, .int (x4 <<< (x6 &&& 31))), (0, .ref (a 212)), (3, .int x3), (4, .int x4), (6, .int x6), (7, .int x7)]) hx hb dX12_immediate_83 hl (by decide) rfl (fun ls hl => ?_)
  refine lv_goto (tgt := 179) hx hb dX12_immediate_85 (by decide) ?_
  exact mw_immediate_179 fu C hret x3 x7 (x4 <<< (x6 &&& 31)) F G hm hw (lv_sub hl [1, 2, 5, 0] rfl)
theorem mw_immediate_100 (fu : Nat) {res : Int32 × PF × PG} (C : mMC p R s m args c A v RX12 cX12_immediate 9 1 22) (hret : ∀ (H1 : Heap) (locs1 : List Loc) (ls1 : Array Slot) (pc : Nat), mMW s A v a res.2.1 res.2.2 H1 locs1 → narrow .int (.int res.1) = .int res.1 → decode cX12_immediate pc = .ok (.ireturn, 1) → W p l e R s m args below meth c H1 locs1 0 0 Q (F0 m pc ls1 [.int res.1])) (x3 : Int32) (x7 : Int32) (z0 : Int32) (F : PF) (G : PG) (hm : mb_immediate_100 fu x3 x7 z0 F G = some res) {H : Heap} {locs : List Loc} (hw : mMW s A v a F G H locs) {ls : Array Slot} (hl : lv_has ls 9 [(0, .ref (a 212)), (3, .int x3), (7, .int x7)]) : W p l e R s m args below meth c H locs 0 0 Q (F0 m 100 ls [.int z0]) := by
  have hx := C.1
  have hb := C.2.1
  unfold mb_immediate_100 at hm
  refine lv_istore (lv' := [(8, .int z0), (0, .ref (a 212)), (3, .int x3), (7, .int x7)]) hx hb dX12_immediate_100 hl (by decide) rfl (fun ls hl => ?_)
  refine lv_goto (tgt := 179) hx hb dX12_immediate_102 (by decide) ?_
  exact mw_immediate_179 fu C hret x3 x7 z0 F G hm hw (lv_sub hl [1, 2, 3, 0] rfl)
theorem mw_immediate_99 (fu : Nat) {res : Int32 × PF × PG} (C : mMC p R s m args c A v RX12 cX12_immediate 9 1 22) (hret : ∀ (H1 : Heap) (locs1 : List Loc) (ls1 : Array Slot) (pc : Nat), mMW s A v a res.2.1 res.2.2 H1 locs1 → narrow .int (.int res.1) = .int res.1 → decode cX12_immediate pc = .ok (.ireturn, 1) → W p l e R s m args below meth c H1 locs1 0 0 Q (F0 m pc ls1 [.int res.1])) (x3 : Int32) (x7 : Int32) (F : PF) (G : PG) (hm : mb_immediate_99 fu x3 x7 F G = some res) {H : Heap} {locs : List Loc} (hw : mMW s A v a F G H locs) {ls : Array Slot} (hl : lv_has ls 9 [(0, .ref (a 212)), (3, .int x3), (7, .int x7)]) : W p l e R s m args below meth c H locs 0 0 Q (F0 m 99 ls []) := by
  have hx := C.1
  have hb := C.2.1
  unfold mb_immediate_99 at hm
  refine lv_iconst (v := 0) hx hb dX12_immediate_99 (by decide) ?_
  exact mw_immediate_100 fu C hret x3 x7 0 F G hm hw (lv_sub hl [0, 1, 2] rfl)
theorem mw_immediate_95 (fu : Nat) {res : Int32 × PF × PG} (C : mMC p R s m args c A v RX12 cX12_immediate 9 1 22) (hret : ∀ (H1 : Heap) (locs1 : List Loc) (ls1 : Array Slot) (pc : Nat), mMW s A v a res.2.1 res.2.2 H1 locs1 → narrow .int (.int res.1) = .int res.1 → decode cX12_immediate pc = .ok (.ireturn, 1) → W p l e R s m args below meth c H1 locs1 0 0 Q (F0 m pc ls1 [.int res.1])) (x3 : Int32) (x7 : Int32) (F : PF) (G : PG) (hm : mb_immediate_95 fu x3 x7 F G = some res) {H : Heap} {locs : List Loc} (hw : mMW s A v a F G H locs) {ls : Array Slot} (hl : lv_has ls 9 [(0, .ref (a 212)), (3, .int x3), (7, .int x7)]) : W p l e R s m args below meth c H locs 0 0 Q (F0 m 95 ls []) := by
  have hx := C.1
  have hb := C.2.1
  unfold mb_immediate_95 at hm
  refine lv_iconst (v := 1) hx hb dX12_immediate_95 (by decide) ?_
  refine lv_goto (tgt := 100) hx hb dX12_immediate_96 (by decide) ?_
  exact mw_immediate_100 fu C hret x3 x7 1 F G hm hw (lv_sub hl [0, 1, 2] rfl)
theorem mw_immediate_88 (fu : Nat) {res : Int32 × PF × PG} (C : mMC p R s m args c A v RX12 cX12_immediate 9 1 22) (hret : ∀ (H1 : Heap) (locs1 : List Loc) (ls1 : Array Slot) (pc : Nat), mMW s A v a res.2.1 res.2.2 H1 locs1 → narrow .int (.int res.1) = .int res.1 → decode cX12_immediate pc = .ok (.ireturn, 1) → W p l e R s m args below meth c H1 locs1 0 0 Q (F0 m pc ls1 [.int res.1])) (x3 : Int32) (x4 : Int32) (x5 : Int32) (x7 : Int32) (F : PF) (G : PG) (hm : mb_immediate_88 fu x3 x4 x5 x7 F G = some res) {H : Heap} {locs : List Loc} (hw : mMW s A v a F G H locs) {ls : Array Slot} (hl : lv_has ls 9 [(0, .ref (a 212)), (3, .int x3), (4, .int x4), (5, .int x5), (7, .int x7)]) : W p l e R s m args below meth c H locs 0 0 Q (F0 m 88 ls []) := by
  have hx := C.1
  have hb := C.2.1
  unfold mb_immediate_88 at hm
  refine lv_iload hx hb dX12_immediate_88 (lv_at hl 2 rfl) ?_
  refine lv_iload hx hb dX12_immediate_90 (lv_at hl 3 rfl) ?_
  refine lv_icmp_ge (tgt := 99) hx hb dX12_immediate_92 (by decide) (fun c_1 => ?_) (fun c_1 => ?_)
  · have hm := (if_pos c_1).symm.trans hm
    exact mw_immediate_99 fu C hret x3 x7 F G hm hw (lv_sub hl [0, 1, 4] rfl)
  · have hm := (if_neg c_1).symm.trans hm
    exact mw_immediate_95 fu C hret x3 x7 F G hm hw (lv_sub hl [0, 1, 4] rfl)
theorem mw_immediate_125 (fu : Nat) {res : Int32 × PF × PG} (C : mMC p R s m args c A v RX12 cX12_immediate 9 1 22) (hret : ∀ (H1 : Heap) (locs1 : List Loc) (ls1 : Array Slot) (pc : Nat), mMW s A v a res.2.1 res.2.2 H1 locs1 → narrow .int (.int res.1) = .int res.1 → decode cX12_immediate pc = .ok (.ireturn, 1) → W p l e R s m args below meth c H1 locs1 0 0 Q (F0 m pc ls1 [.int res.1])) (x3 : Int32) (x7 : Int32) (z0 : Int32) (F : PF) (G : PG) (hm : mb_immediate_125 fu x3 x7 z0 F G = some res) {H : Heap} {locs : List Loc} (hw : mMW s A v a F G H locs) {ls : Array Slot} (hl : lv_has ls 9 [(0, .ref (a 212)), (3, .int x3), (7, .int x7)]) : W p l e R s m args below meth c H locs 0 0 Q (F0 m 125 ls [.int z0]) := by
  have hx := C.1
  have hb := C.2.1
  unfold mb_immediate_125 at hm
  refine lv_istore (lv' := [(8, .int z0), (0, .ref (a 212)), (3, .int x3), (7, .int x7)]) hx hb dX12_immediate_125 hl (by decide) rfl (fun ls hl => ?_)
  refine lv_goto (tgt := 179) hx hb dX12_immediate_127 (by decide) ?_
  exact mw_immediate_179 fu C hret x3 x7 z0 F G hm hw (lv_sub hl [1, 2, 3, 0] rfl)
theorem mw_immediate_124 (fu : Nat) {res : Int32 × PF × PG} (C : mMC p R s m args c A v RX12 cX12_immediate 9 1 22) (hret : ∀ (H1 : Heap) (locs1 : List Loc) (ls1 : Array Slot) (pc : Nat), mMW s A v a res.2.1 res.2.2 H1 locs1 → narrow .int (.int res.1) = .int res.1 → decode cX12_immediate pc = .ok (.ireturn, 1) → W p l e R s m args below meth c H1 locs1 0 0 Q (F0 m pc ls1 [.int res.1])) (x3 : Int32) (x7 : Int32) (F : PF) (G : PG) (hm : mb_immediate_124 fu x3 x7 F G = some res) {H : Heap} {locs : List Loc} (hw : mMW s A v a F G H locs) {ls : Array Slot} (hl : lv_has ls 9 [(0, .ref (a 212)), (3, .int x3), (7, .int x7)]) : W p l e R s m args below meth c H locs 0 0 Q (F0 m 124 ls []) := by
  have hx := C.1
  have hb := C.2.1
  unfold mb_immediate_124 at hm
  refine lv_iconst (v := 0) hx hb dX12_immediate_124 (by decide) ?_
  exact mw_immediate_125 fu C hret x3 x7 0 F G hm hw (lv_sub hl [0, 1, 2] rfl)
theorem mw_immediate_120 (fu : Nat) {res : Int32 × PF × PG} (C : mMC p R s m args c A v RX12 cX12_immediate 9 1 22) (hret : ∀ (H1 : Heap) (locs1 : List Loc) (ls1 : Array Slot) (pc : Nat), mMW s A v a res.2.1 res.2.2 H1 locs1 → narrow .int (.int res.1) = .int res.1 → decode cX12_immediate pc = .ok (.ireturn, 1) → W p l e R s m args below meth c H1 locs1 0 0 Q (F0 m pc ls1 [.int res.1])) (x3 : Int32) (x7 : Int32) (F : PF) (G : PG) (hm : mb_immediate_120 fu x3 x7 F G = some res) {H : Heap} {locs : List Loc} (hw : mMW s A v a F G H locs) {ls : Array Slot} (hl : lv_has ls 9 [(0, .ref (a 212)), (3, .int x3), (7, .int x7)]) : W p l e R s m args below meth c H locs 0 0 Q (F0 m 120 ls []) := by
  have hx := C.1
  have hb := C.2.1
  unfold mb_immediate_120 at hm
  refine lv_iconst (v := 1) hx hb dX12_immediate_120 (by decide) ?_
  refine lv_goto (tgt := 125) hx hb dX12_immediate_121 (by decide) ?_
  exact mw_immediate_125 fu C hret x3 x7 1 F G hm hw (lv_sub hl [0, 1, 2] rfl)
theorem mw_immediate_105 (fu : Nat) {res : Int32 × PF × PG} (C : mMC p R s m args c A v RX12 cX12_immediate 9 1 22) (hret : ∀ (H1 : Heap) (locs1 : List Loc) (ls1 : Array Slot) (pc : Nat), mMW s A v a res.2.1 res.2.2 H1 locs1 → narrow .int (.int res.1) = .int res.1 → decode cX12_immediate pc = .ok (.ireturn, 1) → W p l e R s m args below meth c H1 locs1 0 0 Q (F0 m pc ls1 [.int res.1])) (x3 : Int32) (x4 : Int32) (x5 : Int32) (x7 : Int32) (F : PF) (G : PG) (hm : mb_immediate_105 fu x3 x4 x5 x7 F G = some res) {H : Heap} {locs : List Loc} (hw : mMW s A v a F G H locs) {ls : Array Slot} (hl : lv_has ls 9 [(0, .ref (a 212)), (3, .int x3), (4, .int x4), (5, .int x5), (7, .int x7)]) : W p l e R s m args below meth c H locs 0 0 Q (F0 m 105 ls []) := by
  have hx := C.1
  have hb := C.2.1
  unfold mb_immediate_105 at hm
  refine lv_iload hx hb dX12_immediate_105 (lv_at hl 2 rfl) ?_
  refine lv_ldcw (v := (-2147483648)) hx hb C.2.2.2.1 (C.2.2.2.2.1 _ mm_303) dX12_immediate_107 ?_
  refine lv_iadd hx hb dX12_immediate_110 ?_
  refine lv_iload hx hb dX12_immediate_111 (lv_at hl 3 rfl) ?_
  refine lv_ldcw (v := (-2147483648)) hx hb C.2.2.2.1 (C.2.2.2.2.1 _ mm_303) dX12_immediate_113 ?_
  refine lv_iadd hx hb dX12_immediate_116 ?_
  refine lv_icmp_ge (tgt := 124) hx hb dX12_immediate_117 (by decide) (fun c_1 => ?_) (fun c_1 => ?_)
  · have hm := (if_pos c_1).symm.trans hm
    exact mw_immediate_124 fu C hret x3 x7 F G hm hw (lv_sub hl [0, 1, 4] rfl)
  · have hm := (if_neg c_1).symm.trans hm
    exact mw_immediate_120 fu C hret x3 x7 F G hm hw (lv_sub hl [0, 1, 4] rfl)
theorem mw_immediate_130 (fu : Nat) {res : Int32 × PF × PG} (C : mMC p R s m args c A v RX12 cX12_immediate 9 1 22) (hret : ∀ (H1 : Heap) (locs1 : List Loc) (ls1 : Array Slot) (pc : Nat), mMW s A v a res.2.1 res.2.2 H1 locs1 → narrow .int (.int res.1) = .int res.1 → decode cX12_immediate pc = .ok (.ireturn, 1) → W p l e R s m args below meth c H1 locs1 0 0 Q (F0 m pc ls1 [.int res.1])) (x3 : Int32) (x4 : Int32) (x5 : Int32) (x7 : Int32) (F : PF) (G : PG) (hm : mb_immediate_130 fu x3 x4 x5 x7 F G = some res) {H : Heap} {locs : List Loc} (hw : mMW s A v a F G H locs) {ls : Array Slot} (hl : lv_has ls 9 [(0, .ref (a 212)), (3, .int x3), (4, .int x4), (5, .int x5), (7, .int x7)]) : W p l e R s m args below meth c H locs 0 0 Q (F0 m 130 ls []) := by
  have hx := C.1
  have hb := C.2.1
  unfold mb_immediate_130 at hm
  refine lv_iload hx hb dX12_immediate_130 (lv_at hl 2 rfl) ?_
  refine lv_iload hx hb dX12_immediate_132 (lv_at hl 3 rfl) ?_
  refine lv_ixor hx hb dX12_immediate_134 ?_
  refine lv_istore (lv' := [(8, .int (x4 ^^^ x5)), (0, .ref (a 212)), (3, .int x3), (4, .int x4), (5, .int x5), (7, .int x7)]) hx hb dX12_immediate_135 hl (by decide) rfl (fun ls hl => ?_)
  refine lv_goto (tgt := 179) hx hb dX12_immediate_137 (by decide) ?_
  exact mw_immediate_179 fu C hret x3 x7 (x4 ^^^ x5) F G hm hw (lv_sub hl [1, 2, 5, 0] rfl)
theorem mw_immediate_157 (fu : Nat) {res : Int32 × PF × PG} (C : mMC p R s m args c A v RX12 cX12_immediate 9 1 22) (hret : ∀ (H1 : Heap) (locs1 : List Loc) (ls1 : Array Slot) (pc : Nat), mMW s A v a res.2.1 res.2.2 H1 locs1 → narrow .int (.int res.1) = .int res.1 → decode cX12_immediate pc = .ok (.ireturn, 1) → W p l e R s m args below meth c H1 locs1 0 0 Q (F0 m pc ls1 [.int res.1])) (x3 : Int32) (x7 : Int32) (z0 : Int32) (F : PF) (G : PG) (hm : mb_immediate_157 fu x3 x7 z0 F G = some res) {H : Heap} {locs : List Loc} (hw : mMW s A v a F G H locs) {ls : Array Slot} (hl : lv_has ls 9 [(0, .ref (a 212)), (3, .int x3), (7, .int x7)]) : W p l e R s m args below meth c H locs 0 0 Q (F0 m 157 ls [.int z0]) := by
  have hx := C.1
  have hb := C.2.1
  unfold mb_immediate_157 at hm
  refine lv_istore (lv' := [(8, .int z0), (0, .ref (a 212)), (3, .int x3), (7, .int x7)]) hx hb dX12_immediate_157 hl (by decide) rfl (fun ls hl => ?_)
  refine lv_goto (tgt := 179) hx hb dX12_immediate_159 (by decide) ?_
  exact mw_immediate_179 fu C hret x3 x7 z0 F G hm hw (lv_sub hl [1, 2, 3, 0] rfl)
theorem mw_immediate_152 (fu : Nat) {res : Int32 × PF × PG} (C : mMC p R s m args c A v RX12 cX12_immediate 9 1 22) (hret : ∀ (H1 : Heap) (locs1 : List Loc) (ls1 : Array Slot) (pc : Nat), mMW s A v a res.2.1 res.2.2 H1 locs1 → narrow .int (.int res.1) = .int res.1 → decode cX12_immediate pc = .ok (.ireturn, 1) → W p l e R s m args below meth c H1 locs1 0 0 Q (F0 m pc ls1 [.int res.1])) (x3 : Int32) (x4 : Int32) (x6 : Int32) (x7 : Int32) (F : PF) (G : PG) (hm : mb_immediate_152 fu x3 x4 x6 x7 F G = some res) {H : Heap} {locs : List Loc} (hw : mMW s A v a F G H locs) {ls : Array Slot} (hl : lv_has ls 9 [(0, .ref (a 212)), (3, .int x3), (4, .int x4), (6, .int x6), (7, .int x7)]) : W p l e R s m args below meth c H locs 0 0 Q (F0 m 152 ls []) := by
  have hx := C.1
  have hb := C.2.1
  unfold mb_immediate_152 at hm
  refine lv_iload hx hb dX12_immediate_152 (lv_at hl 2 rfl) ?_
  refine lv_iload hx hb dX12_immediate_154 (lv_at hl 3 rfl) ?_
  refine lv_ishr hx hb dX12_immediate_156 ?_
  exact mw_immediate_157 fu C hret x3 x7 (x4 >>> (x6 &&& 31)) F G hm hw (lv_sub hl [0, 1, 4] rfl)
theorem mw_immediate_144 (fu : Nat) {res : Int32 × PF × PG} (C : mMC p R s m args c A v RX12 cX12_immediate 9 1 22) (hret : ∀ (H1 : Heap) (locs1 : List Loc) (ls1 : Array Slot) (pc : Nat), mMW s A v a res.2.1 res.2.2 H1 locs1 → narrow .int (.int res.1) = .int res.1 → decode cX12_immediate pc = .ok (.ireturn, 1) → W p l e R s m args below meth c H1 locs1 0 0 Q (F0 m pc ls1 [.int res.1])) (x3 : Int32) (x4 : Int32) (x6 : Int32) (x7 : Int32) (F : PF) (G : PG) (hm : mb_immediate_144 fu x3 x4 x6 x7 F G = some res) {H : Heap} {locs : List Loc} (hw : mMW s A v a F G H locs) {ls : Array Slot} (hl : lv_has ls 9 [(0, .ref (a 212)), (3, .int x3), (4, .int x4), (6, .int x6), (7, .int x7)]) : W p l e R s m args below meth c H locs 0 0 Q (F0 m 144 ls []) := by
  have hx := C.1
  have hb := C.2.1
  unfold mb_immediate_144 at hm
  refine lv_iload hx hb dX12_immediate_144 (lv_at hl 2 rfl) ?_
  refine lv_iload hx hb dX12_immediate_146 (lv_at hl 3 rfl) ?_
  refine lv_iushr hx hb dX12_immediate_148 rfl ?_
  refine lv_goto (tgt := 157) hx hb dX12_immediate_149 (by decide) ?_
  exact mw_immediate_157 fu C hret x3 x7 ((x4.toUInt32 >>> (x6.toUInt32 &&& Int32.toUInt32 31)).toInt32) F G hm hw (lv_sub hl [0, 1, 4] rfl)
theorem mw_immediate_140 (fu : Nat) {res : Int32 × PF × PG} (C : mMC p R s m args c A v RX12 cX12_immediate 9 1 22) (hret : ∀ (H1 : Heap) (locs1 : List Loc) (ls1 : Array Slot) (pc : Nat), mMW s A v a res.2.1 res.2.2 H1 locs1 → narrow .int (.int res.1) = .int res.1 → decode cX12_immediate pc = .ok (.ireturn, 1) → W p l e R s m args below meth c H1 locs1 0 0 Q (F0 m pc ls1 [.int res.1])) (x2 : Int32) (x3 : Int32) (x4 : Int32) (x6 : Int32) (x7 : Int32) (F : PF) (G : PG) (hm : mb_immediate_140 fu x2 x3 x4 x6 x7 F G = some res) {H : Heap} {locs : List Loc} (hw : mMW s A v a F G H locs) {ls : Array Slot} (hl : lv_has ls 9 [(0, .ref (a 212)), (2, .int x2), (3, .int x3), (4, .int x4), (6, .int x6), (7, .int x7)]) : W p l e R s m args below meth c H locs 0 0 Q (F0 m 140 ls []) := by
  have hx := C.1
  have hb := C.2.1
  unfold mb_immediate_140 at hm
  refine lv_iload_n hx hb dX12_immediate_140 rfl (lv_at hl 1 rfl) ?_
  refine lv_if_ne (tgt := 152) hx hb dX12_immediate_141 (by decide) (fun c_1 => ?_) (fun c_1 => ?_)
  · have hm := (if_neg c_1).symm.trans hm
    exact mw_immediate_152 fu C hret x3 x4 x6 x7 F G hm hw (lv_sub hl [0, 2, 3, 4, 5] rfl)
  · have hm := (if_pos c_1).symm.trans hm
    exact mw_immediate_144 fu C hret x3 x4 x6 x7 F G hm hw (lv_sub hl [0, 2, 3, 4, 5] rfl)
theorem mw_immediate_162 (fu : Nat) {res : Int32 × PF × PG} (C : mMC p R s m args c A v RX12 cX12_immediate 9 1 22) (hret : ∀ (H1 : Heap) (locs1 : List Loc) (ls1 : Array Slot) (pc : Nat), mMW s A v a res.2.1 res.2.2 H1 locs1 → narrow .int (.int res.1) = .int res.1 → decode cX12_immediate pc = .ok (.ireturn, 1) → W p l e R s m args below meth c H1 locs1 0 0 Q (F0 m pc ls1 [.int res.1])) (x3 : Int32) (x4 : Int32) (x5 : Int32) (x7 : Int32) (F : PF) (G : PG) (hm : mb_immediate_162 fu x3 x4 x5 x7 F G = some res) {H : Heap} {locs : List Loc} (hw : mMW s A v a F G H locs) {ls : Array Slot} (hl : lv_has ls 9 [(0, .ref (a 212)), (3, .int x3), (4, .int x4), (5, .int x5), (7, .int x7)]) : W p l e R s m args below meth c H locs 0 0 Q (F0 m 162 ls []) := by
  have hx := C.1
  have hb := C.2.1
  unfold mb_immediate_162 at hm
  refine lv_iload hx hb dX12_immediate_162 (lv_at hl 2 rfl) ?_
  refine lv_iload hx hb dX12_immediate_164 (lv_at hl 3 rfl) ?_
  refine lv_ior hx hb dX12_immediate_166 ?_
  refine lv_istore (lv' := [(8, .int (x4 ||| x5)), (0, .ref (a 212)), (3, .int x3), (4, .int x4), (5, .int x5), (7, .int x7)]) hx hb dX12_immediate_167 hl (by decide) rfl (fun ls hl => ?_)
  refine lv_goto (tgt := 179) hx hb dX12_immediate_169 (by decide) ?_
  exact mw_immediate_179 fu C hret x3 x7 (x4 ||| x5) F G hm hw (lv_sub hl [1, 2, 5, 0] rfl)
theorem mw_immediate_172 (fu : Nat) {res : Int32 × PF × PG} (C : mMC p R s m args c A v RX12 cX12_immediate 9 1 22) (hret : ∀ (H1 : Heap) (locs1 : List Loc) (ls1 : Array Slot) (pc : Nat), mMW s A v a res.2.1 res.2.2 H1 locs1 → narrow .int (.int res.1) = .int res.1 → decode cX12_immediate pc = .ok (.ireturn, 1) → W p l e R s m args below meth c H1 locs1 0 0 Q (F0 m pc ls1 [.int res.1])) (x3 : Int32) (x4 : Int32) (x5 : Int32) (x7 : Int32) (F : PF) (G : PG) (hm : mb_immediate_172 fu x3 x4 x5 x7 F G = some res) {H : Heap} {locs : List Loc} (hw : mMW s A v a F G H locs) {ls : Array Slot} (hl : lv_has ls 9 [(0, .ref (a 212)), (3, .int x3), (4, .int x4), (5, .int x5), (7, .int x7)]) : W p l e R s m args below meth c H locs 0 0 Q (F0 m 172 ls []) := by
  have hx := C.1
  have hb := C.2.1
  unfold mb_immediate_172 at hm
  refine lv_iload hx hb dX12_immediate_172 (lv_at hl 2 rfl) ?_
  refine lv_iload hx hb dX12_immediate_174 (lv_at hl 3 rfl) ?_
  refine lv_iand hx hb dX12_immediate_176 ?_
  refine lv_istore (lv' := [(8, .int (x4 &&& x5)), (0, .ref (a 212)), (3, .int x3), (4, .int x4), (5, .int x5), (7, .int x7)]) hx hb dX12_immediate_177 hl (by decide) rfl (fun ls hl => ?_)
  exact mw_immediate_179 fu C hret x3 x7 (x4 &&& x5) F G hm hw (lv_sub hl [1, 2, 5, 0] rfl)
theorem mw_immediate_26 (fu : Nat) {res : Int32 × PF × PG} (C : mMC p R s m args c A v RX12 cX12_immediate 9 1 22) (hret : ∀ (H1 : Heap) (locs1 : List Loc) (ls1 : Array Slot) (pc : Nat), mMW s A v a res.2.1 res.2.2 H1 locs1 → narrow .int (.int res.1) = .int res.1 → decode cX12_immediate pc = .ok (.ireturn, 1) → W p l e R s m args below meth c H1 locs1 0 0 Q (F0 m pc ls1 [.int res.1])) (x1 : Int32) (x2 : Int32) (x3 : Int32) (x4 : Int32) (x5 : Int32) (x6 : Int32) (x7 : Int32) (F : PF) (G : PG) (hm : mb_immediate_26 fu x1 x2 x3 x4 x5 x6 x7 F G = some res) {H : Heap} {locs : List Loc} (hw : mMW s A v a F G H locs) {ls : Array Slot} (hl : lv_has ls 9 [(0, .ref (a 212)), (1, .int x1), (2, .int x2), (3, .int x3), (4, .int x4), (5, .int x5), (6, .int x6), (7, .int x7)]) : W p l e R s m args below meth c H locs 0 0 Q (F0 m 26 ls []) := by
  have hx := C.1
  have hb := C.2.1
  unfold mb_immediate_26 at hm
  refine lv_iload_n hx hb dX12_immediate_26 rfl (lv_at hl 1 rfl) ?_
  by_cases c_0 : x1.toInt < 0 ∨ 6 < x1.toInt
  · have hm := (if_pos c_0).symm.trans hm
    refine lv_tableOut (tgt := 172) hx hb dX12_immediate_27 c_0 (by decide) ?_
    exact mw_immediate_172 fu C hret x3 x4 x5 x7 F G hm hw (lv_sub hl [0, 3, 4, 5, 7] rfl)
  have hm := (if_neg c_0).symm.trans hm
  by_cases c_1 : x1 = 0
  · have hm := (if_pos c_1).symm.trans hm
    refine my_top 0 c_1 ?_
    refine lv_tableIn (off := 41) (tgt := 68) hx hb dX12_immediate_27 (by decide) (by decide) (by decide) (by decide) ?_
    exact mw_immediate_68 fu C hret x3 x4 x5 x7 F G hm hw (lv_sub hl [0, 3, 4, 5, 7] rfl)
  have hm := (if_neg c_1).symm.trans hm
  have n_0 := c_1
  clear c_1
  by_cases c_1 : x1 = 1
  · have hm := (if_pos c_1).symm.trans hm
    refine my_top 1 c_1 ?_
    refine lv_tableIn (off := 51) (tgt := 78) hx hb dX12_immediate_27 (by decide) (by decide) (by decide) (by decide) ?_
    exact mw_immediate_78 fu C hret x3 x4 x6 x7 F G hm hw (lv_sub hl [0, 3, 4, 6, 7] rfl)
  have hm := (if_neg c_1).symm.trans hm
  have n_1 := c_1
  clear c_1
  by_cases c_1 : x1 = 2
  · have hm := (if_pos c_1).symm.trans hm
    refine my_top 2 c_1 ?_
    refine lv_tableIn (off := 61) (tgt := 88) hx hb dX12_immediate_27 (by decide) (by decide) (by decide) (by decide) ?_
    exact mw_immediate_88 fu C hret x3 x4 x5 x7 F G hm hw (lv_sub hl [0, 3, 4, 5, 7] rfl)
  have hm := (if_neg c_1).symm.trans hm
  have n_2 := c_1
  clear c_1
  by_cases c_1 : x1 = 3
  · have hm := (if_pos c_1).symm.trans hm
    refine my_top 3 c_1 ?_
    refine lv_tableIn (off := 78) (tgt := 105) hx hb dX12_immediate_27 (by decide) (by decide) (by decide) (by decide) ?_
    exact mw_immediate_105 fu C hret x3 x4 x5 x7 F G hm hw (lv_sub hl [0, 3, 4, 5, 7] rfl)
  have hm := (if_neg c_1).symm.trans hm
  have n_3 := c_1
  clear c_1
  by_cases c_1 : x1 = 4
  · have hm := (if_pos c_1).symm.trans hm
    refine my_top 4 c_1 ?_
    refine lv_tableIn (off := 103) (tgt := 130) hx hb dX12_immediate_27 (by decide) (by decide) (by decide) (by decide) ?_
    exact mw_immediate_130 fu C hret x3 x4 x5 x7 F G hm hw (lv_sub hl [0, 3, 4, 5, 7] rfl)
  have hm := (if_neg c_1).symm.trans hm
  have n_4 := c_1
  clear c_1
  by_cases c_1 : x1 = 5
  · have hm := (if_pos c_1).symm.trans hm
    refine my_top 5 c_1 ?_
    refine lv_tableIn (off := 113) (tgt := 140) hx hb dX12_immediate_27 (by decide) (by decide) (by decide) (by decide) ?_
    exact mw_immediate_140 fu C hret x2 x3 x4 x6 x7 F G hm hw (lv_sub hl [0, 2, 3, 4, 6, 7] rfl)
  have hm := (if_neg c_1).symm.trans hm
  have n_5 := c_1
  clear c_1
  have c_1 : x1 = 6 := my_last (l := 0) (k := 6) c_0 (by decide) (fun j hj => match j, hj with | 0, _ => fun h9 => n_0 (Int32.toInt_inj.mp (h9.trans (by decide))) | 1, _ => fun h9 => n_1 (Int32.toInt_inj.mp (h9.trans (by decide))) | 2, _ => fun h9 => n_2 (Int32.toInt_inj.mp (h9.trans (by decide))) | 3, _ => fun h9 => n_3 (Int32.toInt_inj.mp (h9.trans (by decide))) | 4, _ => fun h9 => n_4 (Int32.toInt_inj.mp (h9.trans (by decide))) | 5, _ => fun h9 => n_5 (Int32.toInt_inj.mp (h9.trans (by decide))) | q + 6, h => absurd h (by omega)) (by decide)
  refine my_top 6 c_1 ?_
  refine lv_tableIn (off := 135) (tgt := 162) hx hb dX12_immediate_27 (by decide) (by decide) (by decide) (by decide) ?_
  exact mw_immediate_162 fu C hret x3 x4 x5 x7 F G hm hw (lv_sub hl [0, 3, 4, 5, 7] rfl)
theorem mw_immediate_24 (fu : Nat) {res : Int32 × PF × PG} (C : mMC p R s m args c A v RX12 cX12_immediate 9 1 22) (hret : ∀ (H1 : Heap) (locs1 : List Loc) (ls1 : Array Slot) (pc : Nat), mMW s A v a res.2.1 res.2.2 H1 locs1 → narrow .int (.int res.1) = .int res.1 → decode cX12_immediate pc = .ok (.ireturn, 1) → W p l e R s m args below meth c H1 locs1 0 0 Q (F0 m pc ls1 [.int res.1])) (F : PF) (G : PG) (hm : mb_immediate_24 fu F G = some res) {H : Heap} {locs : List Loc} (hw : mMW s A v a F G H locs) {ls : Array Slot} (hl : lv_has ls 9 []) : W p l e R s m args below meth c H locs 0 0 Q (F0 m 24 ls []) := by
  have hx := C.1
  have hb := C.2.1
  unfold mb_immediate_24 at hm
  refine lv_iconst (v := 2) hx hb dX12_immediate_24 (by decide) ?_
  obtain rfl := Option.some.inj hm
  exact hret _ _ _ _ hw rfl dX12_immediate_25
theorem mw_immediate_18 (fu : Nat) {res : Int32 × PF × PG} (C : mMC p R s m args c A v RX12 cX12_immediate 9 1 22) (hret : ∀ (H1 : Heap) (locs1 : List Loc) (ls1 : Array Slot) (pc : Nat), mMW s A v a res.2.1 res.2.2 H1 locs1 → narrow .int (.int res.1) = .int res.1 → decode cX12_immediate pc = .ok (.ireturn, 1) → W p l e R s m args below meth c H1 locs1 0 0 Q (F0 m pc ls1 [.int res.1])) (x1 : Int32) (x2 : Int32) (x3 : Int32) (x4 : Int32) (x5 : Int32) (x6 : Int32) (x7 : Int32) (F : PF) (G : PG) (hm : mb_immediate_18 fu x1 x2 x3 x4 x5 x6 x7 F G = some res) {H : Heap} {locs : List Loc} (hw : mMW s A v a F G H locs) {ls : Array Slot} (hl : lv_has ls 9 [(0, .ref (a 212)), (1, .int x1), (2, .int x2), (3, .int x3), (4, .int x4), (5, .int x5), (6, .int x6), (7, .int x7)]) : W p l e R s m args below meth c H locs 0 0 Q (F0 m 18 ls []) := by
  have hx := C.1
  have hb := C.2.1
  unfold mb_immediate_18 at hm
  refine lv_iload_n hx hb dX12_immediate_18 rfl (lv_at hl 2 rfl) ?_
  refine lv_bipush (v := 32) hx hb dX12_immediate_19 (by decide) ?_
  refine lv_icmp_eq (tgt := 26) hx hb dX12_immediate_21 (by decide) (fun c_1 => ?_) (fun c_1 => ?_)
  · have hm := (if_pos c_1).symm.trans hm
    exact mw_immediate_26 fu C hret x1 x2 x3 x4 x5 x6 x7 F G hm hw (lv_sub hl [0, 1, 2, 3, 4, 5, 6, 7] rfl)
  · have hm := (if_neg c_1).symm.trans hm
    exact mw_immediate_24 fu C hret F G hm hw (lv_sub hl [] rfl)
theorem mw_immediate_14 (fu : Nat) {res : Int32 × PF × PG} (C : mMC p R s m args c A v RX12 cX12_immediate 9 1 22) (hret : ∀ (H1 : Heap) (locs1 : List Loc) (ls1 : Array Slot) (pc : Nat), mMW s A v a res.2.1 res.2.2 H1 locs1 → narrow .int (.int res.1) = .int res.1 → decode cX12_immediate pc = .ok (.ireturn, 1) → W p l e R s m args below meth c H1 locs1 0 0 Q (F0 m pc ls1 [.int res.1])) (x1 : Int32) (x2 : Int32) (x3 : Int32) (x4 : Int32) (x5 : Int32) (x6 : Int32) (x7 : Int32) (F : PF) (G : PG) (hm : mb_immediate_14 fu x1 x2 x3 x4 x5 x6 x7 F G = some res) {H : Heap} {locs : List Loc} (hw : mMW s A v a F G H locs) {ls : Array Slot} (hl : lv_has ls 9 [(0, .ref (a 212)), (1, .int x1), (2, .int x2), (3, .int x3), (4, .int x4), (5, .int x5), (6, .int x6), (7, .int x7)]) : W p l e R s m args below meth c H locs 0 0 Q (F0 m 14 ls []) := by
  have hx := C.1
  have hb := C.2.1
  unfold mb_immediate_14 at hm
  refine lv_iload_n hx hb dX12_immediate_14 rfl (lv_at hl 2 rfl) ?_
  refine lv_if_eq (tgt := 26) hx hb dX12_immediate_15 (by decide) (fun c_1 => ?_) (fun c_1 => ?_)
  · have hm := (if_pos c_1).symm.trans hm
    exact mw_immediate_26 fu C hret x1 x2 x3 x4 x5 x6 x7 F G hm hw (lv_sub hl [0, 1, 2, 3, 4, 5, 6, 7] rfl)
  · have hm := (if_neg c_1).symm.trans hm
    exact mw_immediate_18 fu C hret x1 x2 x3 x4 x5 x6 x7 F G hm hw (lv_sub hl [0, 1, 2, 3, 4, 5, 6, 7] rfl)
theorem mw_immediate_9 (fu : Nat) {res : Int32 × PF × PG} (C : mMC p R s m args c A v RX12 cX12_immediate 9 1 22) (hret : ∀ (H1 : Heap) (locs1 : List Loc) (ls1 : Array Slot) (pc : Nat), mMW s A v a res.2.1 res.2.2 H1 locs1 → narrow .int (.int res.1) = .int res.1 → decode cX12_immediate pc = .ok (.ireturn, 1) → W p l e R s m args below meth c H1 locs1 0 0 Q (F0 m pc ls1 [.int res.1])) (x1 : Int32) (x2 : Int32) (x3 : Int32) (x4 : Int32) (x5 : Int32) (x6 : Int32) (x7 : Int32) (F : PF) (G : PG) (hm : mb_immediate_9 fu x1 x2 x3 x4 x5 x6 x7 F G = some res) {H : Heap} {locs : List Loc} (hw : mMW s A v a F G H locs) {ls : Array Slot} (hl : lv_has ls 9 [(0, .ref (a 212)), (1, .int x1), (2, .int x2), (3, .int x3), (4, .int x4), (5, .int x5), (6, .int x6), (7, .int x7)]) : W p l e R s m args below meth c H locs 0 0 Q (F0 m 9 ls []) := by
  have hx := C.1
  have hb := C.2.1
  unfold mb_immediate_9 at hm
  refine lv_iload_n hx hb dX12_immediate_9 rfl (lv_at hl 1 rfl) ?_
  refine lv_iconst (v := 5) hx hb dX12_immediate_10 (by decide) ?_
  refine lv_icmp_ne (tgt := 26) hx hb dX12_immediate_11 (by decide) (fun c_1 => ?_) (fun c_1 => ?_)
  · have hm := (if_neg c_1).symm.trans hm
    exact mw_immediate_26 fu C hret x1 x2 x3 x4 x5 x6 x7 F G hm hw (lv_sub hl [0, 1, 2, 3, 4, 5, 6, 7] rfl)
  · have hm := (if_pos c_1).symm.trans hm
    exact mw_immediate_14 fu C hret x1 x2 x3 x4 x5 x6 x7 F G hm hw (lv_sub hl [0, 1, 2, 3, 4, 5, 6, 7] rfl)
theorem mw_immediate_5 (fu : Nat) {res : Int32 × PF × PG} (C : mMC p R s m args c A v RX12 cX12_immediate 9 1 22) (hret : ∀ (H1 : Heap) (locs1 : List Loc) (ls1 : Array Slot) (pc : Nat), mMW s A v a res.2.1 res.2.2 H1 locs1 → narrow .int (.int res.1) = .int res.1 → decode cX12_immediate pc = .ok (.ireturn, 1) → W p l e R s m args below meth c H1 locs1 0 0 Q (F0 m pc ls1 [.int res.1])) (x1 : Int32) (x2 : Int32) (x3 : Int32) (x4 : Int32) (x5 : Int32) (x6 : Int32) (x7 : Int32) (F : PF) (G : PG) (hm : mb_immediate_5 fu x1 x2 x3 x4 x5 x6 x7 F G = some res) {H : Heap} {locs : List Loc} (hw : mMW s A v a F G H locs) {ls : Array Slot} (hl : lv_has ls 9 [(0, .ref (a 212)), (1, .int x1), (2, .int x2), (3, .int x3), (4, .int x4), (5, .int x5), (6, .int x6), (7, .int x7)]) : W p l e R s m args below meth c H locs 0 0 Q (F0 m 5 ls []) := by
  have hx := C.1
  have hb := C.2.1
  unfold mb_immediate_5 at hm
  refine lv_iload_n hx hb dX12_immediate_5 rfl (lv_at hl 2 rfl) ?_
  refine lv_if_ne (tgt := 24) hx hb dX12_immediate_6 (by decide) (fun c_1 => ?_) (fun c_1 => ?_)
  · have hm := (if_neg c_1).symm.trans hm
    exact mw_immediate_24 fu C hret F G hm hw (lv_sub hl [] rfl)
  · have hm := (if_pos c_1).symm.trans hm
    exact mw_immediate_9 fu C hret x1 x2 x3 x4 x5 x6 x7 F G hm hw (lv_sub hl [0, 1, 2, 3, 4, 5, 6, 7] rfl)
theorem mw_immediate_0 (fu : Nat) {res : Int32 × PF × PG} (C : mMC p R s m args c A v RX12 cX12_immediate 9 1 22) (hret : ∀ (H1 : Heap) (locs1 : List Loc) (ls1 : Array Slot) (pc : Nat), mMW s A v a res.2.1 res.2.2 H1 locs1 → narrow .int (.int res.1) = .int res.1 → decode cX12_immediate pc = .ok (.ireturn, 1) → W p l e R s m args below meth c H1 locs1 0 0 Q (F0 m pc ls1 [.int res.1])) (x1 : Int32) (x2 : Int32) (x3 : Int32) (x4 : Int32) (x5 : Int32) (x6 : Int32) (x7 : Int32) (F : PF) (G : PG) (hm : mb_immediate_0 fu x1 x2 x3 x4 x5 x6 x7 F G = some res) {H : Heap} {locs : List Loc} (hw : mMW s A v a F G H locs) {ls : Array Slot} (hl : lv_has ls 9 [(0, .ref (a 212)), (1, .int x1), (2, .int x2), (3, .int x3), (4, .int x4), (5, .int x5), (6, .int x6), (7, .int x7)]) : W p l e R s m args below meth c H locs 0 0 Q (F0 m 0 ls []) := by
  have hx := C.1
  have hb := C.2.1
  unfold mb_immediate_0 at hm
  refine lv_iload_n hx hb dX12_immediate_0 rfl (lv_at hl 1 rfl) ?_
  refine lv_iconst (v := 1) hx hb dX12_immediate_1 (by decide) ?_
  refine lv_icmp_ne (tgt := 9) hx hb dX12_immediate_2 (by decide) (fun c_1 => ?_) (fun c_1 => ?_)
  · have hm := (if_neg c_1).symm.trans hm
    exact mw_immediate_9 fu C hret x1 x2 x3 x4 x5 x6 x7 F G hm hw (lv_sub hl [0, 1, 2, 3, 4, 5, 6, 7] rfl)
  · have hm := (if_pos c_1).symm.trans hm
    exact mw_immediate_5 fu C hret x1 x2 x3 x4 x5 x6 x7 F G hm hw (lv_sub hl [0, 1, 2, 3, 4, 5, 6, 7] rfl)
theorem mk_immediate (l : Launch) (v : EV) (a : Nat → Nat) (sz : Nat) (fu : Nat) (x1 : Int32) (x2 : Int32) (x3 : Int32) (x4 : Int32) (x5 : Int32) (x6 : Int32) (x7 : Int32) (F : PF) (G : PG) (r : Int32) (F1 : PF) (G1 : PG) (hm : mf_immediate fu x1 x2 x3 x4 x5 x6 x7 F G = some (r, F1, G1)) : mMI l yX12_immediate cX12_immediate 9 (some .int) 1 22 v a sz [.ref (a 212), .int x1, .int x2, .int x3, .int x4, .int x5, .int x6, .int x7] F G r F1 G1 := mMI.of (ty := .int) (by decide) rfl (Nat.le_of_ble_eq_true rfl) (fun p e R s m args below meth c Q A H locs ls C hw hl hret => mw_immediate_0 fu (res := (r, F1, G1)) C hret x1 x2 x3 x4 x5 x6 x7 F G hm hw hl)
def mb_branches_10 (fu : Nat) (F : PF) (G : PG) : PR := some (2, F, G)
def mb_branches_131 (fu : Nat) (z0 : Int32) (F : PF) (G : PG) : PR := some (z0, F, G)
def mb_branches_125 (fu : Nat) (x4 : Int32) (F : PF) (G : PG) : PR := (mf_goesOn fu x4 F G).bind (fun q => mb_branches_131 fu q.1 q.2.1 q.2.2)
def mb_branches_121 (fu : Nat) (F : PF) (G : PG) : PR := mb_branches_131 fu 3 F G
def mb_branches_114 (fu : Nat) (x4 : Int32) (F : PF) (G : PG) : PR := if (x4 &&& (3 : Int32)) = (0 : Int32) then mb_branches_125 fu x4 F G else mb_branches_121 fu F G
def mb_branches_113 (fu : Nat) (z0 : Int32) (F : PF) (G : PG) : PR := some (z0, F, G)
def mb_branches_105 (fu : Nat) (x5 : Int32) (F : PF) (G : PG) : PR := (mf_goesOn fu (x5 + (4 : Int32)) F G).bind (fun q => mb_branches_113 fu q.1 q.2.1 q.2.2)
def mb_branches_98 (fu : Nat) (x4 : Int32) (x5 : Int32) (z0 : Int32) (F : PF) (G : PG) : PR := if z0 = (0 : Int32) then mb_branches_105 fu x5 F G else mb_branches_114 fu x4 F G
def mb_branches_97 (fu : Nat) (x4 : Int32) (x5 : Int32) (F : PF) (G : PG) : PR := mb_branches_98 fu x4 x5 0 F G
def mb_branches_93 (fu : Nat) (x4 : Int32) (x5 : Int32) (F : PF) (G : PG) : PR := mb_branches_98 fu x4 x5 1 F G
def mb_branches_88 (fu : Nat) (x4 : Int32) (x5 : Int32) (x8 : Int32) (F : PF) (G : PG) : PR := if x8 = (0 : Int32) then mb_branches_93 fu x4 x5 F G else mb_branches_97 fu x4 x5 F G
def mb_branches_83 (fu : Nat) (x4 : Int32) (x5 : Int32) (x8 : Int32) (F : PF) (G : PG) : PR := mb_branches_98 fu x4 x5 x8 F G
def mb_branches_75 (fu : Nat) (x1 : Int32) (x4 : Int32) (x5 : Int32) (z0 : Int32) (F : PF) (G : PG) : PR := if (x1 &&& (1 : Int32)) = (0 : Int32) then mb_branches_83 fu x4 x5 z0 F G else mb_branches_88 fu x4 x5 z0 F G
def mb_branches_74 (fu : Nat) (x1 : Int32) (x4 : Int32) (x5 : Int32) (F : PF) (G : PG) : PR := mb_branches_75 fu x1 x4 x5 0 F G
def mb_branches_70 (fu : Nat) (x1 : Int32) (x4 : Int32) (x5 : Int32) (F : PF) (G : PG) : PR := mb_branches_75 fu x1 x4 x5 1 F G
def mb_branches_63 (fu : Nat) (x1 : Int32) (x4 : Int32) (x5 : Int32) (x6 : Int32) (x7 : Int32) (F : PF) (G : PG) : PR := if x7 ≤ x6 then mb_branches_74 fu x1 x4 x5 F G else mb_branches_70 fu x1 x4 x5 F G
def mb_branches_59 (fu : Nat) (x1 : Int32) (x4 : Int32) (x5 : Int32) (F : PF) (G : PG) : PR := mb_branches_75 fu x1 x4 x5 0 F G
def mb_branches_55 (fu : Nat) (x1 : Int32) (x4 : Int32) (x5 : Int32) (F : PF) (G : PG) : PR := mb_branches_75 fu x1 x4 x5 1 F G
def mb_branches_50 (fu : Nat) (x1 : Int32) (x2 : Int32) (x3 : Int32) (x4 : Int32) (x5 : Int32) (F : PF) (G : PG) : PR := if x3 ≤ x2 then mb_branches_59 fu x1 x4 x5 F G else mb_branches_55 fu x1 x4 x5 F G
def mb_branches_44 (fu : Nat) (x1 : Int32) (x2 : Int32) (x3 : Int32) (x4 : Int32) (x5 : Int32) (x6 : Int32) (x7 : Int32) (F : PF) (G : PG) : PR := if (6 : Int32) ≤ x1 then mb_branches_63 fu x1 x4 x5 x6 x7 F G else mb_branches_50 fu x1 x2 x3 x4 x5 F G
def mb_branches_40 (fu : Nat) (x1 : Int32) (x4 : Int32) (x5 : Int32) (F : PF) (G : PG) : PR := mb_branches_75 fu x1 x4 x5 0 F G
def mb_branches_36 (fu : Nat) (x1 : Int32) (x4 : Int32) (x5 : Int32) (F : PF) (G : PG) : PR := mb_branches_75 fu x1 x4 x5 1 F G
def mb_branches_31 (fu : Nat) (x1 : Int32) (x2 : Int32) (x3 : Int32) (x4 : Int32) (x5 : Int32) (F : PF) (G : PG) : PR := if x2 = x3 then mb_branches_36 fu x1 x4 x5 F G else mb_branches_40 fu x1 x4 x5 F G
def mb_branches_12 (fu : Nat) (x1 : Int32) (x2 : Int32) (x3 : Int32) (x4 : Int32) (x5 : Int32) (F : PF) (G : PG) : PR := if (2 : Int32) ≤ x1 then mb_branches_44 fu x1 x2 x3 x4 x5 (x2 + (-2147483648 : Int32)) (x3 + (-2147483648 : Int32)) F G else mb_branches_31 fu x1 x2 x3 x4 x5 F G
def mb_branches_5 (fu : Nat) (x1 : Int32) (x2 : Int32) (x3 : Int32) (x4 : Int32) (x5 : Int32) (F : PF) (G : PG) : PR := if x1 = (3 : Int32) then mb_branches_10 fu F G else mb_branches_12 fu x1 x2 x3 x4 x5 F G
def mb_branches_0 (fu : Nat) (x1 : Int32) (x2 : Int32) (x3 : Int32) (x4 : Int32) (x5 : Int32) (F : PF) (G : PG) : PR := if x1 = (2 : Int32) then mb_branches_10 fu F G else mb_branches_5 fu x1 x2 x3 x4 x5 F G
def mf_branches (fu : Nat) (x1 : Int32) (x2 : Int32) (x3 : Int32) (x4 : Int32) (x5 : Int32) (F : PF) (G : PG) : PR := mb_branches_0 fu x1 x2 x3 x4 x5 F G
theorem mw_branches_10 (fu : Nat) {res : Int32 × PF × PG} (C : mMC p R s m args c A v RX12 cX12_branches 10 1 21) (hret : ∀ (H1 : Heap) (locs1 : List Loc) (ls1 : Array Slot) (pc : Nat), mMW s A v a res.2.1 res.2.2 H1 locs1 → narrow .int (.int res.1) = .int res.1 → decode cX12_branches pc = .ok (.ireturn, 1) → W p l e R s m args below meth c H1 locs1 0 0 Q (F0 m pc ls1 [.int res.1])) (F : PF) (G : PG) (hm : mb_branches_10 fu F G = some res) {H : Heap} {locs : List Loc} (hw : mMW s A v a F G H locs) {ls : Array Slot} (hl : lv_has ls 10 []) : W p l e R s m args below meth c H locs 0 0 Q (F0 m 10 ls []) := by
  have hx := C.1
  have hb := C.2.1
  unfold mb_branches_10 at hm
  refine lv_iconst (v := 2) hx hb dX12_branches_10 (by decide) ?_
  obtain rfl := Option.some.inj hm
  exact hret _ _ _ _ hw rfl dX12_branches_11
theorem mw_branches_131 (fu : Nat) {res : Int32 × PF × PG} (C : mMC p R s m args c A v RX12 cX12_branches 10 1 21) (hret : ∀ (H1 : Heap) (locs1 : List Loc) (ls1 : Array Slot) (pc : Nat), mMW s A v a res.2.1 res.2.2 H1 locs1 → narrow .int (.int res.1) = .int res.1 → decode cX12_branches pc = .ok (.ireturn, 1) → W p l e R s m args below meth c H1 locs1 0 0 Q (F0 m pc ls1 [.int res.1])) (z0 : Int32) (F : PF) (G : PG) (hm : mb_branches_131 fu z0 F G = some res) {H : Heap} {locs : List Loc} (hw : mMW s A v a F G H locs) {ls : Array Slot} (hl : lv_has ls 10 []) : W p l e R s m args below meth c H locs 0 0 Q (F0 m 131 ls [.int z0]) := by
  have hx := C.1
  have hb := C.2.1
  unfold mb_branches_131 at hm
  obtain rfl := Option.some.inj hm
  exact hret _ _ _ _ hw rfl dX12_branches_131
theorem mw_branches_125 (fu : Nat) {res : Int32 × PF × PG} (C : mMC p R s m args c A v RX12 cX12_branches 10 1 21) (hret : ∀ (H1 : Heap) (locs1 : List Loc) (ls1 : Array Slot) (pc : Nat), mMW s A v a res.2.1 res.2.2 H1 locs1 → narrow .int (.int res.1) = .int res.1 → decode cX12_branches pc = .ok (.ireturn, 1) → W p l e R s m args below meth c H1 locs1 0 0 Q (F0 m pc ls1 [.int res.1])) (x4 : Int32) (F : PF) (G : PG) (hm : mb_branches_125 fu x4 F G = some res) {H : Heap} {locs : List Loc} (hw : mMW s A v a F G H locs) {ls : Array Slot} (hl : lv_has ls 10 [(0, .ref (a 212)), (4, .int x4)]) : W p l e R s m args below meth c H locs 0 0 Q (F0 m 125 ls []) := by
  have hx := C.1
  have hb := C.2.1
  unfold mb_branches_125 at hm
  refine lv_aload_n hx hb dX12_branches_125 rfl (lv_at hl 0 rfl) ?_
  refine lv_iload hx hb dX12_branches_126 (lv_at hl 1 rfl) ?_
  obtain ⟨⟨r1, F1, G1⟩, hc, hm⟩ := bind_elim hm
  refine mcallI (n := 1) (As := [.int x4]) (rest := []) C hw (mk_goesOn l v a _ fu x4 F G r1 F1 G1 hc) (mrecv_X12 C hw) mm_474 mm_475 mm_476 mm_27 mm_477 (by decide +kernel) rfl (by omega) (by omega) hl.1 rfl (Nat.le_of_ble_eq_true rfl) dX12_branches_128 (fun H locs hw => ?_)
  exact mw_branches_131 fu C hret r1 F1 G1 hm hw (lv_sub hl [] rfl)
theorem mw_branches_121 (fu : Nat) {res : Int32 × PF × PG} (C : mMC p R s m args c A v RX12 cX12_branches 10 1 21) (hret : ∀ (H1 : Heap) (locs1 : List Loc) (ls1 : Array Slot) (pc : Nat), mMW s A v a res.2.1 res.2.2 H1 locs1 → narrow .int (.int res.1) = .int res.1 → decode cX12_branches pc = .ok (.ireturn, 1) → W p l e R s m args below meth c H1 locs1 0 0 Q (F0 m pc ls1 [.int res.1])) (F : PF) (G : PG) (hm : mb_branches_121 fu F G = some res) {H : Heap} {locs : List Loc} (hw : mMW s A v a F G H locs) {ls : Array Slot} (hl : lv_has ls 10 []) : W p l e R s m args below meth c H locs 0 0 Q (F0 m 121 ls []) := by
  have hx := C.1
  have hb := C.2.1
  unfold mb_branches_121 at hm
  refine lv_iconst (v := 3) hx hb dX12_branches_121 (by decide) ?_
  refine lv_goto (tgt := 131) hx hb dX12_branches_122 (by decide) ?_
  exact mw_branches_131 fu C hret 3 F G hm hw (lv_sub hl [] rfl)
theorem mw_branches_114 (fu : Nat) {res : Int32 × PF × PG} (C : mMC p R s m args c A v RX12 cX12_branches 10 1 21) (hret : ∀ (H1 : Heap) (locs1 : List Loc) (ls1 : Array Slot) (pc : Nat), mMW s A v a res.2.1 res.2.2 H1 locs1 → narrow .int (.int res.1) = .int res.1 → decode cX12_branches pc = .ok (.ireturn, 1) → W p l e R s m args below meth c H1 locs1 0 0 Q (F0 m pc ls1 [.int res.1])) (x4 : Int32) (F : PF) (G : PG) (hm : mb_branches_114 fu x4 F G = some res) {H : Heap} {locs : List Loc} (hw : mMW s A v a F G H locs) {ls : Array Slot} (hl : lv_has ls 10 [(0, .ref (a 212)), (4, .int x4)]) : W p l e R s m args below meth c H locs 0 0 Q (F0 m 114 ls []) := by
  have hx := C.1
  have hb := C.2.1
  unfold mb_branches_114 at hm
  refine lv_iload hx hb dX12_branches_114 (lv_at hl 1 rfl) ?_
  refine lv_iconst (v := 3) hx hb dX12_branches_116 (by decide) ?_
  refine lv_iand hx hb dX12_branches_117 ?_
  refine lv_if_eq (tgt := 125) hx hb dX12_branches_118 (by decide) (fun c_1 => ?_) (fun c_1 => ?_)
  · have hm := (if_pos c_1).symm.trans hm
    exact mw_branches_125 fu C hret x4 F G hm hw (lv_sub hl [0, 1] rfl)
  · have hm := (if_neg c_1).symm.trans hm
    exact mw_branches_121 fu C hret F G hm hw (lv_sub hl [] rfl)
theorem mw_branches_113 (fu : Nat) {res : Int32 × PF × PG} (C : mMC p R s m args c A v RX12 cX12_branches 10 1 21) (hret : ∀ (H1 : Heap) (locs1 : List Loc) (ls1 : Array Slot) (pc : Nat), mMW s A v a res.2.1 res.2.2 H1 locs1 → narrow .int (.int res.1) = .int res.1 → decode cX12_branches pc = .ok (.ireturn, 1) → W p l e R s m args below meth c H1 locs1 0 0 Q (F0 m pc ls1 [.int res.1])) (z0 : Int32) (F : PF) (G : PG) (hm : mb_branches_113 fu z0 F G = some res) {H : Heap} {locs : List Loc} (hw : mMW s A v a F G H locs) {ls : Array Slot} (hl : lv_has ls 10 []) : W p l e R s m args below meth c H locs 0 0 Q (F0 m 113 ls [.int z0]) := by
  have hx := C.1
  have hb := C.2.1
  unfold mb_branches_113 at hm
  obtain rfl := Option.some.inj hm
  exact hret _ _ _ _ hw rfl dX12_branches_113
theorem mw_branches_105 (fu : Nat) {res : Int32 × PF × PG} (C : mMC p R s m args c A v RX12 cX12_branches 10 1 21) (hret : ∀ (H1 : Heap) (locs1 : List Loc) (ls1 : Array Slot) (pc : Nat), mMW s A v a res.2.1 res.2.2 H1 locs1 → narrow .int (.int res.1) = .int res.1 → decode cX12_branches pc = .ok (.ireturn, 1) → W p l e R s m args below meth c H1 locs1 0 0 Q (F0 m pc ls1 [.int res.1])) (x5 : Int32) (F : PF) (G : PG) (hm : mb_branches_105 fu x5 F G = some res) {H : Heap} {locs : List Loc} (hw : mMW s A v a F G H locs) {ls : Array Slot} (hl : lv_has ls 10 [(0, .ref (a 212)), (5, .int x5)]) : W p l e R s m args below meth c H locs 0 0 Q (F0 m 105 ls []) := by
  have hx := C.1
  have hb := C.2.1
  unfold mb_branches_105 at hm
  refine lv_aload_n hx hb dX12_branches_105 rfl (lv_at hl 0 rfl) ?_
  refine lv_iload hx hb dX12_branches_106 (lv_at hl 1 rfl) ?_
  refine lv_iconst (v := 4) hx hb dX12_branches_108 (by decide) ?_
  refine lv_iadd hx hb dX12_branches_109 ?_
  obtain ⟨⟨r1, F1, G1⟩, hc, hm⟩ := bind_elim hm
  refine mcallI (n := 1) (As := [.int (x5 + (4 : Int32))]) (rest := []) C hw (mk_goesOn l v a _ fu (x5 + (4 : Int32)) F G r1 F1 G1 hc) (mrecv_X12 C hw) mm_474 mm_475 mm_476 mm_27 mm_477 (by decide +kernel) rfl (by omega) (by omega) hl.1 rfl (Nat.le_of_ble_eq_true rfl) dX12_branches_110 (fun H locs hw => ?_)
  exact mw_branches_113 fu C hret r1 F1 G1 hm hw (lv_sub hl [] rfl)
theorem mw_branches_98 (fu : Nat) {res : Int32 × PF × PG} (C : mMC p R s m args c A v RX12 cX12_branches 10 1 21) (hret : ∀ (H1 : Heap) (locs1 : List Loc) (ls1 : Array Slot) (pc : Nat), mMW s A v a res.2.1 res.2.2 H1 locs1 → narrow .int (.int res.1) = .int res.1 → decode cX12_branches pc = .ok (.ireturn, 1) → W p l e R s m args below meth c H1 locs1 0 0 Q (F0 m pc ls1 [.int res.1])) (x4 : Int32) (x5 : Int32) (z0 : Int32) (F : PF) (G : PG) (hm : mb_branches_98 fu x4 x5 z0 F G = some res) {H : Heap} {locs : List Loc} (hw : mMW s A v a F G H locs) {ls : Array Slot} (hl : lv_has ls 10 [(0, .ref (a 212)), (4, .int x4), (5, .int x5)]) : W p l e R s m args below meth c H locs 0 0 Q (F0 m 98 ls [.int z0]) := by
  have hx := C.1
  have hb := C.2.1
  unfold mb_branches_98 at hm
  refine lv_istore (lv' := [(9, .int z0), (0, .ref (a 212)), (4, .int x4), (5, .int x5)]) hx hb dX12_branches_98 hl (by decide) rfl (fun ls hl => ?_)
  refine lv_iload hx hb dX12_branches_100 (lv_at hl 0 rfl) ?_
  refine lv_if_ne (tgt := 114) hx hb dX12_branches_102 (by decide) (fun c_1 => ?_) (fun c_1 => ?_)
  · have hm := (if_neg c_1).symm.trans hm
    exact mw_branches_114 fu C hret x4 F G hm hw (lv_sub hl [1, 2] rfl)
  · have hm := (if_pos c_1).symm.trans hm
    exact mw_branches_105 fu C hret x5 F G hm hw (lv_sub hl [1, 3] rfl)
theorem mw_branches_97 (fu : Nat) {res : Int32 × PF × PG} (C : mMC p R s m args c A v RX12 cX12_branches 10 1 21) (hret : ∀ (H1 : Heap) (locs1 : List Loc) (ls1 : Array Slot) (pc : Nat), mMW s A v a res.2.1 res.2.2 H1 locs1 → narrow .int (.int res.1) = .int res.1 → decode cX12_branches pc = .ok (.ireturn, 1) → W p l e R s m args below meth c H1 locs1 0 0 Q (F0 m pc ls1 [.int res.1])) (x4 : Int32) (x5 : Int32) (F : PF) (G : PG) (hm : mb_branches_97 fu x4 x5 F G = some res) {H : Heap} {locs : List Loc} (hw : mMW s A v a F G H locs) {ls : Array Slot} (hl : lv_has ls 10 [(0, .ref (a 212)), (4, .int x4), (5, .int x5)]) : W p l e R s m args below meth c H locs 0 0 Q (F0 m 97 ls []) := by
  have hx := C.1
  have hb := C.2.1
  unfold mb_branches_97 at hm
  refine lv_iconst (v := 0) hx hb dX12_branches_97 (by decide) ?_
  exact mw_branches_98 fu C hret x4 x5 0 F G hm hw (lv_sub hl [0, 1, 2] rfl)
theorem mw_branches_93 (fu : Nat) {res : Int32 × PF × PG} (C : mMC p R s m args c A v RX12 cX12_branches 10 1 21) (hret : ∀ (H1 : Heap) (locs1 : List Loc) (ls1 : Array Slot) (pc : Nat), mMW s A v a res.2.1 res.2.2 H1 locs1 → narrow .int (.int res.1) = .int res.1 → decode cX12_branches pc = .ok (.ireturn, 1) → W p l e R s m args below meth c H1 locs1 0 0 Q (F0 m pc ls1 [.int res.1])) (x4 : Int32) (x5 : Int32) (F : PF) (G : PG) (hm : mb_branches_93 fu x4 x5 F G = some res) {H : Heap} {locs : List Loc} (hw : mMW s A v a F G H locs) {ls : Array Slot} (hl : lv_has ls 10 [(0, .ref (a 212)), (4, .int x4), (5, .int x5)]) : W p l e R s m args below meth c H locs 0 0 Q (F0 m 93 ls []) := by
  have hx := C.1
  have hb := C.2.1
  unfold mb_branches_93 at hm
  refine lv_iconst (v := 1) hx hb dX12_branches_93 (by decide) ?_
  refine lv_goto (tgt := 98) hx hb dX12_branches_94 (by decide) ?_
  exact mw_branches_98 fu C hret x4 x5 1 F G hm hw (lv_sub hl [0, 1, 2] rfl)
theorem mw_branches_88 (fu : Nat) {res : Int32 × PF × PG} (C : mMC p R s m args c A v RX12 cX12_branches 10 1 21) (hret : ∀ (H1 : Heap) (locs1 : List Loc) (ls1 : Array Slot) (pc : Nat), mMW s A v a res.2.1 res.2.2 H1 locs1 → narrow .int (.int res.1) = .int res.1 → decode cX12_branches pc = .ok (.ireturn, 1) → W p l e R s m args below meth c H1 locs1 0 0 Q (F0 m pc ls1 [.int res.1])) (x4 : Int32) (x5 : Int32) (x8 : Int32) (F : PF) (G : PG) (hm : mb_branches_88 fu x4 x5 x8 F G = some res) {H : Heap} {locs : List Loc} (hw : mMW s A v a F G H locs) {ls : Array Slot} (hl : lv_has ls 10 [(0, .ref (a 212)), (4, .int x4), (5, .int x5), (8, .int x8)]) : W p l e R s m args below meth c H locs 0 0 Q (F0 m 88 ls []) := by
  have hx := C.1
  have hb := C.2.1
  unfold mb_branches_88 at hm
  refine lv_iload hx hb dX12_branches_88 (lv_at hl 3 rfl) ?_
  refine lv_if_ne (tgt := 97) hx hb dX12_branches_90 (by decide) (fun c_1 => ?_) (fun c_1 => ?_)
  · have hm := (if_neg c_1).symm.trans hm
    exact mw_branches_97 fu C hret x4 x5 F G hm hw (lv_sub hl [0, 1, 2] rfl)
  · have hm := (if_pos c_1).symm.trans hm
    exact mw_branches_93 fu C hret x4 x5 F G hm hw (lv_sub hl [0, 1, 2] rfl)
theorem mw_branches_83 (fu : Nat) {res : Int32 × PF × PG} (C : mMC p R s m args c A v RX12 cX12_branches 10 1 21) (hret : ∀ (H1 : Heap) (locs1 : List Loc) (ls1 : Array Slot) (pc : Nat), mMW s A v a res.2.1 res.2.2 H1 locs1 → narrow .int (.int res.1) = .int res.1 → decode cX12_branches pc = .ok (.ireturn, 1) → W p l e R s m args below meth c H1 locs1 0 0 Q (F0 m pc ls1 [.int res.1])) (x4 : Int32) (x5 : Int32) (x8 : Int32) (F : PF) (G : PG) (hm : mb_branches_83 fu x4 x5 x8 F G = some res) {H : Heap} {locs : List Loc} (hw : mMW s A v a F G H locs) {ls : Array Slot} (hl : lv_has ls 10 [(0, .ref (a 212)), (4, .int x4), (5, .int x5), (8, .int x8)]) : W p l e R s m args below meth c H locs 0 0 Q (F0 m 83 ls []) := by
  have hx := C.1
  have hb := C.2.1
  unfold mb_branches_83 at hm
  refine lv_iload hx hb dX12_branches_83 (lv_at hl 3 rfl) ?_
  refine lv_goto (tgt := 98) hx hb dX12_branches_85 (by decide) ?_
  exact mw_branches_98 fu C hret x4 x5 x8 F G hm hw (lv_sub hl [0, 1, 2] rfl)
theorem mw_branches_75 (fu : Nat) {res : Int32 × PF × PG} (C : mMC p R s m args c A v RX12 cX12_branches 10 1 21) (hret : ∀ (H1 : Heap) (locs1 : List Loc) (ls1 : Array Slot) (pc : Nat), mMW s A v a res.2.1 res.2.2 H1 locs1 → narrow .int (.int res.1) = .int res.1 → decode cX12_branches pc = .ok (.ireturn, 1) → W p l e R s m args below meth c H1 locs1 0 0 Q (F0 m pc ls1 [.int res.1])) (x1 : Int32) (x4 : Int32) (x5 : Int32) (z0 : Int32) (F : PF) (G : PG) (hm : mb_branches_75 fu x1 x4 x5 z0 F G = some res) {H : Heap} {locs : List Loc} (hw : mMW s A v a F G H locs) {ls : Array Slot} (hl : lv_has ls 10 [(0, .ref (a 212)), (1, .int x1), (4, .int x4), (5, .int x5)]) : W p l e R s m args below meth c H locs 0 0 Q (F0 m 75 ls [.int z0]) := by
  have hx := C.1
  have hb := C.2.1
  unfold mb_branches_75 at hm
  refine lv_istore (lv' := [(8, .int z0), (0, .ref (a 212)), (1, .int x1), (4, .int x4), (5, .int x5)]) hx hb dX12_branches_75 hl (by decide) rfl (fun ls hl => ?_)
  refine lv_iload_n hx hb dX12_branches_77 rfl (lv_at hl 2 rfl) ?_
  refine lv_iconst (v := 1) hx hb dX12_branches_78 (by decide) ?_
  refine lv_iand hx hb dX12_branches_79 ?_
  refine lv_if_ne (tgt := 88) hx hb dX12_branches_80 (by decide) (fun c_1 => ?_) (fun c_1 => ?_)
  · have hm := (if_neg c_1).symm.trans hm
    exact mw_branches_88 fu C hret x4 x5 z0 F G hm hw (lv_sub hl [1, 3, 4, 0] rfl)
  · have hm := (if_pos c_1).symm.trans hm
    exact mw_branches_83 fu C hret x4 x5 z0 F G hm hw (lv_sub hl [1, 3, 4, 0] rfl)
theorem mw_branches_74 (fu : Nat) {res : Int32 × PF × PG} (C : mMC p R s m args c A v RX12 cX12_branches 10 1 21) (hret : ∀ (H1 : Heap) (locs1 : List Loc) (ls1 : Array Slot) (pc : Nat), mMW s A v a res.2.1 res.2.2 H1 locs1 → narrow .int (.int res.1) = .int res.1 → decode cX12_branches pc = .ok (.ireturn, 1) → W p l e R s m args below meth c H1 locs1 0 0 Q (F0 m pc ls1 [.int res.1])) (x1 : Int32) (x4 : Int32) (x5 : Int32) (F : PF) (G : PG) (hm : mb_branches_74 fu x1 x4 x5 F G = some res) {H : Heap} {locs : List Loc} (hw : mMW s A v a F G H locs) {ls : Array Slot} (hl : lv_has ls 10 [(0, .ref (a 212)), (1, .int x1), (4, .int x4), (5, .int x5)]) : W p l e R s m args below meth c H locs 0 0 Q (F0 m 74 ls []) := by
  have hx := C.1
  have hb := C.2.1
  unfold mb_branches_74 at hm
  refine lv_iconst (v := 0) hx hb dX12_branches_74 (by decide) ?_
  exact mw_branches_75 fu C hret x1 x4 x5 0 F G hm hw (lv_sub hl [0, 1, 2, 3] rfl)
theorem mw_branches_70 (fu : Nat) {res : Int32 × PF × PG} (C : mMC p R s m args c A v RX12 cX12_branches 10 1 21) (hret : ∀ (H1 : Heap) (locs1 : List Loc) (ls1 : Array Slot) (pc : Nat), mMW s A v a res.2.1 res.2.2 H1 locs1 → narrow .int (.int res.1) = .int res.1 → decode cX12_branches pc = .ok (.ireturn, 1) → W p l e R s m args below meth c H1 locs1 0 0 Q (F0 m pc ls1 [.int res.1])) (x1 : Int32) (x4 : Int32) (x5 : Int32) (F : PF) (G : PG) (hm : mb_branches_70 fu x1 x4 x5 F G = some res) {H : Heap} {locs : List Loc} (hw : mMW s A v a F G H locs) {ls : Array Slot} (hl : lv_has ls 10 [(0, .ref (a 212)), (1, .int x1), (4, .int x4), (5, .int x5)]) : W p l e R s m args below meth c H locs 0 0 Q (F0 m 70 ls []) := by
  have hx := C.1
  have hb := C.2.1
  unfold mb_branches_70 at hm
  refine lv_iconst (v := 1) hx hb dX12_branches_70 (by decide) ?_
  refine lv_goto (tgt := 75) hx hb dX12_branches_71 (by decide) ?_
  exact mw_branches_75 fu C hret x1 x4 x5 1 F G hm hw (lv_sub hl [0, 1, 2, 3] rfl)
theorem mw_branches_63 (fu : Nat) {res : Int32 × PF × PG} (C : mMC p R s m args c A v RX12 cX12_branches 10 1 21) (hret : ∀ (H1 : Heap) (locs1 : List Loc) (ls1 : Array Slot) (pc : Nat), mMW s A v a res.2.1 res.2.2 H1 locs1 → narrow .int (.int res.1) = .int res.1 → decode cX12_branches pc = .ok (.ireturn, 1) → W p l e R s m args below meth c H1 locs1 0 0 Q (F0 m pc ls1 [.int res.1])) (x1 : Int32) (x4 : Int32) (x5 : Int32) (x6 : Int32) (x7 : Int32) (F : PF) (G : PG) (hm : mb_branches_63 fu x1 x4 x5 x6 x7 F G = some res) {H : Heap} {locs : List Loc} (hw : mMW s A v a F G H locs) {ls : Array Slot} (hl : lv_has ls 10 [(0, .ref (a 212)), (1, .int x1), (4, .int x4), (5, .int x5), (6, .int x6), (7, .int x7)]) : W p l e R s m args below meth c H locs 0 0 Q (F0 m 63 ls []) := by
  have hx := C.1
  have hb := C.2.1
  unfold mb_branches_63 at hm
  refine lv_iload hx hb dX12_branches_63 (lv_at hl 4 rfl) ?_
  refine lv_iload hx hb dX12_branches_65 (lv_at hl 5 rfl) ?_
  refine lv_icmp_ge (tgt := 74) hx hb dX12_branches_67 (by decide) (fun c_1 => ?_) (fun c_1 => ?_)
  · have hm := (if_pos c_1).symm.trans hm
    exact mw_branches_74 fu C hret x1 x4 x5 F G hm hw (lv_sub hl [0, 1, 2, 3] rfl)
  · have hm := (if_neg c_1).symm.trans hm
    exact mw_branches_70 fu C hret x1 x4 x5 F G hm hw (lv_sub hl [0, 1, 2, 3] rfl)
theorem mw_branches_59 (fu : Nat) {res : Int32 × PF × PG} (C : mMC p R s m args c A v RX12 cX12_branches 10 1 21) (hret : ∀ (H1 : Heap) (locs1 : List Loc) (ls1 : Array Slot) (pc : Nat), mMW s A v a res.2.1 res.2.2 H1 locs1 → narrow .int (.int res.1) = .int res.1 → decode cX12_branches pc = .ok (.ireturn, 1) → W p l e R s m args below meth c H1 locs1 0 0 Q (F0 m pc ls1 [.int res.1])) (x1 : Int32) (x4 : Int32) (x5 : Int32) (F : PF) (G : PG) (hm : mb_branches_59 fu x1 x4 x5 F G = some res) {H : Heap} {locs : List Loc} (hw : mMW s A v a F G H locs) {ls : Array Slot} (hl : lv_has ls 10 [(0, .ref (a 212)), (1, .int x1), (4, .int x4), (5, .int x5)]) : W p l e R s m args below meth c H locs 0 0 Q (F0 m 59 ls []) := by
  have hx := C.1
  have hb := C.2.1
  unfold mb_branches_59 at hm
  refine lv_iconst (v := 0) hx hb dX12_branches_59 (by decide) ?_
  refine lv_goto (tgt := 75) hx hb dX12_branches_60 (by decide) ?_
  exact mw_branches_75 fu C hret x1 x4 x5 0 F G hm hw (lv_sub hl [0, 1, 2, 3] rfl)
theorem mw_branches_55 (fu : Nat) {res : Int32 × PF × PG} (C : mMC p R s m args c A v RX12 cX12_branches 10 1 21) (hret : ∀ (H1 : Heap) (locs1 : List Loc) (ls1 : Array Slot) (pc : Nat), mMW s A v a res.2.1 res.2.2 H1 locs1 → narrow .int (.int res.1) = .int res.1 → decode cX12_branches pc = .ok (.ireturn, 1) → W p l e R s m args below meth c H1 locs1 0 0 Q (F0 m pc ls1 [.int res.1])) (x1 : Int32) (x4 : Int32) (x5 : Int32) (F : PF) (G : PG) (hm : mb_branches_55 fu x1 x4 x5 F G = some res) {H : Heap} {locs : List Loc} (hw : mMW s A v a F G H locs) {ls : Array Slot} (hl : lv_has ls 10 [(0, .ref (a 212)), (1, .int x1), (4, .int x4), (5, .int x5)]) : W p l e R s m args below meth c H locs 0 0 Q (F0 m 55 ls []) := by
  have hx := C.1
  have hb := C.2.1
  unfold mb_branches_55 at hm
  refine lv_iconst (v := 1) hx hb dX12_branches_55 (by decide) ?_
  refine lv_goto (tgt := 75) hx hb dX12_branches_56 (by decide) ?_
  exact mw_branches_75 fu C hret x1 x4 x5 1 F G hm hw (lv_sub hl [0, 1, 2, 3] rfl)
theorem mw_branches_50 (fu : Nat) {res : Int32 × PF × PG} (C : mMC p R s m args c A v RX12 cX12_branches 10 1 21) (hret : ∀ (H1 : Heap) (locs1 : List Loc) (ls1 : Array Slot) (pc : Nat), mMW s A v a res.2.1 res.2.2 H1 locs1 → narrow .int (.int res.1) = .int res.1 → decode cX12_branches pc = .ok (.ireturn, 1) → W p l e R s m args below meth c H1 locs1 0 0 Q (F0 m pc ls1 [.int res.1])) (x1 : Int32) (x2 : Int32) (x3 : Int32) (x4 : Int32) (x5 : Int32) (F : PF) (G : PG) (hm : mb_branches_50 fu x1 x2 x3 x4 x5 F G = some res) {H : Heap} {locs : List Loc} (hw : mMW s A v a F G H locs) {ls : Array Slot} (hl : lv_has ls 10 [(0, .ref (a 212)), (1, .int x1), (2, .int x2), (3, .int x3), (4, .int x4), (5, .int x5)]) : W p l e R s m args below meth c H locs 0 0 Q (F0 m 50 ls []) := by
  have hx := C.1
  have hb := C.2.1
  unfold mb_branches_50 at hm
  refine lv_iload_n hx hb dX12_branches_50 rfl (lv_at hl 2 rfl) ?_
  refine lv_iload_n hx hb dX12_branches_51 rfl (lv_at hl 3 rfl) ?_
  refine lv_icmp_ge (tgt := 59) hx hb dX12_branches_52 (by decide) (fun c_1 => ?_) (fun c_1 => ?_)
  · have hm := (if_pos c_1).symm.trans hm
    exact mw_branches_59 fu C hret x1 x4 x5 F G hm hw (lv_sub hl [0, 1, 4, 5] rfl)
  · have hm := (if_neg c_1).symm.trans hm
    exact mw_branches_55 fu C hret x1 x4 x5 F G hm hw (lv_sub hl [0, 1, 4, 5] rfl)
theorem mw_branches_44 (fu : Nat) {res : Int32 × PF × PG} (C : mMC p R s m args c A v RX12 cX12_branches 10 1 21) (hret : ∀ (H1 : Heap) (locs1 : List Loc) (ls1 : Array Slot) (pc : Nat), mMW s A v a res.2.1 res.2.2 H1 locs1 → narrow .int (.int res.1) = .int res.1 → decode cX12_branches pc = .ok (.ireturn, 1) → W p l e R s m args below meth c H1 locs1 0 0 Q (F0 m pc ls1 [.int res.1])) (x1 : Int32) (x2 : Int32) (x3 : Int32) (x4 : Int32) (x5 : Int32) (x6 : Int32) (x7 : Int32) (F : PF) (G : PG) (hm : mb_branches_44 fu x1 x2 x3 x4 x5 x6 x7 F G = some res) {H : Heap} {locs : List Loc} (hw : mMW s A v a F G H locs) {ls : Array Slot} (hl : lv_has ls 10 [(0, .ref (a 212)), (1, .int x1), (2, .int x2), (3, .int x3), (4, .int x4), (5, .int x5), (6, .int x6), (7, .int x7)]) : W p l e R s m args below meth c H locs 0 0 Q (F0 m 44 ls []) := by
  have hx := C.1
  have hb := C.2.1
  unfold mb_branches_44 at hm
  refine lv_iload_n hx hb dX12_branches_44 rfl (lv_at hl 1 rfl) ?_
  refine lv_bipush (v := 6) hx hb dX12_branches_45 (by decide) ?_
  refine lv_icmp_ge (tgt := 63) hx hb dX12_branches_47 (by decide) (fun c_1 => ?_) (fun c_1 => ?_)
  · have hm := (if_pos c_1).symm.trans hm
    exact mw_branches_63 fu C hret x1 x4 x5 x6 x7 F G hm hw (lv_sub hl [0, 1, 4, 5, 6, 7] rfl)
  · have hm := (if_neg c_1).symm.trans hm
    exact mw_branches_50 fu C hret x1 x2 x3 x4 x5 F G hm hw (lv_sub hl [0, 1, 2, 3, 4, 5] rfl)
theorem mw_branches_40 (fu : Nat) {res : Int32 × PF × PG} (C : mMC p R s m args c A v RX12 cX12_branches 10 1 21) (hret : ∀ (H1 : Heap) (locs1 : List Loc) (ls1 : Array Slot) (pc : Nat), mMW s A v a res.2.1 res.2.2 H1 locs1 → narrow .int (.int res.1) = .int res.1 → decode cX12_branches pc = .ok (.ireturn, 1) → W p l e R s m args below meth c H1 locs1 0 0 Q (F0 m pc ls1 [.int res.1])) (x1 : Int32) (x4 : Int32) (x5 : Int32) (F : PF) (G : PG) (hm : mb_branches_40 fu x1 x4 x5 F G = some res) {H : Heap} {locs : List Loc} (hw : mMW s A v a F G H locs) {ls : Array Slot} (hl : lv_has ls 10 [(0, .ref (a 212)), (1, .int x1), (4, .int x4), (5, .int x5)]) : W p l e R s m args below meth c H locs 0 0 Q (F0 m 40 ls []) := by
  have hx := C.1
  have hb := C.2.1
  unfold mb_branches_40 at hm
  refine lv_iconst (v := 0) hx hb dX12_branches_40 (by decide) ?_
  refine lv_goto (tgt := 75) hx hb dX12_branches_41 (by decide) ?_
  exact mw_branches_75 fu C hret x1 x4 x5 0 F G hm hw (lv_sub hl [0, 1, 2, 3] rfl)
theorem mw_branches_36 (fu : Nat) {res : Int32 × PF × PG} (C : mMC p R s m args c A v RX12 cX12_branches 10 1 21) (hret : ∀ (H1 : Heap) (locs1 : List Loc) (ls1 : Array Slot) (pc : Nat), mMW s A v a res.2.1 res.2.2 H1 locs1 → narrow .int (.int res.1) = .int res.1 → decode cX12_branches pc = .ok (.ireturn, 1) → W p l e R s m args below meth c H1 locs1 0 0 Q (F0 m pc ls1 [.int res.1])) (x1 : Int32) (x4 : Int32) (x5 : Int32) (F : PF) (G : PG) (hm : mb_branches_36 fu x1 x4 x5 F G = some res) {H : Heap} {locs : List Loc} (hw : mMW s A v a F G H locs) {ls : Array Slot} (hl : lv_has ls 10 [(0, .ref (a 212)), (1, .int x1), (4, .int x4), (5, .int x5)]) : W p l e R s m args below meth c H locs 0 0 Q (F0 m 36 ls []) := by
  have hx := C.1
  have hb := C.2.1
  unfold mb_branches_36 at hm
  refine lv_iconst (v := 1) hx hb dX12_branches_36 (by decide) ?_
  refine lv_goto (tgt := 75) hx hb dX12_branches_37 (by decide) ?_
  exact mw_branches_75 fu C hret x1 x4 x5 1 F G hm hw (lv_sub hl [0, 1, 2, 3] rfl)
theorem mw_branches_31 (fu : Nat) {res : Int32 × PF × PG} (C : mMC p R s m args c A v RX12 cX12_branches 10 1 21) (hret : ∀ (H1 : Heap) (locs1 : List Loc) (ls1 : Array Slot) (pc : Nat), mMW s A v a res.2.1 res.2.2 H1 locs1 → narrow .int (.int res.1) = .int res.1 → decode cX12_branches pc = .ok (.ireturn, 1) → W p l e R s m args below meth c H1 locs1 0 0 Q (F0 m pc ls1 [.int res.1])) (x1 : Int32) (x2 : Int32) (x3 : Int32) (x4 : Int32) (x5 : Int32) (F : PF) (G : PG) (hm : mb_branches_31 fu x1 x2 x3 x4 x5 F G = some res) {H : Heap} {locs : List Loc} (hw : mMW s A v a F G H locs) {ls : Array Slot} (hl : lv_has ls 10 [(0, .ref (a 212)), (1, .int x1), (2, .int x2), (3, .int x3), (4, .int x4), (5, .int x5)]) : W p l e R s m args below meth c H locs 0 0 Q (F0 m 31 ls []) := by
  have hx := C.1
  have hb := C.2.1
  unfold mb_branches_31 at hm
  refine lv_iload_n hx hb dX12_branches_31 rfl (lv_at hl 2 rfl) ?_
  refine lv_iload_n hx hb dX12_branches_32 rfl (lv_at hl 3 rfl) ?_
  refine lv_icmp_ne (tgt := 40) hx hb dX12_branches_33 (by decide) (fun c_1 => ?_) (fun c_1 => ?_)
  · have hm := (if_neg c_1).symm.trans hm
    exact mw_branches_40 fu C hret x1 x4 x5 F G hm hw (lv_sub hl [0, 1, 4, 5] rfl)
  · have hm := (if_pos c_1).symm.trans hm
    exact mw_branches_36 fu C hret x1 x4 x5 F G hm hw (lv_sub hl [0, 1, 4, 5] rfl)
theorem mw_branches_12 (fu : Nat) {res : Int32 × PF × PG} (C : mMC p R s m args c A v RX12 cX12_branches 10 1 21) (hret : ∀ (H1 : Heap) (locs1 : List Loc) (ls1 : Array Slot) (pc : Nat), mMW s A v a res.2.1 res.2.2 H1 locs1 → narrow .int (.int res.1) = .int res.1 → decode cX12_branches pc = .ok (.ireturn, 1) → W p l e R s m args below meth c H1 locs1 0 0 Q (F0 m pc ls1 [.int res.1])) (x1 : Int32) (x2 : Int32) (x3 : Int32) (x4 : Int32) (x5 : Int32) (F : PF) (G : PG) (hm : mb_branches_12 fu x1 x2 x3 x4 x5 F G = some res) {H : Heap} {locs : List Loc} (hw : mMW s A v a F G H locs) {ls : Array Slot} (hl : lv_has ls 10 [(0, .ref (a 212)), (1, .int x1), (2, .int x2), (3, .int x3), (4, .int x4), (5, .int x5)]) : W p l e R s m args below meth c H locs 0 0 Q (F0 m 12 ls []) := by
  have hx := C.1
  have hb := C.2.1
  unfold mb_branches_12 at hm
  refine lv_iload_n hx hb dX12_branches_12 rfl (lv_at hl 2 rfl) ?_
  refine lv_ldcw (v := (-2147483648)) hx hb C.2.2.2.1 (C.2.2.2.2.1 _ mm_303) dX12_branches_13 ?_
  refine lv_iadd hx hb dX12_branches_16 ?_
  refine lv_istore (lv' := [(6, .int (x2 + (-2147483648 : Int32))), (0, .ref (a 212)), (1, .int x1), (2, .int x2), (3, .int x3), (4, .int x4), (5, .int x5)]) hx hb dX12_branches_17 hl (by decide) rfl (fun ls hl => ?_)
  refine lv_iload_n hx hb dX12_branches_19 rfl (lv_at hl 4 rfl) ?_
  refine lv_ldcw (v := (-2147483648)) hx hb C.2.2.2.1 (C.2.2.2.2.1 _ mm_303) dX12_branches_20 ?_
  refine lv_iadd hx hb dX12_branches_23 ?_
  refine lv_istore (lv' := [(7, .int (x3 + (-2147483648 : Int32))), (6, .int (x2 + (-2147483648 : Int32))), (0, .ref (a 212)), (1, .int x1), (2, .int x2), (3, .int x3), (4, .int x4), (5, .int x5)]) hx hb dX12_branches_24 hl (by decide) rfl (fun ls hl => ?_)
  refine lv_iload_n hx hb dX12_branches_26 rfl (lv_at hl 3 rfl) ?_
  refine lv_iconst (v := 2) hx hb dX12_branches_27 (by decide) ?_
  refine lv_icmp_ge (tgt := 44) hx hb dX12_branches_28 (by decide) (fun c_1 => ?_) (fun c_1 => ?_)
  · have hm := (if_pos c_1).symm.trans hm
    exact mw_branches_44 fu C hret x1 x2 x3 x4 x5 (x2 + (-2147483648 : Int32)) (x3 + (-2147483648 : Int32)) F G hm hw (lv_sub hl [2, 3, 4, 5, 6, 7, 1, 0] rfl)
  · have hm := (if_neg c_1).symm.trans hm
    exact mw_branches_31 fu C hret x1 x2 x3 x4 x5 F G hm hw (lv_sub hl [2, 3, 4, 5, 6, 7] rfl)
theorem mw_branches_5 (fu : Nat) {res : Int32 × PF × PG} (C : mMC p R s m args c A v RX12 cX12_branches 10 1 21) (hret : ∀ (H1 : Heap) (locs1 : List Loc) (ls1 : Array Slot) (pc : Nat), mMW s A v a res.2.1 res.2.2 H1 locs1 → narrow .int (.int res.1) = .int res.1 → decode cX12_branches pc = .ok (.ireturn, 1) → W p l e R s m args below meth c H1 locs1 0 0 Q (F0 m pc ls1 [.int res.1])) (x1 : Int32) (x2 : Int32) (x3 : Int32) (x4 : Int32) (x5 : Int32) (F : PF) (G : PG) (hm : mb_branches_5 fu x1 x2 x3 x4 x5 F G = some res) {H : Heap} {locs : List Loc} (hw : mMW s A v a F G H locs) {ls : Array Slot} (hl : lv_has ls 10 [(0, .ref (a 212)), (1, .int x1), (2, .int x2), (3, .int x3), (4, .int x4), (5, .int x5)]) : W p l e R s m args below meth c H locs 0 0 Q (F0 m 5 ls []) := by
  have hx := C.1
  have hb := C.2.1
  unfold mb_branches_5 at hm
  refine lv_iload_n hx hb dX12_branches_5 rfl (lv_at hl 1 rfl) ?_
  refine lv_iconst (v := 3) hx hb dX12_branches_6 (by decide) ?_
  refine lv_icmp_ne (tgt := 12) hx hb dX12_branches_7 (by decide) (fun c_1 => ?_) (fun c_1 => ?_)
  · have hm := (if_neg c_1).symm.trans hm
    exact mw_branches_12 fu C hret x1 x2 x3 x4 x5 F G hm hw (lv_sub hl [0, 1, 2, 3, 4, 5] rfl)
  · have hm := (if_pos c_1).symm.trans hm
    exact mw_branches_10 fu C hret F G hm hw (lv_sub hl [] rfl)
theorem mw_branches_0 (fu : Nat) {res : Int32 × PF × PG} (C : mMC p R s m args c A v RX12 cX12_branches 10 1 21) (hret : ∀ (H1 : Heap) (locs1 : List Loc) (ls1 : Array Slot) (pc : Nat), mMW s A v a res.2.1 res.2.2 H1 locs1 → narrow .int (.int res.1) = .int res.1 → decode cX12_branches pc = .ok (.ireturn, 1) → W p l e R s m args below meth c H1 locs1 0 0 Q (F0 m pc ls1 [.int res.1])) (x1 : Int32) (x2 : Int32) (x3 : Int32) (x4 : Int32) (x5 : Int32) (F : PF) (G : PG) (hm : mb_branches_0 fu x1 x2 x3 x4 x5 F G = some res) {H : Heap} {locs : List Loc} (hw : mMW s A v a F G H locs) {ls : Array Slot} (hl : lv_has ls 10 [(0, .ref (a 212)), (1, .int x1), (2, .int x2), (3, .int x3), (4, .int x4), (5, .int x5)]) : W p l e R s m args below meth c H locs 0 0 Q (F0 m 0 ls []) := by
  have hx := C.1
  have hb := C.2.1
  unfold mb_branches_0 at hm
  refine lv_iload_n hx hb dX12_branches_0 rfl (lv_at hl 1 rfl) ?_
  refine lv_iconst (v := 2) hx hb dX12_branches_1 (by decide) ?_
  refine lv_icmp_eq (tgt := 10) hx hb dX12_branches_2 (by decide) (fun c_1 => ?_) (fun c_1 => ?_)
  · have hm := (if_pos c_1).symm.trans hm
    exact mw_branches_10 fu C hret F G hm hw (lv_sub hl [] rfl)
  · have hm := (if_neg c_1).symm.trans hm
    exact mw_branches_5 fu C hret x1 x2 x3 x4 x5 F G hm hw (lv_sub hl [0, 1, 2, 3, 4, 5] rfl)
theorem mk_branches (l : Launch) (v : EV) (a : Nat → Nat) (sz : Nat) (fu : Nat) (x1 : Int32) (x2 : Int32) (x3 : Int32) (x4 : Int32) (x5 : Int32) (F : PF) (G : PG) (r : Int32) (F1 : PF) (G1 : PG) (hm : mf_branches fu x1 x2 x3 x4 x5 F G = some (r, F1, G1)) : mMI l yX12_branches cX12_branches 10 (some .int) 1 21 v a sz [.ref (a 212), .int x1, .int x2, .int x3, .int x4, .int x5] F G r F1 G1 := mMI.of (ty := .int) (by decide) rfl (Nat.le_of_ble_eq_true rfl) (fun p e R s m args below meth c Q A H locs ls C hw hl hret => mw_branches_0 fu (res := (r, F1, G1)) C hret x1 x2 x3 x4 x5 F G hm hw hl)
def mb_oneWord_21 (fu : Nat) (F : PF) (G : PG) : PR := some (1, F, G)
def mb_oneWord_209 (fu : Nat) (z0 : Int32) (F : PF) (G : PG) : PR := some (z0, F, G)
def mb_oneWord_202 (fu : Nat) (x1 : Int32) (F : PF) (G : PG) : PR := (mf_goesOn fu (x1 + (4 : Int32)) F G).bind (fun q => mb_oneWord_209 fu q.1 q.2.1 q.2.2)
def mb_oneWord_192 (fu : Nat) (x1 : Int32) (x2 : Int32) (x3 : Int32) (F : PF) (G : PG) : PR := (mf_gives fu x3 (x2 &&& (-4096 : Int32)) F G).bind (fun q => mb_oneWord_202 fu x1 q.2.1 q.2.2)
def mb_oneWord_229 (fu : Nat) (z0 : Int32) (F : PF) (G : PG) : PR := some (z0, F, G)
def mb_oneWord_222 (fu : Nat) (x1 : Int32) (F : PF) (G : PG) : PR := (mf_goesOn fu (x1 + (4 : Int32)) F G).bind (fun q => mb_oneWord_229 fu q.1 q.2.1 q.2.2)
def mb_oneWord_210 (fu : Nat) (x1 : Int32) (x2 : Int32) (x3 : Int32) (F : PF) (G : PG) : PR := (mf_gives fu x3 (x1 + (x2 &&& (-4096 : Int32))) F G).bind (fun q => mb_oneWord_222 fu x1 q.2.1 q.2.2)
def mb_oneWord_279 (fu : Nat) (z0 : Int32) (F : PF) (G : PG) : PR := some (z0, F, G)
def mb_oneWord_271 (fu : Nat) (x1 : Int32) (z0 : Int32) (z1 : Int32) (z2 : Int32) (z3 : Int32) (F : PF) (G : PG) : PR := (mf_jumps fu z3 (z2 + (z1 ||| (z0 <<< ((1 : Int32) &&& 31)))) x1 F G).bind (fun q => mb_oneWord_279 fu q.1 q.2.1 q.2.2)
def mb_oneWord_259 (fu : Nat) (x1 : Int32) (x2 : Int32) (z0 : Int32) (z1 : Int32) (z2 : Int32) (z3 : Int32) (F : PF) (G : PG) : PR := (mf_part fu x2 21 10 F G).bind (fun q => mb_oneWord_271 fu x1 q.1 (z1 ||| (z0 <<< ((11 : Int32) &&& 31))) z2 z3 q.2.1 q.2.2)
def mb_oneWord_248 (fu : Nat) (x1 : Int32) (x2 : Int32) (z0 : Int32) (z1 : Int32) (z2 : Int32) (z3 : Int32) (F : PF) (G : PG) : PR := (mf_part fu x2 20 1 F G).bind (fun q => mb_oneWord_259 fu x1 x2 q.1 (z1 ||| (z0 <<< ((12 : Int32) &&& 31))) z2 z3 q.2.1 q.2.2)
def mb_oneWord_230 (fu : Nat) (x1 : Int32) (x2 : Int32) (x3 : Int32) (F : PF) (G : PG) : PR := (mf_part fu x2 12 8 F G).bind (fun q => mb_oneWord_248 fu x1 x2 q.1 ((x2 >>> ((31 : Int32) &&& 31)) <<< ((20 : Int32) &&& 31)) x1 x3 q.2.1 q.2.2)
def mb_oneWord_303 (fu : Nat) (z0 : Int32) (F : PF) (G : PG) : PR := some (z0, F, G)
def mb_oneWord_302 (fu : Nat) (F : PF) (G : PG) : PR := mb_oneWord_303 fu 2 F G
def mb_oneWord_299 (fu : Nat) (z0 : Int32) (F : PF) (G : PG) : PR := mb_oneWord_303 fu z0 F G
def mb_oneWord_285 (fu : Nat) (x1 : Int32) (x3 : Int32) (x6 : Int32) (x8 : Int32) (F : PF) (G : PG) : PR := (mf_jumps fu x3 ((x6 + x8) &&& (-2 : Int32)) x1 F G).bind (fun q => mb_oneWord_299 fu q.1 q.2.1 q.2.2)
def mb_oneWord_280 (fu : Nat) (x1 : Int32) (x3 : Int32) (x4 : Int32) (x6 : Int32) (x8 : Int32) (F : PF) (G : PG) : PR := if x4 = (0 : Int32) then mb_oneWord_285 fu x1 x3 x6 x8 F G else mb_oneWord_302 fu F G
def mb_oneWord_356 (fu : Nat) (z0 : Int32) (F : PF) (G : PG) : PR := some (z0, F, G)
def mb_oneWord_348 (fu : Nat) (x1 : Int32) (z0 : Int32) (z1 : Int32) (z2 : Int32) (z3 : Int32) (z4 : Int32) (z5 : Int32) (F : PF) (G : PG) : PR := (mf_branches fu z5 z4 z3 (z2 + (z1 ||| (z0 <<< ((1 : Int32) &&& 31)))) x1 F G).bind (fun q => mb_oneWord_356 fu q.1 q.2.1 q.2.2)
def mb_oneWord_338 (fu : Nat) (x1 : Int32) (x2 : Int32) (z0 : Int32) (z1 : Int32) (z2 : Int32) (z3 : Int32) (z4 : Int32) (z5 : Int32) (F : PF) (G : PG) : PR := (mf_part fu x2 8 4 F G).bind (fun q => mb_oneWord_348 fu x1 q.1 (z1 ||| (z0 <<< ((5 : Int32) &&& 31))) z2 z3 z4 z5 q.2.1 q.2.2)
def mb_oneWord_326 (fu : Nat) (x1 : Int32) (x2 : Int32) (z0 : Int32) (z1 : Int32) (z2 : Int32) (z3 : Int32) (z4 : Int32) (z5 : Int32) (F : PF) (G : PG) : PR := (mf_part fu x2 25 6 F G).bind (fun q => mb_oneWord_338 fu x1 x2 q.1 (z1 ||| (z0 <<< ((11 : Int32) &&& 31))) z2 z3 z4 z5 q.2.1 q.2.2)
def mb_oneWord_304 (fu : Nat) (x1 : Int32) (x2 : Int32) (x4 : Int32) (x6 : Int32) (x7 : Int32) (F : PF) (G : PG) : PR := (mf_part fu x2 7 1 F G).bind (fun q => mb_oneWord_326 fu x1 x2 q.1 ((x2 >>> ((31 : Int32) &&& 31)) <<< ((12 : Int32) &&& 31)) x1 x7 x6 x4 q.2.1 q.2.2)
def mb_oneWord_370 (fu : Nat) (z0 : Int32) (F : PF) (G : PG) : PR := some (z0, F, G)
def mb_oneWord_357 (fu : Nat) (x1 : Int32) (x3 : Int32) (x4 : Int32) (x6 : Int32) (x8 : Int32) (F : PF) (G : PG) : PR := (mf_loads fu x4 x3 (x6 + x8) x1 F G).bind (fun q => mb_oneWord_370 fu q.1 q.2.1 q.2.2)
def mb_oneWord_391 (fu : Nat) (z0 : Int32) (F : PF) (G : PG) : PR := some (z0, F, G)
def mb_oneWord_371 (fu : Nat) (x1 : Int32) (x2 : Int32) (x3 : Int32) (x4 : Int32) (x6 : Int32) (x7 : Int32) (F : PF) (G : PG) : PR := (mf_stores fu x4 (x6 + (((x2 >>> ((25 : Int32) &&& 31)) <<< ((5 : Int32) &&& 31)) ||| x3)) x7 x1 F G).bind (fun q => mb_oneWord_391 fu q.1 q.2.1 q.2.2)
def mb_oneWord_413 (fu : Nat) (z0 : Int32) (F : PF) (G : PG) : PR := some (z0, F, G)
def mb_oneWord_409 (fu : Nat) (x1 : Int32) (z0 : Int32) (z1 : Int32) (z2 : Int32) (z3 : Int32) (z4 : Int32) (z5 : Int32) (F : PF) (G : PG) : PR := (mf_immediate fu z5 z4 z3 z2 z1 z0 x1 F G).bind (fun q => mb_oneWord_413 fu q.1 q.2.1 q.2.2)
def mb_oneWord_392 (fu : Nat) (x1 : Int32) (x2 : Int32) (x3 : Int32) (x4 : Int32) (x5 : Int32) (x6 : Int32) (x8 : Int32) (F : PF) (G : PG) : PR := (mf_part fu x2 20 5 F G).bind (fun q => mb_oneWord_409 fu x1 q.1 x8 x6 x3 x5 x4 q.2.1 q.2.2)
def mb_oneWord_428 (fu : Nat) (z0 : Int32) (F : PF) (G : PG) : PR := some (z0, F, G)
def mb_oneWord_414 (fu : Nat) (x1 : Int32) (x3 : Int32) (x4 : Int32) (x5 : Int32) (x6 : Int32) (x7 : Int32) (F : PF) (G : PG) : PR := (mf_both fu x4 x5 x3 x6 x7 x1 F G).bind (fun q => mb_oneWord_428 fu q.1 q.2.1 q.2.2)
def mb_oneWord_445 (fu : Nat) (z0 : Int32) (F : PF) (G : PG) : PR := some (z0, F, G)
def mb_oneWord_444 (fu : Nat) (F : PF) (G : PG) : PR := mb_oneWord_445 fu 2 F G
def mb_oneWord_441 (fu : Nat) (z0 : Int32) (F : PF) (G : PG) : PR := mb_oneWord_445 fu z0 F G
def mb_oneWord_434 (fu : Nat) (x1 : Int32) (F : PF) (G : PG) : PR := (mf_goesOn fu (x1 + (4 : Int32)) F G).bind (fun q => mb_oneWord_441 fu q.1 q.2.1 q.2.2)
def mb_oneWord_429 (fu : Nat) (x1 : Int32) (x4 : Int32) (F : PF) (G : PG) : PR := if x4 = (0 : Int32) then mb_oneWord_434 fu x1 F G else mb_oneWord_444 fu F G
def mb_oneWord_481 (fu : Nat) (z0 : Int32) (z1 : Int32) (F : PF) (G : PG) : PR := some ((z1 + z0), F, G)
def mb_oneWord_479 (fu : Nat) (z0 : Int32) (F : PF) (G : PG) : PR := mb_oneWord_481 fu 7 z0 F G
def mb_oneWord_474 (fu : Nat) (z0 : Int32) (F : PF) (G : PG) : PR := mb_oneWord_481 fu 6 z0 F G
def mb_oneWord_468 (fu : Nat) (x2 : Int32) (z0 : Int32) (F : PF) (G : PG) : PR := if x2 = (115 : Int32) then mb_oneWord_474 fu z0 F G else mb_oneWord_479 fu z0 F G
def mb_oneWord_461 (fu : Nat) (x1 : Int32) (x2 : Int32) (F : PF) (G : PG) : PR := (mf_goesOn fu (x1 + (4 : Int32)) F G).bind (fun q => mb_oneWord_468 fu x2 q.1 q.2.1 q.2.2)
def mb_oneWord_459 (fu : Nat) (F : PF) (G : PG) : PR := some (2, F, G)
def mb_oneWord_452 (fu : Nat) (x1 : Int32) (x2 : Int32) (F : PF) (G : PG) : PR := if x2 = (1048691 : Int32) then mb_oneWord_461 fu x1 x2 F G else mb_oneWord_459 fu F G
def mb_oneWord_446 (fu : Nat) (x1 : Int32) (x2 : Int32) (F : PF) (G : PG) : PR := if x2 = (115 : Int32) then mb_oneWord_461 fu x1 x2 F G else mb_oneWord_452 fu x1 x2 F G
def mb_oneWord_100 (fu : Nat) (x1 : Int32) (x2 : Int32) (x3 : Int32) (x4 : Int32) (x5 : Int32) (x6 : Int32) (x7 : Int32) (x8 : Int32) (z0 : Int32) (F : PF) (G : PG) : PR := if z0 = 3 then mb_oneWord_357 fu x1 x3 x4 x6 x8 F G else if z0 = 15 then mb_oneWord_429 fu x1 x4 F G else if z0 = 19 then mb_oneWord_392 fu x1 x2 x3 x4 x5 x6 x8 F G else if z0 = 23 then mb_oneWord_210 fu x1 x2 x3 F G else if z0 = 35 then mb_oneWord_371 fu x1 x2 x3 x4 x6 x7 F G else if z0 = 51 then mb_oneWord_414 fu x1 x3 x4 x5 x6 x7 F G else if z0 = 55 then mb_oneWord_192 fu x1 x2 x3 F G else if z0 = 99 then mb_oneWord_304 fu x1 x2 x4 x6 x7 F G else if z0 = 103 then mb_oneWord_280 fu x1 x3 x4 x6 x8 F G else if z0 = 111 then mb_oneWord_230 fu x1 x2 x3 F G else mb_oneWord_446 fu x1 x2 F G
def mb_oneWord_84 (fu : Nat) (x1 : Int32) (x2 : Int32) (x3 : Int32) (x4 : Int32) (x5 : Int32) (x6 : Int32) (z0 : Int32) (F : PF) (G : PG) : PR := if ixb z0 33 = true then ((mf_part fu x2 0 7 F G).bind (fun q => mb_oneWord_100 fu x1 x2 x3 x4 x5 x6 (G 95 z0.toNatClampNeg) (x2 >>> ((20 : Int32) &&& 31)) q.1 q.2.1 q.2.2)) else none
def mb_oneWord_70 (fu : Nat) (x1 : Int32) (x2 : Int32) (x3 : Int32) (x4 : Int32) (x5 : Int32) (z0 : Int32) (F : PF) (G : PG) : PR := if ixb z0 33 = true then ((mf_part fu x2 20 5 F G).bind (fun q => mb_oneWord_84 fu x1 x2 x3 x4 x5 (G 95 z0.toNatClampNeg) q.1 q.2.1 q.2.2)) else none
def mb_oneWord_57 (fu : Nat) (x1 : Int32) (x2 : Int32) (x3 : Int32) (x4 : Int32) (z0 : Int32) (F : PF) (G : PG) : PR := (mf_part fu x2 15 5 F G).bind (fun q => mb_oneWord_70 fu x1 x2 x3 x4 z0 q.1 q.2.1 q.2.2)
def mb_oneWord_47 (fu : Nat) (x1 : Int32) (x2 : Int32) (x3 : Int32) (z0 : Int32) (F : PF) (G : PG) : PR := (mf_part fu x2 25 7 F G).bind (fun q => mb_oneWord_57 fu x1 x2 x3 z0 q.1 q.2.1 q.2.2)
def mb_oneWord_39 (fu : Nat) (x1 : Int32) (x2 : Int32) (z0 : Int32) (F : PF) (G : PG) : PR := (mf_part fu x2 12 3 F G).bind (fun q => mb_oneWord_47 fu x1 x2 z0 q.1 q.2.1 q.2.2)
def mb_oneWord_23 (fu : Nat) (x1 : Int32) (F : PF) (G : PG) : PR := if ixb (x1 >>> ((2 : Int32) &&& 31)) 4096 = true then ((mf_part fu (G 94 (x1 >>> ((2 : Int32) &&& 31)).toNatClampNeg) 7 5 F G).bind (fun q => mb_oneWord_39 fu x1 (G 94 (x1 >>> ((2 : Int32) &&& 31)).toNatClampNeg) q.1 q.2.1 q.2.2)) else none
def mb_oneWord_18 (fu : Nat) (x1 : Int32) (z0 : Int32) (F : PF) (G : PG) : PR := if z0 = (0 : Int32) then mb_oneWord_23 fu x1 F G else mb_oneWord_21 fu F G
def mb_oneWord_14 (fu : Nat) (x1 : Int32) (F : PF) (G : PG) : PR := (mf_isOut fu x1 F G).bind (fun q => mb_oneWord_18 fu x1 q.1 q.2.1 q.2.2)
def mb_oneWord_0 (fu : Nat) (F : PF) (G : PG) : PR := if ixb (32 : Int32) 33 = true then (if ((G 95 (32 : Int32).toNatClampNeg) &&& (3 : Int32)) = (0 : Int32) then mb_oneWord_14 fu (G 95 (32 : Int32).toNatClampNeg) F G else mb_oneWord_21 fu F G) else none
def mf_oneWord (fu : Nat) (F : PF) (G : PG) : PR := mb_oneWord_0 fu F G
theorem mw_oneWord_21 (fu : Nat) {res : Int32 × PF × PG} (C : mMC p R s m args c A v RX12 cX12_oneWord 9 3 77) (hret : ∀ (H1 : Heap) (locs1 : List Loc) (ls1 : Array Slot) (pc : Nat), mMW s A v a res.2.1 res.2.2 H1 locs1 → narrow .int (.int res.1) = .int res.1 → decode cX12_oneWord pc = .ok (.ireturn, 1) → W p l e R s m args below meth c H1 locs1 0 0 Q (F0 m pc ls1 [.int res.1])) (F : PF) (G : PG) (hm : mb_oneWord_21 fu F G = some res) {H : Heap} {locs : List Loc} (hw : mMW s A v a F G H locs) {ls : Array Slot} (hl : lv_has ls 9 []) : W p l e R s m args below meth c H locs 0 0 Q (F0 m 21 ls []) := by
  have hx := C.1
  have hb := C.2.1
  unfold mb_oneWord_21 at hm
  refine lv_iconst (v := 1) hx hb dX12_oneWord_21 (by decide) ?_
  obtain rfl := Option.some.inj hm
  exact hret _ _ _ _ hw rfl dX12_oneWord_22
theorem mw_oneWord_209 (fu : Nat) {res : Int32 × PF × PG} (C : mMC p R s m args c A v RX12 cX12_oneWord 9 3 77) (hret : ∀ (H1 : Heap) (locs1 : List Loc) (ls1 : Array Slot) (pc : Nat), mMW s A v a res.2.1 res.2.2 H1 locs1 → narrow .int (.int res.1) = .int res.1 → decode cX12_oneWord pc = .ok (.ireturn, 1) → W p l e R s m args below meth c H1 locs1 0 0 Q (F0 m pc ls1 [.int res.1])) (z0 : Int32) (F : PF) (G : PG) (hm : mb_oneWord_209 fu z0 F G = some res) {H : Heap} {locs : List Loc} (hw : mMW s A v a F G H locs) {ls : Array Slot} (hl : lv_has ls 9 []) : W p l e R s m args below meth c H locs 0 0 Q (F0 m 209 ls [.int z0]) := by
  have hx := C.1
  have hb := C.2.1
  unfold mb_oneWord_209 at hm
  obtain rfl := Option.some.inj hm
  exact hret _ _ _ _ hw rfl dX12_oneWord_209
theorem mw_oneWord_202 (fu : Nat) {res : Int32 × PF × PG} (C : mMC p R s m args c A v RX12 cX12_oneWord 9 3 77) (hret : ∀ (H1 : Heap) (locs1 : List Loc) (ls1 : Array Slot) (pc : Nat), mMW s A v a res.2.1 res.2.2 H1 locs1 → narrow .int (.int res.1) = .int res.1 → decode cX12_oneWord pc = .ok (.ireturn, 1) → W p l e R s m args below meth c H1 locs1 0 0 Q (F0 m pc ls1 [.int res.1])) (x1 : Int32) (F : PF) (G : PG) (hm : mb_oneWord_202 fu x1 F G = some res) {H : Heap} {locs : List Loc} (hw : mMW s A v a F G H locs) {ls : Array Slot} (hl : lv_has ls 9 [(0, .ref (a 212)), (1, .int x1)]) : W p l e R s m args below meth c H locs 0 0 Q (F0 m 202 ls []) := by
  have hx := C.1
  have hb := C.2.1
  unfold mb_oneWord_202 at hm
  refine lv_aload_n hx hb dX12_oneWord_202 rfl (lv_at hl 0 rfl) ?_
  refine lv_iload_n hx hb dX12_oneWord_203 rfl (lv_at hl 1 rfl) ?_
  refine lv_iconst (v := 4) hx hb dX12_oneWord_204 (by decide) ?_
  refine lv_iadd hx hb dX12_oneWord_205 ?_
  obtain ⟨⟨r1, F1, G1⟩, hc, hm⟩ := bind_elim hm
  refine mcallI (n := 1) (As := [.int (x1 + (4 : Int32))]) (rest := []) C hw (mk_goesOn l v a _ fu (x1 + (4 : Int32)) F G r1 F1 G1 hc) (mrecv_X12 C hw) mm_474 mm_475 mm_476 mm_27 mm_477 (by decide +kernel) rfl (by omega) (by omega) hl.1 rfl (Nat.le_of_ble_eq_true rfl) dX12_oneWord_206 (fun H locs hw => ?_)
  exact mw_oneWord_209 fu C hret r1 F1 G1 hm hw (lv_sub hl [] rfl)
theorem mw_oneWord_192 (fu : Nat) {res : Int32 × PF × PG} (C : mMC p R s m args c A v RX12 cX12_oneWord 9 3 77) (hret : ∀ (H1 : Heap) (locs1 : List Loc) (ls1 : Array Slot) (pc : Nat), mMW s A v a res.2.1 res.2.2 H1 locs1 → narrow .int (.int res.1) = .int res.1 → decode cX12_oneWord pc = .ok (.ireturn, 1) → W p l e R s m args below meth c H1 locs1 0 0 Q (F0 m pc ls1 [.int res.1])) (x1 : Int32) (x2 : Int32) (x3 : Int32) (F : PF) (G : PG) (hm : mb_oneWord_192 fu x1 x2 x3 F G = some res) {H : Heap} {locs : List Loc} (hw : mMW s A v a F G H locs) {ls : Array Slot} (hl : lv_has ls 9 [(0, .ref (a 212)), (1, .int x1), (2, .int x2), (3, .int x3)]) : W p l e R s m args below meth c H locs 0 0 Q (F0 m 192 ls []) := by
  have hx := C.1
  have hb := C.2.1
  unfold mb_oneWord_192 at hm
  refine lv_aload_n hx hb dX12_oneWord_192 rfl (lv_at hl 0 rfl) ?_
  refine lv_iload_n hx hb dX12_oneWord_193 rfl (lv_at hl 3 rfl) ?_
  refine lv_iload_n hx hb dX12_oneWord_194 rfl (lv_at hl 2 rfl) ?_
  refine lv_sipush (v := (-4096)) hx hb dX12_oneWord_195 (by decide) ?_
  refine lv_iand hx hb dX12_oneWord_198 ?_
  obtain ⟨⟨r1, F1, G1⟩, hc, hm⟩ := bind_elim hm
  refine mcallV (n := 2) (As := [.int x3, .int (x2 &&& (-4096 : Int32))]) (rest := []) C hw (mk_gives l v a _ fu x3 (x2 &&& (-4096 : Int32)) F G r1 F1 G1 hc) (mrecv_X12 C hw) mm_470 mm_471 mm_472 mm_27 mm_473 (by decide +kernel) rfl (by omega) (by omega) hl.1 rfl (Nat.le_of_ble_eq_true rfl) dX12_oneWord_199 (fun H locs hw => ?_)
  exact mw_oneWord_202 fu C hret x1 F1 G1 hm hw (lv_sub hl [0, 1] rfl)
theorem mw_oneWord_229 (fu : Nat) {res : Int32 × PF × PG} (C : mMC p R s m args c A v RX12 cX12_oneWord 9 3 77) (hret : ∀ (H1 : Heap) (locs1 : List Loc) (ls1 : Array Slot) (pc : Nat), mMW s A v a res.2.1 res.2.2 H1 locs1 → narrow .int (.int res.1) = .int res.1 → decode cX12_oneWord pc = .ok (.ireturn, 1) → W p l e R s m args below meth c H1 locs1 0 0 Q (F0 m pc ls1 [.int res.1])) (z0 : Int32) (F : PF) (G : PG) (hm : mb_oneWord_229 fu z0 F G = some res) {H : Heap} {locs : List Loc} (hw : mMW s A v a F G H locs) {ls : Array Slot} (hl : lv_has ls 9 []) : W p l e R s m args below meth c H locs 0 0 Q (F0 m 229 ls [.int z0]) := by
  have hx := C.1
  have hb := C.2.1
  unfold mb_oneWord_229 at hm
  obtain rfl := Option.some.inj hm
  exact hret _ _ _ _ hw rfl dX12_oneWord_229
theorem mw_oneWord_222 (fu : Nat) {res : Int32 × PF × PG} (C : mMC p R s m args c A v RX12 cX12_oneWord 9 3 77) (hret : ∀ (H1 : Heap) (locs1 : List Loc) (ls1 : Array Slot) (pc : Nat), mMW s A v a res.2.1 res.2.2 H1 locs1 → narrow .int (.int res.1) = .int res.1 → decode cX12_oneWord pc = .ok (.ireturn, 1) → W p l e R s m args below meth c H1 locs1 0 0 Q (F0 m pc ls1 [.int res.1])) (x1 : Int32) (F : PF) (G : PG) (hm : mb_oneWord_222 fu x1 F G = some res) {H : Heap} {locs : List Loc} (hw : mMW s A v a F G H locs) {ls : Array Slot} (hl : lv_has ls 9 [(0, .ref (a 212)), (1, .int x1)]) : W p l e R s m args below meth c H locs 0 0 Q (F0 m 222 ls []) := by
  have hx := C.1
  have hb := C.2.1
  unfold mb_oneWord_222 at hm
  refine lv_aload_n hx hb dX12_oneWord_222 rfl (lv_at hl 0 rfl) ?_
  refine lv_iload_n hx hb dX12_oneWord_223 rfl (lv_at hl 1 rfl) ?_
  refine lv_iconst (v := 4) hx hb dX12_oneWord_224 (by decide) ?_
  refine lv_iadd hx hb dX12_oneWord_225 ?_
  obtain ⟨⟨r1, F1, G1⟩, hc, hm⟩ := bind_elim hm
  refine mcallI (n := 1) (As := [.int (x1 + (4 : Int32))]) (rest := []) C hw (mk_goesOn l v a _ fu (x1 + (4 : Int32)) F G r1 F1 G1 hc) (mrecv_X12 C hw) mm_474 mm_475 mm_476 mm_27 mm_477 (by decide +kernel) rfl (by omega) (by omega) hl.1 rfl (Nat.le_of_ble_eq_true rfl) dX12_oneWord_226 (fun H locs hw => ?_)
  exact mw_oneWord_229 fu C hret r1 F1 G1 hm hw (lv_sub hl [] rfl)
theorem mw_oneWord_210 (fu : Nat) {res : Int32 × PF × PG} (C : mMC p R s m args c A v RX12 cX12_oneWord 9 3 77) (hret : ∀ (H1 : Heap) (locs1 : List Loc) (ls1 : Array Slot) (pc : Nat), mMW s A v a res.2.1 res.2.2 H1 locs1 → narrow .int (.int res.1) = .int res.1 → decode cX12_oneWord pc = .ok (.ireturn, 1) → W p l e R s m args below meth c H1 locs1 0 0 Q (F0 m pc ls1 [.int res.1])) (x1 : Int32) (x2 : Int32) (x3 : Int32) (F : PF) (G : PG) (hm : mb_oneWord_210 fu x1 x2 x3 F G = some res) {H : Heap} {locs : List Loc} (hw : mMW s A v a F G H locs) {ls : Array Slot} (hl : lv_has ls 9 [(0, .ref (a 212)), (1, .int x1), (2, .int x2), (3, .int x3)]) : W p l e R s m args below meth c H locs 0 0 Q (F0 m 210 ls []) := by
  have hx := C.1
  have hb := C.2.1
  unfold mb_oneWord_210 at hm
  refine lv_aload_n hx hb dX12_oneWord_210 rfl (lv_at hl 0 rfl) ?_
  refine lv_iload_n hx hb dX12_oneWord_211 rfl (lv_at hl 3 rfl) ?_
  refine lv_iload_n hx hb dX12_oneWord_212 rfl (lv_at hl 1 rfl) ?_
  refine lv_iload_n hx hb dX12_oneWord_213 rfl (lv_at hl 2 rfl) ?_
  refine lv_sipush (v := (-4096)) hx hb dX12_oneWord_214 (by decide) ?_
  refine lv_iand hx hb dX12_oneWord_217 ?_
  refine lv_iadd hx hb dX12_oneWord_218 ?_
  obtain ⟨⟨r1, F1, G1⟩, hc, hm⟩ := bind_elim hm
  refine mcallV (n := 2) (As := [.int x3, .int (x1 + (x2 &&& (-4096 : Int32)))]) (rest := []) C hw (mk_gives l v a _ fu x3 (x1 + (x2 &&& (-4096 : Int32))) F G r1 F1 G1 hc) (mrecv_X12 C hw) mm_470 mm_471 mm_472 mm_27 mm_473 (by decide +kernel) rfl (by omega) (by omega) hl.1 rfl (Nat.le_of_ble_eq_true rfl) dX12_oneWord_219 (fun H locs hw => ?_)
  exact mw_oneWord_222 fu C hret x1 F1 G1 hm hw (lv_sub hl [0, 1] rfl)
theorem mw_oneWord_279 (fu : Nat) {res : Int32 × PF × PG} (C : mMC p R s m args c A v RX12 cX12_oneWord 9 3 77) (hret : ∀ (H1 : Heap) (locs1 : List Loc) (ls1 : Array Slot) (pc : Nat), mMW s A v a res.2.1 res.2.2 H1 locs1 → narrow .int (.int res.1) = .int res.1 → decode cX12_oneWord pc = .ok (.ireturn, 1) → W p l e R s m args below meth c H1 locs1 0 0 Q (F0 m pc ls1 [.int res.1])) (z0 : Int32) (F : PF) (G : PG) (hm : mb_oneWord_279 fu z0 F G = some res) {H : Heap} {locs : List Loc} (hw : mMW s A v a F G H locs) {ls : Array Slot} (hl : lv_has ls 9 []) : W p l e R s m args below meth c H locs 0 0 Q (F0 m 279 ls [.int z0]) := by
  have hx := C.1
  have hb := C.2.1
  unfold mb_oneWord_279 at hm
  obtain rfl := Option.some.inj hm
  exact hret _ _ _ _ hw rfl dX12_oneWord_279
theorem mw_oneWord_271 (fu : Nat) {res : Int32 × PF × PG} (C : mMC p R s m args c A v RX12 cX12_oneWord 9 3 77) (hret : ∀ (H1 : Heap) (locs1 : List Loc) (ls1 : Array Slot) (pc : Nat), mMW s A v a res.2.1 res.2.2 H1 locs1 → narrow .int (.int res.1) = .int res.1 → decode cX12_oneWord pc = .ok (.ireturn, 1) → W p l e R s m args below meth c H1 locs1 0 0 Q (F0 m pc ls1 [.int res.1])) (x1 : Int32) (z0 : Int32) (z1 : Int32) (z2 : Int32) (z3 : Int32) (F : PF) (G : PG) (hm : mb_oneWord_271 fu x1 z0 z1 z2 z3 F G = some res) {H : Heap} {locs : List Loc} (hw : mMW s A v a F G H locs) {ls : Array Slot} (hl : lv_has ls 9 [(1, .int x1)]) : W p l e R s m args below meth c H locs 0 0 Q (F0 m 271 ls [.int z0, .int z1, .int z2, .int z3, .ref (a 212)]) := by
  have hx := C.1
  have hb := C.2.1
  unfold mb_oneWord_271 at hm
  refine lv_iconst (v := 1) hx hb dX12_oneWord_271 (by decide) ?_
  refine lv_ishl hx hb dX12_oneWord_272 ?_
  refine lv_ior hx hb dX12_oneWord_273 ?_
  refine lv_iadd hx hb dX12_oneWord_274 ?_
  refine lv_iload_n hx hb dX12_oneWord_275 rfl (lv_at hl 0 rfl) ?_
  obtain ⟨⟨r1, F1, G1⟩, hc, hm⟩ := bind_elim hm
  refine mcallI (n := 3) (As := [.int z3, .int (z2 + (z1 ||| (z0 <<< ((1 : Int32) &&& 31)))), .int x1]) (rest := []) C hw (mk_jumps l v a _ fu z3 (z2 + (z1 ||| (z0 <<< ((1 : Int32) &&& 31)))) x1 F G r1 F1 G1 hc) (mrecv_X12 C hw) mm_479 mm_480 mm_481 mm_27 mm_482 (by decide +kernel) rfl (by omega) (by omega) hl.1 rfl (Nat.le_of_ble_eq_true rfl) dX12_oneWord_276 (fun H locs hw => ?_)
  exact mw_oneWord_279 fu C hret r1 F1 G1 hm hw (lv_sub hl [] rfl)
theorem mw_oneWord_259 (fu : Nat) {res : Int32 × PF × PG} (C : mMC p R s m args c A v RX12 cX12_oneWord 9 3 77) (hret : ∀ (H1 : Heap) (locs1 : List Loc) (ls1 : Array Slot) (pc : Nat), mMW s A v a res.2.1 res.2.2 H1 locs1 → narrow .int (.int res.1) = .int res.1 → decode cX12_oneWord pc = .ok (.ireturn, 1) → W p l e R s m args below meth c H1 locs1 0 0 Q (F0 m pc ls1 [.int res.1])) (x1 : Int32) (x2 : Int32) (z0 : Int32) (z1 : Int32) (z2 : Int32) (z3 : Int32) (F : PF) (G : PG) (hm : mb_oneWord_259 fu x1 x2 z0 z1 z2 z3 F G = some res) {H : Heap} {locs : List Loc} (hw : mMW s A v a F G H locs) {ls : Array Slot} (hl : lv_has ls 9 [(1, .int x1), (2, .int x2)]) : W p l e R s m args below meth c H locs 0 0 Q (F0 m 259 ls [.int z0, .int z1, .int z2, .int z3, .ref (a 212)]) := by
  have hx := C.1
  have hb := C.2.1
  unfold mb_oneWord_259 at hm
  refine lv_bipush (v := 11) hx hb dX12_oneWord_259 (by decide) ?_
  refine lv_ishl hx hb dX12_oneWord_261 ?_
  refine lv_ior hx hb dX12_oneWord_262 ?_
  refine lv_iload_n hx hb dX12_oneWord_263 rfl (lv_at hl 1 rfl) ?_
  refine lv_bipush (v := 21) hx hb dX12_oneWord_264 (by decide) ?_
  refine lv_bipush (v := 10) hx hb dX12_oneWord_266 (by decide) ?_
  obtain ⟨⟨r1, F1, G1⟩, hc, hm⟩ := bind_elim hm
  refine mcallIS (n := 3) (As := [.int x2, .int 21, .int 10]) (rest := [.int (z1 ||| (z0 <<< ((11 : Int32) &&& 31))), .int z2, .int z3, .ref (a 212)]) C hw (mk_part l v a _ fu x2 21 10 F G r1 F1 G1 hc) mm_467 mm_468 mm_27 mm_469 (by decide +kernel) rfl (by omega) (by omega) hl.1 rfl (Nat.le_of_ble_eq_true rfl) dX12_oneWord_268 (fun H locs hw => ?_)
  exact mw_oneWord_271 fu C hret x1 r1 (z1 ||| (z0 <<< ((11 : Int32) &&& 31))) z2 z3 F1 G1 hm hw (lv_sub hl [0] rfl)
theorem mw_oneWord_248 (fu : Nat) {res : Int32 × PF × PG} (C : mMC p R s m args c A v RX12 cX12_oneWord 9 3 77) (hret : ∀ (H1 : Heap) (locs1 : List Loc) (ls1 : Array Slot) (pc : Nat), mMW s A v a res.2.1 res.2.2 H1 locs1 → narrow .int (.int res.1) = .int res.1 → decode cX12_oneWord pc = .ok (.ireturn, 1) → W p l e R s m args below meth c H1 locs1 0 0 Q (F0 m pc ls1 [.int res.1])) (x1 : Int32) (x2 : Int32) (z0 : Int32) (z1 : Int32) (z2 : Int32) (z3 : Int32) (F : PF) (G : PG) (hm : mb_oneWord_248 fu x1 x2 z0 z1 z2 z3 F G = some res) {H : Heap} {locs : List Loc} (hw : mMW s A v a F G H locs) {ls : Array Slot} (hl : lv_has ls 9 [(1, .int x1), (2, .int x2)]) : W p l e R s m args below meth c H locs 0 0 Q (F0 m 248 ls [.int z0, .int z1, .int z2, .int z3, .ref (a 212)]) := by
  have hx := C.1
  have hb := C.2.1
  unfold mb_oneWord_248 at hm
  refine lv_bipush (v := 12) hx hb dX12_oneWord_248 (by decide) ?_
  refine lv_ishl hx hb dX12_oneWord_250 ?_
  refine lv_ior hx hb dX12_oneWord_251 ?_
  refine lv_iload_n hx hb dX12_oneWord_252 rfl (lv_at hl 1 rfl) ?_
  refine lv_bipush (v := 20) hx hb dX12_oneWord_253 (by decide) ?_
  refine lv_iconst (v := 1) hx hb dX12_oneWord_255 (by decide) ?_
  obtain ⟨⟨r1, F1, G1⟩, hc, hm⟩ := bind_elim hm
  refine mcallIS (n := 3) (As := [.int x2, .int 20, .int 1]) (rest := [.int (z1 ||| (z0 <<< ((12 : Int32) &&& 31))), .int z2, .int z3, .ref (a 212)]) C hw (mk_part l v a _ fu x2 20 1 F G r1 F1 G1 hc) mm_467 mm_468 mm_27 mm_469 (by decide +kernel) rfl (by omega) (by omega) hl.1 rfl (Nat.le_of_ble_eq_true rfl) dX12_oneWord_256 (fun H locs hw => ?_)
  exact mw_oneWord_259 fu C hret x1 x2 r1 (z1 ||| (z0 <<< ((12 : Int32) &&& 31))) z2 z3 F1 G1 hm hw (lv_sub hl [0, 1] rfl)
theorem mw_oneWord_230 (fu : Nat) {res : Int32 × PF × PG} (C : mMC p R s m args c A v RX12 cX12_oneWord 9 3 77) (hret : ∀ (H1 : Heap) (locs1 : List Loc) (ls1 : Array Slot) (pc : Nat), mMW s A v a res.2.1 res.2.2 H1 locs1 → narrow .int (.int res.1) = .int res.1 → decode cX12_oneWord pc = .ok (.ireturn, 1) → W p l e R s m args below meth c H1 locs1 0 0 Q (F0 m pc ls1 [.int res.1])) (x1 : Int32) (x2 : Int32) (x3 : Int32) (F : PF) (G : PG) (hm : mb_oneWord_230 fu x1 x2 x3 F G = some res) {H : Heap} {locs : List Loc} (hw : mMW s A v a F G H locs) {ls : Array Slot} (hl : lv_has ls 9 [(0, .ref (a 212)), (1, .int x1), (2, .int x2), (3, .int x3)]) : W p l e R s m args below meth c H locs 0 0 Q (F0 m 230 ls []) := by
  have hx := C.1
  have hb := C.2.1
  unfold mb_oneWord_230 at hm
  refine lv_aload_n hx hb dX12_oneWord_230 rfl (lv_at hl 0 rfl) ?_
  refine lv_iload_n hx hb dX12_oneWord_231 rfl (lv_at hl 3 rfl) ?_
  refine lv_iload_n hx hb dX12_oneWord_232 rfl (lv_at hl 1 rfl) ?_
  refine lv_iload_n hx hb dX12_oneWord_233 rfl (lv_at hl 2 rfl) ?_
  refine lv_bipush (v := 31) hx hb dX12_oneWord_234 (by decide) ?_
  refine lv_ishr hx hb dX12_oneWord_236 ?_
  refine lv_bipush (v := 20) hx hb dX12_oneWord_237 (by decide) ?_
  refine lv_ishl hx hb dX12_oneWord_239 ?_
  refine lv_iload_n hx hb dX12_oneWord_240 rfl (lv_at hl 2 rfl) ?_
  refine lv_bipush (v := 12) hx hb dX12_oneWord_241 (by decide) ?_
  refine lv_bipush (v := 8) hx hb dX12_oneWord_243 (by decide) ?_
  obtain ⟨⟨r1, F1, G1⟩, hc, hm⟩ := bind_elim hm
  refine mcallIS (n := 3) (As := [.int x2, .int 12, .int 8]) (rest := [.int ((x2 >>> ((31 : Int32) &&& 31)) <<< ((20 : Int32) &&& 31)), .int x1, .int x3, .ref (a 212)]) C hw (mk_part l v a _ fu x2 12 8 F G r1 F1 G1 hc) mm_467 mm_468 mm_27 mm_469 (by decide +kernel) rfl (by omega) (by omega) hl.1 rfl (Nat.le_of_ble_eq_true rfl) dX12_oneWord_245 (fun H locs hw => ?_)
  exact mw_oneWord_248 fu C hret x1 x2 r1 ((x2 >>> ((31 : Int32) &&& 31)) <<< ((20 : Int32) &&& 31)) x1 x3 F1 G1 hm hw (lv_sub hl [1, 2] rfl)
theorem mw_oneWord_303 (fu : Nat) {res : Int32 × PF × PG} (C : mMC p R s m args c A v RX12 cX12_oneWord 9 3 77) (hret : ∀ (H1 : Heap) (locs1 : List Loc) (ls1 : Array Slot) (pc : Nat), mMW s A v a res.2.1 res.2.2 H1 locs1 → narrow .int (.int res.1) = .int res.1 → decode cX12_oneWord pc = .ok (.ireturn, 1) → W p l e R s m args below meth c H1 locs1 0 0 Q (F0 m pc ls1 [.int res.1])) (z0 : Int32) (F : PF) (G : PG) (hm : mb_oneWord_303 fu z0 F G = some res) {H : Heap} {locs : List Loc} (hw : mMW s A v a F G H locs) {ls : Array Slot} (hl : lv_has ls 9 []) : W p l e R s m args below meth c H locs 0 0 Q (F0 m 303 ls [.int z0]) := by
  have hx := C.1
  have hb := C.2.1
  unfold mb_oneWord_303 at hm
  obtain rfl := Option.some.inj hm
  exact hret _ _ _ _ hw rfl dX12_oneWord_303
theorem mw_oneWord_302 (fu : Nat) {res : Int32 × PF × PG} (C : mMC p R s m args c A v RX12 cX12_oneWord 9 3 77) (hret : ∀ (H1 : Heap) (locs1 : List Loc) (ls1 : Array Slot) (pc : Nat), mMW s A v a res.2.1 res.2.2 H1 locs1 → narrow .int (.int res.1) = .int res.1 → decode cX12_oneWord pc = .ok (.ireturn, 1) → W p l e R s m args below meth c H1 locs1 0 0 Q (F0 m pc ls1 [.int res.1])) (F : PF) (G : PG) (hm : mb_oneWord_302 fu F G = some res) {H : Heap} {locs : List Loc} (hw : mMW s A v a F G H locs) {ls : Array Slot} (hl : lv_has ls 9 []) : W p l e R s m args below meth c H locs 0 0 Q (F0 m 302 ls []) := by
  have hx := C.1
  have hb := C.2.1
  unfold mb_oneWord_302 at hm
  refine lv_iconst (v := 2) hx hb dX12_oneWord_302 (by decide) ?_
  exact mw_oneWord_303 fu C hret 2 F G hm hw (lv_sub hl [] rfl)
theorem mw_oneWord_299 (fu : Nat) {res : Int32 × PF × PG} (C : mMC p R s m args c A v RX12 cX12_oneWord 9 3 77) (hret : ∀ (H1 : Heap) (locs1 : List Loc) (ls1 : Array Slot) (pc : Nat), mMW s A v a res.2.1 res.2.2 H1 locs1 → narrow .int (.int res.1) = .int res.1 → decode cX12_oneWord pc = .ok (.ireturn, 1) → W p l e R s m args below meth c H1 locs1 0 0 Q (F0 m pc ls1 [.int res.1])) (z0 : Int32) (F : PF) (G : PG) (hm : mb_oneWord_299 fu z0 F G = some res) {H : Heap} {locs : List Loc} (hw : mMW s A v a F G H locs) {ls : Array Slot} (hl : lv_has ls 9 []) : W p l e R s m args below meth c H locs 0 0 Q (F0 m 299 ls [.int z0]) := by
  have hx := C.1
  have hb := C.2.1
  unfold mb_oneWord_299 at hm
  refine lv_goto (tgt := 303) hx hb dX12_oneWord_299 (by decide) ?_
  exact mw_oneWord_303 fu C hret z0 F G hm hw (lv_sub hl [] rfl)
theorem mw_oneWord_285 (fu : Nat) {res : Int32 × PF × PG} (C : mMC p R s m args c A v RX12 cX12_oneWord 9 3 77) (hret : ∀ (H1 : Heap) (locs1 : List Loc) (ls1 : Array Slot) (pc : Nat), mMW s A v a res.2.1 res.2.2 H1 locs1 → narrow .int (.int res.1) = .int res.1 → decode cX12_oneWord pc = .ok (.ireturn, 1) → W p l e R s m args below meth c H1 locs1 0 0 Q (F0 m pc ls1 [.int res.1])) (x1 : Int32) (x3 : Int32) (x6 : Int32) (x8 : Int32) (F : PF) (G : PG) (hm : mb_oneWord_285 fu x1 x3 x6 x8 F G = some res) {H : Heap} {locs : List Loc} (hw : mMW s A v a F G H locs) {ls : Array Slot} (hl : lv_has ls 9 [(0, .ref (a 212)), (1, .int x1), (3, .int x3), (6, .int x6), (8, .int x8)]) : W p l e R s m args below meth c H locs 0 0 Q (F0 m 285 ls []) := by
  have hx := C.1
  have hb := C.2.1
  unfold mb_oneWord_285 at hm
  refine lv_aload_n hx hb dX12_oneWord_285 rfl (lv_at hl 0 rfl) ?_
  refine lv_iload_n hx hb dX12_oneWord_286 rfl (lv_at hl 2 rfl) ?_
  refine lv_iload hx hb dX12_oneWord_287 (lv_at hl 3 rfl) ?_
  refine lv_iload hx hb dX12_oneWord_289 (lv_at hl 4 rfl) ?_
  refine lv_iadd hx hb dX12_oneWord_291 ?_
  refine lv_bipush (v := (-2)) hx hb dX12_oneWord_292 (by decide) ?_
  refine lv_iand hx hb dX12_oneWord_294 ?_
  refine lv_iload_n hx hb dX12_oneWord_295 rfl (lv_at hl 1 rfl) ?_
  obtain ⟨⟨r1, F1, G1⟩, hc, hm⟩ := bind_elim hm
  refine mcallI (n := 3) (As := [.int x3, .int ((x6 + x8) &&& (-2 : Int32)), .int x1]) (rest := []) C hw (mk_jumps l v a _ fu x3 ((x6 + x8) &&& (-2 : Int32)) x1 F G r1 F1 G1 hc) (mrecv_X12 C hw) mm_479 mm_480 mm_481 mm_27 mm_482 (by decide +kernel) rfl (by omega) (by omega) hl.1 rfl (Nat.le_of_ble_eq_true rfl) dX12_oneWord_296 (fun H locs hw => ?_)
  exact mw_oneWord_299 fu C hret r1 F1 G1 hm hw (lv_sub hl [] rfl)
theorem mw_oneWord_280 (fu : Nat) {res : Int32 × PF × PG} (C : mMC p R s m args c A v RX12 cX12_oneWord 9 3 77) (hret : ∀ (H1 : Heap) (locs1 : List Loc) (ls1 : Array Slot) (pc : Nat), mMW s A v a res.2.1 res.2.2 H1 locs1 → narrow .int (.int res.1) = .int res.1 → decode cX12_oneWord pc = .ok (.ireturn, 1) → W p l e R s m args below meth c H1 locs1 0 0 Q (F0 m pc ls1 [.int res.1])) (x1 : Int32) (x3 : Int32) (x4 : Int32) (x6 : Int32) (x8 : Int32) (F : PF) (G : PG) (hm : mb_oneWord_280 fu x1 x3 x4 x6 x8 F G = some res) {H : Heap} {locs : List Loc} (hw : mMW s A v a F G H locs) {ls : Array Slot} (hl : lv_has ls 9 [(0, .ref (a 212)), (1, .int x1), (3, .int x3), (4, .int x4), (6, .int x6), (8, .int x8)]) : W p l e R s m args below meth c H locs 0 0 Q (F0 m 280 ls []) := by
  have hx := C.1
  have hb := C.2.1
  unfold mb_oneWord_280 at hm
  refine lv_iload hx hb dX12_oneWord_280 (lv_at hl 3 rfl) ?_
  refine lv_if_ne (tgt := 302) hx hb dX12_oneWord_282 (by decide) (fun c_1 => ?_) (fun c_1 => ?_)
  · have hm := (if_neg c_1).symm.trans hm
    exact mw_oneWord_302 fu C hret F G hm hw (lv_sub hl [] rfl)
  · have hm := (if_pos c_1).symm.trans hm
    exact mw_oneWord_285 fu C hret x1 x3 x6 x8 F G hm hw (lv_sub hl [0, 1, 2, 4, 5] rfl)
theorem mw_oneWord_356 (fu : Nat) {res : Int32 × PF × PG} (C : mMC p R s m args c A v RX12 cX12_oneWord 9 3 77) (hret : ∀ (H1 : Heap) (locs1 : List Loc) (ls1 : Array Slot) (pc : Nat), mMW s A v a res.2.1 res.2.2 H1 locs1 → narrow .int (.int res.1) = .int res.1 → decode cX12_oneWord pc = .ok (.ireturn, 1) → W p l e R s m args below meth c H1 locs1 0 0 Q (F0 m pc ls1 [.int res.1])) (z0 : Int32) (F : PF) (G : PG) (hm : mb_oneWord_356 fu z0 F G = some res) {H : Heap} {locs : List Loc} (hw : mMW s A v a F G H locs) {ls : Array Slot} (hl : lv_has ls 9 []) : W p l e R s m args below meth c H locs 0 0 Q (F0 m 356 ls [.int z0]) := by
  have hx := C.1
  have hb := C.2.1
  unfold mb_oneWord_356 at hm
  obtain rfl := Option.some.inj hm
  exact hret _ _ _ _ hw rfl dX12_oneWord_356
theorem mw_oneWord_348 (fu : Nat) {res : Int32 × PF × PG} (C : mMC p R s m args c A v RX12 cX12_oneWord 9 3 77) (hret : ∀ (H1 : Heap) (locs1 : List Loc) (ls1 : Array Slot) (pc : Nat), mMW s A v a res.2.1 res.2.2 H1 locs1 → narrow .int (.int res.1) = .int res.1 → decode cX12_oneWord pc = .ok (.ireturn, 1) → W p l e R s m args below meth c H1 locs1 0 0 Q (F0 m pc ls1 [.int res.1])) (x1 : Int32) (z0 : Int32) (z1 : Int32) (z2 : Int32) (z3 : Int32) (z4 : Int32) (z5 : Int32) (F : PF) (G : PG) (hm : mb_oneWord_348 fu x1 z0 z1 z2 z3 z4 z5 F G = some res) {H : Heap} {locs : List Loc} (hw : mMW s A v a F G H locs) {ls : Array Slot} (hl : lv_has ls 9 [(1, .int x1)]) : W p l e R s m args below meth c H locs 0 0 Q (F0 m 348 ls [.int z0, .int z1, .int z2, .int z3, .int z4, .int z5, .ref (a 212)]) := by
  have hx := C.1
  have hb := C.2.1
  unfold mb_oneWord_348 at hm
  refine lv_iconst (v := 1) hx hb dX12_oneWord_348 (by decide) ?_
  refine lv_ishl hx hb dX12_oneWord_349 ?_
  refine lv_ior hx hb dX12_oneWord_350 ?_
  refine lv_iadd hx hb dX12_oneWord_351 ?_
  refine lv_iload_n hx hb dX12_oneWord_352 rfl (lv_at hl 0 rfl) ?_
  obtain ⟨⟨r1, F1, G1⟩, hc, hm⟩ := bind_elim hm
  refine mcallI (n := 5) (As := [.int z5, .int z4, .int z3, .int (z2 + (z1 ||| (z0 <<< ((1 : Int32) &&& 31)))), .int x1]) (rest := []) C hw (mk_branches l v a _ fu z5 z4 z3 (z2 + (z1 ||| (z0 <<< ((1 : Int32) &&& 31)))) x1 F G r1 F1 G1 hc) (mrecv_X12 C hw) mm_483 mm_484 mm_485 mm_27 mm_486 (by decide +kernel) rfl (by omega) (by omega) hl.1 rfl (Nat.le_of_ble_eq_true rfl) dX12_oneWord_353 (fun H locs hw => ?_)
  exact mw_oneWord_356 fu C hret r1 F1 G1 hm hw (lv_sub hl [] rfl)
theorem mw_oneWord_338 (fu : Nat) {res : Int32 × PF × PG} (C : mMC p R s m args c A v RX12 cX12_oneWord 9 3 77) (hret : ∀ (H1 : Heap) (locs1 : List Loc) (ls1 : Array Slot) (pc : Nat), mMW s A v a res.2.1 res.2.2 H1 locs1 → narrow .int (.int res.1) = .int res.1 → decode cX12_oneWord pc = .ok (.ireturn, 1) → W p l e R s m args below meth c H1 locs1 0 0 Q (F0 m pc ls1 [.int res.1])) (x1 : Int32) (x2 : Int32) (z0 : Int32) (z1 : Int32) (z2 : Int32) (z3 : Int32) (z4 : Int32) (z5 : Int32) (F : PF) (G : PG) (hm : mb_oneWord_338 fu x1 x2 z0 z1 z2 z3 z4 z5 F G = some res) {H : Heap} {locs : List Loc} (hw : mMW s A v a F G H locs) {ls : Array Slot} (hl : lv_has ls 9 [(1, .int x1), (2, .int x2)]) : W p l e R s m args below meth c H locs 0 0 Q (F0 m 338 ls [.int z0, .int z1, .int z2, .int z3, .int z4, .int z5, .ref (a 212)]) := by
  have hx := C.1
  have hb := C.2.1
  unfold mb_oneWord_338 at hm
  refine lv_iconst (v := 5) hx hb dX12_oneWord_338 (by decide) ?_
  refine lv_ishl hx hb dX12_oneWord_339 ?_
  refine lv_ior hx hb dX12_oneWord_340 ?_
  refine lv_iload_n hx hb dX12_oneWord_341 rfl (lv_at hl 1 rfl) ?_
  refine lv_bipush (v := 8) hx hb dX12_oneWord_342 (by decide) ?_
  refine lv_iconst (v := 4) hx hb dX12_oneWord_344 (by decide) ?_
  obtain ⟨⟨r1, F1, G1⟩, hc, hm⟩ := bind_elim hm
  refine mcallIS (n := 3) (As := [.int x2, .int 8, .int 4]) (rest := [.int (z1 ||| (z0 <<< ((5 : Int32) &&& 31))), .int z2, .int z3, .int z4, .int z5, .ref (a 212)]) C hw (mk_part l v a _ fu x2 8 4 F G r1 F1 G1 hc) mm_467 mm_468 mm_27 mm_469 (by decide +kernel) rfl (by omega) (by omega) hl.1 rfl (Nat.le_of_ble_eq_true rfl) dX12_oneWord_345 (fun H locs hw => ?_)
  exact mw_oneWord_348 fu C hret x1 r1 (z1 ||| (z0 <<< ((5 : Int32) &&& 31))) z2 z3 z4 z5 F1 G1 hm hw (lv_sub hl [0] rfl)
theorem mw_oneWord_326 (fu : Nat) {res : Int32 × PF × PG} (C : mMC p R s m args c A v RX12 cX12_oneWord 9 3 77) (hret : ∀ (H1 : Heap) (locs1 : List Loc) (ls1 : Array Slot) (pc : Nat), mMW s A v a res.2.1 res.2.2 H1 locs1 → narrow .int (.int res.1) = .int res.1 → decode cX12_oneWord pc = .ok (.ireturn, 1) → W p l e R s m args below meth c H1 locs1 0 0 Q (F0 m pc ls1 [.int res.1])) (x1 : Int32) (x2 : Int32) (z0 : Int32) (z1 : Int32) (z2 : Int32) (z3 : Int32) (z4 : Int32) (z5 : Int32) (F : PF) (G : PG) (hm : mb_oneWord_326 fu x1 x2 z0 z1 z2 z3 z4 z5 F G = some res) {H : Heap} {locs : List Loc} (hw : mMW s A v a F G H locs) {ls : Array Slot} (hl : lv_has ls 9 [(1, .int x1), (2, .int x2)]) : W p l e R s m args below meth c H locs 0 0 Q (F0 m 326 ls [.int z0, .int z1, .int z2, .int z3, .int z4, .int z5, .ref (a 212)]) := by
  have hx := C.1
  have hb := C.2.1
  unfold mb_oneWord_326 at hm
  refine lv_bipush (v := 11) hx hb dX12_oneWord_326 (by decide) ?_
  refine lv_ishl hx hb dX12_oneWord_328 ?_
  refine lv_ior hx hb dX12_oneWord_329 ?_
  refine lv_iload_n hx hb dX12_oneWord_330 rfl (lv_at hl 1 rfl) ?_
  refine lv_bipush (v := 25) hx hb dX12_oneWord_331 (by decide) ?_
  refine lv_bipush (v := 6) hx hb dX12_oneWord_333 (by decide) ?_
  obtain ⟨⟨r1, F1, G1⟩, hc, hm⟩ := bind_elim hm
  refine mcallIS (n := 3) (As := [.int x2, .int 25, .int 6]) (rest := [.int (z1 ||| (z0 <<< ((11 : Int32) &&& 31))), .int z2, .int z3, .int z4, .int z5, .ref (a 212)]) C hw (mk_part l v a _ fu x2 25 6 F G r1 F1 G1 hc) mm_467 mm_468 mm_27 mm_469 (by decide +kernel) rfl (by omega) (by omega) hl.1 rfl (Nat.le_of_ble_eq_true rfl) dX12_oneWord_335 (fun H locs hw => ?_)
  exact mw_oneWord_338 fu C hret x1 x2 r1 (z1 ||| (z0 <<< ((11 : Int32) &&& 31))) z2 z3 z4 z5 F1 G1 hm hw (lv_sub hl [0, 1] rfl)
theorem mw_oneWord_304 (fu : Nat) {res : Int32 × PF × PG} (C : mMC p R s m args c A v RX12 cX12_oneWord 9 3 77) (hret : ∀ (H1 : Heap) (locs1 : List Loc) (ls1 : Array Slot) (pc : Nat), mMW s A v a res.2.1 res.2.2 H1 locs1 → narrow .int (.int res.1) = .int res.1 → decode cX12_oneWord pc = .ok (.ireturn, 1) → W p l e R s m args below meth c H1 locs1 0 0 Q (F0 m pc ls1 [.int res.1])) (x1 : Int32) (x2 : Int32) (x4 : Int32) (x6 : Int32) (x7 : Int32) (F : PF) (G : PG) (hm : mb_oneWord_304 fu x1 x2 x4 x6 x7 F G = some res) {H : Heap} {locs : List Loc} (hw : mMW s A v a F G H locs) {ls : Array Slot} (hl : lv_has ls 9 [(0, .ref (a 212)), (1, .int x1), (2, .int x2), (4, .int x4), (6, .int x6), (7, .int x7)]) : W p l e R s m args below meth c H locs 0 0 Q (F0 m 304 ls []) := by
  have hx := C.1
  have hb := C.2.1
  unfold mb_oneWord_304 at hm
  refine lv_aload_n hx hb dX12_oneWord_304 rfl (lv_at hl 0 rfl) ?_
  refine lv_iload hx hb dX12_oneWord_305 (lv_at hl 3 rfl) ?_
  refine lv_iload hx hb dX12_oneWord_307 (lv_at hl 4 rfl) ?_
  refine lv_iload hx hb dX12_oneWord_309 (lv_at hl 5 rfl) ?_
  refine lv_iload_n hx hb dX12_oneWord_311 rfl (lv_at hl 1 rfl) ?_
  refine lv_iload_n hx hb dX12_oneWord_312 rfl (lv_at hl 2 rfl) ?_
  refine lv_bipush (v := 31) hx hb dX12_oneWord_313 (by decide) ?_
  refine lv_ishr hx hb dX12_oneWord_315 ?_
  refine lv_bipush (v := 12) hx hb dX12_oneWord_316 (by decide) ?_
  refine lv_ishl hx hb dX12_oneWord_318 ?_
  refine lv_iload_n hx hb dX12_oneWord_319 rfl (lv_at hl 2 rfl) ?_
  refine lv_bipush (v := 7) hx hb dX12_oneWord_320 (by decide) ?_
  refine lv_iconst (v := 1) hx hb dX12_oneWord_322 (by decide) ?_
  obtain ⟨⟨r1, F1, G1⟩, hc, hm⟩ := bind_elim hm
  refine mcallIS (n := 3) (As := [.int x2, .int 7, .int 1]) (rest := [.int ((x2 >>> ((31 : Int32) &&& 31)) <<< ((12 : Int32) &&& 31)), .int x1, .int x7, .int x6, .int x4, .ref (a 212)]) C hw (mk_part l v a _ fu x2 7 1 F G r1 F1 G1 hc) mm_467 mm_468 mm_27 mm_469 (by decide +kernel) rfl (by omega) (by omega) hl.1 rfl (Nat.le_of_ble_eq_true rfl) dX12_oneWord_323 (fun H locs hw => ?_)
  exact mw_oneWord_326 fu C hret x1 x2 r1 ((x2 >>> ((31 : Int32) &&& 31)) <<< ((12 : Int32) &&& 31)) x1 x7 x6 x4 F1 G1 hm hw (lv_sub hl [1, 2] rfl)
theorem mw_oneWord_370 (fu : Nat) {res : Int32 × PF × PG} (C : mMC p R s m args c A v RX12 cX12_oneWord 9 3 77) (hret : ∀ (H1 : Heap) (locs1 : List Loc) (ls1 : Array Slot) (pc : Nat), mMW s A v a res.2.1 res.2.2 H1 locs1 → narrow .int (.int res.1) = .int res.1 → decode cX12_oneWord pc = .ok (.ireturn, 1) → W p l e R s m args below meth c H1 locs1 0 0 Q (F0 m pc ls1 [.int res.1])) (z0 : Int32) (F : PF) (G : PG) (hm : mb_oneWord_370 fu z0 F G = some res) {H : Heap} {locs : List Loc} (hw : mMW s A v a F G H locs) {ls : Array Slot} (hl : lv_has ls 9 []) : W p l e R s m args below meth c H locs 0 0 Q (F0 m 370 ls [.int z0]) := by
  have hx := C.1
  have hb := C.2.1
  unfold mb_oneWord_370 at hm
  obtain rfl := Option.some.inj hm
  exact hret _ _ _ _ hw rfl dX12_oneWord_370
theorem mw_oneWord_357 (fu : Nat) {res : Int32 × PF × PG} (C : mMC p R s m args c A v RX12 cX12_oneWord 9 3 77) (hret : ∀ (H1 : Heap) (locs1 : List Loc) (ls1 : Array Slot) (pc : Nat), mMW s A v a res.2.1 res.2.2 H1 locs1 → narrow .int (.int res.1) = .int res.1 → decode cX12_oneWord pc = .ok (.ireturn, 1) → W p l e R s m args below meth c H1 locs1 0 0 Q (F0 m pc ls1 [.int res.1])) (x1 : Int32) (x3 : Int32) (x4 : Int32) (x6 : Int32) (x8 : Int32) (F : PF) (G : PG) (hm : mb_oneWord_357 fu x1 x3 x4 x6 x8 F G = some res) {H : Heap} {locs : List Loc} (hw : mMW s A v a F G H locs) {ls : Array Slot} (hl : lv_has ls 9 [(0, .ref (a 212)), (1, .int x1), (3, .int x3), (4, .int x4), (6, .int x6), (8, .int x8)]) : W p l e R s m args below meth c H locs 0 0 Q (F0 m 357 ls []) := by
  have hx := C.1
  have hb := C.2.1
  unfold mb_oneWord_357 at hm
  refine lv_aload_n hx hb dX12_oneWord_357 rfl (lv_at hl 0 rfl) ?_
  refine lv_iload hx hb dX12_oneWord_358 (lv_at hl 3 rfl) ?_
  refine lv_iload_n hx hb dX12_oneWord_360 rfl (lv_at hl 2 rfl) ?_
  refine lv_iload hx hb dX12_oneWord_361 (lv_at hl 4 rfl) ?_
  refine lv_iload hx hb dX12_oneWord_363 (lv_at hl 5 rfl) ?_
  refine lv_iadd hx hb dX12_oneWord_365 ?_
  refine lv_iload_n hx hb dX12_oneWord_366 rfl (lv_at hl 1 rfl) ?_
  obtain ⟨⟨r1, F1, G1⟩, hc, hm⟩ := bind_elim hm
  refine mcallI (n := 4) (As := [.int x4, .int x3, .int (x6 + x8), .int x1]) (rest := []) C hw (mk_loads l v a _ fu x4 x3 (x6 + x8) x1 F G r1 F1 G1 hc) (mrecv_X12 C hw) mm_487 mm_488 mm_489 mm_27 mm_490 (by decide +kernel) rfl (by omega) (by omega) hl.1 rfl (Nat.le_of_ble_eq_true rfl) dX12_oneWord_367 (fun H locs hw => ?_)
  exact mw_oneWord_370 fu C hret r1 F1 G1 hm hw (lv_sub hl [] rfl)
theorem mw_oneWord_391 (fu : Nat) {res : Int32 × PF × PG} (C : mMC p R s m args c A v RX12 cX12_oneWord 9 3 77) (hret : ∀ (H1 : Heap) (locs1 : List Loc) (ls1 : Array Slot) (pc : Nat), mMW s A v a res.2.1 res.2.2 H1 locs1 → narrow .int (.int res.1) = .int res.1 → decode cX12_oneWord pc = .ok (.ireturn, 1) → W p l e R s m args below meth c H1 locs1 0 0 Q (F0 m pc ls1 [.int res.1])) (z0 : Int32) (F : PF) (G : PG) (hm : mb_oneWord_391 fu z0 F G = some res) {H : Heap} {locs : List Loc} (hw : mMW s A v a F G H locs) {ls : Array Slot} (hl : lv_has ls 9 []) : W p l e R s m args below meth c H locs 0 0 Q (F0 m 391 ls [.int z0]) := by
  have hx := C.1
  have hb := C.2.1
  unfold mb_oneWord_391 at hm
  obtain rfl := Option.some.inj hm
  exact hret _ _ _ _ hw rfl dX12_oneWord_391
theorem mw_oneWord_371 (fu : Nat) {res : Int32 × PF × PG} (C : mMC p R s m args c A v RX12 cX12_oneWord 9 3 77) (hret : ∀ (H1 : Heap) (locs1 : List Loc) (ls1 : Array Slot) (pc : Nat), mMW s A v a res.2.1 res.2.2 H1 locs1 → narrow .int (.int res.1) = .int res.1 → decode cX12_oneWord pc = .ok (.ireturn, 1) → W p l e R s m args below meth c H1 locs1 0 0 Q (F0 m pc ls1 [.int res.1])) (x1 : Int32) (x2 : Int32) (x3 : Int32) (x4 : Int32) (x6 : Int32) (x7 : Int32) (F : PF) (G : PG) (hm : mb_oneWord_371 fu x1 x2 x3 x4 x6 x7 F G = some res) {H : Heap} {locs : List Loc} (hw : mMW s A v a F G H locs) {ls : Array Slot} (hl : lv_has ls 9 [(0, .ref (a 212)), (1, .int x1), (2, .int x2), (3, .int x3), (4, .int x4), (6, .int x6), (7, .int x7)]) : W p l e R s m args below meth c H locs 0 0 Q (F0 m 371 ls []) := by
  have hx := C.1
  have hb := C.2.1
  unfold mb_oneWord_371 at hm
  refine lv_aload_n hx hb dX12_oneWord_371 rfl (lv_at hl 0 rfl) ?_
  refine lv_iload hx hb dX12_oneWord_372 (lv_at hl 4 rfl) ?_
  refine lv_iload hx hb dX12_oneWord_374 (lv_at hl 5 rfl) ?_
  refine lv_iload_n hx hb dX12_oneWord_376 rfl (lv_at hl 2 rfl) ?_
  refine lv_bipush (v := 25) hx hb dX12_oneWord_377 (by decide) ?_
  refine lv_ishr hx hb dX12_oneWord_379 ?_
  refine lv_iconst (v := 5) hx hb dX12_oneWord_380 (by decide) ?_
  refine lv_ishl hx hb dX12_oneWord_381 ?_
  refine lv_iload_n hx hb dX12_oneWord_382 rfl (lv_at hl 3 rfl) ?_
  refine lv_ior hx hb dX12_oneWord_383 ?_
  refine lv_iadd hx hb dX12_oneWord_384 ?_
  refine lv_iload hx hb dX12_oneWord_385 (lv_at hl 6 rfl) ?_
  refine lv_iload_n hx hb dX12_oneWord_387 rfl (lv_at hl 1 rfl) ?_
  obtain ⟨⟨r1, F1, G1⟩, hc, hm⟩ := bind_elim hm
  refine mcallI (n := 4) (As := [.int x4, .int (x6 + (((x2 >>> ((25 : Int32) &&& 31)) <<< ((5 : Int32) &&& 31)) ||| x3)), .int x7, .int x1]) (rest := []) C hw (mk_stores l v a _ fu x4 (x6 + (((x2 >>> ((25 : Int32) &&& 31)) <<< ((5 : Int32) &&& 31)) ||| x3)) x7 x1 F G r1 F1 G1 hc) (mrecv_X12 C hw) mm_495 mm_496 mm_497 mm_27 mm_498 (by decide +kernel) rfl (by omega) (by omega) hl.1 rfl (Nat.le_of_ble_eq_true rfl) dX12_oneWord_388 (fun H locs hw => ?_)
  exact mw_oneWord_391 fu C hret r1 F1 G1 hm hw (lv_sub hl [] rfl)
theorem mw_oneWord_413 (fu : Nat) {res : Int32 × PF × PG} (C : mMC p R s m args c A v RX12 cX12_oneWord 9 3 77) (hret : ∀ (H1 : Heap) (locs1 : List Loc) (ls1 : Array Slot) (pc : Nat), mMW s A v a res.2.1 res.2.2 H1 locs1 → narrow .int (.int res.1) = .int res.1 → decode cX12_oneWord pc = .ok (.ireturn, 1) → W p l e R s m args below meth c H1 locs1 0 0 Q (F0 m pc ls1 [.int res.1])) (z0 : Int32) (F : PF) (G : PG) (hm : mb_oneWord_413 fu z0 F G = some res) {H : Heap} {locs : List Loc} (hw : mMW s A v a F G H locs) {ls : Array Slot} (hl : lv_has ls 9 []) : W p l e R s m args below meth c H locs 0 0 Q (F0 m 413 ls [.int z0]) := by
  have hx := C.1
  have hb := C.2.1
  unfold mb_oneWord_413 at hm
  obtain rfl := Option.some.inj hm
  exact hret _ _ _ _ hw rfl dX12_oneWord_413
theorem mw_oneWord_409 (fu : Nat) {res : Int32 × PF × PG} (C : mMC p R s m args c A v RX12 cX12_oneWord 9 3 77) (hret : ∀ (H1 : Heap) (locs1 : List Loc) (ls1 : Array Slot) (pc : Nat), mMW s A v a res.2.1 res.2.2 H1 locs1 → narrow .int (.int res.1) = .int res.1 → decode cX12_oneWord pc = .ok (.ireturn, 1) → W p l e R s m args below meth c H1 locs1 0 0 Q (F0 m pc ls1 [.int res.1])) (x1 : Int32) (z0 : Int32) (z1 : Int32) (z2 : Int32) (z3 : Int32) (z4 : Int32) (z5 : Int32) (F : PF) (G : PG) (hm : mb_oneWord_409 fu x1 z0 z1 z2 z3 z4 z5 F G = some res) {H : Heap} {locs : List Loc} (hw : mMW s A v a F G H locs) {ls : Array Slot} (hl : lv_has ls 9 [(1, .int x1)]) : W p l e R s m args below meth c H locs 0 0 Q (F0 m 409 ls [.int z0, .int z1, .int z2, .int z3, .int z4, .int z5, .ref (a 212)]) := by
  have hx := C.1
  have hb := C.2.1
  unfold mb_oneWord_409 at hm
  refine lv_iload_n hx hb dX12_oneWord_409 rfl (lv_at hl 0 rfl) ?_
  obtain ⟨⟨r1, F1, G1⟩, hc, hm⟩ := bind_elim hm
  refine mcallI (n := 7) (As := [.int z5, .int z4, .int z3, .int z2, .int z1, .int z0, .int x1]) (rest := []) C hw (mk_immediate l v a _ fu z5 z4 z3 z2 z1 z0 x1 F G r1 F1 G1 hc) (mrecv_X12 C hw) mm_503 mm_504 mm_505 mm_27 mm_506 (by decide +kernel) rfl (by omega) (by omega) hl.1 rfl (Nat.le_of_ble_eq_true rfl) dX12_oneWord_410 (fun H locs hw => ?_)
  exact mw_oneWord_413 fu C hret r1 F1 G1 hm hw (lv_sub hl [] rfl)
theorem mw_oneWord_392 (fu : Nat) {res : Int32 × PF × PG} (C : mMC p R s m args c A v RX12 cX12_oneWord 9 3 77) (hret : ∀ (H1 : Heap) (locs1 : List Loc) (ls1 : Array Slot) (pc : Nat), mMW s A v a res.2.1 res.2.2 H1 locs1 → narrow .int (.int res.1) = .int res.1 → decode cX12_oneWord pc = .ok (.ireturn, 1) → W p l e R s m args below meth c H1 locs1 0 0 Q (F0 m pc ls1 [.int res.1])) (x1 : Int32) (x2 : Int32) (x3 : Int32) (x4 : Int32) (x5 : Int32) (x6 : Int32) (x8 : Int32) (F : PF) (G : PG) (hm : mb_oneWord_392 fu x1 x2 x3 x4 x5 x6 x8 F G = some res) {H : Heap} {locs : List Loc} (hw : mMW s A v a F G H locs) {ls : Array Slot} (hl : lv_has ls 9 [(0, .ref (a 212)), (1, .int x1), (2, .int x2), (3, .int x3), (4, .int x4), (5, .int x5), (6, .int x6), (8, .int x8)]) : W p l e R s m args below meth c H locs 0 0 Q (F0 m 392 ls []) := by
  have hx := C.1
  have hb := C.2.1
  unfold mb_oneWord_392 at hm
  refine lv_aload_n hx hb dX12_oneWord_392 rfl (lv_at hl 0 rfl) ?_
  refine lv_iload hx hb dX12_oneWord_393 (lv_at hl 4 rfl) ?_
  refine lv_iload hx hb dX12_oneWord_395 (lv_at hl 5 rfl) ?_
  refine lv_iload_n hx hb dX12_oneWord_397 rfl (lv_at hl 3 rfl) ?_
  refine lv_iload hx hb dX12_oneWord_398 (lv_at hl 6 rfl) ?_
  refine lv_iload hx hb dX12_oneWord_400 (lv_at hl 7 rfl) ?_
  refine lv_iload_n hx hb dX12_oneWord_402 rfl (lv_at hl 2 rfl) ?_
  refine lv_bipush (v := 20) hx hb dX12_oneWord_403 (by decide) ?_
  refine lv_iconst (v := 5) hx hb dX12_oneWord_405 (by decide) ?_
  obtain ⟨⟨r1, F1, G1⟩, hc, hm⟩ := bind_elim hm
  refine mcallIS (n := 3) (As := [.int x2, .int 20, .int 5]) (rest := [.int x8, .int x6, .int x3, .int x5, .int x4, .ref (a 212)]) C hw (mk_part l v a _ fu x2 20 5 F G r1 F1 G1 hc) mm_467 mm_468 mm_27 mm_469 (by decide +kernel) rfl (by omega) (by omega) hl.1 rfl (Nat.le_of_ble_eq_true rfl) dX12_oneWord_406 (fun H locs hw => ?_)
  exact mw_oneWord_409 fu C hret x1 r1 x8 x6 x3 x5 x4 F1 G1 hm hw (lv_sub hl [1] rfl)
theorem mw_oneWord_428 (fu : Nat) {res : Int32 × PF × PG} (C : mMC p R s m args c A v RX12 cX12_oneWord 9 3 77) (hret : ∀ (H1 : Heap) (locs1 : List Loc) (ls1 : Array Slot) (pc : Nat), mMW s A v a res.2.1 res.2.2 H1 locs1 → narrow .int (.int res.1) = .int res.1 → decode cX12_oneWord pc = .ok (.ireturn, 1) → W p l e R s m args below meth c H1 locs1 0 0 Q (F0 m pc ls1 [.int res.1])) (z0 : Int32) (F : PF) (G : PG) (hm : mb_oneWord_428 fu z0 F G = some res) {H : Heap} {locs : List Loc} (hw : mMW s A v a F G H locs) {ls : Array Slot} (hl : lv_has ls 9 []) : W p l e R s m args below meth c H locs 0 0 Q (F0 m 428 ls [.int z0]) := by
  have hx := C.1
  have hb := C.2.1
  unfold mb_oneWord_428 at hm
  obtain rfl := Option.some.inj hm
  exact hret _ _ _ _ hw rfl dX12_oneWord_428
theorem mw_oneWord_414 (fu : Nat) {res : Int32 × PF × PG} (C : mMC p R s m args c A v RX12 cX12_oneWord 9 3 77) (hret : ∀ (H1 : Heap) (locs1 : List Loc) (ls1 : Array Slot) (pc : Nat), mMW s A v a res.2.1 res.2.2 H1 locs1 → narrow .int (.int res.1) = .int res.1 → decode cX12_oneWord pc = .ok (.ireturn, 1) → W p l e R s m args below meth c H1 locs1 0 0 Q (F0 m pc ls1 [.int res.1])) (x1 : Int32) (x3 : Int32) (x4 : Int32) (x5 : Int32) (x6 : Int32) (x7 : Int32) (F : PF) (G : PG) (hm : mb_oneWord_414 fu x1 x3 x4 x5 x6 x7 F G = some res) {H : Heap} {locs : List Loc} (hw : mMW s A v a F G H locs) {ls : Array Slot} (hl : lv_has ls 9 [(0, .ref (a 212)), (1, .int x1), (3, .int x3), (4, .int x4), (5, .int x5), (6, .int x6), (7, .int x7)]) : W p l e R s m args below meth c H locs 0 0 Q (F0 m 414 ls []) := by
  have hx := C.1
  have hb := C.2.1
  unfold mb_oneWord_414 at hm
  refine lv_aload_n hx hb dX12_oneWord_414 rfl (lv_at hl 0 rfl) ?_
  refine lv_iload hx hb dX12_oneWord_415 (lv_at hl 3 rfl) ?_
  refine lv_iload hx hb dX12_oneWord_417 (lv_at hl 4 rfl) ?_
  refine lv_iload_n hx hb dX12_oneWord_419 rfl (lv_at hl 2 rfl) ?_
  refine lv_iload hx hb dX12_oneWord_420 (lv_at hl 5 rfl) ?_
  refine lv_iload hx hb dX12_oneWord_422 (lv_at hl 6 rfl) ?_
  refine lv_iload_n hx hb dX12_oneWord_424 rfl (lv_at hl 1 rfl) ?_
  obtain ⟨⟨r1, F1, G1⟩, hc, hm⟩ := bind_elim hm
  refine mcallI (n := 6) (As := [.int x4, .int x5, .int x3, .int x6, .int x7, .int x1]) (rest := []) C hw (mk_both l v a _ fu x4 x5 x3 x6 x7 x1 F G r1 F1 G1 hc) (mrecv_X12 C hw) mm_507 mm_508 mm_509 mm_27 mm_510 (by decide +kernel) rfl (by omega) (by omega) hl.1 rfl (Nat.le_of_ble_eq_true rfl) dX12_oneWord_425 (fun H locs hw => ?_)
  exact mw_oneWord_428 fu C hret r1 F1 G1 hm hw (lv_sub hl [] rfl)
theorem mw_oneWord_445 (fu : Nat) {res : Int32 × PF × PG} (C : mMC p R s m args c A v RX12 cX12_oneWord 9 3 77) (hret : ∀ (H1 : Heap) (locs1 : List Loc) (ls1 : Array Slot) (pc : Nat), mMW s A v a res.2.1 res.2.2 H1 locs1 → narrow .int (.int res.1) = .int res.1 → decode cX12_oneWord pc = .ok (.ireturn, 1) → W p l e R s m args below meth c H1 locs1 0 0 Q (F0 m pc ls1 [.int res.1])) (z0 : Int32) (F : PF) (G : PG) (hm : mb_oneWord_445 fu z0 F G = some res) {H : Heap} {locs : List Loc} (hw : mMW s A v a F G H locs) {ls : Array Slot} (hl : lv_has ls 9 []) : W p l e R s m args below meth c H locs 0 0 Q (F0 m 445 ls [.int z0]) := by
  have hx := C.1
  have hb := C.2.1
  unfold mb_oneWord_445 at hm
  obtain rfl := Option.some.inj hm
  exact hret _ _ _ _ hw rfl dX12_oneWord_445
theorem mw_oneWord_444 (fu : Nat) {res : Int32 × PF × PG} (C : mMC p R s m args c A v RX12 cX12_oneWord 9 3 77) (hret : ∀ (H1 : Heap) (locs1 : List Loc) (ls1 : Array Slot) (pc : Nat), mMW s A v a res.2.1 res.2.2 H1 locs1 → narrow .int (.int res.1) = .int res.1 → decode cX12_oneWord pc = .ok (.ireturn, 1) → W p l e R s m args below meth c H1 locs1 0 0 Q (F0 m pc ls1 [.int res.1])) (F : PF) (G : PG) (hm : mb_oneWord_444 fu F G = some res) {H : Heap} {locs : List Loc} (hw : mMW s A v a F G H locs) {ls : Array Slot} (hl : lv_has ls 9 []) : W p l e R s m args below meth c H locs 0 0 Q (F0 m 444 ls []) := by
  have hx := C.1
  have hb := C.2.1
  unfold mb_oneWord_444 at hm
  refine lv_iconst (v := 2) hx hb dX12_oneWord_444 (by decide) ?_
  exact mw_oneWord_445 fu C hret 2 F G hm hw (lv_sub hl [] rfl)
theorem mw_oneWord_441 (fu : Nat) {res : Int32 × PF × PG} (C : mMC p R s m args c A v RX12 cX12_oneWord 9 3 77) (hret : ∀ (H1 : Heap) (locs1 : List Loc) (ls1 : Array Slot) (pc : Nat), mMW s A v a res.2.1 res.2.2 H1 locs1 → narrow .int (.int res.1) = .int res.1 → decode cX12_oneWord pc = .ok (.ireturn, 1) → W p l e R s m args below meth c H1 locs1 0 0 Q (F0 m pc ls1 [.int res.1])) (z0 : Int32) (F : PF) (G : PG) (hm : mb_oneWord_441 fu z0 F G = some res) {H : Heap} {locs : List Loc} (hw : mMW s A v a F G H locs) {ls : Array Slot} (hl : lv_has ls 9 []) : W p l e R s m args below meth c H locs 0 0 Q (F0 m 441 ls [.int z0]) := by
  have hx := C.1
  have hb := C.2.1
  unfold mb_oneWord_441 at hm
  refine lv_goto (tgt := 445) hx hb dX12_oneWord_441 (by decide) ?_
  exact mw_oneWord_445 fu C hret z0 F G hm hw (lv_sub hl [] rfl)
theorem mw_oneWord_434 (fu : Nat) {res : Int32 × PF × PG} (C : mMC p R s m args c A v RX12 cX12_oneWord 9 3 77) (hret : ∀ (H1 : Heap) (locs1 : List Loc) (ls1 : Array Slot) (pc : Nat), mMW s A v a res.2.1 res.2.2 H1 locs1 → narrow .int (.int res.1) = .int res.1 → decode cX12_oneWord pc = .ok (.ireturn, 1) → W p l e R s m args below meth c H1 locs1 0 0 Q (F0 m pc ls1 [.int res.1])) (x1 : Int32) (F : PF) (G : PG) (hm : mb_oneWord_434 fu x1 F G = some res) {H : Heap} {locs : List Loc} (hw : mMW s A v a F G H locs) {ls : Array Slot} (hl : lv_has ls 9 [(0, .ref (a 212)), (1, .int x1)]) : W p l e R s m args below meth c H locs 0 0 Q (F0 m 434 ls []) := by
  have hx := C.1
  have hb := C.2.1
  unfold mb_oneWord_434 at hm
  refine lv_aload_n hx hb dX12_oneWord_434 rfl (lv_at hl 0 rfl) ?_
  refine lv_iload_n hx hb dX12_oneWord_435 rfl (lv_at hl 1 rfl) ?_
  refine lv_iconst (v := 4) hx hb dX12_oneWord_436 (by decide) ?_
  refine lv_iadd hx hb dX12_oneWord_437 ?_
  obtain ⟨⟨r1, F1, G1⟩, hc, hm⟩ := bind_elim hm
  refine mcallI (n := 1) (As := [.int (x1 + (4 : Int32))]) (rest := []) C hw (mk_goesOn l v a _ fu (x1 + (4 : Int32)) F G r1 F1 G1 hc) (mrecv_X12 C hw) mm_474 mm_475 mm_476 mm_27 mm_477 (by decide +kernel) rfl (by omega) (by omega) hl.1 rfl (Nat.le_of_ble_eq_true rfl) dX12_oneWord_438 (fun H locs hw => ?_)
  exact mw_oneWord_441 fu C hret r1 F1 G1 hm hw (lv_sub hl [] rfl)
theorem mw_oneWord_429 (fu : Nat) {res : Int32 × PF × PG} (C : mMC p R s m args c A v RX12 cX12_oneWord 9 3 77) (hret : ∀ (H1 : Heap) (locs1 : List Loc) (ls1 : Array Slot) (pc : Nat), mMW s A v a res.2.1 res.2.2 H1 locs1 → narrow .int (.int res.1) = .int res.1 → decode cX12_oneWord pc = .ok (.ireturn, 1) → W p l e R s m args below meth c H1 locs1 0 0 Q (F0 m pc ls1 [.int res.1])) (x1 : Int32) (x4 : Int32) (F : PF) (G : PG) (hm : mb_oneWord_429 fu x1 x4 F G = some res) {H : Heap} {locs : List Loc} (hw : mMW s A v a F G H locs) {ls : Array Slot} (hl : lv_has ls 9 [(0, .ref (a 212)), (1, .int x1), (4, .int x4)]) : W p l e R s m args below meth c H locs 0 0 Q (F0 m 429 ls []) := by
  have hx := C.1
  have hb := C.2.1
  unfold mb_oneWord_429 at hm
  refine lv_iload hx hb dX12_oneWord_429 (lv_at hl 2 rfl) ?_
  refine lv_if_ne (tgt := 444) hx hb dX12_oneWord_431 (by decide) (fun c_1 => ?_) (fun c_1 => ?_)
  · have hm := (if_neg c_1).symm.trans hm
    exact mw_oneWord_444 fu C hret F G hm hw (lv_sub hl [] rfl)
  · have hm := (if_pos c_1).symm.trans hm
    exact mw_oneWord_434 fu C hret x1 F G hm hw (lv_sub hl [0, 1] rfl)
theorem mw_oneWord_481 (fu : Nat) {res : Int32 × PF × PG} (C : mMC p R s m args c A v RX12 cX12_oneWord 9 3 77) (hret : ∀ (H1 : Heap) (locs1 : List Loc) (ls1 : Array Slot) (pc : Nat), mMW s A v a res.2.1 res.2.2 H1 locs1 → narrow .int (.int res.1) = .int res.1 → decode cX12_oneWord pc = .ok (.ireturn, 1) → W p l e R s m args below meth c H1 locs1 0 0 Q (F0 m pc ls1 [.int res.1])) (z0 : Int32) (z1 : Int32) (F : PF) (G : PG) (hm : mb_oneWord_481 fu z0 z1 F G = some res) {H : Heap} {locs : List Loc} (hw : mMW s A v a F G H locs) {ls : Array Slot} (hl : lv_has ls 9 []) : W p l e R s m args below meth c H locs 0 0 Q (F0 m 481 ls [.int z0, .int z1]) := by
  have hx := C.1
  have hb := C.2.1
  unfold mb_oneWord_481 at hm
  refine lv_iadd hx hb dX12_oneWord_481 ?_
  obtain rfl := Option.some.inj hm
  exact hret _ _ _ _ hw rfl dX12_oneWord_482
theorem mw_oneWord_479 (fu : Nat) {res : Int32 × PF × PG} (C : mMC p R s m args c A v RX12 cX12_oneWord 9 3 77) (hret : ∀ (H1 : Heap) (locs1 : List Loc) (ls1 : Array Slot) (pc : Nat), mMW s A v a res.2.1 res.2.2 H1 locs1 → narrow .int (.int res.1) = .int res.1 → decode cX12_oneWord pc = .ok (.ireturn, 1) → W p l e R s m args below meth c H1 locs1 0 0 Q (F0 m pc ls1 [.int res.1])) (z0 : Int32) (F : PF) (G : PG) (hm : mb_oneWord_479 fu z0 F G = some res) {H : Heap} {locs : List Loc} (hw : mMW s A v a F G H locs) {ls : Array Slot} (hl : lv_has ls 9 []) : W p l e R s m args below meth c H locs 0 0 Q (F0 m 479 ls [.int z0]) := by
  have hx := C.1
  have hb := C.2.1
  unfold mb_oneWord_479 at hm
  refine lv_bipush (v := 7) hx hb dX12_oneWord_479 (by decide) ?_
  exact mw_oneWord_481 fu C hret 7 z0 F G hm hw (lv_sub hl [] rfl)
theorem mw_oneWord_474 (fu : Nat) {res : Int32 × PF × PG} (C : mMC p R s m args c A v RX12 cX12_oneWord 9 3 77) (hret : ∀ (H1 : Heap) (locs1 : List Loc) (ls1 : Array Slot) (pc : Nat), mMW s A v a res.2.1 res.2.2 H1 locs1 → narrow .int (.int res.1) = .int res.1 → decode cX12_oneWord pc = .ok (.ireturn, 1) → W p l e R s m args below meth c H1 locs1 0 0 Q (F0 m pc ls1 [.int res.1])) (z0 : Int32) (F : PF) (G : PG) (hm : mb_oneWord_474 fu z0 F G = some res) {H : Heap} {locs : List Loc} (hw : mMW s A v a F G H locs) {ls : Array Slot} (hl : lv_has ls 9 []) : W p l e R s m args below meth c H locs 0 0 Q (F0 m 474 ls [.int z0]) := by
  have hx := C.1
  have hb := C.2.1
  unfold mb_oneWord_474 at hm
  refine lv_bipush (v := 6) hx hb dX12_oneWord_474 (by decide) ?_
  refine lv_goto (tgt := 481) hx hb dX12_oneWord_476 (by decide) ?_
  exact mw_oneWord_481 fu C hret 6 z0 F G hm hw (lv_sub hl [] rfl)
theorem mw_oneWord_468 (fu : Nat) {res : Int32 × PF × PG} (C : mMC p R s m args c A v RX12 cX12_oneWord 9 3 77) (hret : ∀ (H1 : Heap) (locs1 : List Loc) (ls1 : Array Slot) (pc : Nat), mMW s A v a res.2.1 res.2.2 H1 locs1 → narrow .int (.int res.1) = .int res.1 → decode cX12_oneWord pc = .ok (.ireturn, 1) → W p l e R s m args below meth c H1 locs1 0 0 Q (F0 m pc ls1 [.int res.1])) (x2 : Int32) (z0 : Int32) (F : PF) (G : PG) (hm : mb_oneWord_468 fu x2 z0 F G = some res) {H : Heap} {locs : List Loc} (hw : mMW s A v a F G H locs) {ls : Array Slot} (hl : lv_has ls 9 [(2, .int x2)]) : W p l e R s m args below meth c H locs 0 0 Q (F0 m 468 ls [.int z0]) := by
  have hx := C.1
  have hb := C.2.1
  unfold mb_oneWord_468 at hm
  refine lv_iload_n hx hb dX12_oneWord_468 rfl (lv_at hl 0 rfl) ?_
  refine lv_bipush (v := 115) hx hb dX12_oneWord_469 (by decide) ?_
  refine lv_icmp_ne (tgt := 479) hx hb dX12_oneWord_471 (by decide) (fun c_1 => ?_) (fun c_1 => ?_)
  · have hm := (if_neg c_1).symm.trans hm
    exact mw_oneWord_479 fu C hret z0 F G hm hw (lv_sub hl [] rfl)
  · have hm := (if_pos c_1).symm.trans hm
    exact mw_oneWord_474 fu C hret z0 F G hm hw (lv_sub hl [] rfl)
theorem mw_oneWord_461 (fu : Nat) {res : Int32 × PF × PG} (C : mMC p R s m args c A v RX12 cX12_oneWord 9 3 77) (hret : ∀ (H1 : Heap) (locs1 : List Loc) (ls1 : Array Slot) (pc : Nat), mMW s A v a res.2.1 res.2.2 H1 locs1 → narrow .int (.int res.1) = .int res.1 → decode cX12_oneWord pc = .ok (.ireturn, 1) → W p l e R s m args below meth c H1 locs1 0 0 Q (F0 m pc ls1 [.int res.1])) (x1 : Int32) (x2 : Int32) (F : PF) (G : PG) (hm : mb_oneWord_461 fu x1 x2 F G = some res) {H : Heap} {locs : List Loc} (hw : mMW s A v a F G H locs) {ls : Array Slot} (hl : lv_has ls 9 [(0, .ref (a 212)), (1, .int x1), (2, .int x2)]) : W p l e R s m args below meth c H locs 0 0 Q (F0 m 461 ls []) := by
  have hx := C.1
  have hb := C.2.1
  unfold mb_oneWord_461 at hm
  refine lv_aload_n hx hb dX12_oneWord_461 rfl (lv_at hl 0 rfl) ?_
  refine lv_iload_n hx hb dX12_oneWord_462 rfl (lv_at hl 1 rfl) ?_
  refine lv_iconst (v := 4) hx hb dX12_oneWord_463 (by decide) ?_
  refine lv_iadd hx hb dX12_oneWord_464 ?_
  obtain ⟨⟨r1, F1, G1⟩, hc, hm⟩ := bind_elim hm
  refine mcallI (n := 1) (As := [.int (x1 + (4 : Int32))]) (rest := []) C hw (mk_goesOn l v a _ fu (x1 + (4 : Int32)) F G r1 F1 G1 hc) (mrecv_X12 C hw) mm_474 mm_475 mm_476 mm_27 mm_477 (by decide +kernel) rfl (by omega) (by omega) hl.1 rfl (Nat.le_of_ble_eq_true rfl) dX12_oneWord_465 (fun H locs hw => ?_)
  exact mw_oneWord_468 fu C hret x2 r1 F1 G1 hm hw (lv_sub hl [2] rfl)
theorem mw_oneWord_459 (fu : Nat) {res : Int32 × PF × PG} (C : mMC p R s m args c A v RX12 cX12_oneWord 9 3 77) (hret : ∀ (H1 : Heap) (locs1 : List Loc) (ls1 : Array Slot) (pc : Nat), mMW s A v a res.2.1 res.2.2 H1 locs1 → narrow .int (.int res.1) = .int res.1 → decode cX12_oneWord pc = .ok (.ireturn, 1) → W p l e R s m args below meth c H1 locs1 0 0 Q (F0 m pc ls1 [.int res.1])) (F : PF) (G : PG) (hm : mb_oneWord_459 fu F G = some res) {H : Heap} {locs : List Loc} (hw : mMW s A v a F G H locs) {ls : Array Slot} (hl : lv_has ls 9 []) : W p l e R s m args below meth c H locs 0 0 Q (F0 m 459 ls []) := by
  have hx := C.1
  have hb := C.2.1
  unfold mb_oneWord_459 at hm
  refine lv_iconst (v := 2) hx hb dX12_oneWord_459 (by decide) ?_
  obtain rfl := Option.some.inj hm
  exact hret _ _ _ _ hw rfl dX12_oneWord_460
theorem mw_oneWord_452 (fu : Nat) {res : Int32 × PF × PG} (C : mMC p R s m args c A v RX12 cX12_oneWord 9 3 77) (hret : ∀ (H1 : Heap) (locs1 : List Loc) (ls1 : Array Slot) (pc : Nat), mMW s A v a res.2.1 res.2.2 H1 locs1 → narrow .int (.int res.1) = .int res.1 → decode cX12_oneWord pc = .ok (.ireturn, 1) → W p l e R s m args below meth c H1 locs1 0 0 Q (F0 m pc ls1 [.int res.1])) (x1 : Int32) (x2 : Int32) (F : PF) (G : PG) (hm : mb_oneWord_452 fu x1 x2 F G = some res) {H : Heap} {locs : List Loc} (hw : mMW s A v a F G H locs) {ls : Array Slot} (hl : lv_has ls 9 [(0, .ref (a 212)), (1, .int x1), (2, .int x2)]) : W p l e R s m args below meth c H locs 0 0 Q (F0 m 452 ls []) := by
  have hx := C.1
  have hb := C.2.1
  unfold mb_oneWord_452 at hm
  refine lv_iload_n hx hb dX12_oneWord_452 rfl (lv_at hl 2 rfl) ?_
  refine lv_ldcw (v := 1048691) hx hb C.2.2.2.1 (C.2.2.2.2.1 _ mm_463) dX12_oneWord_453 ?_
  refine lv_icmp_eq (tgt := 461) hx hb dX12_oneWord_456 (by decide) (fun c_1 => ?_) (fun c_1 => ?_)
  · have hm := (if_pos c_1).symm.trans hm
    exact mw_oneWord_461 fu C hret x1 x2 F G hm hw (lv_sub hl [0, 1, 2] rfl)
  · have hm := (if_neg c_1).symm.trans hm
    exact mw_oneWord_459 fu C hret F G hm hw (lv_sub hl [] rfl)
theorem mw_oneWord_446 (fu : Nat) {res : Int32 × PF × PG} (C : mMC p R s m args c A v RX12 cX12_oneWord 9 3 77) (hret : ∀ (H1 : Heap) (locs1 : List Loc) (ls1 : Array Slot) (pc : Nat), mMW s A v a res.2.1 res.2.2 H1 locs1 → narrow .int (.int res.1) = .int res.1 → decode cX12_oneWord pc = .ok (.ireturn, 1) → W p l e R s m args below meth c H1 locs1 0 0 Q (F0 m pc ls1 [.int res.1])) (x1 : Int32) (x2 : Int32) (F : PF) (G : PG) (hm : mb_oneWord_446 fu x1 x2 F G = some res) {H : Heap} {locs : List Loc} (hw : mMW s A v a F G H locs) {ls : Array Slot} (hl : lv_has ls 9 [(0, .ref (a 212)), (1, .int x1), (2, .int x2)]) : W p l e R s m args below meth c H locs 0 0 Q (F0 m 446 ls []) := by
  have hx := C.1
  have hb := C.2.1
  unfold mb_oneWord_446 at hm
  refine lv_iload_n hx hb dX12_oneWord_446 rfl (lv_at hl 2 rfl) ?_
  refine lv_bipush (v := 115) hx hb dX12_oneWord_447 (by decide) ?_
  refine lv_icmp_eq (tgt := 461) hx hb dX12_oneWord_449 (by decide) (fun c_1 => ?_) (fun c_1 => ?_)
  · have hm := (if_pos c_1).symm.trans hm
    exact mw_oneWord_461 fu C hret x1 x2 F G hm hw (lv_sub hl [0, 1, 2] rfl)
  · have hm := (if_neg c_1).symm.trans hm
    exact mw_oneWord_452 fu C hret x1 x2 F G hm hw (lv_sub hl [0, 1, 2] rfl)
theorem mw_oneWord_100 (fu : Nat) {res : Int32 × PF × PG} (C : mMC p R s m args c A v RX12 cX12_oneWord 9 3 77) (hret : ∀ (H1 : Heap) (locs1 : List Loc) (ls1 : Array Slot) (pc : Nat), mMW s A v a res.2.1 res.2.2 H1 locs1 → narrow .int (.int res.1) = .int res.1 → decode cX12_oneWord pc = .ok (.ireturn, 1) → W p l e R s m args below meth c H1 locs1 0 0 Q (F0 m pc ls1 [.int res.1])) (x1 : Int32) (x2 : Int32) (x3 : Int32) (x4 : Int32) (x5 : Int32) (x6 : Int32) (x7 : Int32) (x8 : Int32) (z0 : Int32) (F : PF) (G : PG) (hm : mb_oneWord_100 fu x1 x2 x3 x4 x5 x6 x7 x8 z0 F G = some res) {H : Heap} {locs : List Loc} (hw : mMW s A v a F G H locs) {ls : Array Slot} (hl : lv_has ls 9 [(0, .ref (a 212)), (1, .int x1), (2, .int x2), (3, .int x3), (4, .int x4), (5, .int x5), (6, .int x6), (7, .int x7), (8, .int x8)]) : W p l e R s m args below meth c H locs 0 0 Q (F0 m 100 ls [.int z0]) := by
  have hx := C.1
  have hb := C.2.1
  unfold mb_oneWord_100 at hm
  by_cases c_1 : z0 = 3
  · have hm := (if_pos c_1).symm.trans hm
    refine my_top 3 c_1 ?_
    refine lv_lookup (off := 257) (tgt := 357) hx hb dX12_oneWord_100 (by decide) (by decide) (by decide) ?_
    exact mw_oneWord_357 fu C hret x1 x3 x4 x6 x8 F G hm hw (lv_sub hl [0, 1, 3, 4, 6, 8] rfl)
  have hm := (if_neg c_1).symm.trans hm
  have n_0 := c_1
  clear c_1
  by_cases c_1 : z0 = 15
  · have hm := (if_pos c_1).symm.trans hm
    refine my_top 15 c_1 ?_
    refine lv_lookup (off := 329) (tgt := 429) hx hb dX12_oneWord_100 (by decide) (by decide) (by decide) ?_
    exact mw_oneWord_429 fu C hret x1 x4 F G hm hw (lv_sub hl [0, 1, 4] rfl)
  have hm := (if_neg c_1).symm.trans hm
  have n_1 := c_1
  clear c_1
  by_cases c_1 : z0 = 19
  · have hm := (if_pos c_1).symm.trans hm
    refine my_top 19 c_1 ?_
    refine lv_lookup (off := 292) (tgt := 392) hx hb dX12_oneWord_100 (by decide) (by decide) (by decide) ?_
    exact mw_oneWord_392 fu C hret x1 x2 x3 x4 x5 x6 x8 F G hm hw (lv_sub hl [0, 1, 2, 3, 4, 5, 6, 8] rfl)
  have hm := (if_neg c_1).symm.trans hm
  have n_2 := c_1
  clear c_1
  by_cases c_1 : z0 = 23
  · have hm := (if_pos c_1).symm.trans hm
    refine my_top 23 c_1 ?_
    refine lv_lookup (off := 110) (tgt := 210) hx hb dX12_oneWord_100 (by decide) (by decide) (by decide) ?_
    exact mw_oneWord_210 fu C hret x1 x2 x3 F G hm hw (lv_sub hl [0, 1, 2, 3] rfl)
  have hm := (if_neg c_1).symm.trans hm
  have n_3 := c_1
  clear c_1
  by_cases c_1 : z0 = 35
  · have hm := (if_pos c_1).symm.trans hm
    refine my_top 35 c_1 ?_
    refine lv_lookup (off := 271) (tgt := 371) hx hb dX12_oneWord_100 (by decide) (by decide) (by decide) ?_
    exact mw_oneWord_371 fu C hret x1 x2 x3 x4 x6 x7 F G hm hw (lv_sub hl [0, 1, 2, 3, 4, 6, 7] rfl)
  have hm := (if_neg c_1).symm.trans hm
  have n_4 := c_1
  clear c_1
  by_cases c_1 : z0 = 51
  · have hm := (if_pos c_1).symm.trans hm
    refine my_top 51 c_1 ?_
    refine lv_lookup (off := 314) (tgt := 414) hx hb dX12_oneWord_100 (by decide) (by decide) (by decide) ?_
    exact mw_oneWord_414 fu C hret x1 x3 x4 x5 x6 x7 F G hm hw (lv_sub hl [0, 1, 3, 4, 5, 6, 7] rfl)
  have hm := (if_neg c_1).symm.trans hm
  have n_5 := c_1
  clear c_1
  by_cases c_1 : z0 = 55
  · have hm := (if_pos c_1).symm.trans hm
    refine my_top 55 c_1 ?_
    refine lv_lookup (off := 92) (tgt := 192) hx hb dX12_oneWord_100 (by decide) (by decide) (by decide) ?_
    exact mw_oneWord_192 fu C hret x1 x2 x3 F G hm hw (lv_sub hl [0, 1, 2, 3] rfl)
  have hm := (if_neg c_1).symm.trans hm
  have n_6 := c_1
  clear c_1
  by_cases c_1 : z0 = 99
  · have hm := (if_pos c_1).symm.trans hm
    refine my_top 99 c_1 ?_
    refine lv_lookup (off := 204) (tgt := 304) hx hb dX12_oneWord_100 (by decide) (by decide) (by decide) ?_
    exact mw_oneWord_304 fu C hret x1 x2 x4 x6 x7 F G hm hw (lv_sub hl [0, 1, 2, 4, 6, 7] rfl)
  have hm := (if_neg c_1).symm.trans hm
  have n_7 := c_1
  clear c_1
  by_cases c_1 : z0 = 103
  · have hm := (if_pos c_1).symm.trans hm
    refine my_top 103 c_1 ?_
    refine lv_lookup (off := 180) (tgt := 280) hx hb dX12_oneWord_100 (by decide) (by decide) (by decide) ?_
    exact mw_oneWord_280 fu C hret x1 x3 x4 x6 x8 F G hm hw (lv_sub hl [0, 1, 3, 4, 6, 8] rfl)
  have hm := (if_neg c_1).symm.trans hm
  have n_8 := c_1
  clear c_1
  by_cases c_1 : z0 = 111
  · have hm := (if_pos c_1).symm.trans hm
    refine my_top 111 c_1 ?_
    refine lv_lookup (off := 130) (tgt := 230) hx hb dX12_oneWord_100 (by decide) (by decide) (by decide) ?_
    exact mw_oneWord_230 fu C hret x1 x2 x3 F G hm hw (lv_sub hl [0, 1, 2, 3] rfl)
  have hm := (if_neg c_1).symm.trans hm
  have n_9 := c_1
  clear c_1
  refine lv_lookup (off := 346) (tgt := 446) hx hb dX12_oneWord_100 (by decide) ((lv_osw n_0 (by decide)).trans ((lv_osw n_1 (by decide)).trans ((lv_osw n_2 (by decide)).trans ((lv_osw n_3 (by decide)).trans ((lv_osw n_4 (by decide)).trans ((lv_osw n_5 (by decide)).trans ((lv_osw n_6 (by decide)).trans ((lv_osw n_7 (by decide)).trans ((lv_osw n_8 (by decide)).trans ((lv_osw n_9 (by decide)).trans (rfl))))))))))) (by decide) ?_
  exact mw_oneWord_446 fu C hret x1 x2 F G hm hw (lv_sub hl [0, 1, 2] rfl)
theorem mw_oneWord_84 (fu : Nat) {res : Int32 × PF × PG} (C : mMC p R s m args c A v RX12 cX12_oneWord 9 3 77) (hret : ∀ (H1 : Heap) (locs1 : List Loc) (ls1 : Array Slot) (pc : Nat), mMW s A v a res.2.1 res.2.2 H1 locs1 → narrow .int (.int res.1) = .int res.1 → decode cX12_oneWord pc = .ok (.ireturn, 1) → W p l e R s m args below meth c H1 locs1 0 0 Q (F0 m pc ls1 [.int res.1])) (x1 : Int32) (x2 : Int32) (x3 : Int32) (x4 : Int32) (x5 : Int32) (x6 : Int32) (z0 : Int32) (F : PF) (G : PG) (hm : mb_oneWord_84 fu x1 x2 x3 x4 x5 x6 z0 F G = some res) {H : Heap} {locs : List Loc} (hw : mMW s A v a F G H locs) {ls : Array Slot} (hl : lv_has ls 9 [(0, .ref (a 212)), (1, .int x1), (2, .int x2), (3, .int x3), (4, .int x4), (5, .int x5), (6, .int x6)]) : W p l e R s m args below meth c H locs 0 0 Q (F0 m 84 ls [.int z0, .ref (a 95)]) := by
  have hx := C.1
  have hb := C.2.1
  unfold mb_oneWord_84 at hm
  obtain ⟨hi, hm⟩ := ix_elim hm
  refine mal_95 C hw hi dX12_oneWord_84 ?_
  refine lv_istore (lv' := [(7, .int (G 95 z0.toNatClampNeg)), (0, .ref (a 212)), (1, .int x1), (2, .int x2), (3, .int x3), (4, .int x4), (5, .int x5), (6, .int x6)]) hx hb dX12_oneWord_85 hl (by decide) rfl (fun ls hl => ?_)
  refine lv_iload_n hx hb dX12_oneWord_87 rfl (lv_at hl 3 rfl) ?_
  refine lv_bipush (v := 20) hx hb dX12_oneWord_88 (by decide) ?_
  refine lv_ishr hx hb dX12_oneWord_90 ?_
  refine lv_istore (lv' := [(8, .int (x2 >>> ((20 : Int32) &&& 31))), (7, .int (G 95 z0.toNatClampNeg)), (0, .ref (a 212)), (1, .int x1), (2, .int x2), (3, .int x3), (4, .int x4), (5, .int x5), (6, .int x6)]) hx hb dX12_oneWord_91 hl (by decide) rfl (fun ls hl => ?_)
  refine lv_iload_n hx hb dX12_oneWord_93 rfl (lv_at hl 4 rfl) ?_
  refine lv_iconst (v := 0) hx hb dX12_oneWord_94 (by decide) ?_
  refine lv_bipush (v := 7) hx hb dX12_oneWord_95 (by decide) ?_
  obtain ⟨⟨r1, F1, G1⟩, hc, hm⟩ := bind_elim hm
  refine mcallIS (n := 3) (As := [.int x2, .int 0, .int 7]) (rest := []) C hw (mk_part l v a _ fu x2 0 7 F G r1 F1 G1 hc) mm_467 mm_468 mm_27 mm_469 (by decide +kernel) rfl (by omega) (by omega) hl.1 rfl (Nat.le_of_ble_eq_true rfl) dX12_oneWord_97 (fun H locs hw => ?_)
  exact mw_oneWord_100 fu C hret x1 x2 x3 x4 x5 x6 (G 95 z0.toNatClampNeg) (x2 >>> ((20 : Int32) &&& 31)) r1 F1 G1 hm hw (lv_sub hl [2, 3, 4, 5, 6, 7, 8, 1, 0] rfl)
theorem mw_oneWord_70 (fu : Nat) {res : Int32 × PF × PG} (C : mMC p R s m args c A v RX12 cX12_oneWord 9 3 77) (hret : ∀ (H1 : Heap) (locs1 : List Loc) (ls1 : Array Slot) (pc : Nat), mMW s A v a res.2.1 res.2.2 H1 locs1 → narrow .int (.int res.1) = .int res.1 → decode cX12_oneWord pc = .ok (.ireturn, 1) → W p l e R s m args below meth c H1 locs1 0 0 Q (F0 m pc ls1 [.int res.1])) (x1 : Int32) (x2 : Int32) (x3 : Int32) (x4 : Int32) (x5 : Int32) (z0 : Int32) (F : PF) (G : PG) (hm : mb_oneWord_70 fu x1 x2 x3 x4 x5 z0 F G = some res) {H : Heap} {locs : List Loc} (hw : mMW s A v a F G H locs) {ls : Array Slot} (hl : lv_has ls 9 [(0, .ref (a 212)), (1, .int x1), (2, .int x2), (3, .int x3), (4, .int x4), (5, .int x5)]) : W p l e R s m args below meth c H locs 0 0 Q (F0 m 70 ls [.int z0, .ref (a 95)]) := by
  have hx := C.1
  have hb := C.2.1
  unfold mb_oneWord_70 at hm
  obtain ⟨hi, hm⟩ := ix_elim hm
  refine mal_95 C hw hi dX12_oneWord_70 ?_
  refine lv_istore (lv' := [(6, .int (G 95 z0.toNatClampNeg)), (0, .ref (a 212)), (1, .int x1), (2, .int x2), (3, .int x3), (4, .int x4), (5, .int x5)]) hx hb dX12_oneWord_71 hl (by decide) rfl (fun ls hl => ?_)
  refine lv_aload_n hx hb dX12_oneWord_73 rfl (lv_at hl 1 rfl) ?_
  refine mg_X12_150 C hw dX12_oneWord_74 ?_
  refine lv_iload_n hx hb dX12_oneWord_77 rfl (lv_at hl 3 rfl) ?_
  refine lv_bipush (v := 20) hx hb dX12_oneWord_78 (by decide) ?_
  refine lv_iconst (v := 5) hx hb dX12_oneWord_80 (by decide) ?_
  obtain ⟨⟨r1, F1, G1⟩, hc, hm⟩ := bind_elim hm
  refine mcallIS (n := 3) (As := [.int x2, .int 20, .int 5]) (rest := [.ref (a 95)]) C hw (mk_part l v a _ fu x2 20 5 F G r1 F1 G1 hc) mm_467 mm_468 mm_27 mm_469 (by decide +kernel) rfl (by omega) (by omega) hl.1 rfl (Nat.le_of_ble_eq_true rfl) dX12_oneWord_81 (fun H locs hw => ?_)
  exact mw_oneWord_84 fu C hret x1 x2 x3 x4 x5 (G 95 z0.toNatClampNeg) r1 F1 G1 hm hw (lv_sub hl [1, 2, 3, 4, 5, 6, 0] rfl)
theorem mw_oneWord_57 (fu : Nat) {res : Int32 × PF × PG} (C : mMC p R s m args c A v RX12 cX12_oneWord 9 3 77) (hret : ∀ (H1 : Heap) (locs1 : List Loc) (ls1 : Array Slot) (pc : Nat), mMW s A v a res.2.1 res.2.2 H1 locs1 → narrow .int (.int res.1) = .int res.1 → decode cX12_oneWord pc = .ok (.ireturn, 1) → W p l e R s m args below meth c H1 locs1 0 0 Q (F0 m pc ls1 [.int res.1])) (x1 : Int32) (x2 : Int32) (x3 : Int32) (x4 : Int32) (z0 : Int32) (F : PF) (G : PG) (hm : mb_oneWord_57 fu x1 x2 x3 x4 z0 F G = some res) {H : Heap} {locs : List Loc} (hw : mMW s A v a F G H locs) {ls : Array Slot} (hl : lv_has ls 9 [(0, .ref (a 212)), (1, .int x1), (2, .int x2), (3, .int x3), (4, .int x4)]) : W p l e R s m args below meth c H locs 0 0 Q (F0 m 57 ls [.int z0]) := by
  have hx := C.1
  have hb := C.2.1
  unfold mb_oneWord_57 at hm
  refine lv_istore (lv' := [(5, .int z0), (0, .ref (a 212)), (1, .int x1), (2, .int x2), (3, .int x3), (4, .int x4)]) hx hb dX12_oneWord_57 hl (by decide) rfl (fun ls hl => ?_)
  refine lv_aload_n hx hb dX12_oneWord_59 rfl (lv_at hl 1 rfl) ?_
  refine mg_X12_150 C hw dX12_oneWord_60 ?_
  refine lv_iload_n hx hb dX12_oneWord_63 rfl (lv_at hl 3 rfl) ?_
  refine lv_bipush (v := 15) hx hb dX12_oneWord_64 (by decide) ?_
  refine lv_iconst (v := 5) hx hb dX12_oneWord_66 (by decide) ?_
  obtain ⟨⟨r1, F1, G1⟩, hc, hm⟩ := bind_elim hm
  refine mcallIS (n := 3) (As := [.int x2, .int 15, .int 5]) (rest := [.ref (a 95)]) C hw (mk_part l v a _ fu x2 15 5 F G r1 F1 G1 hc) mm_467 mm_468 mm_27 mm_469 (by decide +kernel) rfl (by omega) (by omega) hl.1 rfl (Nat.le_of_ble_eq_true rfl) dX12_oneWord_67 (fun H locs hw => ?_)
  exact mw_oneWord_70 fu C hret x1 x2 x3 x4 z0 r1 F1 G1 hm hw (lv_sub hl [1, 2, 3, 4, 5, 0] rfl)
theorem mw_oneWord_47 (fu : Nat) {res : Int32 × PF × PG} (C : mMC p R s m args c A v RX12 cX12_oneWord 9 3 77) (hret : ∀ (H1 : Heap) (locs1 : List Loc) (ls1 : Array Slot) (pc : Nat), mMW s A v a res.2.1 res.2.2 H1 locs1 → narrow .int (.int res.1) = .int res.1 → decode cX12_oneWord pc = .ok (.ireturn, 1) → W p l e R s m args below meth c H1 locs1 0 0 Q (F0 m pc ls1 [.int res.1])) (x1 : Int32) (x2 : Int32) (x3 : Int32) (z0 : Int32) (F : PF) (G : PG) (hm : mb_oneWord_47 fu x1 x2 x3 z0 F G = some res) {H : Heap} {locs : List Loc} (hw : mMW s A v a F G H locs) {ls : Array Slot} (hl : lv_has ls 9 [(0, .ref (a 212)), (1, .int x1), (2, .int x2), (3, .int x3)]) : W p l e R s m args below meth c H locs 0 0 Q (F0 m 47 ls [.int z0]) := by
  have hx := C.1
  have hb := C.2.1
  unfold mb_oneWord_47 at hm
  refine lv_istore (lv' := [(4, .int z0), (0, .ref (a 212)), (1, .int x1), (2, .int x2), (3, .int x3)]) hx hb dX12_oneWord_47 hl (by decide) rfl (fun ls hl => ?_)
  refine lv_iload_n hx hb dX12_oneWord_49 rfl (lv_at hl 3 rfl) ?_
  refine lv_bipush (v := 25) hx hb dX12_oneWord_50 (by decide) ?_
  refine lv_bipush (v := 7) hx hb dX12_oneWord_52 (by decide) ?_
  obtain ⟨⟨r1, F1, G1⟩, hc, hm⟩ := bind_elim hm
  refine mcallIS (n := 3) (As := [.int x2, .int 25, .int 7]) (rest := []) C hw (mk_part l v a _ fu x2 25 7 F G r1 F1 G1 hc) mm_467 mm_468 mm_27 mm_469 (by decide +kernel) rfl (by omega) (by omega) hl.1 rfl (Nat.le_of_ble_eq_true rfl) dX12_oneWord_54 (fun H locs hw => ?_)
  exact mw_oneWord_57 fu C hret x1 x2 x3 z0 r1 F1 G1 hm hw (lv_sub hl [1, 2, 3, 4, 0] rfl)
theorem mw_oneWord_39 (fu : Nat) {res : Int32 × PF × PG} (C : mMC p R s m args c A v RX12 cX12_oneWord 9 3 77) (hret : ∀ (H1 : Heap) (locs1 : List Loc) (ls1 : Array Slot) (pc : Nat), mMW s A v a res.2.1 res.2.2 H1 locs1 → narrow .int (.int res.1) = .int res.1 → decode cX12_oneWord pc = .ok (.ireturn, 1) → W p l e R s m args below meth c H1 locs1 0 0 Q (F0 m pc ls1 [.int res.1])) (x1 : Int32) (x2 : Int32) (z0 : Int32) (F : PF) (G : PG) (hm : mb_oneWord_39 fu x1 x2 z0 F G = some res) {H : Heap} {locs : List Loc} (hw : mMW s A v a F G H locs) {ls : Array Slot} (hl : lv_has ls 9 [(0, .ref (a 212)), (1, .int x1), (2, .int x2)]) : W p l e R s m args below meth c H locs 0 0 Q (F0 m 39 ls [.int z0]) := by
  have hx := C.1
  have hb := C.2.1
  unfold mb_oneWord_39 at hm
  refine lv_istore_n (lv' := [(3, .int z0), (0, .ref (a 212)), (1, .int x1), (2, .int x2)]) hx hb dX12_oneWord_39 rfl hl (by decide) rfl (fun ls hl => ?_)
  refine lv_iload_n hx hb dX12_oneWord_40 rfl (lv_at hl 3 rfl) ?_
  refine lv_bipush (v := 12) hx hb dX12_oneWord_41 (by decide) ?_
  refine lv_iconst (v := 3) hx hb dX12_oneWord_43 (by decide) ?_
  obtain ⟨⟨r1, F1, G1⟩, hc, hm⟩ := bind_elim hm
  refine mcallIS (n := 3) (As := [.int x2, .int 12, .int 3]) (rest := []) C hw (mk_part l v a _ fu x2 12 3 F G r1 F1 G1 hc) mm_467 mm_468 mm_27 mm_469 (by decide +kernel) rfl (by omega) (by omega) hl.1 rfl (Nat.le_of_ble_eq_true rfl) dX12_oneWord_44 (fun H locs hw => ?_)
  exact mw_oneWord_47 fu C hret x1 x2 z0 r1 F1 G1 hm hw (lv_sub hl [1, 2, 3, 0] rfl)
theorem mw_oneWord_23 (fu : Nat) {res : Int32 × PF × PG} (C : mMC p R s m args c A v RX12 cX12_oneWord 9 3 77) (hret : ∀ (H1 : Heap) (locs1 : List Loc) (ls1 : Array Slot) (pc : Nat), mMW s A v a res.2.1 res.2.2 H1 locs1 → narrow .int (.int res.1) = .int res.1 → decode cX12_oneWord pc = .ok (.ireturn, 1) → W p l e R s m args below meth c H1 locs1 0 0 Q (F0 m pc ls1 [.int res.1])) (x1 : Int32) (F : PF) (G : PG) (hm : mb_oneWord_23 fu x1 F G = some res) {H : Heap} {locs : List Loc} (hw : mMW s A v a F G H locs) {ls : Array Slot} (hl : lv_has ls 9 [(0, .ref (a 212)), (1, .int x1)]) : W p l e R s m args below meth c H locs 0 0 Q (F0 m 23 ls []) := by
  have hx := C.1
  have hb := C.2.1
  unfold mb_oneWord_23 at hm
  refine lv_aload_n hx hb dX12_oneWord_23 rfl (lv_at hl 0 rfl) ?_
  refine mg_X12_147 C hw dX12_oneWord_24 ?_
  refine lv_iload_n hx hb dX12_oneWord_27 rfl (lv_at hl 1 rfl) ?_
  refine lv_iconst (v := 2) hx hb dX12_oneWord_28 (by decide) ?_
  refine lv_ishr hx hb dX12_oneWord_29 ?_
  obtain ⟨hi, hm⟩ := ix_elim hm
  refine mal_94 C hw hi dX12_oneWord_30 ?_
  refine lv_istore_n (lv' := [(2, .int (G 94 (x1 >>> ((2 : Int32) &&& 31)).toNatClampNeg)), (0, .ref (a 212)), (1, .int x1)]) hx hb dX12_oneWord_31 rfl hl (by decide) rfl (fun ls hl => ?_)
  refine lv_iload_n hx hb dX12_oneWord_32 rfl (lv_at hl 0 rfl) ?_
  refine lv_bipush (v := 7) hx hb dX12_oneWord_33 (by decide) ?_
  refine lv_iconst (v := 5) hx hb dX12_oneWord_35 (by decide) ?_
  obtain ⟨⟨r1, F1, G1⟩, hc, hm⟩ := bind_elim hm
  refine mcallIS (n := 3) (As := [.int (G 94 (x1 >>> ((2 : Int32) &&& 31)).toNatClampNeg), .int 7, .int 5]) (rest := []) C hw (mk_part l v a _ fu (G 94 (x1 >>> ((2 : Int32) &&& 31)).toNatClampNeg) 7 5 F G r1 F1 G1 hc) mm_467 mm_468 mm_27 mm_469 (by decide +kernel) rfl (by omega) (by omega) hl.1 rfl (Nat.le_of_ble_eq_true rfl) dX12_oneWord_36 (fun H locs hw => ?_)
  exact mw_oneWord_39 fu C hret x1 (G 94 (x1 >>> ((2 : Int32) &&& 31)).toNatClampNeg) r1 F1 G1 hm hw (lv_sub hl [1, 2, 0] rfl)
theorem mw_oneWord_18 (fu : Nat) {res : Int32 × PF × PG} (C : mMC p R s m args c A v RX12 cX12_oneWord 9 3 77) (hret : ∀ (H1 : Heap) (locs1 : List Loc) (ls1 : Array Slot) (pc : Nat), mMW s A v a res.2.1 res.2.2 H1 locs1 → narrow .int (.int res.1) = .int res.1 → decode cX12_oneWord pc = .ok (.ireturn, 1) → W p l e R s m args below meth c H1 locs1 0 0 Q (F0 m pc ls1 [.int res.1])) (x1 : Int32) (z0 : Int32) (F : PF) (G : PG) (hm : mb_oneWord_18 fu x1 z0 F G = some res) {H : Heap} {locs : List Loc} (hw : mMW s A v a F G H locs) {ls : Array Slot} (hl : lv_has ls 9 [(0, .ref (a 212)), (1, .int x1)]) : W p l e R s m args below meth c H locs 0 0 Q (F0 m 18 ls [.int z0]) := by
  have hx := C.1
  have hb := C.2.1
  unfold mb_oneWord_18 at hm
  refine lv_if_eq (tgt := 23) hx hb dX12_oneWord_18 (by decide) (fun c_1 => ?_) (fun c_1 => ?_)
  · have hm := (if_pos c_1).symm.trans hm
    exact mw_oneWord_23 fu C hret x1 F G hm hw (lv_sub hl [0, 1] rfl)
  · have hm := (if_neg c_1).symm.trans hm
    exact mw_oneWord_21 fu C hret F G hm hw (lv_sub hl [] rfl)
theorem mw_oneWord_14 (fu : Nat) {res : Int32 × PF × PG} (C : mMC p R s m args c A v RX12 cX12_oneWord 9 3 77) (hret : ∀ (H1 : Heap) (locs1 : List Loc) (ls1 : Array Slot) (pc : Nat), mMW s A v a res.2.1 res.2.2 H1 locs1 → narrow .int (.int res.1) = .int res.1 → decode cX12_oneWord pc = .ok (.ireturn, 1) → W p l e R s m args below meth c H1 locs1 0 0 Q (F0 m pc ls1 [.int res.1])) (x1 : Int32) (F : PF) (G : PG) (hm : mb_oneWord_14 fu x1 F G = some res) {H : Heap} {locs : List Loc} (hw : mMW s A v a F G H locs) {ls : Array Slot} (hl : lv_has ls 9 [(0, .ref (a 212)), (1, .int x1)]) : W p l e R s m args below meth c H locs 0 0 Q (F0 m 14 ls []) := by
  have hx := C.1
  have hb := C.2.1
  unfold mb_oneWord_14 at hm
  refine lv_iload_n hx hb dX12_oneWord_14 rfl (lv_at hl 1 rfl) ?_
  obtain ⟨⟨r1, F1, G1⟩, hc, hm⟩ := bind_elim hm
  refine mcallIS (n := 1) (As := [.int x1]) (rest := []) C hw (mk_isOut l v a _ fu x1 F G r1 F1 G1 hc) mm_464 mm_465 mm_27 mm_466 (by decide +kernel) rfl (by omega) (by omega) hl.1 rfl (Nat.le_of_ble_eq_true rfl) dX12_oneWord_15 (fun H locs hw => ?_)
  exact mw_oneWord_18 fu C hret x1 r1 F1 G1 hm hw (lv_sub hl [0, 1] rfl)
theorem mw_oneWord_0 (fu : Nat) {res : Int32 × PF × PG} (C : mMC p R s m args c A v RX12 cX12_oneWord 9 3 77) (hret : ∀ (H1 : Heap) (locs1 : List Loc) (ls1 : Array Slot) (pc : Nat), mMW s A v a res.2.1 res.2.2 H1 locs1 → narrow .int (.int res.1) = .int res.1 → decode cX12_oneWord pc = .ok (.ireturn, 1) → W p l e R s m args below meth c H1 locs1 0 0 Q (F0 m pc ls1 [.int res.1])) (F : PF) (G : PG) (hm : mb_oneWord_0 fu F G = some res) {H : Heap} {locs : List Loc} (hw : mMW s A v a F G H locs) {ls : Array Slot} (hl : lv_has ls 9 [(0, .ref (a 212))]) : W p l e R s m args below meth c H locs 0 0 Q (F0 m 0 ls []) := by
  have hx := C.1
  have hb := C.2.1
  unfold mb_oneWord_0 at hm
  refine lv_aload_n hx hb dX12_oneWord_0 rfl (lv_at hl 0 rfl) ?_
  refine mg_X12_150 C hw dX12_oneWord_1 ?_
  refine lv_bipush (v := 32) hx hb dX12_oneWord_4 (by decide) ?_
  obtain ⟨hi, hm⟩ := ix_elim hm
  refine mal_95 C hw hi dX12_oneWord_6 ?_
  refine lv_istore_n (lv' := [(1, .int (G 95 (32 : Int32).toNatClampNeg)), (0, .ref (a 212))]) hx hb dX12_oneWord_7 rfl hl (by decide) rfl (fun ls hl => ?_)
  refine lv_iload_n hx hb dX12_oneWord_8 rfl (lv_at hl 0 rfl) ?_
  refine lv_iconst (v := 3) hx hb dX12_oneWord_9 (by decide) ?_
  refine lv_iand hx hb dX12_oneWord_10 ?_
  refine lv_if_ne (tgt := 21) hx hb dX12_oneWord_11 (by decide) (fun c_1 => ?_) (fun c_1 => ?_)
  · have hm := (if_neg c_1).symm.trans hm
    exact mw_oneWord_21 fu C hret F G hm hw (lv_sub hl [] rfl)
  · have hm := (if_pos c_1).symm.trans hm
    exact mw_oneWord_14 fu C hret (G 95 (32 : Int32).toNatClampNeg) F G hm hw (lv_sub hl [1, 0] rfl)
theorem mk_oneWord (l : Launch) (v : EV) (a : Nat → Nat) (sz : Nat) (fu : Nat) (F : PF) (G : PG) (r : Int32) (F1 : PF) (G1 : PG) (hm : mf_oneWord fu F G = some (r, F1, G1)) : mMI l yX12_oneWord cX12_oneWord 9 (some .int) 3 77 v a sz [.ref (a 212)] F G r F1 G1 := mMI.of (ty := .int) (by decide) rfl (Nat.le_of_ble_eq_true rfl) (fun p e R s m args below meth c Q A H locs ls C hw hl hret => mw_oneWord_0 fu (res := (r, F1, G1)) C hret F G hm hw hl)
def mb_go_12 (fu : Nat) (F : PF) (G : PG) : PR := some ((-1), F, G)
def mb_go_38 (fu : Nat) (x2 : Int32) (F : PF) (G : PG) : PR := some (x2, F, G)
def mb_go_31 (fu : Nat) (ag_18 : Int32 → Int32 → Int32 → PF → PG → PR) (x1 : Int32) (x3 : Int32) (z0 : Int32) (F : PF) (G : PG) : PR := ag_18 x1 z0 (x3 + 1) F G
def mb_go_27 (fu : Nat) (ag_18 : Int32 → Int32 → Int32 → PF → PG → PR) (x1 : Int32) (x3 : Int32) (F : PF) (G : PG) : PR := (mf_oneWord fu F G).bind (fun q => mb_go_31 fu ag_18 x1 x3 q.1 q.2.1 q.2.2)
def mb_go_23 (fu : Nat) (ag_18 : Int32 → Int32 → Int32 → PF → PG → PR) (x1 : Int32) (x2 : Int32) (x3 : Int32) (F : PF) (G : PG) : PR := if x2 = (0 : Int32) then mb_go_27 fu ag_18 x1 x3 F G else mb_go_38 fu x2 F G
def mb_go_18 (fu : Nat) (ag_18 : Int32 → Int32 → Int32 → PF → PG → PR) (x1 : Int32) (x2 : Int32) (x3 : Int32) (F : PF) (G : PG) : PR := if x1 ≤ x3 then mb_go_38 fu x2 F G else mb_go_23 fu ag_18 x1 x2 x3 F G
def ml_go_18 (fu : Nat) : Nat → Int32 → Int32 → Int32 → PF → PG → PR
  | 0 => fun _ _ _ _ _ => none
  | n + 1 => fun x1 x2 x3 F G => mb_go_18 fu (ml_go_18 fu n) x1 x2 x3 F G
def mb_go_14 (fu : Nat) (x1 : Int32) (F : PF) (G : PG) : PR := ml_go_18 fu fu x1 0 0 F G
def mb_go_5 (fu : Nat) (x1 : Int32) (F : PF) (G : PG) : PR := if x1 ≤ (1000 : Int32) then mb_go_14 fu x1 F G else mb_go_12 fu F G
def mb_go_0 (fu : Nat) (x1 : Int32) (F : PF) (G : PG) : PR := if x1 < (1 : Int32) then mb_go_12 fu F G else mb_go_5 fu x1 F G
def mf_go (fu : Nat) (x1 : Int32) (F : PF) (G : PG) : PR := mb_go_0 fu x1 F G
theorem mw_go_12 (fu : Nat) {res : Int32 × PF × PG} (C : mMC p R s m args c A v RX12 cX12_go 4 4 105) (hret : ∀ (H1 : Heap) (locs1 : List Loc) (ls1 : Array Slot) (pc : Nat), mMW s A v a res.2.1 res.2.2 H1 locs1 → narrow .int (.int res.1) = .int res.1 → decode cX12_go pc = .ok (.ireturn, 1) → W p l e R s m args below meth c H1 locs1 0 0 Q (F0 m pc ls1 [.int res.1])) (F : PF) (G : PG) (hm : mb_go_12 fu F G = some res) {H : Heap} {locs : List Loc} (hw : mMW s A v a F G H locs) {ls : Array Slot} (hl : lv_has ls 4 []) : W p l e R s m args below meth c H locs 0 0 Q (F0 m 12 ls []) := by
  have hx := C.1
  have hb := C.2.1
  unfold mb_go_12 at hm
  refine lv_iconst (v := (-1)) hx hb dX12_go_12 (by decide) ?_
  obtain rfl := Option.some.inj hm
  exact hret _ _ _ _ hw rfl dX12_go_13
theorem mw_go_38 (fu : Nat) {res : Int32 × PF × PG} (C : mMC p R s m args c A v RX12 cX12_go 4 4 105) (hret : ∀ (H1 : Heap) (locs1 : List Loc) (ls1 : Array Slot) (pc : Nat), mMW s A v a res.2.1 res.2.2 H1 locs1 → narrow .int (.int res.1) = .int res.1 → decode cX12_go pc = .ok (.ireturn, 1) → W p l e R s m args below meth c H1 locs1 0 0 Q (F0 m pc ls1 [.int res.1])) (x2 : Int32) (F : PF) (G : PG) (hm : mb_go_38 fu x2 F G = some res) {H : Heap} {locs : List Loc} (hw : mMW s A v a F G H locs) {ls : Array Slot} (hl : lv_has ls 4 [(2, .int x2)]) : W p l e R s m args below meth c H locs 0 0 Q (F0 m 38 ls []) := by
  have hx := C.1
  have hb := C.2.1
  unfold mb_go_38 at hm
  refine lv_iload_n hx hb dX12_go_38 rfl (lv_at hl 0 rfl) ?_
  obtain rfl := Option.some.inj hm
  exact hret _ _ _ _ hw rfl dX12_go_39
theorem mw_go_31 (fu : Nat) {res : Int32 × PF × PG} (C : mMC p R s m args c A v RX12 cX12_go 4 4 105) (hret : ∀ (H1 : Heap) (locs1 : List Loc) (ls1 : Array Slot) (pc : Nat), mMW s A v a res.2.1 res.2.2 H1 locs1 → narrow .int (.int res.1) = .int res.1 → decode cX12_go pc = .ok (.ireturn, 1) → W p l e R s m args below meth c H1 locs1 0 0 Q (F0 m pc ls1 [.int res.1])) (ag_18 : Int32 → Int32 → Int32 → PF → PG → PR) (hag_18 : ∀ (x1 : Int32) (x2 : Int32) (x3 : Int32) (F : PF) (G : PG), ag_18 x1 x2 x3 F G = some res → ∀ (H : Heap) (locs : List Loc) (ls : Array Slot), mMW s A v a F G H locs → lv_has ls 4 [(0, .ref (a 212)), (1, .int x1), (2, .int x2), (3, .int x3)] → W p l e R s m args below meth c H locs 0 0 Q (F0 m 18 ls [])) (x1 : Int32) (x3 : Int32) (z0 : Int32) (F : PF) (G : PG) (hm : mb_go_31 fu ag_18 x1 x3 z0 F G = some res) {H : Heap} {locs : List Loc} (hw : mMW s A v a F G H locs) {ls : Array Slot} (hl : lv_has ls 4 [(0, .ref (a 212)), (1, .int x1), (3, .int x3)]) : W p l e R s m args below meth c H locs 0 0 Q (F0 m 31 ls [.int z0]) := by
  have hx := C.1
  have hb := C.2.1
  unfold mb_go_31 at hm
  refine lv_istore_n (lv' := [(2, .int z0), (0, .ref (a 212)), (1, .int x1), (3, .int x3)]) hx hb dX12_go_31 rfl hl (by decide) rfl (fun ls hl => ?_)
  refine lv_iinc (v := (x3 + 1)) (lv' := [(3, .int (x3 + 1)), (2, .int z0), (0, .ref (a 212)), (1, .int x1)]) hx hb dX12_go_32 hl (k := 3) rfl (by rfl) (by decide) rfl (fun ls hl => ?_)
  refine lv_goto (tgt := 18) hx hb dX12_go_35 (by decide) ?_
  exact hag_18 x1 z0 (x3 + 1) F G hm _ _ _ hw (lv_sub hl [2, 3, 1, 0] rfl)
theorem mw_go_27 (fu : Nat) {res : Int32 × PF × PG} (C : mMC p R s m args c A v RX12 cX12_go 4 4 105) (hret : ∀ (H1 : Heap) (locs1 : List Loc) (ls1 : Array Slot) (pc : Nat), mMW s A v a res.2.1 res.2.2 H1 locs1 → narrow .int (.int res.1) = .int res.1 → decode cX12_go pc = .ok (.ireturn, 1) → W p l e R s m args below meth c H1 locs1 0 0 Q (F0 m pc ls1 [.int res.1])) (ag_18 : Int32 → Int32 → Int32 → PF → PG → PR) (hag_18 : ∀ (x1 : Int32) (x2 : Int32) (x3 : Int32) (F : PF) (G : PG), ag_18 x1 x2 x3 F G = some res → ∀ (H : Heap) (locs : List Loc) (ls : Array Slot), mMW s A v a F G H locs → lv_has ls 4 [(0, .ref (a 212)), (1, .int x1), (2, .int x2), (3, .int x3)] → W p l e R s m args below meth c H locs 0 0 Q (F0 m 18 ls [])) (x1 : Int32) (x3 : Int32) (F : PF) (G : PG) (hm : mb_go_27 fu ag_18 x1 x3 F G = some res) {H : Heap} {locs : List Loc} (hw : mMW s A v a F G H locs) {ls : Array Slot} (hl : lv_has ls 4 [(0, .ref (a 212)), (1, .int x1), (3, .int x3)]) : W p l e R s m args below meth c H locs 0 0 Q (F0 m 27 ls []) := by
  have hx := C.1
  have hb := C.2.1
  unfold mb_go_27 at hm
  refine lv_aload_n hx hb dX12_go_27 rfl (lv_at hl 0 rfl) ?_
  obtain ⟨⟨r1, F1, G1⟩, hc, hm⟩ := bind_elim hm
  refine mcallI (n := 0) (As := []) (rest := []) C hw (mk_oneWord l v a _ fu F G r1 F1 G1 hc) (mrecv_X12 C hw) mm_459 mm_460 mm_461 mm_27 mm_462 (by decide +kernel) rfl (by omega) (by omega) hl.1 rfl (Nat.le_of_ble_eq_true rfl) dX12_go_28 (fun H locs hw => ?_)
  exact mw_go_31 fu C hret ag_18 hag_18 x1 x3 r1 F1 G1 hm hw (lv_sub hl [0, 1, 2] rfl)
theorem mw_go_23 (fu : Nat) {res : Int32 × PF × PG} (C : mMC p R s m args c A v RX12 cX12_go 4 4 105) (hret : ∀ (H1 : Heap) (locs1 : List Loc) (ls1 : Array Slot) (pc : Nat), mMW s A v a res.2.1 res.2.2 H1 locs1 → narrow .int (.int res.1) = .int res.1 → decode cX12_go pc = .ok (.ireturn, 1) → W p l e R s m args below meth c H1 locs1 0 0 Q (F0 m pc ls1 [.int res.1])) (ag_18 : Int32 → Int32 → Int32 → PF → PG → PR) (hag_18 : ∀ (x1 : Int32) (x2 : Int32) (x3 : Int32) (F : PF) (G : PG), ag_18 x1 x2 x3 F G = some res → ∀ (H : Heap) (locs : List Loc) (ls : Array Slot), mMW s A v a F G H locs → lv_has ls 4 [(0, .ref (a 212)), (1, .int x1), (2, .int x2), (3, .int x3)] → W p l e R s m args below meth c H locs 0 0 Q (F0 m 18 ls [])) (x1 : Int32) (x2 : Int32) (x3 : Int32) (F : PF) (G : PG) (hm : mb_go_23 fu ag_18 x1 x2 x3 F G = some res) {H : Heap} {locs : List Loc} (hw : mMW s A v a F G H locs) {ls : Array Slot} (hl : lv_has ls 4 [(0, .ref (a 212)), (1, .int x1), (2, .int x2), (3, .int x3)]) : W p l e R s m args below meth c H locs 0 0 Q (F0 m 23 ls []) := by
  have hx := C.1
  have hb := C.2.1
  unfold mb_go_23 at hm
  refine lv_iload_n hx hb dX12_go_23 rfl (lv_at hl 2 rfl) ?_
  refine lv_if_ne (tgt := 38) hx hb dX12_go_24 (by decide) (fun c_1 => ?_) (fun c_1 => ?_)
  · have hm := (if_neg c_1).symm.trans hm
    exact mw_go_38 fu C hret x2 F G hm hw (lv_sub hl [2] rfl)
  · have hm := (if_pos c_1).symm.trans hm
    exact mw_go_27 fu C hret ag_18 hag_18 x1 x3 F G hm hw (lv_sub hl [0, 1, 3] rfl)
theorem mw_go_18 (fu : Nat) {res : Int32 × PF × PG} (C : mMC p R s m args c A v RX12 cX12_go 4 4 105) (hret : ∀ (H1 : Heap) (locs1 : List Loc) (ls1 : Array Slot) (pc : Nat), mMW s A v a res.2.1 res.2.2 H1 locs1 → narrow .int (.int res.1) = .int res.1 → decode cX12_go pc = .ok (.ireturn, 1) → W p l e R s m args below meth c H1 locs1 0 0 Q (F0 m pc ls1 [.int res.1])) (ag_18 : Int32 → Int32 → Int32 → PF → PG → PR) (hag_18 : ∀ (x1 : Int32) (x2 : Int32) (x3 : Int32) (F : PF) (G : PG), ag_18 x1 x2 x3 F G = some res → ∀ (H : Heap) (locs : List Loc) (ls : Array Slot), mMW s A v a F G H locs → lv_has ls 4 [(0, .ref (a 212)), (1, .int x1), (2, .int x2), (3, .int x3)] → W p l e R s m args below meth c H locs 0 0 Q (F0 m 18 ls [])) (x1 : Int32) (x2 : Int32) (x3 : Int32) (F : PF) (G : PG) (hm : mb_go_18 fu ag_18 x1 x2 x3 F G = some res) {H : Heap} {locs : List Loc} (hw : mMW s A v a F G H locs) {ls : Array Slot} (hl : lv_has ls 4 [(0, .ref (a 212)), (1, .int x1), (2, .int x2), (3, .int x3)]) : W p l e R s m args below meth c H locs 0 0 Q (F0 m 18 ls []) := by
  have hx := C.1
  have hb := C.2.1
  unfold mb_go_18 at hm
  refine lv_iload_n hx hb dX12_go_18 rfl (lv_at hl 3 rfl) ?_
  refine lv_iload_n hx hb dX12_go_19 rfl (lv_at hl 1 rfl) ?_
  refine lv_icmp_ge (tgt := 38) hx hb dX12_go_20 (by decide) (fun c_1 => ?_) (fun c_1 => ?_)
  · have hm := (if_pos c_1).symm.trans hm
    exact mw_go_38 fu C hret x2 F G hm hw (lv_sub hl [2] rfl)
  · have hm := (if_neg c_1).symm.trans hm
    exact mw_go_23 fu C hret ag_18 hag_18 x1 x2 x3 F G hm hw (lv_sub hl [0, 1, 2, 3] rfl)
theorem mwl_go_18 (fu : Nat) {res : Int32 × PF × PG} (C : mMC p R s m args c A v RX12 cX12_go 4 4 105) (hret : ∀ (H1 : Heap) (locs1 : List Loc) (ls1 : Array Slot) (pc : Nat), mMW s A v a res.2.1 res.2.2 H1 locs1 → narrow .int (.int res.1) = .int res.1 → decode cX12_go pc = .ok (.ireturn, 1) → W p l e R s m args below meth c H1 locs1 0 0 Q (F0 m pc ls1 [.int res.1])) : ∀ (n : Nat) (x1 : Int32) (x2 : Int32) (x3 : Int32) (F : PF) (G : PG) (hm : ml_go_18 fu n x1 x2 x3 F G = some res) {H : Heap} {locs : List Loc} (hw : mMW s A v a F G H locs) {ls : Array Slot} (hl : lv_has ls 4 [(0, .ref (a 212)), (1, .int x1), (2, .int x2), (3, .int x3)]), W p l e R s m args below meth c H locs 0 0 Q (F0 m 18 ls []) := by
  intro n
  induction n with
  | zero =>
    intro x1 x2 x3 F G hm
    exact no_elim (show (none : PR) = some res from hm)
  | succ n ih =>
    intro x1 x2 x3 F G hm H locs hw ls hl
    exact mw_go_18 fu C hret (ml_go_18 fu n) (fun x1 x2 x3 F G hm H locs ls hw hl => ih x1 x2 x3 F G hm hw hl) x1 x2 x3 F G hm hw hl
theorem mw_go_14 (fu : Nat) {res : Int32 × PF × PG} (C : mMC p R s m args c A v RX12 cX12_go 4 4 105) (hret : ∀ (H1 : Heap) (locs1 : List Loc) (ls1 : Array Slot) (pc : Nat), mMW s A v a res.2.1 res.2.2 H1 locs1 → narrow .int (.int res.1) = .int res.1 → decode cX12_go pc = .ok (.ireturn, 1) → W p l e R s m args below meth c H1 locs1 0 0 Q (F0 m pc ls1 [.int res.1])) (x1 : Int32) (F : PF) (G : PG) (hm : mb_go_14 fu x1 F G = some res) {H : Heap} {locs : List Loc} (hw : mMW s A v a F G H locs) {ls : Array Slot} (hl : lv_has ls 4 [(0, .ref (a 212)), (1, .int x1)]) : W p l e R s m args below meth c H locs 0 0 Q (F0 m 14 ls []) := by
  have hx := C.1
  have hb := C.2.1
  unfold mb_go_14 at hm
  refine lv_iconst (v := 0) hx hb dX12_go_14 (by decide) ?_
  refine lv_istore_n (lv' := [(2, .int 0), (0, .ref (a 212)), (1, .int x1)]) hx hb dX12_go_15 rfl hl (by decide) rfl (fun ls hl => ?_)
  refine lv_iconst (v := 0) hx hb dX12_go_16 (by decide) ?_
  refine lv_istore_n (lv' := [(3, .int 0), (2, .int 0), (0, .ref (a 212)), (1, .int x1)]) hx hb dX12_go_17 rfl hl (by decide) rfl (fun ls hl => ?_)
  exact mwl_go_18 fu C hret fu x1 0 0 F G hm hw (lv_sub hl [2, 3, 1, 0] rfl)
theorem mw_go_5 (fu : Nat) {res : Int32 × PF × PG} (C : mMC p R s m args c A v RX12 cX12_go 4 4 105) (hret : ∀ (H1 : Heap) (locs1 : List Loc) (ls1 : Array Slot) (pc : Nat), mMW s A v a res.2.1 res.2.2 H1 locs1 → narrow .int (.int res.1) = .int res.1 → decode cX12_go pc = .ok (.ireturn, 1) → W p l e R s m args below meth c H1 locs1 0 0 Q (F0 m pc ls1 [.int res.1])) (x1 : Int32) (F : PF) (G : PG) (hm : mb_go_5 fu x1 F G = some res) {H : Heap} {locs : List Loc} (hw : mMW s A v a F G H locs) {ls : Array Slot} (hl : lv_has ls 4 [(0, .ref (a 212)), (1, .int x1)]) : W p l e R s m args below meth c H locs 0 0 Q (F0 m 5 ls []) := by
  have hx := C.1
  have hb := C.2.1
  unfold mb_go_5 at hm
  refine lv_iload_n hx hb dX12_go_5 rfl (lv_at hl 1 rfl) ?_
  refine lv_sipush (v := 1000) hx hb dX12_go_6 (by decide) ?_
  refine lv_icmp_le (tgt := 14) hx hb dX12_go_9 (by decide) (fun c_1 => ?_) (fun c_1 => ?_)
  · have hm := (if_pos c_1).symm.trans hm
    exact mw_go_14 fu C hret x1 F G hm hw (lv_sub hl [0, 1] rfl)
  · have hm := (if_neg c_1).symm.trans hm
    exact mw_go_12 fu C hret F G hm hw (lv_sub hl [] rfl)
theorem mw_go_0 (fu : Nat) {res : Int32 × PF × PG} (C : mMC p R s m args c A v RX12 cX12_go 4 4 105) (hret : ∀ (H1 : Heap) (locs1 : List Loc) (ls1 : Array Slot) (pc : Nat), mMW s A v a res.2.1 res.2.2 H1 locs1 → narrow .int (.int res.1) = .int res.1 → decode cX12_go pc = .ok (.ireturn, 1) → W p l e R s m args below meth c H1 locs1 0 0 Q (F0 m pc ls1 [.int res.1])) (x1 : Int32) (F : PF) (G : PG) (hm : mb_go_0 fu x1 F G = some res) {H : Heap} {locs : List Loc} (hw : mMW s A v a F G H locs) {ls : Array Slot} (hl : lv_has ls 4 [(0, .ref (a 212)), (1, .int x1)]) : W p l e R s m args below meth c H locs 0 0 Q (F0 m 0 ls []) := by
  have hx := C.1
  have hb := C.2.1
  unfold mb_go_0 at hm
  refine lv_iload_n hx hb dX12_go_0 rfl (lv_at hl 1 rfl) ?_
  refine lv_iconst (v := 1) hx hb dX12_go_1 (by decide) ?_
  refine lv_icmp_lt (tgt := 12) hx hb dX12_go_2 (by decide) (fun c_1 => ?_) (fun c_1 => ?_)
  · have hm := (if_pos c_1).symm.trans hm
    exact mw_go_12 fu C hret F G hm hw (lv_sub hl [] rfl)
  · have hm := (if_neg c_1).symm.trans hm
    exact mw_go_5 fu C hret x1 F G hm hw (lv_sub hl [0, 1] rfl)
theorem mk_go (l : Launch) (v : EV) (a : Nat → Nat) (sz : Nat) (fu : Nat) (x1 : Int32) (F : PF) (G : PG) (r : Int32) (F1 : PF) (G1 : PG) (hm : mf_go fu x1 F G = some (r, F1, G1)) : mMI l yX12_go cX12_go 4 (some .int) 4 105 v a sz [.ref (a 212), .int x1] F G r F1 G1 := mMI.of (ty := .int) (by decide) rfl (Nat.le_of_ble_eq_true rfl) (fun p e R s m args below meth c Q A H locs ls C hw hl hret => mw_go_0 fu (res := (r, F1, G1)) C hret x1 F G hm hw hl)
end MB
