section MB
variable {p : Program} {l : Launch} {e : Env} {R : Room} {s : State} {m : MethodId} {args : Array Value} {below : List Frame} {meth : Method} {c : Code} {H : Heap} {locs : List Loc} {Q : State → Prop} {A : Nat → Prop} {v : EV} {a : Nat → Nat} {own : String} {cc : ByteArray} {nL fr lo : Nat}
def mb_constantTold_64 (fu : Nat) (z0 : Int32) (F : PF) (G : PG) : PR := if b01 z0 = true then (some (z0, F, G)) else none
def mb_constantTold_58 (fu : Nat) (F : PF) (G : PG) : PR := (mf_sign fu 29 F G).bind (fun q => mb_constantTold_64 fu q.1 q.2.1 q.2.2)
def mb_constantTold_54 (fu : Nat) (z0 : Int32) (z1 : Int32) (z2 : Int32) (z3 : Int32) (z4 : Int32) (F : PF) (G : PG) : PR := (mf_declare fu z4 z3 z2 z1 z0 0 F G).bind (fun q => mb_constantTold_58 fu q.2.1 q.2.2)
def mb_constantTold_53 (fu : Nat) (z0 : Int32) (z1 : Int32) (z2 : Int32) (z3 : Int32) (F : PF) (G : PG) : PR := mb_constantTold_54 fu 1 z0 z1 z2 z3 F G
def mb_constantTold_49 (fu : Nat) (z0 : Int32) (z1 : Int32) (z2 : Int32) (z3 : Int32) (F : PF) (G : PG) : PR := mb_constantTold_54 fu (-1) z0 z1 z2 z3 F G
def mb_constantTold_40 (fu : Nat) (x1 : Int32) (x2 : Int32) (x3 : Int32) (F : PF) (G : PG) : PR := if x3 = (0 : Int32) then mb_constantTold_53 fu x2 0 0 x1 F G else mb_constantTold_49 fu x2 0 0 x1 F G
def mb_constantTold_30 (fu : Nat) (x1 : Int32) (x2 : Int32) (F : PF) (G : PG) : PR := (mf_twice fu x1 F G).bind (fun q => mb_constantTold_40 fu x1 x2 (F 55) q.2.1 q.2.2)
def mb_constantTold_28 (fu : Nat) (F : PF) (G : PG) : PR := some (0, F, G)
def mb_constantTold_20 (fu : Nat) (x1 : Int32) (z0 : Int32) (F : PF) (G : PG) : PR := if (F 44) ≤ (0 : Int32) then mb_constantTold_30 fu x1 z0 F G else mb_constantTold_28 fu F G
def mb_constantTold_16 (fu : Nat) (x1 : Int32) (F : PF) (G : PG) : PR := (mf_value fu F G).bind (fun q => mb_constantTold_20 fu x1 q.1 q.2.1 q.2.2)
def mb_constantTold_14 (fu : Nat) (F : PF) (G : PG) : PR := some (0, F, G)
def mb_constantTold_11 (fu : Nat) (x1 : Int32) (z0 : Int32) (F : PF) (G : PG) : PR := if z0 = (0 : Int32) then mb_constantTold_14 fu F G else mb_constantTold_16 fu x1 F G
def mb_constantTold_4 (fu : Nat) (z0 : Int32) (F : PF) (G : PG) : PR := (mf_sign fu 32 F G).bind (fun q => mb_constantTold_11 fu z0 q.1 q.2.1 q.2.2)
def mb_constantTold_0 (fu : Nat) (F : PF) (G : PG) : PR := (mf_name fu F G).bind (fun q => mb_constantTold_4 fu q.1 q.2.1 q.2.2)
def mf_constantTold (fu : Nat) (F : PF) (G : PG) : PR := mb_constantTold_0 fu F G
theorem mw_constantTold_64 (fu : Nat) {res : Int32 × PF × PG} (C : mMC p R s m args c A v RX12 cX12_constantTold 4 305 18109) (hret : ∀ (H1 : Heap) (locs1 : List Loc) (ls1 : Array Slot) (pc : Nat), mMW s A v a res.2.1 res.2.2 H1 locs1 → narrow .boolean (.int res.1) = .int res.1 → decode cX12_constantTold pc = .ok (.ireturn, 1) → W p l e R s m args below meth c H1 locs1 0 0 Q (F0 m pc ls1 [.int res.1])) (z0 : Int32) (F : PF) (G : PG) (hm : mb_constantTold_64 fu z0 F G = some res) {H : Heap} {locs : List Loc} (hw : mMW s A v a F G H locs) {ls : Array Slot} (hl : lv_has ls 4 []) : W p l e R s m args below meth c H locs 0 0 Q (F0 m 64 ls [.int z0]) := by
  have hx := C.1
  have hb := C.2.1
  unfold mb_constantTold_64 at hm
  obtain ⟨hz, hm⟩ := b01_elim hm
  obtain rfl := Option.some.inj hm
  exact hret _ _ _ _ hw (b01_nar hz) dX12_constantTold_64
theorem mw_constantTold_58 (fu : Nat) {res : Int32 × PF × PG} (C : mMC p R s m args c A v RX12 cX12_constantTold 4 305 18109) (hret : ∀ (H1 : Heap) (locs1 : List Loc) (ls1 : Array Slot) (pc : Nat), mMW s A v a res.2.1 res.2.2 H1 locs1 → narrow .boolean (.int res.1) = .int res.1 → decode cX12_constantTold pc = .ok (.ireturn, 1) → W p l e R s m args below meth c H1 locs1 0 0 Q (F0 m pc ls1 [.int res.1])) (F : PF) (G : PG) (hm : mb_constantTold_58 fu F G = some res) {H : Heap} {locs : List Loc} (hw : mMW s A v a F G H locs) {ls : Array Slot} (hl : lv_has ls 4 [(0, .ref (a 212))]) : W p l e R s m args below meth c H locs 0 0 Q (F0 m 58 ls []) := by
  have hx := C.1
  have hb := C.2.1
  unfold mb_constantTold_58 at hm
  refine lv_aload_n hx hb dX12_constantTold_58 rfl (lv_at hl 0 rfl) ?_
  refine lv_bipush (v := 29) hx hb dX12_constantTold_59 (by decide) ?_
  obtain ⟨⟨r1, F1, G1⟩, hc, hm⟩ := bind_elim hm
  refine mcallI (n := 1) (As := [.int 29]) (rest := []) C hw (mk_sign l v a _ fu 29 F G r1 F1 G1 hc) (mrecv_X12 C hw) mm_179 mm_180 mm_181 mm_27 mm_182 (by decide +kernel) rfl (by omega) (by omega) hl.1 rfl (Nat.le_of_ble_eq_true rfl) dX12_constantTold_61 (fun H locs hw => ?_)
  exact mw_constantTold_64 fu C hret r1 F1 G1 hm hw (lv_sub hl [] rfl)
theorem mw_constantTold_54 (fu : Nat) {res : Int32 × PF × PG} (C : mMC p R s m args c A v RX12 cX12_constantTold 4 305 18109) (hret : ∀ (H1 : Heap) (locs1 : List Loc) (ls1 : Array Slot) (pc : Nat), mMW s A v a res.2.1 res.2.2 H1 locs1 → narrow .boolean (.int res.1) = .int res.1 → decode cX12_constantTold pc = .ok (.ireturn, 1) → W p l e R s m args below meth c H1 locs1 0 0 Q (F0 m pc ls1 [.int res.1])) (z0 : Int32) (z1 : Int32) (z2 : Int32) (z3 : Int32) (z4 : Int32) (F : PF) (G : PG) (hm : mb_constantTold_54 fu z0 z1 z2 z3 z4 F G = some res) {H : Heap} {locs : List Loc} (hw : mMW s A v a F G H locs) {ls : Array Slot} (hl : lv_has ls 4 [(0, .ref (a 212))]) : W p l e R s m args below meth c H locs 0 0 Q (F0 m 54 ls [.int z0, .int z1, .int z2, .int z3, .int z4, .ref (a 212)]) := by
  have hx := C.1
  have hb := C.2.1
  unfold mb_constantTold_54 at hm
  refine lv_iconst (v := 0) hx hb dX12_constantTold_54 (by decide) ?_
  obtain ⟨⟨r1, F1, G1⟩, hc, hm⟩ := bind_elim hm
  refine mcallV (n := 6) (As := [.int z4, .int z3, .int z2, .int z1, .int z0, .int 0]) (rest := []) C hw (mk_declare l v a _ fu z4 z3 z2 z1 z0 0 F G r1 F1 G1 hc) (mrecv_X12 C hw) mm_314 mm_315 mm_316 mm_27 mm_317 (by decide +kernel) rfl (by omega) (by omega) hl.1 rfl (Nat.le_of_ble_eq_true rfl) dX12_constantTold_55 (fun H locs hw => ?_)
  exact mw_constantTold_58 fu C hret F1 G1 hm hw (lv_sub hl [0] rfl)
theorem mw_constantTold_53 (fu : Nat) {res : Int32 × PF × PG} (C : mMC p R s m args c A v RX12 cX12_constantTold 4 305 18109) (hret : ∀ (H1 : Heap) (locs1 : List Loc) (ls1 : Array Slot) (pc : Nat), mMW s A v a res.2.1 res.2.2 H1 locs1 → narrow .boolean (.int res.1) = .int res.1 → decode cX12_constantTold pc = .ok (.ireturn, 1) → W p l e R s m args below meth c H1 locs1 0 0 Q (F0 m pc ls1 [.int res.1])) (z0 : Int32) (z1 : Int32) (z2 : Int32) (z3 : Int32) (F : PF) (G : PG) (hm : mb_constantTold_53 fu z0 z1 z2 z3 F G = some res) {H : Heap} {locs : List Loc} (hw : mMW s A v a F G H locs) {ls : Array Slot} (hl : lv_has ls 4 [(0, .ref (a 212))]) : W p l e R s m args below meth c H locs 0 0 Q (F0 m 53 ls [.int z0, .int z1, .int z2, .int z3, .ref (a 212)]) := by
  have hx := C.1
  have hb := C.2.1
  unfold mb_constantTold_53 at hm
  refine lv_iconst (v := 1) hx hb dX12_constantTold_53 (by decide) ?_
  exact mw_constantTold_54 fu C hret 1 z0 z1 z2 z3 F G hm hw (lv_sub hl [0] rfl)
theorem mw_constantTold_49 (fu : Nat) {res : Int32 × PF × PG} (C : mMC p R s m args c A v RX12 cX12_constantTold 4 305 18109) (hret : ∀ (H1 : Heap) (locs1 : List Loc) (ls1 : Array Slot) (pc : Nat), mMW s A v a res.2.1 res.2.2 H1 locs1 → narrow .boolean (.int res.1) = .int res.1 → decode cX12_constantTold pc = .ok (.ireturn, 1) → W p l e R s m args below meth c H1 locs1 0 0 Q (F0 m pc ls1 [.int res.1])) (z0 : Int32) (z1 : Int32) (z2 : Int32) (z3 : Int32) (F : PF) (G : PG) (hm : mb_constantTold_49 fu z0 z1 z2 z3 F G = some res) {H : Heap} {locs : List Loc} (hw : mMW s A v a F G H locs) {ls : Array Slot} (hl : lv_has ls 4 [(0, .ref (a 212))]) : W p l e R s m args below meth c H locs 0 0 Q (F0 m 49 ls [.int z0, .int z1, .int z2, .int z3, .ref (a 212)]) := by
  have hx := C.1
  have hb := C.2.1
  unfold mb_constantTold_49 at hm
  refine lv_iconst (v := (-1)) hx hb dX12_constantTold_49 (by decide) ?_
  refine lv_goto (tgt := 54) hx hb dX12_constantTold_50 (by decide) ?_
  exact mw_constantTold_54 fu C hret (-1) z0 z1 z2 z3 F G hm hw (lv_sub hl [0] rfl)
theorem mw_constantTold_40 (fu : Nat) {res : Int32 × PF × PG} (C : mMC p R s m args c A v RX12 cX12_constantTold 4 305 18109) (hret : ∀ (H1 : Heap) (locs1 : List Loc) (ls1 : Array Slot) (pc : Nat), mMW s A v a res.2.1 res.2.2 H1 locs1 → narrow .boolean (.int res.1) = .int res.1 → decode cX12_constantTold pc = .ok (.ireturn, 1) → W p l e R s m args below meth c H1 locs1 0 0 Q (F0 m pc ls1 [.int res.1])) (x1 : Int32) (x2 : Int32) (x3 : Int32) (F : PF) (G : PG) (hm : mb_constantTold_40 fu x1 x2 x3 F G = some res) {H : Heap} {locs : List Loc} (hw : mMW s A v a F G H locs) {ls : Array Slot} (hl : lv_has ls 4 [(0, .ref (a 212)), (1, .int x1), (2, .int x2), (3, .int x3)]) : W p l e R s m args below meth c H locs 0 0 Q (F0 m 40 ls []) := by
  have hx := C.1
  have hb := C.2.1
  unfold mb_constantTold_40 at hm
  refine lv_aload_n hx hb dX12_constantTold_40 rfl (lv_at hl 0 rfl) ?_
  refine lv_iload_n hx hb dX12_constantTold_41 rfl (lv_at hl 1 rfl) ?_
  refine lv_iconst (v := 0) hx hb dX12_constantTold_42 (by decide) ?_
  refine lv_iconst (v := 0) hx hb dX12_constantTold_43 (by decide) ?_
  refine lv_iload_n hx hb dX12_constantTold_44 rfl (lv_at hl 2 rfl) ?_
  refine lv_iload_n hx hb dX12_constantTold_45 rfl (lv_at hl 3 rfl) ?_
  refine lv_if_eq (tgt := 53) hx hb dX12_constantTold_46 (by decide) (fun c_1 => ?_) (fun c_1 => ?_)
  · have hm := (if_pos c_1).symm.trans hm
    exact mw_constantTold_53 fu C hret x2 0 0 x1 F G hm hw (lv_sub hl [0] rfl)
  · have hm := (if_neg c_1).symm.trans hm
    exact mw_constantTold_49 fu C hret x2 0 0 x1 F G hm hw (lv_sub hl [0] rfl)
theorem mw_constantTold_30 (fu : Nat) {res : Int32 × PF × PG} (C : mMC p R s m args c A v RX12 cX12_constantTold 4 305 18109) (hret : ∀ (H1 : Heap) (locs1 : List Loc) (ls1 : Array Slot) (pc : Nat), mMW s A v a res.2.1 res.2.2 H1 locs1 → narrow .boolean (.int res.1) = .int res.1 → decode cX12_constantTold pc = .ok (.ireturn, 1) → W p l e R s m args below meth c H1 locs1 0 0 Q (F0 m pc ls1 [.int res.1])) (x1 : Int32) (x2 : Int32) (F : PF) (G : PG) (hm : mb_constantTold_30 fu x1 x2 F G = some res) {H : Heap} {locs : List Loc} (hw : mMW s A v a F G H locs) {ls : Array Slot} (hl : lv_has ls 4 [(0, .ref (a 212)), (1, .int x1), (2, .int x2)]) : W p l e R s m args below meth c H locs 0 0 Q (F0 m 30 ls []) := by
  have hx := C.1
  have hb := C.2.1
  unfold mb_constantTold_30 at hm
  refine lv_aload_n hx hb dX12_constantTold_30 rfl (lv_at hl 0 rfl) ?_
  refine mg_X12_345 C hw dX12_constantTold_31 ?_
  refine lv_istore_n (lv' := [(3, .int (F 55)), (0, .ref (a 212)), (1, .int x1), (2, .int x2)]) hx hb dX12_constantTold_34 rfl hl (by decide) rfl (fun ls hl => ?_)
  refine lv_aload_n hx hb dX12_constantTold_35 rfl (lv_at hl 1 rfl) ?_
  refine lv_iload_n hx hb dX12_constantTold_36 rfl (lv_at hl 2 rfl) ?_
  obtain ⟨⟨r1, F1, G1⟩, hc, hm⟩ := bind_elim hm
  refine mcallV (n := 1) (As := [.int x1]) (rest := []) C hw (mk_twice l v a _ fu x1 F G r1 F1 G1 hc) (mrecv_X12 C hw) mm_310 mm_311 mm_312 mm_27 mm_313 (by decide +kernel) rfl (by omega) (by omega) hl.1 rfl (Nat.le_of_ble_eq_true rfl) dX12_constantTold_37 (fun H locs hw => ?_)
  exact mw_constantTold_40 fu C hret x1 x2 (F 55) F1 G1 hm hw (lv_sub hl [1, 2, 3, 0] rfl)
theorem mw_constantTold_28 (fu : Nat) {res : Int32 × PF × PG} (C : mMC p R s m args c A v RX12 cX12_constantTold 4 305 18109) (hret : ∀ (H1 : Heap) (locs1 : List Loc) (ls1 : Array Slot) (pc : Nat), mMW s A v a res.2.1 res.2.2 H1 locs1 → narrow .boolean (.int res.1) = .int res.1 → decode cX12_constantTold pc = .ok (.ireturn, 1) → W p l e R s m args below meth c H1 locs1 0 0 Q (F0 m pc ls1 [.int res.1])) (F : PF) (G : PG) (hm : mb_constantTold_28 fu F G = some res) {H : Heap} {locs : List Loc} (hw : mMW s A v a F G H locs) {ls : Array Slot} (hl : lv_has ls 4 []) : W p l e R s m args below meth c H locs 0 0 Q (F0 m 28 ls []) := by
  have hx := C.1
  have hb := C.2.1
  unfold mb_constantTold_28 at hm
  refine lv_iconst (v := 0) hx hb dX12_constantTold_28 (by decide) ?_
  obtain rfl := Option.some.inj hm
  exact hret _ _ _ _ hw (b01_nar (v := 0) (Or.inl rfl)) dX12_constantTold_29
theorem mw_constantTold_20 (fu : Nat) {res : Int32 × PF × PG} (C : mMC p R s m args c A v RX12 cX12_constantTold 4 305 18109) (hret : ∀ (H1 : Heap) (locs1 : List Loc) (ls1 : Array Slot) (pc : Nat), mMW s A v a res.2.1 res.2.2 H1 locs1 → narrow .boolean (.int res.1) = .int res.1 → decode cX12_constantTold pc = .ok (.ireturn, 1) → W p l e R s m args below meth c H1 locs1 0 0 Q (F0 m pc ls1 [.int res.1])) (x1 : Int32) (z0 : Int32) (F : PF) (G : PG) (hm : mb_constantTold_20 fu x1 z0 F G = some res) {H : Heap} {locs : List Loc} (hw : mMW s A v a F G H locs) {ls : Array Slot} (hl : lv_has ls 4 [(0, .ref (a 212)), (1, .int x1)]) : W p l e R s m args below meth c H locs 0 0 Q (F0 m 20 ls [.int z0]) := by
  have hx := C.1
  have hb := C.2.1
  unfold mb_constantTold_20 at hm
  refine lv_istore_n (lv' := [(2, .int z0), (0, .ref (a 212)), (1, .int x1)]) hx hb dX12_constantTold_20 rfl hl (by decide) rfl (fun ls hl => ?_)
  refine lv_aload_n hx hb dX12_constantTold_21 rfl (lv_at hl 1 rfl) ?_
  refine mg_X12_230 C hw dX12_constantTold_22 ?_
  refine lv_if_le (tgt := 30) hx hb dX12_constantTold_25 (by decide) (fun c_1 => ?_) (fun c_1 => ?_)
  · have hm := (if_pos c_1).symm.trans hm
    exact mw_constantTold_30 fu C hret x1 z0 F G hm hw (lv_sub hl [1, 2, 0] rfl)
  · have hm := (if_neg c_1).symm.trans hm
    exact mw_constantTold_28 fu C hret F G hm hw (lv_sub hl [] rfl)
theorem mw_constantTold_16 (fu : Nat) {res : Int32 × PF × PG} (C : mMC p R s m args c A v RX12 cX12_constantTold 4 305 18109) (hret : ∀ (H1 : Heap) (locs1 : List Loc) (ls1 : Array Slot) (pc : Nat), mMW s A v a res.2.1 res.2.2 H1 locs1 → narrow .boolean (.int res.1) = .int res.1 → decode cX12_constantTold pc = .ok (.ireturn, 1) → W p l e R s m args below meth c H1 locs1 0 0 Q (F0 m pc ls1 [.int res.1])) (x1 : Int32) (F : PF) (G : PG) (hm : mb_constantTold_16 fu x1 F G = some res) {H : Heap} {locs : List Loc} (hw : mMW s A v a F G H locs) {ls : Array Slot} (hl : lv_has ls 4 [(0, .ref (a 212)), (1, .int x1)]) : W p l e R s m args below meth c H locs 0 0 Q (F0 m 16 ls []) := by
  have hx := C.1
  have hb := C.2.1
  unfold mb_constantTold_16 at hm
  refine lv_aload_n hx hb dX12_constantTold_16 rfl (lv_at hl 0 rfl) ?_
  obtain ⟨⟨r1, F1, G1⟩, hc, hm⟩ := bind_elim hm
  refine mcallI (n := 0) (As := []) (rest := []) C hw (mk_value l v a _ fu F G r1 F1 G1 hc) (mrecv_X12 C hw) mm_187 mm_188 mm_189 mm_27 mm_190 (by decide +kernel) rfl (by omega) (by omega) hl.1 rfl (Nat.le_of_ble_eq_true rfl) dX12_constantTold_17 (fun H locs hw => ?_)
  exact mw_constantTold_20 fu C hret x1 r1 F1 G1 hm hw (lv_sub hl [0, 1] rfl)
theorem mw_constantTold_14 (fu : Nat) {res : Int32 × PF × PG} (C : mMC p R s m args c A v RX12 cX12_constantTold 4 305 18109) (hret : ∀ (H1 : Heap) (locs1 : List Loc) (ls1 : Array Slot) (pc : Nat), mMW s A v a res.2.1 res.2.2 H1 locs1 → narrow .boolean (.int res.1) = .int res.1 → decode cX12_constantTold pc = .ok (.ireturn, 1) → W p l e R s m args below meth c H1 locs1 0 0 Q (F0 m pc ls1 [.int res.1])) (F : PF) (G : PG) (hm : mb_constantTold_14 fu F G = some res) {H : Heap} {locs : List Loc} (hw : mMW s A v a F G H locs) {ls : Array Slot} (hl : lv_has ls 4 []) : W p l e R s m args below meth c H locs 0 0 Q (F0 m 14 ls []) := by
  have hx := C.1
  have hb := C.2.1
  unfold mb_constantTold_14 at hm
  refine lv_iconst (v := 0) hx hb dX12_constantTold_14 (by decide) ?_
  obtain rfl := Option.some.inj hm
  exact hret _ _ _ _ hw (b01_nar (v := 0) (Or.inl rfl)) dX12_constantTold_15
theorem mw_constantTold_11 (fu : Nat) {res : Int32 × PF × PG} (C : mMC p R s m args c A v RX12 cX12_constantTold 4 305 18109) (hret : ∀ (H1 : Heap) (locs1 : List Loc) (ls1 : Array Slot) (pc : Nat), mMW s A v a res.2.1 res.2.2 H1 locs1 → narrow .boolean (.int res.1) = .int res.1 → decode cX12_constantTold pc = .ok (.ireturn, 1) → W p l e R s m args below meth c H1 locs1 0 0 Q (F0 m pc ls1 [.int res.1])) (x1 : Int32) (z0 : Int32) (F : PF) (G : PG) (hm : mb_constantTold_11 fu x1 z0 F G = some res) {H : Heap} {locs : List Loc} (hw : mMW s A v a F G H locs) {ls : Array Slot} (hl : lv_has ls 4 [(0, .ref (a 212)), (1, .int x1)]) : W p l e R s m args below meth c H locs 0 0 Q (F0 m 11 ls [.int z0]) := by
  have hx := C.1
  have hb := C.2.1
  unfold mb_constantTold_11 at hm
  refine lv_if_ne (tgt := 16) hx hb dX12_constantTold_11 (by decide) (fun c_1 => ?_) (fun c_1 => ?_)
  · have hm := (if_neg c_1).symm.trans hm
    exact mw_constantTold_16 fu C hret x1 F G hm hw (lv_sub hl [0, 1] rfl)
  · have hm := (if_pos c_1).symm.trans hm
    exact mw_constantTold_14 fu C hret F G hm hw (lv_sub hl [] rfl)
theorem mw_constantTold_4 (fu : Nat) {res : Int32 × PF × PG} (C : mMC p R s m args c A v RX12 cX12_constantTold 4 305 18109) (hret : ∀ (H1 : Heap) (locs1 : List Loc) (ls1 : Array Slot) (pc : Nat), mMW s A v a res.2.1 res.2.2 H1 locs1 → narrow .boolean (.int res.1) = .int res.1 → decode cX12_constantTold pc = .ok (.ireturn, 1) → W p l e R s m args below meth c H1 locs1 0 0 Q (F0 m pc ls1 [.int res.1])) (z0 : Int32) (F : PF) (G : PG) (hm : mb_constantTold_4 fu z0 F G = some res) {H : Heap} {locs : List Loc} (hw : mMW s A v a F G H locs) {ls : Array Slot} (hl : lv_has ls 4 [(0, .ref (a 212))]) : W p l e R s m args below meth c H locs 0 0 Q (F0 m 4 ls [.int z0]) := by
  have hx := C.1
  have hb := C.2.1
  unfold mb_constantTold_4 at hm
  refine lv_istore_n (lv' := [(1, .int z0), (0, .ref (a 212))]) hx hb dX12_constantTold_4 rfl hl (by decide) rfl (fun ls hl => ?_)
  refine lv_aload_n hx hb dX12_constantTold_5 rfl (lv_at hl 1 rfl) ?_
  refine lv_bipush (v := 32) hx hb dX12_constantTold_6 (by decide) ?_
  obtain ⟨⟨r1, F1, G1⟩, hc, hm⟩ := bind_elim hm
  refine mcallI (n := 1) (As := [.int 32]) (rest := []) C hw (mk_sign l v a _ fu 32 F G r1 F1 G1 hc) (mrecv_X12 C hw) mm_179 mm_180 mm_181 mm_27 mm_182 (by decide +kernel) rfl (by omega) (by omega) hl.1 rfl (Nat.le_of_ble_eq_true rfl) dX12_constantTold_8 (fun H locs hw => ?_)
  exact mw_constantTold_11 fu C hret z0 r1 F1 G1 hm hw (lv_sub hl [1, 0] rfl)
theorem mw_constantTold_0 (fu : Nat) {res : Int32 × PF × PG} (C : mMC p R s m args c A v RX12 cX12_constantTold 4 305 18109) (hret : ∀ (H1 : Heap) (locs1 : List Loc) (ls1 : Array Slot) (pc : Nat), mMW s A v a res.2.1 res.2.2 H1 locs1 → narrow .boolean (.int res.1) = .int res.1 → decode cX12_constantTold pc = .ok (.ireturn, 1) → W p l e R s m args below meth c H1 locs1 0 0 Q (F0 m pc ls1 [.int res.1])) (F : PF) (G : PG) (hm : mb_constantTold_0 fu F G = some res) {H : Heap} {locs : List Loc} (hw : mMW s A v a F G H locs) {ls : Array Slot} (hl : lv_has ls 4 [(0, .ref (a 212))]) : W p l e R s m args below meth c H locs 0 0 Q (F0 m 0 ls []) := by
  have hx := C.1
  have hb := C.2.1
  unfold mb_constantTold_0 at hm
  refine lv_aload_n hx hb dX12_constantTold_0 rfl (lv_at hl 0 rfl) ?_
  obtain ⟨⟨r1, F1, G1⟩, hc, hm⟩ := bind_elim hm
  refine mcallI (n := 0) (As := []) (rest := []) C hw (mk_name l v a _ fu F G r1 F1 G1 hc) (mrecv_X12 C hw) mm_175 mm_176 mm_177 mm_27 mm_178 (by decide +kernel) rfl (by omega) (by omega) hl.1 rfl (Nat.le_of_ble_eq_true rfl) dX12_constantTold_1 (fun H locs hw => ?_)
  exact mw_constantTold_4 fu C hret r1 F1 G1 hm hw (lv_sub hl [0] rfl)
theorem mk_constantTold (l : Launch) (v : EV) (a : Nat → Nat) (sz : Nat) (fu : Nat) (F : PF) (G : PG) (r : Int32) (F1 : PF) (G1 : PG) (hm : mf_constantTold fu F G = some (r, F1, G1)) : mMI l yX12_constantTold cX12_constantTold 4 (some .boolean) 305 18109 v a sz [.ref (a 212)] F G r F1 G1 := mMI.of (ty := .boolean) (by decide) rfl (Nat.le_of_ble_eq_true rfl) (fun p e R s m args below meth c Q A H locs ls C hw hl hret => mw_constantTold_0 fu (res := (r, F1, G1)) C hret F G hm hw hl)
def mb_globalAt_100 (fu : Nat) (x2 : Int32) (F : PF) (G : PG) : PR := some (x2, F, G)
def mb_globalAt_90 (fu : Nat) (x2 : Int32) (F : PF) (G : PG) : PR := mb_globalAt_100 fu x2 (fup F 37 ((F 37) + (1 : Int32))) G
def mb_globalAt_80 (fu : Nat) (x2 : Int32) (F : PF) (G : PG) : PR := if ixb (F 37) 8008 = true then (mb_globalAt_90 fu x2 F (gup G 41 (F 37).toNatClampNeg (0 : Int32))) else none
def mb_globalAt_73 (fu : Nat) (x2 : Int32) (F : PF) (G : PG) : PR := if (2000 : Int32) ≤ x2 then mb_globalAt_100 fu x2 F G else mb_globalAt_80 fu x2 F G
def mb_globalAt_63 (fu : Nat) (x2 : Int32) (F : PF) (G : PG) : PR := if ixb x2 2001 = true then (mb_globalAt_73 fu x2 F (gup G 39 x2.toNatClampNeg (F 37))) else none
def mb_globalAt_56 (fu : Nat) (x2 : Int32) (F : PF) (G : PG) : PR := if ixb x2 2001 = true then (mb_globalAt_63 fu x2 F (gup G 40 x2.toNatClampNeg (vp_nar .boolean (0 : Int32)))) else none
def mb_globalAt_49 (fu : Nat) (x2 : Int32) (F : PF) (G : PG) : PR := if ixb x2 2001 = true then (mb_globalAt_56 fu x2 F (gup G 38 x2.toNatClampNeg (1 : Int32))) else none
def mb_globalAt_42 (fu : Nat) (x2 : Int32) (F : PF) (G : PG) : PR := if (2000 : Int32) < x2 then mb_globalAt_73 fu x2 F G else mb_globalAt_49 fu x2 F G
def mb_globalAt_30 (fu : Nat) (x1 : Int32) (x2 : Int32) (F : PF) (G : PG) : PR := if ixb x1 4002 = true then ((mf_note fu 11 (G 6 x1.toNatClampNeg) F G).bind (fun q => mb_globalAt_42 fu x2 q.2.1 q.2.2)) else none
def mb_globalAt_20 (fu : Nat) (x1 : Int32) (x2 : Int32) (F : PF) (G : PG) : PR := if (F 36) ≤ (2000 : Int32) then mb_globalAt_42 fu x2 F G else mb_globalAt_30 fu x1 x2 F G
def mb_globalAt_5 (fu : Nat) (x1 : Int32) (F : PF) (G : PG) : PR := mb_globalAt_20 fu x1 (F 36) (fup F 36 ((F 36) + (1 : Int32))) G
def mb_globalAt_0 (fu : Nat) (x1 : Int32) (F : PF) (G : PG) : PR := (mf_twice fu x1 F G).bind (fun q => mb_globalAt_5 fu x1 q.2.1 q.2.2)
def mf_globalAt (fu : Nat) (x1 : Int32) (F : PF) (G : PG) : PR := mb_globalAt_0 fu x1 F G
theorem mw_globalAt_100 (fu : Nat) {res : Int32 × PF × PG} (C : mMC p R s m args c A v RX12 cX12_globalAt 3 3 68) (hret : ∀ (H1 : Heap) (locs1 : List Loc) (ls1 : Array Slot) (pc : Nat), mMW s A v a res.2.1 res.2.2 H1 locs1 → narrow .int (.int res.1) = .int res.1 → decode cX12_globalAt pc = .ok (.ireturn, 1) → W p l e R s m args below meth c H1 locs1 0 0 Q (F0 m pc ls1 [.int res.1])) (x2 : Int32) (F : PF) (G : PG) (hm : mb_globalAt_100 fu x2 F G = some res) {H : Heap} {locs : List Loc} (hw : mMW s A v a F G H locs) {ls : Array Slot} (hl : lv_has ls 3 [(2, .int x2)]) : W p l e R s m args below meth c H locs 0 0 Q (F0 m 100 ls []) := by
  have hx := C.1
  have hb := C.2.1
  unfold mb_globalAt_100 at hm
  refine lv_iload_n hx hb dX12_globalAt_100 rfl (lv_at hl 0 rfl) ?_
  obtain rfl := Option.some.inj hm
  exact hret _ _ _ _ hw rfl dX12_globalAt_101
theorem mw_globalAt_90 (fu : Nat) {res : Int32 × PF × PG} (C : mMC p R s m args c A v RX12 cX12_globalAt 3 3 68) (hret : ∀ (H1 : Heap) (locs1 : List Loc) (ls1 : Array Slot) (pc : Nat), mMW s A v a res.2.1 res.2.2 H1 locs1 → narrow .int (.int res.1) = .int res.1 → decode cX12_globalAt pc = .ok (.ireturn, 1) → W p l e R s m args below meth c H1 locs1 0 0 Q (F0 m pc ls1 [.int res.1])) (x2 : Int32) (F : PF) (G : PG) (hm : mb_globalAt_90 fu x2 F G = some res) {H : Heap} {locs : List Loc} (hw : mMW s A v a F G H locs) {ls : Array Slot} (hl : lv_has ls 3 [(0, .ref (a 212)), (2, .int x2)]) : W p l e R s m args below meth c H locs 0 0 Q (F0 m 90 ls []) := by
  have hx := C.1
  have hb := C.2.1
  unfold mb_globalAt_90 at hm
  refine lv_aload_n hx hb dX12_globalAt_90 rfl (lv_at hl 0 rfl) ?_
  refine lv_dup hx hb dX12_globalAt_91 rfl ?_
  refine mg_X12_291 C hw dX12_globalAt_92 ?_
  refine lv_iconst (v := 1) hx hb dX12_globalAt_95 (by decide) ?_
  refine lv_iadd hx hb dX12_globalAt_96 ?_
  refine mp_X12_291 C hw dX12_globalAt_97 (fun H locs hw => ?_)
  exact mw_globalAt_100 fu C hret x2 (fup F 37 ((F 37) + (1 : Int32))) G hm hw (lv_sub hl [1] rfl)
theorem mw_globalAt_80 (fu : Nat) {res : Int32 × PF × PG} (C : mMC p R s m args c A v RX12 cX12_globalAt 3 3 68) (hret : ∀ (H1 : Heap) (locs1 : List Loc) (ls1 : Array Slot) (pc : Nat), mMW s A v a res.2.1 res.2.2 H1 locs1 → narrow .int (.int res.1) = .int res.1 → decode cX12_globalAt pc = .ok (.ireturn, 1) → W p l e R s m args below meth c H1 locs1 0 0 Q (F0 m pc ls1 [.int res.1])) (x2 : Int32) (F : PF) (G : PG) (hm : mb_globalAt_80 fu x2 F G = some res) {H : Heap} {locs : List Loc} (hw : mMW s A v a F G H locs) {ls : Array Slot} (hl : lv_has ls 3 [(0, .ref (a 212)), (2, .int x2)]) : W p l e R s m args below meth c H locs 0 0 Q (F0 m 80 ls []) := by
  have hx := C.1
  have hb := C.2.1
  unfold mb_globalAt_80 at hm
  refine lv_aload_n hx hb dX12_globalAt_80 rfl (lv_at hl 0 rfl) ?_
  refine mg_X12_101 C hw dX12_globalAt_81 ?_
  refine lv_aload_n hx hb dX12_globalAt_84 rfl (lv_at hl 0 rfl) ?_
  refine mg_X12_291 C hw dX12_globalAt_85 ?_
  refine lv_iconst (v := 0) hx hb dX12_globalAt_88 (by decide) ?_
  obtain ⟨hi, hm⟩ := ix_elim hm
  refine mas_41 C hw hi dX12_globalAt_89 (fun H locs hw => ?_)
  exact mw_globalAt_90 fu C hret x2 F (gup G 41 (F 37).toNatClampNeg (0 : Int32)) hm hw (lv_sub hl [0, 1] rfl)
theorem mw_globalAt_73 (fu : Nat) {res : Int32 × PF × PG} (C : mMC p R s m args c A v RX12 cX12_globalAt 3 3 68) (hret : ∀ (H1 : Heap) (locs1 : List Loc) (ls1 : Array Slot) (pc : Nat), mMW s A v a res.2.1 res.2.2 H1 locs1 → narrow .int (.int res.1) = .int res.1 → decode cX12_globalAt pc = .ok (.ireturn, 1) → W p l e R s m args below meth c H1 locs1 0 0 Q (F0 m pc ls1 [.int res.1])) (x2 : Int32) (F : PF) (G : PG) (hm : mb_globalAt_73 fu x2 F G = some res) {H : Heap} {locs : List Loc} (hw : mMW s A v a F G H locs) {ls : Array Slot} (hl : lv_has ls 3 [(0, .ref (a 212)), (2, .int x2)]) : W p l e R s m args below meth c H locs 0 0 Q (F0 m 73 ls []) := by
  have hx := C.1
  have hb := C.2.1
  unfold mb_globalAt_73 at hm
  refine lv_iload_n hx hb dX12_globalAt_73 rfl (lv_at hl 1 rfl) ?_
  refine lv_sipush (v := 2000) hx hb dX12_globalAt_74 (by decide) ?_
  refine lv_icmp_ge (tgt := 100) hx hb dX12_globalAt_77 (by decide) (fun c_1 => ?_) (fun c_1 => ?_)
  · have hm := (if_pos c_1).symm.trans hm
    exact mw_globalAt_100 fu C hret x2 F G hm hw (lv_sub hl [1] rfl)
  · have hm := (if_neg c_1).symm.trans hm
    exact mw_globalAt_80 fu C hret x2 F G hm hw (lv_sub hl [0, 1] rfl)
theorem mw_globalAt_63 (fu : Nat) {res : Int32 × PF × PG} (C : mMC p R s m args c A v RX12 cX12_globalAt 3 3 68) (hret : ∀ (H1 : Heap) (locs1 : List Loc) (ls1 : Array Slot) (pc : Nat), mMW s A v a res.2.1 res.2.2 H1 locs1 → narrow .int (.int res.1) = .int res.1 → decode cX12_globalAt pc = .ok (.ireturn, 1) → W p l e R s m args below meth c H1 locs1 0 0 Q (F0 m pc ls1 [.int res.1])) (x2 : Int32) (F : PF) (G : PG) (hm : mb_globalAt_63 fu x2 F G = some res) {H : Heap} {locs : List Loc} (hw : mMW s A v a F G H locs) {ls : Array Slot} (hl : lv_has ls 3 [(0, .ref (a 212)), (2, .int x2)]) : W p l e R s m args below meth c H locs 0 0 Q (F0 m 63 ls []) := by
  have hx := C.1
  have hb := C.2.1
  unfold mb_globalAt_63 at hm
  refine lv_aload_n hx hb dX12_globalAt_63 rfl (lv_at hl 0 rfl) ?_
  refine mg_X12_95 C hw dX12_globalAt_64 ?_
  refine lv_iload_n hx hb dX12_globalAt_67 rfl (lv_at hl 1 rfl) ?_
  refine lv_aload_n hx hb dX12_globalAt_68 rfl (lv_at hl 0 rfl) ?_
  refine mg_X12_291 C hw dX12_globalAt_69 ?_
  obtain ⟨hi, hm⟩ := ix_elim hm
  refine mas_39 C hw hi dX12_globalAt_72 (fun H locs hw => ?_)
  exact mw_globalAt_73 fu C hret x2 F (gup G 39 x2.toNatClampNeg (F 37)) hm hw (lv_sub hl [0, 1] rfl)
theorem mw_globalAt_56 (fu : Nat) {res : Int32 × PF × PG} (C : mMC p R s m args c A v RX12 cX12_globalAt 3 3 68) (hret : ∀ (H1 : Heap) (locs1 : List Loc) (ls1 : Array Slot) (pc : Nat), mMW s A v a res.2.1 res.2.2 H1 locs1 → narrow .int (.int res.1) = .int res.1 → decode cX12_globalAt pc = .ok (.ireturn, 1) → W p l e R s m args below meth c H1 locs1 0 0 Q (F0 m pc ls1 [.int res.1])) (x2 : Int32) (F : PF) (G : PG) (hm : mb_globalAt_56 fu x2 F G = some res) {H : Heap} {locs : List Loc} (hw : mMW s A v a F G H locs) {ls : Array Slot} (hl : lv_has ls 3 [(0, .ref (a 212)), (2, .int x2)]) : W p l e R s m args below meth c H locs 0 0 Q (F0 m 56 ls []) := by
  have hx := C.1
  have hb := C.2.1
  unfold mb_globalAt_56 at hm
  refine lv_aload_n hx hb dX12_globalAt_56 rfl (lv_at hl 0 rfl) ?_
  refine mg_X12_98 C hw dX12_globalAt_57 ?_
  refine lv_iload_n hx hb dX12_globalAt_60 rfl (lv_at hl 1 rfl) ?_
  refine lv_iconst (v := 0) hx hb dX12_globalAt_61 (by decide) ?_
  obtain ⟨hi, hm⟩ := ix_elim hm
  refine mas_40 C hw hi dX12_globalAt_62 (fun H locs hw => ?_)
  exact mw_globalAt_63 fu C hret x2 F (gup G 40 x2.toNatClampNeg (vp_nar .boolean (0 : Int32))) hm hw (lv_sub hl [0, 1] rfl)
theorem mw_globalAt_49 (fu : Nat) {res : Int32 × PF × PG} (C : mMC p R s m args c A v RX12 cX12_globalAt 3 3 68) (hret : ∀ (H1 : Heap) (locs1 : List Loc) (ls1 : Array Slot) (pc : Nat), mMW s A v a res.2.1 res.2.2 H1 locs1 → narrow .int (.int res.1) = .int res.1 → decode cX12_globalAt pc = .ok (.ireturn, 1) → W p l e R s m args below meth c H1 locs1 0 0 Q (F0 m pc ls1 [.int res.1])) (x2 : Int32) (F : PF) (G : PG) (hm : mb_globalAt_49 fu x2 F G = some res) {H : Heap} {locs : List Loc} (hw : mMW s A v a F G H locs) {ls : Array Slot} (hl : lv_has ls 3 [(0, .ref (a 212)), (2, .int x2)]) : W p l e R s m args below meth c H locs 0 0 Q (F0 m 49 ls []) := by
  have hx := C.1
  have hb := C.2.1
  unfold mb_globalAt_49 at hm
  refine lv_aload_n hx hb dX12_globalAt_49 rfl (lv_at hl 0 rfl) ?_
  refine mg_X12_92 C hw dX12_globalAt_50 ?_
  refine lv_iload_n hx hb dX12_globalAt_53 rfl (lv_at hl 1 rfl) ?_
  refine lv_iconst (v := 1) hx hb dX12_globalAt_54 (by decide) ?_
  obtain ⟨hi, hm⟩ := ix_elim hm
  refine mas_38 C hw hi dX12_globalAt_55 (fun H locs hw => ?_)
  exact mw_globalAt_56 fu C hret x2 F (gup G 38 x2.toNatClampNeg (1 : Int32)) hm hw (lv_sub hl [0, 1] rfl)
theorem mw_globalAt_42 (fu : Nat) {res : Int32 × PF × PG} (C : mMC p R s m args c A v RX12 cX12_globalAt 3 3 68) (hret : ∀ (H1 : Heap) (locs1 : List Loc) (ls1 : Array Slot) (pc : Nat), mMW s A v a res.2.1 res.2.2 H1 locs1 → narrow .int (.int res.1) = .int res.1 → decode cX12_globalAt pc = .ok (.ireturn, 1) → W p l e R s m args below meth c H1 locs1 0 0 Q (F0 m pc ls1 [.int res.1])) (x2 : Int32) (F : PF) (G : PG) (hm : mb_globalAt_42 fu x2 F G = some res) {H : Heap} {locs : List Loc} (hw : mMW s A v a F G H locs) {ls : Array Slot} (hl : lv_has ls 3 [(0, .ref (a 212)), (2, .int x2)]) : W p l e R s m args below meth c H locs 0 0 Q (F0 m 42 ls []) := by
  have hx := C.1
  have hb := C.2.1
  unfold mb_globalAt_42 at hm
  refine lv_iload_n hx hb dX12_globalAt_42 rfl (lv_at hl 1 rfl) ?_
  refine lv_sipush (v := 2000) hx hb dX12_globalAt_43 (by decide) ?_
  refine lv_icmp_gt (tgt := 73) hx hb dX12_globalAt_46 (by decide) (fun c_1 => ?_) (fun c_1 => ?_)
  · have hm := (if_pos c_1).symm.trans hm
    exact mw_globalAt_73 fu C hret x2 F G hm hw (lv_sub hl [0, 1] rfl)
  · have hm := (if_neg c_1).symm.trans hm
    exact mw_globalAt_49 fu C hret x2 F G hm hw (lv_sub hl [0, 1] rfl)
theorem mw_globalAt_30 (fu : Nat) {res : Int32 × PF × PG} (C : mMC p R s m args c A v RX12 cX12_globalAt 3 3 68) (hret : ∀ (H1 : Heap) (locs1 : List Loc) (ls1 : Array Slot) (pc : Nat), mMW s A v a res.2.1 res.2.2 H1 locs1 → narrow .int (.int res.1) = .int res.1 → decode cX12_globalAt pc = .ok (.ireturn, 1) → W p l e R s m args below meth c H1 locs1 0 0 Q (F0 m pc ls1 [.int res.1])) (x1 : Int32) (x2 : Int32) (F : PF) (G : PG) (hm : mb_globalAt_30 fu x1 x2 F G = some res) {H : Heap} {locs : List Loc} (hw : mMW s A v a F G H locs) {ls : Array Slot} (hl : lv_has ls 3 [(0, .ref (a 212)), (1, .int x1), (2, .int x2)]) : W p l e R s m args below meth c H locs 0 0 Q (F0 m 30 ls []) := by
  have hx := C.1
  have hb := C.2.1
  unfold mb_globalAt_30 at hm
  refine lv_aload_n hx hb dX12_globalAt_30 rfl (lv_at hl 0 rfl) ?_
  refine lv_bipush (v := 11) hx hb dX12_globalAt_31 (by decide) ?_
  refine lv_aload_n hx hb dX12_globalAt_33 rfl (lv_at hl 0 rfl) ?_
  refine mg_X12_22 C hw dX12_globalAt_34 ?_
  refine lv_iload_n hx hb dX12_globalAt_37 rfl (lv_at hl 1 rfl) ?_
  obtain ⟨hi, hm⟩ := ix_elim hm
  refine mal_6 C hw hi dX12_globalAt_38 ?_
  obtain ⟨⟨r1, F1, G1⟩, hc, hm⟩ := bind_elim hm
  refine mcallV (n := 2) (As := [.int 11, .int (G 6 x1.toNatClampNeg)]) (rest := []) C hw (mk_note l v a _ fu 11 (G 6 x1.toNatClampNeg) F G r1 F1 G1 hc) (mrecv_X12 C hw) mm_220 mm_221 mm_222 mm_27 mm_223 (by decide +kernel) rfl (by omega) (by omega) hl.1 rfl (Nat.le_of_ble_eq_true rfl) dX12_globalAt_39 (fun H locs hw => ?_)
  exact mw_globalAt_42 fu C hret x2 F1 G1 hm hw (lv_sub hl [0, 2] rfl)
theorem mw_globalAt_20 (fu : Nat) {res : Int32 × PF × PG} (C : mMC p R s m args c A v RX12 cX12_globalAt 3 3 68) (hret : ∀ (H1 : Heap) (locs1 : List Loc) (ls1 : Array Slot) (pc : Nat), mMW s A v a res.2.1 res.2.2 H1 locs1 → narrow .int (.int res.1) = .int res.1 → decode cX12_globalAt pc = .ok (.ireturn, 1) → W p l e R s m args below meth c H1 locs1 0 0 Q (F0 m pc ls1 [.int res.1])) (x1 : Int32) (x2 : Int32) (F : PF) (G : PG) (hm : mb_globalAt_20 fu x1 x2 F G = some res) {H : Heap} {locs : List Loc} (hw : mMW s A v a F G H locs) {ls : Array Slot} (hl : lv_has ls 3 [(0, .ref (a 212)), (1, .int x1), (2, .int x2)]) : W p l e R s m args below meth c H locs 0 0 Q (F0 m 20 ls []) := by
  have hx := C.1
  have hb := C.2.1
  unfold mb_globalAt_20 at hm
  refine lv_aload_n hx hb dX12_globalAt_20 rfl (lv_at hl 0 rfl) ?_
  refine mg_X12_288 C hw dX12_globalAt_21 ?_
  refine lv_sipush (v := 2000) hx hb dX12_globalAt_24 (by decide) ?_
  refine lv_icmp_le (tgt := 42) hx hb dX12_globalAt_27 (by decide) (fun c_1 => ?_) (fun c_1 => ?_)
  · have hm := (if_pos c_1).symm.trans hm
    exact mw_globalAt_42 fu C hret x2 F G hm hw (lv_sub hl [0, 2] rfl)
  · have hm := (if_neg c_1).symm.trans hm
    exact mw_globalAt_30 fu C hret x1 x2 F G hm hw (lv_sub hl [0, 1, 2] rfl)
theorem mw_globalAt_5 (fu : Nat) {res : Int32 × PF × PG} (C : mMC p R s m args c A v RX12 cX12_globalAt 3 3 68) (hret : ∀ (H1 : Heap) (locs1 : List Loc) (ls1 : Array Slot) (pc : Nat), mMW s A v a res.2.1 res.2.2 H1 locs1 → narrow .int (.int res.1) = .int res.1 → decode cX12_globalAt pc = .ok (.ireturn, 1) → W p l e R s m args below meth c H1 locs1 0 0 Q (F0 m pc ls1 [.int res.1])) (x1 : Int32) (F : PF) (G : PG) (hm : mb_globalAt_5 fu x1 F G = some res) {H : Heap} {locs : List Loc} (hw : mMW s A v a F G H locs) {ls : Array Slot} (hl : lv_has ls 3 [(0, .ref (a 212)), (1, .int x1)]) : W p l e R s m args below meth c H locs 0 0 Q (F0 m 5 ls []) := by
  have hx := C.1
  have hb := C.2.1
  unfold mb_globalAt_5 at hm
  refine lv_aload_n hx hb dX12_globalAt_5 rfl (lv_at hl 0 rfl) ?_
  refine mg_X12_288 C hw dX12_globalAt_6 ?_
  refine lv_istore_n (lv' := [(2, .int (F 36)), (0, .ref (a 212)), (1, .int x1)]) hx hb dX12_globalAt_9 rfl hl (by decide) rfl (fun ls hl => ?_)
  refine lv_aload_n hx hb dX12_globalAt_10 rfl (lv_at hl 1 rfl) ?_
  refine lv_dup hx hb dX12_globalAt_11 rfl ?_
  refine mg_X12_288 C hw dX12_globalAt_12 ?_
  refine lv_iconst (v := 1) hx hb dX12_globalAt_15 (by decide) ?_
  refine lv_iadd hx hb dX12_globalAt_16 ?_
  refine mp_X12_288 C hw dX12_globalAt_17 (fun H locs hw => ?_)
  exact mw_globalAt_20 fu C hret x1 (F 36) (fup F 36 ((F 36) + (1 : Int32))) G hm hw (lv_sub hl [1, 2, 0] rfl)
theorem mw_globalAt_0 (fu : Nat) {res : Int32 × PF × PG} (C : mMC p R s m args c A v RX12 cX12_globalAt 3 3 68) (hret : ∀ (H1 : Heap) (locs1 : List Loc) (ls1 : Array Slot) (pc : Nat), mMW s A v a res.2.1 res.2.2 H1 locs1 → narrow .int (.int res.1) = .int res.1 → decode cX12_globalAt pc = .ok (.ireturn, 1) → W p l e R s m args below meth c H1 locs1 0 0 Q (F0 m pc ls1 [.int res.1])) (x1 : Int32) (F : PF) (G : PG) (hm : mb_globalAt_0 fu x1 F G = some res) {H : Heap} {locs : List Loc} (hw : mMW s A v a F G H locs) {ls : Array Slot} (hl : lv_has ls 3 [(0, .ref (a 212)), (1, .int x1)]) : W p l e R s m args below meth c H locs 0 0 Q (F0 m 0 ls []) := by
  have hx := C.1
  have hb := C.2.1
  unfold mb_globalAt_0 at hm
  refine lv_aload_n hx hb dX12_globalAt_0 rfl (lv_at hl 0 rfl) ?_
  refine lv_iload_n hx hb dX12_globalAt_1 rfl (lv_at hl 1 rfl) ?_
  obtain ⟨⟨r1, F1, G1⟩, hc, hm⟩ := bind_elim hm
  refine mcallV (n := 1) (As := [.int x1]) (rest := []) C hw (mk_twice l v a _ fu x1 F G r1 F1 G1 hc) (mrecv_X12 C hw) mm_310 mm_311 mm_312 mm_27 mm_313 (by decide +kernel) rfl (by omega) (by omega) hl.1 rfl (Nat.le_of_ble_eq_true rfl) dX12_globalAt_2 (fun H locs hw => ?_)
  exact mw_globalAt_5 fu C hret x1 F1 G1 hm hw (lv_sub hl [0, 1] rfl)
theorem mk_globalAt (l : Launch) (v : EV) (a : Nat → Nat) (sz : Nat) (fu : Nat) (x1 : Int32) (F : PF) (G : PG) (r : Int32) (F1 : PF) (G1 : PG) (hm : mf_globalAt fu x1 F G = some (r, F1, G1)) : mMI l yX12_globalAt cX12_globalAt 3 (some .int) 3 68 v a sz [.ref (a 212), .int x1] F G r F1 G1 := mMI.of (ty := .int) (by decide) rfl (Nat.le_of_ble_eq_true rfl) (fun p e R s m args below meth c Q A H locs ls C hw hl hret => mw_globalAt_0 fu (res := (r, F1, G1)) C hret x1 F G hm hw hl)
def mb_globalInt_27 (fu : Nat) (F : PF) (G : PG) : PR := some (1, F, G)
def mb_globalInt_21 (fu : Nat) (z0 : Int32) (z2 : Int32) (z3 : Int32) (z4 : Int32) (F : PF) (G : PG) : PR := if ixb z0 2001 = true then ((mf_declare fu z4 z3 z2 (G 39 z0.toNatClampNeg) 1 0 F G).bind (fun q => mb_globalInt_27 fu q.2.1 q.2.2)) else none
def mb_globalInt_5 (fu : Nat) (x1 : Int32) (z0 : Int32) (F : PF) (G : PG) : PR := mb_globalInt_21 fu (if (2000 : Int32) < z0 then (2000 : Int32) else z0) 0 1 x1 F G
def mb_globalInt_0 (fu : Nat) (x1 : Int32) (F : PF) (G : PG) : PR := (mf_globalAt fu x1 F G).bind (fun q => mb_globalInt_5 fu x1 q.1 q.2.1 q.2.2)
def mf_globalInt (fu : Nat) (x1 : Int32) (F : PF) (G : PG) : PR := mb_globalInt_0 fu x1 F G
theorem mw_globalInt_27 (fu : Nat) {res : Int32 × PF × PG} (C : mMC p R s m args c A v RX12 cX12_globalInt 3 4 90) (hret : ∀ (H1 : Heap) (locs1 : List Loc) (ls1 : Array Slot) (pc : Nat), mMW s A v a res.2.1 res.2.2 H1 locs1 → narrow .boolean (.int res.1) = .int res.1 → decode cX12_globalInt pc = .ok (.ireturn, 1) → W p l e R s m args below meth c H1 locs1 0 0 Q (F0 m pc ls1 [.int res.1])) (F : PF) (G : PG) (hm : mb_globalInt_27 fu F G = some res) {H : Heap} {locs : List Loc} (hw : mMW s A v a F G H locs) {ls : Array Slot} (hl : lv_has ls 3 []) : W p l e R s m args below meth c H locs 0 0 Q (F0 m 27 ls []) := by
  have hx := C.1
  have hb := C.2.1
  unfold mb_globalInt_27 at hm
  refine lv_iconst (v := 1) hx hb dX12_globalInt_27 (by decide) ?_
  obtain rfl := Option.some.inj hm
  exact hret _ _ _ _ hw (b01_nar (v := 1) (Or.inr rfl)) dX12_globalInt_28
theorem mw_globalInt_21 (fu : Nat) {res : Int32 × PF × PG} (C : mMC p R s m args c A v RX12 cX12_globalInt 3 4 90) (hret : ∀ (H1 : Heap) (locs1 : List Loc) (ls1 : Array Slot) (pc : Nat), mMW s A v a res.2.1 res.2.2 H1 locs1 → narrow .boolean (.int res.1) = .int res.1 → decode cX12_globalInt pc = .ok (.ireturn, 1) → W p l e R s m args below meth c H1 locs1 0 0 Q (F0 m pc ls1 [.int res.1])) (z0 : Int32) (z2 : Int32) (z3 : Int32) (z4 : Int32) (F : PF) (G : PG) (hm : mb_globalInt_21 fu z0 z2 z3 z4 F G = some res) {H : Heap} {locs : List Loc} (hw : mMW s A v a F G H locs) {ls : Array Slot} (hl : lv_has ls 3 []) : W p l e R s m args below meth c H locs 0 0 Q (F0 m 21 ls [.int z0, .ref (a 39), .int z2, .int z3, .int z4, .ref (a 212)]) := by
  have hx := C.1
  have hb := C.2.1
  unfold mb_globalInt_21 at hm
  obtain ⟨hi, hm⟩ := ix_elim hm
  refine mal_39 C hw hi dX12_globalInt_21 ?_
  refine lv_iconst (v := 1) hx hb dX12_globalInt_22 (by decide) ?_
  refine lv_iconst (v := 0) hx hb dX12_globalInt_23 (by decide) ?_
  obtain ⟨⟨r1, F1, G1⟩, hc, hm⟩ := bind_elim hm
  refine mcallV (n := 6) (As := [.int z4, .int z3, .int z2, .int (G 39 z0.toNatClampNeg), .int 1, .int 0]) (rest := []) C hw (mk_declare l v a _ fu z4 z3 z2 (G 39 z0.toNatClampNeg) 1 0 F G r1 F1 G1 hc) (mrecv_X12 C hw) mm_314 mm_315 mm_316 mm_27 mm_317 (by decide +kernel) rfl (by omega) (by omega) hl.1 rfl (Nat.le_of_ble_eq_true rfl) dX12_globalInt_24 (fun H locs hw => ?_)
  exact mw_globalInt_27 fu C hret F1 G1 hm hw (lv_sub hl [] rfl)
theorem mw_globalInt_5 (fu : Nat) {res : Int32 × PF × PG} (C : mMC p R s m args c A v RX12 cX12_globalInt 3 4 90) (hret : ∀ (H1 : Heap) (locs1 : List Loc) (ls1 : Array Slot) (pc : Nat), mMW s A v a res.2.1 res.2.2 H1 locs1 → narrow .boolean (.int res.1) = .int res.1 → decode cX12_globalInt pc = .ok (.ireturn, 1) → W p l e R s m args below meth c H1 locs1 0 0 Q (F0 m pc ls1 [.int res.1])) (x1 : Int32) (z0 : Int32) (F : PF) (G : PG) (hm : mb_globalInt_5 fu x1 z0 F G = some res) {H : Heap} {locs : List Loc} (hw : mMW s A v a F G H locs) {ls : Array Slot} (hl : lv_has ls 3 [(0, .ref (a 212)), (1, .int x1)]) : W p l e R s m args below meth c H locs 0 0 Q (F0 m 5 ls [.int z0]) := by
  have hx := C.1
  have hb := C.2.1
  unfold mb_globalInt_5 at hm
  refine lv_istore_n (lv' := [(2, .int z0), (0, .ref (a 212)), (1, .int x1)]) hx hb dX12_globalInt_5 rfl hl (by decide) rfl (fun ls hl => ?_)
  refine lv_aload_n hx hb dX12_globalInt_6 rfl (lv_at hl 1 rfl) ?_
  refine lv_iload_n hx hb dX12_globalInt_7 rfl (lv_at hl 2 rfl) ?_
  refine lv_iconst (v := 1) hx hb dX12_globalInt_8 (by decide) ?_
  refine lv_iconst (v := 0) hx hb dX12_globalInt_9 (by decide) ?_
  refine lv_aload_n hx hb dX12_globalInt_10 rfl (lv_at hl 1 rfl) ?_
  refine mg_X12_95 C hw dX12_globalInt_11 ?_
  refine lv_iload_n hx hb dX12_globalInt_14 rfl (lv_at hl 0 rfl) ?_
  refine lv_sipush (v := 2000) hx hb dX12_globalInt_15 (by decide) ?_
  refine va_mmin hx hb (C.2.2.1.trans hl.1.symm) C.2.2.2.1 (C.2.2.2.2.1 _ mm_154) (C.2.2.2.2.1 _ mm_155) (C.2.2.2.2.1 _ mm_156) (C.2.2.2.2.1 _ mm_157) (Nat.le_trans (by omega) C.2.2.2.2.2.2.2.1) (Nat.le_trans (by simp only [List.map, List.sum_cons, List.sum_nil, Value.category]; omega) C.2.2.2.2.2.2.2.2.1) (Nat.zero_le _) (Nat.zero_le _) dX12_globalInt_18 ?_
  exact mw_globalInt_21 fu C hret (if (2000 : Int32) < z0 then (2000 : Int32) else z0) 0 1 x1 F G hm hw (lv_sub hl [] rfl)
theorem mw_globalInt_0 (fu : Nat) {res : Int32 × PF × PG} (C : mMC p R s m args c A v RX12 cX12_globalInt 3 4 90) (hret : ∀ (H1 : Heap) (locs1 : List Loc) (ls1 : Array Slot) (pc : Nat), mMW s A v a res.2.1 res.2.2 H1 locs1 → narrow .boolean (.int res.1) = .int res.1 → decode cX12_globalInt pc = .ok (.ireturn, 1) → W p l e R s m args below meth c H1 locs1 0 0 Q (F0 m pc ls1 [.int res.1])) (x1 : Int32) (F : PF) (G : PG) (hm : mb_globalInt_0 fu x1 F G = some res) {H : Heap} {locs : List Loc} (hw : mMW s A v a F G H locs) {ls : Array Slot} (hl : lv_has ls 3 [(0, .ref (a 212)), (1, .int x1)]) : W p l e R s m args below meth c H locs 0 0 Q (F0 m 0 ls []) := by
  have hx := C.1
  have hb := C.2.1
  unfold mb_globalInt_0 at hm
  refine lv_aload_n hx hb dX12_globalInt_0 rfl (lv_at hl 0 rfl) ?_
  refine lv_iload_n hx hb dX12_globalInt_1 rfl (lv_at hl 1 rfl) ?_
  obtain ⟨⟨r1, F1, G1⟩, hc, hm⟩ := bind_elim hm
  refine mcallI (n := 1) (As := [.int x1]) (rest := []) C hw (mk_globalAt l v a _ fu x1 F G r1 F1 G1 hc) (mrecv_X12 C hw) mm_408 mm_409 mm_410 mm_27 mm_411 (by decide +kernel) rfl (by omega) (by omega) hl.1 rfl (Nat.le_of_ble_eq_true rfl) dX12_globalInt_2 (fun H locs hw => ?_)
  exact mw_globalInt_5 fu C hret x1 r1 F1 G1 hm hw (lv_sub hl [0, 1] rfl)
theorem mk_globalInt (l : Launch) (v : EV) (a : Nat → Nat) (sz : Nat) (fu : Nat) (x1 : Int32) (F : PF) (G : PG) (r : Int32) (F1 : PF) (G1 : PG) (hm : mf_globalInt fu x1 F G = some (r, F1, G1)) : mMI l yX12_globalInt cX12_globalInt 3 (some .boolean) 4 90 v a sz [.ref (a 212), .int x1] F G r F1 G1 := mMI.of (ty := .boolean) (by decide) rfl (Nat.le_of_ble_eq_true rfl) (fun p e R s m args below meth c Q A H locs ls C hw hl hret => mw_globalInt_0 fu (res := (r, F1, G1)) C hret x1 F G hm hw hl)
def mb_begins_10 (fu : Nat) (F : PF) (G : PG) : PR := some (0, F, G)
def mb_begins_0 (fu : Nat) (F : PF) (G : PG) : PR := mb_begins_10 fu (fup F 15 ((F 15) + (1 : Int32))) G
def mf_begins (fu : Nat) (F : PF) (G : PG) : PR := mb_begins_0 fu F G
theorem mw_begins_10 (fu : Nat) {res : Int32 × PF × PG} (C : mMC p R s m args c A v RX12 cX12_begins 1 0 0) (hret : ∀ (H1 : Heap) (locs1 : List Loc) (ls1 : Array Slot) (pc : Nat), mMW s A v a res.2.1 res.2.2 H1 locs1 → decode cX12_begins pc = .ok (.return_, 1) → W p l e R s m args below meth c H1 locs1 0 0 Q (F0 m pc ls1 [])) (F : PF) (G : PG) (hm : mb_begins_10 fu F G = some res) {H : Heap} {locs : List Loc} (hw : mMW s A v a F G H locs) {ls : Array Slot} (hl : lv_has ls 1 []) : W p l e R s m args below meth c H locs 0 0 Q (F0 m 10 ls []) := by
  have hx := C.1
  have hb := C.2.1
  unfold mb_begins_10 at hm
  obtain rfl := Option.some.inj hm
  exact hret _ _ _ _ hw dX12_begins_10
theorem mw_begins_0 (fu : Nat) {res : Int32 × PF × PG} (C : mMC p R s m args c A v RX12 cX12_begins 1 0 0) (hret : ∀ (H1 : Heap) (locs1 : List Loc) (ls1 : Array Slot) (pc : Nat), mMW s A v a res.2.1 res.2.2 H1 locs1 → decode cX12_begins pc = .ok (.return_, 1) → W p l e R s m args below meth c H1 locs1 0 0 Q (F0 m pc ls1 [])) (F : PF) (G : PG) (hm : mb_begins_0 fu F G = some res) {H : Heap} {locs : List Loc} (hw : mMW s A v a F G H locs) {ls : Array Slot} (hl : lv_has ls 1 [(0, .ref (a 212))]) : W p l e R s m args below meth c H locs 0 0 Q (F0 m 0 ls []) := by
  have hx := C.1
  have hb := C.2.1
  unfold mb_begins_0 at hm
  refine lv_aload_n hx hb dX12_begins_0 rfl (lv_at hl 0 rfl) ?_
  refine lv_dup hx hb dX12_begins_1 rfl ?_
  refine mg_X12_282 C hw dX12_begins_2 ?_
  refine lv_iconst (v := 1) hx hb dX12_begins_5 (by decide) ?_
  refine lv_iadd hx hb dX12_begins_6 ?_
  refine mp_X12_282 C hw dX12_begins_7 (fun H locs hw => ?_)
  exact mw_begins_10 fu C hret (fup F 15 ((F 15) + (1 : Int32))) G hm hw (lv_sub hl [] rfl)
theorem mk_begins (l : Launch) (v : EV) (a : Nat → Nat) (sz : Nat) (fu : Nat) (F : PF) (G : PG) (r : Int32) (F1 : PF) (G1 : PG) (hm : mf_begins fu F G = some (r, F1, G1)) : mMV l yX12_begins cX12_begins 1 0 0 v a sz [.ref (a 212)] F G F1 G1 := mMV.of (by decide) (Nat.le_of_ble_eq_true rfl) (fun p e R s m args below meth c Q A H locs ls C hw hl hret => mw_begins_0 fu (res := (r, F1, G1)) C hret F G hm hw hl)
def mb_formalHere_185 (fu : Nat) (z0 : Int32) (F : PF) (G : PG) : PR := some (z0, F, G)
def mb_formalHere_184 (fu : Nat) (F : PF) (G : PG) : PR := mb_formalHere_185 fu 1 F G
def mb_formalHere_180 (fu : Nat) (F : PF) (G : PG) : PR := mb_formalHere_185 fu 2 F G
def mb_formalHere_176 (fu : Nat) (x2 : Int32) (F : PF) (G : PG) : PR := if x2 = (0 : Int32) then mb_formalHere_184 fu F G else mb_formalHere_180 fu F G
def mb_formalHere_172 (fu : Nat) (F : PF) (G : PG) : PR := mb_formalHere_185 fu 0 F G
def mb_formalHere_167 (fu : Nat) (x2 : Int32) (x4 : Int32) (F : PF) (G : PG) : PR := if x4 = (0 : Int32) then mb_formalHere_172 fu F G else mb_formalHere_176 fu x2 F G
def mb_formalHere_163 (fu : Nat) (x2 : Int32) (x4 : Int32) (z0 : Int32) (z1 : Int32) (F : PF) (G : PG) : PR := mb_formalHere_167 fu x2 x4 (fup F 53 (z1 + z0)) G
def mb_formalHere_162 (fu : Nat) (x2 : Int32) (x4 : Int32) (z0 : Int32) (F : PF) (G : PG) : PR := mb_formalHere_163 fu x2 x4 1 z0 F G
def mb_formalHere_158 (fu : Nat) (x2 : Int32) (x4 : Int32) (z0 : Int32) (F : PF) (G : PG) : PR := mb_formalHere_163 fu x2 x4 2 z0 F G
def mb_formalHere_148 (fu : Nat) (x2 : Int32) (x4 : Int32) (F : PF) (G : PG) : PR := if x4 = (0 : Int32) then mb_formalHere_162 fu x2 x4 (F 53) F G else mb_formalHere_158 fu x2 x4 (F 53) F G
def mb_formalHere_144 (fu : Nat) (x2 : Int32) (x4 : Int32) (z0 : Int32) (z1 : Int32) (z2 : Int32) (z3 : Int32) (z4 : Int32) (F : PF) (G : PG) : PR := (mf_declare fu z4 z3 z2 z1 z0 1 F G).bind (fun q => mb_formalHere_148 fu x2 x4 q.2.1 q.2.2)
def mb_formalHere_143 (fu : Nat) (x2 : Int32) (x4 : Int32) (z0 : Int32) (z1 : Int32) (z2 : Int32) (z3 : Int32) (F : PF) (G : PG) : PR := mb_formalHere_144 fu x2 x4 1 z0 z1 z2 z3 F G
def mb_formalHere_139 (fu : Nat) (x2 : Int32) (x4 : Int32) (z0 : Int32) (z1 : Int32) (z2 : Int32) (z3 : Int32) (F : PF) (G : PG) : PR := mb_formalHere_144 fu x2 x4 (-1) z0 z1 z2 z3 F G
def mb_formalHere_129 (fu : Nat) (x2 : Int32) (x4 : Int32) (z0 : Int32) (z1 : Int32) (F : PF) (G : PG) : PR := if x4 = (0 : Int32) then mb_formalHere_143 fu x2 x4 (F 53) x2 z0 z1 F G else mb_formalHere_139 fu x2 x4 (F 53) x2 z0 z1 F G
def mb_formalHere_128 (fu : Nat) (x2 : Int32) (x4 : Int32) (z0 : Int32) (F : PF) (G : PG) : PR := mb_formalHere_129 fu x2 x4 1 z0 F G
def mb_formalHere_124 (fu : Nat) (x2 : Int32) (x4 : Int32) (z0 : Int32) (F : PF) (G : PG) : PR := mb_formalHere_129 fu x2 x4 2 z0 F G
def mb_formalHere_117 (fu : Nat) (x2 : Int32) (x3 : Int32) (x4 : Int32) (F : PF) (G : PG) : PR := if x4 = (0 : Int32) then mb_formalHere_128 fu x2 x4 x3 F G else mb_formalHere_124 fu x2 x4 x3 F G
def mb_formalHere_115 (fu : Nat) (F : PF) (G : PG) : PR := some (0, F, G)
def mb_formalHere_112 (fu : Nat) (x2 : Int32) (x3 : Int32) (x4 : Int32) (z0 : Int32) (F : PF) (G : PG) : PR := if z0 = (0 : Int32) then mb_formalHere_115 fu F G else mb_formalHere_117 fu x2 x3 x4 F G
def mb_formalHere_106 (fu : Nat) (x2 : Int32) (x3 : Int32) (x4 : Int32) (F : PF) (G : PG) : PR := (mf_closeSign fu 25 F G).bind (fun q => mb_formalHere_112 fu x2 x3 x4 q.1 q.2.1 q.2.2)
def mb_formalHere_103 (fu : Nat) (x2 : Int32) (x3 : Int32) (x4 : Int32) (z0 : Int32) (F : PF) (G : PG) : PR := if z0 = (0 : Int32) then mb_formalHere_115 fu F G else mb_formalHere_106 fu x2 x3 x4 F G
def mb_formalHere_97 (fu : Nat) (x2 : Int32) (x3 : Int32) (x4 : Int32) (F : PF) (G : PG) : PR := (mf_openSign fu 24 F G).bind (fun q => mb_formalHere_103 fu x2 x3 x4 q.1 q.2.1 q.2.2)
def mb_formalHere_90 (fu : Nat) (x2 : Int32) (x3 : Int32) (z0 : Int32) (F : PF) (G : PG) : PR := if z0 = (0 : Int32) then mb_formalHere_117 fu x2 x3 z0 F G else mb_formalHere_97 fu x2 x3 z0 F G
def mb_formalHere_85 (fu : Nat) (x2 : Int32) (x3 : Int32) (F : PF) (G : PG) : PR := mb_formalHere_90 fu x2 x3 1 F G
def mb_formalHere_89 (fu : Nat) (x2 : Int32) (x3 : Int32) (F : PF) (G : PG) : PR := mb_formalHere_90 fu x2 x3 0 F G
def mb_formalHere_82 (fu : Nat) (x2 : Int32) (x3 : Int32) (z0 : Int32) (F : PF) (G : PG) : PR := if z0 = (0 : Int32) then mb_formalHere_89 fu x2 x3 F G else mb_formalHere_85 fu x2 x3 F G
def mb_formalHere_76 (fu : Nat) (x2 : Int32) (x3 : Int32) (F : PF) (G : PG) : PR := (mf_isSign fu 24 F G).bind (fun q => mb_formalHere_82 fu x2 x3 q.1 q.2.1 q.2.2)
def mb_formalHere_72 (fu : Nat) (x2 : Int32) (x3 : Int32) (F : PF) (G : PG) : PR := if x2 = (0 : Int32) then mb_formalHere_76 fu x2 x3 F G else mb_formalHere_85 fu x2 x3 F G
def mb_formalHere_60 (fu : Nat) (x2 : Int32) (x3 : Int32) (F : PF) (G : PG) : PR := if ixb x3 4002 = true then ((mf_note fu 11 (G 6 x3.toNatClampNeg) F G).bind (fun q => mb_formalHere_72 fu x2 x3 q.2.1 q.2.2)) else none
def mb_formalHere_55 (fu : Nat) (x1 : Int32) (x2 : Int32) (x3 : Int32) (F : PF) (G : PG) : PR := if x1 = (4 : Int32) then mb_formalHere_60 fu x2 x3 F G else mb_formalHere_72 fu x2 x3 F G
def mb_formalHere_50 (fu : Nat) (x1 : Int32) (x2 : Int32) (x3 : Int32) (F : PF) (G : PG) : PR := (mf_twice fu x3 F G).bind (fun q => mb_formalHere_55 fu x1 x2 x3 q.2.1 q.2.2)
def mb_formalHere_48 (fu : Nat) (F : PF) (G : PG) : PR := some (0, F, G)
def mb_formalHere_40 (fu : Nat) (x1 : Int32) (x2 : Int32) (z0 : Int32) (F : PF) (G : PG) : PR := if (F 44) ≤ (0 : Int32) then mb_formalHere_50 fu x1 x2 z0 F G else mb_formalHere_48 fu F G
def mb_formalHere_36 (fu : Nat) (x1 : Int32) (x2 : Int32) (F : PF) (G : PG) : PR := (mf_name fu F G).bind (fun q => mb_formalHere_40 fu x1 x2 q.1 q.2.1 q.2.2)
def mb_formalHere_26 (fu : Nat) (x1 : Int32) (x2 : Int32) (F : PF) (G : PG) : PR := mb_formalHere_36 fu x1 x2 (fup F 42 ((F 42) + (1 : Int32))) G
def mb_formalHere_23 (fu : Nat) (z0 : Int32) (F : PF) (G : PG) : PR := some (0, F, G)
def mb_formalHere_18 (fu : Nat) (F : PF) (G : PG) : PR := (mf_fails fu 2 F G).bind (fun q => mb_formalHere_23 fu q.1 q.2.1 q.2.2)
def mb_formalHere_15 (fu : Nat) (x1 : Int32) (x2 : Int32) (z0 : Int32) (F : PF) (G : PG) : PR := if z0 = (0 : Int32) then mb_formalHere_18 fu F G else mb_formalHere_26 fu x1 x2 F G
def mb_formalHere_10 (fu : Nat) (x1 : Int32) (x2 : Int32) (F : PF) (G : PG) : PR := (mf_isWord fu 0 F G).bind (fun q => mb_formalHere_15 fu x1 x2 q.1 q.2.1 q.2.2)
def mb_formalHere_5 (fu : Nat) (x1 : Int32) (z0 : Int32) (F : PF) (G : PG) : PR := if z0 = (0 : Int32) then mb_formalHere_10 fu x1 z0 F G else mb_formalHere_26 fu x1 z0 F G
def mb_formalHere_0 (fu : Nat) (x1 : Int32) (F : PF) (G : PG) : PR := (mf_isWord fu 1 F G).bind (fun q => mb_formalHere_5 fu x1 q.1 q.2.1 q.2.2)
def mf_formalHere (fu : Nat) (x1 : Int32) (F : PF) (G : PG) : PR := mb_formalHere_0 fu x1 F G
theorem mw_formalHere_185 (fu : Nat) {res : Int32 × PF × PG} (C : mMC p R s m args c A v RX12 cX12_formalHere 5 3 68) (hret : ∀ (H1 : Heap) (locs1 : List Loc) (ls1 : Array Slot) (pc : Nat), mMW s A v a res.2.1 res.2.2 H1 locs1 → narrow .int (.int res.1) = .int res.1 → decode cX12_formalHere pc = .ok (.ireturn, 1) → W p l e R s m args below meth c H1 locs1 0 0 Q (F0 m pc ls1 [.int res.1])) (z0 : Int32) (F : PF) (G : PG) (hm : mb_formalHere_185 fu z0 F G = some res) {H : Heap} {locs : List Loc} (hw : mMW s A v a F G H locs) {ls : Array Slot} (hl : lv_has ls 5 []) : W p l e R s m args below meth c H locs 0 0 Q (F0 m 185 ls [.int z0]) := by
  have hx := C.1
  have hb := C.2.1
  unfold mb_formalHere_185 at hm
  obtain rfl := Option.some.inj hm
  exact hret _ _ _ _ hw rfl dX12_formalHere_185
theorem mw_formalHere_184 (fu : Nat) {res : Int32 × PF × PG} (C : mMC p R s m args c A v RX12 cX12_formalHere 5 3 68) (hret : ∀ (H1 : Heap) (locs1 : List Loc) (ls1 : Array Slot) (pc : Nat), mMW s A v a res.2.1 res.2.2 H1 locs1 → narrow .int (.int res.1) = .int res.1 → decode cX12_formalHere pc = .ok (.ireturn, 1) → W p l e R s m args below meth c H1 locs1 0 0 Q (F0 m pc ls1 [.int res.1])) (F : PF) (G : PG) (hm : mb_formalHere_184 fu F G = some res) {H : Heap} {locs : List Loc} (hw : mMW s A v a F G H locs) {ls : Array Slot} (hl : lv_has ls 5 []) : W p l e R s m args below meth c H locs 0 0 Q (F0 m 184 ls []) := by
  have hx := C.1
  have hb := C.2.1
  unfold mb_formalHere_184 at hm
  refine lv_iconst (v := 1) hx hb dX12_formalHere_184 (by decide) ?_
  exact mw_formalHere_185 fu C hret 1 F G hm hw (lv_sub hl [] rfl)
theorem mw_formalHere_180 (fu : Nat) {res : Int32 × PF × PG} (C : mMC p R s m args c A v RX12 cX12_formalHere 5 3 68) (hret : ∀ (H1 : Heap) (locs1 : List Loc) (ls1 : Array Slot) (pc : Nat), mMW s A v a res.2.1 res.2.2 H1 locs1 → narrow .int (.int res.1) = .int res.1 → decode cX12_formalHere pc = .ok (.ireturn, 1) → W p l e R s m args below meth c H1 locs1 0 0 Q (F0 m pc ls1 [.int res.1])) (F : PF) (G : PG) (hm : mb_formalHere_180 fu F G = some res) {H : Heap} {locs : List Loc} (hw : mMW s A v a F G H locs) {ls : Array Slot} (hl : lv_has ls 5 []) : W p l e R s m args below meth c H locs 0 0 Q (F0 m 180 ls []) := by
  have hx := C.1
  have hb := C.2.1
  unfold mb_formalHere_180 at hm
  refine lv_iconst (v := 2) hx hb dX12_formalHere_180 (by decide) ?_
  refine lv_goto (tgt := 185) hx hb dX12_formalHere_181 (by decide) ?_
  exact mw_formalHere_185 fu C hret 2 F G hm hw (lv_sub hl [] rfl)
theorem mw_formalHere_176 (fu : Nat) {res : Int32 × PF × PG} (C : mMC p R s m args c A v RX12 cX12_formalHere 5 3 68) (hret : ∀ (H1 : Heap) (locs1 : List Loc) (ls1 : Array Slot) (pc : Nat), mMW s A v a res.2.1 res.2.2 H1 locs1 → narrow .int (.int res.1) = .int res.1 → decode cX12_formalHere pc = .ok (.ireturn, 1) → W p l e R s m args below meth c H1 locs1 0 0 Q (F0 m pc ls1 [.int res.1])) (x2 : Int32) (F : PF) (G : PG) (hm : mb_formalHere_176 fu x2 F G = some res) {H : Heap} {locs : List Loc} (hw : mMW s A v a F G H locs) {ls : Array Slot} (hl : lv_has ls 5 [(2, .int x2)]) : W p l e R s m args below meth c H locs 0 0 Q (F0 m 176 ls []) := by
  have hx := C.1
  have hb := C.2.1
  unfold mb_formalHere_176 at hm
  refine lv_iload_n hx hb dX12_formalHere_176 rfl (lv_at hl 0 rfl) ?_
  refine lv_if_eq (tgt := 184) hx hb dX12_formalHere_177 (by decide) (fun c_1 => ?_) (fun c_1 => ?_)
  · have hm := (if_pos c_1).symm.trans hm
    exact mw_formalHere_184 fu C hret F G hm hw (lv_sub hl [] rfl)
  · have hm := (if_neg c_1).symm.trans hm
    exact mw_formalHere_180 fu C hret F G hm hw (lv_sub hl [] rfl)
theorem mw_formalHere_172 (fu : Nat) {res : Int32 × PF × PG} (C : mMC p R s m args c A v RX12 cX12_formalHere 5 3 68) (hret : ∀ (H1 : Heap) (locs1 : List Loc) (ls1 : Array Slot) (pc : Nat), mMW s A v a res.2.1 res.2.2 H1 locs1 → narrow .int (.int res.1) = .int res.1 → decode cX12_formalHere pc = .ok (.ireturn, 1) → W p l e R s m args below meth c H1 locs1 0 0 Q (F0 m pc ls1 [.int res.1])) (F : PF) (G : PG) (hm : mb_formalHere_172 fu F G = some res) {H : Heap} {locs : List Loc} (hw : mMW s A v a F G H locs) {ls : Array Slot} (hl : lv_has ls 5 []) : W p l e R s m args below meth c H locs 0 0 Q (F0 m 172 ls []) := by
  have hx := C.1
  have hb := C.2.1
  unfold mb_formalHere_172 at hm
  refine lv_iconst (v := 0) hx hb dX12_formalHere_172 (by decide) ?_
  refine lv_goto (tgt := 185) hx hb dX12_formalHere_173 (by decide) ?_
  exact mw_formalHere_185 fu C hret 0 F G hm hw (lv_sub hl [] rfl)
theorem mw_formalHere_167 (fu : Nat) {res : Int32 × PF × PG} (C : mMC p R s m args c A v RX12 cX12_formalHere 5 3 68) (hret : ∀ (H1 : Heap) (locs1 : List Loc) (ls1 : Array Slot) (pc : Nat), mMW s A v a res.2.1 res.2.2 H1 locs1 → narrow .int (.int res.1) = .int res.1 → decode cX12_formalHere pc = .ok (.ireturn, 1) → W p l e R s m args below meth c H1 locs1 0 0 Q (F0 m pc ls1 [.int res.1])) (x2 : Int32) (x4 : Int32) (F : PF) (G : PG) (hm : mb_formalHere_167 fu x2 x4 F G = some res) {H : Heap} {locs : List Loc} (hw : mMW s A v a F G H locs) {ls : Array Slot} (hl : lv_has ls 5 [(2, .int x2), (4, .int x4)]) : W p l e R s m args below meth c H locs 0 0 Q (F0 m 167 ls []) := by
  have hx := C.1
  have hb := C.2.1
  unfold mb_formalHere_167 at hm
  refine lv_iload hx hb dX12_formalHere_167 (lv_at hl 1 rfl) ?_
  refine lv_if_ne (tgt := 176) hx hb dX12_formalHere_169 (by decide) (fun c_1 => ?_) (fun c_1 => ?_)
  · have hm := (if_neg c_1).symm.trans hm
    exact mw_formalHere_176 fu C hret x2 F G hm hw (lv_sub hl [0] rfl)
  · have hm := (if_pos c_1).symm.trans hm
    exact mw_formalHere_172 fu C hret F G hm hw (lv_sub hl [] rfl)
theorem mw_formalHere_163 (fu : Nat) {res : Int32 × PF × PG} (C : mMC p R s m args c A v RX12 cX12_formalHere 5 3 68) (hret : ∀ (H1 : Heap) (locs1 : List Loc) (ls1 : Array Slot) (pc : Nat), mMW s A v a res.2.1 res.2.2 H1 locs1 → narrow .int (.int res.1) = .int res.1 → decode cX12_formalHere pc = .ok (.ireturn, 1) → W p l e R s m args below meth c H1 locs1 0 0 Q (F0 m pc ls1 [.int res.1])) (x2 : Int32) (x4 : Int32) (z0 : Int32) (z1 : Int32) (F : PF) (G : PG) (hm : mb_formalHere_163 fu x2 x4 z0 z1 F G = some res) {H : Heap} {locs : List Loc} (hw : mMW s A v a F G H locs) {ls : Array Slot} (hl : lv_has ls 5 [(2, .int x2), (4, .int x4)]) : W p l e R s m args below meth c H locs 0 0 Q (F0 m 163 ls [.int z0, .int z1, .ref (a 212)]) := by
  have hx := C.1
  have hb := C.2.1
  unfold mb_formalHere_163 at hm
  refine lv_iadd hx hb dX12_formalHere_163 ?_
  refine mp_X12_386 C hw dX12_formalHere_164 (fun H locs hw => ?_)
  exact mw_formalHere_167 fu C hret x2 x4 (fup F 53 (z1 + z0)) G hm hw (lv_sub hl [0, 1] rfl)
theorem mw_formalHere_162 (fu : Nat) {res : Int32 × PF × PG} (C : mMC p R s m args c A v RX12 cX12_formalHere 5 3 68) (hret : ∀ (H1 : Heap) (locs1 : List Loc) (ls1 : Array Slot) (pc : Nat), mMW s A v a res.2.1 res.2.2 H1 locs1 → narrow .int (.int res.1) = .int res.1 → decode cX12_formalHere pc = .ok (.ireturn, 1) → W p l e R s m args below meth c H1 locs1 0 0 Q (F0 m pc ls1 [.int res.1])) (x2 : Int32) (x4 : Int32) (z0 : Int32) (F : PF) (G : PG) (hm : mb_formalHere_162 fu x2 x4 z0 F G = some res) {H : Heap} {locs : List Loc} (hw : mMW s A v a F G H locs) {ls : Array Slot} (hl : lv_has ls 5 [(2, .int x2), (4, .int x4)]) : W p l e R s m args below meth c H locs 0 0 Q (F0 m 162 ls [.int z0, .ref (a 212)]) := by
  have hx := C.1
  have hb := C.2.1
  unfold mb_formalHere_162 at hm
  refine lv_iconst (v := 1) hx hb dX12_formalHere_162 (by decide) ?_
  exact mw_formalHere_163 fu C hret x2 x4 1 z0 F G hm hw (lv_sub hl [0, 1] rfl)
theorem mw_formalHere_158 (fu : Nat) {res : Int32 × PF × PG} (C : mMC p R s m args c A v RX12 cX12_formalHere 5 3 68) (hret : ∀ (H1 : Heap) (locs1 : List Loc) (ls1 : Array Slot) (pc : Nat), mMW s A v a res.2.1 res.2.2 H1 locs1 → narrow .int (.int res.1) = .int res.1 → decode cX12_formalHere pc = .ok (.ireturn, 1) → W p l e R s m args below meth c H1 locs1 0 0 Q (F0 m pc ls1 [.int res.1])) (x2 : Int32) (x4 : Int32) (z0 : Int32) (F : PF) (G : PG) (hm : mb_formalHere_158 fu x2 x4 z0 F G = some res) {H : Heap} {locs : List Loc} (hw : mMW s A v a F G H locs) {ls : Array Slot} (hl : lv_has ls 5 [(2, .int x2), (4, .int x4)]) : W p l e R s m args below meth c H locs 0 0 Q (F0 m 158 ls [.int z0, .ref (a 212)]) := by
  have hx := C.1
  have hb := C.2.1
  unfold mb_formalHere_158 at hm
  refine lv_iconst (v := 2) hx hb dX12_formalHere_158 (by decide) ?_
  refine lv_goto (tgt := 163) hx hb dX12_formalHere_159 (by decide) ?_
  exact mw_formalHere_163 fu C hret x2 x4 2 z0 F G hm hw (lv_sub hl [0, 1] rfl)
theorem mw_formalHere_148 (fu : Nat) {res : Int32 × PF × PG} (C : mMC p R s m args c A v RX12 cX12_formalHere 5 3 68) (hret : ∀ (H1 : Heap) (locs1 : List Loc) (ls1 : Array Slot) (pc : Nat), mMW s A v a res.2.1 res.2.2 H1 locs1 → narrow .int (.int res.1) = .int res.1 → decode cX12_formalHere pc = .ok (.ireturn, 1) → W p l e R s m args below meth c H1 locs1 0 0 Q (F0 m pc ls1 [.int res.1])) (x2 : Int32) (x4 : Int32) (F : PF) (G : PG) (hm : mb_formalHere_148 fu x2 x4 F G = some res) {H : Heap} {locs : List Loc} (hw : mMW s A v a F G H locs) {ls : Array Slot} (hl : lv_has ls 5 [(0, .ref (a 212)), (2, .int x2), (4, .int x4)]) : W p l e R s m args below meth c H locs 0 0 Q (F0 m 148 ls []) := by
  have hx := C.1
  have hb := C.2.1
  unfold mb_formalHere_148 at hm
  refine lv_aload_n hx hb dX12_formalHere_148 rfl (lv_at hl 0 rfl) ?_
  refine lv_dup hx hb dX12_formalHere_149 rfl ?_
  refine mg_X12_386 C hw dX12_formalHere_150 ?_
  refine lv_iload hx hb dX12_formalHere_153 (lv_at hl 2 rfl) ?_
  refine lv_if_eq (tgt := 162) hx hb dX12_formalHere_155 (by decide) (fun c_1 => ?_) (fun c_1 => ?_)
  · have hm := (if_pos c_1).symm.trans hm
    exact mw_formalHere_162 fu C hret x2 x4 (F 53) F G hm hw (lv_sub hl [1, 2] rfl)
  · have hm := (if_neg c_1).symm.trans hm
    exact mw_formalHere_158 fu C hret x2 x4 (F 53) F G hm hw (lv_sub hl [1, 2] rfl)
theorem mw_formalHere_144 (fu : Nat) {res : Int32 × PF × PG} (C : mMC p R s m args c A v RX12 cX12_formalHere 5 3 68) (hret : ∀ (H1 : Heap) (locs1 : List Loc) (ls1 : Array Slot) (pc : Nat), mMW s A v a res.2.1 res.2.2 H1 locs1 → narrow .int (.int res.1) = .int res.1 → decode cX12_formalHere pc = .ok (.ireturn, 1) → W p l e R s m args below meth c H1 locs1 0 0 Q (F0 m pc ls1 [.int res.1])) (x2 : Int32) (x4 : Int32) (z0 : Int32) (z1 : Int32) (z2 : Int32) (z3 : Int32) (z4 : Int32) (F : PF) (G : PG) (hm : mb_formalHere_144 fu x2 x4 z0 z1 z2 z3 z4 F G = some res) {H : Heap} {locs : List Loc} (hw : mMW s A v a F G H locs) {ls : Array Slot} (hl : lv_has ls 5 [(0, .ref (a 212)), (2, .int x2), (4, .int x4)]) : W p l e R s m args below meth c H locs 0 0 Q (F0 m 144 ls [.int z0, .int z1, .int z2, .int z3, .int z4, .ref (a 212)]) := by
  have hx := C.1
  have hb := C.2.1
  unfold mb_formalHere_144 at hm
  refine lv_iconst (v := 1) hx hb dX12_formalHere_144 (by decide) ?_
  obtain ⟨⟨r1, F1, G1⟩, hc, hm⟩ := bind_elim hm
  refine mcallV (n := 6) (As := [.int z4, .int z3, .int z2, .int z1, .int z0, .int 1]) (rest := []) C hw (mk_declare l v a _ fu z4 z3 z2 z1 z0 1 F G r1 F1 G1 hc) (mrecv_X12 C hw) mm_314 mm_315 mm_316 mm_27 mm_317 (by decide +kernel) rfl (by omega) (by omega) hl.1 rfl (Nat.le_of_ble_eq_true rfl) dX12_formalHere_145 (fun H locs hw => ?_)
  exact mw_formalHere_148 fu C hret x2 x4 F1 G1 hm hw (lv_sub hl [0, 1, 2] rfl)
theorem mw_formalHere_143 (fu : Nat) {res : Int32 × PF × PG} (C : mMC p R s m args c A v RX12 cX12_formalHere 5 3 68) (hret : ∀ (H1 : Heap) (locs1 : List Loc) (ls1 : Array Slot) (pc : Nat), mMW s A v a res.2.1 res.2.2 H1 locs1 → narrow .int (.int res.1) = .int res.1 → decode cX12_formalHere pc = .ok (.ireturn, 1) → W p l e R s m args below meth c H1 locs1 0 0 Q (F0 m pc ls1 [.int res.1])) (x2 : Int32) (x4 : Int32) (z0 : Int32) (z1 : Int32) (z2 : Int32) (z3 : Int32) (F : PF) (G : PG) (hm : mb_formalHere_143 fu x2 x4 z0 z1 z2 z3 F G = some res) {H : Heap} {locs : List Loc} (hw : mMW s A v a F G H locs) {ls : Array Slot} (hl : lv_has ls 5 [(0, .ref (a 212)), (2, .int x2), (4, .int x4)]) : W p l e R s m args below meth c H locs 0 0 Q (F0 m 143 ls [.int z0, .int z1, .int z2, .int z3, .ref (a 212)]) := by
  have hx := C.1
  have hb := C.2.1
  unfold mb_formalHere_143 at hm
  refine lv_iconst (v := 1) hx hb dX12_formalHere_143 (by decide) ?_
  exact mw_formalHere_144 fu C hret x2 x4 1 z0 z1 z2 z3 F G hm hw (lv_sub hl [0, 1, 2] rfl)
theorem mw_formalHere_139 (fu : Nat) {res : Int32 × PF × PG} (C : mMC p R s m args c A v RX12 cX12_formalHere 5 3 68) (hret : ∀ (H1 : Heap) (locs1 : List Loc) (ls1 : Array Slot) (pc : Nat), mMW s A v a res.2.1 res.2.2 H1 locs1 → narrow .int (.int res.1) = .int res.1 → decode cX12_formalHere pc = .ok (.ireturn, 1) → W p l e R s m args below meth c H1 locs1 0 0 Q (F0 m pc ls1 [.int res.1])) (x2 : Int32) (x4 : Int32) (z0 : Int32) (z1 : Int32) (z2 : Int32) (z3 : Int32) (F : PF) (G : PG) (hm : mb_formalHere_139 fu x2 x4 z0 z1 z2 z3 F G = some res) {H : Heap} {locs : List Loc} (hw : mMW s A v a F G H locs) {ls : Array Slot} (hl : lv_has ls 5 [(0, .ref (a 212)), (2, .int x2), (4, .int x4)]) : W p l e R s m args below meth c H locs 0 0 Q (F0 m 139 ls [.int z0, .int z1, .int z2, .int z3, .ref (a 212)]) := by
  have hx := C.1
  have hb := C.2.1
  unfold mb_formalHere_139 at hm
  refine lv_iconst (v := (-1)) hx hb dX12_formalHere_139 (by decide) ?_
  refine lv_goto (tgt := 144) hx hb dX12_formalHere_140 (by decide) ?_
  exact mw_formalHere_144 fu C hret x2 x4 (-1) z0 z1 z2 z3 F G hm hw (lv_sub hl [0, 1, 2] rfl)
theorem mw_formalHere_129 (fu : Nat) {res : Int32 × PF × PG} (C : mMC p R s m args c A v RX12 cX12_formalHere 5 3 68) (hret : ∀ (H1 : Heap) (locs1 : List Loc) (ls1 : Array Slot) (pc : Nat), mMW s A v a res.2.1 res.2.2 H1 locs1 → narrow .int (.int res.1) = .int res.1 → decode cX12_formalHere pc = .ok (.ireturn, 1) → W p l e R s m args below meth c H1 locs1 0 0 Q (F0 m pc ls1 [.int res.1])) (x2 : Int32) (x4 : Int32) (z0 : Int32) (z1 : Int32) (F : PF) (G : PG) (hm : mb_formalHere_129 fu x2 x4 z0 z1 F G = some res) {H : Heap} {locs : List Loc} (hw : mMW s A v a F G H locs) {ls : Array Slot} (hl : lv_has ls 5 [(0, .ref (a 212)), (2, .int x2), (4, .int x4)]) : W p l e R s m args below meth c H locs 0 0 Q (F0 m 129 ls [.int z0, .int z1, .ref (a 212)]) := by
  have hx := C.1
  have hb := C.2.1
  unfold mb_formalHere_129 at hm
  refine lv_iload_n hx hb dX12_formalHere_129 rfl (lv_at hl 1 rfl) ?_
  refine lv_aload_n hx hb dX12_formalHere_130 rfl (lv_at hl 0 rfl) ?_
  refine mg_X12_386 C hw dX12_formalHere_131 ?_
  refine lv_iload hx hb dX12_formalHere_134 (lv_at hl 2 rfl) ?_
  refine lv_if_eq (tgt := 143) hx hb dX12_formalHere_136 (by decide) (fun c_1 => ?_) (fun c_1 => ?_)
  · have hm := (if_pos c_1).symm.trans hm
    exact mw_formalHere_143 fu C hret x2 x4 (F 53) x2 z0 z1 F G hm hw (lv_sub hl [0, 1, 2] rfl)
  · have hm := (if_neg c_1).symm.trans hm
    exact mw_formalHere_139 fu C hret x2 x4 (F 53) x2 z0 z1 F G hm hw (lv_sub hl [0, 1, 2] rfl)
theorem mw_formalHere_128 (fu : Nat) {res : Int32 × PF × PG} (C : mMC p R s m args c A v RX12 cX12_formalHere 5 3 68) (hret : ∀ (H1 : Heap) (locs1 : List Loc) (ls1 : Array Slot) (pc : Nat), mMW s A v a res.2.1 res.2.2 H1 locs1 → narrow .int (.int res.1) = .int res.1 → decode cX12_formalHere pc = .ok (.ireturn, 1) → W p l e R s m args below meth c H1 locs1 0 0 Q (F0 m pc ls1 [.int res.1])) (x2 : Int32) (x4 : Int32) (z0 : Int32) (F : PF) (G : PG) (hm : mb_formalHere_128 fu x2 x4 z0 F G = some res) {H : Heap} {locs : List Loc} (hw : mMW s A v a F G H locs) {ls : Array Slot} (hl : lv_has ls 5 [(0, .ref (a 212)), (2, .int x2), (4, .int x4)]) : W p l e R s m args below meth c H locs 0 0 Q (F0 m 128 ls [.int z0, .ref (a 212)]) := by
  have hx := C.1
  have hb := C.2.1
  unfold mb_formalHere_128 at hm
  refine lv_iconst (v := 1) hx hb dX12_formalHere_128 (by decide) ?_
  exact mw_formalHere_129 fu C hret x2 x4 1 z0 F G hm hw (lv_sub hl [0, 1, 2] rfl)
theorem mw_formalHere_124 (fu : Nat) {res : Int32 × PF × PG} (C : mMC p R s m args c A v RX12 cX12_formalHere 5 3 68) (hret : ∀ (H1 : Heap) (locs1 : List Loc) (ls1 : Array Slot) (pc : Nat), mMW s A v a res.2.1 res.2.2 H1 locs1 → narrow .int (.int res.1) = .int res.1 → decode cX12_formalHere pc = .ok (.ireturn, 1) → W p l e R s m args below meth c H1 locs1 0 0 Q (F0 m pc ls1 [.int res.1])) (x2 : Int32) (x4 : Int32) (z0 : Int32) (F : PF) (G : PG) (hm : mb_formalHere_124 fu x2 x4 z0 F G = some res) {H : Heap} {locs : List Loc} (hw : mMW s A v a F G H locs) {ls : Array Slot} (hl : lv_has ls 5 [(0, .ref (a 212)), (2, .int x2), (4, .int x4)]) : W p l e R s m args below meth c H locs 0 0 Q (F0 m 124 ls [.int z0, .ref (a 212)]) := by
  have hx := C.1
  have hb := C.2.1
  unfold mb_formalHere_124 at hm
  refine lv_iconst (v := 2) hx hb dX12_formalHere_124 (by decide) ?_
  refine lv_goto (tgt := 129) hx hb dX12_formalHere_125 (by decide) ?_
  exact mw_formalHere_129 fu C hret x2 x4 2 z0 F G hm hw (lv_sub hl [0, 1, 2] rfl)
theorem mw_formalHere_117 (fu : Nat) {res : Int32 × PF × PG} (C : mMC p R s m args c A v RX12 cX12_formalHere 5 3 68) (hret : ∀ (H1 : Heap) (locs1 : List Loc) (ls1 : Array Slot) (pc : Nat), mMW s A v a res.2.1 res.2.2 H1 locs1 → narrow .int (.int res.1) = .int res.1 → decode cX12_formalHere pc = .ok (.ireturn, 1) → W p l e R s m args below meth c H1 locs1 0 0 Q (F0 m pc ls1 [.int res.1])) (x2 : Int32) (x3 : Int32) (x4 : Int32) (F : PF) (G : PG) (hm : mb_formalHere_117 fu x2 x3 x4 F G = some res) {H : Heap} {locs : List Loc} (hw : mMW s A v a F G H locs) {ls : Array Slot} (hl : lv_has ls 5 [(0, .ref (a 212)), (2, .int x2), (3, .int x3), (4, .int x4)]) : W p l e R s m args below meth c H locs 0 0 Q (F0 m 117 ls []) := by
  have hx := C.1
  have hb := C.2.1
  unfold mb_formalHere_117 at hm
  refine lv_aload_n hx hb dX12_formalHere_117 rfl (lv_at hl 0 rfl) ?_
  refine lv_iload_n hx hb dX12_formalHere_118 rfl (lv_at hl 2 rfl) ?_
  refine lv_iload hx hb dX12_formalHere_119 (lv_at hl 3 rfl) ?_
  refine lv_if_eq (tgt := 128) hx hb dX12_formalHere_121 (by decide) (fun c_1 => ?_) (fun c_1 => ?_)
  · have hm := (if_pos c_1).symm.trans hm
    exact mw_formalHere_128 fu C hret x2 x4 x3 F G hm hw (lv_sub hl [0, 1, 3] rfl)
  · have hm := (if_neg c_1).symm.trans hm
    exact mw_formalHere_124 fu C hret x2 x4 x3 F G hm hw (lv_sub hl [0, 1, 3] rfl)
theorem mw_formalHere_115 (fu : Nat) {res : Int32 × PF × PG} (C : mMC p R s m args c A v RX12 cX12_formalHere 5 3 68) (hret : ∀ (H1 : Heap) (locs1 : List Loc) (ls1 : Array Slot) (pc : Nat), mMW s A v a res.2.1 res.2.2 H1 locs1 → narrow .int (.int res.1) = .int res.1 → decode cX12_formalHere pc = .ok (.ireturn, 1) → W p l e R s m args below meth c H1 locs1 0 0 Q (F0 m pc ls1 [.int res.1])) (F : PF) (G : PG) (hm : mb_formalHere_115 fu F G = some res) {H : Heap} {locs : List Loc} (hw : mMW s A v a F G H locs) {ls : Array Slot} (hl : lv_has ls 5 []) : W p l e R s m args below meth c H locs 0 0 Q (F0 m 115 ls []) := by
  have hx := C.1
  have hb := C.2.1
  unfold mb_formalHere_115 at hm
  refine lv_iconst (v := 0) hx hb dX12_formalHere_115 (by decide) ?_
  obtain rfl := Option.some.inj hm
  exact hret _ _ _ _ hw rfl dX12_formalHere_116
theorem mw_formalHere_112 (fu : Nat) {res : Int32 × PF × PG} (C : mMC p R s m args c A v RX12 cX12_formalHere 5 3 68) (hret : ∀ (H1 : Heap) (locs1 : List Loc) (ls1 : Array Slot) (pc : Nat), mMW s A v a res.2.1 res.2.2 H1 locs1 → narrow .int (.int res.1) = .int res.1 → decode cX12_formalHere pc = .ok (.ireturn, 1) → W p l e R s m args below meth c H1 locs1 0 0 Q (F0 m pc ls1 [.int res.1])) (x2 : Int32) (x3 : Int32) (x4 : Int32) (z0 : Int32) (F : PF) (G : PG) (hm : mb_formalHere_112 fu x2 x3 x4 z0 F G = some res) {H : Heap} {locs : List Loc} (hw : mMW s A v a F G H locs) {ls : Array Slot} (hl : lv_has ls 5 [(0, .ref (a 212)), (2, .int x2), (3, .int x3), (4, .int x4)]) : W p l e R s m args below meth c H locs 0 0 Q (F0 m 112 ls [.int z0]) := by
  have hx := C.1
  have hb := C.2.1
  unfold mb_formalHere_112 at hm
  refine lv_if_ne (tgt := 117) hx hb dX12_formalHere_112 (by decide) (fun c_1 => ?_) (fun c_1 => ?_)
  · have hm := (if_neg c_1).symm.trans hm
    exact mw_formalHere_117 fu C hret x2 x3 x4 F G hm hw (lv_sub hl [0, 1, 2, 3] rfl)
  · have hm := (if_pos c_1).symm.trans hm
    exact mw_formalHere_115 fu C hret F G hm hw (lv_sub hl [] rfl)
theorem mw_formalHere_106 (fu : Nat) {res : Int32 × PF × PG} (C : mMC p R s m args c A v RX12 cX12_formalHere 5 3 68) (hret : ∀ (H1 : Heap) (locs1 : List Loc) (ls1 : Array Slot) (pc : Nat), mMW s A v a res.2.1 res.2.2 H1 locs1 → narrow .int (.int res.1) = .int res.1 → decode cX12_formalHere pc = .ok (.ireturn, 1) → W p l e R s m args below meth c H1 locs1 0 0 Q (F0 m pc ls1 [.int res.1])) (x2 : Int32) (x3 : Int32) (x4 : Int32) (F : PF) (G : PG) (hm : mb_formalHere_106 fu x2 x3 x4 F G = some res) {H : Heap} {locs : List Loc} (hw : mMW s A v a F G H locs) {ls : Array Slot} (hl : lv_has ls 5 [(0, .ref (a 212)), (2, .int x2), (3, .int x3), (4, .int x4)]) : W p l e R s m args below meth c H locs 0 0 Q (F0 m 106 ls []) := by
  have hx := C.1
  have hb := C.2.1
  unfold mb_formalHere_106 at hm
  refine lv_aload_n hx hb dX12_formalHere_106 rfl (lv_at hl 0 rfl) ?_
  refine lv_bipush (v := 25) hx hb dX12_formalHere_107 (by decide) ?_
  obtain ⟨⟨r1, F1, G1⟩, hc, hm⟩ := bind_elim hm
  refine mcallI (n := 1) (As := [.int 25]) (rest := []) C hw (mk_closeSign l v a _ fu 25 F G r1 F1 G1 hc) (mrecv_X12 C hw) mm_248 mm_249 mm_250 mm_27 mm_251 (by decide +kernel) rfl (by omega) (by omega) hl.1 rfl (Nat.le_of_ble_eq_true rfl) dX12_formalHere_109 (fun H locs hw => ?_)
  exact mw_formalHere_112 fu C hret x2 x3 x4 r1 F1 G1 hm hw (lv_sub hl [0, 1, 2, 3] rfl)
theorem mw_formalHere_103 (fu : Nat) {res : Int32 × PF × PG} (C : mMC p R s m args c A v RX12 cX12_formalHere 5 3 68) (hret : ∀ (H1 : Heap) (locs1 : List Loc) (ls1 : Array Slot) (pc : Nat), mMW s A v a res.2.1 res.2.2 H1 locs1 → narrow .int (.int res.1) = .int res.1 → decode cX12_formalHere pc = .ok (.ireturn, 1) → W p l e R s m args below meth c H1 locs1 0 0 Q (F0 m pc ls1 [.int res.1])) (x2 : Int32) (x3 : Int32) (x4 : Int32) (z0 : Int32) (F : PF) (G : PG) (hm : mb_formalHere_103 fu x2 x3 x4 z0 F G = some res) {H : Heap} {locs : List Loc} (hw : mMW s A v a F G H locs) {ls : Array Slot} (hl : lv_has ls 5 [(0, .ref (a 212)), (2, .int x2), (3, .int x3), (4, .int x4)]) : W p l e R s m args below meth c H locs 0 0 Q (F0 m 103 ls [.int z0]) := by
  have hx := C.1
  have hb := C.2.1
  unfold mb_formalHere_103 at hm
  refine lv_if_eq (tgt := 115) hx hb dX12_formalHere_103 (by decide) (fun c_1 => ?_) (fun c_1 => ?_)
  · have hm := (if_pos c_1).symm.trans hm
    exact mw_formalHere_115 fu C hret F G hm hw (lv_sub hl [] rfl)
  · have hm := (if_neg c_1).symm.trans hm
    exact mw_formalHere_106 fu C hret x2 x3 x4 F G hm hw (lv_sub hl [0, 1, 2, 3] rfl)
theorem mw_formalHere_97 (fu : Nat) {res : Int32 × PF × PG} (C : mMC p R s m args c A v RX12 cX12_formalHere 5 3 68) (hret : ∀ (H1 : Heap) (locs1 : List Loc) (ls1 : Array Slot) (pc : Nat), mMW s A v a res.2.1 res.2.2 H1 locs1 → narrow .int (.int res.1) = .int res.1 → decode cX12_formalHere pc = .ok (.ireturn, 1) → W p l e R s m args below meth c H1 locs1 0 0 Q (F0 m pc ls1 [.int res.1])) (x2 : Int32) (x3 : Int32) (x4 : Int32) (F : PF) (G : PG) (hm : mb_formalHere_97 fu x2 x3 x4 F G = some res) {H : Heap} {locs : List Loc} (hw : mMW s A v a F G H locs) {ls : Array Slot} (hl : lv_has ls 5 [(0, .ref (a 212)), (2, .int x2), (3, .int x3), (4, .int x4)]) : W p l e R s m args below meth c H locs 0 0 Q (F0 m 97 ls []) := by
  have hx := C.1
  have hb := C.2.1
  unfold mb_formalHere_97 at hm
  refine lv_aload_n hx hb dX12_formalHere_97 rfl (lv_at hl 0 rfl) ?_
  refine lv_bipush (v := 24) hx hb dX12_formalHere_98 (by decide) ?_
  obtain ⟨⟨r1, F1, G1⟩, hc, hm⟩ := bind_elim hm
  refine mcallI (n := 1) (As := [.int 24]) (rest := []) C hw (mk_openSign l v a _ fu 24 F G r1 F1 G1 hc) (mrecv_X12 C hw) mm_241 mm_242 mm_243 mm_27 mm_244 (by decide +kernel) rfl (by omega) (by omega) hl.1 rfl (Nat.le_of_ble_eq_true rfl) dX12_formalHere_100 (fun H locs hw => ?_)
  exact mw_formalHere_103 fu C hret x2 x3 x4 r1 F1 G1 hm hw (lv_sub hl [0, 1, 2, 3] rfl)
theorem mw_formalHere_90 (fu : Nat) {res : Int32 × PF × PG} (C : mMC p R s m args c A v RX12 cX12_formalHere 5 3 68) (hret : ∀ (H1 : Heap) (locs1 : List Loc) (ls1 : Array Slot) (pc : Nat), mMW s A v a res.2.1 res.2.2 H1 locs1 → narrow .int (.int res.1) = .int res.1 → decode cX12_formalHere pc = .ok (.ireturn, 1) → W p l e R s m args below meth c H1 locs1 0 0 Q (F0 m pc ls1 [.int res.1])) (x2 : Int32) (x3 : Int32) (z0 : Int32) (F : PF) (G : PG) (hm : mb_formalHere_90 fu x2 x3 z0 F G = some res) {H : Heap} {locs : List Loc} (hw : mMW s A v a F G H locs) {ls : Array Slot} (hl : lv_has ls 5 [(0, .ref (a 212)), (2, .int x2), (3, .int x3)]) : W p l e R s m args below meth c H locs 0 0 Q (F0 m 90 ls [.int z0]) := by
  have hx := C.1
  have hb := C.2.1
  unfold mb_formalHere_90 at hm
  refine lv_istore (lv' := [(4, .int z0), (0, .ref (a 212)), (2, .int x2), (3, .int x3)]) hx hb dX12_formalHere_90 hl (by decide) rfl (fun ls hl => ?_)
  refine lv_iload hx hb dX12_formalHere_92 (lv_at hl 0 rfl) ?_
  refine lv_if_eq (tgt := 117) hx hb dX12_formalHere_94 (by decide) (fun c_1 => ?_) (fun c_1 => ?_)
  · have hm := (if_pos c_1).symm.trans hm
    exact mw_formalHere_117 fu C hret x2 x3 z0 F G hm hw (lv_sub hl [1, 2, 3, 0] rfl)
  · have hm := (if_neg c_1).symm.trans hm
    exact mw_formalHere_97 fu C hret x2 x3 z0 F G hm hw (lv_sub hl [1, 2, 3, 0] rfl)
theorem mw_formalHere_85 (fu : Nat) {res : Int32 × PF × PG} (C : mMC p R s m args c A v RX12 cX12_formalHere 5 3 68) (hret : ∀ (H1 : Heap) (locs1 : List Loc) (ls1 : Array Slot) (pc : Nat), mMW s A v a res.2.1 res.2.2 H1 locs1 → narrow .int (.int res.1) = .int res.1 → decode cX12_formalHere pc = .ok (.ireturn, 1) → W p l e R s m args below meth c H1 locs1 0 0 Q (F0 m pc ls1 [.int res.1])) (x2 : Int32) (x3 : Int32) (F : PF) (G : PG) (hm : mb_formalHere_85 fu x2 x3 F G = some res) {H : Heap} {locs : List Loc} (hw : mMW s A v a F G H locs) {ls : Array Slot} (hl : lv_has ls 5 [(0, .ref (a 212)), (2, .int x2), (3, .int x3)]) : W p l e R s m args below meth c H locs 0 0 Q (F0 m 85 ls []) := by
  have hx := C.1
  have hb := C.2.1
  unfold mb_formalHere_85 at hm
  refine lv_iconst (v := 1) hx hb dX12_formalHere_85 (by decide) ?_
  refine lv_goto (tgt := 90) hx hb dX12_formalHere_86 (by decide) ?_
  exact mw_formalHere_90 fu C hret x2 x3 1 F G hm hw (lv_sub hl [0, 1, 2] rfl)
theorem mw_formalHere_89 (fu : Nat) {res : Int32 × PF × PG} (C : mMC p R s m args c A v RX12 cX12_formalHere 5 3 68) (hret : ∀ (H1 : Heap) (locs1 : List Loc) (ls1 : Array Slot) (pc : Nat), mMW s A v a res.2.1 res.2.2 H1 locs1 → narrow .int (.int res.1) = .int res.1 → decode cX12_formalHere pc = .ok (.ireturn, 1) → W p l e R s m args below meth c H1 locs1 0 0 Q (F0 m pc ls1 [.int res.1])) (x2 : Int32) (x3 : Int32) (F : PF) (G : PG) (hm : mb_formalHere_89 fu x2 x3 F G = some res) {H : Heap} {locs : List Loc} (hw : mMW s A v a F G H locs) {ls : Array Slot} (hl : lv_has ls 5 [(0, .ref (a 212)), (2, .int x2), (3, .int x3)]) : W p l e R s m args below meth c H locs 0 0 Q (F0 m 89 ls []) := by
  have hx := C.1
  have hb := C.2.1
  unfold mb_formalHere_89 at hm
  refine lv_iconst (v := 0) hx hb dX12_formalHere_89 (by decide) ?_
  exact mw_formalHere_90 fu C hret x2 x3 0 F G hm hw (lv_sub hl [0, 1, 2] rfl)
theorem mw_formalHere_82 (fu : Nat) {res : Int32 × PF × PG} (C : mMC p R s m args c A v RX12 cX12_formalHere 5 3 68) (hret : ∀ (H1 : Heap) (locs1 : List Loc) (ls1 : Array Slot) (pc : Nat), mMW s A v a res.2.1 res.2.2 H1 locs1 → narrow .int (.int res.1) = .int res.1 → decode cX12_formalHere pc = .ok (.ireturn, 1) → W p l e R s m args below meth c H1 locs1 0 0 Q (F0 m pc ls1 [.int res.1])) (x2 : Int32) (x3 : Int32) (z0 : Int32) (F : PF) (G : PG) (hm : mb_formalHere_82 fu x2 x3 z0 F G = some res) {H : Heap} {locs : List Loc} (hw : mMW s A v a F G H locs) {ls : Array Slot} (hl : lv_has ls 5 [(0, .ref (a 212)), (2, .int x2), (3, .int x3)]) : W p l e R s m args below meth c H locs 0 0 Q (F0 m 82 ls [.int z0]) := by
  have hx := C.1
  have hb := C.2.1
  unfold mb_formalHere_82 at hm
  refine lv_if_eq (tgt := 89) hx hb dX12_formalHere_82 (by decide) (fun c_1 => ?_) (fun c_1 => ?_)
  · have hm := (if_pos c_1).symm.trans hm
    exact mw_formalHere_89 fu C hret x2 x3 F G hm hw (lv_sub hl [0, 1, 2] rfl)
  · have hm := (if_neg c_1).symm.trans hm
    exact mw_formalHere_85 fu C hret x2 x3 F G hm hw (lv_sub hl [0, 1, 2] rfl)
theorem mw_formalHere_76 (fu : Nat) {res : Int32 × PF × PG} (C : mMC p R s m args c A v RX12 cX12_formalHere 5 3 68) (hret : ∀ (H1 : Heap) (locs1 : List Loc) (ls1 : Array Slot) (pc : Nat), mMW s A v a res.2.1 res.2.2 H1 locs1 → narrow .int (.int res.1) = .int res.1 → decode cX12_formalHere pc = .ok (.ireturn, 1) → W p l e R s m args below meth c H1 locs1 0 0 Q (F0 m pc ls1 [.int res.1])) (x2 : Int32) (x3 : Int32) (F : PF) (G : PG) (hm : mb_formalHere_76 fu x2 x3 F G = some res) {H : Heap} {locs : List Loc} (hw : mMW s A v a F G H locs) {ls : Array Slot} (hl : lv_has ls 5 [(0, .ref (a 212)), (2, .int x2), (3, .int x3)]) : W p l e R s m args below meth c H locs 0 0 Q (F0 m 76 ls []) := by
  have hx := C.1
  have hb := C.2.1
  unfold mb_formalHere_76 at hm
  refine lv_aload_n hx hb dX12_formalHere_76 rfl (lv_at hl 0 rfl) ?_
  refine lv_bipush (v := 24) hx hb dX12_formalHere_77 (by decide) ?_
  obtain ⟨⟨r1, F1, G1⟩, hc, hm⟩ := bind_elim hm
  refine mcallI (n := 1) (As := [.int 24]) (rest := []) C hw (mk_isSign l v a _ fu 24 F G r1 F1 G1 hc) (mrecv_X12 C hw) mm_183 mm_184 mm_185 mm_27 mm_186 (by decide +kernel) rfl (by omega) (by omega) hl.1 rfl (Nat.le_of_ble_eq_true rfl) dX12_formalHere_79 (fun H locs hw => ?_)
  exact mw_formalHere_82 fu C hret x2 x3 r1 F1 G1 hm hw (lv_sub hl [0, 1, 2] rfl)
theorem mw_formalHere_72 (fu : Nat) {res : Int32 × PF × PG} (C : mMC p R s m args c A v RX12 cX12_formalHere 5 3 68) (hret : ∀ (H1 : Heap) (locs1 : List Loc) (ls1 : Array Slot) (pc : Nat), mMW s A v a res.2.1 res.2.2 H1 locs1 → narrow .int (.int res.1) = .int res.1 → decode cX12_formalHere pc = .ok (.ireturn, 1) → W p l e R s m args below meth c H1 locs1 0 0 Q (F0 m pc ls1 [.int res.1])) (x2 : Int32) (x3 : Int32) (F : PF) (G : PG) (hm : mb_formalHere_72 fu x2 x3 F G = some res) {H : Heap} {locs : List Loc} (hw : mMW s A v a F G H locs) {ls : Array Slot} (hl : lv_has ls 5 [(0, .ref (a 212)), (2, .int x2), (3, .int x3)]) : W p l e R s m args below meth c H locs 0 0 Q (F0 m 72 ls []) := by
  have hx := C.1
  have hb := C.2.1
  unfold mb_formalHere_72 at hm
  refine lv_iload_n hx hb dX12_formalHere_72 rfl (lv_at hl 1 rfl) ?_
  refine lv_if_ne (tgt := 85) hx hb dX12_formalHere_73 (by decide) (fun c_1 => ?_) (fun c_1 => ?_)
  · have hm := (if_neg c_1).symm.trans hm
    exact mw_formalHere_85 fu C hret x2 x3 F G hm hw (lv_sub hl [0, 1, 2] rfl)
  · have hm := (if_pos c_1).symm.trans hm
    exact mw_formalHere_76 fu C hret x2 x3 F G hm hw (lv_sub hl [0, 1, 2] rfl)
theorem mw_formalHere_60 (fu : Nat) {res : Int32 × PF × PG} (C : mMC p R s m args c A v RX12 cX12_formalHere 5 3 68) (hret : ∀ (H1 : Heap) (locs1 : List Loc) (ls1 : Array Slot) (pc : Nat), mMW s A v a res.2.1 res.2.2 H1 locs1 → narrow .int (.int res.1) = .int res.1 → decode cX12_formalHere pc = .ok (.ireturn, 1) → W p l e R s m args below meth c H1 locs1 0 0 Q (F0 m pc ls1 [.int res.1])) (x2 : Int32) (x3 : Int32) (F : PF) (G : PG) (hm : mb_formalHere_60 fu x2 x3 F G = some res) {H : Heap} {locs : List Loc} (hw : mMW s A v a F G H locs) {ls : Array Slot} (hl : lv_has ls 5 [(0, .ref (a 212)), (2, .int x2), (3, .int x3)]) : W p l e R s m args below meth c H locs 0 0 Q (F0 m 60 ls []) := by
  have hx := C.1
  have hb := C.2.1
  unfold mb_formalHere_60 at hm
  refine lv_aload_n hx hb dX12_formalHere_60 rfl (lv_at hl 0 rfl) ?_
  refine lv_bipush (v := 11) hx hb dX12_formalHere_61 (by decide) ?_
  refine lv_aload_n hx hb dX12_formalHere_63 rfl (lv_at hl 0 rfl) ?_
  refine mg_X12_22 C hw dX12_formalHere_64 ?_
  refine lv_iload_n hx hb dX12_formalHere_67 rfl (lv_at hl 2 rfl) ?_
  obtain ⟨hi, hm⟩ := ix_elim hm
  refine mal_6 C hw hi dX12_formalHere_68 ?_
  obtain ⟨⟨r1, F1, G1⟩, hc, hm⟩ := bind_elim hm
  refine mcallV (n := 2) (As := [.int 11, .int (G 6 x3.toNatClampNeg)]) (rest := []) C hw (mk_note l v a _ fu 11 (G 6 x3.toNatClampNeg) F G r1 F1 G1 hc) (mrecv_X12 C hw) mm_220 mm_221 mm_222 mm_27 mm_223 (by decide +kernel) rfl (by omega) (by omega) hl.1 rfl (Nat.le_of_ble_eq_true rfl) dX12_formalHere_69 (fun H locs hw => ?_)
  exact mw_formalHere_72 fu C hret x2 x3 F1 G1 hm hw (lv_sub hl [0, 1, 2] rfl)
theorem mw_formalHere_55 (fu : Nat) {res : Int32 × PF × PG} (C : mMC p R s m args c A v RX12 cX12_formalHere 5 3 68) (hret : ∀ (H1 : Heap) (locs1 : List Loc) (ls1 : Array Slot) (pc : Nat), mMW s A v a res.2.1 res.2.2 H1 locs1 → narrow .int (.int res.1) = .int res.1 → decode cX12_formalHere pc = .ok (.ireturn, 1) → W p l e R s m args below meth c H1 locs1 0 0 Q (F0 m pc ls1 [.int res.1])) (x1 : Int32) (x2 : Int32) (x3 : Int32) (F : PF) (G : PG) (hm : mb_formalHere_55 fu x1 x2 x3 F G = some res) {H : Heap} {locs : List Loc} (hw : mMW s A v a F G H locs) {ls : Array Slot} (hl : lv_has ls 5 [(0, .ref (a 212)), (1, .int x1), (2, .int x2), (3, .int x3)]) : W p l e R s m args below meth c H locs 0 0 Q (F0 m 55 ls []) := by
  have hx := C.1
  have hb := C.2.1
  unfold mb_formalHere_55 at hm
  refine lv_iload_n hx hb dX12_formalHere_55 rfl (lv_at hl 1 rfl) ?_
  refine lv_iconst (v := 4) hx hb dX12_formalHere_56 (by decide) ?_
  refine lv_icmp_ne (tgt := 72) hx hb dX12_formalHere_57 (by decide) (fun c_1 => ?_) (fun c_1 => ?_)
  · have hm := (if_neg c_1).symm.trans hm
    exact mw_formalHere_72 fu C hret x2 x3 F G hm hw (lv_sub hl [0, 2, 3] rfl)
  · have hm := (if_pos c_1).symm.trans hm
    exact mw_formalHere_60 fu C hret x2 x3 F G hm hw (lv_sub hl [0, 2, 3] rfl)
theorem mw_formalHere_50 (fu : Nat) {res : Int32 × PF × PG} (C : mMC p R s m args c A v RX12 cX12_formalHere 5 3 68) (hret : ∀ (H1 : Heap) (locs1 : List Loc) (ls1 : Array Slot) (pc : Nat), mMW s A v a res.2.1 res.2.2 H1 locs1 → narrow .int (.int res.1) = .int res.1 → decode cX12_formalHere pc = .ok (.ireturn, 1) → W p l e R s m args below meth c H1 locs1 0 0 Q (F0 m pc ls1 [.int res.1])) (x1 : Int32) (x2 : Int32) (x3 : Int32) (F : PF) (G : PG) (hm : mb_formalHere_50 fu x1 x2 x3 F G = some res) {H : Heap} {locs : List Loc} (hw : mMW s A v a F G H locs) {ls : Array Slot} (hl : lv_has ls 5 [(0, .ref (a 212)), (1, .int x1), (2, .int x2), (3, .int x3)]) : W p l e R s m args below meth c H locs 0 0 Q (F0 m 50 ls []) := by
  have hx := C.1
  have hb := C.2.1
  unfold mb_formalHere_50 at hm
  refine lv_aload_n hx hb dX12_formalHere_50 rfl (lv_at hl 0 rfl) ?_
  refine lv_iload_n hx hb dX12_formalHere_51 rfl (lv_at hl 3 rfl) ?_
  obtain ⟨⟨r1, F1, G1⟩, hc, hm⟩ := bind_elim hm
  refine mcallV (n := 1) (As := [.int x3]) (rest := []) C hw (mk_twice l v a _ fu x3 F G r1 F1 G1 hc) (mrecv_X12 C hw) mm_310 mm_311 mm_312 mm_27 mm_313 (by decide +kernel) rfl (by omega) (by omega) hl.1 rfl (Nat.le_of_ble_eq_true rfl) dX12_formalHere_52 (fun H locs hw => ?_)
  exact mw_formalHere_55 fu C hret x1 x2 x3 F1 G1 hm hw (lv_sub hl [0, 1, 2, 3] rfl)
theorem mw_formalHere_48 (fu : Nat) {res : Int32 × PF × PG} (C : mMC p R s m args c A v RX12 cX12_formalHere 5 3 68) (hret : ∀ (H1 : Heap) (locs1 : List Loc) (ls1 : Array Slot) (pc : Nat), mMW s A v a res.2.1 res.2.2 H1 locs1 → narrow .int (.int res.1) = .int res.1 → decode cX12_formalHere pc = .ok (.ireturn, 1) → W p l e R s m args below meth c H1 locs1 0 0 Q (F0 m pc ls1 [.int res.1])) (F : PF) (G : PG) (hm : mb_formalHere_48 fu F G = some res) {H : Heap} {locs : List Loc} (hw : mMW s A v a F G H locs) {ls : Array Slot} (hl : lv_has ls 5 []) : W p l e R s m args below meth c H locs 0 0 Q (F0 m 48 ls []) := by
  have hx := C.1
  have hb := C.2.1
  unfold mb_formalHere_48 at hm
  refine lv_iconst (v := 0) hx hb dX12_formalHere_48 (by decide) ?_
  obtain rfl := Option.some.inj hm
  exact hret _ _ _ _ hw rfl dX12_formalHere_49
theorem mw_formalHere_40 (fu : Nat) {res : Int32 × PF × PG} (C : mMC p R s m args c A v RX12 cX12_formalHere 5 3 68) (hret : ∀ (H1 : Heap) (locs1 : List Loc) (ls1 : Array Slot) (pc : Nat), mMW s A v a res.2.1 res.2.2 H1 locs1 → narrow .int (.int res.1) = .int res.1 → decode cX12_formalHere pc = .ok (.ireturn, 1) → W p l e R s m args below meth c H1 locs1 0 0 Q (F0 m pc ls1 [.int res.1])) (x1 : Int32) (x2 : Int32) (z0 : Int32) (F : PF) (G : PG) (hm : mb_formalHere_40 fu x1 x2 z0 F G = some res) {H : Heap} {locs : List Loc} (hw : mMW s A v a F G H locs) {ls : Array Slot} (hl : lv_has ls 5 [(0, .ref (a 212)), (1, .int x1), (2, .int x2)]) : W p l e R s m args below meth c H locs 0 0 Q (F0 m 40 ls [.int z0]) := by
  have hx := C.1
  have hb := C.2.1
  unfold mb_formalHere_40 at hm
  refine lv_istore_n (lv' := [(3, .int z0), (0, .ref (a 212)), (1, .int x1), (2, .int x2)]) hx hb dX12_formalHere_40 rfl hl (by decide) rfl (fun ls hl => ?_)
  refine lv_aload_n hx hb dX12_formalHere_41 rfl (lv_at hl 1 rfl) ?_
  refine mg_X12_230 C hw dX12_formalHere_42 ?_
  refine lv_if_le (tgt := 50) hx hb dX12_formalHere_45 (by decide) (fun c_1 => ?_) (fun c_1 => ?_)
  · have hm := (if_pos c_1).symm.trans hm
    exact mw_formalHere_50 fu C hret x1 x2 z0 F G hm hw (lv_sub hl [1, 2, 3, 0] rfl)
  · have hm := (if_neg c_1).symm.trans hm
    exact mw_formalHere_48 fu C hret F G hm hw (lv_sub hl [] rfl)
theorem mw_formalHere_36 (fu : Nat) {res : Int32 × PF × PG} (C : mMC p R s m args c A v RX12 cX12_formalHere 5 3 68) (hret : ∀ (H1 : Heap) (locs1 : List Loc) (ls1 : Array Slot) (pc : Nat), mMW s A v a res.2.1 res.2.2 H1 locs1 → narrow .int (.int res.1) = .int res.1 → decode cX12_formalHere pc = .ok (.ireturn, 1) → W p l e R s m args below meth c H1 locs1 0 0 Q (F0 m pc ls1 [.int res.1])) (x1 : Int32) (x2 : Int32) (F : PF) (G : PG) (hm : mb_formalHere_36 fu x1 x2 F G = some res) {H : Heap} {locs : List Loc} (hw : mMW s A v a F G H locs) {ls : Array Slot} (hl : lv_has ls 5 [(0, .ref (a 212)), (1, .int x1), (2, .int x2)]) : W p l e R s m args below meth c H locs 0 0 Q (F0 m 36 ls []) := by
  have hx := C.1
  have hb := C.2.1
  unfold mb_formalHere_36 at hm
  refine lv_aload_n hx hb dX12_formalHere_36 rfl (lv_at hl 0 rfl) ?_
  obtain ⟨⟨r1, F1, G1⟩, hc, hm⟩ := bind_elim hm
  refine mcallI (n := 0) (As := []) (rest := []) C hw (mk_name l v a _ fu F G r1 F1 G1 hc) (mrecv_X12 C hw) mm_175 mm_176 mm_177 mm_27 mm_178 (by decide +kernel) rfl (by omega) (by omega) hl.1 rfl (Nat.le_of_ble_eq_true rfl) dX12_formalHere_37 (fun H locs hw => ?_)
  exact mw_formalHere_40 fu C hret x1 x2 r1 F1 G1 hm hw (lv_sub hl [0, 1, 2] rfl)
theorem mw_formalHere_26 (fu : Nat) {res : Int32 × PF × PG} (C : mMC p R s m args c A v RX12 cX12_formalHere 5 3 68) (hret : ∀ (H1 : Heap) (locs1 : List Loc) (ls1 : Array Slot) (pc : Nat), mMW s A v a res.2.1 res.2.2 H1 locs1 → narrow .int (.int res.1) = .int res.1 → decode cX12_formalHere pc = .ok (.ireturn, 1) → W p l e R s m args below meth c H1 locs1 0 0 Q (F0 m pc ls1 [.int res.1])) (x1 : Int32) (x2 : Int32) (F : PF) (G : PG) (hm : mb_formalHere_26 fu x1 x2 F G = some res) {H : Heap} {locs : List Loc} (hw : mMW s A v a F G H locs) {ls : Array Slot} (hl : lv_has ls 5 [(0, .ref (a 212)), (1, .int x1), (2, .int x2)]) : W p l e R s m args below meth c H locs 0 0 Q (F0 m 26 ls []) := by
  have hx := C.1
  have hb := C.2.1
  unfold mb_formalHere_26 at hm
  refine lv_aload_n hx hb dX12_formalHere_26 rfl (lv_at hl 0 rfl) ?_
  refine lv_dup hx hb dX12_formalHere_27 rfl ?_
  refine mg_X12_233 C hw dX12_formalHere_28 ?_
  refine lv_iconst (v := 1) hx hb dX12_formalHere_31 (by decide) ?_
  refine lv_iadd hx hb dX12_formalHere_32 ?_
  refine mp_X12_233 C hw dX12_formalHere_33 (fun H locs hw => ?_)
  exact mw_formalHere_36 fu C hret x1 x2 (fup F 42 ((F 42) + (1 : Int32))) G hm hw (lv_sub hl [0, 1, 2] rfl)
theorem mw_formalHere_23 (fu : Nat) {res : Int32 × PF × PG} (C : mMC p R s m args c A v RX12 cX12_formalHere 5 3 68) (hret : ∀ (H1 : Heap) (locs1 : List Loc) (ls1 : Array Slot) (pc : Nat), mMW s A v a res.2.1 res.2.2 H1 locs1 → narrow .int (.int res.1) = .int res.1 → decode cX12_formalHere pc = .ok (.ireturn, 1) → W p l e R s m args below meth c H1 locs1 0 0 Q (F0 m pc ls1 [.int res.1])) (z0 : Int32) (F : PF) (G : PG) (hm : mb_formalHere_23 fu z0 F G = some res) {H : Heap} {locs : List Loc} (hw : mMW s A v a F G H locs) {ls : Array Slot} (hl : lv_has ls 5 []) : W p l e R s m args below meth c H locs 0 0 Q (F0 m 23 ls [.int z0]) := by
  have hx := C.1
  have hb := C.2.1
  unfold mb_formalHere_23 at hm
  refine lv_pop hx hb dX12_formalHere_23 rfl ?_
  refine lv_iconst (v := 0) hx hb dX12_formalHere_24 (by decide) ?_
  obtain rfl := Option.some.inj hm
  exact hret _ _ _ _ hw rfl dX12_formalHere_25
theorem mw_formalHere_18 (fu : Nat) {res : Int32 × PF × PG} (C : mMC p R s m args c A v RX12 cX12_formalHere 5 3 68) (hret : ∀ (H1 : Heap) (locs1 : List Loc) (ls1 : Array Slot) (pc : Nat), mMW s A v a res.2.1 res.2.2 H1 locs1 → narrow .int (.int res.1) = .int res.1 → decode cX12_formalHere pc = .ok (.ireturn, 1) → W p l e R s m args below meth c H1 locs1 0 0 Q (F0 m pc ls1 [.int res.1])) (F : PF) (G : PG) (hm : mb_formalHere_18 fu F G = some res) {H : Heap} {locs : List Loc} (hw : mMW s A v a F G H locs) {ls : Array Slot} (hl : lv_has ls 5 [(0, .ref (a 212))]) : W p l e R s m args below meth c H locs 0 0 Q (F0 m 18 ls []) := by
  have hx := C.1
  have hb := C.2.1
  unfold mb_formalHere_18 at hm
  refine lv_aload_n hx hb dX12_formalHere_18 rfl (lv_at hl 0 rfl) ?_
  refine lv_iconst (v := 2) hx hb dX12_formalHere_19 (by decide) ?_
  obtain ⟨⟨r1, F1, G1⟩, hc, hm⟩ := bind_elim hm
  refine mcallI (n := 1) (As := [.int 2]) (rest := []) C hw (mk_fails l v a _ fu 2 F G r1 F1 G1 hc) (mrecv_X12 C hw) mm_166 mm_167 mm_168 mm_27 mm_169 (by decide +kernel) rfl (by omega) (by omega) hl.1 rfl (Nat.le_of_ble_eq_true rfl) dX12_formalHere_20 (fun H locs hw => ?_)
  exact mw_formalHere_23 fu C hret r1 F1 G1 hm hw (lv_sub hl [] rfl)
theorem mw_formalHere_15 (fu : Nat) {res : Int32 × PF × PG} (C : mMC p R s m args c A v RX12 cX12_formalHere 5 3 68) (hret : ∀ (H1 : Heap) (locs1 : List Loc) (ls1 : Array Slot) (pc : Nat), mMW s A v a res.2.1 res.2.2 H1 locs1 → narrow .int (.int res.1) = .int res.1 → decode cX12_formalHere pc = .ok (.ireturn, 1) → W p l e R s m args below meth c H1 locs1 0 0 Q (F0 m pc ls1 [.int res.1])) (x1 : Int32) (x2 : Int32) (z0 : Int32) (F : PF) (G : PG) (hm : mb_formalHere_15 fu x1 x2 z0 F G = some res) {H : Heap} {locs : List Loc} (hw : mMW s A v a F G H locs) {ls : Array Slot} (hl : lv_has ls 5 [(0, .ref (a 212)), (1, .int x1), (2, .int x2)]) : W p l e R s m args below meth c H locs 0 0 Q (F0 m 15 ls [.int z0]) := by
  have hx := C.1
  have hb := C.2.1
  unfold mb_formalHere_15 at hm
  refine lv_if_ne (tgt := 26) hx hb dX12_formalHere_15 (by decide) (fun c_1 => ?_) (fun c_1 => ?_)
  · have hm := (if_neg c_1).symm.trans hm
    exact mw_formalHere_26 fu C hret x1 x2 F G hm hw (lv_sub hl [0, 1, 2] rfl)
  · have hm := (if_pos c_1).symm.trans hm
    exact mw_formalHere_18 fu C hret F G hm hw (lv_sub hl [0] rfl)
theorem mw_formalHere_10 (fu : Nat) {res : Int32 × PF × PG} (C : mMC p R s m args c A v RX12 cX12_formalHere 5 3 68) (hret : ∀ (H1 : Heap) (locs1 : List Loc) (ls1 : Array Slot) (pc : Nat), mMW s A v a res.2.1 res.2.2 H1 locs1 → narrow .int (.int res.1) = .int res.1 → decode cX12_formalHere pc = .ok (.ireturn, 1) → W p l e R s m args below meth c H1 locs1 0 0 Q (F0 m pc ls1 [.int res.1])) (x1 : Int32) (x2 : Int32) (F : PF) (G : PG) (hm : mb_formalHere_10 fu x1 x2 F G = some res) {H : Heap} {locs : List Loc} (hw : mMW s A v a F G H locs) {ls : Array Slot} (hl : lv_has ls 5 [(0, .ref (a 212)), (1, .int x1), (2, .int x2)]) : W p l e R s m args below meth c H locs 0 0 Q (F0 m 10 ls []) := by
  have hx := C.1
  have hb := C.2.1
  unfold mb_formalHere_10 at hm
  refine lv_aload_n hx hb dX12_formalHere_10 rfl (lv_at hl 0 rfl) ?_
  refine lv_iconst (v := 0) hx hb dX12_formalHere_11 (by decide) ?_
  obtain ⟨⟨r1, F1, G1⟩, hc, hm⟩ := bind_elim hm
  refine mcallI (n := 1) (As := [.int 0]) (rest := []) C hw (mk_isWord l v a _ fu 0 F G r1 F1 G1 hc) (mrecv_X12 C hw) mm_162 mm_163 mm_164 mm_27 mm_165 (by decide +kernel) rfl (by omega) (by omega) hl.1 rfl (Nat.le_of_ble_eq_true rfl) dX12_formalHere_12 (fun H locs hw => ?_)
  exact mw_formalHere_15 fu C hret x1 x2 r1 F1 G1 hm hw (lv_sub hl [0, 1, 2] rfl)
theorem mw_formalHere_5 (fu : Nat) {res : Int32 × PF × PG} (C : mMC p R s m args c A v RX12 cX12_formalHere 5 3 68) (hret : ∀ (H1 : Heap) (locs1 : List Loc) (ls1 : Array Slot) (pc : Nat), mMW s A v a res.2.1 res.2.2 H1 locs1 → narrow .int (.int res.1) = .int res.1 → decode cX12_formalHere pc = .ok (.ireturn, 1) → W p l e R s m args below meth c H1 locs1 0 0 Q (F0 m pc ls1 [.int res.1])) (x1 : Int32) (z0 : Int32) (F : PF) (G : PG) (hm : mb_formalHere_5 fu x1 z0 F G = some res) {H : Heap} {locs : List Loc} (hw : mMW s A v a F G H locs) {ls : Array Slot} (hl : lv_has ls 5 [(0, .ref (a 212)), (1, .int x1)]) : W p l e R s m args below meth c H locs 0 0 Q (F0 m 5 ls [.int z0]) := by
  have hx := C.1
  have hb := C.2.1
  unfold mb_formalHere_5 at hm
  refine lv_istore_n (lv' := [(2, .int z0), (0, .ref (a 212)), (1, .int x1)]) hx hb dX12_formalHere_5 rfl hl (by decide) rfl (fun ls hl => ?_)
  refine lv_iload_n hx hb dX12_formalHere_6 rfl (lv_at hl 0 rfl) ?_
  refine lv_if_ne (tgt := 26) hx hb dX12_formalHere_7 (by decide) (fun c_1 => ?_) (fun c_1 => ?_)
  · have hm := (if_neg c_1).symm.trans hm
    exact mw_formalHere_26 fu C hret x1 z0 F G hm hw (lv_sub hl [1, 2, 0] rfl)
  · have hm := (if_pos c_1).symm.trans hm
    exact mw_formalHere_10 fu C hret x1 z0 F G hm hw (lv_sub hl [1, 2, 0] rfl)
theorem mw_formalHere_0 (fu : Nat) {res : Int32 × PF × PG} (C : mMC p R s m args c A v RX12 cX12_formalHere 5 3 68) (hret : ∀ (H1 : Heap) (locs1 : List Loc) (ls1 : Array Slot) (pc : Nat), mMW s A v a res.2.1 res.2.2 H1 locs1 → narrow .int (.int res.1) = .int res.1 → decode cX12_formalHere pc = .ok (.ireturn, 1) → W p l e R s m args below meth c H1 locs1 0 0 Q (F0 m pc ls1 [.int res.1])) (x1 : Int32) (F : PF) (G : PG) (hm : mb_formalHere_0 fu x1 F G = some res) {H : Heap} {locs : List Loc} (hw : mMW s A v a F G H locs) {ls : Array Slot} (hl : lv_has ls 5 [(0, .ref (a 212)), (1, .int x1)]) : W p l e R s m args below meth c H locs 0 0 Q (F0 m 0 ls []) := by
  have hx := C.1
  have hb := C.2.1
  unfold mb_formalHere_0 at hm
  refine lv_aload_n hx hb dX12_formalHere_0 rfl (lv_at hl 0 rfl) ?_
  refine lv_iconst (v := 1) hx hb dX12_formalHere_1 (by decide) ?_
  obtain ⟨⟨r1, F1, G1⟩, hc, hm⟩ := bind_elim hm
  refine mcallI (n := 1) (As := [.int 1]) (rest := []) C hw (mk_isWord l v a _ fu 1 F G r1 F1 G1 hc) (mrecv_X12 C hw) mm_162 mm_163 mm_164 mm_27 mm_165 (by decide +kernel) rfl (by omega) (by omega) hl.1 rfl (Nat.le_of_ble_eq_true rfl) dX12_formalHere_2 (fun H locs hw => ?_)
  exact mw_formalHere_5 fu C hret x1 r1 F1 G1 hm hw (lv_sub hl [0, 1] rfl)
theorem mk_formalHere (l : Launch) (v : EV) (a : Nat → Nat) (sz : Nat) (fu : Nat) (x1 : Int32) (F : PF) (G : PG) (r : Int32) (F1 : PF) (G1 : PG) (hm : mf_formalHere fu x1 F G = some (r, F1, G1)) : mMI l yX12_formalHere cX12_formalHere 5 (some .int) 3 68 v a sz [.ref (a 212), .int x1] F G r F1 G1 := mMI.of (ty := .int) (by decide) rfl (Nat.le_of_ble_eq_true rfl) (fun p e R s m args below meth c Q A H locs ls C hw hl hret => mw_formalHere_0 fu (res := (r, F1, G1)) C hret x1 F G hm hw hl)
def mb_ends_40 (fu : Nat) (F : PF) (G : PG) : PR := some (0, F, G)
def mb_ends_35 (fu : Nat) (x1 : Int32) (F : PF) (G : PG) : PR := mb_ends_40 fu (fup F 15 x1) G
def mb_ends_32 (fu : Nat) (ag_0 : Int32 → PF → PG → PR) (x1 : Int32) (F : PF) (G : PG) : PR := ag_0 x1 F G
def mb_ends_22 (fu : Nat) (ag_0 : Int32 → PF → PG → PR) (x1 : Int32) (F : PF) (G : PG) : PR := mb_ends_32 fu ag_0 x1 (fup F 14 ((F 14) - (1 : Int32))) G
def mb_ends_7 (fu : Nat) (ag_0 : Int32 → PF → PG → PR) (x1 : Int32) (F : PF) (G : PG) : PR := if ixb ((F 14) - (1 : Int32)) 900 = true then (if (G 19 ((F 14) - (1 : Int32)).toNatClampNeg) ≤ x1 then mb_ends_35 fu x1 F G else mb_ends_22 fu ag_0 x1 F G) else none
def mb_ends_0 (fu : Nat) (ag_0 : Int32 → PF → PG → PR) (x1 : Int32) (F : PF) (G : PG) : PR := if (F 14) ≤ (0 : Int32) then mb_ends_35 fu x1 F G else mb_ends_7 fu ag_0 x1 F G
def ml_ends_0 (fu : Nat) : Nat → Int32 → PF → PG → PR
  | 0 => fun _ _ _ => none
  | n + 1 => fun x1 F G => mb_ends_0 fu (ml_ends_0 fu n) x1 F G
def mf_ends (fu : Nat) (x1 : Int32) (F : PF) (G : PG) : PR := ml_ends_0 fu fu x1 F G
theorem mw_ends_40 (fu : Nat) {res : Int32 × PF × PG} (C : mMC p R s m args c A v RX12 cX12_ends 2 0 0) (hret : ∀ (H1 : Heap) (locs1 : List Loc) (ls1 : Array Slot) (pc : Nat), mMW s A v a res.2.1 res.2.2 H1 locs1 → decode cX12_ends pc = .ok (.return_, 1) → W p l e R s m args below meth c H1 locs1 0 0 Q (F0 m pc ls1 [])) (F : PF) (G : PG) (hm : mb_ends_40 fu F G = some res) {H : Heap} {locs : List Loc} (hw : mMW s A v a F G H locs) {ls : Array Slot} (hl : lv_has ls 2 []) : W p l e R s m args below meth c H locs 0 0 Q (F0 m 40 ls []) := by
  have hx := C.1
  have hb := C.2.1
  unfold mb_ends_40 at hm
  obtain rfl := Option.some.inj hm
  exact hret _ _ _ _ hw dX12_ends_40
theorem mw_ends_35 (fu : Nat) {res : Int32 × PF × PG} (C : mMC p R s m args c A v RX12 cX12_ends 2 0 0) (hret : ∀ (H1 : Heap) (locs1 : List Loc) (ls1 : Array Slot) (pc : Nat), mMW s A v a res.2.1 res.2.2 H1 locs1 → decode cX12_ends pc = .ok (.return_, 1) → W p l e R s m args below meth c H1 locs1 0 0 Q (F0 m pc ls1 [])) (x1 : Int32) (F : PF) (G : PG) (hm : mb_ends_35 fu x1 F G = some res) {H : Heap} {locs : List Loc} (hw : mMW s A v a F G H locs) {ls : Array Slot} (hl : lv_has ls 2 [(0, .ref (a 212)), (1, .int x1)]) : W p l e R s m args below meth c H locs 0 0 Q (F0 m 35 ls []) := by
  have hx := C.1
  have hb := C.2.1
  unfold mb_ends_35 at hm
  refine lv_aload_n hx hb dX12_ends_35 rfl (lv_at hl 0 rfl) ?_
  refine lv_iload_n hx hb dX12_ends_36 rfl (lv_at hl 1 rfl) ?_
  refine mp_X12_282 C hw dX12_ends_37 (fun H locs hw => ?_)
  exact mw_ends_40 fu C hret (fup F 15 x1) G hm hw (lv_sub hl [] rfl)
theorem mw_ends_32 (fu : Nat) {res : Int32 × PF × PG} (C : mMC p R s m args c A v RX12 cX12_ends 2 0 0) (hret : ∀ (H1 : Heap) (locs1 : List Loc) (ls1 : Array Slot) (pc : Nat), mMW s A v a res.2.1 res.2.2 H1 locs1 → decode cX12_ends pc = .ok (.return_, 1) → W p l e R s m args below meth c H1 locs1 0 0 Q (F0 m pc ls1 [])) (ag_0 : Int32 → PF → PG → PR) (hag_0 : ∀ (x1 : Int32) (F : PF) (G : PG), ag_0 x1 F G = some res → ∀ (H : Heap) (locs : List Loc) (ls : Array Slot), mMW s A v a F G H locs → lv_has ls 2 [(0, .ref (a 212)), (1, .int x1)] → W p l e R s m args below meth c H locs 0 0 Q (F0 m 0 ls [])) (x1 : Int32) (F : PF) (G : PG) (hm : mb_ends_32 fu ag_0 x1 F G = some res) {H : Heap} {locs : List Loc} (hw : mMW s A v a F G H locs) {ls : Array Slot} (hl : lv_has ls 2 [(0, .ref (a 212)), (1, .int x1)]) : W p l e R s m args below meth c H locs 0 0 Q (F0 m 32 ls []) := by
  have hx := C.1
  have hb := C.2.1
  unfold mb_ends_32 at hm
  refine lv_goto (tgt := 0) hx hb dX12_ends_32 (by decide) ?_
  exact hag_0 x1 F G hm _ _ _ hw (lv_sub hl [0, 1] rfl)
theorem mw_ends_22 (fu : Nat) {res : Int32 × PF × PG} (C : mMC p R s m args c A v RX12 cX12_ends 2 0 0) (hret : ∀ (H1 : Heap) (locs1 : List Loc) (ls1 : Array Slot) (pc : Nat), mMW s A v a res.2.1 res.2.2 H1 locs1 → decode cX12_ends pc = .ok (.return_, 1) → W p l e R s m args below meth c H1 locs1 0 0 Q (F0 m pc ls1 [])) (ag_0 : Int32 → PF → PG → PR) (hag_0 : ∀ (x1 : Int32) (F : PF) (G : PG), ag_0 x1 F G = some res → ∀ (H : Heap) (locs : List Loc) (ls : Array Slot), mMW s A v a F G H locs → lv_has ls 2 [(0, .ref (a 212)), (1, .int x1)] → W p l e R s m args below meth c H locs 0 0 Q (F0 m 0 ls [])) (x1 : Int32) (F : PF) (G : PG) (hm : mb_ends_22 fu ag_0 x1 F G = some res) {H : Heap} {locs : List Loc} (hw : mMW s A v a F G H locs) {ls : Array Slot} (hl : lv_has ls 2 [(0, .ref (a 212)), (1, .int x1)]) : W p l e R s m args below meth c H locs 0 0 Q (F0 m 22 ls []) := by
  have hx := C.1
  have hb := C.2.1
  unfold mb_ends_22 at hm
  refine lv_aload_n hx hb dX12_ends_22 rfl (lv_at hl 0 rfl) ?_
  refine lv_dup hx hb dX12_ends_23 rfl ?_
  refine mg_X12_279 C hw dX12_ends_24 ?_
  refine lv_iconst (v := 1) hx hb dX12_ends_27 (by decide) ?_
  refine lv_isub hx hb dX12_ends_28 ?_
  refine mp_X12_279 C hw dX12_ends_29 (fun H locs hw => ?_)
  exact mw_ends_32 fu C hret ag_0 hag_0 x1 (fup F 14 ((F 14) - (1 : Int32))) G hm hw (lv_sub hl [0, 1] rfl)
theorem mw_ends_7 (fu : Nat) {res : Int32 × PF × PG} (C : mMC p R s m args c A v RX12 cX12_ends 2 0 0) (hret : ∀ (H1 : Heap) (locs1 : List Loc) (ls1 : Array Slot) (pc : Nat), mMW s A v a res.2.1 res.2.2 H1 locs1 → decode cX12_ends pc = .ok (.return_, 1) → W p l e R s m args below meth c H1 locs1 0 0 Q (F0 m pc ls1 [])) (ag_0 : Int32 → PF → PG → PR) (hag_0 : ∀ (x1 : Int32) (F : PF) (G : PG), ag_0 x1 F G = some res → ∀ (H : Heap) (locs : List Loc) (ls : Array Slot), mMW s A v a F G H locs → lv_has ls 2 [(0, .ref (a 212)), (1, .int x1)] → W p l e R s m args below meth c H locs 0 0 Q (F0 m 0 ls [])) (x1 : Int32) (F : PF) (G : PG) (hm : mb_ends_7 fu ag_0 x1 F G = some res) {H : Heap} {locs : List Loc} (hw : mMW s A v a F G H locs) {ls : Array Slot} (hl : lv_has ls 2 [(0, .ref (a 212)), (1, .int x1)]) : W p l e R s m args below meth c H locs 0 0 Q (F0 m 7 ls []) := by
  have hx := C.1
  have hb := C.2.1
  unfold mb_ends_7 at hm
  refine lv_aload_n hx hb dX12_ends_7 rfl (lv_at hl 0 rfl) ?_
  refine mg_X12_46 C hw dX12_ends_8 ?_
  refine lv_aload_n hx hb dX12_ends_11 rfl (lv_at hl 0 rfl) ?_
  refine mg_X12_279 C hw dX12_ends_12 ?_
  refine lv_iconst (v := 1) hx hb dX12_ends_15 (by decide) ?_
  refine lv_isub hx hb dX12_ends_16 ?_
  obtain ⟨hi, hm⟩ := ix_elim hm
  refine mal_19 C hw hi dX12_ends_17 ?_
  refine lv_iload_n hx hb dX12_ends_18 rfl (lv_at hl 1 rfl) ?_
  refine lv_icmp_le (tgt := 35) hx hb dX12_ends_19 (by decide) (fun c_1 => ?_) (fun c_1 => ?_)
  · have hm := (if_pos c_1).symm.trans hm
    exact mw_ends_35 fu C hret x1 F G hm hw (lv_sub hl [0, 1] rfl)
  · have hm := (if_neg c_1).symm.trans hm
    exact mw_ends_22 fu C hret ag_0 hag_0 x1 F G hm hw (lv_sub hl [0, 1] rfl)
theorem mw_ends_0 (fu : Nat) {res : Int32 × PF × PG} (C : mMC p R s m args c A v RX12 cX12_ends 2 0 0) (hret : ∀ (H1 : Heap) (locs1 : List Loc) (ls1 : Array Slot) (pc : Nat), mMW s A v a res.2.1 res.2.2 H1 locs1 → decode cX12_ends pc = .ok (.return_, 1) → W p l e R s m args below meth c H1 locs1 0 0 Q (F0 m pc ls1 [])) (ag_0 : Int32 → PF → PG → PR) (hag_0 : ∀ (x1 : Int32) (F : PF) (G : PG), ag_0 x1 F G = some res → ∀ (H : Heap) (locs : List Loc) (ls : Array Slot), mMW s A v a F G H locs → lv_has ls 2 [(0, .ref (a 212)), (1, .int x1)] → W p l e R s m args below meth c H locs 0 0 Q (F0 m 0 ls [])) (x1 : Int32) (F : PF) (G : PG) (hm : mb_ends_0 fu ag_0 x1 F G = some res) {H : Heap} {locs : List Loc} (hw : mMW s A v a F G H locs) {ls : Array Slot} (hl : lv_has ls 2 [(0, .ref (a 212)), (1, .int x1)]) : W p l e R s m args below meth c H locs 0 0 Q (F0 m 0 ls []) := by
  have hx := C.1
  have hb := C.2.1
  unfold mb_ends_0 at hm
  refine lv_aload_n hx hb dX12_ends_0 rfl (lv_at hl 0 rfl) ?_
  refine mg_X12_279 C hw dX12_ends_1 ?_
  refine lv_if_le (tgt := 35) hx hb dX12_ends_4 (by decide) (fun c_1 => ?_) (fun c_1 => ?_)
  · have hm := (if_pos c_1).symm.trans hm
    exact mw_ends_35 fu C hret x1 F G hm hw (lv_sub hl [0, 1] rfl)
  · have hm := (if_neg c_1).symm.trans hm
    exact mw_ends_7 fu C hret ag_0 hag_0 x1 F G hm hw (lv_sub hl [0, 1] rfl)
theorem mwl_ends_0 (fu : Nat) {res : Int32 × PF × PG} (C : mMC p R s m args c A v RX12 cX12_ends 2 0 0) (hret : ∀ (H1 : Heap) (locs1 : List Loc) (ls1 : Array Slot) (pc : Nat), mMW s A v a res.2.1 res.2.2 H1 locs1 → decode cX12_ends pc = .ok (.return_, 1) → W p l e R s m args below meth c H1 locs1 0 0 Q (F0 m pc ls1 [])) : ∀ (n : Nat) (x1 : Int32) (F : PF) (G : PG) (hm : ml_ends_0 fu n x1 F G = some res) {H : Heap} {locs : List Loc} (hw : mMW s A v a F G H locs) {ls : Array Slot} (hl : lv_has ls 2 [(0, .ref (a 212)), (1, .int x1)]), W p l e R s m args below meth c H locs 0 0 Q (F0 m 0 ls []) := by
  intro n
  induction n with
  | zero =>
    intro x1 F G hm
    exact no_elim (show (none : PR) = some res from hm)
  | succ n ih =>
    intro x1 F G hm H locs hw ls hl
    exact mw_ends_0 fu C hret (ml_ends_0 fu n) (fun x1 F G hm H locs ls hw hl => ih x1 F G hm hw hl) x1 F G hm hw hl
theorem mk_ends (l : Launch) (v : EV) (a : Nat → Nat) (sz : Nat) (fu : Nat) (x1 : Int32) (F : PF) (G : PG) (r : Int32) (F1 : PF) (G1 : PG) (hm : mf_ends fu x1 F G = some (r, F1, G1)) : mMV l yX12_ends cX12_ends 2 0 0 v a sz [.ref (a 212), .int x1] F G F1 G1 := mMV.of (by decide) (Nat.le_of_ble_eq_true rfl) (fun p e R s m args below meth c Q A H locs ls C hw hl hret => mwl_ends_0 fu (res := (r, F1, G1)) C hret fu x1 F G hm hw hl)
def mb_condition_30 (fu : Nat) (z0 : Int32) (F : PF) (G : PG) : PR := if b01 z0 = true then (some (z0, F, G)) else none
def mb_condition_29 (fu : Nat) (F : PF) (G : PG) : PR := mb_condition_30 fu 0 F G
def mb_condition_25 (fu : Nat) (F : PF) (G : PG) : PR := mb_condition_30 fu 1 F G
def mb_condition_22 (fu : Nat) (z0 : Int32) (F : PF) (G : PG) : PR := if z0 = (0 : Int32) then mb_condition_29 fu F G else mb_condition_25 fu F G
def mb_condition_16 (fu : Nat) (F : PF) (G : PG) : PR := (mf_closeSign fu 23 F G).bind (fun q => mb_condition_22 fu q.1 q.2.1 q.2.2)
def mb_condition_13 (fu : Nat) (z0 : Int32) (F : PF) (G : PG) : PR := if z0 = (0 : Int32) then mb_condition_29 fu F G else mb_condition_16 fu F G
def mb_condition_9 (fu : Nat) (F : PF) (G : PG) : PR := (mf_expression fu F G).bind (fun q => mb_condition_13 fu q.1 q.2.1 q.2.2)
def mb_condition_6 (fu : Nat) (z0 : Int32) (F : PF) (G : PG) : PR := if z0 = (0 : Int32) then mb_condition_29 fu F G else mb_condition_9 fu F G
def mb_condition_0 (fu : Nat) (F : PF) (G : PG) : PR := (mf_openSign fu 22 F G).bind (fun q => mb_condition_6 fu q.1 q.2.1 q.2.2)
def mf_condition (fu : Nat) (F : PF) (G : PG) : PR := mb_condition_0 fu F G
theorem mw_condition_30 (fu : Nat) {res : Int32 × PF × PG} (C : mMC p R s m args c A v RX12 cX12_condition 1 304 18086) (hret : ∀ (H1 : Heap) (locs1 : List Loc) (ls1 : Array Slot) (pc : Nat), mMW s A v a res.2.1 res.2.2 H1 locs1 → narrow .boolean (.int res.1) = .int res.1 → decode cX12_condition pc = .ok (.ireturn, 1) → W p l e R s m args below meth c H1 locs1 0 0 Q (F0 m pc ls1 [.int res.1])) (z0 : Int32) (F : PF) (G : PG) (hm : mb_condition_30 fu z0 F G = some res) {H : Heap} {locs : List Loc} (hw : mMW s A v a F G H locs) {ls : Array Slot} (hl : lv_has ls 1 []) : W p l e R s m args below meth c H locs 0 0 Q (F0 m 30 ls [.int z0]) := by
  have hx := C.1
  have hb := C.2.1
  unfold mb_condition_30 at hm
  obtain ⟨hz, hm⟩ := b01_elim hm
  obtain rfl := Option.some.inj hm
  exact hret _ _ _ _ hw (b01_nar hz) dX12_condition_30
theorem mw_condition_29 (fu : Nat) {res : Int32 × PF × PG} (C : mMC p R s m args c A v RX12 cX12_condition 1 304 18086) (hret : ∀ (H1 : Heap) (locs1 : List Loc) (ls1 : Array Slot) (pc : Nat), mMW s A v a res.2.1 res.2.2 H1 locs1 → narrow .boolean (.int res.1) = .int res.1 → decode cX12_condition pc = .ok (.ireturn, 1) → W p l e R s m args below meth c H1 locs1 0 0 Q (F0 m pc ls1 [.int res.1])) (F : PF) (G : PG) (hm : mb_condition_29 fu F G = some res) {H : Heap} {locs : List Loc} (hw : mMW s A v a F G H locs) {ls : Array Slot} (hl : lv_has ls 1 []) : W p l e R s m args below meth c H locs 0 0 Q (F0 m 29 ls []) := by
  have hx := C.1
  have hb := C.2.1
  unfold mb_condition_29 at hm
  refine lv_iconst (v := 0) hx hb dX12_condition_29 (by decide) ?_
  exact mw_condition_30 fu C hret 0 F G hm hw (lv_sub hl [] rfl)
theorem mw_condition_25 (fu : Nat) {res : Int32 × PF × PG} (C : mMC p R s m args c A v RX12 cX12_condition 1 304 18086) (hret : ∀ (H1 : Heap) (locs1 : List Loc) (ls1 : Array Slot) (pc : Nat), mMW s A v a res.2.1 res.2.2 H1 locs1 → narrow .boolean (.int res.1) = .int res.1 → decode cX12_condition pc = .ok (.ireturn, 1) → W p l e R s m args below meth c H1 locs1 0 0 Q (F0 m pc ls1 [.int res.1])) (F : PF) (G : PG) (hm : mb_condition_25 fu F G = some res) {H : Heap} {locs : List Loc} (hw : mMW s A v a F G H locs) {ls : Array Slot} (hl : lv_has ls 1 []) : W p l e R s m args below meth c H locs 0 0 Q (F0 m 25 ls []) := by
  have hx := C.1
  have hb := C.2.1
  unfold mb_condition_25 at hm
  refine lv_iconst (v := 1) hx hb dX12_condition_25 (by decide) ?_
  refine lv_goto (tgt := 30) hx hb dX12_condition_26 (by decide) ?_
  exact mw_condition_30 fu C hret 1 F G hm hw (lv_sub hl [] rfl)
theorem mw_condition_22 (fu : Nat) {res : Int32 × PF × PG} (C : mMC p R s m args c A v RX12 cX12_condition 1 304 18086) (hret : ∀ (H1 : Heap) (locs1 : List Loc) (ls1 : Array Slot) (pc : Nat), mMW s A v a res.2.1 res.2.2 H1 locs1 → narrow .boolean (.int res.1) = .int res.1 → decode cX12_condition pc = .ok (.ireturn, 1) → W p l e R s m args below meth c H1 locs1 0 0 Q (F0 m pc ls1 [.int res.1])) (z0 : Int32) (F : PF) (G : PG) (hm : mb_condition_22 fu z0 F G = some res) {H : Heap} {locs : List Loc} (hw : mMW s A v a F G H locs) {ls : Array Slot} (hl : lv_has ls 1 []) : W p l e R s m args below meth c H locs 0 0 Q (F0 m 22 ls [.int z0]) := by
  have hx := C.1
  have hb := C.2.1
  unfold mb_condition_22 at hm
  refine lv_if_eq (tgt := 29) hx hb dX12_condition_22 (by decide) (fun c_1 => ?_) (fun c_1 => ?_)
  · have hm := (if_pos c_1).symm.trans hm
    exact mw_condition_29 fu C hret F G hm hw (lv_sub hl [] rfl)
  · have hm := (if_neg c_1).symm.trans hm
    exact mw_condition_25 fu C hret F G hm hw (lv_sub hl [] rfl)
theorem mw_condition_16 (fu : Nat) {res : Int32 × PF × PG} (C : mMC p R s m args c A v RX12 cX12_condition 1 304 18086) (hret : ∀ (H1 : Heap) (locs1 : List Loc) (ls1 : Array Slot) (pc : Nat), mMW s A v a res.2.1 res.2.2 H1 locs1 → narrow .boolean (.int res.1) = .int res.1 → decode cX12_condition pc = .ok (.ireturn, 1) → W p l e R s m args below meth c H1 locs1 0 0 Q (F0 m pc ls1 [.int res.1])) (F : PF) (G : PG) (hm : mb_condition_16 fu F G = some res) {H : Heap} {locs : List Loc} (hw : mMW s A v a F G H locs) {ls : Array Slot} (hl : lv_has ls 1 [(0, .ref (a 212))]) : W p l e R s m args below meth c H locs 0 0 Q (F0 m 16 ls []) := by
  have hx := C.1
  have hb := C.2.1
  unfold mb_condition_16 at hm
  refine lv_aload_n hx hb dX12_condition_16 rfl (lv_at hl 0 rfl) ?_
  refine lv_bipush (v := 23) hx hb dX12_condition_17 (by decide) ?_
  obtain ⟨⟨r1, F1, G1⟩, hc, hm⟩ := bind_elim hm
  refine mcallI (n := 1) (As := [.int 23]) (rest := []) C hw (mk_closeSign l v a _ fu 23 F G r1 F1 G1 hc) (mrecv_X12 C hw) mm_248 mm_249 mm_250 mm_27 mm_251 (by decide +kernel) rfl (by omega) (by omega) hl.1 rfl (Nat.le_of_ble_eq_true rfl) dX12_condition_19 (fun H locs hw => ?_)
  exact mw_condition_22 fu C hret r1 F1 G1 hm hw (lv_sub hl [] rfl)
theorem mw_condition_13 (fu : Nat) {res : Int32 × PF × PG} (C : mMC p R s m args c A v RX12 cX12_condition 1 304 18086) (hret : ∀ (H1 : Heap) (locs1 : List Loc) (ls1 : Array Slot) (pc : Nat), mMW s A v a res.2.1 res.2.2 H1 locs1 → narrow .boolean (.int res.1) = .int res.1 → decode cX12_condition pc = .ok (.ireturn, 1) → W p l e R s m args below meth c H1 locs1 0 0 Q (F0 m pc ls1 [.int res.1])) (z0 : Int32) (F : PF) (G : PG) (hm : mb_condition_13 fu z0 F G = some res) {H : Heap} {locs : List Loc} (hw : mMW s A v a F G H locs) {ls : Array Slot} (hl : lv_has ls 1 [(0, .ref (a 212))]) : W p l e R s m args below meth c H locs 0 0 Q (F0 m 13 ls [.int z0]) := by
  have hx := C.1
  have hb := C.2.1
  unfold mb_condition_13 at hm
  refine lv_if_eq (tgt := 29) hx hb dX12_condition_13 (by decide) (fun c_1 => ?_) (fun c_1 => ?_)
  · have hm := (if_pos c_1).symm.trans hm
    exact mw_condition_29 fu C hret F G hm hw (lv_sub hl [] rfl)
  · have hm := (if_neg c_1).symm.trans hm
    exact mw_condition_16 fu C hret F G hm hw (lv_sub hl [0] rfl)
theorem mw_condition_9 (fu : Nat) {res : Int32 × PF × PG} (C : mMC p R s m args c A v RX12 cX12_condition 1 304 18086) (hret : ∀ (H1 : Heap) (locs1 : List Loc) (ls1 : Array Slot) (pc : Nat), mMW s A v a res.2.1 res.2.2 H1 locs1 → narrow .boolean (.int res.1) = .int res.1 → decode cX12_condition pc = .ok (.ireturn, 1) → W p l e R s m args below meth c H1 locs1 0 0 Q (F0 m pc ls1 [.int res.1])) (F : PF) (G : PG) (hm : mb_condition_9 fu F G = some res) {H : Heap} {locs : List Loc} (hw : mMW s A v a F G H locs) {ls : Array Slot} (hl : lv_has ls 1 [(0, .ref (a 212))]) : W p l e R s m args below meth c H locs 0 0 Q (F0 m 9 ls []) := by
  have hx := C.1
  have hb := C.2.1
  unfold mb_condition_9 at hm
  refine lv_aload_n hx hb dX12_condition_9 rfl (lv_at hl 0 rfl) ?_
  obtain ⟨⟨r1, F1, G1⟩, hc, hm⟩ := bind_elim hm
  refine mcallI (n := 0) (As := []) (rest := []) C hw (mk_expression l v a _ fu F G r1 F1 G1 hc) (mrecv_X12 C hw) mm_191 mm_192 mm_193 mm_27 mm_194 (by decide +kernel) rfl (by omega) (by omega) hl.1 rfl (Nat.le_of_ble_eq_true rfl) dX12_condition_10 (fun H locs hw => ?_)
  exact mw_condition_13 fu C hret r1 F1 G1 hm hw (lv_sub hl [0] rfl)
theorem mw_condition_6 (fu : Nat) {res : Int32 × PF × PG} (C : mMC p R s m args c A v RX12 cX12_condition 1 304 18086) (hret : ∀ (H1 : Heap) (locs1 : List Loc) (ls1 : Array Slot) (pc : Nat), mMW s A v a res.2.1 res.2.2 H1 locs1 → narrow .boolean (.int res.1) = .int res.1 → decode cX12_condition pc = .ok (.ireturn, 1) → W p l e R s m args below meth c H1 locs1 0 0 Q (F0 m pc ls1 [.int res.1])) (z0 : Int32) (F : PF) (G : PG) (hm : mb_condition_6 fu z0 F G = some res) {H : Heap} {locs : List Loc} (hw : mMW s A v a F G H locs) {ls : Array Slot} (hl : lv_has ls 1 [(0, .ref (a 212))]) : W p l e R s m args below meth c H locs 0 0 Q (F0 m 6 ls [.int z0]) := by
  have hx := C.1
  have hb := C.2.1
  unfold mb_condition_6 at hm
  refine lv_if_eq (tgt := 29) hx hb dX12_condition_6 (by decide) (fun c_1 => ?_) (fun c_1 => ?_)
  · have hm := (if_pos c_1).symm.trans hm
    exact mw_condition_29 fu C hret F G hm hw (lv_sub hl [] rfl)
  · have hm := (if_neg c_1).symm.trans hm
    exact mw_condition_9 fu C hret F G hm hw (lv_sub hl [0] rfl)
theorem mw_condition_0 (fu : Nat) {res : Int32 × PF × PG} (C : mMC p R s m args c A v RX12 cX12_condition 1 304 18086) (hret : ∀ (H1 : Heap) (locs1 : List Loc) (ls1 : Array Slot) (pc : Nat), mMW s A v a res.2.1 res.2.2 H1 locs1 → narrow .boolean (.int res.1) = .int res.1 → decode cX12_condition pc = .ok (.ireturn, 1) → W p l e R s m args below meth c H1 locs1 0 0 Q (F0 m pc ls1 [.int res.1])) (F : PF) (G : PG) (hm : mb_condition_0 fu F G = some res) {H : Heap} {locs : List Loc} (hw : mMW s A v a F G H locs) {ls : Array Slot} (hl : lv_has ls 1 [(0, .ref (a 212))]) : W p l e R s m args below meth c H locs 0 0 Q (F0 m 0 ls []) := by
  have hx := C.1
  have hb := C.2.1
  unfold mb_condition_0 at hm
  refine lv_aload_n hx hb dX12_condition_0 rfl (lv_at hl 0 rfl) ?_
  refine lv_bipush (v := 22) hx hb dX12_condition_1 (by decide) ?_
  obtain ⟨⟨r1, F1, G1⟩, hc, hm⟩ := bind_elim hm
  refine mcallI (n := 1) (As := [.int 22]) (rest := []) C hw (mk_openSign l v a _ fu 22 F G r1 F1 G1 hc) (mrecv_X12 C hw) mm_241 mm_242 mm_243 mm_27 mm_244 (by decide +kernel) rfl (by omega) (by omega) hl.1 rfl (Nat.le_of_ble_eq_true rfl) dX12_condition_3 (fun H locs hw => ?_)
  exact mw_condition_6 fu C hret r1 F1 G1 hm hw (lv_sub hl [0] rfl)
theorem mk_condition (l : Launch) (v : EV) (a : Nat → Nat) (sz : Nat) (fu : Nat) (F : PF) (G : PG) (r : Int32) (F1 : PF) (G1 : PG) (hm : mf_condition fu F G = some (r, F1, G1)) : mMI l yX12_condition cX12_condition 1 (some .boolean) 304 18086 v a sz [.ref (a 212)] F G r F1 G1 := mMI.of (ty := .boolean) (by decide) rfl (Nat.le_of_ble_eq_true rfl) (fun p e R s m args below meth c Q A H locs ls C hw hl hret => mw_condition_0 fu (res := (r, F1, G1)) C hret F G hm hw hl)
def mb_settle_28 (fu : Nat) (F : PF) (G : PG) : PR := some (0, F, G)
def mb_settle_22 (fu : Nat) (ag_2 : Int32 → Int32 → PF → PG → PR) (x2 : Int32) (x4 : Int32) (F : PF) (G : PG) : PR := ag_2 x2 x4 F G
def mb_settle_7 (fu : Nat) (ag_2 : Int32 → Int32 → PF → PG → PR) (x2 : Int32) (x3 : Int32) (F : PF) (G : PG) : PR := if ixb x3 9000 = true then (if ixb x3 9000 = true then (mb_settle_22 fu ag_2 x2 (G 57 x3.toNatClampNeg) F (gup G 57 x3.toNatClampNeg x2)) else none) else none
def mb_settle_2 (fu : Nat) (ag_2 : Int32 → Int32 → PF → PG → PR) (x2 : Int32) (x3 : Int32) (F : PF) (G : PG) : PR := if x3 = (-1 : Int32) then mb_settle_28 fu F G else mb_settle_7 fu ag_2 x2 x3 F G
def ml_settle_2 (fu : Nat) : Nat → Int32 → Int32 → PF → PG → PR
  | 0 => fun _ _ _ _ => none
  | n + 1 => fun x2 x3 F G => mb_settle_2 fu (ml_settle_2 fu n) x2 x3 F G
def mb_settle_0 (fu : Nat) (x1 : Int32) (x2 : Int32) (F : PF) (G : PG) : PR := ml_settle_2 fu fu x2 x1 F G
def mf_settle (fu : Nat) (x1 : Int32) (x2 : Int32) (F : PF) (G : PG) : PR := mb_settle_0 fu x1 x2 F G
theorem mw_settle_28 (fu : Nat) {res : Int32 × PF × PG} (C : mMC p R s m args c A v RX12 cX12_settle 5 0 0) (hret : ∀ (H1 : Heap) (locs1 : List Loc) (ls1 : Array Slot) (pc : Nat), mMW s A v a res.2.1 res.2.2 H1 locs1 → decode cX12_settle pc = .ok (.return_, 1) → W p l e R s m args below meth c H1 locs1 0 0 Q (F0 m pc ls1 [])) (F : PF) (G : PG) (hm : mb_settle_28 fu F G = some res) {H : Heap} {locs : List Loc} (hw : mMW s A v a F G H locs) {ls : Array Slot} (hl : lv_has ls 5 []) : W p l e R s m args below meth c H locs 0 0 Q (F0 m 28 ls []) := by
  have hx := C.1
  have hb := C.2.1
  unfold mb_settle_28 at hm
  obtain rfl := Option.some.inj hm
  exact hret _ _ _ _ hw dX12_settle_28
theorem mw_settle_22 (fu : Nat) {res : Int32 × PF × PG} (C : mMC p R s m args c A v RX12 cX12_settle 5 0 0) (hret : ∀ (H1 : Heap) (locs1 : List Loc) (ls1 : Array Slot) (pc : Nat), mMW s A v a res.2.1 res.2.2 H1 locs1 → decode cX12_settle pc = .ok (.return_, 1) → W p l e R s m args below meth c H1 locs1 0 0 Q (F0 m pc ls1 [])) (ag_2 : Int32 → Int32 → PF → PG → PR) (hag_2 : ∀ (x2 : Int32) (x3 : Int32) (F : PF) (G : PG), ag_2 x2 x3 F G = some res → ∀ (H : Heap) (locs : List Loc) (ls : Array Slot), mMW s A v a F G H locs → lv_has ls 5 [(0, .ref (a 212)), (2, .int x2), (3, .int x3)] → W p l e R s m args below meth c H locs 0 0 Q (F0 m 2 ls [])) (x2 : Int32) (x4 : Int32) (F : PF) (G : PG) (hm : mb_settle_22 fu ag_2 x2 x4 F G = some res) {H : Heap} {locs : List Loc} (hw : mMW s A v a F G H locs) {ls : Array Slot} (hl : lv_has ls 5 [(0, .ref (a 212)), (2, .int x2), (4, .int x4)]) : W p l e R s m args below meth c H locs 0 0 Q (F0 m 22 ls []) := by
  have hx := C.1
  have hb := C.2.1
  unfold mb_settle_22 at hm
  refine lv_iload hx hb dX12_settle_22 (lv_at hl 2 rfl) ?_
  refine lv_istore_n (lv' := [(3, .int x4), (0, .ref (a 212)), (2, .int x2), (4, .int x4)]) hx hb dX12_settle_24 rfl hl (by decide) rfl (fun ls hl => ?_)
  refine lv_goto (tgt := 2) hx hb dX12_settle_25 (by decide) ?_
  exact hag_2 x2 x4 F G hm _ _ _ hw (lv_sub hl [1, 2, 0] rfl)
theorem mw_settle_7 (fu : Nat) {res : Int32 × PF × PG} (C : mMC p R s m args c A v RX12 cX12_settle 5 0 0) (hret : ∀ (H1 : Heap) (locs1 : List Loc) (ls1 : Array Slot) (pc : Nat), mMW s A v a res.2.1 res.2.2 H1 locs1 → decode cX12_settle pc = .ok (.return_, 1) → W p l e R s m args below meth c H1 locs1 0 0 Q (F0 m pc ls1 [])) (ag_2 : Int32 → Int32 → PF → PG → PR) (hag_2 : ∀ (x2 : Int32) (x3 : Int32) (F : PF) (G : PG), ag_2 x2 x3 F G = some res → ∀ (H : Heap) (locs : List Loc) (ls : Array Slot), mMW s A v a F G H locs → lv_has ls 5 [(0, .ref (a 212)), (2, .int x2), (3, .int x3)] → W p l e R s m args below meth c H locs 0 0 Q (F0 m 2 ls [])) (x2 : Int32) (x3 : Int32) (F : PF) (G : PG) (hm : mb_settle_7 fu ag_2 x2 x3 F G = some res) {H : Heap} {locs : List Loc} (hw : mMW s A v a F G H locs) {ls : Array Slot} (hl : lv_has ls 5 [(0, .ref (a 212)), (2, .int x2), (3, .int x3)]) : W p l e R s m args below meth c H locs 0 0 Q (F0 m 7 ls []) := by
  have hx := C.1
  have hb := C.2.1
  unfold mb_settle_7 at hm
  refine lv_aload_n hx hb dX12_settle_7 rfl (lv_at hl 0 rfl) ?_
  refine mg_X12_107 C hw dX12_settle_8 ?_
  refine lv_iload_n hx hb dX12_settle_11 rfl (lv_at hl 2 rfl) ?_
  obtain ⟨hi, hm⟩ := ix_elim hm
  refine mal_57 C hw hi dX12_settle_12 ?_
  refine lv_istore (lv' := [(4, .int (G 57 x3.toNatClampNeg)), (0, .ref (a 212)), (2, .int x2), (3, .int x3)]) hx hb dX12_settle_13 hl (by decide) rfl (fun ls hl => ?_)
  refine lv_aload_n hx hb dX12_settle_15 rfl (lv_at hl 1 rfl) ?_
  refine mg_X12_107 C hw dX12_settle_16 ?_
  refine lv_iload_n hx hb dX12_settle_19 rfl (lv_at hl 3 rfl) ?_
  refine lv_iload_n hx hb dX12_settle_20 rfl (lv_at hl 2 rfl) ?_
  obtain ⟨hi, hm⟩ := ix_elim hm
  refine mas_57 C hw hi dX12_settle_21 (fun H locs hw => ?_)
  exact mw_settle_22 fu C hret ag_2 hag_2 x2 (G 57 x3.toNatClampNeg) F (gup G 57 x3.toNatClampNeg x2) hm hw (lv_sub hl [1, 2, 0] rfl)
theorem mw_settle_2 (fu : Nat) {res : Int32 × PF × PG} (C : mMC p R s m args c A v RX12 cX12_settle 5 0 0) (hret : ∀ (H1 : Heap) (locs1 : List Loc) (ls1 : Array Slot) (pc : Nat), mMW s A v a res.2.1 res.2.2 H1 locs1 → decode cX12_settle pc = .ok (.return_, 1) → W p l e R s m args below meth c H1 locs1 0 0 Q (F0 m pc ls1 [])) (ag_2 : Int32 → Int32 → PF → PG → PR) (hag_2 : ∀ (x2 : Int32) (x3 : Int32) (F : PF) (G : PG), ag_2 x2 x3 F G = some res → ∀ (H : Heap) (locs : List Loc) (ls : Array Slot), mMW s A v a F G H locs → lv_has ls 5 [(0, .ref (a 212)), (2, .int x2), (3, .int x3)] → W p l e R s m args below meth c H locs 0 0 Q (F0 m 2 ls [])) (x2 : Int32) (x3 : Int32) (F : PF) (G : PG) (hm : mb_settle_2 fu ag_2 x2 x3 F G = some res) {H : Heap} {locs : List Loc} (hw : mMW s A v a F G H locs) {ls : Array Slot} (hl : lv_has ls 5 [(0, .ref (a 212)), (2, .int x2), (3, .int x3)]) : W p l e R s m args below meth c H locs 0 0 Q (F0 m 2 ls []) := by
  have hx := C.1
  have hb := C.2.1
  unfold mb_settle_2 at hm
  refine lv_iload_n hx hb dX12_settle_2 rfl (lv_at hl 2 rfl) ?_
  refine lv_iconst (v := (-1)) hx hb dX12_settle_3 (by decide) ?_
  refine lv_icmp_eq (tgt := 28) hx hb dX12_settle_4 (by decide) (fun c_1 => ?_) (fun c_1 => ?_)
  · have hm := (if_pos c_1).symm.trans hm
    exact mw_settle_28 fu C hret F G hm hw (lv_sub hl [] rfl)
  · have hm := (if_neg c_1).symm.trans hm
    exact mw_settle_7 fu C hret ag_2 hag_2 x2 x3 F G hm hw (lv_sub hl [0, 1, 2] rfl)
theorem mwl_settle_2 (fu : Nat) {res : Int32 × PF × PG} (C : mMC p R s m args c A v RX12 cX12_settle 5 0 0) (hret : ∀ (H1 : Heap) (locs1 : List Loc) (ls1 : Array Slot) (pc : Nat), mMW s A v a res.2.1 res.2.2 H1 locs1 → decode cX12_settle pc = .ok (.return_, 1) → W p l e R s m args below meth c H1 locs1 0 0 Q (F0 m pc ls1 [])) : ∀ (n : Nat) (x2 : Int32) (x3 : Int32) (F : PF) (G : PG) (hm : ml_settle_2 fu n x2 x3 F G = some res) {H : Heap} {locs : List Loc} (hw : mMW s A v a F G H locs) {ls : Array Slot} (hl : lv_has ls 5 [(0, .ref (a 212)), (2, .int x2), (3, .int x3)]), W p l e R s m args below meth c H locs 0 0 Q (F0 m 2 ls []) := by
  intro n
  induction n with
  | zero =>
    intro x2 x3 F G hm
    exact no_elim (show (none : PR) = some res from hm)
  | succ n ih =>
    intro x2 x3 F G hm H locs hw ls hl
    exact mw_settle_2 fu C hret (ml_settle_2 fu n) (fun x2 x3 F G hm H locs ls hw hl => ih x2 x3 F G hm hw hl) x2 x3 F G hm hw hl
theorem mw_settle_0 (fu : Nat) {res : Int32 × PF × PG} (C : mMC p R s m args c A v RX12 cX12_settle 5 0 0) (hret : ∀ (H1 : Heap) (locs1 : List Loc) (ls1 : Array Slot) (pc : Nat), mMW s A v a res.2.1 res.2.2 H1 locs1 → decode cX12_settle pc = .ok (.return_, 1) → W p l e R s m args below meth c H1 locs1 0 0 Q (F0 m pc ls1 [])) (x1 : Int32) (x2 : Int32) (F : PF) (G : PG) (hm : mb_settle_0 fu x1 x2 F G = some res) {H : Heap} {locs : List Loc} (hw : mMW s A v a F G H locs) {ls : Array Slot} (hl : lv_has ls 5 [(0, .ref (a 212)), (1, .int x1), (2, .int x2)]) : W p l e R s m args below meth c H locs 0 0 Q (F0 m 0 ls []) := by
  have hx := C.1
  have hb := C.2.1
  unfold mb_settle_0 at hm
  refine lv_iload_n hx hb dX12_settle_0 rfl (lv_at hl 1 rfl) ?_
  refine lv_istore_n (lv' := [(3, .int x1), (0, .ref (a 212)), (1, .int x1), (2, .int x2)]) hx hb dX12_settle_1 rfl hl (by decide) rfl (fun ls hl => ?_)
  exact mwl_settle_2 fu C hret fu x2 x1 F G hm hw (lv_sub hl [1, 3, 0] rfl)
theorem mk_settle (l : Launch) (v : EV) (a : Nat → Nat) (sz : Nat) (fu : Nat) (x1 : Int32) (x2 : Int32) (F : PF) (G : PG) (r : Int32) (F1 : PF) (G1 : PG) (hm : mf_settle fu x1 x2 F G = some (r, F1, G1)) : mMV l yX12_settle cX12_settle 5 0 0 v a sz [.ref (a 212), .int x1, .int x2] F G F1 G1 := mMV.of (by decide) (Nat.le_of_ble_eq_true rfl) (fun p e R s m args below meth c Q A H locs ls C hw hl hret => mw_settle_0 fu (res := (r, F1, G1)) C hret x1 x2 F G hm hw hl)
def mb_returns_113 (fu : Nat) (z0 : Int32) (F : PF) (G : PG) : PR := if b01 z0 = true then (some (z0, F, G)) else none
def mb_returns_106 (fu : Nat) (z0 : Int32) (F : PF) (G : PG) : PR := (mf_sign fu 29 F G).bind (fun q => mb_returns_113 fu q.1 q.2.1 q.2.2)
def mb_returns_98 (fu : Nat) (F : PF) (G : PG) : PR := (mf_step fu 17 0 0 F G).bind (fun q => mb_returns_106 fu q.1 q.2.1 q.2.2)
def mb_returns_96 (fu : Nat) (F : PF) (G : PG) : PR := some (0, F, G)
def mb_returns_93 (fu : Nat) (z0 : Int32) (F : PF) (G : PG) : PR := if z0 = (0 : Int32) then mb_returns_96 fu F G else mb_returns_98 fu F G
def mb_returns_89 (fu : Nat) (F : PF) (G : PG) : PR := (mf_expression fu F G).bind (fun q => mb_returns_93 fu q.1 q.2.1 q.2.2)
def mb_returns_86 (fu : Nat) (z0 : Int32) (z1 : Int32) (z2 : Int32) (F : PF) (G : PG) : PR := (mf_noteAs fu z2 z1 z0 F G).bind (fun q => mb_returns_89 fu q.2.1 q.2.2)
def mb_returns_69 (fu : Nat) (F : PF) (G : PG) : PR := if ixb (F 42) 4002 = true then ((mf_rank fu 7 F G).bind (fun q => mb_returns_86 fu q.1 (G 6 (F 42).toNatClampNeg) 8 q.2.1 q.2.2)) else none
def mb_returns_57 (fu : Nat) (F : PF) (G : PG) : PR := if ixb (F 50) 500 = true then (if (G 33 (F 50).toNatClampNeg) = (0 : Int32) then mb_returns_89 fu F G else mb_returns_69 fu F G) else none
def mb_returns_53 (fu : Nat) (z0 : Int32) (F : PF) (G : PG) : PR := mb_returns_98 fu F G
def mb_returns_46 (fu : Nat) (F : PF) (G : PG) : PR := (mf_step fu 0 0 0 F G).bind (fun q => mb_returns_53 fu q.1 q.2.1 q.2.2)
def mb_returns_31 (fu : Nat) (F : PF) (G : PG) : PR := if ixb (F 42) 4002 = true then ((mf_note fu 8 (G 6 (F 42).toNatClampNeg) F G).bind (fun q => mb_returns_46 fu q.2.1 q.2.2)) else none
def mb_returns_19 (fu : Nat) (F : PF) (G : PG) : PR := if ixb (F 50) 500 = true then (if (G 33 (F 50).toNatClampNeg) = (0 : Int32) then mb_returns_31 fu F G else mb_returns_46 fu F G) else none
def mb_returns_16 (fu : Nat) (z0 : Int32) (F : PF) (G : PG) : PR := if z0 = (0 : Int32) then mb_returns_57 fu F G else mb_returns_19 fu F G
def mb_returns_10 (fu : Nat) (F : PF) (G : PG) : PR := (mf_isSign fu 29 F G).bind (fun q => mb_returns_16 fu q.1 q.2.1 q.2.2)
def mb_returns_0 (fu : Nat) (F : PF) (G : PG) : PR := mb_returns_10 fu (fup F 42 ((F 42) + (1 : Int32))) G
def mf_returns (fu : Nat) (F : PF) (G : PG) : PR := mb_returns_0 fu F G
theorem mw_returns_113 (fu : Nat) {res : Int32 × PF × PG} (C : mMC p R s m args c A v RX12 cX12_returns 1 304 18086) (hret : ∀ (H1 : Heap) (locs1 : List Loc) (ls1 : Array Slot) (pc : Nat), mMW s A v a res.2.1 res.2.2 H1 locs1 → narrow .boolean (.int res.1) = .int res.1 → decode cX12_returns pc = .ok (.ireturn, 1) → W p l e R s m args below meth c H1 locs1 0 0 Q (F0 m pc ls1 [.int res.1])) (z0 : Int32) (F : PF) (G : PG) (hm : mb_returns_113 fu z0 F G = some res) {H : Heap} {locs : List Loc} (hw : mMW s A v a F G H locs) {ls : Array Slot} (hl : lv_has ls 1 []) : W p l e R s m args below meth c H locs 0 0 Q (F0 m 113 ls [.int z0]) := by
  have hx := C.1
  have hb := C.2.1
  unfold mb_returns_113 at hm
  obtain ⟨hz, hm⟩ := b01_elim hm
  obtain rfl := Option.some.inj hm
  exact hret _ _ _ _ hw (b01_nar hz) dX12_returns_113
theorem mw_returns_106 (fu : Nat) {res : Int32 × PF × PG} (C : mMC p R s m args c A v RX12 cX12_returns 1 304 18086) (hret : ∀ (H1 : Heap) (locs1 : List Loc) (ls1 : Array Slot) (pc : Nat), mMW s A v a res.2.1 res.2.2 H1 locs1 → narrow .boolean (.int res.1) = .int res.1 → decode cX12_returns pc = .ok (.ireturn, 1) → W p l e R s m args below meth c H1 locs1 0 0 Q (F0 m pc ls1 [.int res.1])) (z0 : Int32) (F : PF) (G : PG) (hm : mb_returns_106 fu z0 F G = some res) {H : Heap} {locs : List Loc} (hw : mMW s A v a F G H locs) {ls : Array Slot} (hl : lv_has ls 1 [(0, .ref (a 212))]) : W p l e R s m args below meth c H locs 0 0 Q (F0 m 106 ls [.int z0]) := by
  have hx := C.1
  have hb := C.2.1
  unfold mb_returns_106 at hm
  refine lv_pop hx hb dX12_returns_106 rfl ?_
  refine lv_aload_n hx hb dX12_returns_107 rfl (lv_at hl 0 rfl) ?_
  refine lv_bipush (v := 29) hx hb dX12_returns_108 (by decide) ?_
  obtain ⟨⟨r1, F1, G1⟩, hc, hm⟩ := bind_elim hm
  refine mcallI (n := 1) (As := [.int 29]) (rest := []) C hw (mk_sign l v a _ fu 29 F G r1 F1 G1 hc) (mrecv_X12 C hw) mm_179 mm_180 mm_181 mm_27 mm_182 (by decide +kernel) rfl (by omega) (by omega) hl.1 rfl (Nat.le_of_ble_eq_true rfl) dX12_returns_110 (fun H locs hw => ?_)
  exact mw_returns_113 fu C hret r1 F1 G1 hm hw (lv_sub hl [] rfl)
theorem mw_returns_98 (fu : Nat) {res : Int32 × PF × PG} (C : mMC p R s m args c A v RX12 cX12_returns 1 304 18086) (hret : ∀ (H1 : Heap) (locs1 : List Loc) (ls1 : Array Slot) (pc : Nat), mMW s A v a res.2.1 res.2.2 H1 locs1 → narrow .boolean (.int res.1) = .int res.1 → decode cX12_returns pc = .ok (.ireturn, 1) → W p l e R s m args below meth c H1 locs1 0 0 Q (F0 m pc ls1 [.int res.1])) (F : PF) (G : PG) (hm : mb_returns_98 fu F G = some res) {H : Heap} {locs : List Loc} (hw : mMW s A v a F G H locs) {ls : Array Slot} (hl : lv_has ls 1 [(0, .ref (a 212))]) : W p l e R s m args below meth c H locs 0 0 Q (F0 m 98 ls []) := by
  have hx := C.1
  have hb := C.2.1
  unfold mb_returns_98 at hm
  refine lv_aload_n hx hb dX12_returns_98 rfl (lv_at hl 0 rfl) ?_
  refine lv_bipush (v := 17) hx hb dX12_returns_99 (by decide) ?_
  refine lv_iconst (v := 0) hx hb dX12_returns_101 (by decide) ?_
  refine lv_iconst (v := 0) hx hb dX12_returns_102 (by decide) ?_
  obtain ⟨⟨r1, F1, G1⟩, hc, hm⟩ := bind_elim hm
  refine mcallI (n := 3) (As := [.int 17, .int 0, .int 0]) (rest := []) C hw (mk_step l v a _ fu 17 0 0 F G r1 F1 G1 hc) (mrecv_X12 C hw) mm_203 mm_204 mm_205 mm_27 mm_206 (by decide +kernel) rfl (by omega) (by omega) hl.1 rfl (Nat.le_of_ble_eq_true rfl) dX12_returns_103 (fun H locs hw => ?_)
  exact mw_returns_106 fu C hret r1 F1 G1 hm hw (lv_sub hl [0] rfl)
theorem mw_returns_96 (fu : Nat) {res : Int32 × PF × PG} (C : mMC p R s m args c A v RX12 cX12_returns 1 304 18086) (hret : ∀ (H1 : Heap) (locs1 : List Loc) (ls1 : Array Slot) (pc : Nat), mMW s A v a res.2.1 res.2.2 H1 locs1 → narrow .boolean (.int res.1) = .int res.1 → decode cX12_returns pc = .ok (.ireturn, 1) → W p l e R s m args below meth c H1 locs1 0 0 Q (F0 m pc ls1 [.int res.1])) (F : PF) (G : PG) (hm : mb_returns_96 fu F G = some res) {H : Heap} {locs : List Loc} (hw : mMW s A v a F G H locs) {ls : Array Slot} (hl : lv_has ls 1 []) : W p l e R s m args below meth c H locs 0 0 Q (F0 m 96 ls []) := by
  have hx := C.1
  have hb := C.2.1
  unfold mb_returns_96 at hm
  refine lv_iconst (v := 0) hx hb dX12_returns_96 (by decide) ?_
  obtain rfl := Option.some.inj hm
  exact hret _ _ _ _ hw (b01_nar (v := 0) (Or.inl rfl)) dX12_returns_97
theorem mw_returns_93 (fu : Nat) {res : Int32 × PF × PG} (C : mMC p R s m args c A v RX12 cX12_returns 1 304 18086) (hret : ∀ (H1 : Heap) (locs1 : List Loc) (ls1 : Array Slot) (pc : Nat), mMW s A v a res.2.1 res.2.2 H1 locs1 → narrow .boolean (.int res.1) = .int res.1 → decode cX12_returns pc = .ok (.ireturn, 1) → W p l e R s m args below meth c H1 locs1 0 0 Q (F0 m pc ls1 [.int res.1])) (z0 : Int32) (F : PF) (G : PG) (hm : mb_returns_93 fu z0 F G = some res) {H : Heap} {locs : List Loc} (hw : mMW s A v a F G H locs) {ls : Array Slot} (hl : lv_has ls 1 [(0, .ref (a 212))]) : W p l e R s m args below meth c H locs 0 0 Q (F0 m 93 ls [.int z0]) := by
  have hx := C.1
  have hb := C.2.1
  unfold mb_returns_93 at hm
  refine lv_if_ne (tgt := 98) hx hb dX12_returns_93 (by decide) (fun c_1 => ?_) (fun c_1 => ?_)
  · have hm := (if_neg c_1).symm.trans hm
    exact mw_returns_98 fu C hret F G hm hw (lv_sub hl [0] rfl)
  · have hm := (if_pos c_1).symm.trans hm
    exact mw_returns_96 fu C hret F G hm hw (lv_sub hl [] rfl)
theorem mw_returns_89 (fu : Nat) {res : Int32 × PF × PG} (C : mMC p R s m args c A v RX12 cX12_returns 1 304 18086) (hret : ∀ (H1 : Heap) (locs1 : List Loc) (ls1 : Array Slot) (pc : Nat), mMW s A v a res.2.1 res.2.2 H1 locs1 → narrow .boolean (.int res.1) = .int res.1 → decode cX12_returns pc = .ok (.ireturn, 1) → W p l e R s m args below meth c H1 locs1 0 0 Q (F0 m pc ls1 [.int res.1])) (F : PF) (G : PG) (hm : mb_returns_89 fu F G = some res) {H : Heap} {locs : List Loc} (hw : mMW s A v a F G H locs) {ls : Array Slot} (hl : lv_has ls 1 [(0, .ref (a 212))]) : W p l e R s m args below meth c H locs 0 0 Q (F0 m 89 ls []) := by
  have hx := C.1
  have hb := C.2.1
  unfold mb_returns_89 at hm
  refine lv_aload_n hx hb dX12_returns_89 rfl (lv_at hl 0 rfl) ?_
  obtain ⟨⟨r1, F1, G1⟩, hc, hm⟩ := bind_elim hm
  refine mcallI (n := 0) (As := []) (rest := []) C hw (mk_expression l v a _ fu F G r1 F1 G1 hc) (mrecv_X12 C hw) mm_191 mm_192 mm_193 mm_27 mm_194 (by decide +kernel) rfl (by omega) (by omega) hl.1 rfl (Nat.le_of_ble_eq_true rfl) dX12_returns_90 (fun H locs hw => ?_)
  exact mw_returns_93 fu C hret r1 F1 G1 hm hw (lv_sub hl [0] rfl)
theorem mw_returns_86 (fu : Nat) {res : Int32 × PF × PG} (C : mMC p R s m args c A v RX12 cX12_returns 1 304 18086) (hret : ∀ (H1 : Heap) (locs1 : List Loc) (ls1 : Array Slot) (pc : Nat), mMW s A v a res.2.1 res.2.2 H1 locs1 → narrow .boolean (.int res.1) = .int res.1 → decode cX12_returns pc = .ok (.ireturn, 1) → W p l e R s m args below meth c H1 locs1 0 0 Q (F0 m pc ls1 [.int res.1])) (z0 : Int32) (z1 : Int32) (z2 : Int32) (F : PF) (G : PG) (hm : mb_returns_86 fu z0 z1 z2 F G = some res) {H : Heap} {locs : List Loc} (hw : mMW s A v a F G H locs) {ls : Array Slot} (hl : lv_has ls 1 [(0, .ref (a 212))]) : W p l e R s m args below meth c H locs 0 0 Q (F0 m 86 ls [.int z0, .int z1, .int z2, .ref (a 212)]) := by
  have hx := C.1
  have hb := C.2.1
  unfold mb_returns_86 at hm
  obtain ⟨⟨r1, F1, G1⟩, hc, hm⟩ := bind_elim hm
  refine mcallV (n := 3) (As := [.int z2, .int z1, .int z0]) (rest := []) C hw (mk_noteAs l v a _ fu z2 z1 z0 F G r1 F1 G1 hc) (mrecv_X12 C hw) mm_227 mm_228 mm_229 mm_27 mm_230 (by decide +kernel) rfl (by omega) (by omega) hl.1 rfl (Nat.le_of_ble_eq_true rfl) dX12_returns_86 (fun H locs hw => ?_)
  exact mw_returns_89 fu C hret F1 G1 hm hw (lv_sub hl [0] rfl)
theorem mw_returns_69 (fu : Nat) {res : Int32 × PF × PG} (C : mMC p R s m args c A v RX12 cX12_returns 1 304 18086) (hret : ∀ (H1 : Heap) (locs1 : List Loc) (ls1 : Array Slot) (pc : Nat), mMW s A v a res.2.1 res.2.2 H1 locs1 → narrow .boolean (.int res.1) = .int res.1 → decode cX12_returns pc = .ok (.ireturn, 1) → W p l e R s m args below meth c H1 locs1 0 0 Q (F0 m pc ls1 [.int res.1])) (F : PF) (G : PG) (hm : mb_returns_69 fu F G = some res) {H : Heap} {locs : List Loc} (hw : mMW s A v a F G H locs) {ls : Array Slot} (hl : lv_has ls 1 [(0, .ref (a 212))]) : W p l e R s m args below meth c H locs 0 0 Q (F0 m 69 ls []) := by
  have hx := C.1
  have hb := C.2.1
  unfold mb_returns_69 at hm
  refine lv_aload_n hx hb dX12_returns_69 rfl (lv_at hl 0 rfl) ?_
  refine lv_bipush (v := 8) hx hb dX12_returns_70 (by decide) ?_
  refine lv_aload_n hx hb dX12_returns_72 rfl (lv_at hl 0 rfl) ?_
  refine mg_X12_22 C hw dX12_returns_73 ?_
  refine lv_aload_n hx hb dX12_returns_76 rfl (lv_at hl 0 rfl) ?_
  refine mg_X12_233 C hw dX12_returns_77 ?_
  obtain ⟨hi, hm⟩ := ix_elim hm
  refine mal_6 C hw hi dX12_returns_80 ?_
  refine lv_bipush (v := 7) hx hb dX12_returns_81 (by decide) ?_
  obtain ⟨⟨r1, F1, G1⟩, hc, hm⟩ := bind_elim hm
  refine mcallIS (n := 1) (As := [.int 7]) (rest := [.int (G 6 (F 42).toNatClampNeg), .int 8, .ref (a 212)]) C hw (mk_rank l v a _ fu 7 F G r1 F1 G1 hc) mm_224 mm_225 mm_27 mm_226 (by decide +kernel) rfl (by omega) (by omega) hl.1 rfl (Nat.le_of_ble_eq_true rfl) dX12_returns_83 (fun H locs hw => ?_)
  exact mw_returns_86 fu C hret r1 (G 6 (F 42).toNatClampNeg) 8 F1 G1 hm hw (lv_sub hl [0] rfl)
theorem mw_returns_57 (fu : Nat) {res : Int32 × PF × PG} (C : mMC p R s m args c A v RX12 cX12_returns 1 304 18086) (hret : ∀ (H1 : Heap) (locs1 : List Loc) (ls1 : Array Slot) (pc : Nat), mMW s A v a res.2.1 res.2.2 H1 locs1 → narrow .boolean (.int res.1) = .int res.1 → decode cX12_returns pc = .ok (.ireturn, 1) → W p l e R s m args below meth c H1 locs1 0 0 Q (F0 m pc ls1 [.int res.1])) (F : PF) (G : PG) (hm : mb_returns_57 fu F G = some res) {H : Heap} {locs : List Loc} (hw : mMW s A v a F G H locs) {ls : Array Slot} (hl : lv_has ls 1 [(0, .ref (a 212))]) : W p l e R s m args below meth c H locs 0 0 Q (F0 m 57 ls []) := by
  have hx := C.1
  have hb := C.2.1
  unfold mb_returns_57 at hm
  refine lv_aload_n hx hb dX12_returns_57 rfl (lv_at hl 0 rfl) ?_
  refine mg_X12_86 C hw dX12_returns_58 ?_
  refine lv_aload_n hx hb dX12_returns_61 rfl (lv_at hl 0 rfl) ?_
  refine mg_X12_294 C hw dX12_returns_62 ?_
  obtain ⟨hi, hm⟩ := ix_elim hm
  refine mal_33 C hw hi dX12_returns_65 ?_
  refine lv_if_eq (tgt := 89) hx hb dX12_returns_66 (by decide) (fun c_1 => ?_) (fun c_1 => ?_)
  · have hm := (if_pos c_1).symm.trans hm
    exact mw_returns_89 fu C hret F G hm hw (lv_sub hl [0] rfl)
  · have hm := (if_neg c_1).symm.trans hm
    exact mw_returns_69 fu C hret F G hm hw (lv_sub hl [0] rfl)
theorem mw_returns_53 (fu : Nat) {res : Int32 × PF × PG} (C : mMC p R s m args c A v RX12 cX12_returns 1 304 18086) (hret : ∀ (H1 : Heap) (locs1 : List Loc) (ls1 : Array Slot) (pc : Nat), mMW s A v a res.2.1 res.2.2 H1 locs1 → narrow .boolean (.int res.1) = .int res.1 → decode cX12_returns pc = .ok (.ireturn, 1) → W p l e R s m args below meth c H1 locs1 0 0 Q (F0 m pc ls1 [.int res.1])) (z0 : Int32) (F : PF) (G : PG) (hm : mb_returns_53 fu z0 F G = some res) {H : Heap} {locs : List Loc} (hw : mMW s A v a F G H locs) {ls : Array Slot} (hl : lv_has ls 1 [(0, .ref (a 212))]) : W p l e R s m args below meth c H locs 0 0 Q (F0 m 53 ls [.int z0]) := by
  have hx := C.1
  have hb := C.2.1
  unfold mb_returns_53 at hm
  refine lv_pop hx hb dX12_returns_53 rfl ?_
  refine lv_goto (tgt := 98) hx hb dX12_returns_54 (by decide) ?_
  exact mw_returns_98 fu C hret F G hm hw (lv_sub hl [0] rfl)
theorem mw_returns_46 (fu : Nat) {res : Int32 × PF × PG} (C : mMC p R s m args c A v RX12 cX12_returns 1 304 18086) (hret : ∀ (H1 : Heap) (locs1 : List Loc) (ls1 : Array Slot) (pc : Nat), mMW s A v a res.2.1 res.2.2 H1 locs1 → narrow .boolean (.int res.1) = .int res.1 → decode cX12_returns pc = .ok (.ireturn, 1) → W p l e R s m args below meth c H1 locs1 0 0 Q (F0 m pc ls1 [.int res.1])) (F : PF) (G : PG) (hm : mb_returns_46 fu F G = some res) {H : Heap} {locs : List Loc} (hw : mMW s A v a F G H locs) {ls : Array Slot} (hl : lv_has ls 1 [(0, .ref (a 212))]) : W p l e R s m args below meth c H locs 0 0 Q (F0 m 46 ls []) := by
  have hx := C.1
  have hb := C.2.1
  unfold mb_returns_46 at hm
  refine lv_aload_n hx hb dX12_returns_46 rfl (lv_at hl 0 rfl) ?_
  refine lv_iconst (v := 0) hx hb dX12_returns_47 (by decide) ?_
  refine lv_iconst (v := 0) hx hb dX12_returns_48 (by decide) ?_
  refine lv_iconst (v := 0) hx hb dX12_returns_49 (by decide) ?_
  obtain ⟨⟨r1, F1, G1⟩, hc, hm⟩ := bind_elim hm
  refine mcallI (n := 3) (As := [.int 0, .int 0, .int 0]) (rest := []) C hw (mk_step l v a _ fu 0 0 0 F G r1 F1 G1 hc) (mrecv_X12 C hw) mm_203 mm_204 mm_205 mm_27 mm_206 (by decide +kernel) rfl (by omega) (by omega) hl.1 rfl (Nat.le_of_ble_eq_true rfl) dX12_returns_50 (fun H locs hw => ?_)
  exact mw_returns_53 fu C hret r1 F1 G1 hm hw (lv_sub hl [0] rfl)
theorem mw_returns_31 (fu : Nat) {res : Int32 × PF × PG} (C : mMC p R s m args c A v RX12 cX12_returns 1 304 18086) (hret : ∀ (H1 : Heap) (locs1 : List Loc) (ls1 : Array Slot) (pc : Nat), mMW s A v a res.2.1 res.2.2 H1 locs1 → narrow .boolean (.int res.1) = .int res.1 → decode cX12_returns pc = .ok (.ireturn, 1) → W p l e R s m args below meth c H1 locs1 0 0 Q (F0 m pc ls1 [.int res.1])) (F : PF) (G : PG) (hm : mb_returns_31 fu F G = some res) {H : Heap} {locs : List Loc} (hw : mMW s A v a F G H locs) {ls : Array Slot} (hl : lv_has ls 1 [(0, .ref (a 212))]) : W p l e R s m args below meth c H locs 0 0 Q (F0 m 31 ls []) := by
  have hx := C.1
  have hb := C.2.1
  unfold mb_returns_31 at hm
  refine lv_aload_n hx hb dX12_returns_31 rfl (lv_at hl 0 rfl) ?_
  refine lv_bipush (v := 8) hx hb dX12_returns_32 (by decide) ?_
  refine lv_aload_n hx hb dX12_returns_34 rfl (lv_at hl 0 rfl) ?_
  refine mg_X12_22 C hw dX12_returns_35 ?_
  refine lv_aload_n hx hb dX12_returns_38 rfl (lv_at hl 0 rfl) ?_
  refine mg_X12_233 C hw dX12_returns_39 ?_
  obtain ⟨hi, hm⟩ := ix_elim hm
  refine mal_6 C hw hi dX12_returns_42 ?_
  obtain ⟨⟨r1, F1, G1⟩, hc, hm⟩ := bind_elim hm
  refine mcallV (n := 2) (As := [.int 8, .int (G 6 (F 42).toNatClampNeg)]) (rest := []) C hw (mk_note l v a _ fu 8 (G 6 (F 42).toNatClampNeg) F G r1 F1 G1 hc) (mrecv_X12 C hw) mm_220 mm_221 mm_222 mm_27 mm_223 (by decide +kernel) rfl (by omega) (by omega) hl.1 rfl (Nat.le_of_ble_eq_true rfl) dX12_returns_43 (fun H locs hw => ?_)
  exact mw_returns_46 fu C hret F1 G1 hm hw (lv_sub hl [0] rfl)
theorem mw_returns_19 (fu : Nat) {res : Int32 × PF × PG} (C : mMC p R s m args c A v RX12 cX12_returns 1 304 18086) (hret : ∀ (H1 : Heap) (locs1 : List Loc) (ls1 : Array Slot) (pc : Nat), mMW s A v a res.2.1 res.2.2 H1 locs1 → narrow .boolean (.int res.1) = .int res.1 → decode cX12_returns pc = .ok (.ireturn, 1) → W p l e R s m args below meth c H1 locs1 0 0 Q (F0 m pc ls1 [.int res.1])) (F : PF) (G : PG) (hm : mb_returns_19 fu F G = some res) {H : Heap} {locs : List Loc} (hw : mMW s A v a F G H locs) {ls : Array Slot} (hl : lv_has ls 1 [(0, .ref (a 212))]) : W p l e R s m args below meth c H locs 0 0 Q (F0 m 19 ls []) := by
  have hx := C.1
  have hb := C.2.1
  unfold mb_returns_19 at hm
  refine lv_aload_n hx hb dX12_returns_19 rfl (lv_at hl 0 rfl) ?_
  refine mg_X12_86 C hw dX12_returns_20 ?_
  refine lv_aload_n hx hb dX12_returns_23 rfl (lv_at hl 0 rfl) ?_
  refine mg_X12_294 C hw dX12_returns_24 ?_
  obtain ⟨hi, hm⟩ := ix_elim hm
  refine mal_33 C hw hi dX12_returns_27 ?_
  refine lv_if_ne (tgt := 46) hx hb dX12_returns_28 (by decide) (fun c_1 => ?_) (fun c_1 => ?_)
  · have hm := (if_neg c_1).symm.trans hm
    exact mw_returns_46 fu C hret F G hm hw (lv_sub hl [0] rfl)
  · have hm := (if_pos c_1).symm.trans hm
    exact mw_returns_31 fu C hret F G hm hw (lv_sub hl [0] rfl)
theorem mw_returns_16 (fu : Nat) {res : Int32 × PF × PG} (C : mMC p R s m args c A v RX12 cX12_returns 1 304 18086) (hret : ∀ (H1 : Heap) (locs1 : List Loc) (ls1 : Array Slot) (pc : Nat), mMW s A v a res.2.1 res.2.2 H1 locs1 → narrow .boolean (.int res.1) = .int res.1 → decode cX12_returns pc = .ok (.ireturn, 1) → W p l e R s m args below meth c H1 locs1 0 0 Q (F0 m pc ls1 [.int res.1])) (z0 : Int32) (F : PF) (G : PG) (hm : mb_returns_16 fu z0 F G = some res) {H : Heap} {locs : List Loc} (hw : mMW s A v a F G H locs) {ls : Array Slot} (hl : lv_has ls 1 [(0, .ref (a 212))]) : W p l e R s m args below meth c H locs 0 0 Q (F0 m 16 ls [.int z0]) := by
  have hx := C.1
  have hb := C.2.1
  unfold mb_returns_16 at hm
  refine lv_if_eq (tgt := 57) hx hb dX12_returns_16 (by decide) (fun c_1 => ?_) (fun c_1 => ?_)
  · have hm := (if_pos c_1).symm.trans hm
    exact mw_returns_57 fu C hret F G hm hw (lv_sub hl [0] rfl)
  · have hm := (if_neg c_1).symm.trans hm
    exact mw_returns_19 fu C hret F G hm hw (lv_sub hl [0] rfl)
theorem mw_returns_10 (fu : Nat) {res : Int32 × PF × PG} (C : mMC p R s m args c A v RX12 cX12_returns 1 304 18086) (hret : ∀ (H1 : Heap) (locs1 : List Loc) (ls1 : Array Slot) (pc : Nat), mMW s A v a res.2.1 res.2.2 H1 locs1 → narrow .boolean (.int res.1) = .int res.1 → decode cX12_returns pc = .ok (.ireturn, 1) → W p l e R s m args below meth c H1 locs1 0 0 Q (F0 m pc ls1 [.int res.1])) (F : PF) (G : PG) (hm : mb_returns_10 fu F G = some res) {H : Heap} {locs : List Loc} (hw : mMW s A v a F G H locs) {ls : Array Slot} (hl : lv_has ls 1 [(0, .ref (a 212))]) : W p l e R s m args below meth c H locs 0 0 Q (F0 m 10 ls []) := by
  have hx := C.1
  have hb := C.2.1
  unfold mb_returns_10 at hm
  refine lv_aload_n hx hb dX12_returns_10 rfl (lv_at hl 0 rfl) ?_
  refine lv_bipush (v := 29) hx hb dX12_returns_11 (by decide) ?_
  obtain ⟨⟨r1, F1, G1⟩, hc, hm⟩ := bind_elim hm
  refine mcallI (n := 1) (As := [.int 29]) (rest := []) C hw (mk_isSign l v a _ fu 29 F G r1 F1 G1 hc) (mrecv_X12 C hw) mm_183 mm_184 mm_185 mm_27 mm_186 (by decide +kernel) rfl (by omega) (by omega) hl.1 rfl (Nat.le_of_ble_eq_true rfl) dX12_returns_13 (fun H locs hw => ?_)
  exact mw_returns_16 fu C hret r1 F1 G1 hm hw (lv_sub hl [0] rfl)
theorem mw_returns_0 (fu : Nat) {res : Int32 × PF × PG} (C : mMC p R s m args c A v RX12 cX12_returns 1 304 18086) (hret : ∀ (H1 : Heap) (locs1 : List Loc) (ls1 : Array Slot) (pc : Nat), mMW s A v a res.2.1 res.2.2 H1 locs1 → narrow .boolean (.int res.1) = .int res.1 → decode cX12_returns pc = .ok (.ireturn, 1) → W p l e R s m args below meth c H1 locs1 0 0 Q (F0 m pc ls1 [.int res.1])) (F : PF) (G : PG) (hm : mb_returns_0 fu F G = some res) {H : Heap} {locs : List Loc} (hw : mMW s A v a F G H locs) {ls : Array Slot} (hl : lv_has ls 1 [(0, .ref (a 212))]) : W p l e R s m args below meth c H locs 0 0 Q (F0 m 0 ls []) := by
  have hx := C.1
  have hb := C.2.1
  unfold mb_returns_0 at hm
  refine lv_aload_n hx hb dX12_returns_0 rfl (lv_at hl 0 rfl) ?_
  refine lv_dup hx hb dX12_returns_1 rfl ?_
  refine mg_X12_233 C hw dX12_returns_2 ?_
  refine lv_iconst (v := 1) hx hb dX12_returns_5 (by decide) ?_
  refine lv_iadd hx hb dX12_returns_6 ?_
  refine mp_X12_233 C hw dX12_returns_7 (fun H locs hw => ?_)
  exact mw_returns_10 fu C hret (fup F 42 ((F 42) + (1 : Int32))) G hm hw (lv_sub hl [0] rfl)
theorem mk_returns (l : Launch) (v : EV) (a : Nat → Nat) (sz : Nat) (fu : Nat) (F : PF) (G : PG) (r : Int32) (F1 : PF) (G1 : PG) (hm : mf_returns fu F G = some (r, F1, G1)) : mMI l yX12_returns cX12_returns 1 (some .boolean) 304 18086 v a sz [.ref (a 212)] F G r F1 G1 := mMI.of (ty := .boolean) (by decide) rfl (Nat.le_of_ble_eq_true rfl) (fun p e R s m args below meth c Q A H locs ls C hw hl hret => mw_returns_0 fu (res := (r, F1, G1)) C hret F G hm hw hl)
def mb_simple_628 (fu : Nat) (F : PF) (G : PG) : PR := some (1, F, G)
def mb_simple_627 (fu : Nat) (z0 : Int32) (F : PF) (G : PG) : PR := mb_simple_628 fu F G
def mb_simple_621 (fu : Nat) (x8 : Int32) (z0 : Int32) (F : PF) (G : PG) : PR := (mf_step fu z0 x8 0 F G).bind (fun q => mb_simple_627 fu q.1 q.2.1 q.2.2)
def mb_simple_620 (fu : Nat) (x8 : Int32) (F : PF) (G : PG) : PR := mb_simple_621 fu x8 4 F G
def mb_simple_616 (fu : Nat) (x8 : Int32) (F : PF) (G : PG) : PR := mb_simple_621 fu x8 2 F G
def mb_simple_610 (fu : Nat) (x7 : Int32) (x8 : Int32) (F : PF) (G : PG) : PR := if x7 = (0 : Int32) then mb_simple_620 fu x8 F G else mb_simple_616 fu x8 F G
def mb_simple_606 (fu : Nat) (z0 : Int32) (F : PF) (G : PG) : PR := mb_simple_628 fu F G
def mb_simple_602 (fu : Nat) (z0 : Int32) (z1 : Int32) (F : PF) (G : PG) : PR := (mf_step fu z1 z0 0 F G).bind (fun q => mb_simple_606 fu q.1 q.2.1 q.2.2)
def mb_simple_601 (fu : Nat) (z0 : Int32) (F : PF) (G : PG) : PR := mb_simple_602 fu 0 z0 F G
def mb_simple_597 (fu : Nat) (z0 : Int32) (F : PF) (G : PG) : PR := mb_simple_602 fu 1 z0 F G
def mb_simple_589 (fu : Nat) (x6 : Int32) (F : PF) (G : PG) : PR := if x6 = (0 : Int32) then mb_simple_601 fu 8 F G else mb_simple_597 fu 8 F G
def mb_simple_584 (fu : Nat) (x4 : Int32) (x6 : Int32) (x7 : Int32) (x8 : Int32) (F : PF) (G : PG) : PR := if x4 = (0 : Int32) then mb_simple_610 fu x7 x8 F G else mb_simple_589 fu x6 F G
def mb_simple_583 (fu : Nat) (x4 : Int32) (x6 : Int32) (x7 : Int32) (x8 : Int32) (z0 : Int32) (F : PF) (G : PG) : PR := mb_simple_584 fu x4 x6 x7 x8 F G
def mb_simple_579 (fu : Nat) (x4 : Int32) (x6 : Int32) (x7 : Int32) (x8 : Int32) (z0 : Int32) (z1 : Int32) (F : PF) (G : PG) : PR := (mf_step fu z1 z0 0 F G).bind (fun q => mb_simple_583 fu x4 x6 x7 x8 q.1 q.2.1 q.2.2)
def mb_simple_461 (fu : Nat) (x4 : Int32) (x6 : Int32) (x7 : Int32) (x8 : Int32) (z0 : Int32) (F : PF) (G : PG) : PR := mb_simple_579 fu x4 x6 x7 x8 38 z0 F G
def mb_simple_479 (fu : Nat) (x4 : Int32) (x6 : Int32) (x7 : Int32) (x8 : Int32) (z0 : Int32) (F : PF) (G : PG) : PR := mb_simple_579 fu x4 x6 x7 x8 39 z0 F G
def mb_simple_578 (fu : Nat) (x4 : Int32) (x6 : Int32) (x7 : Int32) (x8 : Int32) (z0 : Int32) (F : PF) (G : PG) : PR := mb_simple_579 fu x4 x6 x7 x8 1 z0 F G
def mb_simple_573 (fu : Nat) (x4 : Int32) (x6 : Int32) (x7 : Int32) (x8 : Int32) (z0 : Int32) (F : PF) (G : PG) : PR := mb_simple_579 fu x4 x6 x7 x8 21 z0 F G
def mb_simple_567 (fu : Nat) (x4 : Int32) (x6 : Int32) (x7 : Int32) (x8 : Int32) (x9 : Int32) (z0 : Int32) (F : PF) (G : PG) : PR := if x9 = (3 : Int32) then mb_simple_573 fu x4 x6 x7 x8 z0 F G else mb_simple_578 fu x4 x6 x7 x8 z0 F G
def mb_simple_562 (fu : Nat) (x4 : Int32) (x6 : Int32) (x7 : Int32) (x8 : Int32) (z0 : Int32) (F : PF) (G : PG) : PR := mb_simple_579 fu x4 x6 x7 x8 20 z0 F G
def mb_simple_556 (fu : Nat) (x4 : Int32) (x6 : Int32) (x7 : Int32) (x8 : Int32) (x9 : Int32) (z0 : Int32) (F : PF) (G : PG) : PR := if x9 = (2 : Int32) then mb_simple_562 fu x4 x6 x7 x8 z0 F G else mb_simple_567 fu x4 x6 x7 x8 x9 z0 F G
def mb_simple_551 (fu : Nat) (x4 : Int32) (x6 : Int32) (x7 : Int32) (x8 : Int32) (z0 : Int32) (F : PF) (G : PG) : PR := mb_simple_579 fu x4 x6 x7 x8 34 z0 F G
def mb_simple_544 (fu : Nat) (x4 : Int32) (x6 : Int32) (x7 : Int32) (x8 : Int32) (x9 : Int32) (z0 : Int32) (F : PF) (G : PG) : PR := if x9 = (11 : Int32) then mb_simple_551 fu x4 x6 x7 x8 z0 F G else mb_simple_556 fu x4 x6 x7 x8 x9 z0 F G
def mb_simple_539 (fu : Nat) (x4 : Int32) (x6 : Int32) (x7 : Int32) (x8 : Int32) (z0 : Int32) (F : PF) (G : PG) : PR := mb_simple_579 fu x4 x6 x7 x8 33 z0 F G
def mb_simple_532 (fu : Nat) (x4 : Int32) (x6 : Int32) (x7 : Int32) (x8 : Int32) (x9 : Int32) (z0 : Int32) (F : PF) (G : PG) : PR := if x9 = (10 : Int32) then mb_simple_539 fu x4 x6 x7 x8 z0 F G else mb_simple_544 fu x4 x6 x7 x8 x9 z0 F G
def mb_simple_527 (fu : Nat) (x4 : Int32) (x6 : Int32) (x7 : Int32) (x8 : Int32) (z0 : Int32) (F : PF) (G : PG) : PR := mb_simple_579 fu x4 x6 x7 x8 35 z0 F G
def mb_simple_520 (fu : Nat) (x4 : Int32) (x6 : Int32) (x7 : Int32) (x8 : Int32) (x9 : Int32) (z0 : Int32) (F : PF) (G : PG) : PR := if x9 = (9 : Int32) then mb_simple_527 fu x4 x6 x7 x8 z0 F G else mb_simple_532 fu x4 x6 x7 x8 x9 z0 F G
def mb_simple_515 (fu : Nat) (x4 : Int32) (x6 : Int32) (x7 : Int32) (x8 : Int32) (z0 : Int32) (F : PF) (G : PG) : PR := mb_simple_579 fu x4 x6 x7 x8 42 z0 F G
def mb_simple_508 (fu : Nat) (x4 : Int32) (x6 : Int32) (x7 : Int32) (x8 : Int32) (x9 : Int32) (z0 : Int32) (F : PF) (G : PG) : PR := if x9 = (8 : Int32) then mb_simple_515 fu x4 x6 x7 x8 z0 F G else mb_simple_520 fu x4 x6 x7 x8 x9 z0 F G
def mb_simple_503 (fu : Nat) (x4 : Int32) (x6 : Int32) (x7 : Int32) (x8 : Int32) (z0 : Int32) (F : PF) (G : PG) : PR := mb_simple_579 fu x4 x6 x7 x8 41 z0 F G
def mb_simple_496 (fu : Nat) (x4 : Int32) (x6 : Int32) (x7 : Int32) (x8 : Int32) (x9 : Int32) (z0 : Int32) (F : PF) (G : PG) : PR := if x9 = (7 : Int32) then mb_simple_503 fu x4 x6 x7 x8 z0 F G else mb_simple_508 fu x4 x6 x7 x8 x9 z0 F G
def mb_simple_491 (fu : Nat) (x4 : Int32) (x6 : Int32) (x7 : Int32) (x8 : Int32) (z0 : Int32) (F : PF) (G : PG) : PR := mb_simple_579 fu x4 x6 x7 x8 40 z0 F G
def mb_simple_484 (fu : Nat) (x4 : Int32) (x6 : Int32) (x7 : Int32) (x8 : Int32) (x9 : Int32) (z0 : Int32) (F : PF) (G : PG) : PR := if x9 = (6 : Int32) then mb_simple_491 fu x4 x6 x7 x8 z0 F G else mb_simple_496 fu x4 x6 x7 x8 x9 z0 F G
def mb_simple_473 (fu : Nat) (x4 : Int32) (x6 : Int32) (x7 : Int32) (x8 : Int32) (x9 : Int32) (z0 : Int32) (F : PF) (G : PG) : PR := if x9 = (5 : Int32) then mb_simple_479 fu x4 x6 x7 x8 z0 F G else mb_simple_484 fu x4 x6 x7 x8 x9 z0 F G
def mb_simple_466 (fu : Nat) (x4 : Int32) (x6 : Int32) (x7 : Int32) (x8 : Int32) (x9 : Int32) (z0 : Int32) (F : PF) (G : PG) : PR := if x9 = (13 : Int32) then mb_simple_479 fu x4 x6 x7 x8 z0 F G else mb_simple_473 fu x4 x6 x7 x8 x9 z0 F G
def mb_simple_455 (fu : Nat) (x4 : Int32) (x6 : Int32) (x7 : Int32) (x8 : Int32) (x9 : Int32) (z0 : Int32) (F : PF) (G : PG) : PR := if x9 = (4 : Int32) then mb_simple_461 fu x4 x6 x7 x8 z0 F G else mb_simple_466 fu x4 x6 x7 x8 x9 z0 F G
def mb_simple_445 (fu : Nat) (x4 : Int32) (x6 : Int32) (x7 : Int32) (x8 : Int32) (x9 : Int32) (F : PF) (G : PG) : PR := if x9 = (12 : Int32) then mb_simple_461 fu x4 x6 x7 x8 10 F G else mb_simple_455 fu x4 x6 x7 x8 x9 10 F G
def mb_simple_438 (fu : Nat) (x4 : Int32) (x6 : Int32) (x7 : Int32) (x8 : Int32) (x9 : Int32) (F : PF) (G : PG) : PR := if x9 = (32 : Int32) then mb_simple_584 fu x4 x6 x7 x8 F G else mb_simple_445 fu x4 x6 x7 x8 x9 F G
def mb_simple_425 (fu : Nat) (x4 : Int32) (x6 : Int32) (x7 : Int32) (x8 : Int32) (x9 : Int32) (z0 : Int32) (F : PF) (G : PG) : PR := mb_simple_438 fu x4 x6 x7 x8 x9 F G
def mb_simple_418 (fu : Nat) (x4 : Int32) (x6 : Int32) (x7 : Int32) (x8 : Int32) (x9 : Int32) (F : PF) (G : PG) : PR := (mf_step fu 0 1 0 F G).bind (fun q => mb_simple_425 fu x4 x6 x7 x8 x9 q.1 q.2.1 q.2.2)
def mb_simple_436 (fu : Nat) (F : PF) (G : PG) : PR := some (0, F, G)
def mb_simple_433 (fu : Nat) (x4 : Int32) (x6 : Int32) (x7 : Int32) (x8 : Int32) (x9 : Int32) (z0 : Int32) (F : PF) (G : PG) : PR := if z0 = (0 : Int32) then mb_simple_436 fu F G else mb_simple_438 fu x4 x6 x7 x8 x9 F G
def mb_simple_429 (fu : Nat) (x4 : Int32) (x6 : Int32) (x7 : Int32) (x8 : Int32) (x9 : Int32) (F : PF) (G : PG) : PR := (mf_expression fu F G).bind (fun q => mb_simple_433 fu x4 x6 x7 x8 x9 q.1 q.2.1 q.2.2)
def mb_simple_411 (fu : Nat) (x4 : Int32) (x6 : Int32) (x7 : Int32) (x8 : Int32) (x9 : Int32) (F : PF) (G : PG) : PR := if x9 = (13 : Int32) then mb_simple_418 fu x4 x6 x7 x8 x9 F G else mb_simple_429 fu x4 x6 x7 x8 x9 F G
def mb_simple_404 (fu : Nat) (x4 : Int32) (x6 : Int32) (x7 : Int32) (x8 : Int32) (x9 : Int32) (F : PF) (G : PG) : PR := if x9 = (12 : Int32) then mb_simple_418 fu x4 x6 x7 x8 x9 F G else mb_simple_411 fu x4 x6 x7 x8 x9 F G
def mb_simple_403 (fu : Nat) (x4 : Int32) (x6 : Int32) (x7 : Int32) (x8 : Int32) (x9 : Int32) (z0 : Int32) (F : PF) (G : PG) : PR := mb_simple_404 fu x4 x6 x7 x8 x9 F G
def mb_simple_397 (fu : Nat) (x4 : Int32) (x6 : Int32) (x7 : Int32) (x8 : Int32) (x9 : Int32) (z0 : Int32) (F : PF) (G : PG) : PR := (mf_step fu z0 x8 0 F G).bind (fun q => mb_simple_403 fu x4 x6 x7 x8 x9 q.1 q.2.1 q.2.2)
def mb_simple_396 (fu : Nat) (x4 : Int32) (x6 : Int32) (x7 : Int32) (x8 : Int32) (x9 : Int32) (F : PF) (G : PG) : PR := mb_simple_397 fu x4 x6 x7 x8 x9 3 F G
def mb_simple_392 (fu : Nat) (x4 : Int32) (x6 : Int32) (x7 : Int32) (x8 : Int32) (x9 : Int32) (F : PF) (G : PG) : PR := mb_simple_397 fu x4 x6 x7 x8 x9 1 F G
def mb_simple_386 (fu : Nat) (x4 : Int32) (x6 : Int32) (x7 : Int32) (x8 : Int32) (x9 : Int32) (F : PF) (G : PG) : PR := if x7 = (0 : Int32) then mb_simple_396 fu x4 x6 x7 x8 x9 F G else mb_simple_392 fu x4 x6 x7 x8 x9 F G
def mb_simple_382 (fu : Nat) (x4 : Int32) (x6 : Int32) (x7 : Int32) (x8 : Int32) (x9 : Int32) (z0 : Int32) (F : PF) (G : PG) : PR := mb_simple_404 fu x4 x6 x7 x8 x9 F G
def mb_simple_373 (fu : Nat) (x4 : Int32) (x6 : Int32) (x7 : Int32) (x8 : Int32) (x9 : Int32) (z0 : Int32) (F : PF) (G : PG) : PR := (mf_step fu 7 0 0 F G).bind (fun q => mb_simple_382 fu x4 x6 x7 x8 x9 q.1 q.2.1 q.2.2)
def mb_simple_365 (fu : Nat) (x4 : Int32) (x6 : Int32) (x7 : Int32) (x8 : Int32) (x9 : Int32) (F : PF) (G : PG) : PR := (mf_step fu 9 0 0 F G).bind (fun q => mb_simple_373 fu x4 x6 x7 x8 x9 q.1 q.2.1 q.2.2)
def mb_simple_360 (fu : Nat) (x4 : Int32) (x6 : Int32) (x7 : Int32) (x8 : Int32) (x9 : Int32) (F : PF) (G : PG) : PR := if x4 = (0 : Int32) then mb_simple_386 fu x4 x6 x7 x8 x9 F G else mb_simple_365 fu x4 x6 x7 x8 x9 F G
def mb_simple_353 (fu : Nat) (x4 : Int32) (x6 : Int32) (x7 : Int32) (x8 : Int32) (x9 : Int32) (F : PF) (G : PG) : PR := if x9 = (32 : Int32) then mb_simple_404 fu x4 x6 x7 x8 x9 F G else mb_simple_360 fu x4 x6 x7 x8 x9 F G
def mb_simple_343 (fu : Nat) (x4 : Int32) (x6 : Int32) (x7 : Int32) (x8 : Int32) (x9 : Int32) (F : PF) (G : PG) : PR := mb_simple_353 fu x4 x6 x7 x8 x9 (fup F 42 ((F 42) + (1 : Int32))) G
def mb_simple_342 (fu : Nat) (z0 : Int32) (F : PF) (G : PG) : PR := if b01 z0 = true then (some (z0, F, G)) else none
def mb_simple_337 (fu : Nat) (F : PF) (G : PG) : PR := (mf_fails fu 2 F G).bind (fun q => mb_simple_342 fu q.1 q.2.1 q.2.2)
def mb_simple_330 (fu : Nat) (x4 : Int32) (x6 : Int32) (x7 : Int32) (x8 : Int32) (x9 : Int32) (z0 : Int32) (F : PF) (G : PG) : PR := if z0 = (0 : Int32) then mb_simple_337 fu F G else mb_simple_343 fu x4 x6 x7 x8 x9 F G
def mb_simple_325 (fu : Nat) (x4 : Int32) (x6 : Int32) (x7 : Int32) (x8 : Int32) (x9 : Int32) (F : PF) (G : PG) : PR := mb_simple_330 fu x4 x6 x7 x8 x9 1 F G
def mb_simple_329 (fu : Nat) (x4 : Int32) (x6 : Int32) (x7 : Int32) (x8 : Int32) (x9 : Int32) (F : PF) (G : PG) : PR := mb_simple_330 fu x4 x6 x7 x8 x9 0 F G
def mb_simple_318 (fu : Nat) (x4 : Int32) (x6 : Int32) (x7 : Int32) (x8 : Int32) (x9 : Int32) (F : PF) (G : PG) : PR := if (12 : Int32) ≤ x9 then mb_simple_329 fu x4 x6 x7 x8 x9 F G else mb_simple_325 fu x4 x6 x7 x8 x9 F G
def mb_simple_312 (fu : Nat) (x4 : Int32) (x6 : Int32) (x7 : Int32) (x8 : Int32) (x9 : Int32) (F : PF) (G : PG) : PR := if x9 < (4 : Int32) then mb_simple_329 fu x4 x6 x7 x8 x9 F G else mb_simple_318 fu x4 x6 x7 x8 x9 F G
def mb_simple_306 (fu : Nat) (x4 : Int32) (x6 : Int32) (x7 : Int32) (x8 : Int32) (x9 : Int32) (F : PF) (G : PG) : PR := if x9 = (3 : Int32) then mb_simple_325 fu x4 x6 x7 x8 x9 F G else mb_simple_312 fu x4 x6 x7 x8 x9 F G
def mb_simple_300 (fu : Nat) (x4 : Int32) (x6 : Int32) (x7 : Int32) (x8 : Int32) (x9 : Int32) (F : PF) (G : PG) : PR := if x9 = (2 : Int32) then mb_simple_325 fu x4 x6 x7 x8 x9 F G else mb_simple_306 fu x4 x6 x7 x8 x9 F G
def mb_simple_295 (fu : Nat) (x4 : Int32) (x6 : Int32) (x7 : Int32) (x8 : Int32) (x9 : Int32) (F : PF) (G : PG) : PR := if x9 = (0 : Int32) then mb_simple_325 fu x4 x6 x7 x8 x9 F G else mb_simple_300 fu x4 x6 x7 x8 x9 F G
def mb_simple_288 (fu : Nat) (x4 : Int32) (x6 : Int32) (x7 : Int32) (x8 : Int32) (x9 : Int32) (F : PF) (G : PG) : PR := if x9 = (13 : Int32) then mb_simple_325 fu x4 x6 x7 x8 x9 F G else mb_simple_295 fu x4 x6 x7 x8 x9 F G
def mb_simple_281 (fu : Nat) (x4 : Int32) (x6 : Int32) (x7 : Int32) (x8 : Int32) (x9 : Int32) (F : PF) (G : PG) : PR := if x9 = (12 : Int32) then mb_simple_325 fu x4 x6 x7 x8 x9 F G else mb_simple_288 fu x4 x6 x7 x8 x9 F G
def mb_simple_272 (fu : Nat) (x4 : Int32) (x6 : Int32) (x7 : Int32) (x8 : Int32) (z0 : Int32) (F : PF) (G : PG) : PR := if z0 = (32 : Int32) then mb_simple_325 fu x4 x6 x7 x8 z0 F G else mb_simple_281 fu x4 x6 x7 x8 z0 F G
def mb_simple_271 (fu : Nat) (x4 : Int32) (x6 : Int32) (x7 : Int32) (x8 : Int32) (F : PF) (G : PG) : PR := mb_simple_272 fu x4 x6 x7 x8 (-1) F G
def mb_simple_259 (fu : Nat) (x4 : Int32) (x6 : Int32) (x7 : Int32) (x8 : Int32) (F : PF) (G : PG) : PR := if ixb (F 42) 4002 = true then (mb_simple_272 fu x4 x6 x7 x8 (G 5 (F 42).toNatClampNeg) F G) else none
def mb_simple_246 (fu : Nat) (x4 : Int32) (x6 : Int32) (x7 : Int32) (x8 : Int32) (F : PF) (G : PG) : PR := if ixb (F 42) 4002 = true then (if (G 4 (F 42).toNatClampNeg) = (4 : Int32) then mb_simple_259 fu x4 x6 x7 x8 F G else mb_simple_271 fu x4 x6 x7 x8 F G) else none
def mb_simple_244 (fu : Nat) (F : PF) (G : PG) : PR := some (0, F, G)
def mb_simple_241 (fu : Nat) (x4 : Int32) (x6 : Int32) (x7 : Int32) (x8 : Int32) (z0 : Int32) (F : PF) (G : PG) : PR := if z0 = (0 : Int32) then mb_simple_244 fu F G else mb_simple_246 fu x4 x6 x7 x8 F G
def mb_simple_236 (fu : Nat) (x2 : Int32) (x4 : Int32) (x6 : Int32) (x7 : Int32) (x8 : Int32) (F : PF) (G : PG) : PR := (mf_element fu x2 F G).bind (fun q => mb_simple_241 fu x4 x6 x7 x8 q.1 q.2.1 q.2.2)
def mb_simple_229 (fu : Nat) (x2 : Int32) (x4 : Int32) (x6 : Int32) (x7 : Int32) (z0 : Int32) (F : PF) (G : PG) : PR := if x4 = (0 : Int32) then mb_simple_246 fu x4 x6 x7 z0 F G else mb_simple_236 fu x2 x4 x6 x7 z0 F G
def mb_simple_223 (fu : Nat) (x2 : Int32) (x4 : Int32) (x6 : Int32) (x7 : Int32) (F : PF) (G : PG) : PR := if ixb x2 900 = true then (mb_simple_229 fu x2 x4 x6 x7 (G 20 x2.toNatClampNeg) F G) else none
def mb_simple_219 (fu : Nat) (x2 : Int32) (x4 : Int32) (x6 : Int32) (x7 : Int32) (F : PF) (G : PG) : PR := mb_simple_229 fu x2 x4 x6 x7 0 F G
def mb_simple_212 (fu : Nat) (x2 : Int32) (x4 : Int32) (x6 : Int32) (z0 : Int32) (F : PF) (G : PG) : PR := if x2 = (-1 : Int32) then mb_simple_219 fu x2 x4 x6 z0 F G else mb_simple_223 fu x2 x4 x6 z0 F G
def mb_simple_211 (fu : Nat) (x2 : Int32) (x4 : Int32) (x6 : Int32) (F : PF) (G : PG) : PR := mb_simple_212 fu x2 x4 x6 0 F G
def mb_simple_207 (fu : Nat) (x2 : Int32) (x4 : Int32) (x6 : Int32) (F : PF) (G : PG) : PR := mb_simple_212 fu x2 x4 x6 1 F G
def mb_simple_198 (fu : Nat) (x2 : Int32) (x4 : Int32) (x6 : Int32) (F : PF) (G : PG) : PR := if ixb x2 900 = true then (if (G 23 x2.toNatClampNeg) = (0 : Int32) then mb_simple_211 fu x2 x4 x6 F G else mb_simple_207 fu x2 x4 x6 F G) else none
def mb_simple_191 (fu : Nat) (x2 : Int32) (x4 : Int32) (z0 : Int32) (F : PF) (G : PG) : PR := if x2 = (-1 : Int32) then mb_simple_211 fu x2 x4 z0 F G else mb_simple_198 fu x2 x4 z0 F G
def mb_simple_190 (fu : Nat) (x2 : Int32) (x4 : Int32) (F : PF) (G : PG) : PR := mb_simple_191 fu x2 x4 0 F G
def mb_simple_186 (fu : Nat) (x2 : Int32) (x4 : Int32) (F : PF) (G : PG) : PR := mb_simple_191 fu x2 x4 1 F G
def mb_simple_177 (fu : Nat) (x2 : Int32) (x4 : Int32) (F : PF) (G : PG) : PR := if ixb x2 900 = true then (if (G 22 x2.toNatClampNeg) = (0 : Int32) then mb_simple_190 fu x2 x4 F G else mb_simple_186 fu x2 x4 F G) else none
def mb_simple_172 (fu : Nat) (x2 : Int32) (x4 : Int32) (F : PF) (G : PG) : PR := if x2 = (-1 : Int32) then mb_simple_190 fu x2 x4 F G else mb_simple_177 fu x2 x4 F G
def mb_simple_160 (fu : Nat) (x1 : Int32) (x2 : Int32) (x4 : Int32) (F : PF) (G : PG) : PR := if ixb x1 4002 = true then ((mf_note fu 6 (G 6 x1.toNatClampNeg) F G).bind (fun q => mb_simple_172 fu x2 x4 q.2.1 q.2.2)) else none
def mb_simple_155 (fu : Nat) (x1 : Int32) (x2 : Int32) (x4 : Int32) (x5 : Int32) (F : PF) (G : PG) : PR := if x5 = (0 : Int32) then mb_simple_160 fu x1 x2 x4 F G else mb_simple_172 fu x2 x4 F G
def mb_simple_149 (fu : Nat) (x1 : Int32) (x2 : Int32) (x3 : Int32) (x4 : Int32) (z0 : Int32) (F : PF) (G : PG) : PR := if x3 = (0 : Int32) then mb_simple_155 fu x1 x2 x4 z0 F G else mb_simple_172 fu x2 x4 F G
def mb_simple_148 (fu : Nat) (x1 : Int32) (x2 : Int32) (x3 : Int32) (x4 : Int32) (F : PF) (G : PG) : PR := mb_simple_149 fu x1 x2 x3 x4 0 F G
def mb_simple_144 (fu : Nat) (x1 : Int32) (x2 : Int32) (x3 : Int32) (x4 : Int32) (F : PF) (G : PG) : PR := mb_simple_149 fu x1 x2 x3 x4 1 F G
def mb_simple_134 (fu : Nat) (x1 : Int32) (x2 : Int32) (x3 : Int32) (x4 : Int32) (F : PF) (G : PG) : PR := if ixb x2 900 = true then (if (G 17 x2.toNatClampNeg) = (1 : Int32) then mb_simple_144 fu x1 x2 x3 x4 F G else mb_simple_148 fu x1 x2 x3 x4 F G) else none
def mb_simple_131 (fu : Nat) (x1 : Int32) (x2 : Int32) (x3 : Int32) (x4 : Int32) (F : PF) (G : PG) : PR := mb_simple_144 fu x1 x2 x3 x4 F G
def mb_simple_121 (fu : Nat) (x1 : Int32) (x2 : Int32) (x3 : Int32) (x4 : Int32) (F : PF) (G : PG) : PR := if ixb x2 900 = true then (if (G 17 x2.toNatClampNeg) = (2 : Int32) then mb_simple_131 fu x1 x2 x3 x4 F G else mb_simple_148 fu x1 x2 x3 x4 F G) else none
def mb_simple_116 (fu : Nat) (x1 : Int32) (x2 : Int32) (x3 : Int32) (x4 : Int32) (F : PF) (G : PG) : PR := if x4 = (0 : Int32) then mb_simple_134 fu x1 x2 x3 x4 F G else mb_simple_121 fu x1 x2 x3 x4 F G
def mb_simple_111 (fu : Nat) (x1 : Int32) (x2 : Int32) (x3 : Int32) (x4 : Int32) (F : PF) (G : PG) : PR := if x2 = (-1 : Int32) then mb_simple_148 fu x1 x2 x3 x4 F G else mb_simple_116 fu x1 x2 x3 x4 F G
def mb_simple_100 (fu : Nat) (x1 : Int32) (x2 : Int32) (x3 : Int32) (x4 : Int32) (F : PF) (G : PG) : PR := if ixb x1 4002 = true then ((mf_note fu 4 (G 6 x1.toNatClampNeg) F G).bind (fun q => mb_simple_111 fu x1 x2 x3 x4 q.2.1 q.2.2)) else none
def mb_simple_94 (fu : Nat) (x1 : Int32) (x2 : Int32) (x3 : Int32) (z0 : Int32) (F : PF) (G : PG) : PR := if x3 = (0 : Int32) then mb_simple_111 fu x1 x2 x3 z0 F G else mb_simple_100 fu x1 x2 x3 z0 F G
def mb_simple_87 (fu : Nat) (x1 : Int32) (x2 : Int32) (z0 : Int32) (F : PF) (G : PG) : PR := (mf_isSign fu 24 F G).bind (fun q => mb_simple_94 fu x1 x2 z0 q.1 q.2.1 q.2.2)
def mb_simple_86 (fu : Nat) (x1 : Int32) (x2 : Int32) (F : PF) (G : PG) : PR := mb_simple_87 fu x1 x2 0 F G
def mb_simple_82 (fu : Nat) (x1 : Int32) (x2 : Int32) (F : PF) (G : PG) : PR := mb_simple_87 fu x1 x2 1 F G
def mb_simple_74 (fu : Nat) (x1 : Int32) (x2 : Int32) (F : PF) (G : PG) : PR := if (F 62) = (-1 : Int32) then mb_simple_82 fu x1 x2 F G else mb_simple_86 fu x1 x2 F G
def mb_simple_69 (fu : Nat) (x1 : Int32) (x2 : Int32) (F : PF) (G : PG) : PR := if x2 = (-1 : Int32) then mb_simple_74 fu x1 x2 F G else mb_simple_86 fu x1 x2 F G
def mb_simple_61 (fu : Nat) (x1 : Int32) (z0 : Int32) (F : PF) (G : PG) : PR := if (F 46) ≤ (0 : Int32) then mb_simple_86 fu x1 z0 F G else mb_simple_69 fu x1 z0 F G
def mb_simple_56 (fu : Nat) (x1 : Int32) (F : PF) (G : PG) : PR := (mf_meaning fu x1 F G).bind (fun q => mb_simple_61 fu x1 q.1 q.2.1 q.2.2)
def mb_simple_52 (fu : Nat) (x1 : Int32) (F : PF) (G : PG) : PR := mb_simple_61 fu x1 (-1) F G
def mb_simple_45 (fu : Nat) (x1 : Int32) (F : PF) (G : PG) : PR := if (F 46) = (0 : Int32) then mb_simple_52 fu x1 F G else mb_simple_56 fu x1 F G
def mb_simple_42 (fu : Nat) (z0 : Int32) (F : PF) (G : PG) : PR := some (1, F, G)
def mb_simple_34 (fu : Nat) (F : PF) (G : PG) : PR := (mf_step fu 18 0 0 F G).bind (fun q => mb_simple_42 fu q.1 q.2.1 q.2.2)
def mb_simple_32 (fu : Nat) (F : PF) (G : PG) : PR := some (0, F, G)
def mb_simple_29 (fu : Nat) (z0 : Int32) (F : PF) (G : PG) : PR := if z0 = (0 : Int32) then mb_simple_32 fu F G else mb_simple_34 fu F G
def mb_simple_23 (fu : Nat) (x1 : Int32) (F : PF) (G : PG) : PR := (mf_call fu x1 0 F G).bind (fun q => mb_simple_29 fu q.1 q.2.1 q.2.2)
def mb_simple_20 (fu : Nat) (x1 : Int32) (z0 : Int32) (F : PF) (G : PG) : PR := if z0 = (0 : Int32) then mb_simple_45 fu x1 F G else mb_simple_23 fu x1 F G
def mb_simple_14 (fu : Nat) (x1 : Int32) (F : PF) (G : PG) : PR := (mf_isSign fu 22 F G).bind (fun q => mb_simple_20 fu x1 q.1 q.2.1 q.2.2)
def mb_simple_12 (fu : Nat) (F : PF) (G : PG) : PR := some (0, F, G)
def mb_simple_4 (fu : Nat) (z0 : Int32) (F : PF) (G : PG) : PR := if (F 44) ≤ (0 : Int32) then mb_simple_14 fu z0 F G else mb_simple_12 fu F G
def mb_simple_0 (fu : Nat) (F : PF) (G : PG) : PR := (mf_name fu F G).bind (fun q => mb_simple_4 fu q.1 q.2.1 q.2.2)
def mf_simple (fu : Nat) (F : PF) (G : PG) : PR := mb_simple_0 fu F G
theorem mw_simple_628 (fu : Nat) {res : Int32 × PF × PG} (C : mMC p R s m args c A v RX12 cX12_simple 11 304 18090) (hret : ∀ (H1 : Heap) (locs1 : List Loc) (ls1 : Array Slot) (pc : Nat), mMW s A v a res.2.1 res.2.2 H1 locs1 → narrow .boolean (.int res.1) = .int res.1 → decode cX12_simple pc = .ok (.ireturn, 1) → W p l e R s m args below meth c H1 locs1 0 0 Q (F0 m pc ls1 [.int res.1])) (F : PF) (G : PG) (hm : mb_simple_628 fu F G = some res) {H : Heap} {locs : List Loc} (hw : mMW s A v a F G H locs) {ls : Array Slot} (hl : lv_has ls 11 []) : W p l e R s m args below meth c H locs 0 0 Q (F0 m 628 ls []) := by
  have hx := C.1
  have hb := C.2.1
  unfold mb_simple_628 at hm
  refine lv_iconst (v := 1) hx hb dX12_simple_628 (by decide) ?_
  obtain rfl := Option.some.inj hm
  exact hret _ _ _ _ hw (b01_nar (v := 1) (Or.inr rfl)) dX12_simple_629
theorem mw_simple_627 (fu : Nat) {res : Int32 × PF × PG} (C : mMC p R s m args c A v RX12 cX12_simple 11 304 18090) (hret : ∀ (H1 : Heap) (locs1 : List Loc) (ls1 : Array Slot) (pc : Nat), mMW s A v a res.2.1 res.2.2 H1 locs1 → narrow .boolean (.int res.1) = .int res.1 → decode cX12_simple pc = .ok (.ireturn, 1) → W p l e R s m args below meth c H1 locs1 0 0 Q (F0 m pc ls1 [.int res.1])) (z0 : Int32) (F : PF) (G : PG) (hm : mb_simple_627 fu z0 F G = some res) {H : Heap} {locs : List Loc} (hw : mMW s A v a F G H locs) {ls : Array Slot} (hl : lv_has ls 11 []) : W p l e R s m args below meth c H locs 0 0 Q (F0 m 627 ls [.int z0]) := by
  have hx := C.1
  have hb := C.2.1
  unfold mb_simple_627 at hm
  refine lv_pop hx hb dX12_simple_627 rfl ?_
  exact mw_simple_628 fu C hret F G hm hw (lv_sub hl [] rfl)
theorem mw_simple_621 (fu : Nat) {res : Int32 × PF × PG} (C : mMC p R s m args c A v RX12 cX12_simple 11 304 18090) (hret : ∀ (H1 : Heap) (locs1 : List Loc) (ls1 : Array Slot) (pc : Nat), mMW s A v a res.2.1 res.2.2 H1 locs1 → narrow .boolean (.int res.1) = .int res.1 → decode cX12_simple pc = .ok (.ireturn, 1) → W p l e R s m args below meth c H1 locs1 0 0 Q (F0 m pc ls1 [.int res.1])) (x8 : Int32) (z0 : Int32) (F : PF) (G : PG) (hm : mb_simple_621 fu x8 z0 F G = some res) {H : Heap} {locs : List Loc} (hw : mMW s A v a F G H locs) {ls : Array Slot} (hl : lv_has ls 11 [(8, .int x8)]) : W p l e R s m args below meth c H locs 0 0 Q (F0 m 621 ls [.int z0, .ref (a 212)]) := by
  have hx := C.1
  have hb := C.2.1
  unfold mb_simple_621 at hm
  refine lv_iload hx hb dX12_simple_621 (lv_at hl 0 rfl) ?_
  refine lv_iconst (v := 0) hx hb dX12_simple_623 (by decide) ?_
  obtain ⟨⟨r1, F1, G1⟩, hc, hm⟩ := bind_elim hm
  refine mcallI (n := 3) (As := [.int z0, .int x8, .int 0]) (rest := []) C hw (mk_step l v a _ fu z0 x8 0 F G r1 F1 G1 hc) (mrecv_X12 C hw) mm_203 mm_204 mm_205 mm_27 mm_206 (by decide +kernel) rfl (by omega) (by omega) hl.1 rfl (Nat.le_of_ble_eq_true rfl) dX12_simple_624 (fun H locs hw => ?_)
  exact mw_simple_627 fu C hret r1 F1 G1 hm hw (lv_sub hl [] rfl)
theorem mw_simple_620 (fu : Nat) {res : Int32 × PF × PG} (C : mMC p R s m args c A v RX12 cX12_simple 11 304 18090) (hret : ∀ (H1 : Heap) (locs1 : List Loc) (ls1 : Array Slot) (pc : Nat), mMW s A v a res.2.1 res.2.2 H1 locs1 → narrow .boolean (.int res.1) = .int res.1 → decode cX12_simple pc = .ok (.ireturn, 1) → W p l e R s m args below meth c H1 locs1 0 0 Q (F0 m pc ls1 [.int res.1])) (x8 : Int32) (F : PF) (G : PG) (hm : mb_simple_620 fu x8 F G = some res) {H : Heap} {locs : List Loc} (hw : mMW s A v a F G H locs) {ls : Array Slot} (hl : lv_has ls 11 [(8, .int x8)]) : W p l e R s m args below meth c H locs 0 0 Q (F0 m 620 ls [.ref (a 212)]) := by
  have hx := C.1
  have hb := C.2.1
  unfold mb_simple_620 at hm
  refine lv_iconst (v := 4) hx hb dX12_simple_620 (by decide) ?_
  exact mw_simple_621 fu C hret x8 4 F G hm hw (lv_sub hl [0] rfl)
theorem mw_simple_616 (fu : Nat) {res : Int32 × PF × PG} (C : mMC p R s m args c A v RX12 cX12_simple 11 304 18090) (hret : ∀ (H1 : Heap) (locs1 : List Loc) (ls1 : Array Slot) (pc : Nat), mMW s A v a res.2.1 res.2.2 H1 locs1 → narrow .boolean (.int res.1) = .int res.1 → decode cX12_simple pc = .ok (.ireturn, 1) → W p l e R s m args below meth c H1 locs1 0 0 Q (F0 m pc ls1 [.int res.1])) (x8 : Int32) (F : PF) (G : PG) (hm : mb_simple_616 fu x8 F G = some res) {H : Heap} {locs : List Loc} (hw : mMW s A v a F G H locs) {ls : Array Slot} (hl : lv_has ls 11 [(8, .int x8)]) : W p l e R s m args below meth c H locs 0 0 Q (F0 m 616 ls [.ref (a 212)]) := by
  have hx := C.1
  have hb := C.2.1
  unfold mb_simple_616 at hm
  refine lv_iconst (v := 2) hx hb dX12_simple_616 (by decide) ?_
  refine lv_goto (tgt := 621) hx hb dX12_simple_617 (by decide) ?_
  exact mw_simple_621 fu C hret x8 2 F G hm hw (lv_sub hl [0] rfl)
theorem mw_simple_610 (fu : Nat) {res : Int32 × PF × PG} (C : mMC p R s m args c A v RX12 cX12_simple 11 304 18090) (hret : ∀ (H1 : Heap) (locs1 : List Loc) (ls1 : Array Slot) (pc : Nat), mMW s A v a res.2.1 res.2.2 H1 locs1 → narrow .boolean (.int res.1) = .int res.1 → decode cX12_simple pc = .ok (.ireturn, 1) → W p l e R s m args below meth c H1 locs1 0 0 Q (F0 m pc ls1 [.int res.1])) (x7 : Int32) (x8 : Int32) (F : PF) (G : PG) (hm : mb_simple_610 fu x7 x8 F G = some res) {H : Heap} {locs : List Loc} (hw : mMW s A v a F G H locs) {ls : Array Slot} (hl : lv_has ls 11 [(0, .ref (a 212)), (7, .int x7), (8, .int x8)]) : W p l e R s m args below meth c H locs 0 0 Q (F0 m 610 ls []) := by
  have hx := C.1
  have hb := C.2.1
  unfold mb_simple_610 at hm
  refine lv_aload_n hx hb dX12_simple_610 rfl (lv_at hl 0 rfl) ?_
  refine lv_iload hx hb dX12_simple_611 (lv_at hl 1 rfl) ?_
  refine lv_if_eq (tgt := 620) hx hb dX12_simple_613 (by decide) (fun c_1 => ?_) (fun c_1 => ?_)
  · have hm := (if_pos c_1).symm.trans hm
    exact mw_simple_620 fu C hret x8 F G hm hw (lv_sub hl [2] rfl)
  · have hm := (if_neg c_1).symm.trans hm
    exact mw_simple_616 fu C hret x8 F G hm hw (lv_sub hl [2] rfl)
theorem mw_simple_606 (fu : Nat) {res : Int32 × PF × PG} (C : mMC p R s m args c A v RX12 cX12_simple 11 304 18090) (hret : ∀ (H1 : Heap) (locs1 : List Loc) (ls1 : Array Slot) (pc : Nat), mMW s A v a res.2.1 res.2.2 H1 locs1 → narrow .boolean (.int res.1) = .int res.1 → decode cX12_simple pc = .ok (.ireturn, 1) → W p l e R s m args below meth c H1 locs1 0 0 Q (F0 m pc ls1 [.int res.1])) (z0 : Int32) (F : PF) (G : PG) (hm : mb_simple_606 fu z0 F G = some res) {H : Heap} {locs : List Loc} (hw : mMW s A v a F G H locs) {ls : Array Slot} (hl : lv_has ls 11 []) : W p l e R s m args below meth c H locs 0 0 Q (F0 m 606 ls [.int z0]) := by
  have hx := C.1
  have hb := C.2.1
  unfold mb_simple_606 at hm
  refine lv_pop hx hb dX12_simple_606 rfl ?_
  refine lv_goto (tgt := 628) hx hb dX12_simple_607 (by decide) ?_
  exact mw_simple_628 fu C hret F G hm hw (lv_sub hl [] rfl)
theorem mw_simple_602 (fu : Nat) {res : Int32 × PF × PG} (C : mMC p R s m args c A v RX12 cX12_simple 11 304 18090) (hret : ∀ (H1 : Heap) (locs1 : List Loc) (ls1 : Array Slot) (pc : Nat), mMW s A v a res.2.1 res.2.2 H1 locs1 → narrow .boolean (.int res.1) = .int res.1 → decode cX12_simple pc = .ok (.ireturn, 1) → W p l e R s m args below meth c H1 locs1 0 0 Q (F0 m pc ls1 [.int res.1])) (z0 : Int32) (z1 : Int32) (F : PF) (G : PG) (hm : mb_simple_602 fu z0 z1 F G = some res) {H : Heap} {locs : List Loc} (hw : mMW s A v a F G H locs) {ls : Array Slot} (hl : lv_has ls 11 []) : W p l e R s m args below meth c H locs 0 0 Q (F0 m 602 ls [.int z0, .int z1, .ref (a 212)]) := by
  have hx := C.1
  have hb := C.2.1
  unfold mb_simple_602 at hm
  refine lv_iconst (v := 0) hx hb dX12_simple_602 (by decide) ?_
  obtain ⟨⟨r1, F1, G1⟩, hc, hm⟩ := bind_elim hm
  refine mcallI (n := 3) (As := [.int z1, .int z0, .int 0]) (rest := []) C hw (mk_step l v a _ fu z1 z0 0 F G r1 F1 G1 hc) (mrecv_X12 C hw) mm_203 mm_204 mm_205 mm_27 mm_206 (by decide +kernel) rfl (by omega) (by omega) hl.1 rfl (Nat.le_of_ble_eq_true rfl) dX12_simple_603 (fun H locs hw => ?_)
  exact mw_simple_606 fu C hret r1 F1 G1 hm hw (lv_sub hl [] rfl)
theorem mw_simple_601 (fu : Nat) {res : Int32 × PF × PG} (C : mMC p R s m args c A v RX12 cX12_simple 11 304 18090) (hret : ∀ (H1 : Heap) (locs1 : List Loc) (ls1 : Array Slot) (pc : Nat), mMW s A v a res.2.1 res.2.2 H1 locs1 → narrow .boolean (.int res.1) = .int res.1 → decode cX12_simple pc = .ok (.ireturn, 1) → W p l e R s m args below meth c H1 locs1 0 0 Q (F0 m pc ls1 [.int res.1])) (z0 : Int32) (F : PF) (G : PG) (hm : mb_simple_601 fu z0 F G = some res) {H : Heap} {locs : List Loc} (hw : mMW s A v a F G H locs) {ls : Array Slot} (hl : lv_has ls 11 []) : W p l e R s m args below meth c H locs 0 0 Q (F0 m 601 ls [.int z0, .ref (a 212)]) := by
  have hx := C.1
  have hb := C.2.1
  unfold mb_simple_601 at hm
  refine lv_iconst (v := 0) hx hb dX12_simple_601 (by decide) ?_
  exact mw_simple_602 fu C hret 0 z0 F G hm hw (lv_sub hl [] rfl)
theorem mw_simple_597 (fu : Nat) {res : Int32 × PF × PG} (C : mMC p R s m args c A v RX12 cX12_simple 11 304 18090) (hret : ∀ (H1 : Heap) (locs1 : List Loc) (ls1 : Array Slot) (pc : Nat), mMW s A v a res.2.1 res.2.2 H1 locs1 → narrow .boolean (.int res.1) = .int res.1 → decode cX12_simple pc = .ok (.ireturn, 1) → W p l e R s m args below meth c H1 locs1 0 0 Q (F0 m pc ls1 [.int res.1])) (z0 : Int32) (F : PF) (G : PG) (hm : mb_simple_597 fu z0 F G = some res) {H : Heap} {locs : List Loc} (hw : mMW s A v a F G H locs) {ls : Array Slot} (hl : lv_has ls 11 []) : W p l e R s m args below meth c H locs 0 0 Q (F0 m 597 ls [.int z0, .ref (a 212)]) := by
  have hx := C.1
  have hb := C.2.1
  unfold mb_simple_597 at hm
  refine lv_iconst (v := 1) hx hb dX12_simple_597 (by decide) ?_
  refine lv_goto (tgt := 602) hx hb dX12_simple_598 (by decide) ?_
  exact mw_simple_602 fu C hret 1 z0 F G hm hw (lv_sub hl [] rfl)
theorem mw_simple_589 (fu : Nat) {res : Int32 × PF × PG} (C : mMC p R s m args c A v RX12 cX12_simple 11 304 18090) (hret : ∀ (H1 : Heap) (locs1 : List Loc) (ls1 : Array Slot) (pc : Nat), mMW s A v a res.2.1 res.2.2 H1 locs1 → narrow .boolean (.int res.1) = .int res.1 → decode cX12_simple pc = .ok (.ireturn, 1) → W p l e R s m args below meth c H1 locs1 0 0 Q (F0 m pc ls1 [.int res.1])) (x6 : Int32) (F : PF) (G : PG) (hm : mb_simple_589 fu x6 F G = some res) {H : Heap} {locs : List Loc} (hw : mMW s A v a F G H locs) {ls : Array Slot} (hl : lv_has ls 11 [(0, .ref (a 212)), (6, .int x6)]) : W p l e R s m args below meth c H locs 0 0 Q (F0 m 589 ls []) := by
  have hx := C.1
  have hb := C.2.1
  unfold mb_simple_589 at hm
  refine lv_aload_n hx hb dX12_simple_589 rfl (lv_at hl 0 rfl) ?_
  refine lv_bipush (v := 8) hx hb dX12_simple_590 (by decide) ?_
  refine lv_iload hx hb dX12_simple_592 (lv_at hl 1 rfl) ?_
  refine lv_if_eq (tgt := 601) hx hb dX12_simple_594 (by decide) (fun c_1 => ?_) (fun c_1 => ?_)
  · have hm := (if_pos c_1).symm.trans hm
    exact mw_simple_601 fu C hret 8 F G hm hw (lv_sub hl [] rfl)
  · have hm := (if_neg c_1).symm.trans hm
    exact mw_simple_597 fu C hret 8 F G hm hw (lv_sub hl [] rfl)
theorem mw_simple_584 (fu : Nat) {res : Int32 × PF × PG} (C : mMC p R s m args c A v RX12 cX12_simple 11 304 18090) (hret : ∀ (H1 : Heap) (locs1 : List Loc) (ls1 : Array Slot) (pc : Nat), mMW s A v a res.2.1 res.2.2 H1 locs1 → narrow .boolean (.int res.1) = .int res.1 → decode cX12_simple pc = .ok (.ireturn, 1) → W p l e R s m args below meth c H1 locs1 0 0 Q (F0 m pc ls1 [.int res.1])) (x4 : Int32) (x6 : Int32) (x7 : Int32) (x8 : Int32) (F : PF) (G : PG) (hm : mb_simple_584 fu x4 x6 x7 x8 F G = some res) {H : Heap} {locs : List Loc} (hw : mMW s A v a F G H locs) {ls : Array Slot} (hl : lv_has ls 11 [(0, .ref (a 212)), (4, .int x4), (6, .int x6), (7, .int x7), (8, .int x8)]) : W p l e R s m args below meth c H locs 0 0 Q (F0 m 584 ls []) := by
  have hx := C.1
  have hb := C.2.1
  unfold mb_simple_584 at hm
  refine lv_iload hx hb dX12_simple_584 (lv_at hl 1 rfl) ?_
  refine lv_if_eq (tgt := 610) hx hb dX12_simple_586 (by decide) (fun c_1 => ?_) (fun c_1 => ?_)
  · have hm := (if_pos c_1).symm.trans hm
    exact mw_simple_610 fu C hret x7 x8 F G hm hw (lv_sub hl [0, 3, 4] rfl)
  · have hm := (if_neg c_1).symm.trans hm
    exact mw_simple_589 fu C hret x6 F G hm hw (lv_sub hl [0, 2] rfl)
theorem mw_simple_583 (fu : Nat) {res : Int32 × PF × PG} (C : mMC p R s m args c A v RX12 cX12_simple 11 304 18090) (hret : ∀ (H1 : Heap) (locs1 : List Loc) (ls1 : Array Slot) (pc : Nat), mMW s A v a res.2.1 res.2.2 H1 locs1 → narrow .boolean (.int res.1) = .int res.1 → decode cX12_simple pc = .ok (.ireturn, 1) → W p l e R s m args below meth c H1 locs1 0 0 Q (F0 m pc ls1 [.int res.1])) (x4 : Int32) (x6 : Int32) (x7 : Int32) (x8 : Int32) (z0 : Int32) (F : PF) (G : PG) (hm : mb_simple_583 fu x4 x6 x7 x8 z0 F G = some res) {H : Heap} {locs : List Loc} (hw : mMW s A v a F G H locs) {ls : Array Slot} (hl : lv_has ls 11 [(0, .ref (a 212)), (4, .int x4), (6, .int x6), (7, .int x7), (8, .int x8)]) : W p l e R s m args below meth c H locs 0 0 Q (F0 m 583 ls [.int z0]) := by
  have hx := C.1
  have hb := C.2.1
  unfold mb_simple_583 at hm
  refine lv_pop hx hb dX12_simple_583 rfl ?_
  exact mw_simple_584 fu C hret x4 x6 x7 x8 F G hm hw (lv_sub hl [0, 1, 2, 3, 4] rfl)
theorem mw_simple_579 (fu : Nat) {res : Int32 × PF × PG} (C : mMC p R s m args c A v RX12 cX12_simple 11 304 18090) (hret : ∀ (H1 : Heap) (locs1 : List Loc) (ls1 : Array Slot) (pc : Nat), mMW s A v a res.2.1 res.2.2 H1 locs1 → narrow .boolean (.int res.1) = .int res.1 → decode cX12_simple pc = .ok (.ireturn, 1) → W p l e R s m args below meth c H1 locs1 0 0 Q (F0 m pc ls1 [.int res.1])) (x4 : Int32) (x6 : Int32) (x7 : Int32) (x8 : Int32) (z0 : Int32) (z1 : Int32) (F : PF) (G : PG) (hm : mb_simple_579 fu x4 x6 x7 x8 z0 z1 F G = some res) {H : Heap} {locs : List Loc} (hw : mMW s A v a F G H locs) {ls : Array Slot} (hl : lv_has ls 11 [(0, .ref (a 212)), (4, .int x4), (6, .int x6), (7, .int x7), (8, .int x8)]) : W p l e R s m args below meth c H locs 0 0 Q (F0 m 579 ls [.int z0, .int z1, .ref (a 212)]) := by
  have hx := C.1
  have hb := C.2.1
  unfold mb_simple_579 at hm
  refine lv_iconst (v := 0) hx hb dX12_simple_579 (by decide) ?_
  obtain ⟨⟨r1, F1, G1⟩, hc, hm⟩ := bind_elim hm
  refine mcallI (n := 3) (As := [.int z1, .int z0, .int 0]) (rest := []) C hw (mk_step l v a _ fu z1 z0 0 F G r1 F1 G1 hc) (mrecv_X12 C hw) mm_203 mm_204 mm_205 mm_27 mm_206 (by decide +kernel) rfl (by omega) (by omega) hl.1 rfl (Nat.le_of_ble_eq_true rfl) dX12_simple_580 (fun H locs hw => ?_)
  exact mw_simple_583 fu C hret x4 x6 x7 x8 r1 F1 G1 hm hw (lv_sub hl [0, 1, 2, 3, 4] rfl)
theorem mw_simple_461 (fu : Nat) {res : Int32 × PF × PG} (C : mMC p R s m args c A v RX12 cX12_simple 11 304 18090) (hret : ∀ (H1 : Heap) (locs1 : List Loc) (ls1 : Array Slot) (pc : Nat), mMW s A v a res.2.1 res.2.2 H1 locs1 → narrow .boolean (.int res.1) = .int res.1 → decode cX12_simple pc = .ok (.ireturn, 1) → W p l e R s m args below meth c H1 locs1 0 0 Q (F0 m pc ls1 [.int res.1])) (x4 : Int32) (x6 : Int32) (x7 : Int32) (x8 : Int32) (z0 : Int32) (F : PF) (G : PG) (hm : mb_simple_461 fu x4 x6 x7 x8 z0 F G = some res) {H : Heap} {locs : List Loc} (hw : mMW s A v a F G H locs) {ls : Array Slot} (hl : lv_has ls 11 [(0, .ref (a 212)), (4, .int x4), (6, .int x6), (7, .int x7), (8, .int x8)]) : W p l e R s m args below meth c H locs 0 0 Q (F0 m 461 ls [.int z0, .ref (a 212)]) := by
  have hx := C.1
  have hb := C.2.1
  unfold mb_simple_461 at hm
  refine lv_bipush (v := 38) hx hb dX12_simple_461 (by decide) ?_
  refine lv_goto (tgt := 579) hx hb dX12_simple_463 (by decide) ?_
  exact mw_simple_579 fu C hret x4 x6 x7 x8 38 z0 F G hm hw (lv_sub hl [0, 1, 2, 3, 4] rfl)
theorem mw_simple_479 (fu : Nat) {res : Int32 × PF × PG} (C : mMC p R s m args c A v RX12 cX12_simple 11 304 18090) (hret : ∀ (H1 : Heap) (locs1 : List Loc) (ls1 : Array Slot) (pc : Nat), mMW s A v a res.2.1 res.2.2 H1 locs1 → narrow .boolean (.int res.1) = .int res.1 → decode cX12_simple pc = .ok (.ireturn, 1) → W p l e R s m args below meth c H1 locs1 0 0 Q (F0 m pc ls1 [.int res.1])) (x4 : Int32) (x6 : Int32) (x7 : Int32) (x8 : Int32) (z0 : Int32) (F : PF) (G : PG) (hm : mb_simple_479 fu x4 x6 x7 x8 z0 F G = some res) {H : Heap} {locs : List Loc} (hw : mMW s A v a F G H locs) {ls : Array Slot} (hl : lv_has ls 11 [(0, .ref (a 212)), (4, .int x4), (6, .int x6), (7, .int x7), (8, .int x8)]) : W p l e R s m args below meth c H locs 0 0 Q (F0 m 479 ls [.int z0, .ref (a 212)]) := by
  have hx := C.1
  have hb := C.2.1
  unfold mb_simple_479 at hm
  refine lv_bipush (v := 39) hx hb dX12_simple_479 (by decide) ?_
  refine lv_goto (tgt := 579) hx hb dX12_simple_481 (by decide) ?_
  exact mw_simple_579 fu C hret x4 x6 x7 x8 39 z0 F G hm hw (lv_sub hl [0, 1, 2, 3, 4] rfl)
theorem mw_simple_578 (fu : Nat) {res : Int32 × PF × PG} (C : mMC p R s m args c A v RX12 cX12_simple 11 304 18090) (hret : ∀ (H1 : Heap) (locs1 : List Loc) (ls1 : Array Slot) (pc : Nat), mMW s A v a res.2.1 res.2.2 H1 locs1 → narrow .boolean (.int res.1) = .int res.1 → decode cX12_simple pc = .ok (.ireturn, 1) → W p l e R s m args below meth c H1 locs1 0 0 Q (F0 m pc ls1 [.int res.1])) (x4 : Int32) (x6 : Int32) (x7 : Int32) (x8 : Int32) (z0 : Int32) (F : PF) (G : PG) (hm : mb_simple_578 fu x4 x6 x7 x8 z0 F G = some res) {H : Heap} {locs : List Loc} (hw : mMW s A v a F G H locs) {ls : Array Slot} (hl : lv_has ls 11 [(0, .ref (a 212)), (4, .int x4), (6, .int x6), (7, .int x7), (8, .int x8)]) : W p l e R s m args below meth c H locs 0 0 Q (F0 m 578 ls [.int z0, .ref (a 212)]) := by
  have hx := C.1
  have hb := C.2.1
  unfold mb_simple_578 at hm
  refine lv_iconst (v := 1) hx hb dX12_simple_578 (by decide) ?_
  exact mw_simple_579 fu C hret x4 x6 x7 x8 1 z0 F G hm hw (lv_sub hl [0, 1, 2, 3, 4] rfl)
theorem mw_simple_573 (fu : Nat) {res : Int32 × PF × PG} (C : mMC p R s m args c A v RX12 cX12_simple 11 304 18090) (hret : ∀ (H1 : Heap) (locs1 : List Loc) (ls1 : Array Slot) (pc : Nat), mMW s A v a res.2.1 res.2.2 H1 locs1 → narrow .boolean (.int res.1) = .int res.1 → decode cX12_simple pc = .ok (.ireturn, 1) → W p l e R s m args below meth c H1 locs1 0 0 Q (F0 m pc ls1 [.int res.1])) (x4 : Int32) (x6 : Int32) (x7 : Int32) (x8 : Int32) (z0 : Int32) (F : PF) (G : PG) (hm : mb_simple_573 fu x4 x6 x7 x8 z0 F G = some res) {H : Heap} {locs : List Loc} (hw : mMW s A v a F G H locs) {ls : Array Slot} (hl : lv_has ls 11 [(0, .ref (a 212)), (4, .int x4), (6, .int x6), (7, .int x7), (8, .int x8)]) : W p l e R s m args below meth c H locs 0 0 Q (F0 m 573 ls [.int z0, .ref (a 212)]) := by
  have hx := C.1
  have hb := C.2.1
  unfold mb_simple_573 at hm
  refine lv_bipush (v := 21) hx hb dX12_simple_573 (by decide) ?_
  refine lv_goto (tgt := 579) hx hb dX12_simple_575 (by decide) ?_
  exact mw_simple_579 fu C hret x4 x6 x7 x8 21 z0 F G hm hw (lv_sub hl [0, 1, 2, 3, 4] rfl)
theorem mw_simple_567 (fu : Nat) {res : Int32 × PF × PG} (C : mMC p R s m args c A v RX12 cX12_simple 11 304 18090) (hret : ∀ (H1 : Heap) (locs1 : List Loc) (ls1 : Array Slot) (pc : Nat), mMW s A v a res.2.1 res.2.2 H1 locs1 → narrow .boolean (.int res.1) = .int res.1 → decode cX12_simple pc = .ok (.ireturn, 1) → W p l e R s m args below meth c H1 locs1 0 0 Q (F0 m pc ls1 [.int res.1])) (x4 : Int32) (x6 : Int32) (x7 : Int32) (x8 : Int32) (x9 : Int32) (z0 : Int32) (F : PF) (G : PG) (hm : mb_simple_567 fu x4 x6 x7 x8 x9 z0 F G = some res) {H : Heap} {locs : List Loc} (hw : mMW s A v a F G H locs) {ls : Array Slot} (hl : lv_has ls 11 [(0, .ref (a 212)), (4, .int x4), (6, .int x6), (7, .int x7), (8, .int x8), (9, .int x9)]) : W p l e R s m args below meth c H locs 0 0 Q (F0 m 567 ls [.int z0, .ref (a 212)]) := by
  have hx := C.1
  have hb := C.2.1
  unfold mb_simple_567 at hm
  refine lv_iload hx hb dX12_simple_567 (lv_at hl 5 rfl) ?_
  refine lv_iconst (v := 3) hx hb dX12_simple_569 (by decide) ?_
  refine lv_icmp_ne (tgt := 578) hx hb dX12_simple_570 (by decide) (fun c_1 => ?_) (fun c_1 => ?_)
  · have hm := (if_neg c_1).symm.trans hm
    exact mw_simple_578 fu C hret x4 x6 x7 x8 z0 F G hm hw (lv_sub hl [0, 1, 2, 3, 4] rfl)
  · have hm := (if_pos c_1).symm.trans hm
    exact mw_simple_573 fu C hret x4 x6 x7 x8 z0 F G hm hw (lv_sub hl [0, 1, 2, 3, 4] rfl)
theorem mw_simple_562 (fu : Nat) {res : Int32 × PF × PG} (C : mMC p R s m args c A v RX12 cX12_simple 11 304 18090) (hret : ∀ (H1 : Heap) (locs1 : List Loc) (ls1 : Array Slot) (pc : Nat), mMW s A v a res.2.1 res.2.2 H1 locs1 → narrow .boolean (.int res.1) = .int res.1 → decode cX12_simple pc = .ok (.ireturn, 1) → W p l e R s m args below meth c H1 locs1 0 0 Q (F0 m pc ls1 [.int res.1])) (x4 : Int32) (x6 : Int32) (x7 : Int32) (x8 : Int32) (z0 : Int32) (F : PF) (G : PG) (hm : mb_simple_562 fu x4 x6 x7 x8 z0 F G = some res) {H : Heap} {locs : List Loc} (hw : mMW s A v a F G H locs) {ls : Array Slot} (hl : lv_has ls 11 [(0, .ref (a 212)), (4, .int x4), (6, .int x6), (7, .int x7), (8, .int x8)]) : W p l e R s m args below meth c H locs 0 0 Q (F0 m 562 ls [.int z0, .ref (a 212)]) := by
  have hx := C.1
  have hb := C.2.1
  unfold mb_simple_562 at hm
  refine lv_bipush (v := 20) hx hb dX12_simple_562 (by decide) ?_
  refine lv_goto (tgt := 579) hx hb dX12_simple_564 (by decide) ?_
  exact mw_simple_579 fu C hret x4 x6 x7 x8 20 z0 F G hm hw (lv_sub hl [0, 1, 2, 3, 4] rfl)
theorem mw_simple_556 (fu : Nat) {res : Int32 × PF × PG} (C : mMC p R s m args c A v RX12 cX12_simple 11 304 18090) (hret : ∀ (H1 : Heap) (locs1 : List Loc) (ls1 : Array Slot) (pc : Nat), mMW s A v a res.2.1 res.2.2 H1 locs1 → narrow .boolean (.int res.1) = .int res.1 → decode cX12_simple pc = .ok (.ireturn, 1) → W p l e R s m args below meth c H1 locs1 0 0 Q (F0 m pc ls1 [.int res.1])) (x4 : Int32) (x6 : Int32) (x7 : Int32) (x8 : Int32) (x9 : Int32) (z0 : Int32) (F : PF) (G : PG) (hm : mb_simple_556 fu x4 x6 x7 x8 x9 z0 F G = some res) {H : Heap} {locs : List Loc} (hw : mMW s A v a F G H locs) {ls : Array Slot} (hl : lv_has ls 11 [(0, .ref (a 212)), (4, .int x4), (6, .int x6), (7, .int x7), (8, .int x8), (9, .int x9)]) : W p l e R s m args below meth c H locs 0 0 Q (F0 m 556 ls [.int z0, .ref (a 212)]) := by
  have hx := C.1
  have hb := C.2.1
  unfold mb_simple_556 at hm
  refine lv_iload hx hb dX12_simple_556 (lv_at hl 5 rfl) ?_
  refine lv_iconst (v := 2) hx hb dX12_simple_558 (by decide) ?_
  refine lv_icmp_ne (tgt := 567) hx hb dX12_simple_559 (by decide) (fun c_1 => ?_) (fun c_1 => ?_)
  · have hm := (if_neg c_1).symm.trans hm
    exact mw_simple_567 fu C hret x4 x6 x7 x8 x9 z0 F G hm hw (lv_sub hl [0, 1, 2, 3, 4, 5] rfl)
  · have hm := (if_pos c_1).symm.trans hm
    exact mw_simple_562 fu C hret x4 x6 x7 x8 z0 F G hm hw (lv_sub hl [0, 1, 2, 3, 4] rfl)
theorem mw_simple_551 (fu : Nat) {res : Int32 × PF × PG} (C : mMC p R s m args c A v RX12 cX12_simple 11 304 18090) (hret : ∀ (H1 : Heap) (locs1 : List Loc) (ls1 : Array Slot) (pc : Nat), mMW s A v a res.2.1 res.2.2 H1 locs1 → narrow .boolean (.int res.1) = .int res.1 → decode cX12_simple pc = .ok (.ireturn, 1) → W p l e R s m args below meth c H1 locs1 0 0 Q (F0 m pc ls1 [.int res.1])) (x4 : Int32) (x6 : Int32) (x7 : Int32) (x8 : Int32) (z0 : Int32) (F : PF) (G : PG) (hm : mb_simple_551 fu x4 x6 x7 x8 z0 F G = some res) {H : Heap} {locs : List Loc} (hw : mMW s A v a F G H locs) {ls : Array Slot} (hl : lv_has ls 11 [(0, .ref (a 212)), (4, .int x4), (6, .int x6), (7, .int x7), (8, .int x8)]) : W p l e R s m args below meth c H locs 0 0 Q (F0 m 551 ls [.int z0, .ref (a 212)]) := by
  have hx := C.1
  have hb := C.2.1
  unfold mb_simple_551 at hm
  refine lv_bipush (v := 34) hx hb dX12_simple_551 (by decide) ?_
  refine lv_goto (tgt := 579) hx hb dX12_simple_553 (by decide) ?_
  exact mw_simple_579 fu C hret x4 x6 x7 x8 34 z0 F G hm hw (lv_sub hl [0, 1, 2, 3, 4] rfl)
theorem mw_simple_544 (fu : Nat) {res : Int32 × PF × PG} (C : mMC p R s m args c A v RX12 cX12_simple 11 304 18090) (hret : ∀ (H1 : Heap) (locs1 : List Loc) (ls1 : Array Slot) (pc : Nat), mMW s A v a res.2.1 res.2.2 H1 locs1 → narrow .boolean (.int res.1) = .int res.1 → decode cX12_simple pc = .ok (.ireturn, 1) → W p l e R s m args below meth c H1 locs1 0 0 Q (F0 m pc ls1 [.int res.1])) (x4 : Int32) (x6 : Int32) (x7 : Int32) (x8 : Int32) (x9 : Int32) (z0 : Int32) (F : PF) (G : PG) (hm : mb_simple_544 fu x4 x6 x7 x8 x9 z0 F G = some res) {H : Heap} {locs : List Loc} (hw : mMW s A v a F G H locs) {ls : Array Slot} (hl : lv_has ls 11 [(0, .ref (a 212)), (4, .int x4), (6, .int x6), (7, .int x7), (8, .int x8), (9, .int x9)]) : W p l e R s m args below meth c H locs 0 0 Q (F0 m 544 ls [.int z0, .ref (a 212)]) := by
  have hx := C.1
  have hb := C.2.1
  unfold mb_simple_544 at hm
  refine lv_iload hx hb dX12_simple_544 (lv_at hl 5 rfl) ?_
  refine lv_bipush (v := 11) hx hb dX12_simple_546 (by decide) ?_
  refine lv_icmp_ne (tgt := 556) hx hb dX12_simple_548 (by decide) (fun c_1 => ?_) (fun c_1 => ?_)
  · have hm := (if_neg c_1).symm.trans hm
    exact mw_simple_556 fu C hret x4 x6 x7 x8 x9 z0 F G hm hw (lv_sub hl [0, 1, 2, 3, 4, 5] rfl)
  · have hm := (if_pos c_1).symm.trans hm
    exact mw_simple_551 fu C hret x4 x6 x7 x8 z0 F G hm hw (lv_sub hl [0, 1, 2, 3, 4] rfl)
theorem mw_simple_539 (fu : Nat) {res : Int32 × PF × PG} (C : mMC p R s m args c A v RX12 cX12_simple 11 304 18090) (hret : ∀ (H1 : Heap) (locs1 : List Loc) (ls1 : Array Slot) (pc : Nat), mMW s A v a res.2.1 res.2.2 H1 locs1 → narrow .boolean (.int res.1) = .int res.1 → decode cX12_simple pc = .ok (.ireturn, 1) → W p l e R s m args below meth c H1 locs1 0 0 Q (F0 m pc ls1 [.int res.1])) (x4 : Int32) (x6 : Int32) (x7 : Int32) (x8 : Int32) (z0 : Int32) (F : PF) (G : PG) (hm : mb_simple_539 fu x4 x6 x7 x8 z0 F G = some res) {H : Heap} {locs : List Loc} (hw : mMW s A v a F G H locs) {ls : Array Slot} (hl : lv_has ls 11 [(0, .ref (a 212)), (4, .int x4), (6, .int x6), (7, .int x7), (8, .int x8)]) : W p l e R s m args below meth c H locs 0 0 Q (F0 m 539 ls [.int z0, .ref (a 212)]) := by
  have hx := C.1
  have hb := C.2.1
  unfold mb_simple_539 at hm
  refine lv_bipush (v := 33) hx hb dX12_simple_539 (by decide) ?_
  refine lv_goto (tgt := 579) hx hb dX12_simple_541 (by decide) ?_
  exact mw_simple_579 fu C hret x4 x6 x7 x8 33 z0 F G hm hw (lv_sub hl [0, 1, 2, 3, 4] rfl)
theorem mw_simple_532 (fu : Nat) {res : Int32 × PF × PG} (C : mMC p R s m args c A v RX12 cX12_simple 11 304 18090) (hret : ∀ (H1 : Heap) (locs1 : List Loc) (ls1 : Array Slot) (pc : Nat), mMW s A v a res.2.1 res.2.2 H1 locs1 → narrow .boolean (.int res.1) = .int res.1 → decode cX12_simple pc = .ok (.ireturn, 1) → W p l e R s m args below meth c H1 locs1 0 0 Q (F0 m pc ls1 [.int res.1])) (x4 : Int32) (x6 : Int32) (x7 : Int32) (x8 : Int32) (x9 : Int32) (z0 : Int32) (F : PF) (G : PG) (hm : mb_simple_532 fu x4 x6 x7 x8 x9 z0 F G = some res) {H : Heap} {locs : List Loc} (hw : mMW s A v a F G H locs) {ls : Array Slot} (hl : lv_has ls 11 [(0, .ref (a 212)), (4, .int x4), (6, .int x6), (7, .int x7), (8, .int x8), (9, .int x9)]) : W p l e R s m args below meth c H locs 0 0 Q (F0 m 532 ls [.int z0, .ref (a 212)]) := by
  have hx := C.1
  have hb := C.2.1
  unfold mb_simple_532 at hm
  refine lv_iload hx hb dX12_simple_532 (lv_at hl 5 rfl) ?_
  refine lv_bipush (v := 10) hx hb dX12_simple_534 (by decide) ?_
  refine lv_icmp_ne (tgt := 544) hx hb dX12_simple_536 (by decide) (fun c_1 => ?_) (fun c_1 => ?_)
  · have hm := (if_neg c_1).symm.trans hm
    exact mw_simple_544 fu C hret x4 x6 x7 x8 x9 z0 F G hm hw (lv_sub hl [0, 1, 2, 3, 4, 5] rfl)
  · have hm := (if_pos c_1).symm.trans hm
    exact mw_simple_539 fu C hret x4 x6 x7 x8 z0 F G hm hw (lv_sub hl [0, 1, 2, 3, 4] rfl)
theorem mw_simple_527 (fu : Nat) {res : Int32 × PF × PG} (C : mMC p R s m args c A v RX12 cX12_simple 11 304 18090) (hret : ∀ (H1 : Heap) (locs1 : List Loc) (ls1 : Array Slot) (pc : Nat), mMW s A v a res.2.1 res.2.2 H1 locs1 → narrow .boolean (.int res.1) = .int res.1 → decode cX12_simple pc = .ok (.ireturn, 1) → W p l e R s m args below meth c H1 locs1 0 0 Q (F0 m pc ls1 [.int res.1])) (x4 : Int32) (x6 : Int32) (x7 : Int32) (x8 : Int32) (z0 : Int32) (F : PF) (G : PG) (hm : mb_simple_527 fu x4 x6 x7 x8 z0 F G = some res) {H : Heap} {locs : List Loc} (hw : mMW s A v a F G H locs) {ls : Array Slot} (hl : lv_has ls 11 [(0, .ref (a 212)), (4, .int x4), (6, .int x6), (7, .int x7), (8, .int x8)]) : W p l e R s m args below meth c H locs 0 0 Q (F0 m 527 ls [.int z0, .ref (a 212)]) := by
  have hx := C.1
  have hb := C.2.1
  unfold mb_simple_527 at hm
  refine lv_bipush (v := 35) hx hb dX12_simple_527 (by decide) ?_
  refine lv_goto (tgt := 579) hx hb dX12_simple_529 (by decide) ?_
  exact mw_simple_579 fu C hret x4 x6 x7 x8 35 z0 F G hm hw (lv_sub hl [0, 1, 2, 3, 4] rfl)
theorem mw_simple_520 (fu : Nat) {res : Int32 × PF × PG} (C : mMC p R s m args c A v RX12 cX12_simple 11 304 18090) (hret : ∀ (H1 : Heap) (locs1 : List Loc) (ls1 : Array Slot) (pc : Nat), mMW s A v a res.2.1 res.2.2 H1 locs1 → narrow .boolean (.int res.1) = .int res.1 → decode cX12_simple pc = .ok (.ireturn, 1) → W p l e R s m args below meth c H1 locs1 0 0 Q (F0 m pc ls1 [.int res.1])) (x4 : Int32) (x6 : Int32) (x7 : Int32) (x8 : Int32) (x9 : Int32) (z0 : Int32) (F : PF) (G : PG) (hm : mb_simple_520 fu x4 x6 x7 x8 x9 z0 F G = some res) {H : Heap} {locs : List Loc} (hw : mMW s A v a F G H locs) {ls : Array Slot} (hl : lv_has ls 11 [(0, .ref (a 212)), (4, .int x4), (6, .int x6), (7, .int x7), (8, .int x8), (9, .int x9)]) : W p l e R s m args below meth c H locs 0 0 Q (F0 m 520 ls [.int z0, .ref (a 212)]) := by
  have hx := C.1
  have hb := C.2.1
  unfold mb_simple_520 at hm
  refine lv_iload hx hb dX12_simple_520 (lv_at hl 5 rfl) ?_
  refine lv_bipush (v := 9) hx hb dX12_simple_522 (by decide) ?_
  refine lv_icmp_ne (tgt := 532) hx hb dX12_simple_524 (by decide) (fun c_1 => ?_) (fun c_1 => ?_)
  · have hm := (if_neg c_1).symm.trans hm
    exact mw_simple_532 fu C hret x4 x6 x7 x8 x9 z0 F G hm hw (lv_sub hl [0, 1, 2, 3, 4, 5] rfl)
  · have hm := (if_pos c_1).symm.trans hm
    exact mw_simple_527 fu C hret x4 x6 x7 x8 z0 F G hm hw (lv_sub hl [0, 1, 2, 3, 4] rfl)
theorem mw_simple_515 (fu : Nat) {res : Int32 × PF × PG} (C : mMC p R s m args c A v RX12 cX12_simple 11 304 18090) (hret : ∀ (H1 : Heap) (locs1 : List Loc) (ls1 : Array Slot) (pc : Nat), mMW s A v a res.2.1 res.2.2 H1 locs1 → narrow .boolean (.int res.1) = .int res.1 → decode cX12_simple pc = .ok (.ireturn, 1) → W p l e R s m args below meth c H1 locs1 0 0 Q (F0 m pc ls1 [.int res.1])) (x4 : Int32) (x6 : Int32) (x7 : Int32) (x8 : Int32) (z0 : Int32) (F : PF) (G : PG) (hm : mb_simple_515 fu x4 x6 x7 x8 z0 F G = some res) {H : Heap} {locs : List Loc} (hw : mMW s A v a F G H locs) {ls : Array Slot} (hl : lv_has ls 11 [(0, .ref (a 212)), (4, .int x4), (6, .int x6), (7, .int x7), (8, .int x8)]) : W p l e R s m args below meth c H locs 0 0 Q (F0 m 515 ls [.int z0, .ref (a 212)]) := by
  have hx := C.1
  have hb := C.2.1
  unfold mb_simple_515 at hm
  refine lv_bipush (v := 42) hx hb dX12_simple_515 (by decide) ?_
  refine lv_goto (tgt := 579) hx hb dX12_simple_517 (by decide) ?_
  exact mw_simple_579 fu C hret x4 x6 x7 x8 42 z0 F G hm hw (lv_sub hl [0, 1, 2, 3, 4] rfl)
theorem mw_simple_508 (fu : Nat) {res : Int32 × PF × PG} (C : mMC p R s m args c A v RX12 cX12_simple 11 304 18090) (hret : ∀ (H1 : Heap) (locs1 : List Loc) (ls1 : Array Slot) (pc : Nat), mMW s A v a res.2.1 res.2.2 H1 locs1 → narrow .boolean (.int res.1) = .int res.1 → decode cX12_simple pc = .ok (.ireturn, 1) → W p l e R s m args below meth c H1 locs1 0 0 Q (F0 m pc ls1 [.int res.1])) (x4 : Int32) (x6 : Int32) (x7 : Int32) (x8 : Int32) (x9 : Int32) (z0 : Int32) (F : PF) (G : PG) (hm : mb_simple_508 fu x4 x6 x7 x8 x9 z0 F G = some res) {H : Heap} {locs : List Loc} (hw : mMW s A v a F G H locs) {ls : Array Slot} (hl : lv_has ls 11 [(0, .ref (a 212)), (4, .int x4), (6, .int x6), (7, .int x7), (8, .int x8), (9, .int x9)]) : W p l e R s m args below meth c H locs 0 0 Q (F0 m 508 ls [.int z0, .ref (a 212)]) := by
  have hx := C.1
  have hb := C.2.1
  unfold mb_simple_508 at hm
  refine lv_iload hx hb dX12_simple_508 (lv_at hl 5 rfl) ?_
  refine lv_bipush (v := 8) hx hb dX12_simple_510 (by decide) ?_
  refine lv_icmp_ne (tgt := 520) hx hb dX12_simple_512 (by decide) (fun c_1 => ?_) (fun c_1 => ?_)
  · have hm := (if_neg c_1).symm.trans hm
    exact mw_simple_520 fu C hret x4 x6 x7 x8 x9 z0 F G hm hw (lv_sub hl [0, 1, 2, 3, 4, 5] rfl)
  · have hm := (if_pos c_1).symm.trans hm
    exact mw_simple_515 fu C hret x4 x6 x7 x8 z0 F G hm hw (lv_sub hl [0, 1, 2, 3, 4] rfl)
theorem mw_simple_503 (fu : Nat) {res : Int32 × PF × PG} (C : mMC p R s m args c A v RX12 cX12_simple 11 304 18090) (hret : ∀ (H1 : Heap) (locs1 : List Loc) (ls1 : Array Slot) (pc : Nat), mMW s A v a res.2.1 res.2.2 H1 locs1 → narrow .boolean (.int res.1) = .int res.1 → decode cX12_simple pc = .ok (.ireturn, 1) → W p l e R s m args below meth c H1 locs1 0 0 Q (F0 m pc ls1 [.int res.1])) (x4 : Int32) (x6 : Int32) (x7 : Int32) (x8 : Int32) (z0 : Int32) (F : PF) (G : PG) (hm : mb_simple_503 fu x4 x6 x7 x8 z0 F G = some res) {H : Heap} {locs : List Loc} (hw : mMW s A v a F G H locs) {ls : Array Slot} (hl : lv_has ls 11 [(0, .ref (a 212)), (4, .int x4), (6, .int x6), (7, .int x7), (8, .int x8)]) : W p l e R s m args below meth c H locs 0 0 Q (F0 m 503 ls [.int z0, .ref (a 212)]) := by
  have hx := C.1
  have hb := C.2.1
  unfold mb_simple_503 at hm
  refine lv_bipush (v := 41) hx hb dX12_simple_503 (by decide) ?_
  refine lv_goto (tgt := 579) hx hb dX12_simple_505 (by decide) ?_
  exact mw_simple_579 fu C hret x4 x6 x7 x8 41 z0 F G hm hw (lv_sub hl [0, 1, 2, 3, 4] rfl)
theorem mw_simple_496 (fu : Nat) {res : Int32 × PF × PG} (C : mMC p R s m args c A v RX12 cX12_simple 11 304 18090) (hret : ∀ (H1 : Heap) (locs1 : List Loc) (ls1 : Array Slot) (pc : Nat), mMW s A v a res.2.1 res.2.2 H1 locs1 → narrow .boolean (.int res.1) = .int res.1 → decode cX12_simple pc = .ok (.ireturn, 1) → W p l e R s m args below meth c H1 locs1 0 0 Q (F0 m pc ls1 [.int res.1])) (x4 : Int32) (x6 : Int32) (x7 : Int32) (x8 : Int32) (x9 : Int32) (z0 : Int32) (F : PF) (G : PG) (hm : mb_simple_496 fu x4 x6 x7 x8 x9 z0 F G = some res) {H : Heap} {locs : List Loc} (hw : mMW s A v a F G H locs) {ls : Array Slot} (hl : lv_has ls 11 [(0, .ref (a 212)), (4, .int x4), (6, .int x6), (7, .int x7), (8, .int x8), (9, .int x9)]) : W p l e R s m args below meth c H locs 0 0 Q (F0 m 496 ls [.int z0, .ref (a 212)]) := by
  have hx := C.1
  have hb := C.2.1
  unfold mb_simple_496 at hm
  refine lv_iload hx hb dX12_simple_496 (lv_at hl 5 rfl) ?_
  refine lv_bipush (v := 7) hx hb dX12_simple_498 (by decide) ?_
  refine lv_icmp_ne (tgt := 508) hx hb dX12_simple_500 (by decide) (fun c_1 => ?_) (fun c_1 => ?_)
  · have hm := (if_neg c_1).symm.trans hm
    exact mw_simple_508 fu C hret x4 x6 x7 x8 x9 z0 F G hm hw (lv_sub hl [0, 1, 2, 3, 4, 5] rfl)
  · have hm := (if_pos c_1).symm.trans hm
    exact mw_simple_503 fu C hret x4 x6 x7 x8 z0 F G hm hw (lv_sub hl [0, 1, 2, 3, 4] rfl)
theorem mw_simple_491 (fu : Nat) {res : Int32 × PF × PG} (C : mMC p R s m args c A v RX12 cX12_simple 11 304 18090) (hret : ∀ (H1 : Heap) (locs1 : List Loc) (ls1 : Array Slot) (pc : Nat), mMW s A v a res.2.1 res.2.2 H1 locs1 → narrow .boolean (.int res.1) = .int res.1 → decode cX12_simple pc = .ok (.ireturn, 1) → W p l e R s m args below meth c H1 locs1 0 0 Q (F0 m pc ls1 [.int res.1])) (x4 : Int32) (x6 : Int32) (x7 : Int32) (x8 : Int32) (z0 : Int32) (F : PF) (G : PG) (hm : mb_simple_491 fu x4 x6 x7 x8 z0 F G = some res) {H : Heap} {locs : List Loc} (hw : mMW s A v a F G H locs) {ls : Array Slot} (hl : lv_has ls 11 [(0, .ref (a 212)), (4, .int x4), (6, .int x6), (7, .int x7), (8, .int x8)]) : W p l e R s m args below meth c H locs 0 0 Q (F0 m 491 ls [.int z0, .ref (a 212)]) := by
  have hx := C.1
  have hb := C.2.1
  unfold mb_simple_491 at hm
  refine lv_bipush (v := 40) hx hb dX12_simple_491 (by decide) ?_
  refine lv_goto (tgt := 579) hx hb dX12_simple_493 (by decide) ?_
  exact mw_simple_579 fu C hret x4 x6 x7 x8 40 z0 F G hm hw (lv_sub hl [0, 1, 2, 3, 4] rfl)
theorem mw_simple_484 (fu : Nat) {res : Int32 × PF × PG} (C : mMC p R s m args c A v RX12 cX12_simple 11 304 18090) (hret : ∀ (H1 : Heap) (locs1 : List Loc) (ls1 : Array Slot) (pc : Nat), mMW s A v a res.2.1 res.2.2 H1 locs1 → narrow .boolean (.int res.1) = .int res.1 → decode cX12_simple pc = .ok (.ireturn, 1) → W p l e R s m args below meth c H1 locs1 0 0 Q (F0 m pc ls1 [.int res.1])) (x4 : Int32) (x6 : Int32) (x7 : Int32) (x8 : Int32) (x9 : Int32) (z0 : Int32) (F : PF) (G : PG) (hm : mb_simple_484 fu x4 x6 x7 x8 x9 z0 F G = some res) {H : Heap} {locs : List Loc} (hw : mMW s A v a F G H locs) {ls : Array Slot} (hl : lv_has ls 11 [(0, .ref (a 212)), (4, .int x4), (6, .int x6), (7, .int x7), (8, .int x8), (9, .int x9)]) : W p l e R s m args below meth c H locs 0 0 Q (F0 m 484 ls [.int z0, .ref (a 212)]) := by
  have hx := C.1
  have hb := C.2.1
  unfold mb_simple_484 at hm
  refine lv_iload hx hb dX12_simple_484 (lv_at hl 5 rfl) ?_
  refine lv_bipush (v := 6) hx hb dX12_simple_486 (by decide) ?_
  refine lv_icmp_ne (tgt := 496) hx hb dX12_simple_488 (by decide) (fun c_1 => ?_) (fun c_1 => ?_)
  · have hm := (if_neg c_1).symm.trans hm
    exact mw_simple_496 fu C hret x4 x6 x7 x8 x9 z0 F G hm hw (lv_sub hl [0, 1, 2, 3, 4, 5] rfl)
  · have hm := (if_pos c_1).symm.trans hm
    exact mw_simple_491 fu C hret x4 x6 x7 x8 z0 F G hm hw (lv_sub hl [0, 1, 2, 3, 4] rfl)
theorem mw_simple_473 (fu : Nat) {res : Int32 × PF × PG} (C : mMC p R s m args c A v RX12 cX12_simple 11 304 18090) (hret : ∀ (H1 : Heap) (locs1 : List Loc) (ls1 : Array Slot) (pc : Nat), mMW s A v a res.2.1 res.2.2 H1 locs1 → narrow .boolean (.int res.1) = .int res.1 → decode cX12_simple pc = .ok (.ireturn, 1) → W p l e R s m args below meth c H1 locs1 0 0 Q (F0 m pc ls1 [.int res.1])) (x4 : Int32) (x6 : Int32) (x7 : Int32) (x8 : Int32) (x9 : Int32) (z0 : Int32) (F : PF) (G : PG) (hm : mb_simple_473 fu x4 x6 x7 x8 x9 z0 F G = some res) {H : Heap} {locs : List Loc} (hw : mMW s A v a F G H locs) {ls : Array Slot} (hl : lv_has ls 11 [(0, .ref (a 212)), (4, .int x4), (6, .int x6), (7, .int x7), (8, .int x8), (9, .int x9)]) : W p l e R s m args below meth c H locs 0 0 Q (F0 m 473 ls [.int z0, .ref (a 212)]) := by
  have hx := C.1
  have hb := C.2.1
  unfold mb_simple_473 at hm
  refine lv_iload hx hb dX12_simple_473 (lv_at hl 5 rfl) ?_
  refine lv_iconst (v := 5) hx hb dX12_simple_475 (by decide) ?_
  refine lv_icmp_ne (tgt := 484) hx hb dX12_simple_476 (by decide) (fun c_1 => ?_) (fun c_1 => ?_)
  · have hm := (if_neg c_1).symm.trans hm
    exact mw_simple_484 fu C hret x4 x6 x7 x8 x9 z0 F G hm hw (lv_sub hl [0, 1, 2, 3, 4, 5] rfl)
  · have hm := (if_pos c_1).symm.trans hm
    exact mw_simple_479 fu C hret x4 x6 x7 x8 z0 F G hm hw (lv_sub hl [0, 1, 2, 3, 4] rfl)
theorem mw_simple_466 (fu : Nat) {res : Int32 × PF × PG} (C : mMC p R s m args c A v RX12 cX12_simple 11 304 18090) (hret : ∀ (H1 : Heap) (locs1 : List Loc) (ls1 : Array Slot) (pc : Nat), mMW s A v a res.2.1 res.2.2 H1 locs1 → narrow .boolean (.int res.1) = .int res.1 → decode cX12_simple pc = .ok (.ireturn, 1) → W p l e R s m args below meth c H1 locs1 0 0 Q (F0 m pc ls1 [.int res.1])) (x4 : Int32) (x6 : Int32) (x7 : Int32) (x8 : Int32) (x9 : Int32) (z0 : Int32) (F : PF) (G : PG) (hm : mb_simple_466 fu x4 x6 x7 x8 x9 z0 F G = some res) {H : Heap} {locs : List Loc} (hw : mMW s A v a F G H locs) {ls : Array Slot} (hl : lv_has ls 11 [(0, .ref (a 212)), (4, .int x4), (6, .int x6), (7, .int x7), (8, .int x8), (9, .int x9)]) : W p l e R s m args below meth c H locs 0 0 Q (F0 m 466 ls [.int z0, .ref (a 212)]) := by
  have hx := C.1
  have hb := C.2.1
  unfold mb_simple_466 at hm
  refine lv_iload hx hb dX12_simple_466 (lv_at hl 5 rfl) ?_
  refine lv_bipush (v := 13) hx hb dX12_simple_468 (by decide) ?_
  refine lv_icmp_eq (tgt := 479) hx hb dX12_simple_470 (by decide) (fun c_1 => ?_) (fun c_1 => ?_)
  · have hm := (if_pos c_1).symm.trans hm
    exact mw_simple_479 fu C hret x4 x6 x7 x8 z0 F G hm hw (lv_sub hl [0, 1, 2, 3, 4] rfl)
  · have hm := (if_neg c_1).symm.trans hm
    exact mw_simple_473 fu C hret x4 x6 x7 x8 x9 z0 F G hm hw (lv_sub hl [0, 1, 2, 3, 4, 5] rfl)
theorem mw_simple_455 (fu : Nat) {res : Int32 × PF × PG} (C : mMC p R s m args c A v RX12 cX12_simple 11 304 18090) (hret : ∀ (H1 : Heap) (locs1 : List Loc) (ls1 : Array Slot) (pc : Nat), mMW s A v a res.2.1 res.2.2 H1 locs1 → narrow .boolean (.int res.1) = .int res.1 → decode cX12_simple pc = .ok (.ireturn, 1) → W p l e R s m args below meth c H1 locs1 0 0 Q (F0 m pc ls1 [.int res.1])) (x4 : Int32) (x6 : Int32) (x7 : Int32) (x8 : Int32) (x9 : Int32) (z0 : Int32) (F : PF) (G : PG) (hm : mb_simple_455 fu x4 x6 x7 x8 x9 z0 F G = some res) {H : Heap} {locs : List Loc} (hw : mMW s A v a F G H locs) {ls : Array Slot} (hl : lv_has ls 11 [(0, .ref (a 212)), (4, .int x4), (6, .int x6), (7, .int x7), (8, .int x8), (9, .int x9)]) : W p l e R s m args below meth c H locs 0 0 Q (F0 m 455 ls [.int z0, .ref (a 212)]) := by
  have hx := C.1
  have hb := C.2.1
  unfold mb_simple_455 at hm
  refine lv_iload hx hb dX12_simple_455 (lv_at hl 5 rfl) ?_
  refine lv_iconst (v := 4) hx hb dX12_simple_457 (by decide) ?_
  refine lv_icmp_ne (tgt := 466) hx hb dX12_simple_458 (by decide) (fun c_1 => ?_) (fun c_1 => ?_)
  · have hm := (if_neg c_1).symm.trans hm
    exact mw_simple_466 fu C hret x4 x6 x7 x8 x9 z0 F G hm hw (lv_sub hl [0, 1, 2, 3, 4, 5] rfl)
  · have hm := (if_pos c_1).symm.trans hm
    exact mw_simple_461 fu C hret x4 x6 x7 x8 z0 F G hm hw (lv_sub hl [0, 1, 2, 3, 4] rfl)
theorem mw_simple_445 (fu : Nat) {res : Int32 × PF × PG} (C : mMC p R s m args c A v RX12 cX12_simple 11 304 18090) (hret : ∀ (H1 : Heap) (locs1 : List Loc) (ls1 : Array Slot) (pc : Nat), mMW s A v a res.2.1 res.2.2 H1 locs1 → narrow .boolean (.int res.1) = .int res.1 → decode cX12_simple pc = .ok (.ireturn, 1) → W p l e R s m args below meth c H1 locs1 0 0 Q (F0 m pc ls1 [.int res.1])) (x4 : Int32) (x6 : Int32) (x7 : Int32) (x8 : Int32) (x9 : Int32) (F : PF) (G : PG) (hm : mb_simple_445 fu x4 x6 x7 x8 x9 F G = some res) {H : Heap} {locs : List Loc} (hw : mMW s A v a F G H locs) {ls : Array Slot} (hl : lv_has ls 11 [(0, .ref (a 212)), (4, .int x4), (6, .int x6), (7, .int x7), (8, .int x8), (9, .int x9)]) : W p l e R s m args below meth c H locs 0 0 Q (F0 m 445 ls []) := by
  have hx := C.1
  have hb := C.2.1
  unfold mb_simple_445 at hm
  refine lv_aload_n hx hb dX12_simple_445 rfl (lv_at hl 0 rfl) ?_
  refine lv_bipush (v := 10) hx hb dX12_simple_446 (by decide) ?_
  refine lv_iload hx hb dX12_simple_448 (lv_at hl 5 rfl) ?_
  refine lv_bipush (v := 12) hx hb dX12_simple_450 (by decide) ?_
  refine lv_icmp_eq (tgt := 461) hx hb dX12_simple_452 (by decide) (fun c_1 => ?_) (fun c_1 => ?_)
  · have hm := (if_pos c_1).symm.trans hm
    exact mw_simple_461 fu C hret x4 x6 x7 x8 10 F G hm hw (lv_sub hl [0, 1, 2, 3, 4] rfl)
  · have hm := (if_neg c_1).symm.trans hm
    exact mw_simple_455 fu C hret x4 x6 x7 x8 x9 10 F G hm hw (lv_sub hl [0, 1, 2, 3, 4, 5] rfl)
theorem mw_simple_438 (fu : Nat) {res : Int32 × PF × PG} (C : mMC p R s m args c A v RX12 cX12_simple 11 304 18090) (hret : ∀ (H1 : Heap) (locs1 : List Loc) (ls1 : Array Slot) (pc : Nat), mMW s A v a res.2.1 res.2.2 H1 locs1 → narrow .boolean (.int res.1) = .int res.1 → decode cX12_simple pc = .ok (.ireturn, 1) → W p l e R s m args below meth c H1 locs1 0 0 Q (F0 m pc ls1 [.int res.1])) (x4 : Int32) (x6 : Int32) (x7 : Int32) (x8 : Int32) (x9 : Int32) (F : PF) (G : PG) (hm : mb_simple_438 fu x4 x6 x7 x8 x9 F G = some res) {H : Heap} {locs : List Loc} (hw : mMW s A v a F G H locs) {ls : Array Slot} (hl : lv_has ls 11 [(0, .ref (a 212)), (4, .int x4), (6, .int x6), (7, .int x7), (8, .int x8), (9, .int x9)]) : W p l e R s m args below meth c H locs 0 0 Q (F0 m 438 ls []) := by
  have hx := C.1
  have hb := C.2.1
  unfold mb_simple_438 at hm
  refine lv_iload hx hb dX12_simple_438 (lv_at hl 5 rfl) ?_
  refine lv_bipush (v := 32) hx hb dX12_simple_440 (by decide) ?_
  refine lv_icmp_eq (tgt := 584) hx hb dX12_simple_442 (by decide) (fun c_1 => ?_) (fun c_1 => ?_)
  · have hm := (if_pos c_1).symm.trans hm
    exact mw_simple_584 fu C hret x4 x6 x7 x8 F G hm hw (lv_sub hl [0, 1, 2, 3, 4] rfl)
  · have hm := (if_neg c_1).symm.trans hm
    exact mw_simple_445 fu C hret x4 x6 x7 x8 x9 F G hm hw (lv_sub hl [0, 1, 2, 3, 4, 5] rfl)
theorem mw_simple_425 (fu : Nat) {res : Int32 × PF × PG} (C : mMC p R s m args c A v RX12 cX12_simple 11 304 18090) (hret : ∀ (H1 : Heap) (locs1 : List Loc) (ls1 : Array Slot) (pc : Nat), mMW s A v a res.2.1 res.2.2 H1 locs1 → narrow .boolean (.int res.1) = .int res.1 → decode cX12_simple pc = .ok (.ireturn, 1) → W p l e R s m args below meth c H1 locs1 0 0 Q (F0 m pc ls1 [.int res.1])) (x4 : Int32) (x6 : Int32) (x7 : Int32) (x8 : Int32) (x9 : Int32) (z0 : Int32) (F : PF) (G : PG) (hm : mb_simple_425 fu x4 x6 x7 x8 x9 z0 F G = some res) {H : Heap} {locs : List Loc} (hw : mMW s A v a F G H locs) {ls : Array Slot} (hl : lv_has ls 11 [(0, .ref (a 212)), (4, .int x4), (6, .int x6), (7, .int x7), (8, .int x8), (9, .int x9)]) : W p l e R s m args below meth c H locs 0 0 Q (F0 m 425 ls [.int z0]) := by
  have hx := C.1
  have hb := C.2.1
  unfold mb_simple_425 at hm
  refine lv_pop hx hb dX12_simple_425 rfl ?_
  refine lv_goto (tgt := 438) hx hb dX12_simple_426 (by decide) ?_
  exact mw_simple_438 fu C hret x4 x6 x7 x8 x9 F G hm hw (lv_sub hl [0, 1, 2, 3, 4, 5] rfl)
theorem mw_simple_418 (fu : Nat) {res : Int32 × PF × PG} (C : mMC p R s m args c A v RX12 cX12_simple 11 304 18090) (hret : ∀ (H1 : Heap) (locs1 : List Loc) (ls1 : Array Slot) (pc : Nat), mMW s A v a res.2.1 res.2.2 H1 locs1 → narrow .boolean (.int res.1) = .int res.1 → decode cX12_simple pc = .ok (.ireturn, 1) → W p l e R s m args below meth c H1 locs1 0 0 Q (F0 m pc ls1 [.int res.1])) (x4 : Int32) (x6 : Int32) (x7 : Int32) (x8 : Int32) (x9 : Int32) (F : PF) (G : PG) (hm : mb_simple_418 fu x4 x6 x7 x8 x9 F G = some res) {H : Heap} {locs : List Loc} (hw : mMW s A v a F G H locs) {ls : Array Slot} (hl : lv_has ls 11 [(0, .ref (a 212)), (4, .int x4), (6, .int x6), (7, .int x7), (8, .int x8), (9, .int x9)]) : W p l e R s m args below meth c H locs 0 0 Q (F0 m 418 ls []) := by
  have hx := C.1
  have hb := C.2.1
  unfold mb_simple_418 at hm
  refine lv_aload_n hx hb dX12_simple_418 rfl (lv_at hl 0 rfl) ?_
  refine lv_iconst (v := 0) hx hb dX12_simple_419 (by decide) ?_
  refine lv_iconst (v := 1) hx hb dX12_simple_420 (by decide) ?_
  refine lv_iconst (v := 0) hx hb dX12_simple_421 (by decide) ?_
  obtain ⟨⟨r1, F1, G1⟩, hc, hm⟩ := bind_elim hm
  refine mcallI (n := 3) (As := [.int 0, .int 1, .int 0]) (rest := []) C hw (mk_step l v a _ fu 0 1 0 F G r1 F1 G1 hc) (mrecv_X12 C hw) mm_203 mm_204 mm_205 mm_27 mm_206 (by decide +kernel) rfl (by omega) (by omega) hl.1 rfl (Nat.le_of_ble_eq_true rfl) dX12_simple_422 (fun H locs hw => ?_)
  exact mw_simple_425 fu C hret x4 x6 x7 x8 x9 r1 F1 G1 hm hw (lv_sub hl [0, 1, 2, 3, 4, 5] rfl)
theorem mw_simple_436 (fu : Nat) {res : Int32 × PF × PG} (C : mMC p R s m args c A v RX12 cX12_simple 11 304 18090) (hret : ∀ (H1 : Heap) (locs1 : List Loc) (ls1 : Array Slot) (pc : Nat), mMW s A v a res.2.1 res.2.2 H1 locs1 → narrow .boolean (.int res.1) = .int res.1 → decode cX12_simple pc = .ok (.ireturn, 1) → W p l e R s m args below meth c H1 locs1 0 0 Q (F0 m pc ls1 [.int res.1])) (F : PF) (G : PG) (hm : mb_simple_436 fu F G = some res) {H : Heap} {locs : List Loc} (hw : mMW s A v a F G H locs) {ls : Array Slot} (hl : lv_has ls 11 []) : W p l e R s m args below meth c H locs 0 0 Q (F0 m 436 ls []) := by
  have hx := C.1
  have hb := C.2.1
  unfold mb_simple_436 at hm
  refine lv_iconst (v := 0) hx hb dX12_simple_436 (by decide) ?_
  obtain rfl := Option.some.inj hm
  exact hret _ _ _ _ hw (b01_nar (v := 0) (Or.inl rfl)) dX12_simple_437
theorem mw_simple_433 (fu : Nat) {res : Int32 × PF × PG} (C : mMC p R s m args c A v RX12 cX12_simple 11 304 18090) (hret : ∀ (H1 : Heap) (locs1 : List Loc) (ls1 : Array Slot) (pc : Nat), mMW s A v a res.2.1 res.2.2 H1 locs1 → narrow .boolean (.int res.1) = .int res.1 → decode cX12_simple pc = .ok (.ireturn, 1) → W p l e R s m args below meth c H1 locs1 0 0 Q (F0 m pc ls1 [.int res.1])) (x4 : Int32) (x6 : Int32) (x7 : Int32) (x8 : Int32) (x9 : Int32) (z0 : Int32) (F : PF) (G : PG) (hm : mb_simple_433 fu x4 x6 x7 x8 x9 z0 F G = some res) {H : Heap} {locs : List Loc} (hw : mMW s A v a F G H locs) {ls : Array Slot} (hl : lv_has ls 11 [(0, .ref (a 212)), (4, .int x4), (6, .int x6), (7, .int x7), (8, .int x8), (9, .int x9)]) : W p l e R s m args below meth c H locs 0 0 Q (F0 m 433 ls [.int z0]) := by
  have hx := C.1
  have hb := C.2.1
  unfold mb_simple_433 at hm
  refine lv_if_ne (tgt := 438) hx hb dX12_simple_433 (by decide) (fun c_1 => ?_) (fun c_1 => ?_)
  · have hm := (if_neg c_1).symm.trans hm
    exact mw_simple_438 fu C hret x4 x6 x7 x8 x9 F G hm hw (lv_sub hl [0, 1, 2, 3, 4, 5] rfl)
  · have hm := (if_pos c_1).symm.trans hm
    exact mw_simple_436 fu C hret F G hm hw (lv_sub hl [] rfl)
theorem mw_simple_429 (fu : Nat) {res : Int32 × PF × PG} (C : mMC p R s m args c A v RX12 cX12_simple 11 304 18090) (hret : ∀ (H1 : Heap) (locs1 : List Loc) (ls1 : Array Slot) (pc : Nat), mMW s A v a res.2.1 res.2.2 H1 locs1 → narrow .boolean (.int res.1) = .int res.1 → decode cX12_simple pc = .ok (.ireturn, 1) → W p l e R s m args below meth c H1 locs1 0 0 Q (F0 m pc ls1 [.int res.1])) (x4 : Int32) (x6 : Int32) (x7 : Int32) (x8 : Int32) (x9 : Int32) (F : PF) (G : PG) (hm : mb_simple_429 fu x4 x6 x7 x8 x9 F G = some res) {H : Heap} {locs : List Loc} (hw : mMW s A v a F G H locs) {ls : Array Slot} (hl : lv_has ls 11 [(0, .ref (a 212)), (4, .int x4), (6, .int x6), (7, .int x7), (8, .int x8), (9, .int x9)]) : W p l e R s m args below meth c H locs 0 0 Q (F0 m 429 ls []) := by
  have hx := C.1
  have hb := C.2.1
  unfold mb_simple_429 at hm
  refine lv_aload_n hx hb dX12_simple_429 rfl (lv_at hl 0 rfl) ?_
  obtain ⟨⟨r1, F1, G1⟩, hc, hm⟩ := bind_elim hm
  refine mcallI (n := 0) (As := []) (rest := []) C hw (mk_expression l v a _ fu F G r1 F1 G1 hc) (mrecv_X12 C hw) mm_191 mm_192 mm_193 mm_27 mm_194 (by decide +kernel) rfl (by omega) (by omega) hl.1 rfl (Nat.le_of_ble_eq_true rfl) dX12_simple_430 (fun H locs hw => ?_)
  exact mw_simple_433 fu C hret x4 x6 x7 x8 x9 r1 F1 G1 hm hw (lv_sub hl [0, 1, 2, 3, 4, 5] rfl)
theorem mw_simple_411 (fu : Nat) {res : Int32 × PF × PG} (C : mMC p R s m args c A v RX12 cX12_simple 11 304 18090) (hret : ∀ (H1 : Heap) (locs1 : List Loc) (ls1 : Array Slot) (pc : Nat), mMW s A v a res.2.1 res.2.2 H1 locs1 → narrow .boolean (.int res.1) = .int res.1 → decode cX12_simple pc = .ok (.ireturn, 1) → W p l e R s m args below meth c H1 locs1 0 0 Q (F0 m pc ls1 [.int res.1])) (x4 : Int32) (x6 : Int32) (x7 : Int32) (x8 : Int32) (x9 : Int32) (F : PF) (G : PG) (hm : mb_simple_411 fu x4 x6 x7 x8 x9 F G = some res) {H : Heap} {locs : List Loc} (hw : mMW s A v a F G H locs) {ls : Array Slot} (hl : lv_has ls 11 [(0, .ref (a 212)), (4, .int x4), (6, .int x6), (7, .int x7), (8, .int x8), (9, .int x9)]) : W p l e R s m args below meth c H locs 0 0 Q (F0 m 411 ls []) := by
  have hx := C.1
  have hb := C.2.1
  unfold mb_simple_411 at hm
  refine lv_iload hx hb dX12_simple_411 (lv_at hl 5 rfl) ?_
  refine lv_bipush (v := 13) hx hb dX12_simple_413 (by decide) ?_
  refine lv_icmp_ne (tgt := 429) hx hb dX12_simple_415 (by decide) (fun c_1 => ?_) (fun c_1 => ?_)
  · have hm := (if_neg c_1).symm.trans hm
    exact mw_simple_429 fu C hret x4 x6 x7 x8 x9 F G hm hw (lv_sub hl [0, 1, 2, 3, 4, 5] rfl)
  · have hm := (if_pos c_1).symm.trans hm
    exact mw_simple_418 fu C hret x4 x6 x7 x8 x9 F G hm hw (lv_sub hl [0, 1, 2, 3, 4, 5] rfl)
theorem mw_simple_404 (fu : Nat) {res : Int32 × PF × PG} (C : mMC p R s m args c A v RX12 cX12_simple 11 304 18090) (hret : ∀ (H1 : Heap) (locs1 : List Loc) (ls1 : Array Slot) (pc : Nat), mMW s A v a res.2.1 res.2.2 H1 locs1 → narrow .boolean (.int res.1) = .int res.1 → decode cX12_simple pc = .ok (.ireturn, 1) → W p l e R s m args below meth c H1 locs1 0 0 Q (F0 m pc ls1 [.int res.1])) (x4 : Int32) (x6 : Int32) (x7 : Int32) (x8 : Int32) (x9 : Int32) (F : PF) (G : PG) (hm : mb_simple_404 fu x4 x6 x7 x8 x9 F G = some res) {H : Heap} {locs : List Loc} (hw : mMW s A v a F G H locs) {ls : Array Slot} (hl : lv_has ls 11 [(0, .ref (a 212)), (4, .int x4), (6, .int x6), (7, .int x7), (8, .int x8), (9, .int x9)]) : W p l e R s m args below meth c H locs 0 0 Q (F0 m 404 ls []) := by
  have hx := C.1
  have hb := C.2.1
  unfold mb_simple_404 at hm
  refine lv_iload hx hb dX12_simple_404 (lv_at hl 5 rfl) ?_
  refine lv_bipush (v := 12) hx hb dX12_simple_406 (by decide) ?_
  refine lv_icmp_eq (tgt := 418) hx hb dX12_simple_408 (by decide) (fun c_1 => ?_) (fun c_1 => ?_)
  · have hm := (if_pos c_1).symm.trans hm
    exact mw_simple_418 fu C hret x4 x6 x7 x8 x9 F G hm hw (lv_sub hl [0, 1, 2, 3, 4, 5] rfl)
  · have hm := (if_neg c_1).symm.trans hm
    exact mw_simple_411 fu C hret x4 x6 x7 x8 x9 F G hm hw (lv_sub hl [0, 1, 2, 3, 4, 5] rfl)
theorem mw_simple_403 (fu : Nat) {res : Int32 × PF × PG} (C : mMC p R s m args c A v RX12 cX12_simple 11 304 18090) (hret : ∀ (H1 : Heap) (locs1 : List Loc) (ls1 : Array Slot) (pc : Nat), mMW s A v a res.2.1 res.2.2 H1 locs1 → narrow .boolean (.int res.1) = .int res.1 → decode cX12_simple pc = .ok (.ireturn, 1) → W p l e R s m args below meth c H1 locs1 0 0 Q (F0 m pc ls1 [.int res.1])) (x4 : Int32) (x6 : Int32) (x7 : Int32) (x8 : Int32) (x9 : Int32) (z0 : Int32) (F : PF) (G : PG) (hm : mb_simple_403 fu x4 x6 x7 x8 x9 z0 F G = some res) {H : Heap} {locs : List Loc} (hw : mMW s A v a F G H locs) {ls : Array Slot} (hl : lv_has ls 11 [(0, .ref (a 212)), (4, .int x4), (6, .int x6), (7, .int x7), (8, .int x8), (9, .int x9)]) : W p l e R s m args below meth c H locs 0 0 Q (F0 m 403 ls [.int z0]) := by
  have hx := C.1
  have hb := C.2.1
  unfold mb_simple_403 at hm
  refine lv_pop hx hb dX12_simple_403 rfl ?_
  exact mw_simple_404 fu C hret x4 x6 x7 x8 x9 F G hm hw (lv_sub hl [0, 1, 2, 3, 4, 5] rfl)
theorem mw_simple_397 (fu : Nat) {res : Int32 × PF × PG} (C : mMC p R s m args c A v RX12 cX12_simple 11 304 18090) (hret : ∀ (H1 : Heap) (locs1 : List Loc) (ls1 : Array Slot) (pc : Nat), mMW s A v a res.2.1 res.2.2 H1 locs1 → narrow .boolean (.int res.1) = .int res.1 → decode cX12_simple pc = .ok (.ireturn, 1) → W p l e R s m args below meth c H1 locs1 0 0 Q (F0 m pc ls1 [.int res.1])) (x4 : Int32) (x6 : Int32) (x7 : Int32) (x8 : Int32) (x9 : Int32) (z0 : Int32) (F : PF) (G : PG) (hm : mb_simple_397 fu x4 x6 x7 x8 x9 z0 F G = some res) {H : Heap} {locs : List Loc} (hw : mMW s A v a F G H locs) {ls : Array Slot} (hl : lv_has ls 11 [(0, .ref (a 212)), (4, .int x4), (6, .int x6), (7, .int x7), (8, .int x8), (9, .int x9)]) : W p l e R s m args below meth c H locs 0 0 Q (F0 m 397 ls [.int z0, .ref (a 212)]) := by
  have hx := C.1
  have hb := C.2.1
  unfold mb_simple_397 at hm
  refine lv_iload hx hb dX12_simple_397 (lv_at hl 4 rfl) ?_
  refine lv_iconst (v := 0) hx hb dX12_simple_399 (by decide) ?_
  obtain ⟨⟨r1, F1, G1⟩, hc, hm⟩ := bind_elim hm
  refine mcallI (n := 3) (As := [.int z0, .int x8, .int 0]) (rest := []) C hw (mk_step l v a _ fu z0 x8 0 F G r1 F1 G1 hc) (mrecv_X12 C hw) mm_203 mm_204 mm_205 mm_27 mm_206 (by decide +kernel) rfl (by omega) (by omega) hl.1 rfl (Nat.le_of_ble_eq_true rfl) dX12_simple_400 (fun H locs hw => ?_)
  exact mw_simple_403 fu C hret x4 x6 x7 x8 x9 r1 F1 G1 hm hw (lv_sub hl [0, 1, 2, 3, 4, 5] rfl)
theorem mw_simple_396 (fu : Nat) {res : Int32 × PF × PG} (C : mMC p R s m args c A v RX12 cX12_simple 11 304 18090) (hret : ∀ (H1 : Heap) (locs1 : List Loc) (ls1 : Array Slot) (pc : Nat), mMW s A v a res.2.1 res.2.2 H1 locs1 → narrow .boolean (.int res.1) = .int res.1 → decode cX12_simple pc = .ok (.ireturn, 1) → W p l e R s m args below meth c H1 locs1 0 0 Q (F0 m pc ls1 [.int res.1])) (x4 : Int32) (x6 : Int32) (x7 : Int32) (x8 : Int32) (x9 : Int32) (F : PF) (G : PG) (hm : mb_simple_396 fu x4 x6 x7 x8 x9 F G = some res) {H : Heap} {locs : List Loc} (hw : mMW s A v a F G H locs) {ls : Array Slot} (hl : lv_has ls 11 [(0, .ref (a 212)), (4, .int x4), (6, .int x6), (7, .int x7), (8, .int x8), (9, .int x9)]) : W p l e R s m args below meth c H locs 0 0 Q (F0 m 396 ls [.ref (a 212)]) := by
  have hx := C.1
  have hb := C.2.1
  unfold mb_simple_396 at hm
  refine lv_iconst (v := 3) hx hb dX12_simple_396 (by decide) ?_
  exact mw_simple_397 fu C hret x4 x6 x7 x8 x9 3 F G hm hw (lv_sub hl [0, 1, 2, 3, 4, 5] rfl)
theorem mw_simple_392 (fu : Nat) {res : Int32 × PF × PG} (C : mMC p R s m args c A v RX12 cX12_simple 11 304 18090) (hret : ∀ (H1 : Heap) (locs1 : List Loc) (ls1 : Array Slot) (pc : Nat), mMW s A v a res.2.1 res.2.2 H1 locs1 → narrow .boolean (.int res.1) = .int res.1 → decode cX12_simple pc = .ok (.ireturn, 1) → W p l e R s m args below meth c H1 locs1 0 0 Q (F0 m pc ls1 [.int res.1])) (x4 : Int32) (x6 : Int32) (x7 : Int32) (x8 : Int32) (x9 : Int32) (F : PF) (G : PG) (hm : mb_simple_392 fu x4 x6 x7 x8 x9 F G = some res) {H : Heap} {locs : List Loc} (hw : mMW s A v a F G H locs) {ls : Array Slot} (hl : lv_has ls 11 [(0, .ref (a 212)), (4, .int x4), (6, .int x6), (7, .int x7), (8, .int x8), (9, .int x9)]) : W p l e R s m args below meth c H locs 0 0 Q (F0 m 392 ls [.ref (a 212)]) := by
  have hx := C.1
  have hb := C.2.1
  unfold mb_simple_392 at hm
  refine lv_iconst (v := 1) hx hb dX12_simple_392 (by decide) ?_
  refine lv_goto (tgt := 397) hx hb dX12_simple_393 (by decide) ?_
  exact mw_simple_397 fu C hret x4 x6 x7 x8 x9 1 F G hm hw (lv_sub hl [0, 1, 2, 3, 4, 5] rfl)
theorem mw_simple_386 (fu : Nat) {res : Int32 × PF × PG} (C : mMC p R s m args c A v RX12 cX12_simple 11 304 18090) (hret : ∀ (H1 : Heap) (locs1 : List Loc) (ls1 : Array Slot) (pc : Nat), mMW s A v a res.2.1 res.2.2 H1 locs1 → narrow .boolean (.int res.1) = .int res.1 → decode cX12_simple pc = .ok (.ireturn, 1) → W p l e R s m args below meth c H1 locs1 0 0 Q (F0 m pc ls1 [.int res.1])) (x4 : Int32) (x6 : Int32) (x7 : Int32) (x8 : Int32) (x9 : Int32) (F : PF) (G : PG) (hm : mb_simple_386 fu x4 x6 x7 x8 x9 F G = some res) {H : Heap} {locs : List Loc} (hw : mMW s A v a F G H locs) {ls : Array Slot} (hl : lv_has ls 11 [(0, .ref (a 212)), (4, .int x4), (6, .int x6), (7, .int x7), (8, .int x8), (9, .int x9)]) : W p l e R s m args below meth c H locs 0 0 Q (F0 m 386 ls []) := by
  have hx := C.1
  have hb := C.2.1
  unfold mb_simple_386 at hm
  refine lv_aload_n hx hb dX12_simple_386 rfl (lv_at hl 0 rfl) ?_
  refine lv_iload hx hb dX12_simple_387 (lv_at hl 3 rfl) ?_
  refine lv_if_eq (tgt := 396) hx hb dX12_simple_389 (by decide) (fun c_1 => ?_) (fun c_1 => ?_)
  · have hm := (if_pos c_1).symm.trans hm
    exact mw_simple_396 fu C hret x4 x6 x7 x8 x9 F G hm hw (lv_sub hl [0, 1, 2, 3, 4, 5] rfl)
  · have hm := (if_neg c_1).symm.trans hm
    exact mw_simple_392 fu C hret x4 x6 x7 x8 x9 F G hm hw (lv_sub hl [0, 1, 2, 3, 4, 5] rfl)
theorem mw_simple_382 (fu : Nat) {res : Int32 × PF × PG} (C : mMC p R s m args c A v RX12 cX12_simple 11 304 18090) (hret : ∀ (H1 : Heap) (locs1 : List Loc) (ls1 : Array Slot) (pc : Nat), mMW s A v a res.2.1 res.2.2 H1 locs1 → narrow .boolean (.int res.1) = .int res.1 → decode cX12_simple pc = .ok (.ireturn, 1) → W p l e R s m args below meth c H1 locs1 0 0 Q (F0 m pc ls1 [.int res.1])) (x4 : Int32) (x6 : Int32) (x7 : Int32) (x8 : Int32) (x9 : Int32) (z0 : Int32) (F : PF) (G : PG) (hm : mb_simple_382 fu x4 x6 x7 x8 x9 z0 F G = some res) {H : Heap} {locs : List Loc} (hw : mMW s A v a F G H locs) {ls : Array Slot} (hl : lv_has ls 11 [(0, .ref (a 212)), (4, .int x4), (6, .int x6), (7, .int x7), (8, .int x8), (9, .int x9)]) : W p l e R s m args below meth c H locs 0 0 Q (F0 m 382 ls [.int z0]) := by
  have hx := C.1
  have hb := C.2.1
  unfold mb_simple_382 at hm
  refine lv_pop hx hb dX12_simple_382 rfl ?_
  refine lv_goto (tgt := 404) hx hb dX12_simple_383 (by decide) ?_
  exact mw_simple_404 fu C hret x4 x6 x7 x8 x9 F G hm hw (lv_sub hl [0, 1, 2, 3, 4, 5] rfl)
theorem mw_simple_373 (fu : Nat) {res : Int32 × PF × PG} (C : mMC p R s m args c A v RX12 cX12_simple 11 304 18090) (hret : ∀ (H1 : Heap) (locs1 : List Loc) (ls1 : Array Slot) (pc : Nat), mMW s A v a res.2.1 res.2.2 H1 locs1 → narrow .boolean (.int res.1) = .int res.1 → decode cX12_simple pc = .ok (.ireturn, 1) → W p l e R s m args below meth c H1 locs1 0 0 Q (F0 m pc ls1 [.int res.1])) (x4 : Int32) (x6 : Int32) (x7 : Int32) (x8 : Int32) (x9 : Int32) (z0 : Int32) (F : PF) (G : PG) (hm : mb_simple_373 fu x4 x6 x7 x8 x9 z0 F G = some res) {H : Heap} {locs : List Loc} (hw : mMW s A v a F G H locs) {ls : Array Slot} (hl : lv_has ls 11 [(0, .ref (a 212)), (4, .int x4), (6, .int x6), (7, .int x7), (8, .int x8), (9, .int x9)]) : W p l e R s m args below meth c H locs 0 0 Q (F0 m 373 ls [.int z0]) := by
  have hx := C.1
  have hb := C.2.1
  unfold mb_simple_373 at hm
  refine lv_pop hx hb dX12_simple_373 rfl ?_
  refine lv_aload_n hx hb dX12_simple_374 rfl (lv_at hl 0 rfl) ?_
  refine lv_bipush (v := 7) hx hb dX12_simple_375 (by decide) ?_
  refine lv_iconst (v := 0) hx hb dX12_simple_377 (by decide) ?_
  refine lv_iconst (v := 0) hx hb dX12_simple_378 (by decide) ?_
  obtain ⟨⟨r1, F1, G1⟩, hc, hm⟩ := bind_elim hm
  refine mcallI (n := 3) (As := [.int 7, .int 0, .int 0]) (rest := []) C hw (mk_step l v a _ fu 7 0 0 F G r1 F1 G1 hc) (mrecv_X12 C hw) mm_203 mm_204 mm_205 mm_27 mm_206 (by decide +kernel) rfl (by omega) (by omega) hl.1 rfl (Nat.le_of_ble_eq_true rfl) dX12_simple_379 (fun H locs hw => ?_)
  exact mw_simple_382 fu C hret x4 x6 x7 x8 x9 r1 F1 G1 hm hw (lv_sub hl [0, 1, 2, 3, 4, 5] rfl)
theorem mw_simple_365 (fu : Nat) {res : Int32 × PF × PG} (C : mMC p R s m args c A v RX12 cX12_simple 11 304 18090) (hret : ∀ (H1 : Heap) (locs1 : List Loc) (ls1 : Array Slot) (pc : Nat), mMW s A v a res.2.1 res.2.2 H1 locs1 → narrow .boolean (.int res.1) = .int res.1 → decode cX12_simple pc = .ok (.ireturn, 1) → W p l e R s m args below meth c H1 locs1 0 0 Q (F0 m pc ls1 [.int res.1])) (x4 : Int32) (x6 : Int32) (x7 : Int32) (x8 : Int32) (x9 : Int32) (F : PF) (G : PG) (hm : mb_simple_365 fu x4 x6 x7 x8 x9 F G = some res) {H : Heap} {locs : List Loc} (hw : mMW s A v a F G H locs) {ls : Array Slot} (hl : lv_has ls 11 [(0, .ref (a 212)), (4, .int x4), (6, .int x6), (7, .int x7), (8, .int x8), (9, .int x9)]) : W p l e R s m args below meth c H locs 0 0 Q (F0 m 365 ls []) := by
  have hx := C.1
  have hb := C.2.1
  unfold mb_simple_365 at hm
  refine lv_aload_n hx hb dX12_simple_365 rfl (lv_at hl 0 rfl) ?_
  refine lv_bipush (v := 9) hx hb dX12_simple_366 (by decide) ?_
  refine lv_iconst (v := 0) hx hb dX12_simple_368 (by decide) ?_
  refine lv_iconst (v := 0) hx hb dX12_simple_369 (by decide) ?_
  obtain ⟨⟨r1, F1, G1⟩, hc, hm⟩ := bind_elim hm
  refine mcallI (n := 3) (As := [.int 9, .int 0, .int 0]) (rest := []) C hw (mk_step l v a _ fu 9 0 0 F G r1 F1 G1 hc) (mrecv_X12 C hw) mm_203 mm_204 mm_205 mm_27 mm_206 (by decide +kernel) rfl (by omega) (by omega) hl.1 rfl (Nat.le_of_ble_eq_true rfl) dX12_simple_370 (fun H locs hw => ?_)
  exact mw_simple_373 fu C hret x4 x6 x7 x8 x9 r1 F1 G1 hm hw (lv_sub hl [0, 1, 2, 3, 4, 5] rfl)
theorem mw_simple_360 (fu : Nat) {res : Int32 × PF × PG} (C : mMC p R s m args c A v RX12 cX12_simple 11 304 18090) (hret : ∀ (H1 : Heap) (locs1 : List Loc) (ls1 : Array Slot) (pc : Nat), mMW s A v a res.2.1 res.2.2 H1 locs1 → narrow .boolean (.int res.1) = .int res.1 → decode cX12_simple pc = .ok (.ireturn, 1) → W p l e R s m args below meth c H1 locs1 0 0 Q (F0 m pc ls1 [.int res.1])) (x4 : Int32) (x6 : Int32) (x7 : Int32) (x8 : Int32) (x9 : Int32) (F : PF) (G : PG) (hm : mb_simple_360 fu x4 x6 x7 x8 x9 F G = some res) {H : Heap} {locs : List Loc} (hw : mMW s A v a F G H locs) {ls : Array Slot} (hl : lv_has ls 11 [(0, .ref (a 212)), (4, .int x4), (6, .int x6), (7, .int x7), (8, .int x8), (9, .int x9)]) : W p l e R s m args below meth c H locs 0 0 Q (F0 m 360 ls []) := by
  have hx := C.1
  have hb := C.2.1
  unfold mb_simple_360 at hm
  refine lv_iload hx hb dX12_simple_360 (lv_at hl 1 rfl) ?_
  refine lv_if_eq (tgt := 386) hx hb dX12_simple_362 (by decide) (fun c_1 => ?_) (fun c_1 => ?_)
  · have hm := (if_pos c_1).symm.trans hm
    exact mw_simple_386 fu C hret x4 x6 x7 x8 x9 F G hm hw (lv_sub hl [0, 1, 2, 3, 4, 5] rfl)
  · have hm := (if_neg c_1).symm.trans hm
    exact mw_simple_365 fu C hret x4 x6 x7 x8 x9 F G hm hw (lv_sub hl [0, 1, 2, 3, 4, 5] rfl)
theorem mw_simple_353 (fu : Nat) {res : Int32 × PF × PG} (C : mMC p R s m args c A v RX12 cX12_simple 11 304 18090) (hret : ∀ (H1 : Heap) (locs1 : List Loc) (ls1 : Array Slot) (pc : Nat), mMW s A v a res.2.1 res.2.2 H1 locs1 → narrow .boolean (.int res.1) = .int res.1 → decode cX12_simple pc = .ok (.ireturn, 1) → W p l e R s m args below meth c H1 locs1 0 0 Q (F0 m pc ls1 [.int res.1])) (x4 : Int32) (x6 : Int32) (x7 : Int32) (x8 : Int32) (x9 : Int32) (F : PF) (G : PG) (hm : mb_simple_353 fu x4 x6 x7 x8 x9 F G = some res) {H : Heap} {locs : List Loc} (hw : mMW s A v a F G H locs) {ls : Array Slot} (hl : lv_has ls 11 [(0, .ref (a 212)), (4, .int x4), (6, .int x6), (7, .int x7), (8, .int x8), (9, .int x9)]) : W p l e R s m args below meth c H locs 0 0 Q (F0 m 353 ls []) := by
  have hx := C.1
  have hb := C.2.1
  unfold mb_simple_353 at hm
  refine lv_iload hx hb dX12_simple_353 (lv_at hl 5 rfl) ?_
  refine lv_bipush (v := 32) hx hb dX12_simple_355 (by decide) ?_
  refine lv_icmp_eq (tgt := 404) hx hb dX12_simple_357 (by decide) (fun c_1 => ?_) (fun c_1 => ?_)
  · have hm := (if_pos c_1).symm.trans hm
    exact mw_simple_404 fu C hret x4 x6 x7 x8 x9 F G hm hw (lv_sub hl [0, 1, 2, 3, 4, 5] rfl)
  · have hm := (if_neg c_1).symm.trans hm
    exact mw_simple_360 fu C hret x4 x6 x7 x8 x9 F G hm hw (lv_sub hl [0, 1, 2, 3, 4, 5] rfl)
theorem mw_simple_343 (fu : Nat) {res : Int32 × PF × PG} (C : mMC p R s m args c A v RX12 cX12_simple 11 304 18090) (hret : ∀ (H1 : Heap) (locs1 : List Loc) (ls1 : Array Slot) (pc : Nat), mMW s A v a res.2.1 res.2.2 H1 locs1 → narrow .boolean (.int res.1) = .int res.1 → decode cX12_simple pc = .ok (.ireturn, 1) → W p l e R s m args below meth c H1 locs1 0 0 Q (F0 m pc ls1 [.int res.1])) (x4 : Int32) (x6 : Int32) (x7 : Int32) (x8 : Int32) (x9 : Int32) (F : PF) (G : PG) (hm : mb_simple_343 fu x4 x6 x7 x8 x9 F G = some res) {H : Heap} {locs : List Loc} (hw : mMW s A v a F G H locs) {ls : Array Slot} (hl : lv_has ls 11 [(0, .ref (a 212)), (4, .int x4), (6, .int x6), (7, .int x7), (8, .int x8), (9, .int x9)]) : W p l e R s m args below meth c H locs 0 0 Q (F0 m 343 ls []) := by
  have hx := C.1
  have hb := C.2.1
  unfold mb_simple_343 at hm
  refine lv_aload_n hx hb dX12_simple_343 rfl (lv_at hl 0 rfl) ?_
  refine lv_dup hx hb dX12_simple_344 rfl ?_
  refine mg_X12_233 C hw dX12_simple_345 ?_
  refine lv_iconst (v := 1) hx hb dX12_simple_348 (by decide) ?_
  refine lv_iadd hx hb dX12_simple_349 ?_
  refine mp_X12_233 C hw dX12_simple_350 (fun H locs hw => ?_)
  exact mw_simple_353 fu C hret x4 x6 x7 x8 x9 (fup F 42 ((F 42) + (1 : Int32))) G hm hw (lv_sub hl [0, 1, 2, 3, 4, 5] rfl)
theorem mw_simple_342 (fu : Nat) {res : Int32 × PF × PG} (C : mMC p R s m args c A v RX12 cX12_simple 11 304 18090) (hret : ∀ (H1 : Heap) (locs1 : List Loc) (ls1 : Array Slot) (pc : Nat), mMW s A v a res.2.1 res.2.2 H1 locs1 → narrow .boolean (.int res.1) = .int res.1 → decode cX12_simple pc = .ok (.ireturn, 1) → W p l e R s m args below meth c H1 locs1 0 0 Q (F0 m pc ls1 [.int res.1])) (z0 : Int32) (F : PF) (G : PG) (hm : mb_simple_342 fu z0 F G = some res) {H : Heap} {locs : List Loc} (hw : mMW s A v a F G H locs) {ls : Array Slot} (hl : lv_has ls 11 []) : W p l e R s m args below meth c H locs 0 0 Q (F0 m 342 ls [.int z0]) := by
  have hx := C.1
  have hb := C.2.1
  unfold mb_simple_342 at hm
  obtain ⟨hz, hm⟩ := b01_elim hm
  obtain rfl := Option.some.inj hm
  exact hret _ _ _ _ hw (b01_nar hz) dX12_simple_342
theorem mw_simple_337 (fu : Nat) {res : Int32 × PF × PG} (C : mMC p R s m args c A v RX12 cX12_simple 11 304 18090) (hret : ∀ (H1 : Heap) (locs1 : List Loc) (ls1 : Array Slot) (pc : Nat), mMW s A v a res.2.1 res.2.2 H1 locs1 → narrow .boolean (.int res.1) = .int res.1 → decode cX12_simple pc = .ok (.ireturn, 1) → W p l e R s m args below meth c H1 locs1 0 0 Q (F0 m pc ls1 [.int res.1])) (F : PF) (G : PG) (hm : mb_simple_337 fu F G = some res) {H : Heap} {locs : List Loc} (hw : mMW s A v a F G H locs) {ls : Array Slot} (hl : lv_has ls 11 [(0, .ref (a 212))]) : W p l e R s m args below meth c H locs 0 0 Q (F0 m 337 ls []) := by
  have hx := C.1
  have hb := C.2.1
  unfold mb_simple_337 at hm
  refine lv_aload_n hx hb dX12_simple_337 rfl (lv_at hl 0 rfl) ?_
  refine lv_iconst (v := 2) hx hb dX12_simple_338 (by decide) ?_
  obtain ⟨⟨r1, F1, G1⟩, hc, hm⟩ := bind_elim hm
  refine mcallI (n := 1) (As := [.int 2]) (rest := []) C hw (mk_fails l v a _ fu 2 F G r1 F1 G1 hc) (mrecv_X12 C hw) mm_166 mm_167 mm_168 mm_27 mm_169 (by decide +kernel) rfl (by omega) (by omega) hl.1 rfl (Nat.le_of_ble_eq_true rfl) dX12_simple_339 (fun H locs hw => ?_)
  exact mw_simple_342 fu C hret r1 F1 G1 hm hw (lv_sub hl [] rfl)
theorem mw_simple_330 (fu : Nat) {res : Int32 × PF × PG} (C : mMC p R s m args c A v RX12 cX12_simple 11 304 18090) (hret : ∀ (H1 : Heap) (locs1 : List Loc) (ls1 : Array Slot) (pc : Nat), mMW s A v a res.2.1 res.2.2 H1 locs1 → narrow .boolean (.int res.1) = .int res.1 → decode cX12_simple pc = .ok (.ireturn, 1) → W p l e R s m args below meth c H1 locs1 0 0 Q (F0 m pc ls1 [.int res.1])) (x4 : Int32) (x6 : Int32) (x7 : Int32) (x8 : Int32) (x9 : Int32) (z0 : Int32) (F : PF) (G : PG) (hm : mb_simple_330 fu x4 x6 x7 x8 x9 z0 F G = some res) {H : Heap} {locs : List Loc} (hw : mMW s A v a F G H locs) {ls : Array Slot} (hl : lv_has ls 11 [(0, .ref (a 212)), (4, .int x4), (6, .int x6), (7, .int x7), (8, .int x8), (9, .int x9)]) : W p l e R s m args below meth c H locs 0 0 Q (F0 m 330 ls [.int z0]) := by
  have hx := C.1
  have hb := C.2.1
  unfold mb_simple_330 at hm
  refine lv_istore (lv' := [(10, .int z0), (0, .ref (a 212)), (4, .int x4), (6, .int x6), (7, .int x7), (8, .int x8), (9, .int x9)]) hx hb dX12_simple_330 hl (by decide) rfl (fun ls hl => ?_)
  refine lv_iload hx hb dX12_simple_332 (lv_at hl 0 rfl) ?_
  refine lv_if_ne (tgt := 343) hx hb dX12_simple_334 (by decide) (fun c_1 => ?_) (fun c_1 => ?_)
  · have hm := (if_neg c_1).symm.trans hm
    exact mw_simple_343 fu C hret x4 x6 x7 x8 x9 F G hm hw (lv_sub hl [1, 2, 3, 4, 5, 6] rfl)
  · have hm := (if_pos c_1).symm.trans hm
    exact mw_simple_337 fu C hret F G hm hw (lv_sub hl [1] rfl)
theorem mw_simple_325 (fu : Nat) {res : Int32 × PF × PG} (C : mMC p R s m args c A v RX12 cX12_simple 11 304 18090) (hret : ∀ (H1 : Heap) (locs1 : List Loc) (ls1 : Array Slot) (pc : Nat), mMW s A v a res.2.1 res.2.2 H1 locs1 → narrow .boolean (.int res.1) = .int res.1 → decode cX12_simple pc = .ok (.ireturn, 1) → W p l e R s m args below meth c H1 locs1 0 0 Q (F0 m pc ls1 [.int res.1])) (x4 : Int32) (x6 : Int32) (x7 : Int32) (x8 : Int32) (x9 : Int32) (F : PF) (G : PG) (hm : mb_simple_325 fu x4 x6 x7 x8 x9 F G = some res) {H : Heap} {locs : List Loc} (hw : mMW s A v a F G H locs) {ls : Array Slot} (hl : lv_has ls 11 [(0, .ref (a 212)), (4, .int x4), (6, .int x6), (7, .int x7), (8, .int x8), (9, .int x9)]) : W p l e R s m args below meth c H locs 0 0 Q (F0 m 325 ls []) := by
  have hx := C.1
  have hb := C.2.1
  unfold mb_simple_325 at hm
  refine lv_iconst (v := 1) hx hb dX12_simple_325 (by decide) ?_
  refine lv_goto (tgt := 330) hx hb dX12_simple_326 (by decide) ?_
  exact mw_simple_330 fu C hret x4 x6 x7 x8 x9 1 F G hm hw (lv_sub hl [0, 1, 2, 3, 4, 5] rfl)
theorem mw_simple_329 (fu : Nat) {res : Int32 × PF × PG} (C : mMC p R s m args c A v RX12 cX12_simple 11 304 18090) (hret : ∀ (H1 : Heap) (locs1 : List Loc) (ls1 : Array Slot) (pc : Nat), mMW s A v a res.2.1 res.2.2 H1 locs1 → narrow .boolean (.int res.1) = .int res.1 → decode cX12_simple pc = .ok (.ireturn, 1) → W p l e R s m args below meth c H1 locs1 0 0 Q (F0 m pc ls1 [.int res.1])) (x4 : Int32) (x6 : Int32) (x7 : Int32) (x8 : Int32) (x9 : Int32) (F : PF) (G : PG) (hm : mb_simple_329 fu x4 x6 x7 x8 x9 F G = some res) {H : Heap} {locs : List Loc} (hw : mMW s A v a F G H locs) {ls : Array Slot} (hl : lv_has ls 11 [(0, .ref (a 212)), (4, .int x4), (6, .int x6), (7, .int x7), (8, .int x8), (9, .int x9)]) : W p l e R s m args below meth c H locs 0 0 Q (F0 m 329 ls []) := by
  have hx := C.1
  have hb := C.2.1
  unfold mb_simple_329 at hm
  refine lv_iconst (v := 0) hx hb dX12_simple_329 (by decide) ?_
  exact mw_simple_330 fu C hret x4 x6 x7 x8 x9 0 F G hm hw (lv_sub hl [0, 1, 2, 3, 4, 5] rfl)
theorem mw_simple_318 (fu : Nat) {res : Int32 × PF × PG} (C : mMC p R s m args c A v RX12 cX12_simple 11 304 18090) (hret : ∀ (H1 : Heap) (locs1 : List Loc) (ls1 : Array Slot) (pc : Nat), mMW s A v a res.2.1 res.2.2 H1 locs1 → narrow .boolean (.int res.1) = .int res.1 → decode cX12_simple pc = .ok (.ireturn, 1) → W p l e R s m args below meth c H1 locs1 0 0 Q (F0 m pc ls1 [.int res.1])) (x4 : Int32) (x6 : Int32) (x7 : Int32) (x8 : Int32) (x9 : Int32) (F : PF) (G : PG) (hm : mb_simple_318 fu x4 x6 x7 x8 x9 F G = some res) {H : Heap} {locs : List Loc} (hw : mMW s A v a F G H locs) {ls : Array Slot} (hl : lv_has ls 11 [(0, .ref (a 212)), (4, .int x4), (6, .int x6), (7, .int x7), (8, .int x8), (9, .int x9)]) : W p l e R s m args below meth c H locs 0 0 Q (F0 m 318 ls []) := by
  have hx := C.1
  have hb := C.2.1
  unfold mb_simple_318 at hm
  refine lv_iload hx hb dX12_simple_318 (lv_at hl 5 rfl) ?_
  refine lv_bipush (v := 12) hx hb dX12_simple_320 (by decide) ?_
  refine lv_icmp_ge (tgt := 329) hx hb dX12_simple_322 (by decide) (fun c_1 => ?_) (fun c_1 => ?_)
  · have hm := (if_pos c_1).symm.trans hm
    exact mw_simple_329 fu C hret x4 x6 x7 x8 x9 F G hm hw (lv_sub hl [0, 1, 2, 3, 4, 5] rfl)
  · have hm := (if_neg c_1).symm.trans hm
    exact mw_simple_325 fu C hret x4 x6 x7 x8 x9 F G hm hw (lv_sub hl [0, 1, 2, 3, 4, 5] rfl)
theorem mw_simple_312 (fu : Nat) {res : Int32 × PF × PG} (C : mMC p R s m args c A v RX12 cX12_simple 11 304 18090) (hret : ∀ (H1 : Heap) (locs1 : List Loc) (ls1 : Array Slot) (pc : Nat), mMW s A v a res.2.1 res.2.2 H1 locs1 → narrow .boolean (.int res.1) = .int res.1 → decode cX12_simple pc = .ok (.ireturn, 1) → W p l e R s m args below meth c H1 locs1 0 0 Q (F0 m pc ls1 [.int res.1])) (x4 : Int32) (x6 : Int32) (x7 : Int32) (x8 : Int32) (x9 : Int32) (F : PF) (G : PG) (hm : mb_simple_312 fu x4 x6 x7 x8 x9 F G = some res) {H : Heap} {locs : List Loc} (hw : mMW s A v a F G H locs) {ls : Array Slot} (hl : lv_has ls 11 [(0, .ref (a 212)), (4, .int x4), (6, .int x6), (7, .int x7), (8, .int x8), (9, .int x9)]) : W p l e R s m args below meth c H locs 0 0 Q (F0 m 312 ls []) := by
  have hx := C.1
  have hb := C.2.1
  unfold mb_simple_312 at hm
  refine lv_iload hx hb dX12_simple_312 (lv_at hl 5 rfl) ?_
  refine lv_iconst (v := 4) hx hb dX12_simple_314 (by decide) ?_
  refine lv_icmp_lt (tgt := 329) hx hb dX12_simple_315 (by decide) (fun c_1 => ?_) (fun c_1 => ?_)
  · have hm := (if_pos c_1).symm.trans hm
    exact mw_simple_329 fu C hret x4 x6 x7 x8 x9 F G hm hw (lv_sub hl [0, 1, 2, 3, 4, 5] rfl)
  · have hm := (if_neg c_1).symm.trans hm
    exact mw_simple_318 fu C hret x4 x6 x7 x8 x9 F G hm hw (lv_sub hl [0, 1, 2, 3, 4, 5] rfl)
theorem mw_simple_306 (fu : Nat) {res : Int32 × PF × PG} (C : mMC p R s m args c A v RX12 cX12_simple 11 304 18090) (hret : ∀ (H1 : Heap) (locs1 : List Loc) (ls1 : Array Slot) (pc : Nat), mMW s A v a res.2.1 res.2.2 H1 locs1 → narrow .boolean (.int res.1) = .int res.1 → decode cX12_simple pc = .ok (.ireturn, 1) → W p l e R s m args below meth c H1 locs1 0 0 Q (F0 m pc ls1 [.int res.1])) (x4 : Int32) (x6 : Int32) (x7 : Int32) (x8 : Int32) (x9 : Int32) (F : PF) (G : PG) (hm : mb_simple_306 fu x4 x6 x7 x8 x9 F G = some res) {H : Heap} {locs : List Loc} (hw : mMW s A v a F G H locs) {ls : Array Slot} (hl : lv_has ls 11 [(0, .ref (a 212)), (4, .int x4), (6, .int x6), (7, .int x7), (8, .int x8), (9, .int x9)]) : W p l e R s m args below meth c H locs 0 0 Q (F0 m 306 ls []) := by
  have hx := C.1
  have hb := C.2.1
  unfold mb_simple_306 at hm
  refine lv_iload hx hb dX12_simple_306 (lv_at hl 5 rfl) ?_
  refine lv_iconst (v := 3) hx hb dX12_simple_308 (by decide) ?_
  refine lv_icmp_eq (tgt := 325) hx hb dX12_simple_309 (by decide) (fun c_1 => ?_) (fun c_1 => ?_)
  · have hm := (if_pos c_1).symm.trans hm
    exact mw_simple_325 fu C hret x4 x6 x7 x8 x9 F G hm hw (lv_sub hl [0, 1, 2, 3, 4, 5] rfl)
  · have hm := (if_neg c_1).symm.trans hm
    exact mw_simple_312 fu C hret x4 x6 x7 x8 x9 F G hm hw (lv_sub hl [0, 1, 2, 3, 4, 5] rfl)
theorem mw_simple_300 (fu : Nat) {res : Int32 × PF × PG} (C : mMC p R s m args c A v RX12 cX12_simple 11 304 18090) (hret : ∀ (H1 : Heap) (locs1 : List Loc) (ls1 : Array Slot) (pc : Nat), mMW s A v a res.2.1 res.2.2 H1 locs1 → narrow .boolean (.int res.1) = .int res.1 → decode cX12_simple pc = .ok (.ireturn, 1) → W p l e R s m args below meth c H1 locs1 0 0 Q (F0 m pc ls1 [.int res.1])) (x4 : Int32) (x6 : Int32) (x7 : Int32) (x8 : Int32) (x9 : Int32) (F : PF) (G : PG) (hm : mb_simple_300 fu x4 x6 x7 x8 x9 F G = some res) {H : Heap} {locs : List Loc} (hw : mMW s A v a F G H locs) {ls : Array Slot} (hl : lv_has ls 11 [(0, .ref (a 212)), (4, .int x4), (6, .int x6), (7, .int x7), (8, .int x8), (9, .int x9)]) : W p l e R s m args below meth c H locs 0 0 Q (F0 m 300 ls []) := by
  have hx := C.1
  have hb := C.2.1
  unfold mb_simple_300 at hm
  refine lv_iload hx hb dX12_simple_300 (lv_at hl 5 rfl) ?_
  refine lv_iconst (v := 2) hx hb dX12_simple_302 (by decide) ?_
  refine lv_icmp_eq (tgt := 325) hx hb dX12_simple_303 (by decide) (fun c_1 => ?_) (fun c_1 => ?_)
  · have hm := (if_pos c_1).symm.trans hm
    exact mw_simple_325 fu C hret x4 x6 x7 x8 x9 F G hm hw (lv_sub hl [0, 1, 2, 3, 4, 5] rfl)
  · have hm := (if_neg c_1).symm.trans hm
    exact mw_simple_306 fu C hret x4 x6 x7 x8 x9 F G hm hw (lv_sub hl [0, 1, 2, 3, 4, 5] rfl)
theorem mw_simple_295 (fu : Nat) {res : Int32 × PF × PG} (C : mMC p R s m args c A v RX12 cX12_simple 11 304 18090) (hret : ∀ (H1 : Heap) (locs1 : List Loc) (ls1 : Array Slot) (pc : Nat), mMW s A v a res.2.1 res.2.2 H1 locs1 → narrow .boolean (.int res.1) = .int res.1 → decode cX12_simple pc = .ok (.ireturn, 1) → W p l e R s m args below meth c H1 locs1 0 0 Q (F0 m pc ls1 [.int res.1])) (x4 : Int32) (x6 : Int32) (x7 : Int32) (x8 : Int32) (x9 : Int32) (F : PF) (G : PG) (hm : mb_simple_295 fu x4 x6 x7 x8 x9 F G = some res) {H : Heap} {locs : List Loc} (hw : mMW s A v a F G H locs) {ls : Array Slot} (hl : lv_has ls 11 [(0, .ref (a 212)), (4, .int x4), (6, .int x6), (7, .int x7), (8, .int x8), (9, .int x9)]) : W p l e R s m args below meth c H locs 0 0 Q (F0 m 295 ls []) := by
  have hx := C.1
  have hb := C.2.1
  unfold mb_simple_295 at hm
  refine lv_iload hx hb dX12_simple_295 (lv_at hl 5 rfl) ?_
  refine lv_if_eq (tgt := 325) hx hb dX12_simple_297 (by decide) (fun c_1 => ?_) (fun c_1 => ?_)
  · have hm := (if_pos c_1).symm.trans hm
    exact mw_simple_325 fu C hret x4 x6 x7 x8 x9 F G hm hw (lv_sub hl [0, 1, 2, 3, 4, 5] rfl)
  · have hm := (if_neg c_1).symm.trans hm
    exact mw_simple_300 fu C hret x4 x6 x7 x8 x9 F G hm hw (lv_sub hl [0, 1, 2, 3, 4, 5] rfl)
theorem mw_simple_288 (fu : Nat) {res : Int32 × PF × PG} (C : mMC p R s m args c A v RX12 cX12_simple 11 304 18090) (hret : ∀ (H1 : Heap) (locs1 : List Loc) (ls1 : Array Slot) (pc : Nat), mMW s A v a res.2.1 res.2.2 H1 locs1 → narrow .boolean (.int res.1) = .int res.1 → decode cX12_simple pc = .ok (.ireturn, 1) → W p l e R s m args below meth c H1 locs1 0 0 Q (F0 m pc ls1 [.int res.1])) (x4 : Int32) (x6 : Int32) (x7 : Int32) (x8 : Int32) (x9 : Int32) (F : PF) (G : PG) (hm : mb_simple_288 fu x4 x6 x7 x8 x9 F G = some res) {H : Heap} {locs : List Loc} (hw : mMW s A v a F G H locs) {ls : Array Slot} (hl : lv_has ls 11 [(0, .ref (a 212)), (4, .int x4), (6, .int x6), (7, .int x7), (8, .int x8), (9, .int x9)]) : W p l e R s m args below meth c H locs 0 0 Q (F0 m 288 ls []) := by
  have hx := C.1
  have hb := C.2.1
  unfold mb_simple_288 at hm
  refine lv_iload hx hb dX12_simple_288 (lv_at hl 5 rfl) ?_
  refine lv_bipush (v := 13) hx hb dX12_simple_290 (by decide) ?_
  refine lv_icmp_eq (tgt := 325) hx hb dX12_simple_292 (by decide) (fun c_1 => ?_) (fun c_1 => ?_)
  · have hm := (if_pos c_1).symm.trans hm
    exact mw_simple_325 fu C hret x4 x6 x7 x8 x9 F G hm hw (lv_sub hl [0, 1, 2, 3, 4, 5] rfl)
  · have hm := (if_neg c_1).symm.trans hm
    exact mw_simple_295 fu C hret x4 x6 x7 x8 x9 F G hm hw (lv_sub hl [0, 1, 2, 3, 4, 5] rfl)
theorem mw_simple_281 (fu : Nat) {res : Int32 × PF × PG} (C : mMC p R s m args c A v RX12 cX12_simple 11 304 18090) (hret : ∀ (H1 : Heap) (locs1 : List Loc) (ls1 : Array Slot) (pc : Nat), mMW s A v a res.2.1 res.2.2 H1 locs1 → narrow .boolean (.int res.1) = .int res.1 → decode cX12_simple pc = .ok (.ireturn, 1) → W p l e R s m args below meth c H1 locs1 0 0 Q (F0 m pc ls1 [.int res.1])) (x4 : Int32) (x6 : Int32) (x7 : Int32) (x8 : Int32) (x9 : Int32) (F : PF) (G : PG) (hm : mb_simple_281 fu x4 x6 x7 x8 x9 F G = some res) {H : Heap} {locs : List Loc} (hw : mMW s A v a F G H locs) {ls : Array Slot} (hl : lv_has ls 11 [(0, .ref (a 212)), (4, .int x4), (6, .int x6), (7, .int x7), (8, .int x8), (9, .int x9)]) : W p l e R s m args below meth c H locs 0 0 Q (F0 m 281 ls []) := by
  have hx := C.1
  have hb := C.2.1
  unfold mb_simple_281 at hm
  refine lv_iload hx hb dX12_simple_281 (lv_at hl 5 rfl) ?_
  refine lv_bipush (v := 12) hx hb dX12_simple_283 (by decide) ?_
  refine lv_icmp_eq (tgt := 325) hx hb dX12_simple_285 (by decide) (fun c_1 => ?_) (fun c_1 => ?_)
  · have hm := (if_pos c_1).symm.trans hm
    exact mw_simple_325 fu C hret x4 x6 x7 x8 x9 F G hm hw (lv_sub hl [0, 1, 2, 3, 4, 5] rfl)
  · have hm := (if_neg c_1).symm.trans hm
    exact mw_simple_288 fu C hret x4 x6 x7 x8 x9 F G hm hw (lv_sub hl [0, 1, 2, 3, 4, 5] rfl)
theorem mw_simple_272 (fu : Nat) {res : Int32 × PF × PG} (C : mMC p R s m args c A v RX12 cX12_simple 11 304 18090) (hret : ∀ (H1 : Heap) (locs1 : List Loc) (ls1 : Array Slot) (pc : Nat), mMW s A v a res.2.1 res.2.2 H1 locs1 → narrow .boolean (.int res.1) = .int res.1 → decode cX12_simple pc = .ok (.ireturn, 1) → W p l e R s m args below meth c H1 locs1 0 0 Q (F0 m pc ls1 [.int res.1])) (x4 : Int32) (x6 : Int32) (x7 : Int32) (x8 : Int32) (z0 : Int32) (F : PF) (G : PG) (hm : mb_simple_272 fu x4 x6 x7 x8 z0 F G = some res) {H : Heap} {locs : List Loc} (hw : mMW s A v a F G H locs) {ls : Array Slot} (hl : lv_has ls 11 [(0, .ref (a 212)), (4, .int x4), (6, .int x6), (7, .int x7), (8, .int x8)]) : W p l e R s m args below meth c H locs 0 0 Q (F0 m 272 ls [.int z0]) := by
  have hx := C.1
  have hb := C.2.1
  unfold mb_simple_272 at hm
  refine lv_istore (lv' := [(9, .int z0), (0, .ref (a 212)), (4, .int x4), (6, .int x6), (7, .int x7), (8, .int x8)]) hx hb dX12_simple_272 hl (by decide) rfl (fun ls hl => ?_)
  refine lv_iload hx hb dX12_simple_274 (lv_at hl 0 rfl) ?_
  refine lv_bipush (v := 32) hx hb dX12_simple_276 (by decide) ?_
  refine lv_icmp_eq (tgt := 325) hx hb dX12_simple_278 (by decide) (fun c_1 => ?_) (fun c_1 => ?_)
  · have hm := (if_pos c_1).symm.trans hm
    exact mw_simple_325 fu C hret x4 x6 x7 x8 z0 F G hm hw (lv_sub hl [1, 2, 3, 4, 5, 0] rfl)
  · have hm := (if_neg c_1).symm.trans hm
    exact mw_simple_281 fu C hret x4 x6 x7 x8 z0 F G hm hw (lv_sub hl [1, 2, 3, 4, 5, 0] rfl)
theorem mw_simple_271 (fu : Nat) {res : Int32 × PF × PG} (C : mMC p R s m args c A v RX12 cX12_simple 11 304 18090) (hret : ∀ (H1 : Heap) (locs1 : List Loc) (ls1 : Array Slot) (pc : Nat), mMW s A v a res.2.1 res.2.2 H1 locs1 → narrow .boolean (.int res.1) = .int res.1 → decode cX12_simple pc = .ok (.ireturn, 1) → W p l e R s m args below meth c H1 locs1 0 0 Q (F0 m pc ls1 [.int res.1])) (x4 : Int32) (x6 : Int32) (x7 : Int32) (x8 : Int32) (F : PF) (G : PG) (hm : mb_simple_271 fu x4 x6 x7 x8 F G = some res) {H : Heap} {locs : List Loc} (hw : mMW s A v a F G H locs) {ls : Array Slot} (hl : lv_has ls 11 [(0, .ref (a 212)), (4, .int x4), (6, .int x6), (7, .int x7), (8, .int x8)]) : W p l e R s m args below meth c H locs 0 0 Q (F0 m 271 ls []) := by
  have hx := C.1
  have hb := C.2.1
  unfold mb_simple_271 at hm
  refine lv_iconst (v := (-1)) hx hb dX12_simple_271 (by decide) ?_
  exact mw_simple_272 fu C hret x4 x6 x7 x8 (-1) F G hm hw (lv_sub hl [0, 1, 2, 3, 4] rfl)
theorem mw_simple_259 (fu : Nat) {res : Int32 × PF × PG} (C : mMC p R s m args c A v RX12 cX12_simple 11 304 18090) (hret : ∀ (H1 : Heap) (locs1 : List Loc) (ls1 : Array Slot) (pc : Nat), mMW s A v a res.2.1 res.2.2 H1 locs1 → narrow .boolean (.int res.1) = .int res.1 → decode cX12_simple pc = .ok (.ireturn, 1) → W p l e R s m args below meth c H1 locs1 0 0 Q (F0 m pc ls1 [.int res.1])) (x4 : Int32) (x6 : Int32) (x7 : Int32) (x8 : Int32) (F : PF) (G : PG) (hm : mb_simple_259 fu x4 x6 x7 x8 F G = some res) {H : Heap} {locs : List Loc} (hw : mMW s A v a F G H locs) {ls : Array Slot} (hl : lv_has ls 11 [(0, .ref (a 212)), (4, .int x4), (6, .int x6), (7, .int x7), (8, .int x8)]) : W p l e R s m args below meth c H locs 0 0 Q (F0 m 259 ls []) := by
  have hx := C.1
  have hb := C.2.1
  unfold mb_simple_259 at hm
  refine lv_aload_n hx hb dX12_simple_259 rfl (lv_at hl 0 rfl) ?_
  refine mg_X12_19 C hw dX12_simple_260 ?_
  refine lv_aload_n hx hb dX12_simple_263 rfl (lv_at hl 0 rfl) ?_
  refine mg_X12_233 C hw dX12_simple_264 ?_
  obtain ⟨hi, hm⟩ := ix_elim hm
  refine mal_5 C hw hi dX12_simple_267 ?_
  refine lv_goto (tgt := 272) hx hb dX12_simple_268 (by decide) ?_
  exact mw_simple_272 fu C hret x4 x6 x7 x8 (G 5 (F 42).toNatClampNeg) F G hm hw (lv_sub hl [0, 1, 2, 3, 4] rfl)
theorem mw_simple_246 (fu : Nat) {res : Int32 × PF × PG} (C : mMC p R s m args c A v RX12 cX12_simple 11 304 18090) (hret : ∀ (H1 : Heap) (locs1 : List Loc) (ls1 : Array Slot) (pc : Nat), mMW s A v a res.2.1 res.2.2 H1 locs1 → narrow .boolean (.int res.1) = .int res.1 → decode cX12_simple pc = .ok (.ireturn, 1) → W p l e R s m args below meth c H1 locs1 0 0 Q (F0 m pc ls1 [.int res.1])) (x4 : Int32) (x6 : Int32) (x7 : Int32) (x8 : Int32) (F : PF) (G : PG) (hm : mb_simple_246 fu x4 x6 x7 x8 F G = some res) {H : Heap} {locs : List Loc} (hw : mMW s A v a F G H locs) {ls : Array Slot} (hl : lv_has ls 11 [(0, .ref (a 212)), (4, .int x4), (6, .int x6), (7, .int x7), (8, .int x8)]) : W p l e R s m args below meth c H locs 0 0 Q (F0 m 246 ls []) := by
  have hx := C.1
  have hb := C.2.1
  unfold mb_simple_246 at hm
  refine lv_aload_n hx hb dX12_simple_246 rfl (lv_at hl 0 rfl) ?_
  refine mg_X12_16 C hw dX12_simple_247 ?_
  refine lv_aload_n hx hb dX12_simple_250 rfl (lv_at hl 0 rfl) ?_
  refine mg_X12_233 C hw dX12_simple_251 ?_
  obtain ⟨hi, hm⟩ := ix_elim hm
  refine mal_4 C hw hi dX12_simple_254 ?_
  refine lv_iconst (v := 4) hx hb dX12_simple_255 (by decide) ?_
  refine lv_icmp_ne (tgt := 271) hx hb dX12_simple_256 (by decide) (fun c_1 => ?_) (fun c_1 => ?_)
  · have hm := (if_neg c_1).symm.trans hm
    exact mw_simple_271 fu C hret x4 x6 x7 x8 F G hm hw (lv_sub hl [0, 1, 2, 3, 4] rfl)
  · have hm := (if_pos c_1).symm.trans hm
    exact mw_simple_259 fu C hret x4 x6 x7 x8 F G hm hw (lv_sub hl [0, 1, 2, 3, 4] rfl)
theorem mw_simple_244 (fu : Nat) {res : Int32 × PF × PG} (C : mMC p R s m args c A v RX12 cX12_simple 11 304 18090) (hret : ∀ (H1 : Heap) (locs1 : List Loc) (ls1 : Array Slot) (pc : Nat), mMW s A v a res.2.1 res.2.2 H1 locs1 → narrow .boolean (.int res.1) = .int res.1 → decode cX12_simple pc = .ok (.ireturn, 1) → W p l e R s m args below meth c H1 locs1 0 0 Q (F0 m pc ls1 [.int res.1])) (F : PF) (G : PG) (hm : mb_simple_244 fu F G = some res) {H : Heap} {locs : List Loc} (hw : mMW s A v a F G H locs) {ls : Array Slot} (hl : lv_has ls 11 []) : W p l e R s m args below meth c H locs 0 0 Q (F0 m 244 ls []) := by
  have hx := C.1
  have hb := C.2.1
  unfold mb_simple_244 at hm
  refine lv_iconst (v := 0) hx hb dX12_simple_244 (by decide) ?_
  obtain rfl := Option.some.inj hm
  exact hret _ _ _ _ hw (b01_nar (v := 0) (Or.inl rfl)) dX12_simple_245
theorem mw_simple_241 (fu : Nat) {res : Int32 × PF × PG} (C : mMC p R s m args c A v RX12 cX12_simple 11 304 18090) (hret : ∀ (H1 : Heap) (locs1 : List Loc) (ls1 : Array Slot) (pc : Nat), mMW s A v a res.2.1 res.2.2 H1 locs1 → narrow .boolean (.int res.1) = .int res.1 → decode cX12_simple pc = .ok (.ireturn, 1) → W p l e R s m args below meth c H1 locs1 0 0 Q (F0 m pc ls1 [.int res.1])) (x4 : Int32) (x6 : Int32) (x7 : Int32) (x8 : Int32) (z0 : Int32) (F : PF) (G : PG) (hm : mb_simple_241 fu x4 x6 x7 x8 z0 F G = some res) {H : Heap} {locs : List Loc} (hw : mMW s A v a F G H locs) {ls : Array Slot} (hl : lv_has ls 11 [(0, .ref (a 212)), (4, .int x4), (6, .int x6), (7, .int x7), (8, .int x8)]) : W p l e R s m args below meth c H locs 0 0 Q (F0 m 241 ls [.int z0]) := by
  have hx := C.1
  have hb := C.2.1
  unfold mb_simple_241 at hm
  refine lv_if_ne (tgt := 246) hx hb dX12_simple_241 (by decide) (fun c_1 => ?_) (fun c_1 => ?_)
  · have hm := (if_neg c_1).symm.trans hm
    exact mw_simple_246 fu C hret x4 x6 x7 x8 F G hm hw (lv_sub hl [0, 1, 2, 3, 4] rfl)
  · have hm := (if_pos c_1).symm.trans hm
    exact mw_simple_244 fu C hret F G hm hw (lv_sub hl [] rfl)
theorem mw_simple_236 (fu : Nat) {res : Int32 × PF × PG} (C : mMC p R s m args c A v RX12 cX12_simple 11 304 18090) (hret : ∀ (H1 : Heap) (locs1 : List Loc) (ls1 : Array Slot) (pc : Nat), mMW s A v a res.2.1 res.2.2 H1 locs1 → narrow .boolean (.int res.1) = .int res.1 → decode cX12_simple pc = .ok (.ireturn, 1) → W p l e R s m args below meth c H1 locs1 0 0 Q (F0 m pc ls1 [.int res.1])) (x2 : Int32) (x4 : Int32) (x6 : Int32) (x7 : Int32) (x8 : Int32) (F : PF) (G : PG) (hm : mb_simple_236 fu x2 x4 x6 x7 x8 F G = some res) {H : Heap} {locs : List Loc} (hw : mMW s A v a F G H locs) {ls : Array Slot} (hl : lv_has ls 11 [(0, .ref (a 212)), (2, .int x2), (4, .int x4), (6, .int x6), (7, .int x7), (8, .int x8)]) : W p l e R s m args below meth c H locs 0 0 Q (F0 m 236 ls []) := by
  have hx := C.1
  have hb := C.2.1
  unfold mb_simple_236 at hm
  refine lv_aload_n hx hb dX12_simple_236 rfl (lv_at hl 0 rfl) ?_
  refine lv_iload_n hx hb dX12_simple_237 rfl (lv_at hl 1 rfl) ?_
  obtain ⟨⟨r1, F1, G1⟩, hc, hm⟩ := bind_elim hm
  refine mcallI (n := 1) (As := [.int x2]) (rest := []) C hw (mk_element l v a _ fu x2 F G r1 F1 G1 hc) (mrecv_X12 C hw) mm_272 mm_273 mm_274 mm_27 mm_267 (by decide +kernel) rfl (by omega) (by omega) hl.1 rfl (Nat.le_of_ble_eq_true rfl) dX12_simple_238 (fun H locs hw => ?_)
  exact mw_simple_241 fu C hret x4 x6 x7 x8 r1 F1 G1 hm hw (lv_sub hl [0, 2, 3, 4, 5] rfl)
theorem mw_simple_229 (fu : Nat) {res : Int32 × PF × PG} (C : mMC p R s m args c A v RX12 cX12_simple 11 304 18090) (hret : ∀ (H1 : Heap) (locs1 : List Loc) (ls1 : Array Slot) (pc : Nat), mMW s A v a res.2.1 res.2.2 H1 locs1 → narrow .boolean (.int res.1) = .int res.1 → decode cX12_simple pc = .ok (.ireturn, 1) → W p l e R s m args below meth c H1 locs1 0 0 Q (F0 m pc ls1 [.int res.1])) (x2 : Int32) (x4 : Int32) (x6 : Int32) (x7 : Int32) (z0 : Int32) (F : PF) (G : PG) (hm : mb_simple_229 fu x2 x4 x6 x7 z0 F G = some res) {H : Heap} {locs : List Loc} (hw : mMW s A v a F G H locs) {ls : Array Slot} (hl : lv_has ls 11 [(0, .ref (a 212)), (2, .int x2), (4, .int x4), (6, .int x6), (7, .int x7)]) : W p l e R s m args below meth c H locs 0 0 Q (F0 m 229 ls [.int z0]) := by
  have hx := C.1
  have hb := C.2.1
  unfold mb_simple_229 at hm
  refine lv_istore (lv' := [(8, .int z0), (0, .ref (a 212)), (2, .int x2), (4, .int x4), (6, .int x6), (7, .int x7)]) hx hb dX12_simple_229 hl (by decide) rfl (fun ls hl => ?_)
  refine lv_iload hx hb dX12_simple_231 (lv_at hl 3 rfl) ?_
  refine lv_if_eq (tgt := 246) hx hb dX12_simple_233 (by decide) (fun c_1 => ?_) (fun c_1 => ?_)
  · have hm := (if_pos c_1).symm.trans hm
    exact mw_simple_246 fu C hret x4 x6 x7 z0 F G hm hw (lv_sub hl [1, 3, 4, 5, 0] rfl)
  · have hm := (if_neg c_1).symm.trans hm
    exact mw_simple_236 fu C hret x2 x4 x6 x7 z0 F G hm hw (lv_sub hl [1, 2, 3, 4, 5, 0] rfl)
theorem mw_simple_223 (fu : Nat) {res : Int32 × PF × PG} (C : mMC p R s m args c A v RX12 cX12_simple 11 304 18090) (hret : ∀ (H1 : Heap) (locs1 : List Loc) (ls1 : Array Slot) (pc : Nat), mMW s A v a res.2.1 res.2.2 H1 locs1 → narrow .boolean (.int res.1) = .int res.1 → decode cX12_simple pc = .ok (.ireturn, 1) → W p l e R s m args below meth c H1 locs1 0 0 Q (F0 m pc ls1 [.int res.1])) (x2 : Int32) (x4 : Int32) (x6 : Int32) (x7 : Int32) (F : PF) (G : PG) (hm : mb_simple_223 fu x2 x4 x6 x7 F G = some res) {H : Heap} {locs : List Loc} (hw : mMW s A v a F G H locs) {ls : Array Slot} (hl : lv_has ls 11 [(0, .ref (a 212)), (2, .int x2), (4, .int x4), (6, .int x6), (7, .int x7)]) : W p l e R s m args below meth c H locs 0 0 Q (F0 m 223 ls []) := by
  have hx := C.1
  have hb := C.2.1
  unfold mb_simple_223 at hm
  refine lv_aload_n hx hb dX12_simple_223 rfl (lv_at hl 0 rfl) ?_
  refine mg_X12_49 C hw dX12_simple_224 ?_
  refine lv_iload_n hx hb dX12_simple_227 rfl (lv_at hl 1 rfl) ?_
  obtain ⟨hi, hm⟩ := ix_elim hm
  refine mal_20 C hw hi dX12_simple_228 ?_
  exact mw_simple_229 fu C hret x2 x4 x6 x7 (G 20 x2.toNatClampNeg) F G hm hw (lv_sub hl [0, 1, 2, 3, 4] rfl)
theorem mw_simple_219 (fu : Nat) {res : Int32 × PF × PG} (C : mMC p R s m args c A v RX12 cX12_simple 11 304 18090) (hret : ∀ (H1 : Heap) (locs1 : List Loc) (ls1 : Array Slot) (pc : Nat), mMW s A v a res.2.1 res.2.2 H1 locs1 → narrow .boolean (.int res.1) = .int res.1 → decode cX12_simple pc = .ok (.ireturn, 1) → W p l e R s m args below meth c H1 locs1 0 0 Q (F0 m pc ls1 [.int res.1])) (x2 : Int32) (x4 : Int32) (x6 : Int32) (x7 : Int32) (F : PF) (G : PG) (hm : mb_simple_219 fu x2 x4 x6 x7 F G = some res) {H : Heap} {locs : List Loc} (hw : mMW s A v a F G H locs) {ls : Array Slot} (hl : lv_has ls 11 [(0, .ref (a 212)), (2, .int x2), (4, .int x4), (6, .int x6), (7, .int x7)]) : W p l e R s m args below meth c H locs 0 0 Q (F0 m 219 ls []) := by
  have hx := C.1
  have hb := C.2.1
  unfold mb_simple_219 at hm
  refine lv_iconst (v := 0) hx hb dX12_simple_219 (by decide) ?_
  refine lv_goto (tgt := 229) hx hb dX12_simple_220 (by decide) ?_
  exact mw_simple_229 fu C hret x2 x4 x6 x7 0 F G hm hw (lv_sub hl [0, 1, 2, 3, 4] rfl)
theorem mw_simple_212 (fu : Nat) {res : Int32 × PF × PG} (C : mMC p R s m args c A v RX12 cX12_simple 11 304 18090) (hret : ∀ (H1 : Heap) (locs1 : List Loc) (ls1 : Array Slot) (pc : Nat), mMW s A v a res.2.1 res.2.2 H1 locs1 → narrow .boolean (.int res.1) = .int res.1 → decode cX12_simple pc = .ok (.ireturn, 1) → W p l e R s m args below meth c H1 locs1 0 0 Q (F0 m pc ls1 [.int res.1])) (x2 : Int32) (x4 : Int32) (x6 : Int32) (z0 : Int32) (F : PF) (G : PG) (hm : mb_simple_212 fu x2 x4 x6 z0 F G = some res) {H : Heap} {locs : List Loc} (hw : mMW s A v a F G H locs) {ls : Array Slot} (hl : lv_has ls 11 [(0, .ref (a 212)), (2, .int x2), (4, .int x4), (6, .int x6)]) : W p l e R s m args below meth c H locs 0 0 Q (F0 m 212 ls [.int z0]) := by
  have hx := C.1
  have hb := C.2.1
  unfold mb_simple_212 at hm
  refine lv_istore (lv' := [(7, .int z0), (0, .ref (a 212)), (2, .int x2), (4, .int x4), (6, .int x6)]) hx hb dX12_simple_212 hl (by decide) rfl (fun ls hl => ?_)
  refine lv_iload_n hx hb dX12_simple_214 rfl (lv_at hl 2 rfl) ?_
  refine lv_iconst (v := (-1)) hx hb dX12_simple_215 (by decide) ?_
  refine lv_icmp_ne (tgt := 223) hx hb dX12_simple_216 (by decide) (fun c_1 => ?_) (fun c_1 => ?_)
  · have hm := (if_neg c_1).symm.trans hm
    exact mw_simple_223 fu C hret x2 x4 x6 z0 F G hm hw (lv_sub hl [1, 2, 3, 4, 0] rfl)
  · have hm := (if_pos c_1).symm.trans hm
    exact mw_simple_219 fu C hret x2 x4 x6 z0 F G hm hw (lv_sub hl [1, 2, 3, 4, 0] rfl)
theorem mw_simple_211 (fu : Nat) {res : Int32 × PF × PG} (C : mMC p R s m args c A v RX12 cX12_simple 11 304 18090) (hret : ∀ (H1 : Heap) (locs1 : List Loc) (ls1 : Array Slot) (pc : Nat), mMW s A v a res.2.1 res.2.2 H1 locs1 → narrow .boolean (.int res.1) = .int res.1 → decode cX12_simple pc = .ok (.ireturn, 1) → W p l e R s m args below meth c H1 locs1 0 0 Q (F0 m pc ls1 [.int res.1])) (x2 : Int32) (x4 : Int32) (x6 : Int32) (F : PF) (G : PG) (hm : mb_simple_211 fu x2 x4 x6 F G = some res) {H : Heap} {locs : List Loc} (hw : mMW s A v a F G H locs) {ls : Array Slot} (hl : lv_has ls 11 [(0, .ref (a 212)), (2, .int x2), (4, .int x4), (6, .int x6)]) : W p l e R s m args below meth c H locs 0 0 Q (F0 m 211 ls []) := by
  have hx := C.1
  have hb := C.2.1
  unfold mb_simple_211 at hm
  refine lv_iconst (v := 0) hx hb dX12_simple_211 (by decide) ?_
  exact mw_simple_212 fu C hret x2 x4 x6 0 F G hm hw (lv_sub hl [0, 1, 2, 3] rfl)
theorem mw_simple_207 (fu : Nat) {res : Int32 × PF × PG} (C : mMC p R s m args c A v RX12 cX12_simple 11 304 18090) (hret : ∀ (H1 : Heap) (locs1 : List Loc) (ls1 : Array Slot) (pc : Nat), mMW s A v a res.2.1 res.2.2 H1 locs1 → narrow .boolean (.int res.1) = .int res.1 → decode cX12_simple pc = .ok (.ireturn, 1) → W p l e R s m args below meth c H1 locs1 0 0 Q (F0 m pc ls1 [.int res.1])) (x2 : Int32) (x4 : Int32) (x6 : Int32) (F : PF) (G : PG) (hm : mb_simple_207 fu x2 x4 x6 F G = some res) {H : Heap} {locs : List Loc} (hw : mMW s A v a F G H locs) {ls : Array Slot} (hl : lv_has ls 11 [(0, .ref (a 212)), (2, .int x2), (4, .int x4), (6, .int x6)]) : W p l e R s m args below meth c H locs 0 0 Q (F0 m 207 ls []) := by
  have hx := C.1
  have hb := C.2.1
  unfold mb_simple_207 at hm
  refine lv_iconst (v := 1) hx hb dX12_simple_207 (by decide) ?_
  refine lv_goto (tgt := 212) hx hb dX12_simple_208 (by decide) ?_
  exact mw_simple_212 fu C hret x2 x4 x6 1 F G hm hw (lv_sub hl [0, 1, 2, 3] rfl)
theorem mw_simple_198 (fu : Nat) {res : Int32 × PF × PG} (C : mMC p R s m args c A v RX12 cX12_simple 11 304 18090) (hret : ∀ (H1 : Heap) (locs1 : List Loc) (ls1 : Array Slot) (pc : Nat), mMW s A v a res.2.1 res.2.2 H1 locs1 → narrow .boolean (.int res.1) = .int res.1 → decode cX12_simple pc = .ok (.ireturn, 1) → W p l e R s m args below meth c H1 locs1 0 0 Q (F0 m pc ls1 [.int res.1])) (x2 : Int32) (x4 : Int32) (x6 : Int32) (F : PF) (G : PG) (hm : mb_simple_198 fu x2 x4 x6 F G = some res) {H : Heap} {locs : List Loc} (hw : mMW s A v a F G H locs) {ls : Array Slot} (hl : lv_has ls 11 [(0, .ref (a 212)), (2, .int x2), (4, .int x4), (6, .int x6)]) : W p l e R s m args below meth c H locs 0 0 Q (F0 m 198 ls []) := by
  have hx := C.1
  have hb := C.2.1
  unfold mb_simple_198 at hm
  refine lv_aload_n hx hb dX12_simple_198 rfl (lv_at hl 0 rfl) ?_
  refine mg_X12_59 C hw dX12_simple_199 ?_
  refine lv_iload_n hx hb dX12_simple_202 rfl (lv_at hl 1 rfl) ?_
  obtain ⟨hi, hm⟩ := ix_elim hm
  refine mal_23 C hw hi dX12_simple_203 ?_
  refine lv_if_eq (tgt := 211) hx hb dX12_simple_204 (by decide) (fun c_1 => ?_) (fun c_1 => ?_)
  · have hm := (if_pos c_1).symm.trans hm
    exact mw_simple_211 fu C hret x2 x4 x6 F G hm hw (lv_sub hl [0, 1, 2, 3] rfl)
  · have hm := (if_neg c_1).symm.trans hm
    exact mw_simple_207 fu C hret x2 x4 x6 F G hm hw (lv_sub hl [0, 1, 2, 3] rfl)
theorem mw_simple_191 (fu : Nat) {res : Int32 × PF × PG} (C : mMC p R s m args c A v RX12 cX12_simple 11 304 18090) (hret : ∀ (H1 : Heap) (locs1 : List Loc) (ls1 : Array Slot) (pc : Nat), mMW s A v a res.2.1 res.2.2 H1 locs1 → narrow .boolean (.int res.1) = .int res.1 → decode cX12_simple pc = .ok (.ireturn, 1) → W p l e R s m args below meth c H1 locs1 0 0 Q (F0 m pc ls1 [.int res.1])) (x2 : Int32) (x4 : Int32) (z0 : Int32) (F : PF) (G : PG) (hm : mb_simple_191 fu x2 x4 z0 F G = some res) {H : Heap} {locs : List Loc} (hw : mMW s A v a F G H locs) {ls : Array Slot} (hl : lv_has ls 11 [(0, .ref (a 212)), (2, .int x2), (4, .int x4)]) : W p l e R s m args below meth c H locs 0 0 Q (F0 m 191 ls [.int z0]) := by
  have hx := C.1
  have hb := C.2.1
  unfold mb_simple_191 at hm
  refine lv_istore (lv' := [(6, .int z0), (0, .ref (a 212)), (2, .int x2), (4, .int x4)]) hx hb dX12_simple_191 hl (by decide) rfl (fun ls hl => ?_)
  refine lv_iload_n hx hb dX12_simple_193 rfl (lv_at hl 2 rfl) ?_
  refine lv_iconst (v := (-1)) hx hb dX12_simple_194 (by decide) ?_
  refine lv_icmp_eq (tgt := 211) hx hb dX12_simple_195 (by decide) (fun c_1 => ?_) (fun c_1 => ?_)
  · have hm := (if_pos c_1).symm.trans hm
    exact mw_simple_211 fu C hret x2 x4 z0 F G hm hw (lv_sub hl [1, 2, 3, 0] rfl)
  · have hm := (if_neg c_1).symm.trans hm
    exact mw_simple_198 fu C hret x2 x4 z0 F G hm hw (lv_sub hl [1, 2, 3, 0] rfl)
theorem mw_simple_190 (fu : Nat) {res : Int32 × PF × PG} (C : mMC p R s m args c A v RX12 cX12_simple 11 304 18090) (hret : ∀ (H1 : Heap) (locs1 : List Loc) (ls1 : Array Slot) (pc : Nat), mMW s A v a res.2.1 res.2.2 H1 locs1 → narrow .boolean (.int res.1) = .int res.1 → decode cX12_simple pc = .ok (.ireturn, 1) → W p l e R s m args below meth c H1 locs1 0 0 Q (F0 m pc ls1 [.int res.1])) (x2 : Int32) (x4 : Int32) (F : PF) (G : PG) (hm : mb_simple_190 fu x2 x4 F G = some res) {H : Heap} {locs : List Loc} (hw : mMW s A v a F G H locs) {ls : Array Slot} (hl : lv_has ls 11 [(0, .ref (a 212)), (2, .int x2), (4, .int x4)]) : W p l e R s m args below meth c H locs 0 0 Q (F0 m 190 ls []) := by
  have hx := C.1
  have hb := C.2.1
  unfold mb_simple_190 at hm
  refine lv_iconst (v := 0) hx hb dX12_simple_190 (by decide) ?_
  exact mw_simple_191 fu C hret x2 x4 0 F G hm hw (lv_sub hl [0, 1, 2] rfl)
theorem mw_simple_186 (fu : Nat) {res : Int32 × PF × PG} (C : mMC p R s m args c A v RX12 cX12_simple 11 304 18090) (hret : ∀ (H1 : Heap) (locs1 : List Loc) (ls1 : Array Slot) (pc : Nat), mMW s A v a res.2.1 res.2.2 H1 locs1 → narrow .boolean (.int res.1) = .int res.1 → decode cX12_simple pc = .ok (.ireturn, 1) → W p l e R s m args below meth c H1 locs1 0 0 Q (F0 m pc ls1 [.int res.1])) (x2 : Int32) (x4 : Int32) (F : PF) (G : PG) (hm : mb_simple_186 fu x2 x4 F G = some res) {H : Heap} {locs : List Loc} (hw : mMW s A v a F G H locs) {ls : Array Slot} (hl : lv_has ls 11 [(0, .ref (a 212)), (2, .int x2), (4, .int x4)]) : W p l e R s m args below meth c H locs 0 0 Q (F0 m 186 ls []) := by
  have hx := C.1
  have hb := C.2.1
  unfold mb_simple_186 at hm
  refine lv_iconst (v := 1) hx hb dX12_simple_186 (by decide) ?_
  refine lv_goto (tgt := 191) hx hb dX12_simple_187 (by decide) ?_
  exact mw_simple_191 fu C hret x2 x4 1 F G hm hw (lv_sub hl [0, 1, 2] rfl)
theorem mw_simple_177 (fu : Nat) {res : Int32 × PF × PG} (C : mMC p R s m args c A v RX12 cX12_simple 11 304 18090) (hret : ∀ (H1 : Heap) (locs1 : List Loc) (ls1 : Array Slot) (pc : Nat), mMW s A v a res.2.1 res.2.2 H1 locs1 → narrow .boolean (.int res.1) = .int res.1 → decode cX12_simple pc = .ok (.ireturn, 1) → W p l e R s m args below meth c H1 locs1 0 0 Q (F0 m pc ls1 [.int res.1])) (x2 : Int32) (x4 : Int32) (F : PF) (G : PG) (hm : mb_simple_177 fu x2 x4 F G = some res) {H : Heap} {locs : List Loc} (hw : mMW s A v a F G H locs) {ls : Array Slot} (hl : lv_has ls 11 [(0, .ref (a 212)), (2, .int x2), (4, .int x4)]) : W p l e R s m args below meth c H locs 0 0 Q (F0 m 177 ls []) := by
  have hx := C.1
  have hb := C.2.1
  unfold mb_simple_177 at hm
  refine lv_aload_n hx hb dX12_simple_177 rfl (lv_at hl 0 rfl) ?_
  refine mg_X12_55 C hw dX12_simple_178 ?_
  refine lv_iload_n hx hb dX12_simple_181 rfl (lv_at hl 1 rfl) ?_
  obtain ⟨hi, hm⟩ := ix_elim hm
  refine mal_22 C hw hi dX12_simple_182 ?_
  refine lv_if_eq (tgt := 190) hx hb dX12_simple_183 (by decide) (fun c_1 => ?_) (fun c_1 => ?_)
  · have hm := (if_pos c_1).symm.trans hm
    exact mw_simple_190 fu C hret x2 x4 F G hm hw (lv_sub hl [0, 1, 2] rfl)
  · have hm := (if_neg c_1).symm.trans hm
    exact mw_simple_186 fu C hret x2 x4 F G hm hw (lv_sub hl [0, 1, 2] rfl)
theorem mw_simple_172 (fu : Nat) {res : Int32 × PF × PG} (C : mMC p R s m args c A v RX12 cX12_simple 11 304 18090) (hret : ∀ (H1 : Heap) (locs1 : List Loc) (ls1 : Array Slot) (pc : Nat), mMW s A v a res.2.1 res.2.2 H1 locs1 → narrow .boolean (.int res.1) = .int res.1 → decode cX12_simple pc = .ok (.ireturn, 1) → W p l e R s m args below meth c H1 locs1 0 0 Q (F0 m pc ls1 [.int res.1])) (x2 : Int32) (x4 : Int32) (F : PF) (G : PG) (hm : mb_simple_172 fu x2 x4 F G = some res) {H : Heap} {locs : List Loc} (hw : mMW s A v a F G H locs) {ls : Array Slot} (hl : lv_has ls 11 [(0, .ref (a 212)), (2, .int x2), (4, .int x4)]) : W p l e R s m args below meth c H locs 0 0 Q (F0 m 172 ls []) := by
  have hx := C.1
  have hb := C.2.1
  unfold mb_simple_172 at hm
  refine lv_iload_n hx hb dX12_simple_172 rfl (lv_at hl 1 rfl) ?_
  refine lv_iconst (v := (-1)) hx hb dX12_simple_173 (by decide) ?_
  refine lv_icmp_eq (tgt := 190) hx hb dX12_simple_174 (by decide) (fun c_1 => ?_) (fun c_1 => ?_)
  · have hm := (if_pos c_1).symm.trans hm
    exact mw_simple_190 fu C hret x2 x4 F G hm hw (lv_sub hl [0, 1, 2] rfl)
  · have hm := (if_neg c_1).symm.trans hm
    exact mw_simple_177 fu C hret x2 x4 F G hm hw (lv_sub hl [0, 1, 2] rfl)
theorem mw_simple_160 (fu : Nat) {res : Int32 × PF × PG} (C : mMC p R s m args c A v RX12 cX12_simple 11 304 18090) (hret : ∀ (H1 : Heap) (locs1 : List Loc) (ls1 : Array Slot) (pc : Nat), mMW s A v a res.2.1 res.2.2 H1 locs1 → narrow .boolean (.int res.1) = .int res.1 → decode cX12_simple pc = .ok (.ireturn, 1) → W p l e R s m args below meth c H1 locs1 0 0 Q (F0 m pc ls1 [.int res.1])) (x1 : Int32) (x2 : Int32) (x4 : Int32) (F : PF) (G : PG) (hm : mb_simple_160 fu x1 x2 x4 F G = some res) {H : Heap} {locs : List Loc} (hw : mMW s A v a F G H locs) {ls : Array Slot} (hl : lv_has ls 11 [(0, .ref (a 212)), (1, .int x1), (2, .int x2), (4, .int x4)]) : W p l e R s m args below meth c H locs 0 0 Q (F0 m 160 ls []) := by
  have hx := C.1
  have hb := C.2.1
  unfold mb_simple_160 at hm
  refine lv_aload_n hx hb dX12_simple_160 rfl (lv_at hl 0 rfl) ?_
  refine lv_bipush (v := 6) hx hb dX12_simple_161 (by decide) ?_
  refine lv_aload_n hx hb dX12_simple_163 rfl (lv_at hl 0 rfl) ?_
  refine mg_X12_22 C hw dX12_simple_164 ?_
  refine lv_iload_n hx hb dX12_simple_167 rfl (lv_at hl 1 rfl) ?_
  obtain ⟨hi, hm⟩ := ix_elim hm
  refine mal_6 C hw hi dX12_simple_168 ?_
  obtain ⟨⟨r1, F1, G1⟩, hc, hm⟩ := bind_elim hm
  refine mcallV (n := 2) (As := [.int 6, .int (G 6 x1.toNatClampNeg)]) (rest := []) C hw (mk_note l v a _ fu 6 (G 6 x1.toNatClampNeg) F G r1 F1 G1 hc) (mrecv_X12 C hw) mm_220 mm_221 mm_222 mm_27 mm_223 (by decide +kernel) rfl (by omega) (by omega) hl.1 rfl (Nat.le_of_ble_eq_true rfl) dX12_simple_169 (fun H locs hw => ?_)
  exact mw_simple_172 fu C hret x2 x4 F1 G1 hm hw (lv_sub hl [0, 2, 3] rfl)
theorem mw_simple_155 (fu : Nat) {res : Int32 × PF × PG} (C : mMC p R s m args c A v RX12 cX12_simple 11 304 18090) (hret : ∀ (H1 : Heap) (locs1 : List Loc) (ls1 : Array Slot) (pc : Nat), mMW s A v a res.2.1 res.2.2 H1 locs1 → narrow .boolean (.int res.1) = .int res.1 → decode cX12_simple pc = .ok (.ireturn, 1) → W p l e R s m args below meth c H1 locs1 0 0 Q (F0 m pc ls1 [.int res.1])) (x1 : Int32) (x2 : Int32) (x4 : Int32) (x5 : Int32) (F : PF) (G : PG) (hm : mb_simple_155 fu x1 x2 x4 x5 F G = some res) {H : Heap} {locs : List Loc} (hw : mMW s A v a F G H locs) {ls : Array Slot} (hl : lv_has ls 11 [(0, .ref (a 212)), (1, .int x1), (2, .int x2), (4, .int x4), (5, .int x5)]) : W p l e R s m args below meth c H locs 0 0 Q (F0 m 155 ls []) := by
  have hx := C.1
  have hb := C.2.1
  unfold mb_simple_155 at hm
  refine lv_iload hx hb dX12_simple_155 (lv_at hl 4 rfl) ?_
  refine lv_if_ne (tgt := 172) hx hb dX12_simple_157 (by decide) (fun c_1 => ?_) (fun c_1 => ?_)
  · have hm := (if_neg c_1).symm.trans hm
    exact mw_simple_172 fu C hret x2 x4 F G hm hw (lv_sub hl [0, 2, 3] rfl)
  · have hm := (if_pos c_1).symm.trans hm
    exact mw_simple_160 fu C hret x1 x2 x4 F G hm hw (lv_sub hl [0, 1, 2, 3] rfl)
theorem mw_simple_149 (fu : Nat) {res : Int32 × PF × PG} (C : mMC p R s m args c A v RX12 cX12_simple 11 304 18090) (hret : ∀ (H1 : Heap) (locs1 : List Loc) (ls1 : Array Slot) (pc : Nat), mMW s A v a res.2.1 res.2.2 H1 locs1 → narrow .boolean (.int res.1) = .int res.1 → decode cX12_simple pc = .ok (.ireturn, 1) → W p l e R s m args below meth c H1 locs1 0 0 Q (F0 m pc ls1 [.int res.1])) (x1 : Int32) (x2 : Int32) (x3 : Int32) (x4 : Int32) (z0 : Int32) (F : PF) (G : PG) (hm : mb_simple_149 fu x1 x2 x3 x4 z0 F G = some res) {H : Heap} {locs : List Loc} (hw : mMW s A v a F G H locs) {ls : Array Slot} (hl : lv_has ls 11 [(0, .ref (a 212)), (1, .int x1), (2, .int x2), (3, .int x3), (4, .int x4)]) : W p l e R s m args below meth c H locs 0 0 Q (F0 m 149 ls [.int z0]) := by
  have hx := C.1
  have hb := C.2.1
  unfold mb_simple_149 at hm
  refine lv_istore (lv' := [(5, .int z0), (0, .ref (a 212)), (1, .int x1), (2, .int x2), (3, .int x3), (4, .int x4)]) hx hb dX12_simple_149 hl (by decide) rfl (fun ls hl => ?_)
  refine lv_iload_n hx hb dX12_simple_151 rfl (lv_at hl 4 rfl) ?_
  refine lv_if_ne (tgt := 172) hx hb dX12_simple_152 (by decide) (fun c_1 => ?_) (fun c_1 => ?_)
  · have hm := (if_neg c_1).symm.trans hm
    exact mw_simple_172 fu C hret x2 x4 F G hm hw (lv_sub hl [1, 3, 5] rfl)
  · have hm := (if_pos c_1).symm.trans hm
    exact mw_simple_155 fu C hret x1 x2 x4 z0 F G hm hw (lv_sub hl [1, 2, 3, 5, 0] rfl)
theorem mw_simple_148 (fu : Nat) {res : Int32 × PF × PG} (C : mMC p R s m args c A v RX12 cX12_simple 11 304 18090) (hret : ∀ (H1 : Heap) (locs1 : List Loc) (ls1 : Array Slot) (pc : Nat), mMW s A v a res.2.1 res.2.2 H1 locs1 → narrow .boolean (.int res.1) = .int res.1 → decode cX12_simple pc = .ok (.ireturn, 1) → W p l e R s m args below meth c H1 locs1 0 0 Q (F0 m pc ls1 [.int res.1])) (x1 : Int32) (x2 : Int32) (x3 : Int32) (x4 : Int32) (F : PF) (G : PG) (hm : mb_simple_148 fu x1 x2 x3 x4 F G = some res) {H : Heap} {locs : List Loc} (hw : mMW s A v a F G H locs) {ls : Array Slot} (hl : lv_has ls 11 [(0, .ref (a 212)), (1, .int x1), (2, .int x2), (3, .int x3), (4, .int x4)]) : W p l e R s m args below meth c H locs 0 0 Q (F0 m 148 ls []) := by
  have hx := C.1
  have hb := C.2.1
  unfold mb_simple_148 at hm
  refine lv_iconst (v := 0) hx hb dX12_simple_148 (by decide) ?_
  exact mw_simple_149 fu C hret x1 x2 x3 x4 0 F G hm hw (lv_sub hl [0, 1, 2, 3, 4] rfl)
theorem mw_simple_144 (fu : Nat) {res : Int32 × PF × PG} (C : mMC p R s m args c A v RX12 cX12_simple 11 304 18090) (hret : ∀ (H1 : Heap) (locs1 : List Loc) (ls1 : Array Slot) (pc : Nat), mMW s A v a res.2.1 res.2.2 H1 locs1 → narrow .boolean (.int res.1) = .int res.1 → decode cX12_simple pc = .ok (.ireturn, 1) → W p l e R s m args below meth c H1 locs1 0 0 Q (F0 m pc ls1 [.int res.1])) (x1 : Int32) (x2 : Int32) (x3 : Int32) (x4 : Int32) (F : PF) (G : PG) (hm : mb_simple_144 fu x1 x2 x3 x4 F G = some res) {H : Heap} {locs : List Loc} (hw : mMW s A v a F G H locs) {ls : Array Slot} (hl : lv_has ls 11 [(0, .ref (a 212)), (1, .int x1), (2, .int x2), (3, .int x3), (4, .int x4)]) : W p l e R s m args below meth c H locs 0 0 Q (F0 m 144 ls []) := by
  have hx := C.1
  have hb := C.2.1
  unfold mb_simple_144 at hm
  refine lv_iconst (v := 1) hx hb dX12_simple_144 (by decide) ?_
  refine lv_goto (tgt := 149) hx hb dX12_simple_145 (by decide) ?_
  exact mw_simple_149 fu C hret x1 x2 x3 x4 1 F G hm hw (lv_sub hl [0, 1, 2, 3, 4] rfl)
theorem mw_simple_134 (fu : Nat) {res : Int32 × PF × PG} (C : mMC p R s m args c A v RX12 cX12_simple 11 304 18090) (hret : ∀ (H1 : Heap) (locs1 : List Loc) (ls1 : Array Slot) (pc : Nat), mMW s A v a res.2.1 res.2.2 H1 locs1 → narrow .boolean (.int res.1) = .int res.1 → decode cX12_simple pc = .ok (.ireturn, 1) → W p l e R s m args below meth c H1 locs1 0 0 Q (F0 m pc ls1 [.int res.1])) (x1 : Int32) (x2 : Int32) (x3 : Int32) (x4 : Int32) (F : PF) (G : PG) (hm : mb_simple_134 fu x1 x2 x3 x4 F G = some res) {H : Heap} {locs : List Loc} (hw : mMW s A v a F G H locs) {ls : Array Slot} (hl : lv_has ls 11 [(0, .ref (a 212)), (1, .int x1), (2, .int x2), (3, .int x3), (4, .int x4)]) : W p l e R s m args below meth c H locs 0 0 Q (F0 m 134 ls []) := by
  have hx := C.1
  have hb := C.2.1
  unfold mb_simple_134 at hm
  refine lv_aload_n hx hb dX12_simple_134 rfl (lv_at hl 0 rfl) ?_
  refine mg_X12_40 C hw dX12_simple_135 ?_
  refine lv_iload_n hx hb dX12_simple_138 rfl (lv_at hl 2 rfl) ?_
  obtain ⟨hi, hm⟩ := ix_elim hm
  refine mal_17 C hw hi dX12_simple_139 ?_
  refine lv_iconst (v := 1) hx hb dX12_simple_140 (by decide) ?_
  refine lv_icmp_ne (tgt := 148) hx hb dX12_simple_141 (by decide) (fun c_1 => ?_) (fun c_1 => ?_)
  · have hm := (if_neg c_1).symm.trans hm
    exact mw_simple_148 fu C hret x1 x2 x3 x4 F G hm hw (lv_sub hl [0, 1, 2, 3, 4] rfl)
  · have hm := (if_pos c_1).symm.trans hm
    exact mw_simple_144 fu C hret x1 x2 x3 x4 F G hm hw (lv_sub hl [0, 1, 2, 3, 4] rfl)
theorem mw_simple_131 (fu : Nat) {res : Int32 × PF × PG} (C : mMC p R s m args c A v RX12 cX12_simple 11 304 18090) (hret : ∀ (H1 : Heap) (locs1 : List Loc) (ls1 : Array Slot) (pc : Nat), mMW s A v a res.2.1 res.2.2 H1 locs1 → narrow .boolean (.int res.1) = .int res.1 → decode cX12_simple pc = .ok (.ireturn, 1) → W p l e R s m args below meth c H1 locs1 0 0 Q (F0 m pc ls1 [.int res.1])) (x1 : Int32) (x2 : Int32) (x3 : Int32) (x4 : Int32) (F : PF) (G : PG) (hm : mb_simple_131 fu x1 x2 x3 x4 F G = some res) {H : Heap} {locs : List Loc} (hw : mMW s A v a F G H locs) {ls : Array Slot} (hl : lv_has ls 11 [(0, .ref (a 212)), (1, .int x1), (2, .int x2), (3, .int x3), (4, .int x4)]) : W p l e R s m args below meth c H locs 0 0 Q (F0 m 131 ls []) := by
  have hx := C.1
  have hb := C.2.1
  unfold mb_simple_131 at hm
  refine lv_goto (tgt := 144) hx hb dX12_simple_131 (by decide) ?_
  exact mw_simple_144 fu C hret x1 x2 x3 x4 F G hm hw (lv_sub hl [0, 1, 2, 3, 4] rfl)
theorem mw_simple_121 (fu : Nat) {res : Int32 × PF × PG} (C : mMC p R s m args c A v RX12 cX12_simple 11 304 18090) (hret : ∀ (H1 : Heap) (locs1 : List Loc) (ls1 : Array Slot) (pc : Nat), mMW s A v a res.2.1 res.2.2 H1 locs1 → narrow .boolean (.int res.1) = .int res.1 → decode cX12_simple pc = .ok (.ireturn, 1) → W p l e R s m args below meth c H1 locs1 0 0 Q (F0 m pc ls1 [.int res.1])) (x1 : Int32) (x2 : Int32) (x3 : Int32) (x4 : Int32) (F : PF) (G : PG) (hm : mb_simple_121 fu x1 x2 x3 x4 F G = some res) {H : Heap} {locs : List Loc} (hw : mMW s A v a F G H locs) {ls : Array Slot} (hl : lv_has ls 11 [(0, .ref (a 212)), (1, .int x1), (2, .int x2), (3, .int x3), (4, .int x4)]) : W p l e R s m args below meth c H locs 0 0 Q (F0 m 121 ls []) := by
  have hx := C.1
  have hb := C.2.1
  unfold mb_simple_121 at hm
  refine lv_aload_n hx hb dX12_simple_121 rfl (lv_at hl 0 rfl) ?_
  refine mg_X12_40 C hw dX12_simple_122 ?_
  refine lv_iload_n hx hb dX12_simple_125 rfl (lv_at hl 2 rfl) ?_
  obtain ⟨hi, hm⟩ := ix_elim hm
  refine mal_17 C hw hi dX12_simple_126 ?_
  refine lv_iconst (v := 2) hx hb dX12_simple_127 (by decide) ?_
  refine lv_icmp_ne (tgt := 148) hx hb dX12_simple_128 (by decide) (fun c_1 => ?_) (fun c_1 => ?_)
  · have hm := (if_neg c_1).symm.trans hm
    exact mw_simple_148 fu C hret x1 x2 x3 x4 F G hm hw (lv_sub hl [0, 1, 2, 3, 4] rfl)
  · have hm := (if_pos c_1).symm.trans hm
    exact mw_simple_131 fu C hret x1 x2 x3 x4 F G hm hw (lv_sub hl [0, 1, 2, 3, 4] rfl)
theorem mw_simple_116 (fu : Nat) {res : Int32 × PF × PG} (C : mMC p R s m args c A v RX12 cX12_simple 11 304 18090) (hret : ∀ (H1 : Heap) (locs1 : List Loc) (ls1 : Array Slot) (pc : Nat), mMW s A v a res.2.1 res.2.2 H1 locs1 → narrow .boolean (.int res.1) = .int res.1 → decode cX12_simple pc = .ok (.ireturn, 1) → W p l e R s m args below meth c H1 locs1 0 0 Q (F0 m pc ls1 [.int res.1])) (x1 : Int32) (x2 : Int32) (x3 : Int32) (x4 : Int32) (F : PF) (G : PG) (hm : mb_simple_116 fu x1 x2 x3 x4 F G = some res) {H : Heap} {locs : List Loc} (hw : mMW s A v a F G H locs) {ls : Array Slot} (hl : lv_has ls 11 [(0, .ref (a 212)), (1, .int x1), (2, .int x2), (3, .int x3), (4, .int x4)]) : W p l e R s m args below meth c H locs 0 0 Q (F0 m 116 ls []) := by
  have hx := C.1
  have hb := C.2.1
  unfold mb_simple_116 at hm
  refine lv_iload hx hb dX12_simple_116 (lv_at hl 4 rfl) ?_
  refine lv_if_eq (tgt := 134) hx hb dX12_simple_118 (by decide) (fun c_1 => ?_) (fun c_1 => ?_)
  · have hm := (if_pos c_1).symm.trans hm
    exact mw_simple_134 fu C hret x1 x2 x3 x4 F G hm hw (lv_sub hl [0, 1, 2, 3, 4] rfl)
  · have hm := (if_neg c_1).symm.trans hm
    exact mw_simple_121 fu C hret x1 x2 x3 x4 F G hm hw (lv_sub hl [0, 1, 2, 3, 4] rfl)
theorem mw_simple_111 (fu : Nat) {res : Int32 × PF × PG} (C : mMC p R s m args c A v RX12 cX12_simple 11 304 18090) (hret : ∀ (H1 : Heap) (locs1 : List Loc) (ls1 : Array Slot) (pc : Nat), mMW s A v a res.2.1 res.2.2 H1 locs1 → narrow .boolean (.int res.1) = .int res.1 → decode cX12_simple pc = .ok (.ireturn, 1) → W p l e R s m args below meth c H1 locs1 0 0 Q (F0 m pc ls1 [.int res.1])) (x1 : Int32) (x2 : Int32) (x3 : Int32) (x4 : Int32) (F : PF) (G : PG) (hm : mb_simple_111 fu x1 x2 x3 x4 F G = some res) {H : Heap} {locs : List Loc} (hw : mMW s A v a F G H locs) {ls : Array Slot} (hl : lv_has ls 11 [(0, .ref (a 212)), (1, .int x1), (2, .int x2), (3, .int x3), (4, .int x4)]) : W p l e R s m args below meth c H locs 0 0 Q (F0 m 111 ls []) := by
  have hx := C.1
  have hb := C.2.1
  unfold mb_simple_111 at hm
  refine lv_iload_n hx hb dX12_simple_111 rfl (lv_at hl 2 rfl) ?_
  refine lv_iconst (v := (-1)) hx hb dX12_simple_112 (by decide) ?_
  refine lv_icmp_eq (tgt := 148) hx hb dX12_simple_113 (by decide) (fun c_1 => ?_) (fun c_1 => ?_)
  · have hm := (if_pos c_1).symm.trans hm
    exact mw_simple_148 fu C hret x1 x2 x3 x4 F G hm hw (lv_sub hl [0, 1, 2, 3, 4] rfl)
  · have hm := (if_neg c_1).symm.trans hm
    exact mw_simple_116 fu C hret x1 x2 x3 x4 F G hm hw (lv_sub hl [0, 1, 2, 3, 4] rfl)
theorem mw_simple_100 (fu : Nat) {res : Int32 × PF × PG} (C : mMC p R s m args c A v RX12 cX12_simple 11 304 18090) (hret : ∀ (H1 : Heap) (locs1 : List Loc) (ls1 : Array Slot) (pc : Nat), mMW s A v a res.2.1 res.2.2 H1 locs1 → narrow .boolean (.int res.1) = .int res.1 → decode cX12_simple pc = .ok (.ireturn, 1) → W p l e R s m args below meth c H1 locs1 0 0 Q (F0 m pc ls1 [.int res.1])) (x1 : Int32) (x2 : Int32) (x3 : Int32) (x4 : Int32) (F : PF) (G : PG) (hm : mb_simple_100 fu x1 x2 x3 x4 F G = some res) {H : Heap} {locs : List Loc} (hw : mMW s A v a F G H locs) {ls : Array Slot} (hl : lv_has ls 11 [(0, .ref (a 212)), (1, .int x1), (2, .int x2), (3, .int x3), (4, .int x4)]) : W p l e R s m args below meth c H locs 0 0 Q (F0 m 100 ls []) := by
  have hx := C.1
  have hb := C.2.1
  unfold mb_simple_100 at hm
  refine lv_aload_n hx hb dX12_simple_100 rfl (lv_at hl 0 rfl) ?_
  refine lv_iconst (v := 4) hx hb dX12_simple_101 (by decide) ?_
  refine lv_aload_n hx hb dX12_simple_102 rfl (lv_at hl 0 rfl) ?_
  refine mg_X12_22 C hw dX12_simple_103 ?_
  refine lv_iload_n hx hb dX12_simple_106 rfl (lv_at hl 1 rfl) ?_
  obtain ⟨hi, hm⟩ := ix_elim hm
  refine mal_6 C hw hi dX12_simple_107 ?_
  obtain ⟨⟨r1, F1, G1⟩, hc, hm⟩ := bind_elim hm
  refine mcallV (n := 2) (As := [.int 4, .int (G 6 x1.toNatClampNeg)]) (rest := []) C hw (mk_note l v a _ fu 4 (G 6 x1.toNatClampNeg) F G r1 F1 G1 hc) (mrecv_X12 C hw) mm_220 mm_221 mm_222 mm_27 mm_223 (by decide +kernel) rfl (by omega) (by omega) hl.1 rfl (Nat.le_of_ble_eq_true rfl) dX12_simple_108 (fun H locs hw => ?_)
  exact mw_simple_111 fu C hret x1 x2 x3 x4 F1 G1 hm hw (lv_sub hl [0, 1, 2, 3, 4] rfl)
theorem mw_simple_94 (fu : Nat) {res : Int32 × PF × PG} (C : mMC p R s m args c A v RX12 cX12_simple 11 304 18090) (hret : ∀ (H1 : Heap) (locs1 : List Loc) (ls1 : Array Slot) (pc : Nat), mMW s A v a res.2.1 res.2.2 H1 locs1 → narrow .boolean (.int res.1) = .int res.1 → decode cX12_simple pc = .ok (.ireturn, 1) → W p l e R s m args below meth c H1 locs1 0 0 Q (F0 m pc ls1 [.int res.1])) (x1 : Int32) (x2 : Int32) (x3 : Int32) (z0 : Int32) (F : PF) (G : PG) (hm : mb_simple_94 fu x1 x2 x3 z0 F G = some res) {H : Heap} {locs : List Loc} (hw : mMW s A v a F G H locs) {ls : Array Slot} (hl : lv_has ls 11 [(0, .ref (a 212)), (1, .int x1), (2, .int x2), (3, .int x3)]) : W p l e R s m args below meth c H locs 0 0 Q (F0 m 94 ls [.int z0]) := by
  have hx := C.1
  have hb := C.2.1
  unfold mb_simple_94 at hm
  refine lv_istore (lv' := [(4, .int z0), (0, .ref (a 212)), (1, .int x1), (2, .int x2), (3, .int x3)]) hx hb dX12_simple_94 hl (by decide) rfl (fun ls hl => ?_)
  refine lv_iload_n hx hb dX12_simple_96 rfl (lv_at hl 4 rfl) ?_
  refine lv_if_eq (tgt := 111) hx hb dX12_simple_97 (by decide) (fun c_1 => ?_) (fun c_1 => ?_)
  · have hm := (if_pos c_1).symm.trans hm
    exact mw_simple_111 fu C hret x1 x2 x3 z0 F G hm hw (lv_sub hl [1, 2, 3, 4, 0] rfl)
  · have hm := (if_neg c_1).symm.trans hm
    exact mw_simple_100 fu C hret x1 x2 x3 z0 F G hm hw (lv_sub hl [1, 2, 3, 4, 0] rfl)
theorem mw_simple_87 (fu : Nat) {res : Int32 × PF × PG} (C : mMC p R s m args c A v RX12 cX12_simple 11 304 18090) (hret : ∀ (H1 : Heap) (locs1 : List Loc) (ls1 : Array Slot) (pc : Nat), mMW s A v a res.2.1 res.2.2 H1 locs1 → narrow .boolean (.int res.1) = .int res.1 → decode cX12_simple pc = .ok (.ireturn, 1) → W p l e R s m args below meth c H1 locs1 0 0 Q (F0 m pc ls1 [.int res.1])) (x1 : Int32) (x2 : Int32) (z0 : Int32) (F : PF) (G : PG) (hm : mb_simple_87 fu x1 x2 z0 F G = some res) {H : Heap} {locs : List Loc} (hw : mMW s A v a F G H locs) {ls : Array Slot} (hl : lv_has ls 11 [(0, .ref (a 212)), (1, .int x1), (2, .int x2)]) : W p l e R s m args below meth c H locs 0 0 Q (F0 m 87 ls [.int z0]) := by
  have hx := C.1
  have hb := C.2.1
  unfold mb_simple_87 at hm
  refine lv_istore_n (lv' := [(3, .int z0), (0, .ref (a 212)), (1, .int x1), (2, .int x2)]) hx hb dX12_simple_87 rfl hl (by decide) rfl (fun ls hl => ?_)
  refine lv_aload_n hx hb dX12_simple_88 rfl (lv_at hl 1 rfl) ?_
  refine lv_bipush (v := 24) hx hb dX12_simple_89 (by decide) ?_
  obtain ⟨⟨r1, F1, G1⟩, hc, hm⟩ := bind_elim hm
  refine mcallI (n := 1) (As := [.int 24]) (rest := []) C hw (mk_isSign l v a _ fu 24 F G r1 F1 G1 hc) (mrecv_X12 C hw) mm_183 mm_184 mm_185 mm_27 mm_186 (by decide +kernel) rfl (by omega) (by omega) hl.1 rfl (Nat.le_of_ble_eq_true rfl) dX12_simple_91 (fun H locs hw => ?_)
  exact mw_simple_94 fu C hret x1 x2 z0 r1 F1 G1 hm hw (lv_sub hl [1, 2, 3, 0] rfl)
theorem mw_simple_86 (fu : Nat) {res : Int32 × PF × PG} (C : mMC p R s m args c A v RX12 cX12_simple 11 304 18090) (hret : ∀ (H1 : Heap) (locs1 : List Loc) (ls1 : Array Slot) (pc : Nat), mMW s A v a res.2.1 res.2.2 H1 locs1 → narrow .boolean (.int res.1) = .int res.1 → decode cX12_simple pc = .ok (.ireturn, 1) → W p l e R s m args below meth c H1 locs1 0 0 Q (F0 m pc ls1 [.int res.1])) (x1 : Int32) (x2 : Int32) (F : PF) (G : PG) (hm : mb_simple_86 fu x1 x2 F G = some res) {H : Heap} {locs : List Loc} (hw : mMW s A v a F G H locs) {ls : Array Slot} (hl : lv_has ls 11 [(0, .ref (a 212)), (1, .int x1), (2, .int x2)]) : W p l e R s m args below meth c H locs 0 0 Q (F0 m 86 ls []) := by
  have hx := C.1
  have hb := C.2.1
  unfold mb_simple_86 at hm
  refine lv_iconst (v := 0) hx hb dX12_simple_86 (by decide) ?_
  exact mw_simple_87 fu C hret x1 x2 0 F G hm hw (lv_sub hl [0, 1, 2] rfl)
theorem mw_simple_82 (fu : Nat) {res : Int32 × PF × PG} (C : mMC p R s m args c A v RX12 cX12_simple 11 304 18090) (hret : ∀ (H1 : Heap) (locs1 : List Loc) (ls1 : Array Slot) (pc : Nat), mMW s A v a res.2.1 res.2.2 H1 locs1 → narrow .boolean (.int res.1) = .int res.1 → decode cX12_simple pc = .ok (.ireturn, 1) → W p l e R s m args below meth c H1 locs1 0 0 Q (F0 m pc ls1 [.int res.1])) (x1 : Int32) (x2 : Int32) (F : PF) (G : PG) (hm : mb_simple_82 fu x1 x2 F G = some res) {H : Heap} {locs : List Loc} (hw : mMW s A v a F G H locs) {ls : Array Slot} (hl : lv_has ls 11 [(0, .ref (a 212)), (1, .int x1), (2, .int x2)]) : W p l e R s m args below meth c H locs 0 0 Q (F0 m 82 ls []) := by
  have hx := C.1
  have hb := C.2.1
  unfold mb_simple_82 at hm
  refine lv_iconst (v := 1) hx hb dX12_simple_82 (by decide) ?_
  refine lv_goto (tgt := 87) hx hb dX12_simple_83 (by decide) ?_
  exact mw_simple_87 fu C hret x1 x2 1 F G hm hw (lv_sub hl [0, 1, 2] rfl)
theorem mw_simple_74 (fu : Nat) {res : Int32 × PF × PG} (C : mMC p R s m args c A v RX12 cX12_simple 11 304 18090) (hret : ∀ (H1 : Heap) (locs1 : List Loc) (ls1 : Array Slot) (pc : Nat), mMW s A v a res.2.1 res.2.2 H1 locs1 → narrow .boolean (.int res.1) = .int res.1 → decode cX12_simple pc = .ok (.ireturn, 1) → W p l e R s m args below meth c H1 locs1 0 0 Q (F0 m pc ls1 [.int res.1])) (x1 : Int32) (x2 : Int32) (F : PF) (G : PG) (hm : mb_simple_74 fu x1 x2 F G = some res) {H : Heap} {locs : List Loc} (hw : mMW s A v a F G H locs) {ls : Array Slot} (hl : lv_has ls 11 [(0, .ref (a 212)), (1, .int x1), (2, .int x2)]) : W p l e R s m args below meth c H locs 0 0 Q (F0 m 74 ls []) := by
  have hx := C.1
  have hb := C.2.1
  unfold mb_simple_74 at hm
  refine lv_aload_n hx hb dX12_simple_74 rfl (lv_at hl 0 rfl) ?_
  refine mg_X12_374 C hw dX12_simple_75 ?_
  refine lv_iconst (v := (-1)) hx hb dX12_simple_78 (by decide) ?_
  refine lv_icmp_ne (tgt := 86) hx hb dX12_simple_79 (by decide) (fun c_1 => ?_) (fun c_1 => ?_)
  · have hm := (if_neg c_1).symm.trans hm
    exact mw_simple_86 fu C hret x1 x2 F G hm hw (lv_sub hl [0, 1, 2] rfl)
  · have hm := (if_pos c_1).symm.trans hm
    exact mw_simple_82 fu C hret x1 x2 F G hm hw (lv_sub hl [0, 1, 2] rfl)
theorem mw_simple_69 (fu : Nat) {res : Int32 × PF × PG} (C : mMC p R s m args c A v RX12 cX12_simple 11 304 18090) (hret : ∀ (H1 : Heap) (locs1 : List Loc) (ls1 : Array Slot) (pc : Nat), mMW s A v a res.2.1 res.2.2 H1 locs1 → narrow .boolean (.int res.1) = .int res.1 → decode cX12_simple pc = .ok (.ireturn, 1) → W p l e R s m args below meth c H1 locs1 0 0 Q (F0 m pc ls1 [.int res.1])) (x1 : Int32) (x2 : Int32) (F : PF) (G : PG) (hm : mb_simple_69 fu x1 x2 F G = some res) {H : Heap} {locs : List Loc} (hw : mMW s A v a F G H locs) {ls : Array Slot} (hl : lv_has ls 11 [(0, .ref (a 212)), (1, .int x1), (2, .int x2)]) : W p l e R s m args below meth c H locs 0 0 Q (F0 m 69 ls []) := by
  have hx := C.1
  have hb := C.2.1
  unfold mb_simple_69 at hm
  refine lv_iload_n hx hb dX12_simple_69 rfl (lv_at hl 2 rfl) ?_
  refine lv_iconst (v := (-1)) hx hb dX12_simple_70 (by decide) ?_
  refine lv_icmp_ne (tgt := 86) hx hb dX12_simple_71 (by decide) (fun c_1 => ?_) (fun c_1 => ?_)
  · have hm := (if_neg c_1).symm.trans hm
    exact mw_simple_86 fu C hret x1 x2 F G hm hw (lv_sub hl [0, 1, 2] rfl)
  · have hm := (if_pos c_1).symm.trans hm
    exact mw_simple_74 fu C hret x1 x2 F G hm hw (lv_sub hl [0, 1, 2] rfl)
theorem mw_simple_61 (fu : Nat) {res : Int32 × PF × PG} (C : mMC p R s m args c A v RX12 cX12_simple 11 304 18090) (hret : ∀ (H1 : Heap) (locs1 : List Loc) (ls1 : Array Slot) (pc : Nat), mMW s A v a res.2.1 res.2.2 H1 locs1 → narrow .boolean (.int res.1) = .int res.1 → decode cX12_simple pc = .ok (.ireturn, 1) → W p l e R s m args below meth c H1 locs1 0 0 Q (F0 m pc ls1 [.int res.1])) (x1 : Int32) (z0 : Int32) (F : PF) (G : PG) (hm : mb_simple_61 fu x1 z0 F G = some res) {H : Heap} {locs : List Loc} (hw : mMW s A v a F G H locs) {ls : Array Slot} (hl : lv_has ls 11 [(0, .ref (a 212)), (1, .int x1)]) : W p l e R s m args below meth c H locs 0 0 Q (F0 m 61 ls [.int z0]) := by
  have hx := C.1
  have hb := C.2.1
  unfold mb_simple_61 at hm
  refine lv_istore_n (lv' := [(2, .int z0), (0, .ref (a 212)), (1, .int x1)]) hx hb dX12_simple_61 rfl hl (by decide) rfl (fun ls hl => ?_)
  refine lv_aload_n hx hb dX12_simple_62 rfl (lv_at hl 1 rfl) ?_
  refine mg_X12_245 C hw dX12_simple_63 ?_
  refine lv_if_le (tgt := 86) hx hb dX12_simple_66 (by decide) (fun c_1 => ?_) (fun c_1 => ?_)
  · have hm := (if_pos c_1).symm.trans hm
    exact mw_simple_86 fu C hret x1 z0 F G hm hw (lv_sub hl [1, 2, 0] rfl)
  · have hm := (if_neg c_1).symm.trans hm
    exact mw_simple_69 fu C hret x1 z0 F G hm hw (lv_sub hl [1, 2, 0] rfl)
theorem mw_simple_56 (fu : Nat) {res : Int32 × PF × PG} (C : mMC p R s m args c A v RX12 cX12_simple 11 304 18090) (hret : ∀ (H1 : Heap) (locs1 : List Loc) (ls1 : Array Slot) (pc : Nat), mMW s A v a res.2.1 res.2.2 H1 locs1 → narrow .boolean (.int res.1) = .int res.1 → decode cX12_simple pc = .ok (.ireturn, 1) → W p l e R s m args below meth c H1 locs1 0 0 Q (F0 m pc ls1 [.int res.1])) (x1 : Int32) (F : PF) (G : PG) (hm : mb_simple_56 fu x1 F G = some res) {H : Heap} {locs : List Loc} (hw : mMW s A v a F G H locs) {ls : Array Slot} (hl : lv_has ls 11 [(0, .ref (a 212)), (1, .int x1)]) : W p l e R s m args below meth c H locs 0 0 Q (F0 m 56 ls []) := by
  have hx := C.1
  have hb := C.2.1
  unfold mb_simple_56 at hm
  refine lv_aload_n hx hb dX12_simple_56 rfl (lv_at hl 0 rfl) ?_
  refine lv_iload_n hx hb dX12_simple_57 rfl (lv_at hl 1 rfl) ?_
  obtain ⟨⟨r1, F1, G1⟩, hc, hm⟩ := bind_elim hm
  refine mcallI (n := 1) (As := [.int x1]) (rest := []) C hw (mk_meaning l v a _ fu x1 F G r1 F1 G1 hc) (mrecv_X12 C hw) mm_232 mm_233 mm_234 mm_27 mm_235 (by decide +kernel) rfl (by omega) (by omega) hl.1 rfl (Nat.le_of_ble_eq_true rfl) dX12_simple_58 (fun H locs hw => ?_)
  exact mw_simple_61 fu C hret x1 r1 F1 G1 hm hw (lv_sub hl [0, 1] rfl)
theorem mw_simple_52 (fu : Nat) {res : Int32 × PF × PG} (C : mMC p R s m args c A v RX12 cX12_simple 11 304 18090) (hret : ∀ (H1 : Heap) (locs1 : List Loc) (ls1 : Array Slot) (pc : Nat), mMW s A v a res.2.1 res.2.2 H1 locs1 → narrow .boolean (.int res.1) = .int res.1 → decode cX12_simple pc = .ok (.ireturn, 1) → W p l e R s m args below meth c H1 locs1 0 0 Q (F0 m pc ls1 [.int res.1])) (x1 : Int32) (F : PF) (G : PG) (hm : mb_simple_52 fu x1 F G = some res) {H : Heap} {locs : List Loc} (hw : mMW s A v a F G H locs) {ls : Array Slot} (hl : lv_has ls 11 [(0, .ref (a 212)), (1, .int x1)]) : W p l e R s m args below meth c H locs 0 0 Q (F0 m 52 ls []) := by
  have hx := C.1
  have hb := C.2.1
  unfold mb_simple_52 at hm
  refine lv_iconst (v := (-1)) hx hb dX12_simple_52 (by decide) ?_
  refine lv_goto (tgt := 61) hx hb dX12_simple_53 (by decide) ?_
  exact mw_simple_61 fu C hret x1 (-1) F G hm hw (lv_sub hl [0, 1] rfl)
theorem mw_simple_45 (fu : Nat) {res : Int32 × PF × PG} (C : mMC p R s m args c A v RX12 cX12_simple 11 304 18090) (hret : ∀ (H1 : Heap) (locs1 : List Loc) (ls1 : Array Slot) (pc : Nat), mMW s A v a res.2.1 res.2.2 H1 locs1 → narrow .boolean (.int res.1) = .int res.1 → decode cX12_simple pc = .ok (.ireturn, 1) → W p l e R s m args below meth c H1 locs1 0 0 Q (F0 m pc ls1 [.int res.1])) (x1 : Int32) (F : PF) (G : PG) (hm : mb_simple_45 fu x1 F G = some res) {H : Heap} {locs : List Loc} (hw : mMW s A v a F G H locs) {ls : Array Slot} (hl : lv_has ls 11 [(0, .ref (a 212)), (1, .int x1)]) : W p l e R s m args below meth c H locs 0 0 Q (F0 m 45 ls []) := by
  have hx := C.1
  have hb := C.2.1
  unfold mb_simple_45 at hm
  refine lv_aload_n hx hb dX12_simple_45 rfl (lv_at hl 0 rfl) ?_
  refine mg_X12_245 C hw dX12_simple_46 ?_
  refine lv_if_ne (tgt := 56) hx hb dX12_simple_49 (by decide) (fun c_1 => ?_) (fun c_1 => ?_)
  · have hm := (if_neg c_1).symm.trans hm
    exact mw_simple_56 fu C hret x1 F G hm hw (lv_sub hl [0, 1] rfl)
  · have hm := (if_pos c_1).symm.trans hm
    exact mw_simple_52 fu C hret x1 F G hm hw (lv_sub hl [0, 1] rfl)
theorem mw_simple_42 (fu : Nat) {res : Int32 × PF × PG} (C : mMC p R s m args c A v RX12 cX12_simple 11 304 18090) (hret : ∀ (H1 : Heap) (locs1 : List Loc) (ls1 : Array Slot) (pc : Nat), mMW s A v a res.2.1 res.2.2 H1 locs1 → narrow .boolean (.int res.1) = .int res.1 → decode cX12_simple pc = .ok (.ireturn, 1) → W p l e R s m args below meth c H1 locs1 0 0 Q (F0 m pc ls1 [.int res.1])) (z0 : Int32) (F : PF) (G : PG) (hm : mb_simple_42 fu z0 F G = some res) {H : Heap} {locs : List Loc} (hw : mMW s A v a F G H locs) {ls : Array Slot} (hl : lv_has ls 11 []) : W p l e R s m args below meth c H locs 0 0 Q (F0 m 42 ls [.int z0]) := by
  have hx := C.1
  have hb := C.2.1
  unfold mb_simple_42 at hm
  refine lv_pop hx hb dX12_simple_42 rfl ?_
  refine lv_iconst (v := 1) hx hb dX12_simple_43 (by decide) ?_
  obtain rfl := Option.some.inj hm
  exact hret _ _ _ _ hw (b01_nar (v := 1) (Or.inr rfl)) dX12_simple_44
theorem mw_simple_34 (fu : Nat) {res : Int32 × PF × PG} (C : mMC p R s m args c A v RX12 cX12_simple 11 304 18090) (hret : ∀ (H1 : Heap) (locs1 : List Loc) (ls1 : Array Slot) (pc : Nat), mMW s A v a res.2.1 res.2.2 H1 locs1 → narrow .boolean (.int res.1) = .int res.1 → decode cX12_simple pc = .ok (.ireturn, 1) → W p l e R s m args below meth c H1 locs1 0 0 Q (F0 m pc ls1 [.int res.1])) (F : PF) (G : PG) (hm : mb_simple_34 fu F G = some res) {H : Heap} {locs : List Loc} (hw : mMW s A v a F G H locs) {ls : Array Slot} (hl : lv_has ls 11 [(0, .ref (a 212))]) : W p l e R s m args below meth c H locs 0 0 Q (F0 m 34 ls []) := by
  have hx := C.1
  have hb := C.2.1
  unfold mb_simple_34 at hm
  refine lv_aload_n hx hb dX12_simple_34 rfl (lv_at hl 0 rfl) ?_
  refine lv_bipush (v := 18) hx hb dX12_simple_35 (by decide) ?_
  refine lv_iconst (v := 0) hx hb dX12_simple_37 (by decide) ?_
  refine lv_iconst (v := 0) hx hb dX12_simple_38 (by decide) ?_
  obtain ⟨⟨r1, F1, G1⟩, hc, hm⟩ := bind_elim hm
  refine mcallI (n := 3) (As := [.int 18, .int 0, .int 0]) (rest := []) C hw (mk_step l v a _ fu 18 0 0 F G r1 F1 G1 hc) (mrecv_X12 C hw) mm_203 mm_204 mm_205 mm_27 mm_206 (by decide +kernel) rfl (by omega) (by omega) hl.1 rfl (Nat.le_of_ble_eq_true rfl) dX12_simple_39 (fun H locs hw => ?_)
  exact mw_simple_42 fu C hret r1 F1 G1 hm hw (lv_sub hl [] rfl)
theorem mw_simple_32 (fu : Nat) {res : Int32 × PF × PG} (C : mMC p R s m args c A v RX12 cX12_simple 11 304 18090) (hret : ∀ (H1 : Heap) (locs1 : List Loc) (ls1 : Array Slot) (pc : Nat), mMW s A v a res.2.1 res.2.2 H1 locs1 → narrow .boolean (.int res.1) = .int res.1 → decode cX12_simple pc = .ok (.ireturn, 1) → W p l e R s m args below meth c H1 locs1 0 0 Q (F0 m pc ls1 [.int res.1])) (F : PF) (G : PG) (hm : mb_simple_32 fu F G = some res) {H : Heap} {locs : List Loc} (hw : mMW s A v a F G H locs) {ls : Array Slot} (hl : lv_has ls 11 []) : W p l e R s m args below meth c H locs 0 0 Q (F0 m 32 ls []) := by
  have hx := C.1
  have hb := C.2.1
  unfold mb_simple_32 at hm
  refine lv_iconst (v := 0) hx hb dX12_simple_32 (by decide) ?_
  obtain rfl := Option.some.inj hm
  exact hret _ _ _ _ hw (b01_nar (v := 0) (Or.inl rfl)) dX12_simple_33
theorem mw_simple_29 (fu : Nat) {res : Int32 × PF × PG} (C : mMC p R s m args c A v RX12 cX12_simple 11 304 18090) (hret : ∀ (H1 : Heap) (locs1 : List Loc) (ls1 : Array Slot) (pc : Nat), mMW s A v a res.2.1 res.2.2 H1 locs1 → narrow .boolean (.int res.1) = .int res.1 → decode cX12_simple pc = .ok (.ireturn, 1) → W p l e R s m args below meth c H1 locs1 0 0 Q (F0 m pc ls1 [.int res.1])) (z0 : Int32) (F : PF) (G : PG) (hm : mb_simple_29 fu z0 F G = some res) {H : Heap} {locs : List Loc} (hw : mMW s A v a F G H locs) {ls : Array Slot} (hl : lv_has ls 11 [(0, .ref (a 212))]) : W p l e R s m args below meth c H locs 0 0 Q (F0 m 29 ls [.int z0]) := by
  have hx := C.1
  have hb := C.2.1
  unfold mb_simple_29 at hm
  refine lv_if_ne (tgt := 34) hx hb dX12_simple_29 (by decide) (fun c_1 => ?_) (fun c_1 => ?_)
  · have hm := (if_neg c_1).symm.trans hm
    exact mw_simple_34 fu C hret F G hm hw (lv_sub hl [0] rfl)
  · have hm := (if_pos c_1).symm.trans hm
    exact mw_simple_32 fu C hret F G hm hw (lv_sub hl [] rfl)
theorem mw_simple_23 (fu : Nat) {res : Int32 × PF × PG} (C : mMC p R s m args c A v RX12 cX12_simple 11 304 18090) (hret : ∀ (H1 : Heap) (locs1 : List Loc) (ls1 : Array Slot) (pc : Nat), mMW s A v a res.2.1 res.2.2 H1 locs1 → narrow .boolean (.int res.1) = .int res.1 → decode cX12_simple pc = .ok (.ireturn, 1) → W p l e R s m args below meth c H1 locs1 0 0 Q (F0 m pc ls1 [.int res.1])) (x1 : Int32) (F : PF) (G : PG) (hm : mb_simple_23 fu x1 F G = some res) {H : Heap} {locs : List Loc} (hw : mMW s A v a F G H locs) {ls : Array Slot} (hl : lv_has ls 11 [(0, .ref (a 212)), (1, .int x1)]) : W p l e R s m args below meth c H locs 0 0 Q (F0 m 23 ls []) := by
  have hx := C.1
  have hb := C.2.1
  unfold mb_simple_23 at hm
  refine lv_aload_n hx hb dX12_simple_23 rfl (lv_at hl 0 rfl) ?_
  refine lv_iload_n hx hb dX12_simple_24 rfl (lv_at hl 1 rfl) ?_
  refine lv_iconst (v := 0) hx hb dX12_simple_25 (by decide) ?_
  obtain ⟨⟨r1, F1, G1⟩, hc, hm⟩ := bind_elim hm
  refine mcallI (n := 2) (As := [.int x1, .int 0]) (rest := []) C hw (mk_call l v a _ fu x1 0 F G r1 F1 G1 hc) (mrecv_X12 C hw) mm_269 mm_270 mm_271 mm_27 mm_239 (by decide +kernel) rfl (by omega) (by omega) hl.1 rfl (Nat.le_of_ble_eq_true rfl) dX12_simple_26 (fun H locs hw => ?_)
  exact mw_simple_29 fu C hret r1 F1 G1 hm hw (lv_sub hl [0] rfl)
theorem mw_simple_20 (fu : Nat) {res : Int32 × PF × PG} (C : mMC p R s m args c A v RX12 cX12_simple 11 304 18090) (hret : ∀ (H1 : Heap) (locs1 : List Loc) (ls1 : Array Slot) (pc : Nat), mMW s A v a res.2.1 res.2.2 H1 locs1 → narrow .boolean (.int res.1) = .int res.1 → decode cX12_simple pc = .ok (.ireturn, 1) → W p l e R s m args below meth c H1 locs1 0 0 Q (F0 m pc ls1 [.int res.1])) (x1 : Int32) (z0 : Int32) (F : PF) (G : PG) (hm : mb_simple_20 fu x1 z0 F G = some res) {H : Heap} {locs : List Loc} (hw : mMW s A v a F G H locs) {ls : Array Slot} (hl : lv_has ls 11 [(0, .ref (a 212)), (1, .int x1)]) : W p l e R s m args below meth c H locs 0 0 Q (F0 m 20 ls [.int z0]) := by
  have hx := C.1
  have hb := C.2.1
  unfold mb_simple_20 at hm
  refine lv_if_eq (tgt := 45) hx hb dX12_simple_20 (by decide) (fun c_1 => ?_) (fun c_1 => ?_)
  · have hm := (if_pos c_1).symm.trans hm
    exact mw_simple_45 fu C hret x1 F G hm hw (lv_sub hl [0, 1] rfl)
  · have hm := (if_neg c_1).symm.trans hm
    exact mw_simple_23 fu C hret x1 F G hm hw (lv_sub hl [0, 1] rfl)
theorem mw_simple_14 (fu : Nat) {res : Int32 × PF × PG} (C : mMC p R s m args c A v RX12 cX12_simple 11 304 18090) (hret : ∀ (H1 : Heap) (locs1 : List Loc) (ls1 : Array Slot) (pc : Nat), mMW s A v a res.2.1 res.2.2 H1 locs1 → narrow .boolean (.int res.1) = .int res.1 → decode cX12_simple pc = .ok (.ireturn, 1) → W p l e R s m args below meth c H1 locs1 0 0 Q (F0 m pc ls1 [.int res.1])) (x1 : Int32) (F : PF) (G : PG) (hm : mb_simple_14 fu x1 F G = some res) {H : Heap} {locs : List Loc} (hw : mMW s A v a F G H locs) {ls : Array Slot} (hl : lv_has ls 11 [(0, .ref (a 212)), (1, .int x1)]) : W p l e R s m args below meth c H locs 0 0 Q (F0 m 14 ls []) := by
  have hx := C.1
  have hb := C.2.1
  unfold mb_simple_14 at hm
  refine lv_aload_n hx hb dX12_simple_14 rfl (lv_at hl 0 rfl) ?_
  refine lv_bipush (v := 22) hx hb dX12_simple_15 (by decide) ?_
  obtain ⟨⟨r1, F1, G1⟩, hc, hm⟩ := bind_elim hm
  refine mcallI (n := 1) (As := [.int 22]) (rest := []) C hw (mk_isSign l v a _ fu 22 F G r1 F1 G1 hc) (mrecv_X12 C hw) mm_183 mm_184 mm_185 mm_27 mm_186 (by decide +kernel) rfl (by omega) (by omega) hl.1 rfl (Nat.le_of_ble_eq_true rfl) dX12_simple_17 (fun H locs hw => ?_)
  exact mw_simple_20 fu C hret x1 r1 F1 G1 hm hw (lv_sub hl [0, 1] rfl)
theorem mw_simple_12 (fu : Nat) {res : Int32 × PF × PG} (C : mMC p R s m args c A v RX12 cX12_simple 11 304 18090) (hret : ∀ (H1 : Heap) (locs1 : List Loc) (ls1 : Array Slot) (pc : Nat), mMW s A v a res.2.1 res.2.2 H1 locs1 → narrow .boolean (.int res.1) = .int res.1 → decode cX12_simple pc = .ok (.ireturn, 1) → W p l e R s m args below meth c H1 locs1 0 0 Q (F0 m pc ls1 [.int res.1])) (F : PF) (G : PG) (hm : mb_simple_12 fu F G = some res) {H : Heap} {locs : List Loc} (hw : mMW s A v a F G H locs) {ls : Array Slot} (hl : lv_has ls 11 []) : W p l e R s m args below meth c H locs 0 0 Q (F0 m 12 ls []) := by
  have hx := C.1
  have hb := C.2.1
  unfold mb_simple_12 at hm
  refine lv_iconst (v := 0) hx hb dX12_simple_12 (by decide) ?_
  obtain rfl := Option.some.inj hm
  exact hret _ _ _ _ hw (b01_nar (v := 0) (Or.inl rfl)) dX12_simple_13
theorem mw_simple_4 (fu : Nat) {res : Int32 × PF × PG} (C : mMC p R s m args c A v RX12 cX12_simple 11 304 18090) (hret : ∀ (H1 : Heap) (locs1 : List Loc) (ls1 : Array Slot) (pc : Nat), mMW s A v a res.2.1 res.2.2 H1 locs1 → narrow .boolean (.int res.1) = .int res.1 → decode cX12_simple pc = .ok (.ireturn, 1) → W p l e R s m args below meth c H1 locs1 0 0 Q (F0 m pc ls1 [.int res.1])) (z0 : Int32) (F : PF) (G : PG) (hm : mb_simple_4 fu z0 F G = some res) {H : Heap} {locs : List Loc} (hw : mMW s A v a F G H locs) {ls : Array Slot} (hl : lv_has ls 11 [(0, .ref (a 212))]) : W p l e R s m args below meth c H locs 0 0 Q (F0 m 4 ls [.int z0]) := by
  have hx := C.1
  have hb := C.2.1
  unfold mb_simple_4 at hm
  refine lv_istore_n (lv' := [(1, .int z0), (0, .ref (a 212))]) hx hb dX12_simple_4 rfl hl (by decide) rfl (fun ls hl => ?_)
  refine lv_aload_n hx hb dX12_simple_5 rfl (lv_at hl 1 rfl) ?_
  refine mg_X12_230 C hw dX12_simple_6 ?_
  refine lv_if_le (tgt := 14) hx hb dX12_simple_9 (by decide) (fun c_1 => ?_) (fun c_1 => ?_)
  · have hm := (if_pos c_1).symm.trans hm
    exact mw_simple_14 fu C hret z0 F G hm hw (lv_sub hl [1, 0] rfl)
  · have hm := (if_neg c_1).symm.trans hm
    exact mw_simple_12 fu C hret F G hm hw (lv_sub hl [] rfl)
theorem mw_simple_0 (fu : Nat) {res : Int32 × PF × PG} (C : mMC p R s m args c A v RX12 cX12_simple 11 304 18090) (hret : ∀ (H1 : Heap) (locs1 : List Loc) (ls1 : Array Slot) (pc : Nat), mMW s A v a res.2.1 res.2.2 H1 locs1 → narrow .boolean (.int res.1) = .int res.1 → decode cX12_simple pc = .ok (.ireturn, 1) → W p l e R s m args below meth c H1 locs1 0 0 Q (F0 m pc ls1 [.int res.1])) (F : PF) (G : PG) (hm : mb_simple_0 fu F G = some res) {H : Heap} {locs : List Loc} (hw : mMW s A v a F G H locs) {ls : Array Slot} (hl : lv_has ls 11 [(0, .ref (a 212))]) : W p l e R s m args below meth c H locs 0 0 Q (F0 m 0 ls []) := by
  have hx := C.1
  have hb := C.2.1
  unfold mb_simple_0 at hm
  refine lv_aload_n hx hb dX12_simple_0 rfl (lv_at hl 0 rfl) ?_
  obtain ⟨⟨r1, F1, G1⟩, hc, hm⟩ := bind_elim hm
  refine mcallI (n := 0) (As := []) (rest := []) C hw (mk_name l v a _ fu F G r1 F1 G1 hc) (mrecv_X12 C hw) mm_175 mm_176 mm_177 mm_27 mm_178 (by decide +kernel) rfl (by omega) (by omega) hl.1 rfl (Nat.le_of_ble_eq_true rfl) dX12_simple_1 (fun H locs hw => ?_)
  exact mw_simple_4 fu C hret r1 F1 G1 hm hw (lv_sub hl [0] rfl)
theorem mk_simple (l : Launch) (v : EV) (a : Nat → Nat) (sz : Nat) (fu : Nat) (F : PF) (G : PG) (r : Int32) (F1 : PF) (G1 : PG) (hm : mf_simple fu F G = some (r, F1, G1)) : mMI l yX12_simple cX12_simple 11 (some .boolean) 304 18090 v a sz [.ref (a 212)] F G r F1 G1 := mMI.of (ty := .boolean) (by decide) rfl (Nat.le_of_ble_eq_true rfl) (fun p e R s m args below meth c Q A H locs ls C hw hl hret => mw_simple_0 fu (res := (r, F1, G1)) C hret F G hm hw hl)
def mb_tellHere_325 (fu : Nat) (z0 : Int32) (F : PF) (G : PG) : PR := if b01 z0 = true then (some (z0, F, G)) else none
def mb_tellHere_320 (fu : Nat) (F : PF) (G : PG) : PR := (mf_fails fu 2 F G).bind (fun q => mb_tellHere_325 fu q.1 q.2.1 q.2.2)
def mb_tellHere_346 (fu : Nat) (F : PF) (G : PG) : PR := some (1, F, G)
def mb_tellHere_334 (fu : Nat) (x3 : Int32) (x4 : Int32) (z0 : Int32) (F : PF) (G : PG) : PR := (mf_declare fu x3 1 0 x4 1 1 F G).bind (fun q => mb_tellHere_346 fu q.2.1 q.2.2)
def mb_tellHere_326 (fu : Nat) (x3 : Int32) (x4 : Int32) (F : PF) (G : PG) : PR := (mf_step fu 2 x4 0 F G).bind (fun q => mb_tellHere_334 fu x3 x4 q.1 q.2.1 q.2.2)
def mb_tellHere_316 (fu : Nat) (x3 : Int32) (x4 : Int32) (z0 : Int32) (F : PF) (G : PG) : PR := mb_tellHere_326 fu x3 x4 F G
def mb_tellHere_309 (fu : Nat) (x3 : Int32) (x4 : Int32) (F : PF) (G : PG) : PR := (mf_step fu 0 0 0 F G).bind (fun q => mb_tellHere_316 fu x3 x4 q.1 q.2.1 q.2.2)
def mb_tellHere_305 (fu : Nat) (x1 : Int32) (x3 : Int32) (x4 : Int32) (F : PF) (G : PG) : PR := if x1 = (0 : Int32) then mb_tellHere_320 fu F G else mb_tellHere_309 fu x3 x4 F G
def mb_tellHere_303 (fu : Nat) (F : PF) (G : PG) : PR := some (0, F, G)
def mb_tellHere_300 (fu : Nat) (x3 : Int32) (x4 : Int32) (z0 : Int32) (F : PF) (G : PG) : PR := if z0 = (0 : Int32) then mb_tellHere_303 fu F G else mb_tellHere_326 fu x3 x4 F G
def mb_tellHere_296 (fu : Nat) (x3 : Int32) (x4 : Int32) (F : PF) (G : PG) : PR := (mf_expression fu F G).bind (fun q => mb_tellHere_300 fu x3 x4 q.1 q.2.1 q.2.2)
def mb_tellHere_286 (fu : Nat) (x3 : Int32) (x4 : Int32) (F : PF) (G : PG) : PR := mb_tellHere_296 fu x3 x4 (fup F 42 ((F 42) + (1 : Int32))) G
def mb_tellHere_283 (fu : Nat) (x1 : Int32) (x3 : Int32) (x4 : Int32) (z0 : Int32) (F : PF) (G : PG) : PR := if z0 = (0 : Int32) then mb_tellHere_305 fu x1 x3 x4 F G else mb_tellHere_286 fu x3 x4 F G
def mb_tellHere_277 (fu : Nat) (x1 : Int32) (x3 : Int32) (x4 : Int32) (F : PF) (G : PG) : PR := (mf_isSign fu 32 F G).bind (fun q => mb_tellHere_283 fu x1 x3 x4 q.1 q.2.1 q.2.2)
def mb_tellHere_273 (fu : Nat) (x1 : Int32) (x3 : Int32) (x4 : Int32) (z0 : Int32) (z1 : Int32) (F : PF) (G : PG) : PR := mb_tellHere_277 fu x1 x3 x4 (fup F 53 (z1 + z0)) G
def mb_tellHere_272 (fu : Nat) (x1 : Int32) (x3 : Int32) (x4 : Int32) (z0 : Int32) (F : PF) (G : PG) : PR := mb_tellHere_273 fu x1 x3 x4 1 z0 F G
def mb_tellHere_268 (fu : Nat) (x1 : Int32) (x3 : Int32) (x4 : Int32) (z0 : Int32) (F : PF) (G : PG) : PR := mb_tellHere_273 fu x1 x3 x4 0 z0 F G
def mb_tellHere_247 (fu : Nat) (x1 : Int32) (x3 : Int32) (F : PF) (G : PG) : PR := if (F 52) ≤ (200 : Int32) then mb_tellHere_272 fu x1 x3 (F 53) (F 53) F G else mb_tellHere_268 fu x1 x3 (F 53) (F 53) F G
def mb_tellHere_235 (fu : Nat) (x1 : Int32) (x3 : Int32) (F : PF) (G : PG) : PR := if ixb x3 4002 = true then ((mf_note fu 11 (G 6 x3.toNatClampNeg) F G).bind (fun q => mb_tellHere_247 fu x1 x3 q.2.1 q.2.2)) else none
def mb_tellHere_225 (fu : Nat) (x1 : Int32) (x3 : Int32) (F : PF) (G : PG) : PR := if (F 52) ≤ (200 : Int32) then mb_tellHere_247 fu x1 x3 F G else mb_tellHere_235 fu x1 x3 F G
def mb_tellHere_215 (fu : Nat) (x1 : Int32) (x3 : Int32) (F : PF) (G : PG) : PR := mb_tellHere_225 fu x1 x3 (fup F 52 ((F 52) + (1 : Int32))) G
def mb_tellHere_210 (fu : Nat) (x1 : Int32) (x3 : Int32) (F : PF) (G : PG) : PR := (mf_twice fu x3 F G).bind (fun q => mb_tellHere_215 fu x1 x3 q.2.1 q.2.2)
def mb_tellHere_208 (fu : Nat) (F : PF) (G : PG) : PR := some (1, F, G)
def mb_tellHere_197 (fu : Nat) (x5 : Int32) (F : PF) (G : PG) : PR := mb_tellHere_208 fu (fup F 53 ((F 53) + x5)) G
def mb_tellHere_193 (fu : Nat) (x5 : Int32) (z0 : Int32) (z1 : Int32) (z2 : Int32) (z3 : Int32) (z4 : Int32) (F : PF) (G : PG) : PR := (mf_declare fu z4 z3 z2 z1 z0 1 F G).bind (fun q => mb_tellHere_197 fu x5 q.2.1 q.2.2)
def mb_tellHere_191 (fu : Nat) (x4 : Int32) (x5 : Int32) (z0 : Int32) (z1 : Int32) (z2 : Int32) (z3 : Int32) (F : PF) (G : PG) : PR := mb_tellHere_193 fu x5 x4 z0 z1 z2 z3 F G
def mb_tellHere_187 (fu : Nat) (x5 : Int32) (z0 : Int32) (z1 : Int32) (z2 : Int32) (z3 : Int32) (F : PF) (G : PG) : PR := mb_tellHere_193 fu x5 1 z0 z1 z2 z3 F G
def mb_tellHere_172 (fu : Nat) (x2 : Int32) (x3 : Int32) (x4 : Int32) (x5 : Int32) (z0 : Int32) (F : PF) (G : PG) : PR := if x4 = (-1 : Int32) then mb_tellHere_187 fu x5 (F 53) x2 2 x3 F G else mb_tellHere_191 fu x4 x5 (F 53) x2 2 x3 F G
def mb_tellHere_158 (fu : Nat) (x2 : Int32) (x3 : Int32) (x4 : Int32) (z0 : Int32) (F : PF) (G : PG) : PR := (mf_step fu 22 (F 53) z0 F G).bind (fun q => mb_tellHere_172 fu x2 x3 x4 z0 q.1 q.2.1 q.2.2)
def mb_tellHere_152 (fu : Nat) (x2 : Int32) (x3 : Int32) (x4 : Int32) (F : PF) (G : PG) : PR := mb_tellHere_158 fu x2 x3 x4 0 F G
def mb_tellHere_156 (fu : Nat) (x2 : Int32) (x3 : Int32) (x4 : Int32) (F : PF) (G : PG) : PR := mb_tellHere_158 fu x2 x3 x4 x4 F G
def mb_tellHere_142 (fu : Nat) (x2 : Int32) (x3 : Int32) (x4 : Int32) (F : PF) (G : PG) : PR := if (F 52) ≤ (200 : Int32) then mb_tellHere_156 fu x2 x3 x4 F G else mb_tellHere_152 fu x2 x3 x4 F G
def mb_tellHere_136 (fu : Nat) (x2 : Int32) (x3 : Int32) (x4 : Int32) (F : PF) (G : PG) : PR := if x4 = (-1 : Int32) then mb_tellHere_152 fu x2 x3 x4 F G else mb_tellHere_142 fu x2 x3 x4 F G
def mb_tellHere_124 (fu : Nat) (x2 : Int32) (x3 : Int32) (x4 : Int32) (F : PF) (G : PG) : PR := if ixb x3 4002 = true then ((mf_note fu 11 (G 6 x3.toNatClampNeg) F G).bind (fun q => mb_tellHere_136 fu x2 x3 x4 q.2.1 q.2.2)) else none
def mb_tellHere_114 (fu : Nat) (x2 : Int32) (x3 : Int32) (x4 : Int32) (F : PF) (G : PG) : PR := if (F 52) ≤ (200 : Int32) then mb_tellHere_136 fu x2 x3 x4 F G else mb_tellHere_124 fu x2 x3 x4 F G
def mb_tellHere_110 (fu : Nat) (x2 : Int32) (x3 : Int32) (x4 : Int32) (z0 : Int32) (z1 : Int32) (F : PF) (G : PG) : PR := mb_tellHere_114 fu x2 x3 x4 (fup F 52 (z1 + z0)) G
def mb_tellHere_108 (fu : Nat) (x2 : Int32) (x3 : Int32) (x4 : Int32) (z0 : Int32) (F : PF) (G : PG) : PR := mb_tellHere_110 fu x2 x3 x4 x4 z0 F G
def mb_tellHere_99 (fu : Nat) (x2 : Int32) (x3 : Int32) (x4 : Int32) (z0 : Int32) (F : PF) (G : PG) : PR := mb_tellHere_110 fu x2 x3 x4 ((x4 + (3 : Int32)) / (4 : Int32)) z0 F G
def mb_tellHere_95 (fu : Nat) (x2 : Int32) (x3 : Int32) (x4 : Int32) (z0 : Int32) (F : PF) (G : PG) : PR := if x2 = (0 : Int32) then mb_tellHere_108 fu x2 x3 x4 z0 F G else mb_tellHere_99 fu x2 x3 x4 z0 F G
def mb_tellHere_91 (fu : Nat) (x2 : Int32) (x3 : Int32) (x4 : Int32) (z0 : Int32) (F : PF) (G : PG) : PR := mb_tellHere_110 fu x2 x3 x4 0 z0 F G
def mb_tellHere_80 (fu : Nat) (x2 : Int32) (x3 : Int32) (x4 : Int32) (F : PF) (G : PG) : PR := if x4 = (-1 : Int32) then mb_tellHere_91 fu x2 x3 x4 (F 52) F G else mb_tellHere_95 fu x2 x3 x4 (F 52) F G
def mb_tellHere_78 (fu : Nat) (F : PF) (G : PG) : PR := some (0, F, G)
def mb_tellHere_75 (fu : Nat) (x2 : Int32) (x3 : Int32) (x4 : Int32) (z0 : Int32) (F : PF) (G : PG) : PR := if z0 = (0 : Int32) then mb_tellHere_78 fu F G else mb_tellHere_80 fu x2 x3 x4 F G
def mb_tellHere_67 (fu : Nat) (x2 : Int32) (x3 : Int32) (z0 : Int32) (F : PF) (G : PG) : PR := (mf_closeSign fu 25 F G).bind (fun q => mb_tellHere_75 fu x2 x3 z0 q.1 q.2.1 q.2.2)
def mb_tellHere_63 (fu : Nat) (x2 : Int32) (x3 : Int32) (F : PF) (G : PG) : PR := (mf_sizeHere fu F G).bind (fun q => mb_tellHere_67 fu x2 x3 q.1 q.2.1 q.2.2)
def mb_tellHere_61 (fu : Nat) (F : PF) (G : PG) : PR := some (0, F, G)
def mb_tellHere_58 (fu : Nat) (x2 : Int32) (x3 : Int32) (z0 : Int32) (F : PF) (G : PG) : PR := if z0 = (0 : Int32) then mb_tellHere_61 fu F G else mb_tellHere_63 fu x2 x3 F G
def mb_tellHere_52 (fu : Nat) (x2 : Int32) (x3 : Int32) (F : PF) (G : PG) : PR := (mf_openSign fu 24 F G).bind (fun q => mb_tellHere_58 fu x2 x3 q.1 q.2.1 q.2.2)
def mb_tellHere_47 (fu : Nat) (x2 : Int32) (x3 : Int32) (F : PF) (G : PG) : PR := (mf_twice fu x3 F G).bind (fun q => mb_tellHere_52 fu x2 x3 q.2.1 q.2.2)
def mb_tellHere_44 (fu : Nat) (x1 : Int32) (x2 : Int32) (x3 : Int32) (z0 : Int32) (F : PF) (G : PG) : PR := if z0 = (0 : Int32) then mb_tellHere_210 fu x1 x3 F G else mb_tellHere_47 fu x2 x3 F G
def mb_tellHere_38 (fu : Nat) (x1 : Int32) (x2 : Int32) (x3 : Int32) (F : PF) (G : PG) : PR := (mf_isSign fu 24 F G).bind (fun q => mb_tellHere_44 fu x1 x2 x3 q.1 q.2.1 q.2.2)
def mb_tellHere_34 (fu : Nat) (x1 : Int32) (x2 : Int32) (x3 : Int32) (F : PF) (G : PG) : PR := if x2 = (0 : Int32) then mb_tellHere_38 fu x1 x2 x3 F G else mb_tellHere_47 fu x2 x3 F G
def mb_tellHere_30 (fu : Nat) (x1 : Int32) (x2 : Int32) (x3 : Int32) (F : PF) (G : PG) : PR := if x1 = (0 : Int32) then mb_tellHere_210 fu x1 x3 F G else mb_tellHere_34 fu x1 x2 x3 F G
def mb_tellHere_28 (fu : Nat) (F : PF) (G : PG) : PR := some (0, F, G)
def mb_tellHere_20 (fu : Nat) (x1 : Int32) (x2 : Int32) (z0 : Int32) (F : PF) (G : PG) : PR := if (F 44) ≤ (0 : Int32) then mb_tellHere_30 fu x1 x2 z0 F G else mb_tellHere_28 fu F G
def mb_tellHere_16 (fu : Nat) (x1 : Int32) (x2 : Int32) (F : PF) (G : PG) : PR := (mf_name fu F G).bind (fun q => mb_tellHere_20 fu x1 x2 q.1 q.2.1 q.2.2)
def mb_tellHere_5 (fu : Nat) (x1 : Int32) (z0 : Int32) (F : PF) (G : PG) : PR := mb_tellHere_16 fu x1 z0 (fup F 42 ((F 42) + (1 : Int32))) G
def mb_tellHere_0 (fu : Nat) (x1 : Int32) (F : PF) (G : PG) : PR := (mf_isWord fu 1 F G).bind (fun q => mb_tellHere_5 fu x1 q.1 q.2.1 q.2.2)
def mf_tellHere (fu : Nat) (x1 : Int32) (F : PF) (G : PG) : PR := mb_tellHere_0 fu x1 F G
theorem mw_tellHere_325 (fu : Nat) {res : Int32 × PF × PG} (C : mMC p R s m args c A v RX12 cX12_tellHere 6 306 18131) (hret : ∀ (H1 : Heap) (locs1 : List Loc) (ls1 : Array Slot) (pc : Nat), mMW s A v a res.2.1 res.2.2 H1 locs1 → narrow .boolean (.int res.1) = .int res.1 → decode cX12_tellHere pc = .ok (.ireturn, 1) → W p l e R s m args below meth c H1 locs1 0 0 Q (F0 m pc ls1 [.int res.1])) (z0 : Int32) (F : PF) (G : PG) (hm : mb_tellHere_325 fu z0 F G = some res) {H : Heap} {locs : List Loc} (hw : mMW s A v a F G H locs) {ls : Array Slot} (hl : lv_has ls 6 []) : W p l e R s m args below meth c H locs 0 0 Q (F0 m 325 ls [.int z0]) := by
  have hx := C.1
  have hb := C.2.1
  unfold mb_tellHere_325 at hm
  obtain ⟨hz, hm⟩ := b01_elim hm
  obtain rfl := Option.some.inj hm
  exact hret _ _ _ _ hw (b01_nar hz) dX12_tellHere_325
theorem mw_tellHere_320 (fu : Nat) {res : Int32 × PF × PG} (C : mMC p R s m args c A v RX12 cX12_tellHere 6 306 18131) (hret : ∀ (H1 : Heap) (locs1 : List Loc) (ls1 : Array Slot) (pc : Nat), mMW s A v a res.2.1 res.2.2 H1 locs1 → narrow .boolean (.int res.1) = .int res.1 → decode cX12_tellHere pc = .ok (.ireturn, 1) → W p l e R s m args below meth c H1 locs1 0 0 Q (F0 m pc ls1 [.int res.1])) (F : PF) (G : PG) (hm : mb_tellHere_320 fu F G = some res) {H : Heap} {locs : List Loc} (hw : mMW s A v a F G H locs) {ls : Array Slot} (hl : lv_has ls 6 [(0, .ref (a 212))]) : W p l e R s m args below meth c H locs 0 0 Q (F0 m 320 ls []) := by
  have hx := C.1
  have hb := C.2.1
  unfold mb_tellHere_320 at hm
  refine lv_aload_n hx hb dX12_tellHere_320 rfl (lv_at hl 0 rfl) ?_
  refine lv_iconst (v := 2) hx hb dX12_tellHere_321 (by decide) ?_
  obtain ⟨⟨r1, F1, G1⟩, hc, hm⟩ := bind_elim hm
  refine mcallI (n := 1) (As := [.int 2]) (rest := []) C hw (mk_fails l v a _ fu 2 F G r1 F1 G1 hc) (mrecv_X12 C hw) mm_166 mm_167 mm_168 mm_27 mm_169 (by decide +kernel) rfl (by omega) (by omega) hl.1 rfl (Nat.le_of_ble_eq_true rfl) dX12_tellHere_322 (fun H locs hw => ?_)
  exact mw_tellHere_325 fu C hret r1 F1 G1 hm hw (lv_sub hl [] rfl)
theorem mw_tellHere_346 (fu : Nat) {res : Int32 × PF × PG} (C : mMC p R s m args c A v RX12 cX12_tellHere 6 306 18131) (hret : ∀ (H1 : Heap) (locs1 : List Loc) (ls1 : Array Slot) (pc : Nat), mMW s A v a res.2.1 res.2.2 H1 locs1 → narrow .boolean (.int res.1) = .int res.1 → decode cX12_tellHere pc = .ok (.ireturn, 1) → W p l e R s m args below meth c H1 locs1 0 0 Q (F0 m pc ls1 [.int res.1])) (F : PF) (G : PG) (hm : mb_tellHere_346 fu F G = some res) {H : Heap} {locs : List Loc} (hw : mMW s A v a F G H locs) {ls : Array Slot} (hl : lv_has ls 6 []) : W p l e R s m args below meth c H locs 0 0 Q (F0 m 346 ls []) := by
  have hx := C.1
  have hb := C.2.1
  unfold mb_tellHere_346 at hm
  refine lv_iconst (v := 1) hx hb dX12_tellHere_346 (by decide) ?_
  obtain rfl := Option.some.inj hm
  exact hret _ _ _ _ hw (b01_nar (v := 1) (Or.inr rfl)) dX12_tellHere_347
theorem mw_tellHere_334 (fu : Nat) {res : Int32 × PF × PG} (C : mMC p R s m args c A v RX12 cX12_tellHere 6 306 18131) (hret : ∀ (H1 : Heap) (locs1 : List Loc) (ls1 : Array Slot) (pc : Nat), mMW s A v a res.2.1 res.2.2 H1 locs1 → narrow .boolean (.int res.1) = .int res.1 → decode cX12_tellHere pc = .ok (.ireturn, 1) → W p l e R s m args below meth c H1 locs1 0 0 Q (F0 m pc ls1 [.int res.1])) (x3 : Int32) (x4 : Int32) (z0 : Int32) (F : PF) (G : PG) (hm : mb_tellHere_334 fu x3 x4 z0 F G = some res) {H : Heap} {locs : List Loc} (hw : mMW s A v a F G H locs) {ls : Array Slot} (hl : lv_has ls 6 [(0, .ref (a 212)), (3, .int x3), (4, .int x4)]) : W p l e R s m args below meth c H locs 0 0 Q (F0 m 334 ls [.int z0]) := by
  have hx := C.1
  have hb := C.2.1
  unfold mb_tellHere_334 at hm
  refine lv_pop hx hb dX12_tellHere_334 rfl ?_
  refine lv_aload_n hx hb dX12_tellHere_335 rfl (lv_at hl 0 rfl) ?_
  refine lv_iload_n hx hb dX12_tellHere_336 rfl (lv_at hl 1 rfl) ?_
  refine lv_iconst (v := 1) hx hb dX12_tellHere_337 (by decide) ?_
  refine lv_iconst (v := 0) hx hb dX12_tellHere_338 (by decide) ?_
  refine lv_iload hx hb dX12_tellHere_339 (lv_at hl 2 rfl) ?_
  refine lv_iconst (v := 1) hx hb dX12_tellHere_341 (by decide) ?_
  refine lv_iconst (v := 1) hx hb dX12_tellHere_342 (by decide) ?_
  obtain ⟨⟨r1, F1, G1⟩, hc, hm⟩ := bind_elim hm
  refine mcallV (n := 6) (As := [.int x3, .int 1, .int 0, .int x4, .int 1, .int 1]) (rest := []) C hw (mk_declare l v a _ fu x3 1 0 x4 1 1 F G r1 F1 G1 hc) (mrecv_X12 C hw) mm_314 mm_315 mm_316 mm_27 mm_317 (by decide +kernel) rfl (by omega) (by omega) hl.1 rfl (Nat.le_of_ble_eq_true rfl) dX12_tellHere_343 (fun H locs hw => ?_)
  exact mw_tellHere_346 fu C hret F1 G1 hm hw (lv_sub hl [] rfl)
theorem mw_tellHere_326 (fu : Nat) {res : Int32 × PF × PG} (C : mMC p R s m args c A v RX12 cX12_tellHere 6 306 18131) (hret : ∀ (H1 : Heap) (locs1 : List Loc) (ls1 : Array Slot) (pc : Nat), mMW s A v a res.2.1 res.2.2 H1 locs1 → narrow .boolean (.int res.1) = .int res.1 → decode cX12_tellHere pc = .ok (.ireturn, 1) → W p l e R s m args below meth c H1 locs1 0 0 Q (F0 m pc ls1 [.int res.1])) (x3 : Int32) (x4 : Int32) (F : PF) (G : PG) (hm : mb_tellHere_326 fu x3 x4 F G = some res) {H : Heap} {locs : List Loc} (hw : mMW s A v a F G H locs) {ls : Array Slot} (hl : lv_has ls 6 [(0, .ref (a 212)), (3, .int x3), (4, .int x4)]) : W p l e R s m args below meth c H locs 0 0 Q (F0 m 326 ls []) := by
  have hx := C.1
  have hb := C.2.1
  unfold mb_tellHere_326 at hm
  refine lv_aload_n hx hb dX12_tellHere_326 rfl (lv_at hl 0 rfl) ?_
  refine lv_iconst (v := 2) hx hb dX12_tellHere_327 (by decide) ?_
  refine lv_iload hx hb dX12_tellHere_328 (lv_at hl 2 rfl) ?_
  refine lv_iconst (v := 0) hx hb dX12_tellHere_330 (by decide) ?_
  obtain ⟨⟨r1, F1, G1⟩, hc, hm⟩ := bind_elim hm
  refine mcallI (n := 3) (As := [.int 2, .int x4, .int 0]) (rest := []) C hw (mk_step l v a _ fu 2 x4 0 F G r1 F1 G1 hc) (mrecv_X12 C hw) mm_203 mm_204 mm_205 mm_27 mm_206 (by decide +kernel) rfl (by omega) (by omega) hl.1 rfl (Nat.le_of_ble_eq_true rfl) dX12_tellHere_331 (fun H locs hw => ?_)
  exact mw_tellHere_334 fu C hret x3 x4 r1 F1 G1 hm hw (lv_sub hl [0, 1, 2] rfl)
theorem mw_tellHere_316 (fu : Nat) {res : Int32 × PF × PG} (C : mMC p R s m args c A v RX12 cX12_tellHere 6 306 18131) (hret : ∀ (H1 : Heap) (locs1 : List Loc) (ls1 : Array Slot) (pc : Nat), mMW s A v a res.2.1 res.2.2 H1 locs1 → narrow .boolean (.int res.1) = .int res.1 → decode cX12_tellHere pc = .ok (.ireturn, 1) → W p l e R s m args below meth c H1 locs1 0 0 Q (F0 m pc ls1 [.int res.1])) (x3 : Int32) (x4 : Int32) (z0 : Int32) (F : PF) (G : PG) (hm : mb_tellHere_316 fu x3 x4 z0 F G = some res) {H : Heap} {locs : List Loc} (hw : mMW s A v a F G H locs) {ls : Array Slot} (hl : lv_has ls 6 [(0, .ref (a 212)), (3, .int x3), (4, .int x4)]) : W p l e R s m args below meth c H locs 0 0 Q (F0 m 316 ls [.int z0]) := by
  have hx := C.1
  have hb := C.2.1
  unfold mb_tellHere_316 at hm
  refine lv_pop hx hb dX12_tellHere_316 rfl ?_
  refine lv_goto (tgt := 326) hx hb dX12_tellHere_317 (by decide) ?_
  exact mw_tellHere_326 fu C hret x3 x4 F G hm hw (lv_sub hl [0, 1, 2] rfl)
theorem mw_tellHere_309 (fu : Nat) {res : Int32 × PF × PG} (C : mMC p R s m args c A v RX12 cX12_tellHere 6 306 18131) (hret : ∀ (H1 : Heap) (locs1 : List Loc) (ls1 : Array Slot) (pc : Nat), mMW s A v a res.2.1 res.2.2 H1 locs1 → narrow .boolean (.int res.1) = .int res.1 → decode cX12_tellHere pc = .ok (.ireturn, 1) → W p l e R s m args below meth c H1 locs1 0 0 Q (F0 m pc ls1 [.int res.1])) (x3 : Int32) (x4 : Int32) (F : PF) (G : PG) (hm : mb_tellHere_309 fu x3 x4 F G = some res) {H : Heap} {locs : List Loc} (hw : mMW s A v a F G H locs) {ls : Array Slot} (hl : lv_has ls 6 [(0, .ref (a 212)), (3, .int x3), (4, .int x4)]) : W p l e R s m args below meth c H locs 0 0 Q (F0 m 309 ls []) := by
  have hx := C.1
  have hb := C.2.1
  unfold mb_tellHere_309 at hm
  refine lv_aload_n hx hb dX12_tellHere_309 rfl (lv_at hl 0 rfl) ?_
  refine lv_iconst (v := 0) hx hb dX12_tellHere_310 (by decide) ?_
  refine lv_iconst (v := 0) hx hb dX12_tellHere_311 (by decide) ?_
  refine lv_iconst (v := 0) hx hb dX12_tellHere_312 (by decide) ?_
  obtain ⟨⟨r1, F1, G1⟩, hc, hm⟩ := bind_elim hm
  refine mcallI (n := 3) (As := [.int 0, .int 0, .int 0]) (rest := []) C hw (mk_step l v a _ fu 0 0 0 F G r1 F1 G1 hc) (mrecv_X12 C hw) mm_203 mm_204 mm_205 mm_27 mm_206 (by decide +kernel) rfl (by omega) (by omega) hl.1 rfl (Nat.le_of_ble_eq_true rfl) dX12_tellHere_313 (fun H locs hw => ?_)
  exact mw_tellHere_316 fu C hret x3 x4 r1 F1 G1 hm hw (lv_sub hl [0, 1, 2] rfl)
theorem mw_tellHere_305 (fu : Nat) {res : Int32 × PF × PG} (C : mMC p R s m args c A v RX12 cX12_tellHere 6 306 18131) (hret : ∀ (H1 : Heap) (locs1 : List Loc) (ls1 : Array Slot) (pc : Nat), mMW s A v a res.2.1 res.2.2 H1 locs1 → narrow .boolean (.int res.1) = .int res.1 → decode cX12_tellHere pc = .ok (.ireturn, 1) → W p l e R s m args below meth c H1 locs1 0 0 Q (F0 m pc ls1 [.int res.1])) (x1 : Int32) (x3 : Int32) (x4 : Int32) (F : PF) (G : PG) (hm : mb_tellHere_305 fu x1 x3 x4 F G = some res) {H : Heap} {locs : List Loc} (hw : mMW s A v a F G H locs) {ls : Array Slot} (hl : lv_has ls 6 [(0, .ref (a 212)), (1, .int x1), (3, .int x3), (4, .int x4)]) : W p l e R s m args below meth c H locs 0 0 Q (F0 m 305 ls []) := by
  have hx := C.1
  have hb := C.2.1
  unfold mb_tellHere_305 at hm
  refine lv_iload_n hx hb dX12_tellHere_305 rfl (lv_at hl 1 rfl) ?_
  refine lv_if_eq (tgt := 320) hx hb dX12_tellHere_306 (by decide) (fun c_1 => ?_) (fun c_1 => ?_)
  · have hm := (if_pos c_1).symm.trans hm
    exact mw_tellHere_320 fu C hret F G hm hw (lv_sub hl [0] rfl)
  · have hm := (if_neg c_1).symm.trans hm
    exact mw_tellHere_309 fu C hret x3 x4 F G hm hw (lv_sub hl [0, 2, 3] rfl)
theorem mw_tellHere_303 (fu : Nat) {res : Int32 × PF × PG} (C : mMC p R s m args c A v RX12 cX12_tellHere 6 306 18131) (hret : ∀ (H1 : Heap) (locs1 : List Loc) (ls1 : Array Slot) (pc : Nat), mMW s A v a res.2.1 res.2.2 H1 locs1 → narrow .boolean (.int res.1) = .int res.1 → decode cX12_tellHere pc = .ok (.ireturn, 1) → W p l e R s m args below meth c H1 locs1 0 0 Q (F0 m pc ls1 [.int res.1])) (F : PF) (G : PG) (hm : mb_tellHere_303 fu F G = some res) {H : Heap} {locs : List Loc} (hw : mMW s A v a F G H locs) {ls : Array Slot} (hl : lv_has ls 6 []) : W p l e R s m args below meth c H locs 0 0 Q (F0 m 303 ls []) := by
  have hx := C.1
  have hb := C.2.1
  unfold mb_tellHere_303 at hm
  refine lv_iconst (v := 0) hx hb dX12_tellHere_303 (by decide) ?_
  obtain rfl := Option.some.inj hm
  exact hret _ _ _ _ hw (b01_nar (v := 0) (Or.inl rfl)) dX12_tellHere_304
theorem mw_tellHere_300 (fu : Nat) {res : Int32 × PF × PG} (C : mMC p R s m args c A v RX12 cX12_tellHere 6 306 18131) (hret : ∀ (H1 : Heap) (locs1 : List Loc) (ls1 : Array Slot) (pc : Nat), mMW s A v a res.2.1 res.2.2 H1 locs1 → narrow .boolean (.int res.1) = .int res.1 → decode cX12_tellHere pc = .ok (.ireturn, 1) → W p l e R s m args below meth c H1 locs1 0 0 Q (F0 m pc ls1 [.int res.1])) (x3 : Int32) (x4 : Int32) (z0 : Int32) (F : PF) (G : PG) (hm : mb_tellHere_300 fu x3 x4 z0 F G = some res) {H : Heap} {locs : List Loc} (hw : mMW s A v a F G H locs) {ls : Array Slot} (hl : lv_has ls 6 [(0, .ref (a 212)), (3, .int x3), (4, .int x4)]) : W p l e R s m args below meth c H locs 0 0 Q (F0 m 300 ls [.int z0]) := by
  have hx := C.1
  have hb := C.2.1
  unfold mb_tellHere_300 at hm
  refine lv_if_ne (tgt := 326) hx hb dX12_tellHere_300 (by decide) (fun c_1 => ?_) (fun c_1 => ?_)
  · have hm := (if_neg c_1).symm.trans hm
    exact mw_tellHere_326 fu C hret x3 x4 F G hm hw (lv_sub hl [0, 1, 2] rfl)
  · have hm := (if_pos c_1).symm.trans hm
    exact mw_tellHere_303 fu C hret F G hm hw (lv_sub hl [] rfl)
theorem mw_tellHere_296 (fu : Nat) {res : Int32 × PF × PG} (C : mMC p R s m args c A v RX12 cX12_tellHere 6 306 18131) (hret : ∀ (H1 : Heap) (locs1 : List Loc) (ls1 : Array Slot) (pc : Nat), mMW s A v a res.2.1 res.2.2 H1 locs1 → narrow .boolean (.int res.1) = .int res.1 → decode cX12_tellHere pc = .ok (.ireturn, 1) → W p l e R s m args below meth c H1 locs1 0 0 Q (F0 m pc ls1 [.int res.1])) (x3 : Int32) (x4 : Int32) (F : PF) (G : PG) (hm : mb_tellHere_296 fu x3 x4 F G = some res) {H : Heap} {locs : List Loc} (hw : mMW s A v a F G H locs) {ls : Array Slot} (hl : lv_has ls 6 [(0, .ref (a 212)), (3, .int x3), (4, .int x4)]) : W p l e R s m args below meth c H locs 0 0 Q (F0 m 296 ls []) := by
  have hx := C.1
  have hb := C.2.1
  unfold mb_tellHere_296 at hm
  refine lv_aload_n hx hb dX12_tellHere_296 rfl (lv_at hl 0 rfl) ?_
  obtain ⟨⟨r1, F1, G1⟩, hc, hm⟩ := bind_elim hm
  refine mcallI (n := 0) (As := []) (rest := []) C hw (mk_expression l v a _ fu F G r1 F1 G1 hc) (mrecv_X12 C hw) mm_191 mm_192 mm_193 mm_27 mm_194 (by decide +kernel) rfl (by omega) (by omega) hl.1 rfl (Nat.le_of_ble_eq_true rfl) dX12_tellHere_297 (fun H locs hw => ?_)
  exact mw_tellHere_300 fu C hret x3 x4 r1 F1 G1 hm hw (lv_sub hl [0, 1, 2] rfl)
theorem mw_tellHere_286 (fu : Nat) {res : Int32 × PF × PG} (C : mMC p R s m args c A v RX12 cX12_tellHere 6 306 18131) (hret : ∀ (H1 : Heap) (locs1 : List Loc) (ls1 : Array Slot) (pc : Nat), mMW s A v a res.2.1 res.2.2 H1 locs1 → narrow .boolean (.int res.1) = .int res.1 → decode cX12_tellHere pc = .ok (.ireturn, 1) → W p l e R s m args below meth c H1 locs1 0 0 Q (F0 m pc ls1 [.int res.1])) (x3 : Int32) (x4 : Int32) (F : PF) (G : PG) (hm : mb_tellHere_286 fu x3 x4 F G = some res) {H : Heap} {locs : List Loc} (hw : mMW s A v a F G H locs) {ls : Array Slot} (hl : lv_has ls 6 [(0, .ref (a 212)), (3, .int x3), (4, .int x4)]) : W p l e R s m args below meth c H locs 0 0 Q (F0 m 286 ls []) := by
  have hx := C.1
  have hb := C.2.1
  unfold mb_tellHere_286 at hm
  refine lv_aload_n hx hb dX12_tellHere_286 rfl (lv_at hl 0 rfl) ?_
  refine lv_dup hx hb dX12_tellHere_287 rfl ?_
  refine mg_X12_233 C hw dX12_tellHere_288 ?_
  refine lv_iconst (v := 1) hx hb dX12_tellHere_291 (by decide) ?_
  refine lv_iadd hx hb dX12_tellHere_292 ?_
  refine mp_X12_233 C hw dX12_tellHere_293 (fun H locs hw => ?_)
  exact mw_tellHere_296 fu C hret x3 x4 (fup F 42 ((F 42) + (1 : Int32))) G hm hw (lv_sub hl [0, 1, 2] rfl)
theorem mw_tellHere_283 (fu : Nat) {res : Int32 × PF × PG} (C : mMC p R s m args c A v RX12 cX12_tellHere 6 306 18131) (hret : ∀ (H1 : Heap) (locs1 : List Loc) (ls1 : Array Slot) (pc : Nat), mMW s A v a res.2.1 res.2.2 H1 locs1 → narrow .boolean (.int res.1) = .int res.1 → decode cX12_tellHere pc = .ok (.ireturn, 1) → W p l e R s m args below meth c H1 locs1 0 0 Q (F0 m pc ls1 [.int res.1])) (x1 : Int32) (x3 : Int32) (x4 : Int32) (z0 : Int32) (F : PF) (G : PG) (hm : mb_tellHere_283 fu x1 x3 x4 z0 F G = some res) {H : Heap} {locs : List Loc} (hw : mMW s A v a F G H locs) {ls : Array Slot} (hl : lv_has ls 6 [(0, .ref (a 212)), (1, .int x1), (3, .int x3), (4, .int x4)]) : W p l e R s m args below meth c H locs 0 0 Q (F0 m 283 ls [.int z0]) := by
  have hx := C.1
  have hb := C.2.1
  unfold mb_tellHere_283 at hm
  refine lv_if_eq (tgt := 305) hx hb dX12_tellHere_283 (by decide) (fun c_1 => ?_) (fun c_1 => ?_)
  · have hm := (if_pos c_1).symm.trans hm
    exact mw_tellHere_305 fu C hret x1 x3 x4 F G hm hw (lv_sub hl [0, 1, 2, 3] rfl)
  · have hm := (if_neg c_1).symm.trans hm
    exact mw_tellHere_286 fu C hret x3 x4 F G hm hw (lv_sub hl [0, 2, 3] rfl)
theorem mw_tellHere_277 (fu : Nat) {res : Int32 × PF × PG} (C : mMC p R s m args c A v RX12 cX12_tellHere 6 306 18131) (hret : ∀ (H1 : Heap) (locs1 : List Loc) (ls1 : Array Slot) (pc : Nat), mMW s A v a res.2.1 res.2.2 H1 locs1 → narrow .boolean (.int res.1) = .int res.1 → decode cX12_tellHere pc = .ok (.ireturn, 1) → W p l e R s m args below meth c H1 locs1 0 0 Q (F0 m pc ls1 [.int res.1])) (x1 : Int32) (x3 : Int32) (x4 : Int32) (F : PF) (G : PG) (hm : mb_tellHere_277 fu x1 x3 x4 F G = some res) {H : Heap} {locs : List Loc} (hw : mMW s A v a F G H locs) {ls : Array Slot} (hl : lv_has ls 6 [(0, .ref (a 212)), (1, .int x1), (3, .int x3), (4, .int x4)]) : W p l e R s m args below meth c H locs 0 0 Q (F0 m 277 ls []) := by
  have hx := C.1
  have hb := C.2.1
  unfold mb_tellHere_277 at hm
  refine lv_aload_n hx hb dX12_tellHere_277 rfl (lv_at hl 0 rfl) ?_
  refine lv_bipush (v := 32) hx hb dX12_tellHere_278 (by decide) ?_
  obtain ⟨⟨r1, F1, G1⟩, hc, hm⟩ := bind_elim hm
  refine mcallI (n := 1) (As := [.int 32]) (rest := []) C hw (mk_isSign l v a _ fu 32 F G r1 F1 G1 hc) (mrecv_X12 C hw) mm_183 mm_184 mm_185 mm_27 mm_186 (by decide +kernel) rfl (by omega) (by omega) hl.1 rfl (Nat.le_of_ble_eq_true rfl) dX12_tellHere_280 (fun H locs hw => ?_)
  exact mw_tellHere_283 fu C hret x1 x3 x4 r1 F1 G1 hm hw (lv_sub hl [0, 1, 2, 3] rfl)
theorem mw_tellHere_273 (fu : Nat) {res : Int32 × PF × PG} (C : mMC p R s m args c A v RX12 cX12_tellHere 6 306 18131) (hret : ∀ (H1 : Heap) (locs1 : List Loc) (ls1 : Array Slot) (pc : Nat), mMW s A v a res.2.1 res.2.2 H1 locs1 → narrow .boolean (.int res.1) = .int res.1 → decode cX12_tellHere pc = .ok (.ireturn, 1) → W p l e R s m args below meth c H1 locs1 0 0 Q (F0 m pc ls1 [.int res.1])) (x1 : Int32) (x3 : Int32) (x4 : Int32) (z0 : Int32) (z1 : Int32) (F : PF) (G : PG) (hm : mb_tellHere_273 fu x1 x3 x4 z0 z1 F G = some res) {H : Heap} {locs : List Loc} (hw : mMW s A v a F G H locs) {ls : Array Slot} (hl : lv_has ls 6 [(0, .ref (a 212)), (1, .int x1), (3, .int x3), (4, .int x4)]) : W p l e R s m args below meth c H locs 0 0 Q (F0 m 273 ls [.int z0, .int z1, .ref (a 212)]) := by
  have hx := C.1
  have hb := C.2.1
  unfold mb_tellHere_273 at hm
  refine lv_iadd hx hb dX12_tellHere_273 ?_
  refine mp_X12_386 C hw dX12_tellHere_274 (fun H locs hw => ?_)
  exact mw_tellHere_277 fu C hret x1 x3 x4 (fup F 53 (z1 + z0)) G hm hw (lv_sub hl [0, 1, 2, 3] rfl)
theorem mw_tellHere_272 (fu : Nat) {res : Int32 × PF × PG} (C : mMC p R s m args c A v RX12 cX12_tellHere 6 306 18131) (hret : ∀ (H1 : Heap) (locs1 : List Loc) (ls1 : Array Slot) (pc : Nat), mMW s A v a res.2.1 res.2.2 H1 locs1 → narrow .boolean (.int res.1) = .int res.1 → decode cX12_tellHere pc = .ok (.ireturn, 1) → W p l e R s m args below meth c H1 locs1 0 0 Q (F0 m pc ls1 [.int res.1])) (x1 : Int32) (x3 : Int32) (x4 : Int32) (z0 : Int32) (F : PF) (G : PG) (hm : mb_tellHere_272 fu x1 x3 x4 z0 F G = some res) {H : Heap} {locs : List Loc} (hw : mMW s A v a F G H locs) {ls : Array Slot} (hl : lv_has ls 6 [(0, .ref (a 212)), (1, .int x1), (3, .int x3), (4, .int x4)]) : W p l e R s m args below meth c H locs 0 0 Q (F0 m 272 ls [.int z0, .ref (a 212)]) := by
  have hx := C.1
  have hb := C.2.1
  unfold mb_tellHere_272 at hm
  refine lv_iconst (v := 1) hx hb dX12_tellHere_272 (by decide) ?_
  exact mw_tellHere_273 fu C hret x1 x3 x4 1 z0 F G hm hw (lv_sub hl [0, 1, 2, 3] rfl)
theorem mw_tellHere_268 (fu : Nat) {res : Int32 × PF × PG} (C : mMC p R s m args c A v RX12 cX12_tellHere 6 306 18131) (hret : ∀ (H1 : Heap) (locs1 : List Loc) (ls1 : Array Slot) (pc : Nat), mMW s A v a res.2.1 res.2.2 H1 locs1 → narrow .boolean (.int res.1) = .int res.1 → decode cX12_tellHere pc = .ok (.ireturn, 1) → W p l e R s m args below meth c H1 locs1 0 0 Q (F0 m pc ls1 [.int res.1])) (x1 : Int32) (x3 : Int32) (x4 : Int32) (z0 : Int32) (F : PF) (G : PG) (hm : mb_tellHere_268 fu x1 x3 x4 z0 F G = some res) {H : Heap} {locs : List Loc} (hw : mMW s A v a F G H locs) {ls : Array Slot} (hl : lv_has ls 6 [(0, .ref (a 212)), (1, .int x1), (3, .int x3), (4, .int x4)]) : W p l e R s m args below meth c H locs 0 0 Q (F0 m 268 ls [.int z0, .ref (a 212)]) := by
  have hx := C.1
  have hb := C.2.1
  unfold mb_tellHere_268 at hm
  refine lv_iconst (v := 0) hx hb dX12_tellHere_268 (by decide) ?_
  refine lv_goto (tgt := 273) hx hb dX12_tellHere_269 (by decide) ?_
  exact mw_tellHere_273 fu C hret x1 x3 x4 0 z0 F G hm hw (lv_sub hl [0, 1, 2, 3] rfl)
theorem mw_tellHere_247 (fu : Nat) {res : Int32 × PF × PG} (C : mMC p R s m args c A v RX12 cX12_tellHere 6 306 18131) (hret : ∀ (H1 : Heap) (locs1 : List Loc) (ls1 : Array Slot) (pc : Nat), mMW s A v a res.2.1 res.2.2 H1 locs1 → narrow .boolean (.int res.1) = .int res.1 → decode cX12_tellHere pc = .ok (.ireturn, 1) → W p l e R s m args below meth c H1 locs1 0 0 Q (F0 m pc ls1 [.int res.1])) (x1 : Int32) (x3 : Int32) (F : PF) (G : PG) (hm : mb_tellHere_247 fu x1 x3 F G = some res) {H : Heap} {locs : List Loc} (hw : mMW s A v a F G H locs) {ls : Array Slot} (hl : lv_has ls 6 [(0, .ref (a 212)), (1, .int x1), (3, .int x3)]) : W p l e R s m args below meth c H locs 0 0 Q (F0 m 247 ls []) := by
  have hx := C.1
  have hb := C.2.1
  unfold mb_tellHere_247 at hm
  refine lv_aload_n hx hb dX12_tellHere_247 rfl (lv_at hl 0 rfl) ?_
  refine mg_X12_386 C hw dX12_tellHere_248 ?_
  refine lv_istore (lv' := [(4, .int (F 53)), (0, .ref (a 212)), (1, .int x1), (3, .int x3)]) hx hb dX12_tellHere_251 hl (by decide) rfl (fun ls hl => ?_)
  refine lv_aload_n hx hb dX12_tellHere_253 rfl (lv_at hl 1 rfl) ?_
  refine lv_dup hx hb dX12_tellHere_254 rfl ?_
  refine mg_X12_386 C hw dX12_tellHere_255 ?_
  refine lv_aload_n hx hb dX12_tellHere_258 rfl (lv_at hl 1 rfl) ?_
  refine mg_X12_383 C hw dX12_tellHere_259 ?_
  refine lv_sipush (v := 200) hx hb dX12_tellHere_262 (by decide) ?_
  refine lv_icmp_le (tgt := 272) hx hb dX12_tellHere_265 (by decide) (fun c_1 => ?_) (fun c_1 => ?_)
  · have hm := (if_pos c_1).symm.trans hm
    exact mw_tellHere_272 fu C hret x1 x3 (F 53) (F 53) F G hm hw (lv_sub hl [1, 2, 3, 0] rfl)
  · have hm := (if_neg c_1).symm.trans hm
    exact mw_tellHere_268 fu C hret x1 x3 (F 53) (F 53) F G hm hw (lv_sub hl [1, 2, 3, 0] rfl)
theorem mw_tellHere_235 (fu : Nat) {res : Int32 × PF × PG} (C : mMC p R s m args c A v RX12 cX12_tellHere 6 306 18131) (hret : ∀ (H1 : Heap) (locs1 : List Loc) (ls1 : Array Slot) (pc : Nat), mMW s A v a res.2.1 res.2.2 H1 locs1 → narrow .boolean (.int res.1) = .int res.1 → decode cX12_tellHere pc = .ok (.ireturn, 1) → W p l e R s m args below meth c H1 locs1 0 0 Q (F0 m pc ls1 [.int res.1])) (x1 : Int32) (x3 : Int32) (F : PF) (G : PG) (hm : mb_tellHere_235 fu x1 x3 F G = some res) {H : Heap} {locs : List Loc} (hw : mMW s A v a F G H locs) {ls : Array Slot} (hl : lv_has ls 6 [(0, .ref (a 212)), (1, .int x1), (3, .int x3)]) : W p l e R s m args below meth c H locs 0 0 Q (F0 m 235 ls []) := by
  have hx := C.1
  have hb := C.2.1
  unfold mb_tellHere_235 at hm
  refine lv_aload_n hx hb dX12_tellHere_235 rfl (lv_at hl 0 rfl) ?_
  refine lv_bipush (v := 11) hx hb dX12_tellHere_236 (by decide) ?_
  refine lv_aload_n hx hb dX12_tellHere_238 rfl (lv_at hl 0 rfl) ?_
  refine mg_X12_22 C hw dX12_tellHere_239 ?_
  refine lv_iload_n hx hb dX12_tellHere_242 rfl (lv_at hl 2 rfl) ?_
  obtain ⟨hi, hm⟩ := ix_elim hm
  refine mal_6 C hw hi dX12_tellHere_243 ?_
  obtain ⟨⟨r1, F1, G1⟩, hc, hm⟩ := bind_elim hm
  refine mcallV (n := 2) (As := [.int 11, .int (G 6 x3.toNatClampNeg)]) (rest := []) C hw (mk_note l v a _ fu 11 (G 6 x3.toNatClampNeg) F G r1 F1 G1 hc) (mrecv_X12 C hw) mm_220 mm_221 mm_222 mm_27 mm_223 (by decide +kernel) rfl (by omega) (by omega) hl.1 rfl (Nat.le_of_ble_eq_true rfl) dX12_tellHere_244 (fun H locs hw => ?_)
  exact mw_tellHere_247 fu C hret x1 x3 F1 G1 hm hw (lv_sub hl [0, 1, 2] rfl)
theorem mw_tellHere_225 (fu : Nat) {res : Int32 × PF × PG} (C : mMC p R s m args c A v RX12 cX12_tellHere 6 306 18131) (hret : ∀ (H1 : Heap) (locs1 : List Loc) (ls1 : Array Slot) (pc : Nat), mMW s A v a res.2.1 res.2.2 H1 locs1 → narrow .boolean (.int res.1) = .int res.1 → decode cX12_tellHere pc = .ok (.ireturn, 1) → W p l e R s m args below meth c H1 locs1 0 0 Q (F0 m pc ls1 [.int res.1])) (x1 : Int32) (x3 : Int32) (F : PF) (G : PG) (hm : mb_tellHere_225 fu x1 x3 F G = some res) {H : Heap} {locs : List Loc} (hw : mMW s A v a F G H locs) {ls : Array Slot} (hl : lv_has ls 6 [(0, .ref (a 212)), (1, .int x1), (3, .int x3)]) : W p l e R s m args below meth c H locs 0 0 Q (F0 m 225 ls []) := by
  have hx := C.1
  have hb := C.2.1
  unfold mb_tellHere_225 at hm
  refine lv_aload_n hx hb dX12_tellHere_225 rfl (lv_at hl 0 rfl) ?_
  refine mg_X12_383 C hw dX12_tellHere_226 ?_
  refine lv_sipush (v := 200) hx hb dX12_tellHere_229 (by decide) ?_
  refine lv_icmp_le (tgt := 247) hx hb dX12_tellHere_232 (by decide) (fun c_1 => ?_) (fun c_1 => ?_)
  · have hm := (if_pos c_1).symm.trans hm
    exact mw_tellHere_247 fu C hret x1 x3 F G hm hw (lv_sub hl [0, 1, 2] rfl)
  · have hm := (if_neg c_1).symm.trans hm
    exact mw_tellHere_235 fu C hret x1 x3 F G hm hw (lv_sub hl [0, 1, 2] rfl)
theorem mw_tellHere_215 (fu : Nat) {res : Int32 × PF × PG} (C : mMC p R s m args c A v RX12 cX12_tellHere 6 306 18131) (hret : ∀ (H1 : Heap) (locs1 : List Loc) (ls1 : Array Slot) (pc : Nat), mMW s A v a res.2.1 res.2.2 H1 locs1 → narrow .boolean (.int res.1) = .int res.1 → decode cX12_tellHere pc = .ok (.ireturn, 1) → W p l e R s m args below meth c H1 locs1 0 0 Q (F0 m pc ls1 [.int res.1])) (x1 : Int32) (x3 : Int32) (F : PF) (G : PG) (hm : mb_tellHere_215 fu x1 x3 F G = some res) {H : Heap} {locs : List Loc} (hw : mMW s A v a F G H locs) {ls : Array Slot} (hl : lv_has ls 6 [(0, .ref (a 212)), (1, .int x1), (3, .int x3)]) : W p l e R s m args below meth c H locs 0 0 Q (F0 m 215 ls []) := by
  have hx := C.1
  have hb := C.2.1
  unfold mb_tellHere_215 at hm
  refine lv_aload_n hx hb dX12_tellHere_215 rfl (lv_at hl 0 rfl) ?_
  refine lv_dup hx hb dX12_tellHere_216 rfl ?_
  refine mg_X12_383 C hw dX12_tellHere_217 ?_
  refine lv_iconst (v := 1) hx hb dX12_tellHere_220 (by decide) ?_
  refine lv_iadd hx hb dX12_tellHere_221 ?_
  refine mp_X12_383 C hw dX12_tellHere_222 (fun H locs hw => ?_)
  exact mw_tellHere_225 fu C hret x1 x3 (fup F 52 ((F 52) + (1 : Int32))) G hm hw (lv_sub hl [0, 1, 2] rfl)
theorem mw_tellHere_210 (fu : Nat) {res : Int32 × PF × PG} (C : mMC p R s m args c A v RX12 cX12_tellHere 6 306 18131) (hret : ∀ (H1 : Heap) (locs1 : List Loc) (ls1 : Array Slot) (pc : Nat), mMW s A v a res.2.1 res.2.2 H1 locs1 → narrow .boolean (.int res.1) = .int res.1 → decode cX12_tellHere pc = .ok (.ireturn, 1) → W p l e R s m args below meth c H1 locs1 0 0 Q (F0 m pc ls1 [.int res.1])) (x1 : Int32) (x3 : Int32) (F : PF) (G : PG) (hm : mb_tellHere_210 fu x1 x3 F G = some res) {H : Heap} {locs : List Loc} (hw : mMW s A v a F G H locs) {ls : Array Slot} (hl : lv_has ls 6 [(0, .ref (a 212)), (1, .int x1), (3, .int x3)]) : W p l e R s m args below meth c H locs 0 0 Q (F0 m 210 ls []) := by
  have hx := C.1
  have hb := C.2.1
  unfold mb_tellHere_210 at hm
  refine lv_aload_n hx hb dX12_tellHere_210 rfl (lv_at hl 0 rfl) ?_
  refine lv_iload_n hx hb dX12_tellHere_211 rfl (lv_at hl 2 rfl) ?_
  obtain ⟨⟨r1, F1, G1⟩, hc, hm⟩ := bind_elim hm
  refine mcallV (n := 1) (As := [.int x3]) (rest := []) C hw (mk_twice l v a _ fu x3 F G r1 F1 G1 hc) (mrecv_X12 C hw) mm_310 mm_311 mm_312 mm_27 mm_313 (by decide +kernel) rfl (by omega) (by omega) hl.1 rfl (Nat.le_of_ble_eq_true rfl) dX12_tellHere_212 (fun H locs hw => ?_)
  exact mw_tellHere_215 fu C hret x1 x3 F1 G1 hm hw (lv_sub hl [0, 1, 2] rfl)
theorem mw_tellHere_208 (fu : Nat) {res : Int32 × PF × PG} (C : mMC p R s m args c A v RX12 cX12_tellHere 6 306 18131) (hret : ∀ (H1 : Heap) (locs1 : List Loc) (ls1 : Array Slot) (pc : Nat), mMW s A v a res.2.1 res.2.2 H1 locs1 → narrow .boolean (.int res.1) = .int res.1 → decode cX12_tellHere pc = .ok (.ireturn, 1) → W p l e R s m args below meth c H1 locs1 0 0 Q (F0 m pc ls1 [.int res.1])) (F : PF) (G : PG) (hm : mb_tellHere_208 fu F G = some res) {H : Heap} {locs : List Loc} (hw : mMW s A v a F G H locs) {ls : Array Slot} (hl : lv_has ls 6 []) : W p l e R s m args below meth c H locs 0 0 Q (F0 m 208 ls []) := by
  have hx := C.1
  have hb := C.2.1
  unfold mb_tellHere_208 at hm
  refine lv_iconst (v := 1) hx hb dX12_tellHere_208 (by decide) ?_
  obtain rfl := Option.some.inj hm
  exact hret _ _ _ _ hw (b01_nar (v := 1) (Or.inr rfl)) dX12_tellHere_209
theorem mw_tellHere_197 (fu : Nat) {res : Int32 × PF × PG} (C : mMC p R s m args c A v RX12 cX12_tellHere 6 306 18131) (hret : ∀ (H1 : Heap) (locs1 : List Loc) (ls1 : Array Slot) (pc : Nat), mMW s A v a res.2.1 res.2.2 H1 locs1 → narrow .boolean (.int res.1) = .int res.1 → decode cX12_tellHere pc = .ok (.ireturn, 1) → W p l e R s m args below meth c H1 locs1 0 0 Q (F0 m pc ls1 [.int res.1])) (x5 : Int32) (F : PF) (G : PG) (hm : mb_tellHere_197 fu x5 F G = some res) {H : Heap} {locs : List Loc} (hw : mMW s A v a F G H locs) {ls : Array Slot} (hl : lv_has ls 6 [(0, .ref (a 212)), (5, .int x5)]) : W p l e R s m args below meth c H locs 0 0 Q (F0 m 197 ls []) := by
  have hx := C.1
  have hb := C.2.1
  unfold mb_tellHere_197 at hm
  refine lv_aload_n hx hb dX12_tellHere_197 rfl (lv_at hl 0 rfl) ?_
  refine lv_dup hx hb dX12_tellHere_198 rfl ?_
  refine mg_X12_386 C hw dX12_tellHere_199 ?_
  refine lv_iload hx hb dX12_tellHere_202 (lv_at hl 1 rfl) ?_
  refine lv_iadd hx hb dX12_tellHere_204 ?_
  refine mp_X12_386 C hw dX12_tellHere_205 (fun H locs hw => ?_)
  exact mw_tellHere_208 fu C hret (fup F 53 ((F 53) + x5)) G hm hw (lv_sub hl [] rfl)
theorem mw_tellHere_193 (fu : Nat) {res : Int32 × PF × PG} (C : mMC p R s m args c A v RX12 cX12_tellHere 6 306 18131) (hret : ∀ (H1 : Heap) (locs1 : List Loc) (ls1 : Array Slot) (pc : Nat), mMW s A v a res.2.1 res.2.2 H1 locs1 → narrow .boolean (.int res.1) = .int res.1 → decode cX12_tellHere pc = .ok (.ireturn, 1) → W p l e R s m args below meth c H1 locs1 0 0 Q (F0 m pc ls1 [.int res.1])) (x5 : Int32) (z0 : Int32) (z1 : Int32) (z2 : Int32) (z3 : Int32) (z4 : Int32) (F : PF) (G : PG) (hm : mb_tellHere_193 fu x5 z0 z1 z2 z3 z4 F G = some res) {H : Heap} {locs : List Loc} (hw : mMW s A v a F G H locs) {ls : Array Slot} (hl : lv_has ls 6 [(0, .ref (a 212)), (5, .int x5)]) : W p l e R s m args below meth c H locs 0 0 Q (F0 m 193 ls [.int z0, .int z1, .int z2, .int z3, .int z4, .ref (a 212)]) := by
  have hx := C.1
  have hb := C.2.1
  unfold mb_tellHere_193 at hm
  refine lv_iconst (v := 1) hx hb dX12_tellHere_193 (by decide) ?_
  obtain ⟨⟨r1, F1, G1⟩, hc, hm⟩ := bind_elim hm
  refine mcallV (n := 6) (As := [.int z4, .int z3, .int z2, .int z1, .int z0, .int 1]) (rest := []) C hw (mk_declare l v a _ fu z4 z3 z2 z1 z0 1 F G r1 F1 G1 hc) (mrecv_X12 C hw) mm_314 mm_315 mm_316 mm_27 mm_317 (by decide +kernel) rfl (by omega) (by omega) hl.1 rfl (Nat.le_of_ble_eq_true rfl) dX12_tellHere_194 (fun H locs hw => ?_)
  exact mw_tellHere_197 fu C hret x5 F1 G1 hm hw (lv_sub hl [0, 1] rfl)
theorem mw_tellHere_191 (fu : Nat) {res : Int32 × PF × PG} (C : mMC p R s m args c A v RX12 cX12_tellHere 6 306 18131) (hret : ∀ (H1 : Heap) (locs1 : List Loc) (ls1 : Array Slot) (pc : Nat), mMW s A v a res.2.1 res.2.2 H1 locs1 → narrow .boolean (.int res.1) = .int res.1 → decode cX12_tellHere pc = .ok (.ireturn, 1) → W p l e R s m args below meth c H1 locs1 0 0 Q (F0 m pc ls1 [.int res.1])) (x4 : Int32) (x5 : Int32) (z0 : Int32) (z1 : Int32) (z2 : Int32) (z3 : Int32) (F : PF) (G : PG) (hm : mb_tellHere_191 fu x4 x5 z0 z1 z2 z3 F G = some res) {H : Heap} {locs : List Loc} (hw : mMW s A v a F G H locs) {ls : Array Slot} (hl : lv_has ls 6 [(0, .ref (a 212)), (4, .int x4), (5, .int x5)]) : W p l e R s m args below meth c H locs 0 0 Q (F0 m 191 ls [.int z0, .int z1, .int z2, .int z3, .ref (a 212)]) := by
  have hx := C.1
  have hb := C.2.1
  unfold mb_tellHere_191 at hm
  refine lv_iload hx hb dX12_tellHere_191 (lv_at hl 1 rfl) ?_
  exact mw_tellHere_193 fu C hret x5 x4 z0 z1 z2 z3 F G hm hw (lv_sub hl [0, 2] rfl)
theorem mw_tellHere_187 (fu : Nat) {res : Int32 × PF × PG} (C : mMC p R s m args c A v RX12 cX12_tellHere 6 306 18131) (hret : ∀ (H1 : Heap) (locs1 : List Loc) (ls1 : Array Slot) (pc : Nat), mMW s A v a res.2.1 res.2.2 H1 locs1 → narrow .boolean (.int res.1) = .int res.1 → decode cX12_tellHere pc = .ok (.ireturn, 1) → W p l e R s m args below meth c H1 locs1 0 0 Q (F0 m pc ls1 [.int res.1])) (x5 : Int32) (z0 : Int32) (z1 : Int32) (z2 : Int32) (z3 : Int32) (F : PF) (G : PG) (hm : mb_tellHere_187 fu x5 z0 z1 z2 z3 F G = some res) {H : Heap} {locs : List Loc} (hw : mMW s A v a F G H locs) {ls : Array Slot} (hl : lv_has ls 6 [(0, .ref (a 212)), (5, .int x5)]) : W p l e R s m args below meth c H locs 0 0 Q (F0 m 187 ls [.int z0, .int z1, .int z2, .int z3, .ref (a 212)]) := by
  have hx := C.1
  have hb := C.2.1
  unfold mb_tellHere_187 at hm
  refine lv_iconst (v := 1) hx hb dX12_tellHere_187 (by decide) ?_
  refine lv_goto (tgt := 193) hx hb dX12_tellHere_188 (by decide) ?_
  exact mw_tellHere_193 fu C hret x5 1 z0 z1 z2 z3 F G hm hw (lv_sub hl [0, 1] rfl)
theorem mw_tellHere_172 (fu : Nat) {res : Int32 × PF × PG} (C : mMC p R s m args c A v RX12 cX12_tellHere 6 306 18131) (hret : ∀ (H1 : Heap) (locs1 : List Loc) (ls1 : Array Slot) (pc : Nat), mMW s A v a res.2.1 res.2.2 H1 locs1 → narrow .boolean (.int res.1) = .int res.1 → decode cX12_tellHere pc = .ok (.ireturn, 1) → W p l e R s m args below meth c H1 locs1 0 0 Q (F0 m pc ls1 [.int res.1])) (x2 : Int32) (x3 : Int32) (x4 : Int32) (x5 : Int32) (z0 : Int32) (F : PF) (G : PG) (hm : mb_tellHere_172 fu x2 x3 x4 x5 z0 F G = some res) {H : Heap} {locs : List Loc} (hw : mMW s A v a F G H locs) {ls : Array Slot} (hl : lv_has ls 6 [(0, .ref (a 212)), (2, .int x2), (3, .int x3), (4, .int x4), (5, .int x5)]) : W p l e R s m args below meth c H locs 0 0 Q (F0 m 172 ls [.int z0]) := by
  have hx := C.1
  have hb := C.2.1
  unfold mb_tellHere_172 at hm
  refine lv_pop hx hb dX12_tellHere_172 rfl ?_
  refine lv_aload_n hx hb dX12_tellHere_173 rfl (lv_at hl 0 rfl) ?_
  refine lv_iload_n hx hb dX12_tellHere_174 rfl (lv_at hl 2 rfl) ?_
  refine lv_iconst (v := 2) hx hb dX12_tellHere_175 (by decide) ?_
  refine lv_iload_n hx hb dX12_tellHere_176 rfl (lv_at hl 1 rfl) ?_
  refine lv_aload_n hx hb dX12_tellHere_177 rfl (lv_at hl 0 rfl) ?_
  refine mg_X12_386 C hw dX12_tellHere_178 ?_
  refine lv_iload hx hb dX12_tellHere_181 (lv_at hl 3 rfl) ?_
  refine lv_iconst (v := (-1)) hx hb dX12_tellHere_183 (by decide) ?_
  refine lv_icmp_ne (tgt := 191) hx hb dX12_tellHere_184 (by decide) (fun c_1 => ?_) (fun c_1 => ?_)
  · have hm := (if_neg c_1).symm.trans hm
    exact mw_tellHere_191 fu C hret x4 x5 (F 53) x2 2 x3 F G hm hw (lv_sub hl [0, 3, 4] rfl)
  · have hm := (if_pos c_1).symm.trans hm
    exact mw_tellHere_187 fu C hret x5 (F 53) x2 2 x3 F G hm hw (lv_sub hl [0, 4] rfl)
theorem mw_tellHere_158 (fu : Nat) {res : Int32 × PF × PG} (C : mMC p R s m args c A v RX12 cX12_tellHere 6 306 18131) (hret : ∀ (H1 : Heap) (locs1 : List Loc) (ls1 : Array Slot) (pc : Nat), mMW s A v a res.2.1 res.2.2 H1 locs1 → narrow .boolean (.int res.1) = .int res.1 → decode cX12_tellHere pc = .ok (.ireturn, 1) → W p l e R s m args below meth c H1 locs1 0 0 Q (F0 m pc ls1 [.int res.1])) (x2 : Int32) (x3 : Int32) (x4 : Int32) (z0 : Int32) (F : PF) (G : PG) (hm : mb_tellHere_158 fu x2 x3 x4 z0 F G = some res) {H : Heap} {locs : List Loc} (hw : mMW s A v a F G H locs) {ls : Array Slot} (hl : lv_has ls 6 [(0, .ref (a 212)), (2, .int x2), (3, .int x3), (4, .int x4)]) : W p l e R s m args below meth c H locs 0 0 Q (F0 m 158 ls [.int z0]) := by
  have hx := C.1
  have hb := C.2.1
  unfold mb_tellHere_158 at hm
  refine lv_istore (lv' := [(5, .int z0), (0, .ref (a 212)), (2, .int x2), (3, .int x3), (4, .int x4)]) hx hb dX12_tellHere_158 hl (by decide) rfl (fun ls hl => ?_)
  refine lv_aload_n hx hb dX12_tellHere_160 rfl (lv_at hl 1 rfl) ?_
  refine lv_bipush (v := 22) hx hb dX12_tellHere_161 (by decide) ?_
  refine lv_aload_n hx hb dX12_tellHere_163 rfl (lv_at hl 1 rfl) ?_
  refine mg_X12_386 C hw dX12_tellHere_164 ?_
  refine lv_iload hx hb dX12_tellHere_167 (lv_at hl 0 rfl) ?_
  obtain ⟨⟨r1, F1, G1⟩, hc, hm⟩ := bind_elim hm
  refine mcallI (n := 3) (As := [.int 22, .int (F 53), .int z0]) (rest := []) C hw (mk_step l v a _ fu 22 (F 53) z0 F G r1 F1 G1 hc) (mrecv_X12 C hw) mm_203 mm_204 mm_205 mm_27 mm_206 (by decide +kernel) rfl (by omega) (by omega) hl.1 rfl (Nat.le_of_ble_eq_true rfl) dX12_tellHere_169 (fun H locs hw => ?_)
  exact mw_tellHere_172 fu C hret x2 x3 x4 z0 r1 F1 G1 hm hw (lv_sub hl [1, 2, 3, 4, 0] rfl)
theorem mw_tellHere_152 (fu : Nat) {res : Int32 × PF × PG} (C : mMC p R s m args c A v RX12 cX12_tellHere 6 306 18131) (hret : ∀ (H1 : Heap) (locs1 : List Loc) (ls1 : Array Slot) (pc : Nat), mMW s A v a res.2.1 res.2.2 H1 locs1 → narrow .boolean (.int res.1) = .int res.1 → decode cX12_tellHere pc = .ok (.ireturn, 1) → W p l e R s m args below meth c H1 locs1 0 0 Q (F0 m pc ls1 [.int res.1])) (x2 : Int32) (x3 : Int32) (x4 : Int32) (F : PF) (G : PG) (hm : mb_tellHere_152 fu x2 x3 x4 F G = some res) {H : Heap} {locs : List Loc} (hw : mMW s A v a F G H locs) {ls : Array Slot} (hl : lv_has ls 6 [(0, .ref (a 212)), (2, .int x2), (3, .int x3), (4, .int x4)]) : W p l e R s m args below meth c H locs 0 0 Q (F0 m 152 ls []) := by
  have hx := C.1
  have hb := C.2.1
  unfold mb_tellHere_152 at hm
  refine lv_iconst (v := 0) hx hb dX12_tellHere_152 (by decide) ?_
  refine lv_goto (tgt := 158) hx hb dX12_tellHere_153 (by decide) ?_
  exact mw_tellHere_158 fu C hret x2 x3 x4 0 F G hm hw (lv_sub hl [0, 1, 2, 3] rfl)
theorem mw_tellHere_156 (fu : Nat) {res : Int32 × PF × PG} (C : mMC p R s m args c A v RX12 cX12_tellHere 6 306 18131) (hret : ∀ (H1 : Heap) (locs1 : List Loc) (ls1 : Array Slot) (pc : Nat), mMW s A v a res.2.1 res.2.2 H1 locs1 → narrow .boolean (.int res.1) = .int res.1 → decode cX12_tellHere pc = .ok (.ireturn, 1) → W p l e R s m args below meth c H1 locs1 0 0 Q (F0 m pc ls1 [.int res.1])) (x2 : Int32) (x3 : Int32) (x4 : Int32) (F : PF) (G : PG) (hm : mb_tellHere_156 fu x2 x3 x4 F G = some res) {H : Heap} {locs : List Loc} (hw : mMW s A v a F G H locs) {ls : Array Slot} (hl : lv_has ls 6 [(0, .ref (a 212)), (2, .int x2), (3, .int x3), (4, .int x4)]) : W p l e R s m args below meth c H locs 0 0 Q (F0 m 156 ls []) := by
  have hx := C.1
  have hb := C.2.1
  unfold mb_tellHere_156 at hm
  refine lv_iload hx hb dX12_tellHere_156 (lv_at hl 3 rfl) ?_
  exact mw_tellHere_158 fu C hret x2 x3 x4 x4 F G hm hw (lv_sub hl [0, 1, 2, 3] rfl)
theorem mw_tellHere_142 (fu : Nat) {res : Int32 × PF × PG} (C : mMC p R s m args c A v RX12 cX12_tellHere 6 306 18131) (hret : ∀ (H1 : Heap) (locs1 : List Loc) (ls1 : Array Slot) (pc : Nat), mMW s A v a res.2.1 res.2.2 H1 locs1 → narrow .boolean (.int res.1) = .int res.1 → decode cX12_tellHere pc = .ok (.ireturn, 1) → W p l e R s m args below meth c H1 locs1 0 0 Q (F0 m pc ls1 [.int res.1])) (x2 : Int32) (x3 : Int32) (x4 : Int32) (F : PF) (G : PG) (hm : mb_tellHere_142 fu x2 x3 x4 F G = some res) {H : Heap} {locs : List Loc} (hw : mMW s A v a F G H locs) {ls : Array Slot} (hl : lv_has ls 6 [(0, .ref (a 212)), (2, .int x2), (3, .int x3), (4, .int x4)]) : W p l e R s m args below meth c H locs 0 0 Q (F0 m 142 ls []) := by
  have hx := C.1
  have hb := C.2.1
  unfold mb_tellHere_142 at hm
  refine lv_aload_n hx hb dX12_tellHere_142 rfl (lv_at hl 0 rfl) ?_
  refine mg_X12_383 C hw dX12_tellHere_143 ?_
  refine lv_sipush (v := 200) hx hb dX12_tellHere_146 (by decide) ?_
  refine lv_icmp_le (tgt := 156) hx hb dX12_tellHere_149 (by decide) (fun c_1 => ?_) (fun c_1 => ?_)
  · have hm := (if_pos c_1).symm.trans hm
    exact mw_tellHere_156 fu C hret x2 x3 x4 F G hm hw (lv_sub hl [0, 1, 2, 3] rfl)
  · have hm := (if_neg c_1).symm.trans hm
    exact mw_tellHere_152 fu C hret x2 x3 x4 F G hm hw (lv_sub hl [0, 1, 2, 3] rfl)
theorem mw_tellHere_136 (fu : Nat) {res : Int32 × PF × PG} (C : mMC p R s m args c A v RX12 cX12_tellHere 6 306 18131) (hret : ∀ (H1 : Heap) (locs1 : List Loc) (ls1 : Array Slot) (pc : Nat), mMW s A v a res.2.1 res.2.2 H1 locs1 → narrow .boolean (.int res.1) = .int res.1 → decode cX12_tellHere pc = .ok (.ireturn, 1) → W p l e R s m args below meth c H1 locs1 0 0 Q (F0 m pc ls1 [.int res.1])) (x2 : Int32) (x3 : Int32) (x4 : Int32) (F : PF) (G : PG) (hm : mb_tellHere_136 fu x2 x3 x4 F G = some res) {H : Heap} {locs : List Loc} (hw : mMW s A v a F G H locs) {ls : Array Slot} (hl : lv_has ls 6 [(0, .ref (a 212)), (2, .int x2), (3, .int x3), (4, .int x4)]) : W p l e R s m args below meth c H locs 0 0 Q (F0 m 136 ls []) := by
  have hx := C.1
  have hb := C.2.1
  unfold mb_tellHere_136 at hm
  refine lv_iload hx hb dX12_tellHere_136 (lv_at hl 3 rfl) ?_
  refine lv_iconst (v := (-1)) hx hb dX12_tellHere_138 (by decide) ?_
  refine lv_icmp_eq (tgt := 152) hx hb dX12_tellHere_139 (by decide) (fun c_1 => ?_) (fun c_1 => ?_)
  · have hm := (if_pos c_1).symm.trans hm
    exact mw_tellHere_152 fu C hret x2 x3 x4 F G hm hw (lv_sub hl [0, 1, 2, 3] rfl)
  · have hm := (if_neg c_1).symm.trans hm
    exact mw_tellHere_142 fu C hret x2 x3 x4 F G hm hw (lv_sub hl [0, 1, 2, 3] rfl)
theorem mw_tellHere_124 (fu : Nat) {res : Int32 × PF × PG} (C : mMC p R s m args c A v RX12 cX12_tellHere 6 306 18131) (hret : ∀ (H1 : Heap) (locs1 : List Loc) (ls1 : Array Slot) (pc : Nat), mMW s A v a res.2.1 res.2.2 H1 locs1 → narrow .boolean (.int res.1) = .int res.1 → decode cX12_tellHere pc = .ok (.ireturn, 1) → W p l e R s m args below meth c H1 locs1 0 0 Q (F0 m pc ls1 [.int res.1])) (x2 : Int32) (x3 : Int32) (x4 : Int32) (F : PF) (G : PG) (hm : mb_tellHere_124 fu x2 x3 x4 F G = some res) {H : Heap} {locs : List Loc} (hw : mMW s A v a F G H locs) {ls : Array Slot} (hl : lv_has ls 6 [(0, .ref (a 212)), (2, .int x2), (3, .int x3), (4, .int x4)]) : W p l e R s m args below meth c H locs 0 0 Q (F0 m 124 ls []) := by
  have hx := C.1
  have hb := C.2.1
  unfold mb_tellHere_124 at hm
  refine lv_aload_n hx hb dX12_tellHere_124 rfl (lv_at hl 0 rfl) ?_
  refine lv_bipush (v := 11) hx hb dX12_tellHere_125 (by decide) ?_
  refine lv_aload_n hx hb dX12_tellHere_127 rfl (lv_at hl 0 rfl) ?_
  refine mg_X12_22 C hw dX12_tellHere_128 ?_
  refine lv_iload_n hx hb dX12_tellHere_131 rfl (lv_at hl 2 rfl) ?_
  obtain ⟨hi, hm⟩ := ix_elim hm
  refine mal_6 C hw hi dX12_tellHere_132 ?_
  obtain ⟨⟨r1, F1, G1⟩, hc, hm⟩ := bind_elim hm
  refine mcallV (n := 2) (As := [.int 11, .int (G 6 x3.toNatClampNeg)]) (rest := []) C hw (mk_note l v a _ fu 11 (G 6 x3.toNatClampNeg) F G r1 F1 G1 hc) (mrecv_X12 C hw) mm_220 mm_221 mm_222 mm_27 mm_223 (by decide +kernel) rfl (by omega) (by omega) hl.1 rfl (Nat.le_of_ble_eq_true rfl) dX12_tellHere_133 (fun H locs hw => ?_)
  exact mw_tellHere_136 fu C hret x2 x3 x4 F1 G1 hm hw (lv_sub hl [0, 1, 2, 3] rfl)
theorem mw_tellHere_114 (fu : Nat) {res : Int32 × PF × PG} (C : mMC p R s m args c A v RX12 cX12_tellHere 6 306 18131) (hret : ∀ (H1 : Heap) (locs1 : List Loc) (ls1 : Array Slot) (pc : Nat), mMW s A v a res.2.1 res.2.2 H1 locs1 → narrow .boolean (.int res.1) = .int res.1 → decode cX12_tellHere pc = .ok (.ireturn, 1) → W p l e R s m args below meth c H1 locs1 0 0 Q (F0 m pc ls1 [.int res.1])) (x2 : Int32) (x3 : Int32) (x4 : Int32) (F : PF) (G : PG) (hm : mb_tellHere_114 fu x2 x3 x4 F G = some res) {H : Heap} {locs : List Loc} (hw : mMW s A v a F G H locs) {ls : Array Slot} (hl : lv_has ls 6 [(0, .ref (a 212)), (2, .int x2), (3, .int x3), (4, .int x4)]) : W p l e R s m args below meth c H locs 0 0 Q (F0 m 114 ls []) := by
  have hx := C.1
  have hb := C.2.1
  unfold mb_tellHere_114 at hm
  refine lv_aload_n hx hb dX12_tellHere_114 rfl (lv_at hl 0 rfl) ?_
  refine mg_X12_383 C hw dX12_tellHere_115 ?_
  refine lv_sipush (v := 200) hx hb dX12_tellHere_118 (by decide) ?_
  refine lv_icmp_le (tgt := 136) hx hb dX12_tellHere_121 (by decide) (fun c_1 => ?_) (fun c_1 => ?_)
  · have hm := (if_pos c_1).symm.trans hm
    exact mw_tellHere_136 fu C hret x2 x3 x4 F G hm hw (lv_sub hl [0, 1, 2, 3] rfl)
  · have hm := (if_neg c_1).symm.trans hm
    exact mw_tellHere_124 fu C hret x2 x3 x4 F G hm hw (lv_sub hl [0, 1, 2, 3] rfl)
theorem mw_tellHere_110 (fu : Nat) {res : Int32 × PF × PG} (C : mMC p R s m args c A v RX12 cX12_tellHere 6 306 18131) (hret : ∀ (H1 : Heap) (locs1 : List Loc) (ls1 : Array Slot) (pc : Nat), mMW s A v a res.2.1 res.2.2 H1 locs1 → narrow .boolean (.int res.1) = .int res.1 → decode cX12_tellHere pc = .ok (.ireturn, 1) → W p l e R s m args below meth c H1 locs1 0 0 Q (F0 m pc ls1 [.int res.1])) (x2 : Int32) (x3 : Int32) (x4 : Int32) (z0 : Int32) (z1 : Int32) (F : PF) (G : PG) (hm : mb_tellHere_110 fu x2 x3 x4 z0 z1 F G = some res) {H : Heap} {locs : List Loc} (hw : mMW s A v a F G H locs) {ls : Array Slot} (hl : lv_has ls 6 [(0, .ref (a 212)), (2, .int x2), (3, .int x3), (4, .int x4)]) : W p l e R s m args below meth c H locs 0 0 Q (F0 m 110 ls [.int z0, .int z1, .ref (a 212)]) := by
  have hx := C.1
  have hb := C.2.1
  unfold mb_tellHere_110 at hm
  refine lv_iadd hx hb dX12_tellHere_110 ?_
  refine mp_X12_383 C hw dX12_tellHere_111 (fun H locs hw => ?_)
  exact mw_tellHere_114 fu C hret x2 x3 x4 (fup F 52 (z1 + z0)) G hm hw (lv_sub hl [0, 1, 2, 3] rfl)
theorem mw_tellHere_108 (fu : Nat) {res : Int32 × PF × PG} (C : mMC p R s m args c A v RX12 cX12_tellHere 6 306 18131) (hret : ∀ (H1 : Heap) (locs1 : List Loc) (ls1 : Array Slot) (pc : Nat), mMW s A v a res.2.1 res.2.2 H1 locs1 → narrow .boolean (.int res.1) = .int res.1 → decode cX12_tellHere pc = .ok (.ireturn, 1) → W p l e R s m args below meth c H1 locs1 0 0 Q (F0 m pc ls1 [.int res.1])) (x2 : Int32) (x3 : Int32) (x4 : Int32) (z0 : Int32) (F : PF) (G : PG) (hm : mb_tellHere_108 fu x2 x3 x4 z0 F G = some res) {H : Heap} {locs : List Loc} (hw : mMW s A v a F G H locs) {ls : Array Slot} (hl : lv_has ls 6 [(0, .ref (a 212)), (2, .int x2), (3, .int x3), (4, .int x4)]) : W p l e R s m args below meth c H locs 0 0 Q (F0 m 108 ls [.int z0, .ref (a 212)]) := by
  have hx := C.1
  have hb := C.2.1
  unfold mb_tellHere_108 at hm
  refine lv_iload hx hb dX12_tellHere_108 (lv_at hl 3 rfl) ?_
  exact mw_tellHere_110 fu C hret x2 x3 x4 x4 z0 F G hm hw (lv_sub hl [0, 1, 2, 3] rfl)
theorem mw_tellHere_99 (fu : Nat) {res : Int32 × PF × PG} (C : mMC p R s m args c A v RX12 cX12_tellHere 6 306 18131) (hret : ∀ (H1 : Heap) (locs1 : List Loc) (ls1 : Array Slot) (pc : Nat), mMW s A v a res.2.1 res.2.2 H1 locs1 → narrow .boolean (.int res.1) = .int res.1 → decode cX12_tellHere pc = .ok (.ireturn, 1) → W p l e R s m args below meth c H1 locs1 0 0 Q (F0 m pc ls1 [.int res.1])) (x2 : Int32) (x3 : Int32) (x4 : Int32) (z0 : Int32) (F : PF) (G : PG) (hm : mb_tellHere_99 fu x2 x3 x4 z0 F G = some res) {H : Heap} {locs : List Loc} (hw : mMW s A v a F G H locs) {ls : Array Slot} (hl : lv_has ls 6 [(0, .ref (a 212)), (2, .int x2), (3, .int x3), (4, .int x4)]) : W p l e R s m args below meth c H locs 0 0 Q (F0 m 99 ls [.int z0, .ref (a 212)]) := by
  have hx := C.1
  have hb := C.2.1
  unfold mb_tellHere_99 at hm
  refine lv_iload hx hb dX12_tellHere_99 (lv_at hl 3 rfl) ?_
  refine lv_iconst (v := 3) hx hb dX12_tellHere_101 (by decide) ?_
  refine lv_iadd hx hb dX12_tellHere_102 ?_
  refine lv_iconst (v := 4) hx hb dX12_tellHere_103 (by decide) ?_
  refine lv_idiv hx hb dX12_tellHere_104 (by decide) ?_
  refine lv_goto (tgt := 110) hx hb dX12_tellHere_105 (by decide) ?_
  exact mw_tellHere_110 fu C hret x2 x3 x4 ((x4 + (3 : Int32)) / (4 : Int32)) z0 F G hm hw (lv_sub hl [0, 1, 2, 3] rfl)
theorem mw_tellHere_95 (fu : Nat) {res : Int32 × PF × PG} (C : mMC p R s m args c A v RX12 cX12_tellHere 6 306 18131) (hret : ∀ (H1 : Heap) (locs1 : List Loc) (ls1 : Array Slot) (pc : Nat), mMW s A v a res.2.1 res.2.2 H1 locs1 → narrow .boolean (.int res.1) = .int res.1 → decode cX12_tellHere pc = .ok (.ireturn, 1) → W p l e R s m args below meth c H1 locs1 0 0 Q (F0 m pc ls1 [.int res.1])) (x2 : Int32) (x3 : Int32) (x4 : Int32) (z0 : Int32) (F : PF) (G : PG) (hm : mb_tellHere_95 fu x2 x3 x4 z0 F G = some res) {H : Heap} {locs : List Loc} (hw : mMW s A v a F G H locs) {ls : Array Slot} (hl : lv_has ls 6 [(0, .ref (a 212)), (2, .int x2), (3, .int x3), (4, .int x4)]) : W p l e R s m args below meth c H locs 0 0 Q (F0 m 95 ls [.int z0, .ref (a 212)]) := by
  have hx := C.1
  have hb := C.2.1
  unfold mb_tellHere_95 at hm
  refine lv_iload_n hx hb dX12_tellHere_95 rfl (lv_at hl 1 rfl) ?_
  refine lv_if_eq (tgt := 108) hx hb dX12_tellHere_96 (by decide) (fun c_1 => ?_) (fun c_1 => ?_)
  · have hm := (if_pos c_1).symm.trans hm
    exact mw_tellHere_108 fu C hret x2 x3 x4 z0 F G hm hw (lv_sub hl [0, 1, 2, 3] rfl)
  · have hm := (if_neg c_1).symm.trans hm
    exact mw_tellHere_99 fu C hret x2 x3 x4 z0 F G hm hw (lv_sub hl [0, 1, 2, 3] rfl)
theorem mw_tellHere_91 (fu : Nat) {res : Int32 × PF × PG} (C : mMC p R s m args c A v RX12 cX12_tellHere 6 306 18131) (hret : ∀ (H1 : Heap) (locs1 : List Loc) (ls1 : Array Slot) (pc : Nat), mMW s A v a res.2.1 res.2.2 H1 locs1 → narrow .boolean (.int res.1) = .int res.1 → decode cX12_tellHere pc = .ok (.ireturn, 1) → W p l e R s m args below meth c H1 locs1 0 0 Q (F0 m pc ls1 [.int res.1])) (x2 : Int32) (x3 : Int32) (x4 : Int32) (z0 : Int32) (F : PF) (G : PG) (hm : mb_tellHere_91 fu x2 x3 x4 z0 F G = some res) {H : Heap} {locs : List Loc} (hw : mMW s A v a F G H locs) {ls : Array Slot} (hl : lv_has ls 6 [(0, .ref (a 212)), (2, .int x2), (3, .int x3), (4, .int x4)]) : W p l e R s m args below meth c H locs 0 0 Q (F0 m 91 ls [.int z0, .ref (a 212)]) := by
  have hx := C.1
  have hb := C.2.1
  unfold mb_tellHere_91 at hm
  refine lv_iconst (v := 0) hx hb dX12_tellHere_91 (by decide) ?_
  refine lv_goto (tgt := 110) hx hb dX12_tellHere_92 (by decide) ?_
  exact mw_tellHere_110 fu C hret x2 x3 x4 0 z0 F G hm hw (lv_sub hl [0, 1, 2, 3] rfl)
theorem mw_tellHere_80 (fu : Nat) {res : Int32 × PF × PG} (C : mMC p R s m args c A v RX12 cX12_tellHere 6 306 18131) (hret : ∀ (H1 : Heap) (locs1 : List Loc) (ls1 : Array Slot) (pc : Nat), mMW s A v a res.2.1 res.2.2 H1 locs1 → narrow .boolean (.int res.1) = .int res.1 → decode cX12_tellHere pc = .ok (.ireturn, 1) → W p l e R s m args below meth c H1 locs1 0 0 Q (F0 m pc ls1 [.int res.1])) (x2 : Int32) (x3 : Int32) (x4 : Int32) (F : PF) (G : PG) (hm : mb_tellHere_80 fu x2 x3 x4 F G = some res) {H : Heap} {locs : List Loc} (hw : mMW s A v a F G H locs) {ls : Array Slot} (hl : lv_has ls 6 [(0, .ref (a 212)), (2, .int x2), (3, .int x3), (4, .int x4)]) : W p l e R s m args below meth c H locs 0 0 Q (F0 m 80 ls []) := by
  have hx := C.1
  have hb := C.2.1
  unfold mb_tellHere_80 at hm
  refine lv_aload_n hx hb dX12_tellHere_80 rfl (lv_at hl 0 rfl) ?_
  refine lv_dup hx hb dX12_tellHere_81 rfl ?_
  refine mg_X12_383 C hw dX12_tellHere_82 ?_
  refine lv_iload hx hb dX12_tellHere_85 (lv_at hl 3 rfl) ?_
  refine lv_iconst (v := (-1)) hx hb dX12_tellHere_87 (by decide) ?_
  refine lv_icmp_ne (tgt := 95) hx hb dX12_tellHere_88 (by decide) (fun c_1 => ?_) (fun c_1 => ?_)
  · have hm := (if_neg c_1).symm.trans hm
    exact mw_tellHere_95 fu C hret x2 x3 x4 (F 52) F G hm hw (lv_sub hl [0, 1, 2, 3] rfl)
  · have hm := (if_pos c_1).symm.trans hm
    exact mw_tellHere_91 fu C hret x2 x3 x4 (F 52) F G hm hw (lv_sub hl [0, 1, 2, 3] rfl)
theorem mw_tellHere_78 (fu : Nat) {res : Int32 × PF × PG} (C : mMC p R s m args c A v RX12 cX12_tellHere 6 306 18131) (hret : ∀ (H1 : Heap) (locs1 : List Loc) (ls1 : Array Slot) (pc : Nat), mMW s A v a res.2.1 res.2.2 H1 locs1 → narrow .boolean (.int res.1) = .int res.1 → decode cX12_tellHere pc = .ok (.ireturn, 1) → W p l e R s m args below meth c H1 locs1 0 0 Q (F0 m pc ls1 [.int res.1])) (F : PF) (G : PG) (hm : mb_tellHere_78 fu F G = some res) {H : Heap} {locs : List Loc} (hw : mMW s A v a F G H locs) {ls : Array Slot} (hl : lv_has ls 6 []) : W p l e R s m args below meth c H locs 0 0 Q (F0 m 78 ls []) := by
  have hx := C.1
  have hb := C.2.1
  unfold mb_tellHere_78 at hm
  refine lv_iconst (v := 0) hx hb dX12_tellHere_78 (by decide) ?_
  obtain rfl := Option.some.inj hm
  exact hret _ _ _ _ hw (b01_nar (v := 0) (Or.inl rfl)) dX12_tellHere_79
theorem mw_tellHere_75 (fu : Nat) {res : Int32 × PF × PG} (C : mMC p R s m args c A v RX12 cX12_tellHere 6 306 18131) (hret : ∀ (H1 : Heap) (locs1 : List Loc) (ls1 : Array Slot) (pc : Nat), mMW s A v a res.2.1 res.2.2 H1 locs1 → narrow .boolean (.int res.1) = .int res.1 → decode cX12_tellHere pc = .ok (.ireturn, 1) → W p l e R s m args below meth c H1 locs1 0 0 Q (F0 m pc ls1 [.int res.1])) (x2 : Int32) (x3 : Int32) (x4 : Int32) (z0 : Int32) (F : PF) (G : PG) (hm : mb_tellHere_75 fu x2 x3 x4 z0 F G = some res) {H : Heap} {locs : List Loc} (hw : mMW s A v a F G H locs) {ls : Array Slot} (hl : lv_has ls 6 [(0, .ref (a 212)), (2, .int x2), (3, .int x3), (4, .int x4)]) : W p l e R s m args below meth c H locs 0 0 Q (F0 m 75 ls [.int z0]) := by
  have hx := C.1
  have hb := C.2.1
  unfold mb_tellHere_75 at hm
  refine lv_if_ne (tgt := 80) hx hb dX12_tellHere_75 (by decide) (fun c_1 => ?_) (fun c_1 => ?_)
  · have hm := (if_neg c_1).symm.trans hm
    exact mw_tellHere_80 fu C hret x2 x3 x4 F G hm hw (lv_sub hl [0, 1, 2, 3] rfl)
  · have hm := (if_pos c_1).symm.trans hm
    exact mw_tellHere_78 fu C hret F G hm hw (lv_sub hl [] rfl)
theorem mw_tellHere_67 (fu : Nat) {res : Int32 × PF × PG} (C : mMC p R s m args c A v RX12 cX12_tellHere 6 306 18131) (hret : ∀ (H1 : Heap) (locs1 : List Loc) (ls1 : Array Slot) (pc : Nat), mMW s A v a res.2.1 res.2.2 H1 locs1 → narrow .boolean (.int res.1) = .int res.1 → decode cX12_tellHere pc = .ok (.ireturn, 1) → W p l e R s m args below meth c H1 locs1 0 0 Q (F0 m pc ls1 [.int res.1])) (x2 : Int32) (x3 : Int32) (z0 : Int32) (F : PF) (G : PG) (hm : mb_tellHere_67 fu x2 x3 z0 F G = some res) {H : Heap} {locs : List Loc} (hw : mMW s A v a F G H locs) {ls : Array Slot} (hl : lv_has ls 6 [(0, .ref (a 212)), (2, .int x2), (3, .int x3)]) : W p l e R s m args below meth c H locs 0 0 Q (F0 m 67 ls [.int z0]) := by
  have hx := C.1
  have hb := C.2.1
  unfold mb_tellHere_67 at hm
  refine lv_istore (lv' := [(4, .int z0), (0, .ref (a 212)), (2, .int x2), (3, .int x3)]) hx hb dX12_tellHere_67 hl (by decide) rfl (fun ls hl => ?_)
  refine lv_aload_n hx hb dX12_tellHere_69 rfl (lv_at hl 1 rfl) ?_
  refine lv_bipush (v := 25) hx hb dX12_tellHere_70 (by decide) ?_
  obtain ⟨⟨r1, F1, G1⟩, hc, hm⟩ := bind_elim hm
  refine mcallI (n := 1) (As := [.int 25]) (rest := []) C hw (mk_closeSign l v a _ fu 25 F G r1 F1 G1 hc) (mrecv_X12 C hw) mm_248 mm_249 mm_250 mm_27 mm_251 (by decide +kernel) rfl (by omega) (by omega) hl.1 rfl (Nat.le_of_ble_eq_true rfl) dX12_tellHere_72 (fun H locs hw => ?_)
  exact mw_tellHere_75 fu C hret x2 x3 z0 r1 F1 G1 hm hw (lv_sub hl [1, 2, 3, 0] rfl)
theorem mw_tellHere_63 (fu : Nat) {res : Int32 × PF × PG} (C : mMC p R s m args c A v RX12 cX12_tellHere 6 306 18131) (hret : ∀ (H1 : Heap) (locs1 : List Loc) (ls1 : Array Slot) (pc : Nat), mMW s A v a res.2.1 res.2.2 H1 locs1 → narrow .boolean (.int res.1) = .int res.1 → decode cX12_tellHere pc = .ok (.ireturn, 1) → W p l e R s m args below meth c H1 locs1 0 0 Q (F0 m pc ls1 [.int res.1])) (x2 : Int32) (x3 : Int32) (F : PF) (G : PG) (hm : mb_tellHere_63 fu x2 x3 F G = some res) {H : Heap} {locs : List Loc} (hw : mMW s A v a F G H locs) {ls : Array Slot} (hl : lv_has ls 6 [(0, .ref (a 212)), (2, .int x2), (3, .int x3)]) : W p l e R s m args below meth c H locs 0 0 Q (F0 m 63 ls []) := by
  have hx := C.1
  have hb := C.2.1
  unfold mb_tellHere_63 at hm
  refine lv_aload_n hx hb dX12_tellHere_63 rfl (lv_at hl 0 rfl) ?_
  obtain ⟨⟨r1, F1, G1⟩, hc, hm⟩ := bind_elim hm
  refine mcallI (n := 0) (As := []) (rest := []) C hw (mk_sizeHere l v a _ fu F G r1 F1 G1 hc) (mrecv_X12 C hw) mm_365 mm_366 mm_367 mm_27 mm_368 (by decide +kernel) rfl (by omega) (by omega) hl.1 rfl (Nat.le_of_ble_eq_true rfl) dX12_tellHere_64 (fun H locs hw => ?_)
  exact mw_tellHere_67 fu C hret x2 x3 r1 F1 G1 hm hw (lv_sub hl [0, 1, 2] rfl)
theorem mw_tellHere_61 (fu : Nat) {res : Int32 × PF × PG} (C : mMC p R s m args c A v RX12 cX12_tellHere 6 306 18131) (hret : ∀ (H1 : Heap) (locs1 : List Loc) (ls1 : Array Slot) (pc : Nat), mMW s A v a res.2.1 res.2.2 H1 locs1 → narrow .boolean (.int res.1) = .int res.1 → decode cX12_tellHere pc = .ok (.ireturn, 1) → W p l e R s m args below meth c H1 locs1 0 0 Q (F0 m pc ls1 [.int res.1])) (F : PF) (G : PG) (hm : mb_tellHere_61 fu F G = some res) {H : Heap} {locs : List Loc} (hw : mMW s A v a F G H locs) {ls : Array Slot} (hl : lv_has ls 6 []) : W p l e R s m args below meth c H locs 0 0 Q (F0 m 61 ls []) := by
  have hx := C.1
  have hb := C.2.1
  unfold mb_tellHere_61 at hm
  refine lv_iconst (v := 0) hx hb dX12_tellHere_61 (by decide) ?_
  obtain rfl := Option.some.inj hm
  exact hret _ _ _ _ hw (b01_nar (v := 0) (Or.inl rfl)) dX12_tellHere_62
theorem mw_tellHere_58 (fu : Nat) {res : Int32 × PF × PG} (C : mMC p R s m args c A v RX12 cX12_tellHere 6 306 18131) (hret : ∀ (H1 : Heap) (locs1 : List Loc) (ls1 : Array Slot) (pc : Nat), mMW s A v a res.2.1 res.2.2 H1 locs1 → narrow .boolean (.int res.1) = .int res.1 → decode cX12_tellHere pc = .ok (.ireturn, 1) → W p l e R s m args below meth c H1 locs1 0 0 Q (F0 m pc ls1 [.int res.1])) (x2 : Int32) (x3 : Int32) (z0 : Int32) (F : PF) (G : PG) (hm : mb_tellHere_58 fu x2 x3 z0 F G = some res) {H : Heap} {locs : List Loc} (hw : mMW s A v a F G H locs) {ls : Array Slot} (hl : lv_has ls 6 [(0, .ref (a 212)), (2, .int x2), (3, .int x3)]) : W p l e R s m args below meth c H locs 0 0 Q (F0 m 58 ls [.int z0]) := by
  have hx := C.1
  have hb := C.2.1
  unfold mb_tellHere_58 at hm
  refine lv_if_ne (tgt := 63) hx hb dX12_tellHere_58 (by decide) (fun c_1 => ?_) (fun c_1 => ?_)
  · have hm := (if_neg c_1).symm.trans hm
    exact mw_tellHere_63 fu C hret x2 x3 F G hm hw (lv_sub hl [0, 1, 2] rfl)
  · have hm := (if_pos c_1).symm.trans hm
    exact mw_tellHere_61 fu C hret F G hm hw (lv_sub hl [] rfl)
theorem mw_tellHere_52 (fu : Nat) {res : Int32 × PF × PG} (C : mMC p R s m args c A v RX12 cX12_tellHere 6 306 18131) (hret : ∀ (H1 : Heap) (locs1 : List Loc) (ls1 : Array Slot) (pc : Nat), mMW s A v a res.2.1 res.2.2 H1 locs1 → narrow .boolean (.int res.1) = .int res.1 → decode cX12_tellHere pc = .ok (.ireturn, 1) → W p l e R s m args below meth c H1 locs1 0 0 Q (F0 m pc ls1 [.int res.1])) (x2 : Int32) (x3 : Int32) (F : PF) (G : PG) (hm : mb_tellHere_52 fu x2 x3 F G = some res) {H : Heap} {locs : List Loc} (hw : mMW s A v a F G H locs) {ls : Array Slot} (hl : lv_has ls 6 [(0, .ref (a 212)), (2, .int x2), (3, .int x3)]) : W p l e R s m args below meth c H locs 0 0 Q (F0 m 52 ls []) := by
  have hx := C.1
  have hb := C.2.1
  unfold mb_tellHere_52 at hm
  refine lv_aload_n hx hb dX12_tellHere_52 rfl (lv_at hl 0 rfl) ?_
  refine lv_bipush (v := 24) hx hb dX12_tellHere_53 (by decide) ?_
  obtain ⟨⟨r1, F1, G1⟩, hc, hm⟩ := bind_elim hm
  refine mcallI (n := 1) (As := [.int 24]) (rest := []) C hw (mk_openSign l v a _ fu 24 F G r1 F1 G1 hc) (mrecv_X12 C hw) mm_241 mm_242 mm_243 mm_27 mm_244 (by decide +kernel) rfl (by omega) (by omega) hl.1 rfl (Nat.le_of_ble_eq_true rfl) dX12_tellHere_55 (fun H locs hw => ?_)
  exact mw_tellHere_58 fu C hret x2 x3 r1 F1 G1 hm hw (lv_sub hl [0, 1, 2] rfl)
theorem mw_tellHere_47 (fu : Nat) {res : Int32 × PF × PG} (C : mMC p R s m args c A v RX12 cX12_tellHere 6 306 18131) (hret : ∀ (H1 : Heap) (locs1 : List Loc) (ls1 : Array Slot) (pc : Nat), mMW s A v a res.2.1 res.2.2 H1 locs1 → narrow .boolean (.int res.1) = .int res.1 → decode cX12_tellHere pc = .ok (.ireturn, 1) → W p l e R s m args below meth c H1 locs1 0 0 Q (F0 m pc ls1 [.int res.1])) (x2 : Int32) (x3 : Int32) (F : PF) (G : PG) (hm : mb_tellHere_47 fu x2 x3 F G = some res) {H : Heap} {locs : List Loc} (hw : mMW s A v a F G H locs) {ls : Array Slot} (hl : lv_has ls 6 [(0, .ref (a 212)), (2, .int x2), (3, .int x3)]) : W p l e R s m args below meth c H locs 0 0 Q (F0 m 47 ls []) := by
  have hx := C.1
  have hb := C.2.1
  unfold mb_tellHere_47 at hm
  refine lv_aload_n hx hb dX12_tellHere_47 rfl (lv_at hl 0 rfl) ?_
  refine lv_iload_n hx hb dX12_tellHere_48 rfl (lv_at hl 2 rfl) ?_
  obtain ⟨⟨r1, F1, G1⟩, hc, hm⟩ := bind_elim hm
  refine mcallV (n := 1) (As := [.int x3]) (rest := []) C hw (mk_twice l v a _ fu x3 F G r1 F1 G1 hc) (mrecv_X12 C hw) mm_310 mm_311 mm_312 mm_27 mm_313 (by decide +kernel) rfl (by omega) (by omega) hl.1 rfl (Nat.le_of_ble_eq_true rfl) dX12_tellHere_49 (fun H locs hw => ?_)
  exact mw_tellHere_52 fu C hret x2 x3 F1 G1 hm hw (lv_sub hl [0, 1, 2] rfl)
theorem mw_tellHere_44 (fu : Nat) {res : Int32 × PF × PG} (C : mMC p R s m args c A v RX12 cX12_tellHere 6 306 18131) (hret : ∀ (H1 : Heap) (locs1 : List Loc) (ls1 : Array Slot) (pc : Nat), mMW s A v a res.2.1 res.2.2 H1 locs1 → narrow .boolean (.int res.1) = .int res.1 → decode cX12_tellHere pc = .ok (.ireturn, 1) → W p l e R s m args below meth c H1 locs1 0 0 Q (F0 m pc ls1 [.int res.1])) (x1 : Int32) (x2 : Int32) (x3 : Int32) (z0 : Int32) (F : PF) (G : PG) (hm : mb_tellHere_44 fu x1 x2 x3 z0 F G = some res) {H : Heap} {locs : List Loc} (hw : mMW s A v a F G H locs) {ls : Array Slot} (hl : lv_has ls 6 [(0, .ref (a 212)), (1, .int x1), (2, .int x2), (3, .int x3)]) : W p l e R s m args below meth c H locs 0 0 Q (F0 m 44 ls [.int z0]) := by
  have hx := C.1
  have hb := C.2.1
  unfold mb_tellHere_44 at hm
  refine lv_if_eq (tgt := 210) hx hb dX12_tellHere_44 (by decide) (fun c_1 => ?_) (fun c_1 => ?_)
  · have hm := (if_pos c_1).symm.trans hm
    exact mw_tellHere_210 fu C hret x1 x3 F G hm hw (lv_sub hl [0, 1, 3] rfl)
  · have hm := (if_neg c_1).symm.trans hm
    exact mw_tellHere_47 fu C hret x2 x3 F G hm hw (lv_sub hl [0, 2, 3] rfl)
theorem mw_tellHere_38 (fu : Nat) {res : Int32 × PF × PG} (C : mMC p R s m args c A v RX12 cX12_tellHere 6 306 18131) (hret : ∀ (H1 : Heap) (locs1 : List Loc) (ls1 : Array Slot) (pc : Nat), mMW s A v a res.2.1 res.2.2 H1 locs1 → narrow .boolean (.int res.1) = .int res.1 → decode cX12_tellHere pc = .ok (.ireturn, 1) → W p l e R s m args below meth c H1 locs1 0 0 Q (F0 m pc ls1 [.int res.1])) (x1 : Int32) (x2 : Int32) (x3 : Int32) (F : PF) (G : PG) (hm : mb_tellHere_38 fu x1 x2 x3 F G = some res) {H : Heap} {locs : List Loc} (hw : mMW s A v a F G H locs) {ls : Array Slot} (hl : lv_has ls 6 [(0, .ref (a 212)), (1, .int x1), (2, .int x2), (3, .int x3)]) : W p l e R s m args below meth c H locs 0 0 Q (F0 m 38 ls []) := by
  have hx := C.1
  have hb := C.2.1
  unfold mb_tellHere_38 at hm
  refine lv_aload_n hx hb dX12_tellHere_38 rfl (lv_at hl 0 rfl) ?_
  refine lv_bipush (v := 24) hx hb dX12_tellHere_39 (by decide) ?_
  obtain ⟨⟨r1, F1, G1⟩, hc, hm⟩ := bind_elim hm
  refine mcallI (n := 1) (As := [.int 24]) (rest := []) C hw (mk_isSign l v a _ fu 24 F G r1 F1 G1 hc) (mrecv_X12 C hw) mm_183 mm_184 mm_185 mm_27 mm_186 (by decide +kernel) rfl (by omega) (by omega) hl.1 rfl (Nat.le_of_ble_eq_true rfl) dX12_tellHere_41 (fun H locs hw => ?_)
  exact mw_tellHere_44 fu C hret x1 x2 x3 r1 F1 G1 hm hw (lv_sub hl [0, 1, 2, 3] rfl)
theorem mw_tellHere_34 (fu : Nat) {res : Int32 × PF × PG} (C : mMC p R s m args c A v RX12 cX12_tellHere 6 306 18131) (hret : ∀ (H1 : Heap) (locs1 : List Loc) (ls1 : Array Slot) (pc : Nat), mMW s A v a res.2.1 res.2.2 H1 locs1 → narrow .boolean (.int res.1) = .int res.1 → decode cX12_tellHere pc = .ok (.ireturn, 1) → W p l e R s m args below meth c H1 locs1 0 0 Q (F0 m pc ls1 [.int res.1])) (x1 : Int32) (x2 : Int32) (x3 : Int32) (F : PF) (G : PG) (hm : mb_tellHere_34 fu x1 x2 x3 F G = some res) {H : Heap} {locs : List Loc} (hw : mMW s A v a F G H locs) {ls : Array Slot} (hl : lv_has ls 6 [(0, .ref (a 212)), (1, .int x1), (2, .int x2), (3, .int x3)]) : W p l e R s m args below meth c H locs 0 0 Q (F0 m 34 ls []) := by
  have hx := C.1
  have hb := C.2.1
  unfold mb_tellHere_34 at hm
  refine lv_iload_n hx hb dX12_tellHere_34 rfl (lv_at hl 2 rfl) ?_
  refine lv_if_ne (tgt := 47) hx hb dX12_tellHere_35 (by decide) (fun c_1 => ?_) (fun c_1 => ?_)
  · have hm := (if_neg c_1).symm.trans hm
    exact mw_tellHere_47 fu C hret x2 x3 F G hm hw (lv_sub hl [0, 2, 3] rfl)
  · have hm := (if_pos c_1).symm.trans hm
    exact mw_tellHere_38 fu C hret x1 x2 x3 F G hm hw (lv_sub hl [0, 1, 2, 3] rfl)
theorem mw_tellHere_30 (fu : Nat) {res : Int32 × PF × PG} (C : mMC p R s m args c A v RX12 cX12_tellHere 6 306 18131) (hret : ∀ (H1 : Heap) (locs1 : List Loc) (ls1 : Array Slot) (pc : Nat), mMW s A v a res.2.1 res.2.2 H1 locs1 → narrow .boolean (.int res.1) = .int res.1 → decode cX12_tellHere pc = .ok (.ireturn, 1) → W p l e R s m args below meth c H1 locs1 0 0 Q (F0 m pc ls1 [.int res.1])) (x1 : Int32) (x2 : Int32) (x3 : Int32) (F : PF) (G : PG) (hm : mb_tellHere_30 fu x1 x2 x3 F G = some res) {H : Heap} {locs : List Loc} (hw : mMW s A v a F G H locs) {ls : Array Slot} (hl : lv_has ls 6 [(0, .ref (a 212)), (1, .int x1), (2, .int x2), (3, .int x3)]) : W p l e R s m args below meth c H locs 0 0 Q (F0 m 30 ls []) := by
  have hx := C.1
  have hb := C.2.1
  unfold mb_tellHere_30 at hm
  refine lv_iload_n hx hb dX12_tellHere_30 rfl (lv_at hl 1 rfl) ?_
  refine lv_if_eq (tgt := 210) hx hb dX12_tellHere_31 (by decide) (fun c_1 => ?_) (fun c_1 => ?_)
  · have hm := (if_pos c_1).symm.trans hm
    exact mw_tellHere_210 fu C hret x1 x3 F G hm hw (lv_sub hl [0, 1, 3] rfl)
  · have hm := (if_neg c_1).symm.trans hm
    exact mw_tellHere_34 fu C hret x1 x2 x3 F G hm hw (lv_sub hl [0, 1, 2, 3] rfl)
theorem mw_tellHere_28 (fu : Nat) {res : Int32 × PF × PG} (C : mMC p R s m args c A v RX12 cX12_tellHere 6 306 18131) (hret : ∀ (H1 : Heap) (locs1 : List Loc) (ls1 : Array Slot) (pc : Nat), mMW s A v a res.2.1 res.2.2 H1 locs1 → narrow .boolean (.int res.1) = .int res.1 → decode cX12_tellHere pc = .ok (.ireturn, 1) → W p l e R s m args below meth c H1 locs1 0 0 Q (F0 m pc ls1 [.int res.1])) (F : PF) (G : PG) (hm : mb_tellHere_28 fu F G = some res) {H : Heap} {locs : List Loc} (hw : mMW s A v a F G H locs) {ls : Array Slot} (hl : lv_has ls 6 []) : W p l e R s m args below meth c H locs 0 0 Q (F0 m 28 ls []) := by
  have hx := C.1
  have hb := C.2.1
  unfold mb_tellHere_28 at hm
  refine lv_iconst (v := 0) hx hb dX12_tellHere_28 (by decide) ?_
  obtain rfl := Option.some.inj hm
  exact hret _ _ _ _ hw (b01_nar (v := 0) (Or.inl rfl)) dX12_tellHere_29
theorem mw_tellHere_20 (fu : Nat) {res : Int32 × PF × PG} (C : mMC p R s m args c A v RX12 cX12_tellHere 6 306 18131) (hret : ∀ (H1 : Heap) (locs1 : List Loc) (ls1 : Array Slot) (pc : Nat), mMW s A v a res.2.1 res.2.2 H1 locs1 → narrow .boolean (.int res.1) = .int res.1 → decode cX12_tellHere pc = .ok (.ireturn, 1) → W p l e R s m args below meth c H1 locs1 0 0 Q (F0 m pc ls1 [.int res.1])) (x1 : Int32) (x2 : Int32) (z0 : Int32) (F : PF) (G : PG) (hm : mb_tellHere_20 fu x1 x2 z0 F G = some res) {H : Heap} {locs : List Loc} (hw : mMW s A v a F G H locs) {ls : Array Slot} (hl : lv_has ls 6 [(0, .ref (a 212)), (1, .int x1), (2, .int x2)]) : W p l e R s m args below meth c H locs 0 0 Q (F0 m 20 ls [.int z0]) := by
  have hx := C.1
  have hb := C.2.1
  unfold mb_tellHere_20 at hm
  refine lv_istore_n (lv' := [(3, .int z0), (0, .ref (a 212)), (1, .int x1), (2, .int x2)]) hx hb dX12_tellHere_20 rfl hl (by decide) rfl (fun ls hl => ?_)
  refine lv_aload_n hx hb dX12_tellHere_21 rfl (lv_at hl 1 rfl) ?_
  refine mg_X12_230 C hw dX12_tellHere_22 ?_
  refine lv_if_le (tgt := 30) hx hb dX12_tellHere_25 (by decide) (fun c_1 => ?_) (fun c_1 => ?_)
  · have hm := (if_pos c_1).symm.trans hm
    exact mw_tellHere_30 fu C hret x1 x2 z0 F G hm hw (lv_sub hl [1, 2, 3, 0] rfl)
  · have hm := (if_neg c_1).symm.trans hm
    exact mw_tellHere_28 fu C hret F G hm hw (lv_sub hl [] rfl)
theorem mw_tellHere_16 (fu : Nat) {res : Int32 × PF × PG} (C : mMC p R s m args c A v RX12 cX12_tellHere 6 306 18131) (hret : ∀ (H1 : Heap) (locs1 : List Loc) (ls1 : Array Slot) (pc : Nat), mMW s A v a res.2.1 res.2.2 H1 locs1 → narrow .boolean (.int res.1) = .int res.1 → decode cX12_tellHere pc = .ok (.ireturn, 1) → W p l e R s m args below meth c H1 locs1 0 0 Q (F0 m pc ls1 [.int res.1])) (x1 : Int32) (x2 : Int32) (F : PF) (G : PG) (hm : mb_tellHere_16 fu x1 x2 F G = some res) {H : Heap} {locs : List Loc} (hw : mMW s A v a F G H locs) {ls : Array Slot} (hl : lv_has ls 6 [(0, .ref (a 212)), (1, .int x1), (2, .int x2)]) : W p l e R s m args below meth c H locs 0 0 Q (F0 m 16 ls []) := by
  have hx := C.1
  have hb := C.2.1
  unfold mb_tellHere_16 at hm
  refine lv_aload_n hx hb dX12_tellHere_16 rfl (lv_at hl 0 rfl) ?_
  obtain ⟨⟨r1, F1, G1⟩, hc, hm⟩ := bind_elim hm
  refine mcallI (n := 0) (As := []) (rest := []) C hw (mk_name l v a _ fu F G r1 F1 G1 hc) (mrecv_X12 C hw) mm_175 mm_176 mm_177 mm_27 mm_178 (by decide +kernel) rfl (by omega) (by omega) hl.1 rfl (Nat.le_of_ble_eq_true rfl) dX12_tellHere_17 (fun H locs hw => ?_)
  exact mw_tellHere_20 fu C hret x1 x2 r1 F1 G1 hm hw (lv_sub hl [0, 1, 2] rfl)
theorem mw_tellHere_5 (fu : Nat) {res : Int32 × PF × PG} (C : mMC p R s m args c A v RX12 cX12_tellHere 6 306 18131) (hret : ∀ (H1 : Heap) (locs1 : List Loc) (ls1 : Array Slot) (pc : Nat), mMW s A v a res.2.1 res.2.2 H1 locs1 → narrow .boolean (.int res.1) = .int res.1 → decode cX12_tellHere pc = .ok (.ireturn, 1) → W p l e R s m args below meth c H1 locs1 0 0 Q (F0 m pc ls1 [.int res.1])) (x1 : Int32) (z0 : Int32) (F : PF) (G : PG) (hm : mb_tellHere_5 fu x1 z0 F G = some res) {H : Heap} {locs : List Loc} (hw : mMW s A v a F G H locs) {ls : Array Slot} (hl : lv_has ls 6 [(0, .ref (a 212)), (1, .int x1)]) : W p l e R s m args below meth c H locs 0 0 Q (F0 m 5 ls [.int z0]) := by
  have hx := C.1
  have hb := C.2.1
  unfold mb_tellHere_5 at hm
  refine lv_istore_n (lv' := [(2, .int z0), (0, .ref (a 212)), (1, .int x1)]) hx hb dX12_tellHere_5 rfl hl (by decide) rfl (fun ls hl => ?_)
  refine lv_aload_n hx hb dX12_tellHere_6 rfl (lv_at hl 1 rfl) ?_
  refine lv_dup hx hb dX12_tellHere_7 rfl ?_
  refine mg_X12_233 C hw dX12_tellHere_8 ?_
  refine lv_iconst (v := 1) hx hb dX12_tellHere_11 (by decide) ?_
  refine lv_iadd hx hb dX12_tellHere_12 ?_
  refine mp_X12_233 C hw dX12_tellHere_13 (fun H locs hw => ?_)
  exact mw_tellHere_16 fu C hret x1 z0 (fup F 42 ((F 42) + (1 : Int32))) G hm hw (lv_sub hl [1, 2, 0] rfl)
theorem mw_tellHere_0 (fu : Nat) {res : Int32 × PF × PG} (C : mMC p R s m args c A v RX12 cX12_tellHere 6 306 18131) (hret : ∀ (H1 : Heap) (locs1 : List Loc) (ls1 : Array Slot) (pc : Nat), mMW s A v a res.2.1 res.2.2 H1 locs1 → narrow .boolean (.int res.1) = .int res.1 → decode cX12_tellHere pc = .ok (.ireturn, 1) → W p l e R s m args below meth c H1 locs1 0 0 Q (F0 m pc ls1 [.int res.1])) (x1 : Int32) (F : PF) (G : PG) (hm : mb_tellHere_0 fu x1 F G = some res) {H : Heap} {locs : List Loc} (hw : mMW s A v a F G H locs) {ls : Array Slot} (hl : lv_has ls 6 [(0, .ref (a 212)), (1, .int x1)]) : W p l e R s m args below meth c H locs 0 0 Q (F0 m 0 ls []) := by
  have hx := C.1
  have hb := C.2.1
  unfold mb_tellHere_0 at hm
  refine lv_aload_n hx hb dX12_tellHere_0 rfl (lv_at hl 0 rfl) ?_
  refine lv_iconst (v := 1) hx hb dX12_tellHere_1 (by decide) ?_
  obtain ⟨⟨r1, F1, G1⟩, hc, hm⟩ := bind_elim hm
  refine mcallI (n := 1) (As := [.int 1]) (rest := []) C hw (mk_isWord l v a _ fu 1 F G r1 F1 G1 hc) (mrecv_X12 C hw) mm_162 mm_163 mm_164 mm_27 mm_165 (by decide +kernel) rfl (by omega) (by omega) hl.1 rfl (Nat.le_of_ble_eq_true rfl) dX12_tellHere_2 (fun H locs hw => ?_)
  exact mw_tellHere_5 fu C hret x1 r1 F1 G1 hm hw (lv_sub hl [0, 1] rfl)
theorem mk_tellHere (l : Launch) (v : EV) (a : Nat → Nat) (sz : Nat) (fu : Nat) (x1 : Int32) (F : PF) (G : PG) (r : Int32) (F1 : PF) (G1 : PG) (hm : mf_tellHere fu x1 F G = some (r, F1, G1)) : mMI l yX12_tellHere cX12_tellHere 6 (some .boolean) 306 18131 v a sz [.ref (a 212), .int x1] F G r F1 G1 := mMI.of (ty := .boolean) (by decide) rfl (Nat.le_of_ble_eq_true rfl) (fun p e R s m args below meth c Q A H locs ls C hw hl hret => mw_tellHere_0 fu (res := (r, F1, G1)) C hret x1 F G hm hw hl)
def mb_leaves_99 (fu : Nat) (z0 : Int32) (F : PF) (G : PG) : PR := if b01 z0 = true then (some (z0, F, G)) else none
def mb_leaves_93 (fu : Nat) (F : PF) (G : PG) : PR := (mf_sign fu 29 F G).bind (fun q => mb_leaves_99 fu q.1 q.2.1 q.2.2)
def mb_leaves_88 (fu : Nat) (x2 : Int32) (F : PF) (G : PG) : PR := mb_leaves_93 fu (fup F 64 x2) G
def mb_leaves_85 (fu : Nat) (F : PF) (G : PG) : PR := mb_leaves_93 fu F G
def mb_leaves_80 (fu : Nat) (x2 : Int32) (F : PF) (G : PG) : PR := mb_leaves_85 fu (fup F 63 x2) G
def mb_leaves_76 (fu : Nat) (x1 : Int32) (x2 : Int32) (F : PF) (G : PG) : PR := if x1 = (0 : Int32) then mb_leaves_88 fu x2 F G else mb_leaves_80 fu x2 F G
def mb_leaves_75 (fu : Nat) (x1 : Int32) (x2 : Int32) (z0 : Int32) (z1 : Int32) (F : PF) (G : PG) : PR := if ixb z1 9000 = true then (mb_leaves_76 fu x1 x2 F (gup G 57 z1.toNatClampNeg z0)) else none
def mb_leaves_71 (fu : Nat) (x1 : Int32) (x2 : Int32) (z0 : Int32) (F : PF) (G : PG) : PR := mb_leaves_75 fu x1 x2 (F 64) z0 F G
def mb_leaves_64 (fu : Nat) (x1 : Int32) (x2 : Int32) (z0 : Int32) (F : PF) (G : PG) : PR := mb_leaves_75 fu x1 x2 (F 63) z0 F G
def mb_leaves_55 (fu : Nat) (x1 : Int32) (x2 : Int32) (F : PF) (G : PG) : PR := if x1 = (0 : Int32) then mb_leaves_71 fu x1 x2 x2 F G else mb_leaves_64 fu x1 x2 x2 F G
def mb_leaves_47 (fu : Nat) (x1 : Int32) (z0 : Int32) (F : PF) (G : PG) : PR := if (F 51) ≤ (0 : Int32) then mb_leaves_93 fu F G else mb_leaves_55 fu x1 z0 F G
def mb_leaves_39 (fu : Nat) (x1 : Int32) (F : PF) (G : PG) : PR := (mf_step fu 12 0 0 F G).bind (fun q => mb_leaves_47 fu x1 q.1 q.2.1 q.2.2)
def mb_leaves_29 (fu : Nat) (x1 : Int32) (F : PF) (G : PG) : PR := mb_leaves_39 fu x1 (fup F 42 ((F 42) + (1 : Int32))) G
def mb_leaves_14 (fu : Nat) (x1 : Int32) (F : PF) (G : PG) : PR := if ixb (F 42) 4002 = true then ((mf_note fu 9 (G 6 (F 42).toNatClampNeg) F G).bind (fun q => mb_leaves_29 fu x1 q.2.1 q.2.2)) else none
def mb_leaves_6 (fu : Nat) (z0 : Int32) (F : PF) (G : PG) : PR := if (F 51) = (0 : Int32) then mb_leaves_14 fu z0 F G else mb_leaves_29 fu z0 F G
def mb_leaves_0 (fu : Nat) (F : PF) (G : PG) : PR := (mf_isWord fu 9 F G).bind (fun q => mb_leaves_6 fu q.1 q.2.1 q.2.2)
def mf_leaves (fu : Nat) (F : PF) (G : PG) : PR := mb_leaves_0 fu F G
theorem mw_leaves_99 (fu : Nat) {res : Int32 × PF × PG} (C : mMC p R s m args c A v RX12 cX12_leaves 3 2 45) (hret : ∀ (H1 : Heap) (locs1 : List Loc) (ls1 : Array Slot) (pc : Nat), mMW s A v a res.2.1 res.2.2 H1 locs1 → narrow .boolean (.int res.1) = .int res.1 → decode cX12_leaves pc = .ok (.ireturn, 1) → W p l e R s m args below meth c H1 locs1 0 0 Q (F0 m pc ls1 [.int res.1])) (z0 : Int32) (F : PF) (G : PG) (hm : mb_leaves_99 fu z0 F G = some res) {H : Heap} {locs : List Loc} (hw : mMW s A v a F G H locs) {ls : Array Slot} (hl : lv_has ls 3 []) : W p l e R s m args below meth c H locs 0 0 Q (F0 m 99 ls [.int z0]) := by
  have hx := C.1
  have hb := C.2.1
  unfold mb_leaves_99 at hm
  obtain ⟨hz, hm⟩ := b01_elim hm
  obtain rfl := Option.some.inj hm
  exact hret _ _ _ _ hw (b01_nar hz) dX12_leaves_99
theorem mw_leaves_93 (fu : Nat) {res : Int32 × PF × PG} (C : mMC p R s m args c A v RX12 cX12_leaves 3 2 45) (hret : ∀ (H1 : Heap) (locs1 : List Loc) (ls1 : Array Slot) (pc : Nat), mMW s A v a res.2.1 res.2.2 H1 locs1 → narrow .boolean (.int res.1) = .int res.1 → decode cX12_leaves pc = .ok (.ireturn, 1) → W p l e R s m args below meth c H1 locs1 0 0 Q (F0 m pc ls1 [.int res.1])) (F : PF) (G : PG) (hm : mb_leaves_93 fu F G = some res) {H : Heap} {locs : List Loc} (hw : mMW s A v a F G H locs) {ls : Array Slot} (hl : lv_has ls 3 [(0, .ref (a 212))]) : W p l e R s m args below meth c H locs 0 0 Q (F0 m 93 ls []) := by
  have hx := C.1
  have hb := C.2.1
  unfold mb_leaves_93 at hm
  refine lv_aload_n hx hb dX12_leaves_93 rfl (lv_at hl 0 rfl) ?_
  refine lv_bipush (v := 29) hx hb dX12_leaves_94 (by decide) ?_
  obtain ⟨⟨r1, F1, G1⟩, hc, hm⟩ := bind_elim hm
  refine mcallI (n := 1) (As := [.int 29]) (rest := []) C hw (mk_sign l v a _ fu 29 F G r1 F1 G1 hc) (mrecv_X12 C hw) mm_179 mm_180 mm_181 mm_27 mm_182 (by decide +kernel) rfl (by omega) (by omega) hl.1 rfl (Nat.le_of_ble_eq_true rfl) dX12_leaves_96 (fun H locs hw => ?_)
  exact mw_leaves_99 fu C hret r1 F1 G1 hm hw (lv_sub hl [] rfl)
theorem mw_leaves_88 (fu : Nat) {res : Int32 × PF × PG} (C : mMC p R s m args c A v RX12 cX12_leaves 3 2 45) (hret : ∀ (H1 : Heap) (locs1 : List Loc) (ls1 : Array Slot) (pc : Nat), mMW s A v a res.2.1 res.2.2 H1 locs1 → narrow .boolean (.int res.1) = .int res.1 → decode cX12_leaves pc = .ok (.ireturn, 1) → W p l e R s m args below meth c H1 locs1 0 0 Q (F0 m pc ls1 [.int res.1])) (x2 : Int32) (F : PF) (G : PG) (hm : mb_leaves_88 fu x2 F G = some res) {H : Heap} {locs : List Loc} (hw : mMW s A v a F G H locs) {ls : Array Slot} (hl : lv_has ls 3 [(0, .ref (a 212)), (2, .int x2)]) : W p l e R s m args below meth c H locs 0 0 Q (F0 m 88 ls []) := by
  have hx := C.1
  have hb := C.2.1
  unfold mb_leaves_88 at hm
  refine lv_aload_n hx hb dX12_leaves_88 rfl (lv_at hl 0 rfl) ?_
  refine lv_iload_n hx hb dX12_leaves_89 rfl (lv_at hl 1 rfl) ?_
  refine mp_X12_380 C hw dX12_leaves_90 (fun H locs hw => ?_)
  exact mw_leaves_93 fu C hret (fup F 64 x2) G hm hw (lv_sub hl [0] rfl)
theorem mw_leaves_85 (fu : Nat) {res : Int32 × PF × PG} (C : mMC p R s m args c A v RX12 cX12_leaves 3 2 45) (hret : ∀ (H1 : Heap) (locs1 : List Loc) (ls1 : Array Slot) (pc : Nat), mMW s A v a res.2.1 res.2.2 H1 locs1 → narrow .boolean (.int res.1) = .int res.1 → decode cX12_leaves pc = .ok (.ireturn, 1) → W p l e R s m args below meth c H1 locs1 0 0 Q (F0 m pc ls1 [.int res.1])) (F : PF) (G : PG) (hm : mb_leaves_85 fu F G = some res) {H : Heap} {locs : List Loc} (hw : mMW s A v a F G H locs) {ls : Array Slot} (hl : lv_has ls 3 [(0, .ref (a 212))]) : W p l e R s m args below meth c H locs 0 0 Q (F0 m 85 ls []) := by
  have hx := C.1
  have hb := C.2.1
  unfold mb_leaves_85 at hm
  refine lv_goto (tgt := 93) hx hb dX12_leaves_85 (by decide) ?_
  exact mw_leaves_93 fu C hret F G hm hw (lv_sub hl [0] rfl)
theorem mw_leaves_80 (fu : Nat) {res : Int32 × PF × PG} (C : mMC p R s m args c A v RX12 cX12_leaves 3 2 45) (hret : ∀ (H1 : Heap) (locs1 : List Loc) (ls1 : Array Slot) (pc : Nat), mMW s A v a res.2.1 res.2.2 H1 locs1 → narrow .boolean (.int res.1) = .int res.1 → decode cX12_leaves pc = .ok (.ireturn, 1) → W p l e R s m args below meth c H1 locs1 0 0 Q (F0 m pc ls1 [.int res.1])) (x2 : Int32) (F : PF) (G : PG) (hm : mb_leaves_80 fu x2 F G = some res) {H : Heap} {locs : List Loc} (hw : mMW s A v a F G H locs) {ls : Array Slot} (hl : lv_has ls 3 [(0, .ref (a 212)), (2, .int x2)]) : W p l e R s m args below meth c H locs 0 0 Q (F0 m 80 ls []) := by
  have hx := C.1
  have hb := C.2.1
  unfold mb_leaves_80 at hm
  refine lv_aload_n hx hb dX12_leaves_80 rfl (lv_at hl 0 rfl) ?_
  refine lv_iload_n hx hb dX12_leaves_81 rfl (lv_at hl 1 rfl) ?_
  refine mp_X12_377 C hw dX12_leaves_82 (fun H locs hw => ?_)
  exact mw_leaves_85 fu C hret (fup F 63 x2) G hm hw (lv_sub hl [0] rfl)
theorem mw_leaves_76 (fu : Nat) {res : Int32 × PF × PG} (C : mMC p R s m args c A v RX12 cX12_leaves 3 2 45) (hret : ∀ (H1 : Heap) (locs1 : List Loc) (ls1 : Array Slot) (pc : Nat), mMW s A v a res.2.1 res.2.2 H1 locs1 → narrow .boolean (.int res.1) = .int res.1 → decode cX12_leaves pc = .ok (.ireturn, 1) → W p l e R s m args below meth c H1 locs1 0 0 Q (F0 m pc ls1 [.int res.1])) (x1 : Int32) (x2 : Int32) (F : PF) (G : PG) (hm : mb_leaves_76 fu x1 x2 F G = some res) {H : Heap} {locs : List Loc} (hw : mMW s A v a F G H locs) {ls : Array Slot} (hl : lv_has ls 3 [(0, .ref (a 212)), (1, .int x1), (2, .int x2)]) : W p l e R s m args below meth c H locs 0 0 Q (F0 m 76 ls []) := by
  have hx := C.1
  have hb := C.2.1
  unfold mb_leaves_76 at hm
  refine lv_iload_n hx hb dX12_leaves_76 rfl (lv_at hl 1 rfl) ?_
  refine lv_if_eq (tgt := 88) hx hb dX12_leaves_77 (by decide) (fun c_1 => ?_) (fun c_1 => ?_)
  · have hm := (if_pos c_1).symm.trans hm
    exact mw_leaves_88 fu C hret x2 F G hm hw (lv_sub hl [0, 2] rfl)
  · have hm := (if_neg c_1).symm.trans hm
    exact mw_leaves_80 fu C hret x2 F G hm hw (lv_sub hl [0, 2] rfl)
theorem mw_leaves_75 (fu : Nat) {res : Int32 × PF × PG} (C : mMC p R s m args c A v RX12 cX12_leaves 3 2 45) (hret : ∀ (H1 : Heap) (locs1 : List Loc) (ls1 : Array Slot) (pc : Nat), mMW s A v a res.2.1 res.2.2 H1 locs1 → narrow .boolean (.int res.1) = .int res.1 → decode cX12_leaves pc = .ok (.ireturn, 1) → W p l e R s m args below meth c H1 locs1 0 0 Q (F0 m pc ls1 [.int res.1])) (x1 : Int32) (x2 : Int32) (z0 : Int32) (z1 : Int32) (F : PF) (G : PG) (hm : mb_leaves_75 fu x1 x2 z0 z1 F G = some res) {H : Heap} {locs : List Loc} (hw : mMW s A v a F G H locs) {ls : Array Slot} (hl : lv_has ls 3 [(0, .ref (a 212)), (1, .int x1), (2, .int x2)]) : W p l e R s m args below meth c H locs 0 0 Q (F0 m 75 ls [.int z0, .int z1, .ref (a 57)]) := by
  have hx := C.1
  have hb := C.2.1
  unfold mb_leaves_75 at hm
  obtain ⟨hi, hm⟩ := ix_elim hm
  refine mas_57 C hw hi dX12_leaves_75 (fun H locs hw => ?_)
  exact mw_leaves_76 fu C hret x1 x2 F (gup G 57 z1.toNatClampNeg z0) hm hw (lv_sub hl [0, 1, 2] rfl)
theorem mw_leaves_71 (fu : Nat) {res : Int32 × PF × PG} (C : mMC p R s m args c A v RX12 cX12_leaves 3 2 45) (hret : ∀ (H1 : Heap) (locs1 : List Loc) (ls1 : Array Slot) (pc : Nat), mMW s A v a res.2.1 res.2.2 H1 locs1 → narrow .boolean (.int res.1) = .int res.1 → decode cX12_leaves pc = .ok (.ireturn, 1) → W p l e R s m args below meth c H1 locs1 0 0 Q (F0 m pc ls1 [.int res.1])) (x1 : Int32) (x2 : Int32) (z0 : Int32) (F : PF) (G : PG) (hm : mb_leaves_71 fu x1 x2 z0 F G = some res) {H : Heap} {locs : List Loc} (hw : mMW s A v a F G H locs) {ls : Array Slot} (hl : lv_has ls 3 [(0, .ref (a 212)), (1, .int x1), (2, .int x2)]) : W p l e R s m args below meth c H locs 0 0 Q (F0 m 71 ls [.int z0, .ref (a 57)]) := by
  have hx := C.1
  have hb := C.2.1
  unfold mb_leaves_71 at hm
  refine lv_aload_n hx hb dX12_leaves_71 rfl (lv_at hl 0 rfl) ?_
  refine mg_X12_380 C hw dX12_leaves_72 ?_
  exact mw_leaves_75 fu C hret x1 x2 (F 64) z0 F G hm hw (lv_sub hl [0, 1, 2] rfl)
theorem mw_leaves_64 (fu : Nat) {res : Int32 × PF × PG} (C : mMC p R s m args c A v RX12 cX12_leaves 3 2 45) (hret : ∀ (H1 : Heap) (locs1 : List Loc) (ls1 : Array Slot) (pc : Nat), mMW s A v a res.2.1 res.2.2 H1 locs1 → narrow .boolean (.int res.1) = .int res.1 → decode cX12_leaves pc = .ok (.ireturn, 1) → W p l e R s m args below meth c H1 locs1 0 0 Q (F0 m pc ls1 [.int res.1])) (x1 : Int32) (x2 : Int32) (z0 : Int32) (F : PF) (G : PG) (hm : mb_leaves_64 fu x1 x2 z0 F G = some res) {H : Heap} {locs : List Loc} (hw : mMW s A v a F G H locs) {ls : Array Slot} (hl : lv_has ls 3 [(0, .ref (a 212)), (1, .int x1), (2, .int x2)]) : W p l e R s m args below meth c H locs 0 0 Q (F0 m 64 ls [.int z0, .ref (a 57)]) := by
  have hx := C.1
  have hb := C.2.1
  unfold mb_leaves_64 at hm
  refine lv_aload_n hx hb dX12_leaves_64 rfl (lv_at hl 0 rfl) ?_
  refine mg_X12_377 C hw dX12_leaves_65 ?_
  refine lv_goto (tgt := 75) hx hb dX12_leaves_68 (by decide) ?_
  exact mw_leaves_75 fu C hret x1 x2 (F 63) z0 F G hm hw (lv_sub hl [0, 1, 2] rfl)
theorem mw_leaves_55 (fu : Nat) {res : Int32 × PF × PG} (C : mMC p R s m args c A v RX12 cX12_leaves 3 2 45) (hret : ∀ (H1 : Heap) (locs1 : List Loc) (ls1 : Array Slot) (pc : Nat), mMW s A v a res.2.1 res.2.2 H1 locs1 → narrow .boolean (.int res.1) = .int res.1 → decode cX12_leaves pc = .ok (.ireturn, 1) → W p l e R s m args below meth c H1 locs1 0 0 Q (F0 m pc ls1 [.int res.1])) (x1 : Int32) (x2 : Int32) (F : PF) (G : PG) (hm : mb_leaves_55 fu x1 x2 F G = some res) {H : Heap} {locs : List Loc} (hw : mMW s A v a F G H locs) {ls : Array Slot} (hl : lv_has ls 3 [(0, .ref (a 212)), (1, .int x1), (2, .int x2)]) : W p l e R s m args below meth c H locs 0 0 Q (F0 m 55 ls []) := by
  have hx := C.1
  have hb := C.2.1
  unfold mb_leaves_55 at hm
  refine lv_aload_n hx hb dX12_leaves_55 rfl (lv_at hl 0 rfl) ?_
  refine mg_X12_107 C hw dX12_leaves_56 ?_
  refine lv_iload_n hx hb dX12_leaves_59 rfl (lv_at hl 2 rfl) ?_
  refine lv_iload_n hx hb dX12_leaves_60 rfl (lv_at hl 1 rfl) ?_
  refine lv_if_eq (tgt := 71) hx hb dX12_leaves_61 (by decide) (fun c_1 => ?_) (fun c_1 => ?_)
  · have hm := (if_pos c_1).symm.trans hm
    exact mw_leaves_71 fu C hret x1 x2 x2 F G hm hw (lv_sub hl [0, 1, 2] rfl)
  · have hm := (if_neg c_1).symm.trans hm
    exact mw_leaves_64 fu C hret x1 x2 x2 F G hm hw (lv_sub hl [0, 1, 2] rfl)
theorem mw_leaves_47 (fu : Nat) {res : Int32 × PF × PG} (C : mMC p R s m args c A v RX12 cX12_leaves 3 2 45) (hret : ∀ (H1 : Heap) (locs1 : List Loc) (ls1 : Array Slot) (pc : Nat), mMW s A v a res.2.1 res.2.2 H1 locs1 → narrow .boolean (.int res.1) = .int res.1 → decode cX12_leaves pc = .ok (.ireturn, 1) → W p l e R s m args below meth c H1 locs1 0 0 Q (F0 m pc ls1 [.int res.1])) (x1 : Int32) (z0 : Int32) (F : PF) (G : PG) (hm : mb_leaves_47 fu x1 z0 F G = some res) {H : Heap} {locs : List Loc} (hw : mMW s A v a F G H locs) {ls : Array Slot} (hl : lv_has ls 3 [(0, .ref (a 212)), (1, .int x1)]) : W p l e R s m args below meth c H locs 0 0 Q (F0 m 47 ls [.int z0]) := by
  have hx := C.1
  have hb := C.2.1
  unfold mb_leaves_47 at hm
  refine lv_istore_n (lv' := [(2, .int z0), (0, .ref (a 212)), (1, .int x1)]) hx hb dX12_leaves_47 rfl hl (by decide) rfl (fun ls hl => ?_)
  refine lv_aload_n hx hb dX12_leaves_48 rfl (lv_at hl 1 rfl) ?_
  refine mg_X12_389 C hw dX12_leaves_49 ?_
  refine lv_if_le (tgt := 93) hx hb dX12_leaves_52 (by decide) (fun c_1 => ?_) (fun c_1 => ?_)
  · have hm := (if_pos c_1).symm.trans hm
    exact mw_leaves_93 fu C hret F G hm hw (lv_sub hl [1] rfl)
  · have hm := (if_neg c_1).symm.trans hm
    exact mw_leaves_55 fu C hret x1 z0 F G hm hw (lv_sub hl [1, 2, 0] rfl)
theorem mw_leaves_39 (fu : Nat) {res : Int32 × PF × PG} (C : mMC p R s m args c A v RX12 cX12_leaves 3 2 45) (hret : ∀ (H1 : Heap) (locs1 : List Loc) (ls1 : Array Slot) (pc : Nat), mMW s A v a res.2.1 res.2.2 H1 locs1 → narrow .boolean (.int res.1) = .int res.1 → decode cX12_leaves pc = .ok (.ireturn, 1) → W p l e R s m args below meth c H1 locs1 0 0 Q (F0 m pc ls1 [.int res.1])) (x1 : Int32) (F : PF) (G : PG) (hm : mb_leaves_39 fu x1 F G = some res) {H : Heap} {locs : List Loc} (hw : mMW s A v a F G H locs) {ls : Array Slot} (hl : lv_has ls 3 [(0, .ref (a 212)), (1, .int x1)]) : W p l e R s m args below meth c H locs 0 0 Q (F0 m 39 ls []) := by
  have hx := C.1
  have hb := C.2.1
  unfold mb_leaves_39 at hm
  refine lv_aload_n hx hb dX12_leaves_39 rfl (lv_at hl 0 rfl) ?_
  refine lv_bipush (v := 12) hx hb dX12_leaves_40 (by decide) ?_
  refine lv_iconst (v := 0) hx hb dX12_leaves_42 (by decide) ?_
  refine lv_iconst (v := 0) hx hb dX12_leaves_43 (by decide) ?_
  obtain ⟨⟨r1, F1, G1⟩, hc, hm⟩ := bind_elim hm
  refine mcallI (n := 3) (As := [.int 12, .int 0, .int 0]) (rest := []) C hw (mk_step l v a _ fu 12 0 0 F G r1 F1 G1 hc) (mrecv_X12 C hw) mm_203 mm_204 mm_205 mm_27 mm_206 (by decide +kernel) rfl (by omega) (by omega) hl.1 rfl (Nat.le_of_ble_eq_true rfl) dX12_leaves_44 (fun H locs hw => ?_)
  exact mw_leaves_47 fu C hret x1 r1 F1 G1 hm hw (lv_sub hl [0, 1] rfl)
theorem mw_leaves_29 (fu : Nat) {res : Int32 × PF × PG} (C : mMC p R s m args c A v RX12 cX12_leaves 3 2 45) (hret : ∀ (H1 : Heap) (locs1 : List Loc) (ls1 : Array Slot) (pc : Nat), mMW s A v a res.2.1 res.2.2 H1 locs1 → narrow .boolean (.int res.1) = .int res.1 → decode cX12_leaves pc = .ok (.ireturn, 1) → W p l e R s m args below meth c H1 locs1 0 0 Q (F0 m pc ls1 [.int res.1])) (x1 : Int32) (F : PF) (G : PG) (hm : mb_leaves_29 fu x1 F G = some res) {H : Heap} {locs : List Loc} (hw : mMW s A v a F G H locs) {ls : Array Slot} (hl : lv_has ls 3 [(0, .ref (a 212)), (1, .int x1)]) : W p l e R s m args below meth c H locs 0 0 Q (F0 m 29 ls []) := by
  have hx := C.1
  have hb := C.2.1
  unfold mb_leaves_29 at hm
  refine lv_aload_n hx hb dX12_leaves_29 rfl (lv_at hl 0 rfl) ?_
  refine lv_dup hx hb dX12_leaves_30 rfl ?_
  refine mg_X12_233 C hw dX12_leaves_31 ?_
  refine lv_iconst (v := 1) hx hb dX12_leaves_34 (by decide) ?_
  refine lv_iadd hx hb dX12_leaves_35 ?_
  refine mp_X12_233 C hw dX12_leaves_36 (fun H locs hw => ?_)
  exact mw_leaves_39 fu C hret x1 (fup F 42 ((F 42) + (1 : Int32))) G hm hw (lv_sub hl [0, 1] rfl)
theorem mw_leaves_14 (fu : Nat) {res : Int32 × PF × PG} (C : mMC p R s m args c A v RX12 cX12_leaves 3 2 45) (hret : ∀ (H1 : Heap) (locs1 : List Loc) (ls1 : Array Slot) (pc : Nat), mMW s A v a res.2.1 res.2.2 H1 locs1 → narrow .boolean (.int res.1) = .int res.1 → decode cX12_leaves pc = .ok (.ireturn, 1) → W p l e R s m args below meth c H1 locs1 0 0 Q (F0 m pc ls1 [.int res.1])) (x1 : Int32) (F : PF) (G : PG) (hm : mb_leaves_14 fu x1 F G = some res) {H : Heap} {locs : List Loc} (hw : mMW s A v a F G H locs) {ls : Array Slot} (hl : lv_has ls 3 [(0, .ref (a 212)), (1, .int x1)]) : W p l e R s m args below meth c H locs 0 0 Q (F0 m 14 ls []) := by
  have hx := C.1
  have hb := C.2.1
  unfold mb_leaves_14 at hm
  refine lv_aload_n hx hb dX12_leaves_14 rfl (lv_at hl 0 rfl) ?_
  refine lv_bipush (v := 9) hx hb dX12_leaves_15 (by decide) ?_
  refine lv_aload_n hx hb dX12_leaves_17 rfl (lv_at hl 0 rfl) ?_
  refine mg_X12_22 C hw dX12_leaves_18 ?_
  refine lv_aload_n hx hb dX12_leaves_21 rfl (lv_at hl 0 rfl) ?_
  refine mg_X12_233 C hw dX12_leaves_22 ?_
  obtain ⟨hi, hm⟩ := ix_elim hm
  refine mal_6 C hw hi dX12_leaves_25 ?_
  obtain ⟨⟨r1, F1, G1⟩, hc, hm⟩ := bind_elim hm
  refine mcallV (n := 2) (As := [.int 9, .int (G 6 (F 42).toNatClampNeg)]) (rest := []) C hw (mk_note l v a _ fu 9 (G 6 (F 42).toNatClampNeg) F G r1 F1 G1 hc) (mrecv_X12 C hw) mm_220 mm_221 mm_222 mm_27 mm_223 (by decide +kernel) rfl (by omega) (by omega) hl.1 rfl (Nat.le_of_ble_eq_true rfl) dX12_leaves_26 (fun H locs hw => ?_)
  exact mw_leaves_29 fu C hret x1 F1 G1 hm hw (lv_sub hl [0, 1] rfl)
theorem mw_leaves_6 (fu : Nat) {res : Int32 × PF × PG} (C : mMC p R s m args c A v RX12 cX12_leaves 3 2 45) (hret : ∀ (H1 : Heap) (locs1 : List Loc) (ls1 : Array Slot) (pc : Nat), mMW s A v a res.2.1 res.2.2 H1 locs1 → narrow .boolean (.int res.1) = .int res.1 → decode cX12_leaves pc = .ok (.ireturn, 1) → W p l e R s m args below meth c H1 locs1 0 0 Q (F0 m pc ls1 [.int res.1])) (z0 : Int32) (F : PF) (G : PG) (hm : mb_leaves_6 fu z0 F G = some res) {H : Heap} {locs : List Loc} (hw : mMW s A v a F G H locs) {ls : Array Slot} (hl : lv_has ls 3 [(0, .ref (a 212))]) : W p l e R s m args below meth c H locs 0 0 Q (F0 m 6 ls [.int z0]) := by
  have hx := C.1
  have hb := C.2.1
  unfold mb_leaves_6 at hm
  refine lv_istore_n (lv' := [(1, .int z0), (0, .ref (a 212))]) hx hb dX12_leaves_6 rfl hl (by decide) rfl (fun ls hl => ?_)
  refine lv_aload_n hx hb dX12_leaves_7 rfl (lv_at hl 1 rfl) ?_
  refine mg_X12_389 C hw dX12_leaves_8 ?_
  refine lv_if_ne (tgt := 29) hx hb dX12_leaves_11 (by decide) (fun c_1 => ?_) (fun c_1 => ?_)
  · have hm := (if_neg c_1).symm.trans hm
    exact mw_leaves_29 fu C hret z0 F G hm hw (lv_sub hl [1, 0] rfl)
  · have hm := (if_pos c_1).symm.trans hm
    exact mw_leaves_14 fu C hret z0 F G hm hw (lv_sub hl [1, 0] rfl)
theorem mw_leaves_0 (fu : Nat) {res : Int32 × PF × PG} (C : mMC p R s m args c A v RX12 cX12_leaves 3 2 45) (hret : ∀ (H1 : Heap) (locs1 : List Loc) (ls1 : Array Slot) (pc : Nat), mMW s A v a res.2.1 res.2.2 H1 locs1 → narrow .boolean (.int res.1) = .int res.1 → decode cX12_leaves pc = .ok (.ireturn, 1) → W p l e R s m args below meth c H1 locs1 0 0 Q (F0 m pc ls1 [.int res.1])) (F : PF) (G : PG) (hm : mb_leaves_0 fu F G = some res) {H : Heap} {locs : List Loc} (hw : mMW s A v a F G H locs) {ls : Array Slot} (hl : lv_has ls 3 [(0, .ref (a 212))]) : W p l e R s m args below meth c H locs 0 0 Q (F0 m 0 ls []) := by
  have hx := C.1
  have hb := C.2.1
  unfold mb_leaves_0 at hm
  refine lv_aload_n hx hb dX12_leaves_0 rfl (lv_at hl 0 rfl) ?_
  refine lv_bipush (v := 9) hx hb dX12_leaves_1 (by decide) ?_
  obtain ⟨⟨r1, F1, G1⟩, hc, hm⟩ := bind_elim hm
  refine mcallI (n := 1) (As := [.int 9]) (rest := []) C hw (mk_isWord l v a _ fu 9 F G r1 F1 G1 hc) (mrecv_X12 C hw) mm_162 mm_163 mm_164 mm_27 mm_165 (by decide +kernel) rfl (by omega) (by omega) hl.1 rfl (Nat.le_of_ble_eq_true rfl) dX12_leaves_3 (fun H locs hw => ?_)
  exact mw_leaves_6 fu C hret r1 F1 G1 hm hw (lv_sub hl [0] rfl)
theorem mk_leaves (l : Launch) (v : EV) (a : Nat → Nat) (sz : Nat) (fu : Nat) (F : PF) (G : PG) (r : Int32) (F1 : PF) (G1 : PG) (hm : mf_leaves fu F G = some (r, F1, G1)) : mMI l yX12_leaves cX12_leaves 3 (some .boolean) 2 45 v a sz [.ref (a 212)] F G r F1 G1 := mMI.of (ty := .boolean) (by decide) rfl (Nat.le_of_ble_eq_true rfl) (fun p e R s m args below meth c Q A H locs ls C hw hl hret => mw_leaves_0 fu (res := (r, F1, G1)) C hret F G hm hw hl)
def mH2 (l : Launch) (v : EV) (a : Nat → Nat) (rc : RC) (dd : Nat) : Prop := (∀ (sz : Nat) (F : PF) (G : PG) (r : Int32) (F1 : PF) (G1 : PG), rc 0 0 0 F G = some (r, F1, G1) → mMI l yX12_block cX12_block 1 (some .boolean) (dd + 307) (60 * dd + 18156) v a sz [.ref (a 212)] F G r F1 G1) ∧ (∀ (sz : Nat) (x : Int32) (F : PF) (G : PG) (r : Int32) (F1 : PF) (G1 : PG), rc 1 x 0 F G = some (r, F1, G1) → mMI l yX12_body cX12_body 5 (some .boolean) (dd + 307) (60 * dd + 18156) v a sz [.ref (a 212), .int x] F G r F1 G1) ∧ (∀ (sz : Nat) (F : PF) (G : PG) (r : Int32) (F1 : PF) (G1 : PG), rc 2 0 0 F G = some (r, F1, G1) → mMI l yX12_choice cX12_choice 3 (some .boolean) (dd + 307) (60 * dd + 18156) v a sz [.ref (a 212)] F G r F1 G1) ∧ (∀ (sz : Nat) (F : PF) (G : PG) (r : Int32) (F1 : PF) (G1 : PG), rc 3 0 0 F G = some (r, F1, G1) → mMI l yX12_counted cX12_counted 7 (some .boolean) (dd + 307) (60 * dd + 18156) v a sz [.ref (a 212)] F G r F1 G1) ∧ (∀ (sz : Nat) (F : PF) (G : PG) (r : Int32) (F1 : PF) (G1 : PG), rc 4 0 0 F G = some (r, F1, G1) → mMI l yX12_loop cX12_loop 4 (some .boolean) (dd + 307) (60 * dd + 18156) v a sz [.ref (a 212)] F G r F1 G1) ∧ (∀ (sz : Nat) (F : PF) (G : PG) (r : Int32) (F1 : PF) (G1 : PG), rc 5 0 0 F G = some (r, F1, G1) → mMI l yX12_scoped cX12_scoped 3 (some .boolean) (dd + 307) (60 * dd + 18156) v a sz [.ref (a 212)] F G r F1 G1) ∧ (∀ (sz : Nat) (F : PF) (G : PG) (r : Int32) (F1 : PF) (G1 : PG), rc 6 0 0 F G = some (r, F1, G1) → mMI l yX12_statement cX12_statement 3 (some .boolean) (dd + 307) (60 * dd + 18156) v a sz [.ref (a 212)] F G r F1 G1) ∧ (∀ (sz : Nat) (F : PF) (G : PG) (r : Int32) (F1 : PF) (G1 : PG), rc 7 0 0 F G = some (r, F1, G1) → mMI l yX12_turnLoop cX12_turnLoop 4 (some .boolean) (dd + 307) (60 * dd + 18156) v a sz [.ref (a 212)] F G r F1 G1)
def mb_block_41 (fu : Nat) (rc : RC) (z0 : Int32) (F : PF) (G : PG) : PR := if b01 z0 = true then (some (z0, F, G)) else none
def mb_block_35 (fu : Nat) (rc : RC) (F : PF) (G : PG) : PR := (mf_closeSign fu 27 F G).bind (fun q => mb_block_41 fu rc q.1 q.2.1 q.2.2)
def mb_block_31 (fu : Nat) (rc : RC) (ag_11 : PF → PG → PR) (z0 : Int32) (F : PF) (G : PG) : PR := ag_11 F G
def mb_block_27 (fu : Nat) (rc : RC) (ag_11 : PF → PG → PR) (F : PF) (G : PG) : PR := (rc 6 0 0 F G).bind (fun q => mb_block_31 fu rc ag_11 q.1 q.2.1 q.2.2)
def mb_block_24 (fu : Nat) (rc : RC) (ag_11 : PF → PG → PR) (z0 : Int32) (F : PF) (G : PG) : PR := if z0 = (0 : Int32) then mb_block_27 fu rc ag_11 F G else mb_block_35 fu rc F G
def mb_block_18 (fu : Nat) (rc : RC) (ag_11 : PF → PG → PR) (F : PF) (G : PG) : PR := (mf_isSign fu 27 F G).bind (fun q => mb_block_24 fu rc ag_11 q.1 q.2.1 q.2.2)
def mb_block_11 (fu : Nat) (rc : RC) (ag_11 : PF → PG → PR) (F : PF) (G : PG) : PR := if (F 44) = (0 : Int32) then mb_block_18 fu rc ag_11 F G else mb_block_35 fu rc F G
def ml_block_11 (fu : Nat) (rc : RC) : Nat → PF → PG → PR
  | 0 => fun _ _ => none
  | n + 1 => fun F G => mb_block_11 fu rc (ml_block_11 fu rc n) F G
def mb_block_9 (fu : Nat) (rc : RC) (F : PF) (G : PG) : PR := some (0, F, G)
def mb_block_6 (fu : Nat) (rc : RC) (z0 : Int32) (F : PF) (G : PG) : PR := if z0 = (0 : Int32) then mb_block_9 fu rc F G else ml_block_11 fu rc fu F G
def mb_block_0 (fu : Nat) (rc : RC) (F : PF) (G : PG) : PR := (mf_openSign fu 26 F G).bind (fun q => mb_block_6 fu rc q.1 q.2.1 q.2.2)
def mh_block (fu : Nat) (rc : RC) (F : PF) (G : PG) : PR := mb_block_0 fu rc F G
theorem mw_block_41 (fu : Nat) (rc : RC) {dd : Nat} (hr : mH2 l v a rc dd) {res : Int32 × PF × PG} (C : mMC p R s m args c A v RX12 cX12_block 1 (dd + 1 + 307) (60 * (dd + 1) + 18156)) (hret : ∀ (H1 : Heap) (locs1 : List Loc) (ls1 : Array Slot) (pc : Nat), mMW s A v a res.2.1 res.2.2 H1 locs1 → narrow .boolean (.int res.1) = .int res.1 → decode cX12_block pc = .ok (.ireturn, 1) → W p l e R s m args below meth c H1 locs1 0 0 Q (F0 m pc ls1 [.int res.1])) (z0 : Int32) (F : PF) (G : PG) (hm : mb_block_41 fu rc z0 F G = some res) {H : Heap} {locs : List Loc} (hw : mMW s A v a F G H locs) {ls : Array Slot} (hl : lv_has ls 1 []) : W p l e R s m args below meth c H locs 0 0 Q (F0 m 41 ls [.int z0]) := by
  have hx := C.1
  have hb := C.2.1
  unfold mb_block_41 at hm
  obtain ⟨hz, hm⟩ := b01_elim hm
  obtain rfl := Option.some.inj hm
  exact hret _ _ _ _ hw (b01_nar hz) dX12_block_41
theorem mw_block_35 (fu : Nat) (rc : RC) {dd : Nat} (hr : mH2 l v a rc dd) {res : Int32 × PF × PG} (C : mMC p R s m args c A v RX12 cX12_block 1 (dd + 1 + 307) (60 * (dd + 1) + 18156)) (hret : ∀ (H1 : Heap) (locs1 : List Loc) (ls1 : Array Slot) (pc : Nat), mMW s A v a res.2.1 res.2.2 H1 locs1 → narrow .boolean (.int res.1) = .int res.1 → decode cX12_block pc = .ok (.ireturn, 1) → W p l e R s m args below meth c H1 locs1 0 0 Q (F0 m pc ls1 [.int res.1])) (F : PF) (G : PG) (hm : mb_block_35 fu rc F G = some res) {H : Heap} {locs : List Loc} (hw : mMW s A v a F G H locs) {ls : Array Slot} (hl : lv_has ls 1 [(0, .ref (a 212))]) : W p l e R s m args below meth c H locs 0 0 Q (F0 m 35 ls []) := by
  have hx := C.1
  have hb := C.2.1
  unfold mb_block_35 at hm
  refine lv_aload_n hx hb dX12_block_35 rfl (lv_at hl 0 rfl) ?_
  refine lv_bipush (v := 27) hx hb dX12_block_36 (by decide) ?_
  obtain ⟨⟨r1, F1, G1⟩, hc, hm⟩ := bind_elim hm
  refine mcallI (n := 1) (As := [.int 27]) (rest := []) C hw (mk_closeSign l v a _ fu 27 F G r1 F1 G1 hc) (mrecv_X12 C hw) mm_248 mm_249 mm_250 mm_27 mm_251 (by decide +kernel) rfl (by omega) (by omega) hl.1 rfl (Nat.le_of_ble_eq_true rfl) dX12_block_38 (fun H locs hw => ?_)
  exact mw_block_41 fu rc hr C hret r1 F1 G1 hm hw (lv_sub hl [] rfl)
theorem mw_block_31 (fu : Nat) (rc : RC) {dd : Nat} (hr : mH2 l v a rc dd) {res : Int32 × PF × PG} (C : mMC p R s m args c A v RX12 cX12_block 1 (dd + 1 + 307) (60 * (dd + 1) + 18156)) (hret : ∀ (H1 : Heap) (locs1 : List Loc) (ls1 : Array Slot) (pc : Nat), mMW s A v a res.2.1 res.2.2 H1 locs1 → narrow .boolean (.int res.1) = .int res.1 → decode cX12_block pc = .ok (.ireturn, 1) → W p l e R s m args below meth c H1 locs1 0 0 Q (F0 m pc ls1 [.int res.1])) (ag_11 : PF → PG → PR) (hag_11 : ∀ (F : PF) (G : PG), ag_11 F G = some res → ∀ (H : Heap) (locs : List Loc) (ls : Array Slot), mMW s A v a F G H locs → lv_has ls 1 [(0, .ref (a 212))] → W p l e R s m args below meth c H locs 0 0 Q (F0 m 11 ls [])) (z0 : Int32) (F : PF) (G : PG) (hm : mb_block_31 fu rc ag_11 z0 F G = some res) {H : Heap} {locs : List Loc} (hw : mMW s A v a F G H locs) {ls : Array Slot} (hl : lv_has ls 1 [(0, .ref (a 212))]) : W p l e R s m args below meth c H locs 0 0 Q (F0 m 31 ls [.int z0]) := by
  have hx := C.1
  have hb := C.2.1
  unfold mb_block_31 at hm
  refine lv_pop hx hb dX12_block_31 rfl ?_
  refine lv_goto (tgt := 11) hx hb dX12_block_32 (by decide) ?_
  exact hag_11 F G hm _ _ _ hw (lv_sub hl [0] rfl)
theorem mw_block_27 (fu : Nat) (rc : RC) {dd : Nat} (hr : mH2 l v a rc dd) {res : Int32 × PF × PG} (C : mMC p R s m args c A v RX12 cX12_block 1 (dd + 1 + 307) (60 * (dd + 1) + 18156)) (hret : ∀ (H1 : Heap) (locs1 : List Loc) (ls1 : Array Slot) (pc : Nat), mMW s A v a res.2.1 res.2.2 H1 locs1 → narrow .boolean (.int res.1) = .int res.1 → decode cX12_block pc = .ok (.ireturn, 1) → W p l e R s m args below meth c H1 locs1 0 0 Q (F0 m pc ls1 [.int res.1])) (ag_11 : PF → PG → PR) (hag_11 : ∀ (F : PF) (G : PG), ag_11 F G = some res → ∀ (H : Heap) (locs : List Loc) (ls : Array Slot), mMW s A v a F G H locs → lv_has ls 1 [(0, .ref (a 212))] → W p l e R s m args below meth c H locs 0 0 Q (F0 m 11 ls [])) (F : PF) (G : PG) (hm : mb_block_27 fu rc ag_11 F G = some res) {H : Heap} {locs : List Loc} (hw : mMW s A v a F G H locs) {ls : Array Slot} (hl : lv_has ls 1 [(0, .ref (a 212))]) : W p l e R s m args below meth c H locs 0 0 Q (F0 m 27 ls []) := by
  have hx := C.1
  have hb := C.2.1
  unfold mb_block_27 at hm
  refine lv_aload_n hx hb dX12_block_27 rfl (lv_at hl 0 rfl) ?_
  obtain ⟨⟨r1, F1, G1⟩, hc, hm⟩ := bind_elim hm
  refine mcallI (n := 0) (As := []) (rest := []) C hw (hr.2.2.2.2.2.2.1 _ F G r1 F1 G1 hc) (mrecv_X12 C hw) mm_342 mm_343 mm_344 mm_27 mm_382 (by decide +kernel) rfl (by omega) (by omega) hl.1 rfl (Nat.le_of_ble_eq_true rfl) dX12_block_28 (fun H locs hw => ?_)
  exact mw_block_31 fu rc hr C hret ag_11 hag_11 r1 F1 G1 hm hw (lv_sub hl [0] rfl)
theorem mw_block_24 (fu : Nat) (rc : RC) {dd : Nat} (hr : mH2 l v a rc dd) {res : Int32 × PF × PG} (C : mMC p R s m args c A v RX12 cX12_block 1 (dd + 1 + 307) (60 * (dd + 1) + 18156)) (hret : ∀ (H1 : Heap) (locs1 : List Loc) (ls1 : Array Slot) (pc : Nat), mMW s A v a res.2.1 res.2.2 H1 locs1 → narrow .boolean (.int res.1) = .int res.1 → decode cX12_block pc = .ok (.ireturn, 1) → W p l e R s m args below meth c H1 locs1 0 0 Q (F0 m pc ls1 [.int res.1])) (ag_11 : PF → PG → PR) (hag_11 : ∀ (F : PF) (G : PG), ag_11 F G = some res → ∀ (H : Heap) (locs : List Loc) (ls : Array Slot), mMW s A v a F G H locs → lv_has ls 1 [(0, .ref (a 212))] → W p l e R s m args below meth c H locs 0 0 Q (F0 m 11 ls [])) (z0 : Int32) (F : PF) (G : PG) (hm : mb_block_24 fu rc ag_11 z0 F G = some res) {H : Heap} {locs : List Loc} (hw : mMW s A v a F G H locs) {ls : Array Slot} (hl : lv_has ls 1 [(0, .ref (a 212))]) : W p l e R s m args below meth c H locs 0 0 Q (F0 m 24 ls [.int z0]) := by
  have hx := C.1
  have hb := C.2.1
  unfold mb_block_24 at hm
  refine lv_if_ne (tgt := 35) hx hb dX12_block_24 (by decide) (fun c_1 => ?_) (fun c_1 => ?_)
  · have hm := (if_neg c_1).symm.trans hm
    exact mw_block_35 fu rc hr C hret F G hm hw (lv_sub hl [0] rfl)
  · have hm := (if_pos c_1).symm.trans hm
    exact mw_block_27 fu rc hr C hret ag_11 hag_11 F G hm hw (lv_sub hl [0] rfl)
theorem mw_block_18 (fu : Nat) (rc : RC) {dd : Nat} (hr : mH2 l v a rc dd) {res : Int32 × PF × PG} (C : mMC p R s m args c A v RX12 cX12_block 1 (dd + 1 + 307) (60 * (dd + 1) + 18156)) (hret : ∀ (H1 : Heap) (locs1 : List Loc) (ls1 : Array Slot) (pc : Nat), mMW s A v a res.2.1 res.2.2 H1 locs1 → narrow .boolean (.int res.1) = .int res.1 → decode cX12_block pc = .ok (.ireturn, 1) → W p l e R s m args below meth c H1 locs1 0 0 Q (F0 m pc ls1 [.int res.1])) (ag_11 : PF → PG → PR) (hag_11 : ∀ (F : PF) (G : PG), ag_11 F G = some res → ∀ (H : Heap) (locs : List Loc) (ls : Array Slot), mMW s A v a F G H locs → lv_has ls 1 [(0, .ref (a 212))] → W p l e R s m args below meth c H locs 0 0 Q (F0 m 11 ls [])) (F : PF) (G : PG) (hm : mb_block_18 fu rc ag_11 F G = some res) {H : Heap} {locs : List Loc} (hw : mMW s A v a F G H locs) {ls : Array Slot} (hl : lv_has ls 1 [(0, .ref (a 212))]) : W p l e R s m args below meth c H locs 0 0 Q (F0 m 18 ls []) := by
  have hx := C.1
  have hb := C.2.1
  unfold mb_block_18 at hm
  refine lv_aload_n hx hb dX12_block_18 rfl (lv_at hl 0 rfl) ?_
  refine lv_bipush (v := 27) hx hb dX12_block_19 (by decide) ?_
  obtain ⟨⟨r1, F1, G1⟩, hc, hm⟩ := bind_elim hm
  refine mcallI (n := 1) (As := [.int 27]) (rest := []) C hw (mk_isSign l v a _ fu 27 F G r1 F1 G1 hc) (mrecv_X12 C hw) mm_183 mm_184 mm_185 mm_27 mm_186 (by decide +kernel) rfl (by omega) (by omega) hl.1 rfl (Nat.le_of_ble_eq_true rfl) dX12_block_21 (fun H locs hw => ?_)
  exact mw_block_24 fu rc hr C hret ag_11 hag_11 r1 F1 G1 hm hw (lv_sub hl [0] rfl)
theorem mw_block_11 (fu : Nat) (rc : RC) {dd : Nat} (hr : mH2 l v a rc dd) {res : Int32 × PF × PG} (C : mMC p R s m args c A v RX12 cX12_block 1 (dd + 1 + 307) (60 * (dd + 1) + 18156)) (hret : ∀ (H1 : Heap) (locs1 : List Loc) (ls1 : Array Slot) (pc : Nat), mMW s A v a res.2.1 res.2.2 H1 locs1 → narrow .boolean (.int res.1) = .int res.1 → decode cX12_block pc = .ok (.ireturn, 1) → W p l e R s m args below meth c H1 locs1 0 0 Q (F0 m pc ls1 [.int res.1])) (ag_11 : PF → PG → PR) (hag_11 : ∀ (F : PF) (G : PG), ag_11 F G = some res → ∀ (H : Heap) (locs : List Loc) (ls : Array Slot), mMW s A v a F G H locs → lv_has ls 1 [(0, .ref (a 212))] → W p l e R s m args below meth c H locs 0 0 Q (F0 m 11 ls [])) (F : PF) (G : PG) (hm : mb_block_11 fu rc ag_11 F G = some res) {H : Heap} {locs : List Loc} (hw : mMW s A v a F G H locs) {ls : Array Slot} (hl : lv_has ls 1 [(0, .ref (a 212))]) : W p l e R s m args below meth c H locs 0 0 Q (F0 m 11 ls []) := by
  have hx := C.1
  have hb := C.2.1
  unfold mb_block_11 at hm
  refine lv_aload_n hx hb dX12_block_11 rfl (lv_at hl 0 rfl) ?_
  refine mg_X12_230 C hw dX12_block_12 ?_
  refine lv_if_ne (tgt := 35) hx hb dX12_block_15 (by decide) (fun c_1 => ?_) (fun c_1 => ?_)
  · have hm := (if_neg c_1).symm.trans hm
    exact mw_block_35 fu rc hr C hret F G hm hw (lv_sub hl [0] rfl)
  · have hm := (if_pos c_1).symm.trans hm
    exact mw_block_18 fu rc hr C hret ag_11 hag_11 F G hm hw (lv_sub hl [0] rfl)
theorem mwl_block_11 (fu : Nat) (rc : RC) {dd : Nat} (hr : mH2 l v a rc dd) {res : Int32 × PF × PG} (C : mMC p R s m args c A v RX12 cX12_block 1 (dd + 1 + 307) (60 * (dd + 1) + 18156)) (hret : ∀ (H1 : Heap) (locs1 : List Loc) (ls1 : Array Slot) (pc : Nat), mMW s A v a res.2.1 res.2.2 H1 locs1 → narrow .boolean (.int res.1) = .int res.1 → decode cX12_block pc = .ok (.ireturn, 1) → W p l e R s m args below meth c H1 locs1 0 0 Q (F0 m pc ls1 [.int res.1])) : ∀ (n : Nat) (F : PF) (G : PG) (hm : ml_block_11 fu rc n F G = some res) {H : Heap} {locs : List Loc} (hw : mMW s A v a F G H locs) {ls : Array Slot} (hl : lv_has ls 1 [(0, .ref (a 212))]), W p l e R s m args below meth c H locs 0 0 Q (F0 m 11 ls []) := by
  intro n
  induction n with
  | zero =>
    intro F G hm
    exact no_elim (show (none : PR) = some res from hm)
  | succ n ih =>
    intro F G hm H locs hw ls hl
    exact mw_block_11 fu rc hr C hret (ml_block_11 fu rc n) (fun F G hm H locs ls hw hl => ih F G hm hw hl) F G hm hw hl
theorem mw_block_9 (fu : Nat) (rc : RC) {dd : Nat} (hr : mH2 l v a rc dd) {res : Int32 × PF × PG} (C : mMC p R s m args c A v RX12 cX12_block 1 (dd + 1 + 307) (60 * (dd + 1) + 18156)) (hret : ∀ (H1 : Heap) (locs1 : List Loc) (ls1 : Array Slot) (pc : Nat), mMW s A v a res.2.1 res.2.2 H1 locs1 → narrow .boolean (.int res.1) = .int res.1 → decode cX12_block pc = .ok (.ireturn, 1) → W p l e R s m args below meth c H1 locs1 0 0 Q (F0 m pc ls1 [.int res.1])) (F : PF) (G : PG) (hm : mb_block_9 fu rc F G = some res) {H : Heap} {locs : List Loc} (hw : mMW s A v a F G H locs) {ls : Array Slot} (hl : lv_has ls 1 []) : W p l e R s m args below meth c H locs 0 0 Q (F0 m 9 ls []) := by
  have hx := C.1
  have hb := C.2.1
  unfold mb_block_9 at hm
  refine lv_iconst (v := 0) hx hb dX12_block_9 (by decide) ?_
  obtain rfl := Option.some.inj hm
  exact hret _ _ _ _ hw (b01_nar (v := 0) (Or.inl rfl)) dX12_block_10
theorem mw_block_6 (fu : Nat) (rc : RC) {dd : Nat} (hr : mH2 l v a rc dd) {res : Int32 × PF × PG} (C : mMC p R s m args c A v RX12 cX12_block 1 (dd + 1 + 307) (60 * (dd + 1) + 18156)) (hret : ∀ (H1 : Heap) (locs1 : List Loc) (ls1 : Array Slot) (pc : Nat), mMW s A v a res.2.1 res.2.2 H1 locs1 → narrow .boolean (.int res.1) = .int res.1 → decode cX12_block pc = .ok (.ireturn, 1) → W p l e R s m args below meth c H1 locs1 0 0 Q (F0 m pc ls1 [.int res.1])) (z0 : Int32) (F : PF) (G : PG) (hm : mb_block_6 fu rc z0 F G = some res) {H : Heap} {locs : List Loc} (hw : mMW s A v a F G H locs) {ls : Array Slot} (hl : lv_has ls 1 [(0, .ref (a 212))]) : W p l e R s m args below meth c H locs 0 0 Q (F0 m 6 ls [.int z0]) := by
  have hx := C.1
  have hb := C.2.1
  unfold mb_block_6 at hm
  refine lv_if_ne (tgt := 11) hx hb dX12_block_6 (by decide) (fun c_1 => ?_) (fun c_1 => ?_)
  · have hm := (if_neg c_1).symm.trans hm
    exact mwl_block_11 fu rc hr C hret fu F G hm hw (lv_sub hl [0] rfl)
  · have hm := (if_pos c_1).symm.trans hm
    exact mw_block_9 fu rc hr C hret F G hm hw (lv_sub hl [] rfl)
theorem mw_block_0 (fu : Nat) (rc : RC) {dd : Nat} (hr : mH2 l v a rc dd) {res : Int32 × PF × PG} (C : mMC p R s m args c A v RX12 cX12_block 1 (dd + 1 + 307) (60 * (dd + 1) + 18156)) (hret : ∀ (H1 : Heap) (locs1 : List Loc) (ls1 : Array Slot) (pc : Nat), mMW s A v a res.2.1 res.2.2 H1 locs1 → narrow .boolean (.int res.1) = .int res.1 → decode cX12_block pc = .ok (.ireturn, 1) → W p l e R s m args below meth c H1 locs1 0 0 Q (F0 m pc ls1 [.int res.1])) (F : PF) (G : PG) (hm : mb_block_0 fu rc F G = some res) {H : Heap} {locs : List Loc} (hw : mMW s A v a F G H locs) {ls : Array Slot} (hl : lv_has ls 1 [(0, .ref (a 212))]) : W p l e R s m args below meth c H locs 0 0 Q (F0 m 0 ls []) := by
  have hx := C.1
  have hb := C.2.1
  unfold mb_block_0 at hm
  refine lv_aload_n hx hb dX12_block_0 rfl (lv_at hl 0 rfl) ?_
  refine lv_bipush (v := 26) hx hb dX12_block_1 (by decide) ?_
  obtain ⟨⟨r1, F1, G1⟩, hc, hm⟩ := bind_elim hm
  refine mcallI (n := 1) (As := [.int 26]) (rest := []) C hw (mk_openSign l v a _ fu 26 F G r1 F1 G1 hc) (mrecv_X12 C hw) mm_241 mm_242 mm_243 mm_27 mm_244 (by decide +kernel) rfl (by omega) (by omega) hl.1 rfl (Nat.le_of_ble_eq_true rfl) dX12_block_3 (fun H locs hw => ?_)
  exact mw_block_6 fu rc hr C hret r1 F1 G1 hm hw (lv_sub hl [0] rfl)
theorem mq_block (l : Launch) (v : EV) (a : Nat → Nat) (sz : Nat) (fu : Nat) (rc : RC) {dd : Nat} (hr : mH2 l v a rc dd) (F : PF) (G : PG) (r : Int32) (F1 : PF) (G1 : PG) (hm : mh_block fu rc F G = some (r, F1, G1)) : mMI l yX12_block cX12_block 1 (some .boolean) (dd + 1 + 307) (60 * (dd + 1) + 18156) v a sz [.ref (a 212)] F G r F1 G1 := mMI.of (ty := .boolean) (by decide) rfl (Nat.le_of_ble_eq_true rfl) (fun p e R s m args below meth c Q A H locs ls C hw hl hret => mw_block_0 fu rc hr (res := (r, F1, G1)) C hret F G hm hw hl)
def mb_body_103 (fu : Nat) (rc : RC) (x4 : Int32) (F : PF) (G : PG) : PR := if b01 x4 = true then (some (x4, F, G)) else none
def mb_body_98 (fu : Nat) (rc : RC) (x2 : Int32) (x4 : Int32) (F : PF) (G : PG) : PR := mb_body_103 fu rc x4 (fup F 63 x2) G
def mb_body_90 (fu : Nat) (rc : RC) (x2 : Int32) (x4 : Int32) (F : PF) (G : PG) : PR := mb_body_98 fu rc x2 x4 (fup F 65 (F 63)) G
def mb_body_85 (fu : Nat) (rc : RC) (x2 : Int32) (x3 : Int32) (x4 : Int32) (F : PF) (G : PG) : PR := mb_body_90 fu rc x2 x4 (fup F 64 x3) G
def mb_body_77 (fu : Nat) (rc : RC) (x2 : Int32) (x3 : Int32) (x4 : Int32) (F : PF) (G : PG) : PR := mb_body_85 fu rc x2 x3 x4 (fup F 66 (F 64)) G
def mb_body_74 (fu : Nat) (rc : RC) (x2 : Int32) (x4 : Int32) (F : PF) (G : PG) : PR := mb_body_90 fu rc x2 x4 F G
def mb_body_69 (fu : Nat) (rc : RC) (x2 : Int32) (x3 : Int32) (x4 : Int32) (F : PF) (G : PG) : PR := mb_body_74 fu rc x2 x4 (fup F 64 x3) G
def mb_body_60 (fu : Nat) (rc : RC) (x1 : Int32) (x2 : Int32) (x3 : Int32) (x4 : Int32) (F : PF) (G : PG) : PR := (mf_settle fu (F 64) x1 F G).bind (fun q => mb_body_69 fu rc x2 x3 x4 q.2.1 q.2.2)
def mb_body_55 (fu : Nat) (rc : RC) (x1 : Int32) (x2 : Int32) (x3 : Int32) (x4 : Int32) (F : PF) (G : PG) : PR := if x1 = (-1 : Int32) then mb_body_77 fu rc x2 x3 x4 F G else mb_body_60 fu rc x1 x2 x3 x4 F G
def mb_body_43 (fu : Nat) (rc : RC) (x1 : Int32) (x2 : Int32) (x3 : Int32) (z0 : Int32) (F : PF) (G : PG) : PR := mb_body_55 fu rc x1 x2 x3 z0 (fup F 51 ((F 51) - (1 : Int32))) G
def mb_body_38 (fu : Nat) (rc : RC) (x1 : Int32) (x2 : Int32) (x3 : Int32) (z0 : Int32) (F : PF) (G : PG) : PR := (rc 5 0 0 F G).bind (fun q => mb_body_43 fu rc x1 x2 x3 q.1 q.2.1 q.2.2)
def mb_body_30 (fu : Nat) (rc : RC) (x1 : Int32) (x2 : Int32) (x3 : Int32) (F : PF) (G : PG) : PR := (mf_step fu 15 0 0 F G).bind (fun q => mb_body_38 fu rc x1 x2 x3 q.1 q.2.1 q.2.2)
def mb_body_20 (fu : Nat) (rc : RC) (x1 : Int32) (x2 : Int32) (x3 : Int32) (F : PF) (G : PG) : PR := mb_body_30 fu rc x1 x2 x3 (fup F 51 ((F 51) + (1 : Int32))) G
def mb_body_15 (fu : Nat) (rc : RC) (x1 : Int32) (x2 : Int32) (x3 : Int32) (F : PF) (G : PG) : PR := mb_body_20 fu rc x1 x2 x3 (fup F 64 (-1 : Int32)) G
def mb_body_0 (fu : Nat) (rc : RC) (x1 : Int32) (F : PF) (G : PG) : PR := mb_body_15 fu rc x1 (F 63) (F 64) (fup F 63 (-1 : Int32)) G
def mh_body (fu : Nat) (rc : RC) (x1 : Int32) (F : PF) (G : PG) : PR := mb_body_0 fu rc x1 F G
theorem mw_body_103 (fu : Nat) (rc : RC) {dd : Nat} (hr : mH2 l v a rc dd) {res : Int32 × PF × PG} (C : mMC p R s m args c A v RX12 cX12_body 5 (dd + 1 + 307) (60 * (dd + 1) + 18156)) (hret : ∀ (H1 : Heap) (locs1 : List Loc) (ls1 : Array Slot) (pc : Nat), mMW s A v a res.2.1 res.2.2 H1 locs1 → narrow .boolean (.int res.1) = .int res.1 → decode cX12_body pc = .ok (.ireturn, 1) → W p l e R s m args below meth c H1 locs1 0 0 Q (F0 m pc ls1 [.int res.1])) (x4 : Int32) (F : PF) (G : PG) (hm : mb_body_103 fu rc x4 F G = some res) {H : Heap} {locs : List Loc} (hw : mMW s A v a F G H locs) {ls : Array Slot} (hl : lv_has ls 5 [(4, .int x4)]) : W p l e R s m args below meth c H locs 0 0 Q (F0 m 103 ls []) := by
  have hx := C.1
  have hb := C.2.1
  unfold mb_body_103 at hm
  refine lv_iload hx hb dX12_body_103 (lv_at hl 0 rfl) ?_
  obtain ⟨hz, hm⟩ := b01_elim hm
  obtain rfl := Option.some.inj hm
  exact hret _ _ _ _ hw (b01_nar hz) dX12_body_105
theorem mw_body_98 (fu : Nat) (rc : RC) {dd : Nat} (hr : mH2 l v a rc dd) {res : Int32 × PF × PG} (C : mMC p R s m args c A v RX12 cX12_body 5 (dd + 1 + 307) (60 * (dd + 1) + 18156)) (hret : ∀ (H1 : Heap) (locs1 : List Loc) (ls1 : Array Slot) (pc : Nat), mMW s A v a res.2.1 res.2.2 H1 locs1 → narrow .boolean (.int res.1) = .int res.1 → decode cX12_body pc = .ok (.ireturn, 1) → W p l e R s m args below meth c H1 locs1 0 0 Q (F0 m pc ls1 [.int res.1])) (x2 : Int32) (x4 : Int32) (F : PF) (G : PG) (hm : mb_body_98 fu rc x2 x4 F G = some res) {H : Heap} {locs : List Loc} (hw : mMW s A v a F G H locs) {ls : Array Slot} (hl : lv_has ls 5 [(0, .ref (a 212)), (2, .int x2), (4, .int x4)]) : W p l e R s m args below meth c H locs 0 0 Q (F0 m 98 ls []) := by
  have hx := C.1
  have hb := C.2.1
  unfold mb_body_98 at hm
  refine lv_aload_n hx hb dX12_body_98 rfl (lv_at hl 0 rfl) ?_
  refine lv_iload_n hx hb dX12_body_99 rfl (lv_at hl 1 rfl) ?_
  refine mp_X12_377 C hw dX12_body_100 (fun H locs hw => ?_)
  exact mw_body_103 fu rc hr C hret x4 (fup F 63 x2) G hm hw (lv_sub hl [2] rfl)
theorem mw_body_90 (fu : Nat) (rc : RC) {dd : Nat} (hr : mH2 l v a rc dd) {res : Int32 × PF × PG} (C : mMC p R s m args c A v RX12 cX12_body 5 (dd + 1 + 307) (60 * (dd + 1) + 18156)) (hret : ∀ (H1 : Heap) (locs1 : List Loc) (ls1 : Array Slot) (pc : Nat), mMW s A v a res.2.1 res.2.2 H1 locs1 → narrow .boolean (.int res.1) = .int res.1 → decode cX12_body pc = .ok (.ireturn, 1) → W p l e R s m args below meth c H1 locs1 0 0 Q (F0 m pc ls1 [.int res.1])) (x2 : Int32) (x4 : Int32) (F : PF) (G : PG) (hm : mb_body_90 fu rc x2 x4 F G = some res) {H : Heap} {locs : List Loc} (hw : mMW s A v a F G H locs) {ls : Array Slot} (hl : lv_has ls 5 [(0, .ref (a 212)), (2, .int x2), (4, .int x4)]) : W p l e R s m args below meth c H locs 0 0 Q (F0 m 90 ls []) := by
  have hx := C.1
  have hb := C.2.1
  unfold mb_body_90 at hm
  refine lv_aload_n hx hb dX12_body_90 rfl (lv_at hl 0 rfl) ?_
  refine lv_aload_n hx hb dX12_body_91 rfl (lv_at hl 0 rfl) ?_
  refine mg_X12_377 C hw dX12_body_92 ?_
  refine mp_X12_448 C hw dX12_body_95 (fun H locs hw => ?_)
  exact mw_body_98 fu rc hr C hret x2 x4 (fup F 65 (F 63)) G hm hw (lv_sub hl [0, 1, 2] rfl)
theorem mw_body_85 (fu : Nat) (rc : RC) {dd : Nat} (hr : mH2 l v a rc dd) {res : Int32 × PF × PG} (C : mMC p R s m args c A v RX12 cX12_body 5 (dd + 1 + 307) (60 * (dd + 1) + 18156)) (hret : ∀ (H1 : Heap) (locs1 : List Loc) (ls1 : Array Slot) (pc : Nat), mMW s A v a res.2.1 res.2.2 H1 locs1 → narrow .boolean (.int res.1) = .int res.1 → decode cX12_body pc = .ok (.ireturn, 1) → W p l e R s m args below meth c H1 locs1 0 0 Q (F0 m pc ls1 [.int res.1])) (x2 : Int32) (x3 : Int32) (x4 : Int32) (F : PF) (G : PG) (hm : mb_body_85 fu rc x2 x3 x4 F G = some res) {H : Heap} {locs : List Loc} (hw : mMW s A v a F G H locs) {ls : Array Slot} (hl : lv_has ls 5 [(0, .ref (a 212)), (2, .int x2), (3, .int x3), (4, .int x4)]) : W p l e R s m args below meth c H locs 0 0 Q (F0 m 85 ls []) := by
  have hx := C.1
  have hb := C.2.1
  unfold mb_body_85 at hm
  refine lv_aload_n hx hb dX12_body_85 rfl (lv_at hl 0 rfl) ?_
  refine lv_iload_n hx hb dX12_body_86 rfl (lv_at hl 2 rfl) ?_
  refine mp_X12_380 C hw dX12_body_87 (fun H locs hw => ?_)
  exact mw_body_90 fu rc hr C hret x2 x4 (fup F 64 x3) G hm hw (lv_sub hl [0, 1, 3] rfl)
theorem mw_body_77 (fu : Nat) (rc : RC) {dd : Nat} (hr : mH2 l v a rc dd) {res : Int32 × PF × PG} (C : mMC p R s m args c A v RX12 cX12_body 5 (dd + 1 + 307) (60 * (dd + 1) + 18156)) (hret : ∀ (H1 : Heap) (locs1 : List Loc) (ls1 : Array Slot) (pc : Nat), mMW s A v a res.2.1 res.2.2 H1 locs1 → narrow .boolean (.int res.1) = .int res.1 → decode cX12_body pc = .ok (.ireturn, 1) → W p l e R s m args below meth c H1 locs1 0 0 Q (F0 m pc ls1 [.int res.1])) (x2 : Int32) (x3 : Int32) (x4 : Int32) (F : PF) (G : PG) (hm : mb_body_77 fu rc x2 x3 x4 F G = some res) {H : Heap} {locs : List Loc} (hw : mMW s A v a F G H locs) {ls : Array Slot} (hl : lv_has ls 5 [(0, .ref (a 212)), (2, .int x2), (3, .int x3), (4, .int x4)]) : W p l e R s m args below meth c H locs 0 0 Q (F0 m 77 ls []) := by
  have hx := C.1
  have hb := C.2.1
  unfold mb_body_77 at hm
  refine lv_aload_n hx hb dX12_body_77 rfl (lv_at hl 0 rfl) ?_
  refine lv_aload_n hx hb dX12_body_78 rfl (lv_at hl 0 rfl) ?_
  refine mg_X12_380 C hw dX12_body_79 ?_
  refine mp_X12_445 C hw dX12_body_82 (fun H locs hw => ?_)
  exact mw_body_85 fu rc hr C hret x2 x3 x4 (fup F 66 (F 64)) G hm hw (lv_sub hl [0, 1, 2, 3] rfl)
theorem mw_body_74 (fu : Nat) (rc : RC) {dd : Nat} (hr : mH2 l v a rc dd) {res : Int32 × PF × PG} (C : mMC p R s m args c A v RX12 cX12_body 5 (dd + 1 + 307) (60 * (dd + 1) + 18156)) (hret : ∀ (H1 : Heap) (locs1 : List Loc) (ls1 : Array Slot) (pc : Nat), mMW s A v a res.2.1 res.2.2 H1 locs1 → narrow .boolean (.int res.1) = .int res.1 → decode cX12_body pc = .ok (.ireturn, 1) → W p l e R s m args below meth c H1 locs1 0 0 Q (F0 m pc ls1 [.int res.1])) (x2 : Int32) (x4 : Int32) (F : PF) (G : PG) (hm : mb_body_74 fu rc x2 x4 F G = some res) {H : Heap} {locs : List Loc} (hw : mMW s A v a F G H locs) {ls : Array Slot} (hl : lv_has ls 5 [(0, .ref (a 212)), (2, .int x2), (4, .int x4)]) : W p l e R s m args below meth c H locs 0 0 Q (F0 m 74 ls []) := by
  have hx := C.1
  have hb := C.2.1
  unfold mb_body_74 at hm
  refine lv_goto (tgt := 90) hx hb dX12_body_74 (by decide) ?_
  exact mw_body_90 fu rc hr C hret x2 x4 F G hm hw (lv_sub hl [0, 1, 2] rfl)
theorem mw_body_69 (fu : Nat) (rc : RC) {dd : Nat} (hr : mH2 l v a rc dd) {res : Int32 × PF × PG} (C : mMC p R s m args c A v RX12 cX12_body 5 (dd + 1 + 307) (60 * (dd + 1) + 18156)) (hret : ∀ (H1 : Heap) (locs1 : List Loc) (ls1 : Array Slot) (pc : Nat), mMW s A v a res.2.1 res.2.2 H1 locs1 → narrow .boolean (.int res.1) = .int res.1 → decode cX12_body pc = .ok (.ireturn, 1) → W p l e R s m args below meth c H1 locs1 0 0 Q (F0 m pc ls1 [.int res.1])) (x2 : Int32) (x3 : Int32) (x4 : Int32) (F : PF) (G : PG) (hm : mb_body_69 fu rc x2 x3 x4 F G = some res) {H : Heap} {locs : List Loc} (hw : mMW s A v a F G H locs) {ls : Array Slot} (hl : lv_has ls 5 [(0, .ref (a 212)), (2, .int x2), (3, .int x3), (4, .int x4)]) : W p l e R s m args below meth c H locs 0 0 Q (F0 m 69 ls []) := by
  have hx := C.1
  have hb := C.2.1
  unfold mb_body_69 at hm
  refine lv_aload_n hx hb dX12_body_69 rfl (lv_at hl 0 rfl) ?_
  refine lv_iload_n hx hb dX12_body_70 rfl (lv_at hl 2 rfl) ?_
  refine mp_X12_380 C hw dX12_body_71 (fun H locs hw => ?_)
  exact mw_body_74 fu rc hr C hret x2 x4 (fup F 64 x3) G hm hw (lv_sub hl [0, 1, 3] rfl)
theorem mw_body_60 (fu : Nat) (rc : RC) {dd : Nat} (hr : mH2 l v a rc dd) {res : Int32 × PF × PG} (C : mMC p R s m args c A v RX12 cX12_body 5 (dd + 1 + 307) (60 * (dd + 1) + 18156)) (hret : ∀ (H1 : Heap) (locs1 : List Loc) (ls1 : Array Slot) (pc : Nat), mMW s A v a res.2.1 res.2.2 H1 locs1 → narrow .boolean (.int res.1) = .int res.1 → decode cX12_body pc = .ok (.ireturn, 1) → W p l e R s m args below meth c H1 locs1 0 0 Q (F0 m pc ls1 [.int res.1])) (x1 : Int32) (x2 : Int32) (x3 : Int32) (x4 : Int32) (F : PF) (G : PG) (hm : mb_body_60 fu rc x1 x2 x3 x4 F G = some res) {H : Heap} {locs : List Loc} (hw : mMW s A v a F G H locs) {ls : Array Slot} (hl : lv_has ls 5 [(0, .ref (a 212)), (1, .int x1), (2, .int x2), (3, .int x3), (4, .int x4)]) : W p l e R s m args below meth c H locs 0 0 Q (F0 m 60 ls []) := by
  have hx := C.1
  have hb := C.2.1
  unfold mb_body_60 at hm
  refine lv_aload_n hx hb dX12_body_60 rfl (lv_at hl 0 rfl) ?_
  refine lv_aload_n hx hb dX12_body_61 rfl (lv_at hl 0 rfl) ?_
  refine mg_X12_380 C hw dX12_body_62 ?_
  refine lv_iload_n hx hb dX12_body_65 rfl (lv_at hl 1 rfl) ?_
  obtain ⟨⟨r1, F1, G1⟩, hc, hm⟩ := bind_elim hm
  refine mcallV (n := 2) (As := [.int (F 64), .int x1]) (rest := []) C hw (mk_settle l v a _ fu (F 64) x1 F G r1 F1 G1 hc) (mrecv_X12 C hw) mm_351 mm_352 mm_353 mm_27 mm_354 (by decide +kernel) rfl (by omega) (by omega) hl.1 rfl (Nat.le_of_ble_eq_true rfl) dX12_body_66 (fun H locs hw => ?_)
  exact mw_body_69 fu rc hr C hret x2 x3 x4 F1 G1 hm hw (lv_sub hl [0, 2, 3, 4] rfl)
theorem mw_body_55 (fu : Nat) (rc : RC) {dd : Nat} (hr : mH2 l v a rc dd) {res : Int32 × PF × PG} (C : mMC p R s m args c A v RX12 cX12_body 5 (dd + 1 + 307) (60 * (dd + 1) + 18156)) (hret : ∀ (H1 : Heap) (locs1 : List Loc) (ls1 : Array Slot) (pc : Nat), mMW s A v a res.2.1 res.2.2 H1 locs1 → narrow .boolean (.int res.1) = .int res.1 → decode cX12_body pc = .ok (.ireturn, 1) → W p l e R s m args below meth c H1 locs1 0 0 Q (F0 m pc ls1 [.int res.1])) (x1 : Int32) (x2 : Int32) (x3 : Int32) (x4 : Int32) (F : PF) (G : PG) (hm : mb_body_55 fu rc x1 x2 x3 x4 F G = some res) {H : Heap} {locs : List Loc} (hw : mMW s A v a F G H locs) {ls : Array Slot} (hl : lv_has ls 5 [(0, .ref (a 212)), (1, .int x1), (2, .int x2), (3, .int x3), (4, .int x4)]) : W p l e R s m args below meth c H locs 0 0 Q (F0 m 55 ls []) := by
  have hx := C.1
  have hb := C.2.1
  unfold mb_body_55 at hm
  refine lv_iload_n hx hb dX12_body_55 rfl (lv_at hl 1 rfl) ?_
  refine lv_iconst (v := (-1)) hx hb dX12_body_56 (by decide) ?_
  refine lv_icmp_eq (tgt := 77) hx hb dX12_body_57 (by decide) (fun c_1 => ?_) (fun c_1 => ?_)
  · have hm := (if_pos c_1).symm.trans hm
    exact mw_body_77 fu rc hr C hret x2 x3 x4 F G hm hw (lv_sub hl [0, 2, 3, 4] rfl)
  · have hm := (if_neg c_1).symm.trans hm
    exact mw_body_60 fu rc hr C hret x1 x2 x3 x4 F G hm hw (lv_sub hl [0, 1, 2, 3, 4] rfl)
theorem mw_body_43 (fu : Nat) (rc : RC) {dd : Nat} (hr : mH2 l v a rc dd) {res : Int32 × PF × PG} (C : mMC p R s m args c A v RX12 cX12_body 5 (dd + 1 + 307) (60 * (dd + 1) + 18156)) (hret : ∀ (H1 : Heap) (locs1 : List Loc) (ls1 : Array Slot) (pc : Nat), mMW s A v a res.2.1 res.2.2 H1 locs1 → narrow .boolean (.int res.1) = .int res.1 → decode cX12_body pc = .ok (.ireturn, 1) → W p l e R s m args below meth c H1 locs1 0 0 Q (F0 m pc ls1 [.int res.1])) (x1 : Int32) (x2 : Int32) (x3 : Int32) (z0 : Int32) (F : PF) (G : PG) (hm : mb_body_43 fu rc x1 x2 x3 z0 F G = some res) {H : Heap} {locs : List Loc} (hw : mMW s A v a F G H locs) {ls : Array Slot} (hl : lv_has ls 5 [(0, .ref (a 212)), (1, .int x1), (2, .int x2), (3, .int x3)]) : W p l e R s m args below meth c H locs 0 0 Q (F0 m 43 ls [.int z0]) := by
  have hx := C.1
  have hb := C.2.1
  unfold mb_body_43 at hm
  refine lv_istore (lv' := [(4, .int z0), (0, .ref (a 212)), (1, .int x1), (2, .int x2), (3, .int x3)]) hx hb dX12_body_43 hl (by decide) rfl (fun ls hl => ?_)
  refine lv_aload_n hx hb dX12_body_45 rfl (lv_at hl 1 rfl) ?_
  refine lv_dup hx hb dX12_body_46 rfl ?_
  refine mg_X12_389 C hw dX12_body_47 ?_
  refine lv_iconst (v := 1) hx hb dX12_body_50 (by decide) ?_
  refine lv_isub hx hb dX12_body_51 ?_
  refine mp_X12_389 C hw dX12_body_52 (fun H locs hw => ?_)
  exact mw_body_55 fu rc hr C hret x1 x2 x3 z0 (fup F 51 ((F 51) - (1 : Int32))) G hm hw (lv_sub hl [1, 2, 3, 4, 0] rfl)
theorem mw_body_38 (fu : Nat) (rc : RC) {dd : Nat} (hr : mH2 l v a rc dd) {res : Int32 × PF × PG} (C : mMC p R s m args c A v RX12 cX12_body 5 (dd + 1 + 307) (60 * (dd + 1) + 18156)) (hret : ∀ (H1 : Heap) (locs1 : List Loc) (ls1 : Array Slot) (pc : Nat), mMW s A v a res.2.1 res.2.2 H1 locs1 → narrow .boolean (.int res.1) = .int res.1 → decode cX12_body pc = .ok (.ireturn, 1) → W p l e R s m args below meth c H1 locs1 0 0 Q (F0 m pc ls1 [.int res.1])) (x1 : Int32) (x2 : Int32) (x3 : Int32) (z0 : Int32) (F : PF) (G : PG) (hm : mb_body_38 fu rc x1 x2 x3 z0 F G = some res) {H : Heap} {locs : List Loc} (hw : mMW s A v a F G H locs) {ls : Array Slot} (hl : lv_has ls 5 [(0, .ref (a 212)), (1, .int x1), (2, .int x2), (3, .int x3)]) : W p l e R s m args below meth c H locs 0 0 Q (F0 m 38 ls [.int z0]) := by
  have hx := C.1
  have hb := C.2.1
  unfold mb_body_38 at hm
  refine lv_pop hx hb dX12_body_38 rfl ?_
  refine lv_aload_n hx hb dX12_body_39 rfl (lv_at hl 0 rfl) ?_
  obtain ⟨⟨r1, F1, G1⟩, hc, hm⟩ := bind_elim hm
  refine mcallI (n := 0) (As := []) (rest := []) C hw (hr.2.2.2.2.2.1 _ F G r1 F1 G1 hc) (mrecv_X12 C hw) mm_348 mm_349 mm_350 mm_27 mm_381 (by decide +kernel) rfl (by omega) (by omega) hl.1 rfl (Nat.le_of_ble_eq_true rfl) dX12_body_40 (fun H locs hw => ?_)
  exact mw_body_43 fu rc hr C hret x1 x2 x3 r1 F1 G1 hm hw (lv_sub hl [0, 1, 2, 3] rfl)
theorem mw_body_30 (fu : Nat) (rc : RC) {dd : Nat} (hr : mH2 l v a rc dd) {res : Int32 × PF × PG} (C : mMC p R s m args c A v RX12 cX12_body 5 (dd + 1 + 307) (60 * (dd + 1) + 18156)) (hret : ∀ (H1 : Heap) (locs1 : List Loc) (ls1 : Array Slot) (pc : Nat), mMW s A v a res.2.1 res.2.2 H1 locs1 → narrow .boolean (.int res.1) = .int res.1 → decode cX12_body pc = .ok (.ireturn, 1) → W p l e R s m args below meth c H1 locs1 0 0 Q (F0 m pc ls1 [.int res.1])) (x1 : Int32) (x2 : Int32) (x3 : Int32) (F : PF) (G : PG) (hm : mb_body_30 fu rc x1 x2 x3 F G = some res) {H : Heap} {locs : List Loc} (hw : mMW s A v a F G H locs) {ls : Array Slot} (hl : lv_has ls 5 [(0, .ref (a 212)), (1, .int x1), (2, .int x2), (3, .int x3)]) : W p l e R s m args below meth c H locs 0 0 Q (F0 m 30 ls []) := by
  have hx := C.1
  have hb := C.2.1
  unfold mb_body_30 at hm
  refine lv_aload_n hx hb dX12_body_30 rfl (lv_at hl 0 rfl) ?_
  refine lv_bipush (v := 15) hx hb dX12_body_31 (by decide) ?_
  refine lv_iconst (v := 0) hx hb dX12_body_33 (by decide) ?_
  refine lv_iconst (v := 0) hx hb dX12_body_34 (by decide) ?_
  obtain ⟨⟨r1, F1, G1⟩, hc, hm⟩ := bind_elim hm
  refine mcallI (n := 3) (As := [.int 15, .int 0, .int 0]) (rest := []) C hw (mk_step l v a _ fu 15 0 0 F G r1 F1 G1 hc) (mrecv_X12 C hw) mm_203 mm_204 mm_205 mm_27 mm_206 (by decide +kernel) rfl (by omega) (by omega) hl.1 rfl (Nat.le_of_ble_eq_true rfl) dX12_body_35 (fun H locs hw => ?_)
  exact mw_body_38 fu rc hr C hret x1 x2 x3 r1 F1 G1 hm hw (lv_sub hl [0, 1, 2, 3] rfl)
theorem mw_body_20 (fu : Nat) (rc : RC) {dd : Nat} (hr : mH2 l v a rc dd) {res : Int32 × PF × PG} (C : mMC p R s m args c A v RX12 cX12_body 5 (dd + 1 + 307) (60 * (dd + 1) + 18156)) (hret : ∀ (H1 : Heap) (locs1 : List Loc) (ls1 : Array Slot) (pc : Nat), mMW s A v a res.2.1 res.2.2 H1 locs1 → narrow .boolean (.int res.1) = .int res.1 → decode cX12_body pc = .ok (.ireturn, 1) → W p l e R s m args below meth c H1 locs1 0 0 Q (F0 m pc ls1 [.int res.1])) (x1 : Int32) (x2 : Int32) (x3 : Int32) (F : PF) (G : PG) (hm : mb_body_20 fu rc x1 x2 x3 F G = some res) {H : Heap} {locs : List Loc} (hw : mMW s A v a F G H locs) {ls : Array Slot} (hl : lv_has ls 5 [(0, .ref (a 212)), (1, .int x1), (2, .int x2), (3, .int x3)]) : W p l e R s m args below meth c H locs 0 0 Q (F0 m 20 ls []) := by
  have hx := C.1
  have hb := C.2.1
  unfold mb_body_20 at hm
  refine lv_aload_n hx hb dX12_body_20 rfl (lv_at hl 0 rfl) ?_
  refine lv_dup hx hb dX12_body_21 rfl ?_
  refine mg_X12_389 C hw dX12_body_22 ?_
  refine lv_iconst (v := 1) hx hb dX12_body_25 (by decide) ?_
  refine lv_iadd hx hb dX12_body_26 ?_
  refine mp_X12_389 C hw dX12_body_27 (fun H locs hw => ?_)
  exact mw_body_30 fu rc hr C hret x1 x2 x3 (fup F 51 ((F 51) + (1 : Int32))) G hm hw (lv_sub hl [0, 1, 2, 3] rfl)
theorem mw_body_15 (fu : Nat) (rc : RC) {dd : Nat} (hr : mH2 l v a rc dd) {res : Int32 × PF × PG} (C : mMC p R s m args c A v RX12 cX12_body 5 (dd + 1 + 307) (60 * (dd + 1) + 18156)) (hret : ∀ (H1 : Heap) (locs1 : List Loc) (ls1 : Array Slot) (pc : Nat), mMW s A v a res.2.1 res.2.2 H1 locs1 → narrow .boolean (.int res.1) = .int res.1 → decode cX12_body pc = .ok (.ireturn, 1) → W p l e R s m args below meth c H1 locs1 0 0 Q (F0 m pc ls1 [.int res.1])) (x1 : Int32) (x2 : Int32) (x3 : Int32) (F : PF) (G : PG) (hm : mb_body_15 fu rc x1 x2 x3 F G = some res) {H : Heap} {locs : List Loc} (hw : mMW s A v a F G H locs) {ls : Array Slot} (hl : lv_has ls 5 [(0, .ref (a 212)), (1, .int x1), (2, .int x2), (3, .int x3)]) : W p l e R s m args below meth c H locs 0 0 Q (F0 m 15 ls []) := by
  have hx := C.1
  have hb := C.2.1
  unfold mb_body_15 at hm
  refine lv_aload_n hx hb dX12_body_15 rfl (lv_at hl 0 rfl) ?_
  refine lv_iconst (v := (-1)) hx hb dX12_body_16 (by decide) ?_
  refine mp_X12_380 C hw dX12_body_17 (fun H locs hw => ?_)
  exact mw_body_20 fu rc hr C hret x1 x2 x3 (fup F 64 (-1 : Int32)) G hm hw (lv_sub hl [0, 1, 2, 3] rfl)
theorem mw_body_0 (fu : Nat) (rc : RC) {dd : Nat} (hr : mH2 l v a rc dd) {res : Int32 × PF × PG} (C : mMC p R s m args c A v RX12 cX12_body 5 (dd + 1 + 307) (60 * (dd + 1) + 18156)) (hret : ∀ (H1 : Heap) (locs1 : List Loc) (ls1 : Array Slot) (pc : Nat), mMW s A v a res.2.1 res.2.2 H1 locs1 → narrow .boolean (.int res.1) = .int res.1 → decode cX12_body pc = .ok (.ireturn, 1) → W p l e R s m args below meth c H1 locs1 0 0 Q (F0 m pc ls1 [.int res.1])) (x1 : Int32) (F : PF) (G : PG) (hm : mb_body_0 fu rc x1 F G = some res) {H : Heap} {locs : List Loc} (hw : mMW s A v a F G H locs) {ls : Array Slot} (hl : lv_has ls 5 [(0, .ref (a 212)), (1, .int x1)]) : W p l e R s m args below meth c H locs 0 0 Q (F0 m 0 ls []) := by
  have hx := C.1
  have hb := C.2.1
  unfold mb_body_0 at hm
  refine lv_aload_n hx hb dX12_body_0 rfl (lv_at hl 0 rfl) ?_
  refine mg_X12_377 C hw dX12_body_1 ?_
  refine lv_istore_n (lv' := [(2, .int (F 63)), (0, .ref (a 212)), (1, .int x1)]) hx hb dX12_body_4 rfl hl (by decide) rfl (fun ls hl => ?_)
  refine lv_aload_n hx hb dX12_body_5 rfl (lv_at hl 1 rfl) ?_
  refine mg_X12_380 C hw dX12_body_6 ?_
  refine lv_istore_n (lv' := [(3, .int (F 64)), (2, .int (F 63)), (0, .ref (a 212)), (1, .int x1)]) hx hb dX12_body_9 rfl hl (by decide) rfl (fun ls hl => ?_)
  refine lv_aload_n hx hb dX12_body_10 rfl (lv_at hl 2 rfl) ?_
  refine lv_iconst (v := (-1)) hx hb dX12_body_11 (by decide) ?_
  refine mp_X12_377 C hw dX12_body_12 (fun H locs hw => ?_)
  exact mw_body_15 fu rc hr C hret x1 (F 63) (F 64) (fup F 63 (-1 : Int32)) G hm hw (lv_sub hl [2, 3, 1, 0] rfl)
theorem mq_body (l : Launch) (v : EV) (a : Nat → Nat) (sz : Nat) (fu : Nat) (rc : RC) {dd : Nat} (hr : mH2 l v a rc dd) (x1 : Int32) (F : PF) (G : PG) (r : Int32) (F1 : PF) (G1 : PG) (hm : mh_body fu rc x1 F G = some (r, F1, G1)) : mMI l yX12_body cX12_body 5 (some .boolean) (dd + 1 + 307) (60 * (dd + 1) + 18156) v a sz [.ref (a 212), .int x1] F G r F1 G1 := mMI.of (ty := .boolean) (by decide) rfl (Nat.le_of_ble_eq_true rfl) (fun p e R s m args below meth c Q A H locs ls C hw hl hret => mw_body_0 fu rc hr (res := (r, F1, G1)) C hret x1 F G hm hw hl)
end MB
